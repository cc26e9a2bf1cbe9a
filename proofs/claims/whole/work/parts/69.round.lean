/-! rounds of UNDOINGS -/
def sw_ro (un : Nat → Int32) (least : Nat) : Nat → Nat → Nat → Int32 × Int32 → Int32 × Int32
  | 0, _, _, a => a
  | f + 1, c, m, a => ax_it (fun v a => if ax_bt (un c) v then (if v = least then (a.1 + 1, a.2 ||| nI m) else if m.testBit v then a else sw_ro un least f v (m ||| 2 ^ v) a) else a) (6 - least) least a
def sw_us (m : Nat) : Nat := ax_it (fun v a => if m.testBit v then a else a + 1) 6 0 0
theorem sw_or64 : ∀ m, m < 64 → ∀ v, v < 6 → nI m ||| (1 : Int32) <<< (nI v &&& 31) = nI (m ||| 2 ^ v) ∧ (m ||| 2 ^ v) < 64 := by decide +kernel
theorem sw_us64 : ∀ m, m < 64 → ∀ v, v < 6 → m.testBit v = false → sw_us (m ||| 2 ^ v) + 1 = sw_us m := by decide +kernel
theorem sw_us1 : ∀ v, v < 6 → sw_us (2 ^ v) < 6 ∧ 2 ^ v < 64 := by decide +kernel
theorem sw_ro_add {un : Nat → Int32} {least : Nat} : ∀ (f c m : Nat) (k : Int32) (a : Int32 × Int32), sw_ro un least f c m (k + a.1, a.2) = (k + (sw_ro un least f c m a).1, (sw_ro un least f c m a).2)
  | 0, c, m, k, a => rfl
  | f + 1, c, m, k, a => by
    have ih := sw_ro_add (un := un) (least := least) f
    have step : ∀ v (a : Int32 × Int32), (if ax_bt (un c) v then (if v = least then ((k + a.1) + 1, a.2 ||| nI m) else if m.testBit v then (k + a.1, a.2) else sw_ro un least f v (m ||| 2 ^ v) (k + a.1, a.2)) else (k + a.1, a.2)) = (k + (if ax_bt (un c) v then (if v = least then (a.1 + 1, a.2 ||| nI m) else if m.testBit v then a else sw_ro un least f v (m ||| 2 ^ v) a) else a).1, (if ax_bt (un c) v then (if v = least then (a.1 + 1, a.2 ||| nI m) else if m.testBit v then a else sw_ro un least f v (m ||| 2 ^ v) a) else a).2) := by
      intro v a
      by_cases h1 : ax_bt (un c) v = true
      · rw [if_pos h1, if_pos h1]
        by_cases h2 : v = least
        · rw [if_pos h2, if_pos h2, Int32.add_assoc]
        · rw [if_neg h2, if_neg h2]
          by_cases h3 : m.testBit v = true
          · rw [if_pos h3, if_pos h3]
          · rw [if_neg h3, if_neg h3]; exact ih v _ k a
      · rw [if_neg h1, if_neg h1]
    have key : ∀ n w (a : Int32 × Int32), ax_it (fun v a => if ax_bt (un c) v then (if v = least then (a.1 + 1, a.2 ||| nI m) else if m.testBit v then a else sw_ro un least f v (m ||| 2 ^ v) a) else a) n w (k + a.1, a.2) = (k + (ax_it (fun v a => if ax_bt (un c) v then (if v = least then (a.1 + 1, a.2 ||| nI m) else if m.testBit v then a else sw_ro un least f v (m ||| 2 ^ v) a) else a) n w a).1, (ax_it (fun v a => if ax_bt (un c) v then (if v = least then (a.1 + 1, a.2 ||| nI m) else if m.testBit v then a else sw_ro un least f v (m ||| 2 ^ v) a) else a) n w a).2) := by
      intro n
      induction n with
      | zero => intro w a; rfl
      | succ n ihn =>
        intro w a
        show ax_it _ n (w + 1) (if ax_bt (un c) w then (if w = least then ((k + a.1) + 1, a.2 ||| nI m) else if m.testBit w then (k + a.1, a.2) else sw_ro un least f w (m ||| 2 ^ w) (k + a.1, a.2)) else (k + a.1, a.2)) = _
        rw [step w a]
        exact ihn (w + 1) _
    exact key (6 - least) least a
theorem cl_closeFrom {least : Nat} {un : Nat → Int32} (hl : least < 6) {L : ax_J} : ∀ (f : Nat) {d c m : Nat} {I : ax_I} {K : Int32 → ax_I → ax_J → Prop}, c < 6 → m < 64 → sw_us m < f → (∀ w, w < 6 → I 117 w = un w) → (∀ I', I' 116 1 = (sw_ro un least f c m (0, I 116 1)).2 → (∀ a, ¬ a = 116 → I' a = I a) → K (sw_ro un least f c m (0, I 116 1)).1 I' L) → ax_CI (d + f) 2 [ax_vr 0 0 116, ax_vi (nI least), ax_vi (nI c), ax_vi (nI m)] I L K := by
  intro f
  induction f with
  | zero => intro d c m I K hc hm hu; omega
  | succ f ih0 =>
    intro d c m I K hc hm hu h117 hK
    apply vc_X0_closeFrom
    suffices ∀ (n v : Nat) (a : Int32 × Int32) (I1 : ax_I), v + n = 6 → least ≤ v → I1 116 1 = a.2 → (∀ b, ¬ b = 116 → I1 b = I b) → (∀ I', I' 116 1 = (ax_it (fun v a => if ax_bt (un c) v then (if v = least then (a.1 + 1, a.2 ||| nI m) else if m.testBit v then a else sw_ro un least f v (m ||| 2 ^ v) a) else a) n v a).2 → (∀ a, ¬ a = 116 → I' a = I a) → K (ax_it (fun v a => if ax_bt (un c) v then (if v = least then (a.1 + 1, a.2 ||| nI m) else if m.testBit v then a else sw_ro un least f v (m ||| 2 ^ v) a) else a) n v a).1 I' L) → ax_AK ((d + f)) 2 (6, [some (ax_vr 0 0 116), some (ax_vi (nI least)), some (ax_vi (nI c)), some (ax_vi (nI m)), some (ax_vi (a.1)), some (ax_vi (nI v))], [], ax_mm I1 L) (ax_ki K) from
      this (6 - least) least (0, I 116 1) I (by omega) (Nat.le_refl _) rfl (fun _ _ => rfl) hK
    intro n
    induction n with
    | zero =>
      intro v a I1 hv hlv h1 f1 hK
      apply vc_X0_closeFrom_6
      simp (disch := omega) only [Bool.not_eq_false, Bool.not_eq_true, decide_eq_true_eq, decide_eq_false_iff_not, Bool.not_eq_true', Bool.not_eq_false', ax_lle, ax_llt, ax_lel, ax_ltl, ax_leq, ax_eql, ax_clampl, ax_inb_iff, nI_clamp, nI_1, nI_leI, nI_ltI, nI_eq, ax_b0, ax_b1, ax_bitb, ax_ui_eq, ax_ui_ne, true_and, and_true]
      exact ⟨fun _ => hK I1 h1 f1, fun q => by omega⟩
    | succ n ih =>
      intro v a I1 hv hlv h1 f1 hK
      have e117 : I1 117 c = un c := by rw [f1 117 (by omega)]; exact h117 c hc
      have hbt := sw_bt64 m hm v (by omega)
      have hor := sw_or64 m hm v (by omega)
      replace hK : ∀ I', I' 116 1 = (ax_it (fun v a => if ax_bt (un c) v then (if v = least then (a.1 + 1, a.2 ||| nI m) else if m.testBit v then a else sw_ro un least f v (m ||| 2 ^ v) a) else a) n (v + 1) (if ax_bt (un c) v then (if v = least then (a.1 + 1, a.2 ||| nI m) else if m.testBit v then a else sw_ro un least f v (m ||| 2 ^ v) a) else a)).2 → (∀ a, ¬ a = 116 → I' a = I a) → K (ax_it (fun v a => if ax_bt (un c) v then (if v = least then (a.1 + 1, a.2 ||| nI m) else if m.testBit v then a else sw_ro un least f v (m ||| 2 ^ v) a) else a) n (v + 1) (if ax_bt (un c) v then (if v = least then (a.1 + 1, a.2 ||| nI m) else if m.testBit v then a else sw_ro un least f v (m ||| 2 ^ v) a) else a)).1 I' L := hK
      apply vc_X0_closeFrom_6
      rw [hor.1, h1]
      simp (disch := omega) only [Bool.not_eq_false, Bool.not_eq_true, decide_eq_true_eq, decide_eq_false_iff_not, Bool.not_eq_true', Bool.not_eq_false', ax_lle, ax_llt, ax_lel, ax_ltl, ax_leq, ax_eql, ax_clampl, ax_inb_iff, nI_clamp, nI_1, nI_leI, nI_ltI, nI_eq, ax_b0, ax_b1, ax_bitb, ax_ui_eq, ax_ui_ne, true_and, and_true, e117, ax_bt_ask0, hbt]
      refine ⟨fun q => by omega, fun _ => ⟨hc, fun b => ⟨fun e => ⟨fun g => ?_, fun g => ?_⟩, fun e => ?_⟩, fun b => ?_⟩⟩
      · have b : ax_bt (un c) v = true := by simpa using b
        have g : m.testBit v = true := by simpa using g
        rw [if_pos b, if_neg e, if_pos g] at hK
        exact ih (v + 1) a I1 (by omega) (by omega) h1 f1 hK
      · have b : ax_bt (un c) v = true := by simpa using b
        rw [if_pos b, if_neg e, if_neg (by rw [g]; decide)] at hK
        have hus := sw_us64 m hm v (by omega) g
        refine ih0 (by omega) hor.2 (by omega) (fun w hw => by rw [f1 117 (by omega)]; exact h117 w hw) (fun I2 e2 f2 => ?_)
        rw [h1] at e2 ⊢
        have add := sw_ro_add (un := un) (least := least) f v (m ||| 2 ^ v) a.1 (0, a.2)
        rw [Int32.add_zero] at add
        have add : sw_ro un least f v (m ||| 2 ^ v) a = (a.1 + (sw_ro un least f v (m ||| 2 ^ v) (0, a.2)).1, (sw_ro un least f v (m ||| 2 ^ v) (0, a.2)).2) := add
        rw [add] at hK
        exact ih (v + 1) (a.1 + (sw_ro un least f v (m ||| 2 ^ v) (0, a.2)).1, (sw_ro un least f v (m ||| 2 ^ v) (0, a.2)).2) I2 (by omega) (by omega) e2 (fun b hb => (f2 b hb).trans (f1 b hb)) hK
      · have b : ax_bt (un c) v = true := by simpa using b
        rw [if_pos b, if_pos e] at hK
        exact ih (v + 1) (a.1 + 1, a.2 ||| nI m) _ (by omega) (by omega) ax_ui_eq (fun b hb => by rw [ax_ui_row hb]; exact f1 b hb) hK
      · rw [if_neg (by rw [b]; decide)] at hK
        exact ih (v + 1) a I1 (by omega) (by omega) h1 f1 hK
theorem rf_layRounds {least N T : Nat} {kd : Nat → Nat} {tl un : Nat → Int32} {W : Nat → Nat → Nat} (hg : sw_TG N T kd tl un) (hl : least < T) {L : ax_J} : ∀ (f : Nat) {d c m : Nat} {a : Int32 × Int32} {I : ax_I} {K : ax_I → ax_J → Prop}, c < 6 → m < 64 → sw_us m < f → sw_RT I N T kd tl un W → I 184 41 = a.1 → I 184 42 = a.2 → (∀ I', I' 184 41 = (sw_ro un least f c m a).1 → I' 184 42 = (sw_ro un least f c m a).2 → (∀ a, ¬ a = 184 → I' a = I a) → (∀ b, ¬ b = 41 → ¬ b = 42 → I' 184 b = I 184 b) → K I' L) → ax_CV (d + f + 1) 227 [ax_vr 9 0 184, ax_vi (nI least), ax_vi (nI c), ax_vi (nI m)] I L K := by
  have hT := hg.2.1
  intro f
  induction f with
  | zero => intro d c m a I K hc hm hu; omega
  | succ f ih0 =>
    intro d c m a I K hc hm hu hR h41 h42 hK
    have eT : ∀ a : Int32 × Int32, sw_ro un least (f + 1) c m a = ax_it (fun v a => if ax_bt (un c) v then (if v = least then (a.1 + 1, a.2 ||| nI m) else if m.testBit v then a else sw_ro un least f v (m ||| 2 ^ v) a) else a) (T - least) least a := by
      intro a
      show ax_it _ (6 - least) least a = _
      rw [show 6 - least = (T - least) + (6 - T) by omega, ax_it_add]
      refine ax_it_id _ _ _ (fun i a h1 h2 => ?_)
      rw [if_neg]
      intro z
      have := hg.2.2.2.2.2.1 c hc i (by omega) z
      omega
    rw [eT a] at hK
    apply vc_X9_layRounds
    suffices ∀ (n v : Nat) (a : Int32 × Int32) (I1 : ax_I), v + n = T → least ≤ v → I1 184 41 = a.1 → I1 184 42 = a.2 → (∀ b, ¬ b = 184 → I1 b = I b) → (∀ b, ¬ b = 41 → ¬ b = 42 → I1 184 b = I 184 b) → (∀ I', I' 184 41 = (ax_it (fun v a => if ax_bt (un c) v then (if v = least then (a.1 + 1, a.2 ||| nI m) else if m.testBit v then a else sw_ro un least f v (m ||| 2 ^ v) a) else a) n v a).1 → I' 184 42 = (ax_it (fun v a => if ax_bt (un c) v then (if v = least then (a.1 + 1, a.2 ||| nI m) else if m.testBit v then a else sw_ro un least f v (m ||| 2 ^ v) a) else a) n v a).2 → (∀ a, ¬ a = 184 → I' a = I a) → (∀ b, ¬ b = 41 → ¬ b = 42 → I' 184 b = I 184 b) → K I' L) → ax_AK ((d + f + 1)) 227 (3, [some (ax_vr 9 0 184), some (ax_vi (nI least)), some (ax_vi (nI c)), some (ax_vi (nI m)), some (ax_vi (nI v))], [], ax_mm I1 L) (ax_kv K) from
      this (T - least) least a I (by omega) (Nat.le_refl _) h41 h42 (fun _ _ => rfl) (fun _ _ _ => rfl) hK
    clear hK h41 h42 a
    intro n
    induction n with
    | zero =>
      intro v a I1 hv hlv h1 h2 f1 f2 hK
      apply vc_X9_layRounds_3
      rw [f2 11 (by omega) (by omega), hR.2.1]
      simp (disch := omega) only [Bool.not_eq_false, Bool.not_eq_true, decide_eq_true_eq, decide_eq_false_iff_not, Bool.not_eq_true', Bool.not_eq_false', ax_lle, ax_llt, ax_lel, ax_ltl, ax_leq, ax_eql, ax_clampl, ax_inb_iff, nI_clamp, nI_1, nI_leI, nI_ltI, nI_eq, ax_b0, ax_b1, ax_bitb, ax_ui_eq, ax_ui_ne, true_and, and_true]
      exact ⟨fun _ => hK I1 h1 h2 f1 f2, fun q => by omega⟩
    | succ n ih =>
      intro v a I1 hv hlv h1 h2 f1 f2 hK
      have hbt := sw_bt64 m hm v (by omega)
      have hor := sw_or64 m hm v (by omega)
      have e194 : I1 194 c = un c := by rw [f1 194 (by omega)]; exact hR.2.2.2.2.2 c hc
      have hR1 : sw_RT I1 N T kd tl un W := hR.frame (f2 _ (by omega) (by omega)) (f2 _ (by omega) (by omega)) (f1 _ (by omega)) (f1 _ (by omega)) (f1 _ (by omega)) (f1 _ (by omega))
      replace hK : ∀ I', I' 184 41 = (ax_it (fun v a => if ax_bt (un c) v then (if v = least then (a.1 + 1, a.2 ||| nI m) else if m.testBit v then a else sw_ro un least f v (m ||| 2 ^ v) a) else a) n (v + 1) (if ax_bt (un c) v then (if v = least then (a.1 + 1, a.2 ||| nI m) else if m.testBit v then a else sw_ro un least f v (m ||| 2 ^ v) a) else a)).1 → I' 184 42 = (ax_it (fun v a => if ax_bt (un c) v then (if v = least then (a.1 + 1, a.2 ||| nI m) else if m.testBit v then a else sw_ro un least f v (m ||| 2 ^ v) a) else a) n (v + 1) (if ax_bt (un c) v then (if v = least then (a.1 + 1, a.2 ||| nI m) else if m.testBit v then a else sw_ro un least f v (m ||| 2 ^ v) a) else a)).2 → (∀ a, ¬ a = 184 → I' a = I a) → (∀ b, ¬ b = 41 → ¬ b = 42 → I' 184 b = I 184 b) → K I' L := hK
      apply vc_X9_layRounds_3
      rw [hR1.2.1, hor.1, nI_clamp (by omega), e194]
      refine ⟨fun q => ?_, fun _ => ⟨ax_inb_nI hc (by omega), ?_⟩⟩
      · have q := of_decide_eq_true q
        rw [nI_leI (by omega) (by omega)] at q; omega
      refine rf_has (by omega) ?_
      simp (disch := omega) only [Bool.not_eq_false, Bool.not_eq_true, decide_eq_true_eq, decide_eq_false_iff_not, Bool.not_eq_true', Bool.not_eq_false', ax_lle, ax_llt, ax_lel, ax_ltl, ax_leq, ax_eql, ax_clampl, ax_inb_iff, nI_clamp, nI_1, nI_leI, nI_ltI, nI_eq, ax_b0, ax_b1, ax_bitb, ax_ui_eq, ax_ui_ne, true_and, and_true]
      refine ⟨fun b => ?_, fun b => ⟨fun e => ?_, fun e => ?_⟩⟩
      · rw [if_neg (by rw [b]; decide)] at hK
        exact ih (v + 1) a I1 (by omega) (by omega) h1 h2 f1 f2 hK
      · have b : ax_bt (un c) v = true := by simpa using b
        refine rf_has (by omega) ?_
        rw [hbt]
        simp (disch := omega) only [Bool.not_eq_false, Bool.not_eq_true, decide_eq_true_eq, decide_eq_false_iff_not, Bool.not_eq_true', Bool.not_eq_false', ax_lle, ax_llt, ax_lel, ax_ltl, ax_leq, ax_eql, ax_clampl, ax_inb_iff, nI_clamp, nI_1, nI_leI, nI_ltI, nI_eq, ax_b0, ax_b1, ax_bitb, ax_ui_eq, ax_ui_ne, true_and, and_true]
        refine ⟨fun g => ?_, fun g => ?_⟩
        · have g : m.testBit v = true := by simpa using g
          rw [if_pos b, if_neg e, if_pos g] at hK
          exact ih (v + 1) a I1 (by omega) (by omega) h1 h2 f1 f2 hK
        · rw [if_pos b, if_neg e, if_neg (by rw [g]; decide)] at hK
          have hus := sw_us64 m hm v (by omega) g
          refine ih0 (a := a) (by omega) hor.2 (by omega) hR1 h1 h2 (fun I2 g1 g2 g3 g4 => ?_)
          exact ih (v + 1) _ I2 (by omega) (by omega) g1 g2 (fun b hb => (g3 b hb).trans (f1 b hb)) (fun b z1 z2 => (g4 b z1 z2).trans (f2 b z1 z2)) hK
      · have b : ax_bt (un c) v = true := by simpa using b
        rw [if_pos b, if_pos e] at hK
        refine ih (v + 1) (a.1 + 1, a.2 ||| nI m) _ (by omega) (by omega) ?_ ?_ ?_ ?_ hK
        · rw [ax_ui_ne (by omega), ax_ui_eq, h1]
        · rw [ax_ui_eq, h2]
        · intro b hb; rw [ax_ui_row hb, ax_ui_row hb]; exact f1 b hb
        · intro b z1 z2; rw [ax_ui_ne (by omega), ax_ui_ne (by omega)]; exact f2 b z1 z2
theorem op_rounds {I : ax_I} {L : ax_J} (h : sw_RR I L) : sw_OP 119 228 [] I L := by
  intro d
  have h0 := h
  obtain ⟨N, T, kd, tl, un, W, es, h1, h2, h3, h4⟩ := h
  have h1' := h1
  obtain ⟨q1, q2, q3, q4, q5, q6, q7, q8, q9, q10⟩ := h1
  have hN := q1.1
  have hT := q1.2.1
  apply vc_X8_rounds
  apply vc_X0_all
  refine ⟨by decide, ?_⟩
  simp (disch := omega) only [Bool.not_eq_false, Bool.not_eq_true, decide_eq_true_eq, decide_eq_false_iff_not, Bool.not_eq_true', Bool.not_eq_false', ax_lle, ax_llt, ax_lel, ax_ltl, ax_leq, ax_eql, ax_clampl, ax_inb_iff, nI_clamp, nI_1, nI_leI, nI_ltI, nI_eq, ax_b0, ax_b1, ax_bitb, ax_ui_eq, ax_ui_ne, true_and, and_true]
  suffices ∀ (n w : Nat) (a : Int32 × Int32) (I1 : ax_I), w + n = T → I1 116 1 = a.2 → (∀ v, v < 6 → I1 117 v = un v) → (∀ b, ¬ b = 116 → ¬ b = 117 → I1 b = I b) → a = ax_it (fun w a => sw_ro un w 6 w (2 ^ w) a) w 0 (0, 0) → ax_AK ((d + 28)) 1 (24, [some (ax_vr 0 0 116), some (ax_vr 7 0 6), some (ax_vi (a.1)), some (ax_vi (nI w))], [], ax_mm I1 L) (ax_ki (fun x3 I1 L2 => ax_CI (d + 30) 228 [ax_vr 9 0 184] (ax_ui I1 3 13 ((((1 : Int32) <<< ((I1 6 1) &&& 31)) - 1) &&& ((I1 116 1) ^^^ (-1)))) L2 (fun b I2 L2 => x3 = b ∧ sw_RR I2 L2))) by
    refine this T 0 (0, 0) _ (by omega) ax_ui_eq (fun v hv => ?_) (fun b z1 z2 => ?_) rfl
    · rw [ax_ui_ne (by omega), ax_uc_z hv]; exact q5.2.2.2.2 v hv
    · rw [ax_ui_row z1, ax_uc_row z2]
  intro n
  induction n with
  | succ n ih =>
    intro w a I1 hw g1 g2 g3 ha
    apply vc_X0_all_24
    rw [g3 6 (by omega) (by omega), q5.2.1, sw_p2 w (by omega)]
    simp (disch := omega) only [Bool.not_eq_false, Bool.not_eq_true, decide_eq_true_eq, decide_eq_false_iff_not, Bool.not_eq_true', Bool.not_eq_false', ax_lle, ax_llt, ax_lel, ax_ltl, ax_leq, ax_eql, ax_clampl, ax_inb_iff, nI_clamp, nI_1, nI_leI, nI_ltI, nI_eq, ax_b0, ax_b1, ax_bitb, ax_ui_eq, ax_ui_ne, true_and, and_true]
    refine ⟨fun q => by omega, fun _ => ?_⟩
    have hu := sw_us1 w (by omega)
    refine cl_closeFrom (d := d + 22) (by omega) 6 (by omega) hu.2 hu.1 g2 (fun I2 e2 f2 => ?_)
    rw [g1] at e2 ⊢
    have add := sw_ro_add (un := un) (least := w) 6 w (2 ^ w) a.1 (0, a.2)
    rw [Int32.add_zero] at add
    refine ih (w + 1) (a.1 + (sw_ro un w 6 w (2 ^ w) (0, a.2)).1, (sw_ro un w 6 w (2 ^ w) (0, a.2)).2) I2 (by omega) e2 (fun v hv => by rw [f2 117 (by omega)]; exact g2 v hv) (fun b z1 z2 => (f2 b z1).trans (g3 b z1 z2)) ?_
    rw [ax_it_succ, Nat.zero_add, ← ha]
    exact add.symm
  | zero =>
    intro w a I1 hw g1 g2 g3 ha
    have hw : w = T := by omega
    subst hw
    apply vc_X0_all_24
    rw [g3 6 (by omega) (by omega), q5.2.1, g1]
    simp (disch := omega) only [Bool.not_eq_false, Bool.not_eq_true, decide_eq_true_eq, decide_eq_false_iff_not, Bool.not_eq_true', Bool.not_eq_false', ax_lle, ax_llt, ax_lel, ax_ltl, ax_leq, ax_eql, ax_clampl, ax_inb_iff, nI_clamp, nI_1, nI_leI, nI_ltI, nI_eq, ax_b0, ax_b1, ax_bitb, ax_ui_eq, ax_ui_ne, true_and, and_true]
    refine ⟨fun _ => ?_, fun q => by omega⟩
    generalize hv : ((1 : Int32) <<< (nI w &&& 31) - 1) &&& (a.2 ^^^ (-1)) = V
    have fc : ∀ b, ¬ b = 3 → ¬ b = 116 → ¬ b = 117 → ax_ui I1 3 13 V b = I b := fun b z1 z2 z3 => by rw [ax_ui_row z1, g3 b z2 z3]
    have hRT : sw_RT (ax_ui I1 3 13 V) N w kd tl un W := q7.frame (by rw [fc _ (by omega) (by omega) (by omega)]) (by rw [fc _ (by omega) (by omega) (by omega)]) (fc _ (by omega) (by omega) (by omega)) (fc _ (by omega) (by omega) (by omega)) (fc _ (by omega) (by omega) (by omega)) (fc _ (by omega) (by omega) (by omega))
    apply vc_X9_rounds
    suffices ∀ (n v : Nat) (b : Int32 × Int32) (I2 : ax_I), v + n = w → I2 184 41 = b.1 → I2 184 42 = b.2 → (∀ b, ¬ b = 184 → I2 b = ax_ui I1 3 13 V b) → (∀ b, ¬ b = 41 → ¬ b = 42 → I2 184 b = ax_ui I1 3 13 V 184 b) → b = ax_it (fun w a => sw_ro un w 6 w (2 ^ w) a) v 0 (0, 0) → ax_AK ((d + 29)) 228 (12, [some (ax_vr 9 0 184), some (ax_vi (nI v))], [], ax_mm I2 L) (ax_ki (fun b I2 L2 => a.1 = b ∧ sw_RR I2 L2)) by
      refine this w 0 (0, 0) _ (by omega) ?_ ax_ui_eq (fun b z1 => ?_) (fun b z1 z2 => ?_) rfl
      · rw [ax_ui_ne (by omega), ax_ui_eq]
      · rw [ax_ui_row z1, ax_ui_row z1]
      · rw [ax_ui_ne (by omega), ax_ui_ne (by omega)]
    intro n
    induction n with
    | succ n ih =>
      intro v b I2 hv2 e1 e2 f1 f2 hb
      have hR2 : sw_RT I2 N w kd tl un W := hRT.frame (f2 _ (by omega) (by omega)) (f2 _ (by omega) (by omega)) (f1 _ (by omega)) (f1 _ (by omega)) (f1 _ (by omega)) (f1 _ (by omega))
      apply vc_X9_rounds_12
      rw [hR2.2.1, sw_p2 v (by omega)]
      simp (disch := omega) only [Bool.not_eq_false, Bool.not_eq_true, decide_eq_true_eq, decide_eq_false_iff_not, Bool.not_eq_true', Bool.not_eq_false', ax_lle, ax_llt, ax_lel, ax_ltl, ax_leq, ax_eql, ax_clampl, ax_inb_iff, nI_clamp, nI_1, nI_leI, nI_ltI, nI_eq, ax_b0, ax_b1, ax_bitb, ax_ui_eq, ax_ui_ne, true_and, and_true]
      refine ⟨fun q => by omega, fun _ => ?_⟩
      have hu := sw_us1 v (by omega)
      refine rf_layRounds (d := d + 22) q1 (by omega) 6 (a := b) (by omega) hu.2 hu.1 hR2 e1 e2 (fun I3 k1 k2 k3 k4 => ?_)
      refine ih (v + 1) (sw_ro un v 6 v (2 ^ v) b) I3 (by omega) k1 k2 (fun b hb => (k3 b hb).trans (f1 b hb)) (fun b z1 z2 => (k4 b z1 z2).trans (f2 b z1 z2)) ?_
      rw [ax_it_succ, Nat.zero_add, ← hb]
    | zero =>
      intro v b I2 hv2 e1 e2 f1 f2 hb
      have hR2 : sw_RT I2 N w kd tl un W := hRT.frame (f2 _ (by omega) (by omega)) (f2 _ (by omega) (by omega)) (f1 _ (by omega)) (f1 _ (by omega)) (f1 _ (by omega)) (f1 _ (by omega))
      have hvw : v = w := by omega
      subst hvw
      have hba : b = a := by rw [hb, ha]
      subst hba
      apply vc_X9_rounds_12
      rw [hR2.2.1, e2, e1, hv]
      simp (disch := omega) only [Bool.not_eq_false, Bool.not_eq_true, decide_eq_true_eq, decide_eq_false_iff_not, Bool.not_eq_true', Bool.not_eq_false', ax_lle, ax_llt, ax_lel, ax_ltl, ax_leq, ax_eql, ax_clampl, ax_inb_iff, nI_clamp, nI_1, nI_leI, nI_ltI, nI_eq, ax_b0, ax_b1, ax_bitb, ax_ui_eq, ax_ui_ne, true_and, and_true]
      refine ⟨fun _ => ?_, fun q => by omega⟩
      apply vc_X9_tells
      have fe : ∀ a, ¬ a = 3 → ¬ a = 116 → ¬ a = 117 → ¬ a = 184 → ax_ui I2 184 2 V a = I a := fun a z1 z2 z3 z4 => by rw [ax_ui_row z4, f1 a z4, fc a z1 z2 z3]
      have f184 : ∀ b, ¬ b = 41 → ¬ b = 42 → ¬ b = 2 → ax_ui I2 184 2 V 184 b = I 184 b := fun b z1 z2 z3 => by rw [ax_ui_ne (by omega), f2 b z1 z2, fc _ (by omega) (by omega) (by omega)]
      refine ⟨rfl, h0.aside (fun a q => fe a (by omega) (by omega) (by omega) (by omega)) ⟨fun b hb => by rw [fe _ (by omega) (by omega) (by omega) (by omega)], f184 _ (by omega) (by omega) (by omega), f184 _ (by omega) (by omega) (by omega), f184 _ (by omega) (by omega) (by omega)⟩ (h4.told ?_ (f184 _ (by omega) (by omega) (by omega)) (fe _ (by omega) (by omega) (by omega) (by omega)) (fe _ (by omega) (by omega) (by omega) (by omega)) ?_)⟩
      · rw [ax_ui_ne (by omega), f1 3 (by omega), ax_ui_ne (by omega), g3 3 (by omega) (by omega)]
      · rw [ax_ui_ne (by omega), f1 3 (by omega), ax_ui_eq, ax_ui_eq]
