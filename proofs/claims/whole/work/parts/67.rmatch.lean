/-- all but what is tried and what is best is as it was -/
def sw_MO (I I' : ax_I) : Prop := (∀ a, ¬ a = 184 → ¬ a = 210 → ¬ a = 211 → I' a = I a) ∧ (∀ b, ¬ b = 40 → I' 184 b = I 184 b)
theorem sw_MO.refl {I : ax_I} : sw_MO I I := ⟨fun _ _ _ _ => rfl, fun _ _ => rfl⟩
theorem sw_MO.trans {I I1 I2 : ax_I} (h1 : sw_MO I I1) (h2 : sw_MO I1 I2) : sw_MO I I2 := ⟨fun a z1 z2 z3 => (h2.1 a z1 z2 z3).trans (h1.1 a z1 z2 z3), fun b hb => (h2.2 b hb).trans (h1.2 b hb)⟩
theorem sw_MO.u210 {I I' : ax_I} (h : sw_MO I I') {k : Nat} {v : Int32} : sw_MO I (ax_ui I' 210 k v) := ⟨fun a z1 z2 z3 => by rw [ax_ui_row z2]; exact h.1 a z1 z2 z3, fun b hb => by rw [ax_ui_ne (by omega)]; exact h.2 b hb⟩
theorem sw_MO.u211 {I I' : ax_I} (h : sw_MO I I') {k : Nat} {v : Int32} : sw_MO I (ax_ui I' 211 k v) := ⟨fun a z1 z2 z3 => by rw [ax_ui_row z3]; exact h.1 a z1 z2 z3, fun b hb => by rw [ax_ui_ne (by omega)]; exact h.2 b hb⟩
theorem sw_MO.u40 {I I' : ax_I} (h : sw_MO I I') {v : Int32} : sw_MO I (ax_ui I' 184 40 v) := ⟨fun a z1 z2 z3 => by rw [ax_ui_row z1]; exact h.1 a z1 z2 z3, fun b hb => by rw [ax_ui_ne (by omega)]; exact h.2 b hb⟩
theorem sw_RA.mo {I I' : ax_I} {N T k : Nat} {kd : Nat → Nat} {tl un : Nat → Int32} {W : Nat → Nat → Nat} {G : sw_G} (h : sw_RA I N T kd tl un W k G) (hl : sw_MO I I') : sw_RA I' N T kd tl un W k G :=
  ⟨h.1.frame (hl.2 _ (by omega)) (hl.2 _ (by omega)) (hl.1 _ (by omega) (by omega) (by omega)) (hl.1 _ (by omega) (by omega) (by omega)) (hl.1 _ (by omega) (by omega) (by omega)) (hl.1 _ (by omega) (by omega) (by omega)), h.2.same (fun j hj => by unfold sw_fr; rw [hl.1 _ (by omega) (by omega) (by omega)])⟩
theorem rf_layMatch {N T : Nat} {kd : Nat → Nat} {tl un : Nat → Int32} {W : Nat → Nat → Nat} {G : sw_G} (hN : N ≤ 6) (hT : T ≤ 6) (hW : ∀ x w, W x w ≤ 9) {L : ax_J} : ∀ (k : Nat) {d m s : Nat} {u : Int32} {a : Nat × (Nat → Int32)} {I : ax_I} {K : ax_I → ax_J → Prop}, k ≤ N → m < 64 → (∀ w, w < T → m.testBit w = (!ax_bt u w && decide (G.2.1 w = -9))) → s + 9 * k ≤ 54 → a.1 ≤ 55 → I 184 40 = nI a.1 - 1 → (0 < a.1 → ∀ y, y < N → I 211 y = a.2 y) → sw_RA I N T kd tl un W 0 G → (∀ I', I' 184 40 = nI (sw_mu (s + sw_mo N T W k m) (fun y => if y < N - k then I 210 y else sw_mr N T W k m y) a).1 - 1 → (0 < (sw_mu (s + sw_mo N T W k m) (fun y => if y < N - k then I 210 y else sw_mr N T W k m y) a).1 → ∀ y, y < N → I' 211 y = (sw_mu (s + sw_mo N T W k m) (fun y => if y < N - k then I 210 y else sw_mr N T W k m y) a).2 y) → (∀ y, y < N - k → I' 210 y = I 210 y) → sw_MO I I' → K I' L) → ax_CV (d + k + 3) 223 [ax_vr 9 0 184, ax_vi (nI (N - k)), ax_vi u, ax_vi (nI s)] I L K := by
  intro k
  induction k with
  | zero =>
    intro d m s u a I K hk hm hu hs ha h40 h211 hR hK
    have e0 : s + sw_mo N T W 0 m = s := rfl
    rw [e0] at hK
    apply vc_X9_layMatch
    rw [hR.1.1, h40, Nat.sub_zero]
    have hle := ax_le_pred (g := s) (a := a.1) (by omega) (by omega)
    refine ⟨fun q => absurd (by rw [decide_eq_true rfl] at q; cases q) id, fun _ => ax_if (fun q => ?_) (fun q => ?_)⟩
    · rw [hle] at q
      have e : sw_mu s (fun y => if y < N - 0 then I 210 y else sw_mr N T W 0 m y) a = a := if_neg (by omega)
      rw [e] at hK
      exact hK I h40 h211 (fun _ _ => rfl) sw_MO.refl
    · rw [hle] at q
      have e : sw_mu s (fun y => if y < N - 0 then I 210 y else sw_mr N T W 0 m y) a = (s + 1, fun y => if y < N - 0 then I 210 y else sw_mr N T W 0 m y) := if_pos (by omega)
      rw [e] at hK
      suffices ∀ (c y : Nat) (I1 : ax_I) (z1 z2 z3 : Option ax_V), y + c = N → I1 184 40 = nI s → (∀ v, v < y → I1 211 v = I 210 v) → I1 210 = I 210 → sw_MO I I1 → ax_AK ((d + 0 + 2)) 223 (24, [some (ax_vr 9 0 184), z1, z2, z3, some (ax_vi (nI y))], [], ax_mm I1 L) (ax_kv K) from
        this N 0 _ _ _ _ (by omega) ax_ui_eq (fun v hv => by omega) (ax_ui_row (by omega)) sw_MO.refl.u40
      intro c
      induction c with
      | zero =>
        intro y I1 z1 z2 z3 hy g1 g2 g3 g4
        apply vc_X9_layMatch_24
        rw [g4.2 10 (by omega), hR.1.1]
        simp (disch := omega) only [Bool.not_eq_false, Bool.not_eq_true, decide_eq_true_eq, decide_eq_false_iff_not, Bool.not_eq_true', Bool.not_eq_false', ax_lle, ax_llt, ax_lel, ax_ltl, ax_leq, ax_eql, ax_clampl, ax_inb_iff, nI_clamp, nI_1, nI_leI, nI_ltI, nI_eq, ax_b0, ax_b1, ax_bitb, ax_ui_eq, ax_ui_ne, true_and, and_true]
        refine ⟨fun _ => hK I1 ?_ (fun _ v hv => ?_) (fun v _ => by rw [g3]) g4, fun q => by omega⟩
        · rw [g1, nI_pred]
        · show I1 211 v = if v < N - 0 then I 210 v else _
          rw [if_pos (by omega)]; exact g2 v (by omega)
      | succ c ih =>
        intro y I1 z1 z2 z3 hy g1 g2 g3 g4
        apply vc_X9_layMatch_24
        rw [g4.2 10 (by omega), hR.1.1]
        simp (disch := omega) only [Bool.not_eq_false, Bool.not_eq_true, decide_eq_true_eq, decide_eq_false_iff_not, Bool.not_eq_true', Bool.not_eq_false', ax_lle, ax_llt, ax_lel, ax_ltl, ax_leq, ax_eql, ax_clampl, ax_inb_iff, nI_clamp, nI_1, nI_leI, nI_ltI, nI_eq, ax_b0, ax_b1, ax_bitb, ax_ui_eq, ax_ui_ne, true_and, and_true]
        refine ⟨fun q => by omega, fun _ => ⟨by omega, by omega, ih _ _ _ _ _ (by omega) ?_ ?_ ?_ g4.u211⟩⟩
        · rw [ax_ui_ne (by omega)]; exact g1
        · intro v hv
          by_cases z : v = y
          · subst z; rw [ax_ui_eq, g3]
          · rw [ax_ui_ne (by omega)]; exact g2 v (by omega)
        · rw [ax_ui_row (by omega)]; exact g3
  | succ k ih0 =>
    intro d m s u a I K hk hm hu hs ha h40 h211 hR hK
    have hx : N - (k + 1) < N := by omega
    have hall := sw_mu_all (T := T) (W := W) (m := m) (s := s) (q := I 210) (a := a) hk
    rw [← hall] at hK
    clear hall
    generalize hxx : N - (k + 1) = x at hK hx ⊢
    have exk : N - k = x + 1 := by omega
    apply vc_X9_layMatch
    rw [hR.1.1]
    refine ⟨fun _ => ?_, fun q => ?_⟩
    case refine_2 =>
      exfalso
      rw [Bool.not_eq_false', decide_eq_true_eq, nI_eq (by omega) (by omega)] at q
      omega
    suffices ∀ (c w : Nat) (b : Nat × (Nat → Int32)) (I1 : ax_I), w + c = T → b.1 ≤ 55 → I1 184 40 = nI b.1 - 1 → (0 < b.1 → ∀ y, y < N → I1 211 y = b.2 y) → (∀ y, y < x → I1 210 y = I 210 y) → sw_MO I I1 → (∀ I', I' 184 40 = nI (sw_mu (s + sw_mo N T W k m) (fun y => if y < x then I 210 y else if y = x then -9 else sw_mr N T W k m y) (ax_it (fun w a => if m.testBit w then sw_mu (s + W x w + sw_mo N T W k (sw_cl m w)) (fun y => if y < x then I 210 y else if y = x then nI w else sw_mr N T W k (sw_cl m w) y) a else a) c w b)).1 - 1 → (0 < (sw_mu (s + sw_mo N T W k m) (fun y => if y < x then I 210 y else if y = x then -9 else sw_mr N T W k m y) (ax_it (fun w a => if m.testBit w then sw_mu (s + W x w + sw_mo N T W k (sw_cl m w)) (fun y => if y < x then I 210 y else if y = x then nI w else sw_mr N T W k (sw_cl m w) y) a else a) c w b)).1 → ∀ y, y < N → I' 211 y = (sw_mu (s + sw_mo N T W k m) (fun y => if y < x then I 210 y else if y = x then -9 else sw_mr N T W k m y) (ax_it (fun w a => if m.testBit w then sw_mu (s + W x w + sw_mo N T W k (sw_cl m w)) (fun y => if y < x then I 210 y else if y = x then nI w else sw_mr N T W k (sw_cl m w) y) a else a) c w b)).2 y) → (∀ y, y < x → I' 210 y = I 210 y) → sw_MO I I' → K I' L) → ax_AK ((d + k + 3)) 223 (57, [some (ax_vr 9 0 184), some (ax_vi (nI x)), some (ax_vi u), some (ax_vi (nI s)), some (ax_vi (nI w))], [], ax_mm I1 L) (ax_kv K) from
      this T 0 a I (by omega) ha h40 h211 (fun _ _ => rfl) sw_MO.refl hK
    clear hK h40 h211
    intro c
    induction c with
    | zero =>
      intro w b I1 hw hb g1 g2 g3 g4 hK
      have hR1 := hR.mo g4
      apply vc_X9_layMatch_57
      rw [hR1.1.2.1]
      simp (disch := omega) only [Bool.not_eq_false, Bool.not_eq_true, decide_eq_true_eq, decide_eq_false_iff_not, Bool.not_eq_true', Bool.not_eq_false', ax_lle, ax_llt, ax_lel, ax_ltl, ax_leq, ax_eql, ax_clampl, ax_inb_iff, nI_clamp, nI_1, nI_leI, nI_ltI, nI_eq, ax_b0, ax_b1, ax_bitb, ax_ui_eq, ax_ui_ne, true_and, and_true]
      refine ⟨fun _ => ⟨by omega, ?_⟩, fun q => by omega⟩
      rw [← exk]
      refine ih0 (m := m) (a := b) (by omega) hm hu (by omega) hb (by rw [ax_ui_ne (by omega)]; exact g1) (fun h y hy => by rw [ax_ui_ne (by omega)]; exact g2 h y hy) (hR1.mo sw_MO.refl.u210) (fun I2 e1 e2 e3 e4 => ?_)
      have er : (fun y => if y < N - k then ax_ui I1 210 x (-9) 210 y else sw_mr N T W k m y) = (fun y => if y < x then I 210 y else if y = x then -9 else sw_mr N T W k m y) := by
        funext y
        rw [exk]
        by_cases z : y < x
        · rw [if_pos (by omega), if_pos z, ax_ui_ne (by omega)]; exact g3 y z
        · by_cases z2 : y = x
          · subst z2; rw [if_pos (by omega), if_neg z, if_pos rfl, ax_ui_eq]
          · rw [if_neg (by omega), if_neg z, if_neg z2]
      rw [er] at e1 e2
      exact hK I2 e1 e2 (fun y hy => by rw [e3 y (by omega), ax_ui_ne (by omega)]; exact g3 y hy) (g4.u210.trans e4)
    | succ c ih =>
      intro w b I1 hw hb g1 g2 g3 g4 hK
      have hR1 := hR.mo g4
      have huw := hu w (by omega)
      apply vc_X9_layMatch_57
      rw [hR1.1.2.1]
      simp (disch := omega) only [Bool.not_eq_false, Bool.not_eq_true, decide_eq_true_eq, decide_eq_false_iff_not, Bool.not_eq_true', Bool.not_eq_false', ax_lle, ax_llt, ax_lel, ax_ltl, ax_leq, ax_eql, ax_clampl, ax_inb_iff, nI_clamp, nI_1, nI_leI, nI_ltI, nI_eq, ax_b0, ax_b1, ax_bitb, ax_ui_eq, ax_ui_ne, true_and, and_true]
      refine ⟨fun q => by omega, fun _ => ?_⟩
      refine rf_has (by omega) ?_
      have skip : m.testBit w = false → ax_AK ((d + k + 3)) 223 (57, [some (ax_vr 9 0 184), some (ax_vi (nI x)), some (ax_vi u), some (ax_vi (nI s)), some (ax_vi (nI (w + 1)))], [], ax_mm I1 L) (ax_kv K) := by
        intro hz
        refine ih (w + 1) b I1 (by omega) hb g1 g2 g3 g4 ?_
        have e : ∀ (n : Nat), ax_it (fun w a => if m.testBit w then sw_mu (s + W x w + sw_mo N T W k (sw_cl m w)) (fun y => if y < x then I 210 y else if y = x then nI w else sw_mr N T W k (sw_cl m w) y) a else a) (n + 1) w b = ax_it (fun w a => if m.testBit w then sw_mu (s + W x w + sw_mo N T W k (sw_cl m w)) (fun y => if y < x then I 210 y else if y = x then nI w else sw_mr N T W k (sw_cl m w) y) a else a) n (w + 1) b := by
          intro n
          show ax_it _ n (w + 1) (if m.testBit w then _ else b) = _
          rw [if_neg (by rw [hz]; decide)]
        rw [e c] at hK
        exact hK
      simp (disch := omega) only [Bool.not_eq_false, Bool.not_eq_true, decide_eq_true_eq, decide_eq_false_iff_not, Bool.not_eq_true', Bool.not_eq_false', ax_lle, ax_llt, ax_lel, ax_ltl, ax_leq, ax_eql, ax_clampl, ax_inb_iff, nI_clamp, nI_1, nI_leI, nI_ltI, nI_eq, ax_b0, ax_b1, ax_bitb, ax_ui_eq, ax_ui_ne, true_and, and_true]
      refine ⟨fun q => ?_, fun q => ?_⟩
      · have q : ax_bt u w = true := by simpa using q
        exact skip (by rw [huw, q]; rfl)
      · refine rf_v (k := 0) (a := 6) (by omega) (by omega) ?_
        rw [hR1.2.2.1 w (by omega)]
        refine ⟨fun q2 => skip (by rw [huw, decide_eq_false q2, Bool.and_false]), fun q2 => ?_⟩
        have hbit : m.testBit w = true := by rw [huw, q, decide_eq_true q2]; rfl
        have e193 : I1 193 (6 * x + w) = nI (W x w) := hR1.1.2.2.2.2.1 x (by omega) w (by omega)
        simp (disch := omega) only [Bool.not_eq_false, Bool.not_eq_true, decide_eq_true_eq, decide_eq_false_iff_not, Bool.not_eq_true', Bool.not_eq_false', ax_lle, ax_llt, ax_lel, ax_ltl, ax_leq, ax_eql, ax_clampl, ax_inb_iff, nI_clamp, nI_1, nI_leI, nI_ltI, nI_eq, ax_b0, ax_b1, ax_bitb, ax_ui_eq, ax_ui_ne, true_and, and_true, ax_lmul, nI_add, e193]
        refine ⟨by omega, by omega, ?_⟩
        have hWx := hW x w
        rw [← exk]
        have hcl := sw_cl_le (m := m) (w := w)
        have hmo := sw_mo_le (N := N) (T := T) hW k (sw_cl m w)
        refine ih0 (m := sw_cl m w) (a := b) (by omega) (by omega) (fun v hv => ?_) (by omega) hb (by rw [ax_ui_ne (by omega)]; exact g1) (fun h y hy => by rw [ax_ui_ne (by omega)]; exact g2 h y hy) (hR1.mo sw_MO.refl.u210) (fun I2 e1 e2 e3 e4 => ?_)
        · rw [sw_clt m hm w (by omega) v (by omega), ax_bt_or, ax_bt_sh (by omega) (by omega), hu v hv]
          cases ax_bt u v <;> cases decide (v = w) <;> cases decide (G.2.1 v = -9) <;> rfl
        · have er : (fun y => if y < N - k then ax_ui I1 210 x (nI w) 210 y else sw_mr N T W k (sw_cl m w) y) = (fun y => if y < x then I 210 y else if y = x then nI w else sw_mr N T W k (sw_cl m w) y) := by
            funext y
            rw [exk]
            by_cases z : y < x
            · rw [if_pos (by omega), if_pos z, ax_ui_ne (by omega)]; exact g3 y z
            · by_cases z2 : y = x
              · subst z2; rw [if_pos (by omega), if_neg z, if_pos rfl, ax_ui_eq]
              · rw [if_neg (by omega), if_neg z, if_neg z2]
          rw [er] at e1 e2
          refine ih (w + 1) (sw_mu (s + W x w + sw_mo N T W k (sw_cl m w)) (fun y => if y < x then I 210 y else if y = x then nI w else sw_mr N T W k (sw_cl m w) y) b) I2 (by omega) ?_ e1 e2 (fun y hy => by rw [e3 y (by omega), ax_ui_ne (by omega)]; exact g3 y hy) (g4.u210.trans e4) ?_
          · unfold sw_mu
            split
            · show s + W x w + sw_mo N T W k (sw_cl m w) + 1 ≤ 55; omega
            · exact hb
          · have e : ∀ (n : Nat), ax_it (fun w a => if m.testBit w then sw_mu (s + W x w + sw_mo N T W k (sw_cl m w)) (fun y => if y < x then I 210 y else if y = x then nI w else sw_mr N T W k (sw_cl m w) y) a else a) (n + 1) w b = ax_it (fun w a => if m.testBit w then sw_mu (s + W x w + sw_mo N T W k (sw_cl m w)) (fun y => if y < x then I 210 y else if y = x then nI w else sw_mr N T W k (sw_cl m w) y) a else a) n (w + 1) (sw_mu (s + W x w + sw_mo N T W k (sw_cl m w)) (fun y => if y < x then I 210 y else if y = x then nI w else sw_mr N T W k (sw_cl m w) y) b) := by
              intro n
              show ax_it _ n (w + 1) (if m.testBit w then _ else b) = _
              rw [if_pos hbit]
            rw [e c] at hK
            exact hK
theorem op_match {I : ax_I} {L : ax_J} (h : sw_RR I L) (a : Int32) : sw_OP 116 224 [ax_vi a] I L := by
  intro d
  have h0 := h
  obtain ⟨N, T, kd, tl, un, W, es, h1, h2, h3, h4⟩ := h
  have hG := h1.GI
  have h1' := h1
  obtain ⟨q1, q2, q3, q4, q5, q6, q7, q8, q9, q10⟩ := h1
  have hN := q1.1
  have hT := q1.2.1
  apply vc_X8_match
  rcases sw_dich (n := 6) (by omega) a with ⟨r, hr, rfl⟩ | ha
  case inr =>
    refine cl_isRow_no ha ?_
    refine ⟨(fun q => absurd q (by decide)), fun _ => ?_⟩
    apply vc_X9_match
    refine rf_isRow_no ha ?_
    exact ⟨(fun q => absurd q (by decide)), fun _ => ⟨rfl, h0⟩⟩
  refine cl_isRow_k hr ?_
  refine ⟨fun _ => ?_, (fun q => absurd q (by decide))⟩
  rw [q5.1]
  simp (disch := omega) only [Bool.not_eq_false, Bool.not_eq_true, decide_eq_true_eq, decide_eq_false_iff_not, Bool.not_eq_true', Bool.not_eq_false', ax_lle, ax_llt, ax_lel, ax_ltl, ax_leq, ax_eql, ax_clampl, ax_inb_iff, nI_clamp, nI_1, nI_leI, nI_ltI, nI_eq, ax_b0, ax_b1, ax_bitb, ax_ui_eq, ax_ui_ne, true_and, and_true]
  refine ⟨fun hN0 => ⟨by omega, ?_⟩, fun hN0 => ?_⟩
  case refine_2 =>
    apply vc_X9_match
    refine rf_isRow_k hr ?_
    refine ⟨fun _ => ?_, (fun q => absurd q (by decide))⟩
    rw [q7.1]
    simp (disch := omega) only [Bool.not_eq_false, Bool.not_eq_true, decide_eq_true_eq, decide_eq_false_iff_not, Bool.not_eq_true', Bool.not_eq_false', ax_lle, ax_llt, ax_lel, ax_ltl, ax_leq, ax_eql, ax_clampl, ax_inb_iff, nI_clamp, nI_1, nI_leI, nI_ltI, nI_eq, ax_b0, ax_b1, ax_bitb, ax_ui_eq, ax_ui_ne, true_and, and_true]
    exact ⟨fun q => absurd hN0 q, fun _ => h0⟩
  obtain ⟨m0, hm64, em0⟩ : ∃ m, m < 64 ∧ ax_ms T (fun w => decide ((sw_rp kd es).2.1 w = -9)) = nI m := ax_small (fun i h1 h2 => by rw [ax_bt_ms (by omega), decide_eq_false (by omega), Bool.false_and])
  have htb : ∀ w, w < 6 → m0.testBit w = (decide (w < T) && decide ((sw_rp kd es).2.1 w = -9)) := fun w hw => by
    rw [← sw_bt64 m0 hm64 w hw, ← em0, ax_bt_ms (by omega)]
  have hm2 : m0 < 2 ^ T := sw_lt2 T hT m0 hm64 (fun i hi hTi => by rw [htb i hi, decide_eq_false (by omega), Bool.false_and])
  refine cl_giveOut q5 q6.1 q2.1 hN hT hr em0 hm2 (fun I1 s1 v1 f1 => ?_)
  have h1c : sw_TW I1 N T kd tl un W es := h1'.aside (fun a q => f1 a (by omega) (by omega) (by omega))
  apply vc_X9_match
  refine rf_isRow_k hr ?_
  refine ⟨fun _ => ?_, (fun q => absurd q (by decide))⟩
  have r1 := h1c.2.2.2.2.2.2.1.1
  rw [r1]
  simp (disch := omega) only [Bool.not_eq_false, Bool.not_eq_true, decide_eq_true_eq, decide_eq_false_iff_not, Bool.not_eq_true', Bool.not_eq_false', ax_lle, ax_llt, ax_lel, ax_ltl, ax_leq, ax_eql, ax_clampl, ax_inb_iff, nI_clamp, nI_1, nI_leI, nI_ltI, nI_eq, ax_b0, ax_b1, ax_bitb, ax_ui_eq, ax_ui_ne, true_and, and_true]
  refine ⟨fun _ => ?_, fun q => absurd q hN0⟩
  have ra : sw_RA (ax_ui I1 184 40 (-1)) N T kd tl un W 0 (sw_rp kd es) := (h1c.ra (by omega)).mo sw_MO.refl.u40
  rw [show d + 29 = (d + 26 - N) + N + 3 by omega]
  have key := rf_layMatch (kd := kd) (tl := tl) (un := un) (G := sw_rp kd es) hN hT q2.1 (L := L) N (d := d + 26 - N) (m := m0) (s := 0) (u := 0) (a := (0, fun _ => 0)) (I := ax_ui I1 184 40 (-1)) (K := fun I4 L5 => ax_CV (d + 26 - N + N + 3) 172 [ax_vr 9 0 184, ax_vi (nI r), ax_vr 10 6 211, ax_vi (I4 184 10)] I4 L5 (fun I7 L8 => nI (sw_mo N T W N m0) = I7 184 40 ∧ sw_RR I7 L8)) (Nat.le_refl _) hm64 (fun w hw => by rw [htb w (by omega), decide_eq_true hw, ax_bt_0]; rfl) (by omega) (Nat.zero_le _) (by rw [ax_ui_eq]; decide) (fun q => by cases q) ra (fun I2 e1 e2 e3 e4 => ?_)
  · rw [Nat.sub_self] at key; exact key
  · rw [e4.2 10 (by omega), ax_ui_ne (by omega), r1]
    have emu : sw_mu (0 + sw_mo N T W N m0) (fun y => if y < N - N then ax_ui I1 184 40 (-1) 210 y else sw_mr N T W N m0 y) (0, fun _ => 0) = (0 + sw_mo N T W N m0 + 1, fun y => if y < N - N then ax_ui I1 184 40 (-1) 210 y else sw_mr N T W N m0 y) := if_pos (Nat.zero_le _)
    rw [emu] at e1 e2
    have e2 := e2 (Nat.succ_pos _)
    refine rf_layRow hr (by omega) (by omega) (by omega) (by omega) (fun I3 m1 m2 m3 m4 m5 => ?_)
    have fd : ∀ a, ¬ a = 184 → ¬ a = 186 → ¬ a = 187 → ¬ a = 210 → ¬ a = 211 → I3 a = I1 a := fun a z1 z2 z3 z4 z5 => by rw [m5 a z2 z3, e4.1 a z1 z4 z5, ax_ui_row z1]
    have fe : ∀ a, ¬ a = 184 → ¬ a = 186 → ¬ a = 187 → ¬ a = 210 → ¬ a = 211 → (a < 109 ∨ 115 < a) → ¬ a = 4 + (115 + 2 * r) → ¬ a = 4 + (115 + 2 * r) + 1 → I3 a = I a := fun a z1 z2 z3 z4 z5 z6 z7 z8 => by rw [fd a z1 z2 z3 z4 z5, f1 a z6 z7 z8]
    have f184 : ∀ b, ¬ b = 40 → I3 184 b = I 184 b := fun b hb => by rw [m5 184 (by omega) (by omega), e4.2 b hb, ax_ui_ne (by omega), f1 184 (by omega) (by omega) (by omega)]
    refine ⟨?_, h0.line hr ⟨?_, .inr ⟨N, by omega, ?_, fun i hi => ?_⟩⟩ (fun a z1 z2 z3 => fe a (by omega) (by omega) (by omega) (by omega) (by omega) (by omega) z2 z3) ⟨fun b hb => ?_, f184 _ (by omega), f184 _ (by omega), f184 _ (by omega)⟩ (fun b hb => ?_) (fun b hb => ?_) (h4.frame ?_ (f184 _ (by omega)) ?_ ?_ ?_ (f184 _ (by omega)))⟩
    · rw [m5 184 (by omega) (by omega), e1, nI_pred, Nat.zero_add]
    · rw [m1, fd _ (by omega) (by omega) (by omega) (by omega) (by omega), s1]
    · rw [fd _ (by omega) (by omega) (by omega) (by omega) (by omega), s1]
    · rw [m3 i hi, e2 i hi, fd _ (by omega) (by omega) (by omega) (by omega) (by omega), v1 i hi]
      exact if_neg (by omega)
    · rw [fe _ (by omega) (by omega) (by omega) (by omega) (by omega) (by omega) (by omega) (by omega)]
    · rw [m2 b hb, e4.1 _ (by omega) (by omega) (by omega), ax_ui_ne (by omega), f1 _ (by omega) (by omega) (by omega)]
    · rw [m4 b hb, e4.1 _ (by omega) (by omega) (by omega), ax_ui_ne (by omega), f1 _ (by omega) (by omega) (by omega)]
    · rw [fe _ (by omega) (by omega) (by omega) (by omega) (by omega) (by omega) (by omega) (by omega)]
    · rw [fe _ (by omega) (by omega) (by omega) (by omega) (by omega) (by omega) (by omega) (by omega)]
    · rw [fe _ (by omega) (by omega) (by omega) (by omega) (by omega) (by omega) (by omega) (by omega)]
    · rw [fe _ (by omega) (by omega) (by omega) (by omega) (by omega) (by omega) (by omega) (by omega)]
