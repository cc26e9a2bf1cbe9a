/-! needs: 21c 21d 30 31 32 33 34 35 -/
/-! THE REFERENCE: its frames -/
def sw_RT (I : ax_I) (N T : Nat) (kd : Nat → Nat) (tl un : Nat → Int32) (W : Nat → Nat → Nat) : Prop := I 184 10 = nI N ∧ I 184 11 = nI T ∧ (∀ x, x < N → I 191 x = nI (kd x)) ∧ (∀ x, x < N → I 192 x = tl x) ∧ (∀ x, x < 6 → ∀ w, w < 6 → I 193 (6 * x + w) = nI (W x w)) ∧ (∀ w, w < 6 → I 194 w = un w)
def sw_wh : List Nat → Nat → Int32
  | [], _ => -9
  | v :: R, w => if w = v then nI R.length else sw_wh R w
theorem sw_wh_le : ∀ (R : List Nat) (w : Nat), R.length < 1000 → sw_wh R w = -9 ∨ ∃ k, k < R.length ∧ sw_wh R w = nI k
  | [], w, _ => .inl rfl
  | v :: R, w, h => by
    have h : R.length + 1 < 1000 := h
    unfold sw_wh
    split
    · exact .inr ⟨R.length, Nat.lt_succ_self _, rfl⟩
    · rcases sw_wh_le R w (by omega) with q | ⟨k, q1, q2⟩
      · exact .inl q
      · exact .inr ⟨k, Nat.lt_succ_of_lt q1, q2⟩
theorem sw_wh_iff {v w : Nat} {R : List Nat} : ∀ (P : List Nat), (P ++ v :: R).Nodup → (P ++ v :: R).length < 1000 → (sw_wh (P ++ v :: R) w = nI R.length ↔ w = v)
  | [], hn, hl => by
    have hl : R.length + 1 < 1000 := hl
    show (if w = v then nI R.length else sw_wh R w) = nI R.length ↔ w = v
    by_cases h : w = v
    · rw [if_pos h]; exact ⟨fun _ => h, fun _ => rfl⟩
    · rw [if_neg h]
      refine ⟨fun q => ?_, fun q => absurd q h⟩
      rcases sw_wh_le R w (by omega) with z | ⟨k, z1, z2⟩
      · rw [z] at q; exact absurd q (ax_9ne (by omega))
      · rw [z2, nI_eq (by omega) (by omega)] at q; omega
  | u :: P, hn, hl => by
    have hl : (P ++ v :: R).length + 1 < 1000 := hl
    have hn : (u :: (P ++ v :: R)).Nodup := hn
    obtain ⟨h1, h2⟩ := List.nodup_cons.mp hn
    show (if w = u then nI (P ++ v :: R).length else sw_wh (P ++ v :: R) w) = nI R.length ↔ w = v
    have hlen : (P ++ v :: R).length = P.length + (R.length + 1) := by rw [List.length_append]; rfl
    by_cases h : w = u
    · rw [if_pos h, nI_eq (by omega) (by omega)]
      refine ⟨fun q => by omega, fun q => ?_⟩
      exfalso; apply h1
      rw [← h, q]
      exact List.mem_append_right P List.mem_cons_self
    · rw [if_neg h]; exact sw_wh_iff P h2 (by omega)
/-- the 31 ints of a frame tell the game -/
def sw_FG (f : Nat → Int32) (G : sw_G) : Prop := (∀ w, w < 6 → f w = G.1 w) ∧ (∀ w, w < 6 → f (6 + w) = G.2.1 w) ∧ (∀ w, w < 6 → f (12 + w) = sw_wh G.2.2 w) ∧ f 30 = nI G.2.2.length
/-- frame k of the towns -/
def sw_fr (I : ax_I) (k j : Nat) : Int32 := I 199 (31 * k + j)
theorem rf_v {d k a i : Nat} {I : ax_I} {L : ax_J} {K : Int32 → ax_I → ax_J → Prop} (hk : k < 10) (ha : a + i < 31) (hK : K (sw_fr I k (a + i)) I L) : ax_CI (d + 1) 184 [ax_vr 9 0 184, ax_vi (nI k), ax_vi (nI a), ax_vi (nI i)] I L K := by
  apply vc_X9_v
  have e : (31 : Int32) * nI k + nI a + nI i = nI (31 * k + (a + i)) := by
    rw [show (31 : Int32) = nI 31 from rfl, ax_nI_mul, nI_add, nI_add, Nat.add_assoc]
  rw [e]
  simp (disch := omega) only [Bool.not_eq_false, Bool.not_eq_true, decide_eq_true_eq, decide_eq_false_iff_not, Bool.not_eq_true', Bool.not_eq_false', ax_lle, ax_llt, ax_lel, ax_ltl, ax_leq, ax_eql, ax_clampl, ax_inb_iff, nI_clamp, nI_1, nI_leI, nI_ltI, nI_eq, ax_b0, ax_b1, ax_bitb, ax_ui_eq, ax_ui_ne, true_and, and_true]
  exact ⟨by omega, hK⟩
theorem rf_set {d k a i : Nat} {x : Int32} {I : ax_I} {L : ax_J} {K : ax_I → ax_J → Prop} (hk : k < 10) (ha : a + i < 31) (hK : K (ax_ui I 199 (31 * k + (a + i)) x) L) : ax_CV (d + 1) 185 [ax_vr 9 0 184, ax_vi (nI k), ax_vi (nI a), ax_vi (nI i), ax_vi x] I L K := by
  apply vc_X9_set
  have e : (31 : Int32) * nI k + nI a + nI i = nI (31 * k + (a + i)) := by
    rw [show (31 : Int32) = nI 31 from rfl, ax_nI_mul, nI_add, nI_add, Nat.add_assoc]
  rw [e]
  simp (disch := omega) only [Bool.not_eq_false, Bool.not_eq_true, decide_eq_true_eq, decide_eq_false_iff_not, Bool.not_eq_true', Bool.not_eq_false', ax_lle, ax_llt, ax_lel, ax_ltl, ax_leq, ax_eql, ax_clampl, ax_inb_iff, nI_clamp, nI_1, nI_leI, nI_ltI, nI_eq, ax_b0, ax_b1, ax_bitb, ax_ui_eq, ax_ui_ne, true_and, and_true]
  exact ⟨by omega, hK⟩
theorem rf_has {d k : Nat} {m : Int32} {I : ax_I} {L : ax_J} {K : Int32 → ax_I → ax_J → Prop} (hk : k < 32) (hK : K (ax_b (ax_bt m k)) I L) : ax_CI (d + 1) 150 [ax_vi m, ax_vi (nI k)] I L K := by
  apply vc_X9_has
  simp (disch := omega) only [Bool.not_eq_false, Bool.not_eq_true, decide_eq_true_eq, decide_eq_false_iff_not, Bool.not_eq_true', Bool.not_eq_false', ax_lle, ax_llt, ax_lel, ax_ltl, ax_leq, ax_eql, ax_clampl, ax_inb_iff, nI_clamp, nI_1, nI_leI, nI_ltI, nI_eq, ax_b0, ax_b1, ax_bitb, ax_ui_eq, ax_ui_ne, true_and, and_true, ax_bt_ask1]
  refine ⟨fun q => ⟨by decide, ?_⟩, fun q => ⟨by decide, ?_⟩⟩
  · rw [q] at hK; exact hK
  · rw [q] at hK; exact hK
theorem rf_in {d : Nat} {x a b : Int32} {I : ax_I} {L : ax_J} {K : Int32 → ax_I → ax_J → Prop} (hK : K (ax_b (decide (a ≤ x) && decide (x ≤ b))) I L) : ax_CI (d + 1) 149 [ax_vi x, ax_vi a, ax_vi b] I L K := by
  apply vc_X9_in
  refine ax_if (fun h => ⟨by decide, ?_⟩) (fun h => ax_if (fun h2 => ⟨by decide, ?_⟩) (fun h2 => ⟨by decide, ?_⟩))
  · rw [decide_eq_false (Int32.not_le.mpr h)] at hK; exact hK
  · rw [decide_eq_false (Int32.not_le.mpr h2), Bool.and_false] at hK; exact hK
  · rw [decide_eq_true (Int32.not_lt.mp h), decide_eq_true (Int32.not_lt.mp h2)] at hK; exact hK
theorem sw_pc_step : ∀ m, m < 64 → ¬ m = 0 → nI m &&& (nI m - 1) = nI (m &&& (m - 1)) ∧ (m &&& (m - 1)) < m := by decide +kernel
theorem sw_pc_more : ∀ f m, m ≤ f → sw_pc f m = sw_pc m m
  | 0, m, h => by
    have : m = 0 := by omega
    subst this; rfl
  | f + 1, m, h => by
    by_cases e : m = f + 1
    · rw [e]
    · match m, e, h with
      | 0, _, _ => rfl
      | m + 1, e, h =>
        have lt : (m + 1) &&& (m + 1 - 1) ≤ m := by
          have := Nat.and_le_right (n := m + 1) (m := m + 1 - 1)
          omega
        unfold sw_pc
        rw [if_neg (by omega), if_neg (by omega), sw_pc_more f _ (by omega), ← sw_pc_more m _ lt]
theorem sw_pc6 : ∀ m, m < 64 → sw_pc 6 m = sw_pc m m := by decide +kernel
theorem rf_bits {d m : Nat} {I : ax_I} {L : ax_J} {K : Int32 → ax_I → ax_J → Prop} (hm : m < 64) (hK : K (nI (sw_pc 6 m)) I L) : ax_CI (d + 1) 151 [ax_vi (nI m)] I L K := by
  apply vc_X9_bits
  rw [sw_pc6 m hm] at hK
  suffices ∀ (f m a : Nat) (z : Option ax_V), m < 64 → m ≤ f → K (nI (a + sw_pc f m)) I L → ax_AK d 151 (4, [z, some (ax_vi (nI a)), some (ax_vi (nI m))], [], ax_mm I L) (ax_ki K) from this m m 0 _ hm (Nat.le_refl _) (by rw [Nat.zero_add]; exact hK)
  intro f
  induction f with
  | zero =>
    intro m a z hm hf hK
    apply vc_X9_bits_4
    simp (disch := omega) only [Bool.not_eq_false, Bool.not_eq_true, decide_eq_true_eq, decide_eq_false_iff_not, Bool.not_eq_true', Bool.not_eq_false', ax_lle, ax_llt, ax_lel, ax_ltl, ax_leq, ax_eql, ax_clampl, ax_inb_iff, nI_clamp, nI_1, nI_leI, nI_ltI, nI_eq, ax_b0, ax_b1, ax_bitb, ax_ui_eq, ax_ui_ne, true_and, and_true]
    exact ⟨fun _ => hK, fun q => by omega⟩
  | succ f ih =>
    intro m a z hm hf hK
    apply vc_X9_bits_4
    simp (disch := omega) only [Bool.not_eq_false, Bool.not_eq_true, decide_eq_true_eq, decide_eq_false_iff_not, Bool.not_eq_true', Bool.not_eq_false', ax_lle, ax_llt, ax_lel, ax_ltl, ax_leq, ax_eql, ax_clampl, ax_inb_iff, nI_clamp, nI_1, nI_leI, nI_ltI, nI_eq, ax_b0, ax_b1, ax_bitb, ax_ui_eq, ax_ui_ne, true_and, and_true]
    refine ⟨fun q => ?_, fun q => ?_⟩
    · subst q; exact hK
    · obtain ⟨e1, e2⟩ := sw_pc_step m hm q
      rw [e1]
      refine ih _ _ _ (by omega) (by omega) ?_
      unfold sw_pc at hK
      rw [if_neg q] at hK
      rw [Nat.add_assoc]; exact hK
/-- all else of the frames is as it was -/
def sw_FO (k : Nat) (I I' : ax_I) : Prop := ∀ b, b < 31 * k ∨ 31 * k + 31 ≤ b → I' 199 b = I 199 b
theorem sw_FO.fr {k k' j : Nat} {I I' : ax_I} (h : sw_FO k I I') (hk : ¬ k' = k) (hj : j < 31) : sw_fr I' k' j = sw_fr I k' j := h _ (by omega)
theorem rf_copyTo {d k k' : Nat} {I : ax_I} {L : ax_J} {K : ax_I → ax_J → Prop} (hk : k < 10) (hk' : k' < 10) (hkk : ¬ k = k') (hK : ∀ I', (∀ j, j < 31 → sw_fr I' k' j = sw_fr I k j) → sw_FO k' I I' → ax_FR 199 199 I I' → K I' L) : ax_CV (d + 2) 186 [ax_vr 9 0 184, ax_vi (nI k), ax_vi (nI k')] I L K := by
  apply vc_X9_copyTo
  suffices ∀ (n w : Nat) (I1 : ax_I), w + n = 31 → (∀ j, j < w → sw_fr I1 k' j = sw_fr I k j) → sw_FO k' I I1 → ax_FR 199 199 I I1 → ax_AK ((d + 1)) 186 (2, [some (ax_vr 9 0 184), some (ax_vi (nI k)), some (ax_vi (nI k')), some (ax_vi (nI w))], [], ax_mm I1 L) (ax_kv K) from this 31 0 I (by omega) (fun j hj => by omega) (fun _ _ => rfl) ax_FR.refl
  intro n
  induction n with
  | zero =>
    intro w I1 hw h1 h2 h3
    apply vc_X9_copyTo_2
    simp (disch := omega) only [Bool.not_eq_false, Bool.not_eq_true, decide_eq_true_eq, decide_eq_false_iff_not, Bool.not_eq_true', Bool.not_eq_false', ax_lle, ax_llt, ax_lel, ax_ltl, ax_leq, ax_eql, ax_clampl, ax_inb_iff, nI_clamp, nI_1, nI_leI, nI_ltI, nI_eq, ax_b0, ax_b1, ax_bitb, ax_ui_eq, ax_ui_ne, true_and, and_true]
    exact ⟨fun _ => hK I1 (fun j hj => h1 j (by omega)) h2 h3, fun h => by omega⟩
  | succ n ih =>
    intro w I1 hw h1 h2 h3
    apply vc_X9_copyTo_2
    simp (disch := omega) only [Bool.not_eq_false, Bool.not_eq_true, decide_eq_true_eq, decide_eq_false_iff_not, Bool.not_eq_true', Bool.not_eq_false', ax_lle, ax_llt, ax_lel, ax_ltl, ax_leq, ax_eql, ax_clampl, ax_inb_iff, nI_clamp, nI_1, nI_leI, nI_ltI, nI_eq, ax_b0, ax_b1, ax_bitb, ax_ui_eq, ax_ui_ne, true_and, and_true]
    refine ⟨fun h => by omega, fun _ => ?_⟩
    refine rf_v (i := 0) hk (by omega) ?_
    refine rf_set (i := 0) hk' (by omega) ?_
    refine ih _ _ (by omega) ?_ ?_ (h3.ui (Nat.le_refl _) (Nat.le_refl _))
    · intro j hj
      unfold sw_fr
      by_cases q : j = w
      · subst q
        rw [show 31 * k' + (j + 0) = 31 * k' + j from rfl, ax_ui_eq]
        exact h2.fr hkk (by omega)
      · rw [ax_ui_ne (by omega)]; exact h1 j (by omega)
    · intro b hb
      rw [ax_ui_ne (by omega)]; exact h2 b hb
theorem rf_hearsOf {d x N T : Nat} {kd : Nat → Nat} {tl un : Nat → Int32} {W : Nat → Nat → Nat} {I : ax_I} {L : ax_J} {K : Int32 → ax_I → ax_J → Prop} (hT : sw_RT I N T kd tl un W) (hg : sw_TG N T kd tl un) (hx : x < N) (hK : K (sw_hr N kd tl x) I L) : ax_CI (d + 1) 188 [ax_vr 9 0 184, ax_vi (nI x)] I L K := by
  obtain ⟨t1, t2, t3, t4, t5, t6⟩ := hT
  obtain ⟨g1, g2, g3, g4, g5, g6⟩ := hg
  have hk6 := g4 x hx
  apply vc_X9_hearsOf
  simp (disch := omega) only [Bool.not_eq_false, Bool.not_eq_true, decide_eq_true_eq, decide_eq_false_iff_not, Bool.not_eq_true', Bool.not_eq_false', ax_lle, ax_llt, ax_lel, ax_ltl, ax_leq, ax_eql, ax_clampl, ax_inb_iff, nI_clamp, nI_1, nI_leI, nI_ltI, nI_eq, ax_b0, ax_b1, ax_bitb, ax_ui_eq, ax_ui_ne, true_and, and_true, t3 x hx, t4 x hx]
  have zero : sw_ko (kd x) 1 = true → K 0 I L := by
    intro q
    have q2 : sw_ko (kd x) 2 = false := by
      simp [sw_ko] at q ⊢
      omega
    have e : (0 : Int32) = sw_hr N kd tl x := by
      apply ax_bt_ext
      intro i hi
      unfold sw_hr sw_hp
      rw [ax_bt_0, ax_bt_ms (by omega), q, q2]
      simp
    rw [e]; exact hK
  refine ⟨by omega, fun q => zero (by simp [sw_ko, q]), fun q => ⟨fun q2 => ⟨by omega, ?_⟩, fun q2 => zero (by simp [sw_ko, q2])⟩⟩
  have q1 : sw_ko (kd x) 1 = false := by simp [sw_ko]; omega
  have hK : K (ax_it (ax_sb (fun y => sw_ko (kd x) 2 || decide (kd y = 3))) N 0 (tl x) &&& ((1 : Int32) <<< (nI x &&& 31) ^^^ (-1))) I L := by
    have e : sw_hr N kd tl x = ax_it (ax_sb (fun y => sw_ko (kd x) 2 || decide (kd y = 3))) N 0 (tl x) &&& ((1 : Int32) <<< (nI x &&& 31) ^^^ (-1)) := by
      apply ax_bt_ext
      intro i hi
      rw [ax_bt_and, ax_bt_xor, ax_bt_m1 hi, ax_bt_sh (by omega) hi, ax_bt_it hi N 0 _ (by omega), Bool.xor_true]
      unfold sw_hr sw_hp
      rw [ax_bt_ms (by omega), q1]
      by_cases z : i < N
      · simp [z, show i < 6 by omega]
        by_cases y : i = x
        · simp [y]
        · simp [y]
          cases sw_ko (kd x) 2 <;> cases ax_bt (tl x) i <;> simp
      · have : ax_bt (tl x) i = false := by
          cases h : ax_bt (tl x) i with
          | false => rfl
          | true => exact absurd (g5 x hx i hi h).1 z
        simp [z, this]
    rw [← e]; exact hK
  suffices ∀ (n w : Nat) (acc : Int32), w + n = N → K ((ax_it (ax_sb (fun y => sw_ko (kd x) 2 || decide (kd y = 3))) n w acc) &&& ((1 : Int32) <<< (nI x &&& 31) ^^^ (-1))) I L → ax_AK d 188 (29, [some (ax_vr 9 0 184), some (ax_vi (nI x)), some (ax_vi (nI (kd x))), some (ax_vi acc), some (ax_vi (nI w))], [], ax_mm I L) (ax_ki K) from this (N) 0 (tl x) (by omega) hK
  intro n
  induction n with
  | zero =>
    intro w acc hw hK
    apply vc_X9_hearsOf_29
    simp (disch := omega) only [Bool.not_eq_false, Bool.not_eq_true, decide_eq_true_eq, decide_eq_false_iff_not, Bool.not_eq_true', Bool.not_eq_false', ax_lle, ax_llt, ax_lel, ax_ltl, ax_leq, ax_eql, ax_clampl, ax_inb_iff, nI_clamp, nI_1, nI_leI, nI_ltI, nI_eq, ax_b0, ax_b1, ax_bitb, ax_ui_eq, ax_ui_ne, true_and, and_true, t1]
    exact ⟨fun _ => hK, fun h => by omega⟩
  | succ n ih =>
    intro w acc hw hK
    apply vc_X9_hearsOf_29
    simp (disch := omega) only [Bool.not_eq_false, Bool.not_eq_true, decide_eq_true_eq, decide_eq_false_iff_not, Bool.not_eq_true', Bool.not_eq_false', ax_lle, ax_llt, ax_lel, ax_ltl, ax_leq, ax_eql, ax_clampl, ax_inb_iff, nI_clamp, nI_1, nI_leI, nI_ltI, nI_eq, ax_b0, ax_b1, ax_bitb, ax_ui_eq, ax_ui_ne, true_and, and_true, t1]
    refine ⟨fun h => by omega, fun _ => ?_⟩
    replace hK : K ((ax_it (ax_sb (fun y => sw_ko (kd x) 2 || decide (kd y = 3))) n (w + 1) ((ax_sb (fun y => sw_ko (kd x) 2 || decide (kd y = 3))) w acc)) &&& ((1 : Int32) <<< (nI x &&& 31) ^^^ (-1))) I L := hK
    try dsimp only at hK
    rw [t3 w (by omega)]
    have hkw := g4 w (by omega)
    simp (disch := omega) only [Bool.not_eq_false, Bool.not_eq_true, decide_eq_true_eq, decide_eq_false_iff_not, Bool.not_eq_true', Bool.not_eq_false', ax_lle, ax_llt, ax_lel, ax_ltl, ax_leq, ax_eql, ax_clampl, ax_inb_iff, nI_clamp, nI_1, nI_leI, nI_ltI, nI_eq, ax_b0, ax_b1, ax_bitb, ax_ui_eq, ax_ui_ne, true_and, and_true]
    refine ⟨fun z => ih _ _ (by omega) ?_, fun z => ⟨fun z2 => ih _ _ (by omega) ?_, fun z2 => ⟨by omega, fun z3 => ih _ _ (by omega) ?_, fun z3 => ih _ _ (by omega) ?_⟩⟩⟩
    · rw [ax_sb_t (p := fun y => sw_ko (kd x) 2 || decide (kd y = 3)) (by simp [sw_ko, z])] at hK; exact hK
    · rw [ax_sb_t (p := fun y => sw_ko (kd x) 2 || decide (kd y = 3)) (by simp [sw_ko, z2])] at hK; exact hK
    · rw [ax_sb_0 (p := fun y => sw_ko (kd x) 2 || decide (kd y = 3)) (by simp [sw_ko, z, z2, z3])] at hK
      rw [Int32.or_zero]; exact hK
    · rw [ax_sb_t (p := fun y => sw_ko (kd x) 2 || decide (kd y = 3)) (by simp [z3])] at hK; exact hK
theorem rf_grants {d k x w N T : Nat} {kd : Nat → Nat} {tl un : Nat → Int32} {W : Nat → Nat → Nat} {G : sw_G} {I : ax_I} {L : ax_J} {K : Int32 → ax_I → ax_J → Prop} (hT : sw_RT I N T kd tl un W) (hg : sw_TG N T kd tl un) (hF : sw_FG (sw_fr I k) G) (hk : k < 10) (hx : x < N) (hw : w < 6) (hK : K (ax_b (sw_gp kd G x w)) I L) : ax_CI (d + 2) 189 [ax_vr 9 0 184, ax_vi (nI k), ax_vi (nI x), ax_vi (nI w)] I L K := by
  have hN := hg.1
  have hk6 := hg.2.2.2.1 x hx
  apply vc_X9_grants
  refine rf_v (a := 0) hk (by omega) ?_
  rw [Nat.zero_add, hF.1 w hw]
  unfold sw_gp at hK
  refine ax_if (fun h => ⟨by decide, ?_⟩) (fun h => ?_)
  · rw [decide_eq_true h] at hK; exact hK
  rw [decide_eq_false h] at hK
  refine rf_v (a := 6) hk (by omega) ?_
  rw [hF.2.1 w hw]
  refine ax_ifn (fun h2 => ⟨by decide, ?_⟩) (fun h2 => ?_)
  · rw [decide_eq_false h2] at hK; exact hK
  rw [decide_eq_true h2] at hK
  refine ax_ifn (fun h3 => ⟨by decide, ?_⟩) (fun h3 => ?_)
  · rw [decide_eq_false h3] at hK; exact hK
  rw [decide_eq_true h3] at hK
  simp (disch := omega) only [Bool.not_eq_false, Bool.not_eq_true, decide_eq_true_eq, decide_eq_false_iff_not, Bool.not_eq_true', Bool.not_eq_false', ax_lle, ax_llt, ax_lel, ax_ltl, ax_leq, ax_eql, ax_clampl, ax_inb_iff, nI_clamp, nI_1, nI_leI, nI_ltI, nI_eq, ax_b0, ax_b1, ax_bitb, ax_ui_eq, ax_ui_ne, true_and, and_true, hT.2.2.1 x hx]
  refine ⟨by omega, fun h4 => ⟨by decide, ?_⟩, fun h4 => ⟨by decide, ?_⟩⟩
  · rw [decide_eq_false h4] at hK; exact hK
  · rw [decide_eq_true h4] at hK; exact hK
