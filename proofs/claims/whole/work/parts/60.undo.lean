theorem sw_ry_at {kd : Nat → Nat} {f g : Nat → Int32} : ∀ {es : sw_E} (n : Nat), sw_ry kd f g es → n < es.length → sw_FF (fun j => g (31 * n + j)) kd (es.drop (es.length - n))
  | [], n, _, h => by cases h
  | e :: es, n, q, h => by
    have h : n < es.length + 1 := h
    by_cases z : n = es.length
    · subst z
      have : (e :: es).length - es.length = 1 := by show es.length + 1 - es.length = 1; omega
      rw [this]; exact q.2.1
    · have : (e :: es).length - n = (es.length - n) + 1 := by show es.length + 1 - n = _; omega
      rw [this]
      exact sw_ry_at n q.2.2 (by omega)
theorem sw_ry_drop {kd : Nat → Nat} {f g : Nat → Int32} : ∀ (k : Nat) {es : sw_E}, sw_ry kd f g es → sw_ry kd f g (es.drop k)
  | 0, _, h => h
  | k + 1, [], _ => trivial
  | k + 1, _ :: es, h => sw_ry_drop k (es := es) h.2.2
theorem sw_EI.drop {N T : Nat} {es : sw_E} (h : sw_EI N T es) (k : Nat) : sw_EI N T (es.drop k) :=
  ⟨by rw [List.length_drop]; have := h.1; omega, fun e q => h.2 e (List.mem_of_mem_drop q)⟩
theorem op_undo {I : ax_I} {L : ax_J} (h : sw_RR I L) (a : Int32) : sw_OP 106 205 [ax_vi a] I L := by
  intro d
  have h0 := h
  obtain ⟨N, T, kd, tl, un, W, es, h1, h2, h3, h4⟩ := h
  have hE40 := h1.2.2.1.1
  have e9 : I 10 9 = nI es.length := h1.2.2.2.2.2.1.2.2.2.1
  have e27 : I 184 27 = nI es.length := h1.2.2.2.2.2.2.2.2.1
  apply vc_X8_undo
  rw [e9]
  rcases sw_dich (n := es.length + 1) (by omega) a with ⟨n, hn, rfl⟩ | ha
  case inr =>
    have fin : ax_CI (d + 30) 205 [ax_vr 9 0 184, ax_vi a] I L (fun b I2 L2 => (-1 : Int32) = b ∧ sw_RR I2 L2) := by
      apply vc_X9_undo
      rw [e27]
      refine rf_in_no (n := es.length + 1) (by omega) (nI_pred _).symm ha ?_
      exact ⟨(fun q => absurd q (by decide)), fun _ => ⟨rfl, h0⟩⟩
    refine ax_if (fun _ => fin) (fun q0 => ax_if (fun q1 => ?_) (fun _ => fin))
    exfalso
    rcases ha with q | q
    · exact absurd q q0
    · have := Int32.le_trans q q1
      rw [nI_leI (by omega) (by omega)] at this
      omega
  obtain ⟨q1, q2, q3, q4, q5, q6, q7, q8, q9, q10⟩ := h1
  have hN := q1.1
  have hT := q1.2.1
  rw [ax_nI_sub (by omega)]
  simp (disch := omega) only [Bool.not_eq_false, Bool.not_eq_true, decide_eq_true_eq, decide_eq_false_iff_not, Bool.not_eq_true', Bool.not_eq_false', ax_lle, ax_llt, ax_lel, ax_ltl, ax_leq, ax_eql, ax_clampl, ax_inb_iff, nI_clamp, nI_1, nI_leI, nI_ltI, nI_eq, ax_b0, ax_b1, ax_bitb, ax_ui_eq, ax_ui_ne, true_and, and_true]
  refine ⟨fun q => by omega, fun _ => ⟨fun _ => ?_, fun q => by omega⟩⟩
  refine cl_forgetFrom hN hT q6 q3 (by omega) (fun I1 d1 f1 => ?_)
  apply vc_X9_undo
  rw [f1 184 (by omega), e27]
  refine rf_in_k (n := es.length + 1) (by omega) (nI_pred _).symm hn ?_
  refine ⟨fun _ => ?_, (fun q => absurd q (by decide))⟩
  rw [f1 184 (by omega), e27, ax_nI_sub (by omega)]
  have hlen : (es.drop (es.length - n)).length = n := by rw [List.length_drop]; omega
  /- the end of it -/
  have fin : ∀ I2 : ax_I, ax_FR 199 199 I1 I2 → (0 < N → sw_FF (sw_fr I2 0) kd (es.drop (es.length - n))) → sw_RR (ax_ui I2 184 27 (nI n)) L := by
    intro I2 f2 F2
    have fd : ∀ a, ¬ a = 184 → ¬ a = 199 → ax_ui I2 184 27 (nI n) a = I1 a := fun a z1 z2 => by rw [ax_ui_row z1, f2 a (by omega)]
    have fe : ∀ a, ¬ a = 184 → ¬ a = 199 → (a < 10 ∨ 24 < a) → ax_ui I2 184 27 (nI n) a = I a := fun a z1 z2 z3 => by rw [fd a z1 z2, f1 a z3]
    have f184 : ∀ b, ¬ b = 27 → ax_ui I2 184 27 (nI n) 184 b = I 184 b := fun b z1 => by rw [ax_ui_ne (by omega), f2 _ (by omega), f1 _ (by omega)]
    refine ⟨N, T, kd, tl, un, W, es.drop (es.length - n), ⟨q1, q2, q3.drop _, q4.frame (fe _ (by omega) (by omega) (by omega)) (fe _ (by omega) (by omega) (by omega)), q5.frame (fun a _ _ => fe _ (by omega) (by omega) (by omega)), d1.frame (fun a _ _ => fd _ (by omega) (by omega)), q7.frame (f184 _ (by omega)) (f184 _ (by omega)) (fe _ (by omega) (by omega) (by omega)) (fe _ (by omega) (by omega) (by omega)) (fe _ (by omega) (by omega) (by omega)) (fe _ (by omega) (by omega) (by omega)), fun hN => (F2 hN).same (fun j hj => by unfold sw_fr; rw [ax_ui_ne (by omega)]), by rw [ax_ui_eq, hlen], by rw [fe _ (by omega) (by omega) (by omega), fe _ (by omega) (by omega) (by omega)]; exact sw_ry_drop _ q10⟩, fun k hk => (h2 k hk).frame hk (fun a q => fe _ (by omega) (by omega) (by omega)), h3.frame (fun a q => fe _ (by omega) (by omega) (by omega)), h4.frame (by rw [fe _ (by omega) (by omega) (by omega)]) (f184 _ (by omega)) (fe _ (by omega) (by omega) (by omega)) (fe _ (by omega) (by omega) (by omega)) (by rw [fe _ (by omega) (by omega) (by omega)]) (f184 _ (by omega))⟩
  by_cases hz : n = es.length
  · apply vc_X9_undo_23
    have e0 : es.length - n = 0 := by omega
    rw [e0]
    simp (disch := omega) only [Bool.not_eq_false, Bool.not_eq_true, decide_eq_true_eq, decide_eq_false_iff_not, Bool.not_eq_true', Bool.not_eq_false', ax_lle, ax_llt, ax_lel, ax_ltl, ax_leq, ax_eql, ax_clampl, ax_inb_iff, nI_clamp, nI_1, nI_leI, nI_ltI, nI_eq, ax_b0, ax_b1, ax_bitb, ax_ui_eq, ax_ui_ne, true_and, and_true]
    refine ⟨fun q => absurd q (by decide), fun _ => ⟨fun _ => ?_, fun q => absurd (Nat.le_refl 0) q⟩⟩
    refine fin I1 ax_FR.refl (fun hN => ?_)
    rw [e0]
    exact (q8 hN).same (fun j hj => by unfold sw_fr; rw [f1 199 (by omega)])
  · suffices ∀ (j i : Nat) (I2 : ax_I), i + j = 31 → (∀ b, b < i → sw_fr I2 0 b = I 201 (31 * n + b)) → ax_FR 199 199 I1 I2 → ax_AK ((d + 29)) 205 (23, [some (ax_vr 9 0 184), some (ax_vi (nI n)), some (ax_vi (nI (es.length - n))), some (ax_vi (nI i))], [], ax_mm I2 L) (ax_ki (fun b I2 L2 => nI (es.length - n) = b ∧ sw_RR I2 L2)) from this 31 0 I1 (by omega) (fun b hb => by omega) ax_FR.refl
    intro j
    induction j with
    | zero =>
      intro i I2 hi g2 f2
      apply vc_X9_undo_23
      simp (disch := omega) only [Bool.not_eq_false, Bool.not_eq_true, decide_eq_true_eq, decide_eq_false_iff_not, Bool.not_eq_true', Bool.not_eq_false', ax_lle, ax_llt, ax_lel, ax_ltl, ax_leq, ax_eql, ax_clampl, ax_inb_iff, nI_clamp, nI_1, nI_leI, nI_ltI, nI_eq, ax_b0, ax_b1, ax_bitb, ax_ui_eq, ax_ui_ne, true_and, and_true]
      refine ⟨fun _ => fin I2 f2 (fun hN => ?_), fun q => by omega⟩
      exact (sw_ry_at n q10 (by omega)).same (fun j hj => g2 j (by omega))
    | succ j ih =>
      intro i I2 hi g2 f2
      apply vc_X9_undo_23
      simp (disch := omega) only [Bool.not_eq_false, Bool.not_eq_true, decide_eq_true_eq, decide_eq_false_iff_not, Bool.not_eq_true', Bool.not_eq_false', ax_lle, ax_llt, ax_lel, ax_ltl, ax_leq, ax_eql, ax_clampl, ax_inb_iff, nI_clamp, nI_1, nI_leI, nI_ltI, nI_eq, ax_b0, ax_b1, ax_bitb, ax_ui_eq, ax_ui_ne, true_and, and_true, ax_lmul, nI_add]
      refine ⟨fun q => by omega, fun _ => ⟨fun q => by omega, fun _ => ⟨by omega, ?_⟩⟩⟩
      refine rf_set (k := 0) (i := 0) (by omega) (by omega) ?_
      refine ih _ _ (by omega) ?_ (f2.ui (by omega) (by omega))
      intro b hb
      unfold sw_fr
      by_cases q : b = i
      · subst q; rw [show 31 * 0 + (b + 0) = 31 * 0 + b from rfl, ax_ui_eq, f2 201 (by omega), f1 201 (by omega)]
      · rw [ax_ui_ne (by omega)]; exact g2 b (by omega)
theorem rf_canSet {d x N T : Nat} {kd : Nat → Nat} {tl un : Nat → Int32} {W : Nat → Nat → Nat} {G : sw_G} {I : ax_I} {L : ax_J} {K : Int32 → ax_I → ax_J → Prop} (hT : sw_RT I N T kd tl un W) (hg : sw_TG N T kd tl un) (hF : sw_FG (sw_fr I 0) G) (hx : x < N) (hK : K (ax_ms T (sw_gp kd G x)) I L) : ax_CI (d + 3) 206 [ax_vr 9 0 184, ax_vi (nI x)] I L K := by
  have hT6 := hg.2.1
  apply vc_X9_canSet
  suffices ∀ (n w : Nat) (acc : Int32), w + n = T → K (ax_it (ax_sb (sw_gp kd G x)) n w acc) I L → ax_AK ((d + 2)) 206 (4, [some (ax_vr 9 0 184), some (ax_vi (nI x)), some (ax_vi acc), some (ax_vi (nI w))], [], ax_mm I L) (ax_ki K) from this (T) 0 (0) (by omega) hK
  intro n
  induction n with
  | zero =>
    intro w acc hw hK
    apply vc_X9_canSet_4
    simp (disch := omega) only [Bool.not_eq_false, Bool.not_eq_true, decide_eq_true_eq, decide_eq_false_iff_not, Bool.not_eq_true', Bool.not_eq_false', ax_lle, ax_llt, ax_lel, ax_ltl, ax_leq, ax_eql, ax_clampl, ax_inb_iff, nI_clamp, nI_1, nI_leI, nI_ltI, nI_eq, ax_b0, ax_b1, ax_bitb, ax_ui_eq, ax_ui_ne, true_and, and_true, hT.2.1]
    exact ⟨fun _ => hK, fun h => by omega⟩
  | succ n ih =>
    intro w acc hw hK
    apply vc_X9_canSet_4
    simp (disch := omega) only [Bool.not_eq_false, Bool.not_eq_true, decide_eq_true_eq, decide_eq_false_iff_not, Bool.not_eq_true', Bool.not_eq_false', ax_lle, ax_llt, ax_lel, ax_ltl, ax_leq, ax_eql, ax_clampl, ax_inb_iff, nI_clamp, nI_1, nI_leI, nI_ltI, nI_eq, ax_b0, ax_b1, ax_bitb, ax_ui_eq, ax_ui_ne, true_and, and_true, hT.2.1]
    refine ⟨fun h => by omega, fun _ => ?_⟩
    replace hK : K (ax_it (ax_sb (sw_gp kd G x)) n (w + 1) ((ax_sb (sw_gp kd G x)) w acc)) I L := hK
    try dsimp only at hK
    refine rf_grants (k := 0) hT hg hF (by omega) hx (by omega) ?_
    simp (disch := omega) only [Bool.not_eq_false, Bool.not_eq_true, decide_eq_true_eq, decide_eq_false_iff_not, Bool.not_eq_true', Bool.not_eq_false', ax_lle, ax_llt, ax_lel, ax_ltl, ax_leq, ax_eql, ax_clampl, ax_inb_iff, nI_clamp, nI_1, nI_leI, nI_ltI, nI_eq, ax_b0, ax_b1, ax_bitb, ax_ui_eq, ax_ui_ne, true_and, and_true]
    refine ⟨fun q => ?_, fun q => ih _ _ (by omega) ?_⟩
    · rw [Int32.or_zero]
      refine ih _ _ (by omega) ?_
      rw [ax_sb_0 q] at hK; exact hK
    · rw [ax_sb_t q] at hK; exact hK
theorem rf_wantSet {d x N T : Nat} {kd : Nat → Nat} {tl un : Nat → Int32} {W : Nat → Nat → Nat} {I : ax_I} {L : ax_J} {K : Int32 → ax_I → ax_J → Prop} (hT : sw_RT I N T kd tl un W) (hT6 : T ≤ 6) (hW : ∀ x w, W x w ≤ 9) (hx : x < 6) (hK : K (ax_ms T (fun w => decide (0 < W x w))) I L) : ax_CI (d + 1) 207 [ax_vr 9 0 184, ax_vi (nI x)] I L K := by
  apply vc_X9_wantSet
  suffices ∀ (n w : Nat) (acc : Int32), w + n = T → K (ax_it (ax_sb (fun w => decide (0 < W x w))) n w acc) I L → ax_AK d 207 (4, [some (ax_vr 9 0 184), some (ax_vi (nI x)), some (ax_vi acc), some (ax_vi (nI w))], [], ax_mm I L) (ax_ki K) from this (T) 0 (0) (by omega) hK
  intro n
  induction n with
  | zero =>
    intro w acc hw hK
    apply vc_X9_wantSet_4
    simp (disch := omega) only [Bool.not_eq_false, Bool.not_eq_true, decide_eq_true_eq, decide_eq_false_iff_not, Bool.not_eq_true', Bool.not_eq_false', ax_lle, ax_llt, ax_lel, ax_ltl, ax_leq, ax_eql, ax_clampl, ax_inb_iff, nI_clamp, nI_1, nI_leI, nI_ltI, nI_eq, ax_b0, ax_b1, ax_bitb, ax_ui_eq, ax_ui_ne, true_and, and_true, hT.2.1]
    exact ⟨fun _ => hK, fun h => by omega⟩
  | succ n ih =>
    intro w acc hw hK
    apply vc_X9_wantSet_4
    simp (disch := omega) only [Bool.not_eq_false, Bool.not_eq_true, decide_eq_true_eq, decide_eq_false_iff_not, Bool.not_eq_true', Bool.not_eq_false', ax_lle, ax_llt, ax_lel, ax_ltl, ax_leq, ax_eql, ax_clampl, ax_inb_iff, nI_clamp, nI_1, nI_leI, nI_ltI, nI_eq, ax_b0, ax_b1, ax_bitb, ax_ui_eq, ax_ui_ne, true_and, and_true, hT.2.1]
    refine ⟨fun h => by omega, fun _ => ?_⟩
    replace hK : K (ax_it (ax_sb (fun w => decide (0 < W x w))) n (w + 1) ((ax_sb (fun w => decide (0 < W x w))) w acc)) I L := hK
    try dsimp only at hK
    have hw9 := hW x w
    have e := hT.2.2.2.2.1 x hx w (by omega)
    simp (disch := omega) only [Bool.not_eq_false, Bool.not_eq_true, decide_eq_true_eq, decide_eq_false_iff_not, Bool.not_eq_true', Bool.not_eq_false', ax_lle, ax_llt, ax_lel, ax_ltl, ax_leq, ax_eql, ax_clampl, ax_inb_iff, nI_clamp, nI_1, nI_leI, nI_ltI, nI_eq, ax_b0, ax_b1, ax_bitb, ax_ui_eq, ax_ui_ne, true_and, and_true, ax_lmul, nI_add, e]
    refine ⟨by omega, fun q => ?_, fun q => ih _ _ (by omega) ?_⟩
    · rw [Int32.or_zero]
      refine ih _ _ (by omega) ?_
      rw [ax_sb_0 (decide_eq_false (by omega))] at hK; exact hK
    · rw [ax_sb_t (decide_eq_true (by omega))] at hK; exact hK
theorem op_can {I : ax_I} {L : ax_J} (h : sw_RR I L) (a : Int32) : sw_OP 107 208 [ax_vi a] I L := by
  intro d
  have h0 := h
  obtain ⟨N, T, kd, tl, un, W, es, h1, h2, h3, h4⟩ := h
  have hN := h1.1.1
  obtain ⟨q1, q2, q3, q4, q5, q6, q7, q8, q9, q10⟩ := h1
  apply vc_X8_can
  rcases sw_dich (n := N) (by omega) a with ⟨x, hx, rfl⟩ | ha
  · refine cl_hasOne_k q5.1 (by omega) hx ?_
    refine ⟨(fun q => absurd q (by decide)), fun _ => ?_⟩
    refine cl_grantableBy q4 q5 q1 q6.1 hx ?_
    apply vc_X9_can
    refine rf_isOne_k q7.1 hN hx ?_
    refine ⟨(fun q => absurd q (by decide)), fun _ => ?_⟩
    exact rf_canSet q7 q1 (q8 (by omega)).1 hx ⟨rfl, h0⟩
  · refine cl_hasOne_no q5.1 ha ?_
    refine ⟨fun _ => ?_, (fun q => absurd q (by decide))⟩
    apply vc_X9_can
    refine rf_isOne_no q7.1 hN ha ?_
    exact ⟨fun _ => ⟨rfl, h0⟩, (fun q => absurd q (by decide))⟩
theorem op_knows {I : ax_I} {L : ax_J} (h : sw_RR I L) (a : Int32) : sw_OP 108 209 [ax_vi a] I L := by
  intro d
  have h0 := h
  obtain ⟨N, T, kd, tl, un, W, es, h1, h2, h3, h4⟩ := h
  have hN := h1.1.1
  have hT := h1.1.2.1
  obtain ⟨q1, q2, q3, q4, q5, q6, q7, q8, q9, q10⟩ := h1
  apply vc_X8_knows
  rcases sw_dich (n := N) (by omega) a with ⟨x, hx, rfl⟩ | ha
  · refine cl_hasOne_k q5.1 (by omega) hx ?_
    refine ⟨fun _ => ?_, (fun q => absurd q (by decide))⟩
    refine cl_grantableBy q4 q5 q1 q6.1 hx ?_
    refine cl_heardOfBy q6.2.2.1 (by omega) ?_
    refine cl_wantedBy q6.1 q2.1 (by omega) ?_
    apply vc_X9_knows
    refine rf_isOne_k q7.1 hN hx ?_
    refine ⟨(fun q => absurd q (by decide)), fun _ => ?_⟩
    refine rf_canSet q7 q1 (q8 (by omega)).1 hx ?_
    refine rf_wantSet q7 hT q2.1 (by omega) ?_
    refine rf_v (k := 0) (a := 24) (by omega) (by omega) ?_
    rw [(q8 (by omega)).2.2 x (by omega)]
    refine ⟨?_, h0⟩
    apply ax_bt_ext
    intro i hi
    simp only [ax_bt_and]
    rw [ax_bt_ms (by omega), ax_bt_ms (by omega), ax_bt_ms (by omega), ax_bt_ms (by omega)]
    by_cases z : i < T
    · rw [decide_eq_true z, decide_eq_true (show i < 6 by omega)]
      cases sw_gp kd (sw_rp kd es) x i <;> cases decide (0 < W x i) <;> cases ax_bt (sw_he kd es i) x <;> rfl
    · rw [decide_eq_false z]; simp
  · refine cl_hasOne_no q5.1 ha ?_
    refine ⟨(fun q => absurd q (by decide)), fun _ => ?_⟩
    apply vc_X9_knows
    refine rf_isOne_no q7.1 hN ha ?_
    exact ⟨fun _ => ⟨rfl, h0⟩, (fun q => absurd q (by decide))⟩
theorem op_dusk {I : ax_I} {L : ax_J} (h : sw_RR I L) : sw_OP 109 210 [] I L := by
  intro d
  have h0 := h
  obtain ⟨N, T, kd, tl, un, W, es, h1, h2, h3, h4⟩ := h
  have hN := h1.1.1
  have hT := h1.1.2.1
  have hG := h1.GI
  have h6 : ∀ v, v ∈ (sw_rp kd es).2.2 → v < 6 := fun v hv => by have := hG.2.2.2.1 v hv; omega
  have h1t := fun v => h1.t3 (v := v)
  obtain ⟨q1, q2, q3, q4, q5, q6, q7, q8, q9, q10⟩ := h1
  apply vc_X8_dusk
  refine cl_holding q5 q6.1 h6 hG.len ?_
  suffices ∀ (j x acc : Nat), x + j = N → acc = ax_it (fun x a => a + sw_gn W un (sw_rp kd es) x) x 0 0 → ax_AK ((d + 29)) 109 (16, [some (ax_vr 8 0 3), some (ax_vi (sw_hd un (sw_rp kd es).2.2)), some (ax_vi (nI acc)), some (ax_vi (nI x))], [], ax_mm I L) (ax_ki (fun a I1 L1 => ax_CI (d + 30) 210 [ax_vr 9 0 184] I1 L1 (fun b I2 L2 => a = b ∧ sw_RR I2 L2))) from this N 0 0 (by omega) rfl
  intro j
  induction j with
  | zero =>
    intro x acc hx hacc
    have hx : x = N := by omega
    subst hx
    apply vc_X8_dusk_16
    rw [q5.1]
    simp (disch := omega) only [Bool.not_eq_false, Bool.not_eq_true, decide_eq_true_eq, decide_eq_false_iff_not, Bool.not_eq_true', Bool.not_eq_false', ax_lle, ax_llt, ax_lel, ax_ltl, ax_leq, ax_eql, ax_clampl, ax_inb_iff, nI_clamp, nI_1, nI_leI, nI_ltI, nI_eq, ax_b0, ax_b1, ax_bitb, ax_ui_eq, ax_ui_ne, true_and, and_true]
    refine ⟨fun _ => ?_, fun q => by omega⟩
    apply vc_X9_dusk
    obtain ⟨q1', q2', q3', q4', q5', q6', q7', q8', q9', q10'⟩ := h1t (nI acc)
    suffices ∀ (j y c : Nat), y + j = x → c = ax_it (fun x a => a + sw_gn W un (sw_rp kd es) x) y 0 0 → ax_AK ((d + 29)) 210 (4, [some (ax_vr 9 0 184), some (ax_vi (nI c)), some (ax_vi (nI y))], [], ax_mm (ax_ui I 3 13 (nI acc)) L) (ax_ki (fun b I2 L2 => sw_hd un (sw_rp kd es).2.2 = b ∧ sw_RR I2 L2)) from this x 0 0 (by omega) rfl
    intro j
    induction j with
    | zero =>
      intro y c hy hc
      have hy : y = x := by omega
      subst hy
      have hc : c = acc := by rw [hc, hacc]
      subst hc
      apply vc_X9_dusk_4
      rw [q7'.1]
      simp (disch := omega) only [Bool.not_eq_false, Bool.not_eq_true, decide_eq_true_eq, decide_eq_false_iff_not, Bool.not_eq_true', Bool.not_eq_false', ax_lle, ax_llt, ax_lel, ax_ltl, ax_leq, ax_eql, ax_clampl, ax_inb_iff, nI_clamp, nI_1, nI_leI, nI_ltI, nI_eq, ax_b0, ax_b1, ax_bitb, ax_ui_eq, ax_ui_ne, true_and, and_true]
      refine ⟨fun _ => ⟨fun hne => ?_, fun he => ?_⟩, fun q => by omega⟩
      · refine rf_holds (k := 0) q7' hT (q8' (by omega)).1 hG (by omega) ?_
        apply vc_X9_tells
        exact ⟨rfl, h0.tell⟩
      · apply vc_X9_tells
        refine ⟨?_, h0.tell⟩
        have : es = [] := by
          cases es with
          | nil => rfl
          | cons e es => have := (q3.2 e List.mem_cons_self).1; omega
        rw [this]; rfl
    | succ j ih =>
      intro y c hy hc
      apply vc_X9_dusk_4
      rw [q7'.1]
      simp (disch := omega) only [Bool.not_eq_false, Bool.not_eq_true, decide_eq_true_eq, decide_eq_false_iff_not, Bool.not_eq_true', Bool.not_eq_false', ax_lle, ax_llt, ax_lel, ax_ltl, ax_leq, ax_eql, ax_clampl, ax_inb_iff, nI_clamp, nI_1, nI_leI, nI_ltI, nI_eq, ax_b0, ax_b1, ax_bitb, ax_ui_eq, ax_ui_ne, true_and, and_true]
      refine ⟨fun q => by omega, fun _ => ?_⟩
      refine rf_gainOf (k := 0) q7' hT (q8' (by omega)).1 hG (by omega) (by omega) ?_
      rw [nI_add]
      refine ih _ _ (by omega) ?_
      rw [ax_it_succ, Nat.zero_add, ← hc]
  | succ j ih =>
    intro x acc hx hacc
    apply vc_X8_dusk_16
    rw [q5.1]
    simp (disch := omega) only [Bool.not_eq_false, Bool.not_eq_true, decide_eq_true_eq, decide_eq_false_iff_not, Bool.not_eq_true', Bool.not_eq_false', ax_lle, ax_llt, ax_lel, ax_ltl, ax_leq, ax_eql, ax_clampl, ax_inb_iff, nI_clamp, nI_1, nI_leI, nI_ltI, nI_eq, ax_b0, ax_b1, ax_bitb, ax_ui_eq, ax_ui_ne, true_and, and_true]
    refine ⟨fun q => by omega, fun _ => ?_⟩
    refine cl_hasOf q6.1 ?_
    refine cl_worthOf q6.1 (by omega) ?_
    have e : ax_it (fun w a => if ax_bt (sw_hd un (sw_rp kd es).2.2 &&& ax_ms 6 (fun w => decide ((sw_rp kd es).2.1 w = nI x))) w then a + W x w else a) 6 0 0 = sw_gn W un (sw_rp kd es) x := by
      rw [← sw_gn_eq]
      refine ax_it_congr 6 0 0 (fun i a _ _ => ?_)
      rw [ax_bt_and, ax_bt_and, Bool.and_comm]
    rw [e, nI_add]
    refine ih _ _ (by omega) ?_
    rw [ax_it_succ, Nat.zero_add, ← hacc]
