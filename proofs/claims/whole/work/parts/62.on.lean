theorem rf_onLoop {d k n : Nat} {I : ax_I} {L : ax_J} {K : Int32 → ax_I → ax_J → Prop} (hk : k < 3) (hn : n ≤ 40) (h27 : I 184 27 = nI n) (hK : ∀ I', (∀ j, j < 31 → sw_fr I' 0 j = I 204 (31 * k + j)) → (∀ j, j < 36 → I' 193 j = I 205 (36 * k + j)) → (∀ j, j < n → I' 200 j = I 206 (40 * k + j)) → (∀ j, j < 31 * n → I' 201 j = I 207 (1240 * k + j)) → (∀ a, ¬ a = 193 → ¬ a = 199 → ¬ a = 200 → ¬ a = 201 → I' a = I a) → K (nI n) I' L) : ax_AK ((d + 1)) 212 (38, [some (ax_vr 9 0 184), some (ax_vi (nI k)), some (ax_vi 0)], [], ax_mm I L) (ax_ki K) := by
  suffices ∀ (j i : Nat) (I1 : ax_I), i + j = 31 → (∀ e, e < i → sw_fr I1 0 e = I 204 (31 * k + e)) → ax_FR 199 199 I I1 → ax_AK ((d + 1)) 212 (38, [some (ax_vr 9 0 184), some (ax_vi (nI k)), some (ax_vi (nI i))], [], ax_mm I1 L) (ax_ki K) from this 31 0 I (by omega) (fun e he => by omega) ax_FR.refl
  intro j
  induction j with
  | succ j ih =>
    intro i I1 hi h1 f1
    apply vc_X9_on_38
    simp (disch := omega) only [Bool.not_eq_false, Bool.not_eq_true, decide_eq_true_eq, decide_eq_false_iff_not, Bool.not_eq_true', Bool.not_eq_false', ax_lle, ax_llt, ax_lel, ax_ltl, ax_leq, ax_eql, ax_clampl, ax_inb_iff, nI_clamp, nI_1, nI_leI, nI_ltI, nI_eq, ax_b0, ax_b1, ax_bitb, ax_ui_eq, ax_ui_ne, true_and, and_true, ax_lmul, nI_add]
    refine ⟨fun q => by omega, fun _ => ⟨by omega, ?_⟩⟩
    refine rf_set (k := 0) (i := 0) (by omega) (by omega) ?_
    refine ih _ _ (by omega) ?_ (f1.ui (by omega) (by omega))
    intro e he
    unfold sw_fr
    by_cases q : e = i
    · subst q; rw [show 31 * 0 + (e + 0) = 31 * 0 + e from rfl, ax_ui_eq, f1 204 (by omega)]
    · rw [ax_ui_ne (by omega)]; exact h1 e (by omega)
  | zero =>
    intro i I1 hi h1 f1
    apply vc_X9_on_38
    simp (disch := omega) only [Bool.not_eq_false, Bool.not_eq_true, decide_eq_true_eq, decide_eq_false_iff_not, Bool.not_eq_true', Bool.not_eq_false', ax_lle, ax_llt, ax_lel, ax_ltl, ax_leq, ax_eql, ax_clampl, ax_inb_iff, nI_clamp, nI_1, nI_leI, nI_ltI, nI_eq, ax_b0, ax_b1, ax_bitb, ax_ui_eq, ax_ui_ne, true_and, and_true]
    refine ⟨fun _ => ?_, fun q => by omega⟩
    suffices ∀ (j i : Nat) (I2 : ax_I), i + j = 36 → (∀ e, e < i → I2 193 e = I 205 (36 * k + e)) → ax_FR 193 193 I1 I2 → ax_AK ((d + 1)) 212 (70, [some (ax_vr 9 0 184), some (ax_vi (nI k)), some (ax_vi (nI i))], [], ax_mm I2 L) (ax_ki K) from this 36 0 I1 (by omega) (fun e he => by omega) ax_FR.refl
    intro j
    induction j with
    | succ j ih =>
      intro i I2 hi g1 f2
      apply vc_X9_on_70
      simp (disch := omega) only [Bool.not_eq_false, Bool.not_eq_true, decide_eq_true_eq, decide_eq_false_iff_not, Bool.not_eq_true', Bool.not_eq_false', ax_lle, ax_llt, ax_lel, ax_ltl, ax_leq, ax_eql, ax_clampl, ax_inb_iff, nI_clamp, nI_1, nI_leI, nI_ltI, nI_eq, ax_b0, ax_b1, ax_bitb, ax_ui_eq, ax_ui_ne, true_and, and_true, ax_lmul, nI_add]
      refine ⟨fun q => by omega, fun _ => ⟨by omega, by omega, ih _ _ (by omega) ?_ (f2.ui (by omega) (by omega))⟩⟩
      intro e he
      by_cases q : e = i
      · subst q; rw [ax_ui_eq, f2 205 (by omega), f1 205 (by omega)]
      · rw [ax_ui_ne (by omega)]; exact g1 e (by omega)
    | zero =>
      intro i I2 hi g1 f2
      apply vc_X9_on_70
      simp (disch := omega) only [Bool.not_eq_false, Bool.not_eq_true, decide_eq_true_eq, decide_eq_false_iff_not, Bool.not_eq_true', Bool.not_eq_false', ax_lle, ax_llt, ax_lel, ax_ltl, ax_leq, ax_eql, ax_clampl, ax_inb_iff, nI_clamp, nI_1, nI_leI, nI_ltI, nI_eq, ax_b0, ax_b1, ax_bitb, ax_ui_eq, ax_ui_ne, true_and, and_true]
      refine ⟨fun _ => ?_, fun q => by omega⟩
      suffices ∀ (j i : Nat) (I3 : ax_I), i + j = n → (∀ e, e < i → I3 200 e = I 206 (40 * k + e)) → ax_FR 200 200 I2 I3 → ax_AK ((d + 1)) 212 (101, [some (ax_vr 9 0 184), some (ax_vi (nI k)), some (ax_vi (nI i))], [], ax_mm I3 L) (ax_ki K) from this n 0 I2 (by omega) (fun e he => by omega) ax_FR.refl
      intro j
      induction j with
      | succ j ih =>
        intro i I3 hi k1 f3
        apply vc_X9_on_101
        rw [f3 184 (by omega), f2 184 (by omega), f1 184 (by omega), h27]
        simp (disch := omega) only [Bool.not_eq_false, Bool.not_eq_true, decide_eq_true_eq, decide_eq_false_iff_not, Bool.not_eq_true', Bool.not_eq_false', ax_lle, ax_llt, ax_lel, ax_ltl, ax_leq, ax_eql, ax_clampl, ax_inb_iff, nI_clamp, nI_1, nI_leI, nI_ltI, nI_eq, ax_b0, ax_b1, ax_bitb, ax_ui_eq, ax_ui_ne, true_and, and_true, ax_lmul, nI_add]
        refine ⟨fun q => by omega, fun _ => ⟨by omega, by omega, ih _ _ (by omega) ?_ (f3.ui (by omega) (by omega))⟩⟩
        intro e he
        by_cases q : e = i
        · subst q; rw [ax_ui_eq, f3 206 (by omega), f2 206 (by omega), f1 206 (by omega)]
        · rw [ax_ui_ne (by omega)]; exact k1 e (by omega)
      | zero =>
        intro i I3 hi k1 f3
        apply vc_X9_on_101
        rw [f3 184 (by omega), f2 184 (by omega), f1 184 (by omega), h27]
        simp (disch := omega) only [Bool.not_eq_false, Bool.not_eq_true, decide_eq_true_eq, decide_eq_false_iff_not, Bool.not_eq_true', Bool.not_eq_false', ax_lle, ax_llt, ax_lel, ax_ltl, ax_leq, ax_eql, ax_clampl, ax_inb_iff, nI_clamp, nI_1, nI_leI, nI_ltI, nI_eq, ax_b0, ax_b1, ax_bitb, ax_ui_eq, ax_ui_ne, true_and, and_true]
        refine ⟨fun _ => ?_, fun q => by omega⟩
        have hi : i = n := by omega
        subst hi
        suffices ∀ (j c : Nat) (I4 : ax_I), c + j = 31 * i → (∀ e, e < c → I4 201 e = I 207 (1240 * k + e)) → ax_FR 201 201 I3 I4 → ax_AK ((d + 1)) 212 (134, [some (ax_vr 9 0 184), some (ax_vi (nI k)), some (ax_vi (nI c))], [], ax_mm I4 L) (ax_ki K) from this (31 * i) 0 I3 (by omega) (fun e he => by omega) ax_FR.refl
        intro j
        induction j with
        | succ j ih =>
          intro c I4 hc l1 f4
          apply vc_X9_on_134
          rw [f4 184 (by omega), f3 184 (by omega), f2 184 (by omega), f1 184 (by omega), h27]
          simp (disch := omega) only [Bool.not_eq_false, Bool.not_eq_true, decide_eq_true_eq, decide_eq_false_iff_not, Bool.not_eq_true', Bool.not_eq_false', ax_lle, ax_llt, ax_lel, ax_ltl, ax_leq, ax_eql, ax_clampl, ax_inb_iff, nI_clamp, nI_1, nI_leI, nI_ltI, nI_eq, ax_b0, ax_b1, ax_bitb, ax_ui_eq, ax_ui_ne, true_and, and_true, ax_lmul, nI_add]
          refine ⟨fun q => by omega, fun _ => ⟨by omega, by omega, ih _ _ (by omega) ?_ (f4.ui (by omega) (by omega))⟩⟩
          intro e he
          by_cases q : e = c
          · subst q; rw [ax_ui_eq, f4 207 (by omega), f3 207 (by omega), f2 207 (by omega), f1 207 (by omega)]
          · rw [ax_ui_ne (by omega)]; exact l1 e (by omega)
        | zero =>
          intro c I4 hc l1 f4
          apply vc_X9_on_134
          rw [f4 184 (by omega), f3 184 (by omega), f2 184 (by omega), f1 184 (by omega), h27]
          simp (disch := omega) only [Bool.not_eq_false, Bool.not_eq_true, decide_eq_true_eq, decide_eq_false_iff_not, Bool.not_eq_true', Bool.not_eq_false', ax_lle, ax_llt, ax_lel, ax_ltl, ax_leq, ax_eql, ax_clampl, ax_inb_iff, nI_clamp, nI_1, nI_leI, nI_ltI, nI_eq, ax_b0, ax_b1, ax_bitb, ax_ui_eq, ax_ui_ne, true_and, and_true, ax_lmul]
          refine ⟨fun _ => hK I4 ?_ ?_ ?_ (fun e he => l1 e (by omega)) ?_, fun q => by omega⟩
          · intro e he; unfold sw_fr; rw [f4 199 (by omega), f3 199 (by omega), f2 199 (by omega)]; exact h1 e (by omega)
          · intro e he; rw [f4 193 (by omega), f3 193 (by omega)]; exact g1 e (by omega)
          · intro e he; rw [f4 200 (by omega)]; exact k1 e (by omega)
          · intro a z1 z2 z3 z4; rw [f4 a (by omega), f3 a (by omega), f2 a (by omega), f1 a (by omega)]
theorem op_on {I : ax_I} {L : ax_J} (h : sw_RR I L) (a : Int32) : sw_OP 111 212 [ax_vi a] I L := by
  intro d
  have h0 := h
  obtain ⟨N, T, kd, tl, un, W, es, h1, h2, h3, h4⟩ := h
  obtain ⟨q1, q2, q3, q4, q5, q6, q7, q8, q9, q10⟩ := h1
  have hN := q1.1
  have hT := q1.2.1
  apply vc_X8_on
  rcases sw_dich (n := 3) (by omega) a with ⟨k, hk, rfl⟩ | ha
  case inr =>
    refine cl_isPlace_no ha ?_
    refine ⟨(fun q => absurd q (by decide)), fun _ => ?_⟩
    apply vc_X9_on
    refine rf_in_no (n := 3) (by omega) (by decide) ha ?_
    exact ⟨(fun q => absurd q (by decide)), fun _ => ⟨rfl, h0⟩⟩
  refine cl_isPlace_k hk ?_
  refine ⟨fun _ => ⟨ax_inb_nI hk (by omega), ?_⟩, (fun q => absurd q (by decide))⟩
  rw [nI_clamp (by omega)]
  rcases h2 k hk with ⟨z1, z2⟩ | ⟨z1, z2, W', es', z3, z4, z5, z6, z7, z8, z9⟩
  · rw [z1]
    refine ⟨(fun q => absurd q (by decide)), fun _ => ?_⟩
    refine cl_find (f := 1) (by omega) ?_
    apply vc_X9_on
    refine rf_in_k (n := 3) (by omega) (by decide) hk ?_
    refine ⟨fun _ => ⟨ax_inb_nI hk (by omega), ?_⟩, (fun q => absurd q (by decide))⟩
    have e : sw_fC I 1 202 k = 0 := by unfold sw_fC; rw [ax_ui_ne (by omega), ax_ui_ne (by omega)]; exact z2
    rw [nI_clamp (by omega), e]
    refine ⟨(fun q => absurd q (by decide)), fun _ => ?_⟩
    exact rf_meets (f := 1) (by omega) ⟨rfl, h0.find (by omega)⟩
  · rw [z1]
    refine ⟨fun _ => ⟨ax_inb_nI hk (by omega), ?_⟩, (fun q => absurd q (by decide))⟩
    refine cl_become z5 hN hT z4 (by omega) (fun I1 d1 f1 => ?_)
    have e109 : I1 10 9 = nI es'.length := d1.2.2.2.1
    rw [e109]
    apply vc_X9_on
    refine rf_in_k (n := 3) (by omega) (by decide) hk ?_
    refine ⟨fun _ => ⟨ax_inb_nI hk (by omega), ?_⟩, (fun q => absurd q (by decide))⟩
    rw [nI_clamp (by omega), f1 202 (by omega), z2, f1 203 (by omega), z6]
    refine ⟨fun _ => ⟨ax_inb_nI hk (by omega), ?_⟩, (fun q => absurd q (by decide))⟩
    generalize hI2 : ax_ui I1 184 27 (nI es'.length) = I2
    have fr2 : ∀ a, ¬ a = 184 → (a < 10 ∨ 24 < a) → I2 a = I a := fun a z1 z2 => by rw [← hI2, ax_ui_row z1, f1 a z2]
    refine rf_onLoop (d := d + 28) hk z4.1 (by rw [← hI2, ax_ui_eq]) (fun I3 m1 m2 m3 m4 f3 => ⟨rfl, ?_⟩)
    have fr3 : ∀ a, ¬ a = 193 → ¬ a = 199 → ¬ a = 200 → ¬ a = 201 → ¬ a = 184 → (a < 10 ∨ 24 < a) → I3 a = I a := fun a z1 z2 z3 z4 z5 z6 => by rw [f3 a z1 z2 z3 z4, fr2 a z5 z6]
    have f184 : ∀ b, ¬ b = 27 → I3 184 b = I 184 b := fun b hb => by rw [f3 _ (by omega) (by omega) (by omega) (by omega), ← hI2, ax_ui_ne (by omega), f1 _ (by omega)]
    refine ⟨N, T, kd, tl, un, W', es', ⟨q1, z3, z4, q4.frame (fr3 _ (by omega) (by omega) (by omega) (by omega) (by omega) (by omega)) (fr3 _ (by omega) (by omega) (by omega) (by omega) (by omega) (by omega)), q5.frame (fun a _ _ => fr3 _ (by omega) (by omega) (by omega) (by omega) (by omega) (by omega)), d1.frame (fun a _ _ => ?_), ?_, fun hN => z7.same (fun j hj => ?_), ?_, ?_⟩, fun k hk => (h2 k hk).frame hk (fun a q => fr3 a (by omega) (by omega) (by omega) (by omega) (by omega) (by omega)), h3.frame (fun a q => fr3 a (by omega) (by omega) (by omega) (by omega) (by omega) (by omega)), h4.frame (by rw [fr3 _ (by omega) (by omega) (by omega) (by omega) (by omega) (by omega)]) (f184 _ (by omega)) (fr3 _ (by omega) (by omega) (by omega) (by omega) (by omega) (by omega)) (fr3 _ (by omega) (by omega) (by omega) (by omega) (by omega) (by omega)) (by rw [fr3 _ (by omega) (by omega) (by omega) (by omega) (by omega) (by omega)]) (f184 _ (by omega))⟩
    · rw [f3 a (by omega) (by omega) (by omega) (by omega), ← hI2, ax_ui_row (by omega)]
    · obtain ⟨g1, g2, g3, g4, g5, g6⟩ := q7
      refine ⟨by rw [f184 _ (by omega)]; exact g1, by rw [f184 _ (by omega)]; exact g2, fun x hx => by rw [fr3 _ (by omega) (by omega) (by omega) (by omega) (by omega) (by omega)]; exact g3 x hx, fun x hx => by rw [fr3 _ (by omega) (by omega) (by omega) (by omega) (by omega) (by omega)]; exact g4 x hx, ?_, fun x hx => by rw [fr3 _ (by omega) (by omega) (by omega) (by omega) (by omega) (by omega)]; exact g6 x hx⟩
      exact sw_36 (f := fun j => I 205 (36 * k + j)) z8 (g := I3 193) (fun j hj => by rw [m2 j hj, fr2 205 (by omega) (by omega)])
    · rw [m1 j hj, fr2 204 (by omega) (by omega)]
    · rw [f3 _ (by omega) (by omega) (by omega) (by omega), ← hI2, ax_ui_eq]
    · refine sw_ry_up (k := es'.length) (fun b hb => ?_) (fun b hb => ?_) es' (Nat.le_refl _) z9
      · rw [m3 b hb, fr2 206 (by omega) (by omega)]
      · rw [m4 b hb, fr2 207 (by omega) (by omega)]
