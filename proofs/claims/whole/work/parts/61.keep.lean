/-- copying a run of ints: the reference's loops -/
theorem rf_keepLoop {d k n : Nat} {I : ax_I} {L : ax_J} {K : Int32 → ax_I → ax_J → Prop} (hk : k < 3) (hn : n ≤ 40) (h27 : I 184 27 = nI n) (hK : ∀ I', (∀ j, j < 31 → I' 204 (31 * k + j) = sw_fr I 0 j) → (∀ b, b < 31 * k ∨ 31 * k + 31 ≤ b → I' 204 b = I 204 b) → (∀ j, j < 36 → I' 205 (36 * k + j) = I 193 j) → (∀ b, b < 36 * k ∨ 36 * k + 36 ≤ b → I' 205 b = I 205 b) → (∀ j, j < n → I' 206 (40 * k + j) = I 200 j) → (∀ b, b < 40 * k ∨ 40 * k + 40 ≤ b → I' 206 b = I 206 b) → (∀ j, j < 31 * n → I' 207 (1240 * k + j) = I 201 j) → (∀ b, b < 1240 * k ∨ 1240 * k + 1240 ≤ b → I' 207 b = I 207 b) → ax_FR 204 207 I I' → K (nI n) I' L) : ax_AK ((d + 1)) 211 (40, [some (ax_vr 9 0 184), some (ax_vi (nI k)), some (ax_vi 0)], [], ax_mm I L) (ax_ki K) := by
  suffices ∀ (j i : Nat) (I1 : ax_I), i + j = 31 → (∀ e, e < i → I1 204 (31 * k + e) = sw_fr I 0 e) → (∀ b, b < 31 * k ∨ 31 * k + 31 ≤ b → I1 204 b = I 204 b) → ax_FR 204 204 I I1 → ax_AK ((d + 1)) 211 (40, [some (ax_vr 9 0 184), some (ax_vi (nI k)), some (ax_vi (nI i))], [], ax_mm I1 L) (ax_ki K) from this 31 0 I (by omega) (fun e he => by omega) (fun _ _ => rfl) ax_FR.refl
  intro j
  induction j with
  | succ j ih =>
    intro i I1 hi h1 h2 f1
    apply vc_X9_keep_40
    simp (disch := omega) only [Bool.not_eq_false, Bool.not_eq_true, decide_eq_true_eq, decide_eq_false_iff_not, Bool.not_eq_true', Bool.not_eq_false', ax_lle, ax_llt, ax_lel, ax_ltl, ax_leq, ax_eql, ax_clampl, ax_inb_iff, nI_clamp, nI_1, nI_leI, nI_ltI, nI_eq, ax_b0, ax_b1, ax_bitb, ax_ui_eq, ax_ui_ne, true_and, and_true, ax_lmul, nI_add]
    refine ⟨fun q => by omega, fun _ => ?_⟩
    refine rf_v (k := 0) (i := 0) (by omega) (by omega) ?_
    refine ⟨by omega, ih _ _ (by omega) ?_ ?_ (f1.ui (by omega) (by omega))⟩
    · intro e he
      by_cases q : e = i
      · subst q; rw [ax_ui_eq]; unfold sw_fr; rw [f1 199 (by omega)]; rfl
      · rw [ax_ui_ne (by omega)]; exact h1 e (by omega)
    · intro b hb; rw [ax_ui_ne (by omega)]; exact h2 b hb
  | zero =>
    intro i I1 hi h1 h2 f1
    apply vc_X9_keep_40
    simp (disch := omega) only [Bool.not_eq_false, Bool.not_eq_true, decide_eq_true_eq, decide_eq_false_iff_not, Bool.not_eq_true', Bool.not_eq_false', ax_lle, ax_llt, ax_lel, ax_ltl, ax_leq, ax_eql, ax_clampl, ax_inb_iff, nI_clamp, nI_1, nI_leI, nI_ltI, nI_eq, ax_b0, ax_b1, ax_bitb, ax_ui_eq, ax_ui_ne, true_and, and_true]
    refine ⟨fun _ => ?_, fun q => by omega⟩
    clear hi
    suffices ∀ (j i : Nat) (I2 : ax_I), i + j = 36 → (∀ e, e < i → I2 205 (36 * k + e) = I 193 e) → (∀ b, b < 36 * k ∨ 36 * k + 36 ≤ b → I2 205 b = I 205 b) → ax_FR 205 205 I1 I2 → ax_AK ((d + 1)) 211 (72, [some (ax_vr 9 0 184), some (ax_vi (nI k)), some (ax_vi (nI i))], [], ax_mm I2 L) (ax_ki K) from this 36 0 I1 (by omega) (fun e he => by omega) (fun b _ => by rw [f1 205 (by omega)]) ax_FR.refl
    intro j
    induction j with
    | succ j ih =>
      intro i I2 hi g1 g2 f2
      apply vc_X9_keep_72
      simp (disch := omega) only [Bool.not_eq_false, Bool.not_eq_true, decide_eq_true_eq, decide_eq_false_iff_not, Bool.not_eq_true', Bool.not_eq_false', ax_lle, ax_llt, ax_lel, ax_ltl, ax_leq, ax_eql, ax_clampl, ax_inb_iff, nI_clamp, nI_1, nI_leI, nI_ltI, nI_eq, ax_b0, ax_b1, ax_bitb, ax_ui_eq, ax_ui_ne, true_and, and_true, ax_lmul, nI_add]
      refine ⟨fun q => by omega, fun _ => ⟨by omega, by omega, ih _ _ (by omega) ?_ ?_ (f2.ui (by omega) (by omega))⟩⟩
      · intro e he
        by_cases q : e = i
        · subst q; rw [ax_ui_eq, f2 193 (by omega), f1 193 (by omega)]
        · rw [ax_ui_ne (by omega)]; exact g1 e (by omega)
      · intro b hb; rw [ax_ui_ne (by omega)]; exact g2 b hb
    | zero =>
      intro i I2 hi g1 g2 f2
      apply vc_X9_keep_72
      simp (disch := omega) only [Bool.not_eq_false, Bool.not_eq_true, decide_eq_true_eq, decide_eq_false_iff_not, Bool.not_eq_true', Bool.not_eq_false', ax_lle, ax_llt, ax_lel, ax_ltl, ax_leq, ax_eql, ax_clampl, ax_inb_iff, nI_clamp, nI_1, nI_leI, nI_ltI, nI_eq, ax_b0, ax_b1, ax_bitb, ax_ui_eq, ax_ui_ne, true_and, and_true]
      refine ⟨fun _ => ?_, fun q => by omega⟩
      clear hi
      suffices ∀ (j i : Nat) (I3 : ax_I), i + j = n → (∀ e, e < i → I3 206 (40 * k + e) = I 200 e) → (∀ b, b < 40 * k ∨ 40 * k + 40 ≤ b → I3 206 b = I 206 b) → ax_FR 206 206 I2 I3 → ax_AK ((d + 1)) 211 (103, [some (ax_vr 9 0 184), some (ax_vi (nI k)), some (ax_vi (nI i))], [], ax_mm I3 L) (ax_ki K) from this n 0 I2 (by omega) (fun e he => by omega) (fun b _ => by rw [f2 206 (by omega), f1 206 (by omega)]) ax_FR.refl
      intro j
      induction j with
      | succ j ih =>
        intro i I3 hi k1 k2 f3
        apply vc_X9_keep_103
        rw [f3 184 (by omega), f2 184 (by omega), f1 184 (by omega), h27]
        simp (disch := omega) only [Bool.not_eq_false, Bool.not_eq_true, decide_eq_true_eq, decide_eq_false_iff_not, Bool.not_eq_true', Bool.not_eq_false', ax_lle, ax_llt, ax_lel, ax_ltl, ax_leq, ax_eql, ax_clampl, ax_inb_iff, nI_clamp, nI_1, nI_leI, nI_ltI, nI_eq, ax_b0, ax_b1, ax_bitb, ax_ui_eq, ax_ui_ne, true_and, and_true, ax_lmul, nI_add]
        refine ⟨fun q => by omega, fun _ => ⟨by omega, by omega, ih _ _ (by omega) ?_ ?_ (f3.ui (by omega) (by omega))⟩⟩
        · intro e he
          by_cases q : e = i
          · subst q; rw [ax_ui_eq, f3 200 (by omega), f2 200 (by omega), f1 200 (by omega)]
          · rw [ax_ui_ne (by omega)]; exact k1 e (by omega)
        · intro b hb; rw [ax_ui_ne (by omega)]; exact k2 b hb
      | zero =>
        intro i I3 hi k1 k2 f3
        apply vc_X9_keep_103
        rw [f3 184 (by omega), f2 184 (by omega), f1 184 (by omega), h27]
        simp (disch := omega) only [Bool.not_eq_false, Bool.not_eq_true, decide_eq_true_eq, decide_eq_false_iff_not, Bool.not_eq_true', Bool.not_eq_false', ax_lle, ax_llt, ax_lel, ax_ltl, ax_leq, ax_eql, ax_clampl, ax_inb_iff, nI_clamp, nI_1, nI_leI, nI_ltI, nI_eq, ax_b0, ax_b1, ax_bitb, ax_ui_eq, ax_ui_ne, true_and, and_true]
        refine ⟨fun _ => ?_, fun q => by omega⟩
        have hi : i = n := by omega
        subst hi
        suffices ∀ (j c : Nat) (I4 : ax_I), c + j = 31 * i → (∀ e, e < c → I4 207 (1240 * k + e) = I 201 e) → (∀ b, b < 1240 * k ∨ 1240 * k + 1240 ≤ b → I4 207 b = I 207 b) → ax_FR 207 207 I3 I4 → ax_AK ((d + 1)) 211 (136, [some (ax_vr 9 0 184), some (ax_vi (nI k)), some (ax_vi (nI c))], [], ax_mm I4 L) (ax_ki K) from this (31 * i) 0 I3 (by omega) (fun e he => by omega) (fun b _ => by rw [f3 207 (by omega), f2 207 (by omega), f1 207 (by omega)]) ax_FR.refl
        intro j
        induction j with
        | succ j ih =>
          intro c I4 hc l1 l2 f4
          apply vc_X9_keep_136
          rw [f4 184 (by omega), f3 184 (by omega), f2 184 (by omega), f1 184 (by omega), h27]
          simp (disch := omega) only [Bool.not_eq_false, Bool.not_eq_true, decide_eq_true_eq, decide_eq_false_iff_not, Bool.not_eq_true', Bool.not_eq_false', ax_lle, ax_llt, ax_lel, ax_ltl, ax_leq, ax_eql, ax_clampl, ax_inb_iff, nI_clamp, nI_1, nI_leI, nI_ltI, nI_eq, ax_b0, ax_b1, ax_bitb, ax_ui_eq, ax_ui_ne, true_and, and_true, ax_lmul, nI_add]
          refine ⟨fun q => by omega, fun _ => ⟨by omega, by omega, ih _ _ (by omega) ?_ ?_ (f4.ui (by omega) (by omega))⟩⟩
          · intro e he
            by_cases q : e = c
            · subst q; rw [ax_ui_eq, f4 201 (by omega), f3 201 (by omega), f2 201 (by omega), f1 201 (by omega)]
            · rw [ax_ui_ne (by omega)]; exact l1 e (by omega)
          · intro b hb; rw [ax_ui_ne (by omega)]; exact l2 b hb
        | zero =>
          intro c I4 hc l1 l2 f4
          apply vc_X9_keep_136
          rw [f4 184 (by omega), f3 184 (by omega), f2 184 (by omega), f1 184 (by omega), h27]
          simp (disch := omega) only [Bool.not_eq_false, Bool.not_eq_true, decide_eq_true_eq, decide_eq_false_iff_not, Bool.not_eq_true', Bool.not_eq_false', ax_lle, ax_llt, ax_lel, ax_ltl, ax_leq, ax_eql, ax_clampl, ax_inb_iff, nI_clamp, nI_1, nI_leI, nI_ltI, nI_eq, ax_b0, ax_b1, ax_bitb, ax_ui_eq, ax_ui_ne, true_and, and_true, ax_lmul]
          refine ⟨fun _ => hK I4 ?_ ?_ ?_ ?_ ?_ ?_ (fun e he => l1 e (by omega)) l2 ?_, fun q => by omega⟩
          · intro e he; rw [f4 204 (by omega), f3 204 (by omega), f2 204 (by omega)]; exact h1 e (by omega)
          · intro e he; rw [f4 204 (by omega), f3 204 (by omega), f2 204 (by omega)]; exact h2 e he
          · intro e he; rw [f4 205 (by omega), f3 205 (by omega)]; exact g1 e (by omega)
          · intro e he; rw [f4 205 (by omega), f3 205 (by omega)]; exact g2 e he
          · intro e he; rw [f4 206 (by omega)]; exact k1 e (by omega)
          · intro e he; rw [f4 206 (by omega)]; exact k2 e he
          · exact (((f1.wide (by omega) (by omega)).trans (f2.wide (by omega) (by omega))).trans (f3.wide (by omega) (by omega))).trans (f4.wide (by omega) (by omega))
theorem sw_36 {f : Nat → Int32} {W : Nat → Nat → Nat} {g : Nat → Int32} (h : ∀ x, x < 6 → ∀ w, w < 6 → f (6 * x + w) = nI (W x w)) (hg : ∀ j, j < 36 → g j = f j) : ∀ x, x < 6 → ∀ w, w < 6 → g (6 * x + w) = nI (W x w) := fun x hx w hw => by rw [hg _ (by omega)]; exact h x hx w hw
theorem op_keep {I : ax_I} {L : ax_J} (h : sw_RR I L) (a : Int32) : sw_OP 110 211 [ax_vi a] I L := by
  intro d
  have h0 := h
  obtain ⟨N, T, kd, tl, un, W, es, h1, h2, h3, h4⟩ := h
  obtain ⟨q1, q2, q3, q4, q5, q6, q7, q8, q9, q10⟩ := h1
  have hN := q1.1
  have hT := q1.2.1
  apply vc_X8_keep
  rcases sw_dich (n := 3) (by omega) a with ⟨k, hk, rfl⟩ | ha
  case inr =>
    refine cl_isPlace_no ha ?_
    refine ⟨(fun q => absurd q (by decide)), fun _ => ?_⟩
    apply vc_X9_keep
    refine rf_in_no (n := 3) (by omega) (by decide) ha ?_
    exact ⟨(fun q => absurd q (by decide)), fun _ => ⟨rfl, h0⟩⟩
  refine cl_isPlace_k hk ?_
  refine ⟨fun _ => ?_, (fun q => absurd q (by decide))⟩
  rw [q5.1]
  simp (disch := omega) only [Bool.not_eq_false, Bool.not_eq_true, decide_eq_true_eq, decide_eq_false_iff_not, Bool.not_eq_true', Bool.not_eq_false', ax_lle, ax_llt, ax_lel, ax_ltl, ax_leq, ax_eql, ax_clampl, ax_inb_iff, nI_clamp, nI_1, nI_leI, nI_ltI, nI_eq, ax_b0, ax_b1, ax_bitb, ax_ui_eq, ax_ui_ne, true_and, and_true]
  refine ⟨fun hN0 => ⟨by omega, ?_⟩, fun hN0 => ?_⟩
  · refine cl_become q6 hN hT q3 (by omega) (fun I1 d1 f1 => ?_)
    have fc : ∀ a, ¬ a = 26 → (a < 25 + (114 + 15 * k) ∨ 25 + (114 + 15 * k) + 14 < a) → ax_ui I1 26 k 1 a = I a := fun a z1 z2 => by rw [ax_ui_row z1, f1 a z2]
    refine ⟨by rw [ax_inb_nI hk (by omega)]; rfl, ?_⟩
    have e109 : I1 10 9 = nI es.length := by rw [f1 10 (by omega)]; exact q6.2.2.2.1
    rw [e109]
    apply vc_X9_keep
    refine rf_in_k (n := 3) (by omega) (by decide) hk ?_
    refine ⟨fun _ => ?_, (fun q => absurd q (by decide))⟩
    rw [ax_ui_ne (a := 184) (b := 10) (by omega), f1 184 (by omega), q7.1]
    simp (disch := omega) only [Bool.not_eq_false, Bool.not_eq_true, decide_eq_true_eq, decide_eq_false_iff_not, Bool.not_eq_true', Bool.not_eq_false', ax_lle, ax_llt, ax_lel, ax_ltl, ax_leq, ax_eql, ax_clampl, ax_inb_iff, nI_clamp, nI_1, nI_leI, nI_ltI, nI_eq, ax_b0, ax_b1, ax_bitb, ax_ui_eq, ax_ui_ne, true_and, and_true, ax_ui_ne]
    refine ⟨fun _ => ⟨by rw [ax_inb_nI hk (by omega)]; rfl, by omega, ?_⟩, fun q => absurd q hN0⟩
    rw [f1 184 (by omega), q9]
    generalize hI2 : ax_ui (ax_ui (ax_ui I1 26 k 1) 202 k 1) 203 k (nI es.length) = I2
    have fr2 : ∀ a, ¬ a = 26 → ¬ a = 202 → ¬ a = 203 → (a < 25 + (114 + 15 * k) ∨ 25 + (114 + 15 * k) + 14 < a) → I2 a = I a := fun a z1 z2 z3 z4 => by rw [← hI2, ax_ui_row z3, ax_ui_row z2, fc a z1 z4]
    refine rf_keepLoop (d := d + 28) hk q3.1 (by rw [fr2 _ (by omega) (by omega) (by omega) (by omega)]; exact q9) (fun I3 m1 m2 m3 m4 m5 m6 m7 m8 f3 => ⟨rfl, ?_⟩)
    have fr3 : ∀ a, ¬ a = 26 → ¬ a = 202 → ¬ a = 203 → (a < 25 + (114 + 15 * k) ∨ 25 + (114 + 15 * k) + 14 < a) → (a < 204 ∨ 207 < a) → I3 a = I a := fun a z1 z2 z3 z4 z5 => by rw [f3 a z5, fr2 a z1 z2 z3 z4]
    have hx : ∀ a, a = 1 ∨ a = 2 ∨ (6 ≤ a ∧ a ≤ 24) ∨ (191 ≤ a ∧ a ≤ 194) ∨ a = 200 ∨ a = 201 → I3 a = I a := fun a q => fr3 a (by omega) (by omega) (by omega) (by omega) (by omega)
    have TW3 : sw_TW I3 N T kd tl un W es := sw_TW.frame ⟨q1, q2, q3, q4, q5, q6, q7, q8, q9, q10⟩ hx (by rw [fr3 _ (by omega) (by omega) (by omega) (by omega) (by omega)]) (by rw [fr3 _ (by omega) (by omega) (by omega) (by omega) (by omega)]) (by rw [fr3 _ (by omega) (by omega) (by omega) (by omega) (by omega)]) (fun b _ => by rw [fr3 _ (by omega) (by omega) (by omega) (by omega) (by omega)])
    refine ⟨N, T, kd, tl, un, W, es, TW3, fun c hc => ?_, h3.frame (fun a q => fr3 a (by omega) (by omega) (by omega) (by omega) (by omega)), h4.frame (by rw [fr3 _ (by omega) (by omega) (by omega) (by omega) (by omega)]) (by rw [fr3 _ (by omega) (by omega) (by omega) (by omega) (by omega)]) (fr3 _ (by omega) (by omega) (by omega) (by omega) (by omega)) (fr3 _ (by omega) (by omega) (by omega) (by omega) (by omega)) (by rw [fr3 _ (by omega) (by omega) (by omega) (by omega) (by omega)]) (by rw [fr3 _ (by omega) (by omega) (by omega) (by omega) (by omega)])⟩
    by_cases e : c = k
    · subst e
      refine .inr ⟨?_, ?_, W, es, q2, q3, d1.frame (fun a z1 z2 => ?_), ?_, ?_, ?_, ?_⟩
      · rw [f3 _ (by omega), ← hI2, ax_ui_ne (by omega), ax_ui_ne (by omega), ax_ui_eq]
      · rw [f3 _ (by omega), ← hI2, ax_ui_ne (by omega), ax_ui_eq]
      · rw [f3 _ (by omega), ← hI2, ax_ui_row (by omega), ax_ui_row (by omega), ax_ui_row (by omega)]
      · rw [f3 _ (by omega), ← hI2, ax_ui_eq]
      · refine (q8 (by omega)).same (fun j hj => ?_)
        show I3 204 (31 * c + j) = _
        rw [m1 j hj]; unfold sw_fr; rw [fr2 199 (by omega) (by omega) (by omega) (by omega)]
      · exact sw_36 (f := I 193) q7.2.2.2.2.1 (g := fun j => I3 205 (36 * c + j)) (fun j hj => by show I3 205 _ = _; rw [m3 j hj, fr2 193 (by omega) (by omega) (by omega) (by omega)])
      · refine sw_ry_up (k := es.length) (fun b hb => ?_) (fun b hb => ?_) es (Nat.le_refl _) q10
        · rw [m5 b hb, fr2 200 (by omega) (by omega) (by omega) (by omega)]
        · rw [m7 b hb, fr2 201 (by omega) (by omega) (by omega) (by omega)]
    · have hr : I3 26 c = I 26 c ∧ I3 202 c = I 202 c ∧ I3 203 c = I 203 c := by
        rw [f3 26 (by omega), f3 202 (by omega), f3 203 (by omega), ← hI2]
        refine ⟨?_, ?_, ?_⟩
        · rw [ax_ui_ne (by omega), ax_ui_ne (by omega), ax_ui_ne (by omega), f1 _ (by omega)]
        · rw [ax_ui_ne (by omega), ax_ui_ne (by omega), ax_ui_ne (by omega), f1 _ (by omega)]
        · rw [ax_ui_ne (by omega), ax_ui_ne (by omega), ax_ui_ne (by omega), f1 _ (by omega)]
      unfold sw_KP
      rw [hr.1, hr.2.1, hr.2.2]
      rcases h2 c hc with z | ⟨z1, z2, W', es', z3, z4, z5, z6, z7, z8, z9⟩
      · exact .inl z
      · refine .inr ⟨z1, z2, W', es', z3, z4, z5.frame (fun a g1 g2 => fr3 a (by omega) (by omega) (by omega) (by omega) (by omega)), z6, z7.same (fun j hj => ?_), fun x hx w hw => ?_, sw_ry_up (k := es'.length) (fun b hb => ?_) (fun b hb => ?_) es' (Nat.le_refl _) z9⟩
        · rw [m2 _ (by omega), fr2 204 (by omega) (by omega) (by omega) (by omega)]
        · rw [m4 _ (by omega), fr2 205 (by omega) (by omega) (by omega) (by omega)]; exact z8 x hx w hw
        · have := z4.1
          rw [m6 _ (by omega), fr2 206 (by omega) (by omega) (by omega) (by omega)]
        · have := z4.1
          rw [m8 _ (by omega), fr2 207 (by omega) (by omega) (by omega) (by omega)]
  · apply vc_X9_keep
    refine rf_in_k (n := 3) (by omega) (by decide) hk ?_
    refine ⟨fun _ => ?_, (fun q => absurd q (by decide))⟩
    rw [q7.1]
    simp (disch := omega) only [Bool.not_eq_false, Bool.not_eq_true, decide_eq_true_eq, decide_eq_false_iff_not, Bool.not_eq_true', Bool.not_eq_false', ax_lle, ax_llt, ax_lel, ax_ltl, ax_leq, ax_eql, ax_clampl, ax_inb_iff, nI_clamp, nI_1, nI_leI, nI_ltI, nI_eq, ax_b0, ax_b1, ax_bitb, ax_ui_eq, ax_ui_ne, true_and, and_true]
    exact ⟨fun q => absurd hN0 q, fun _ => h0⟩
