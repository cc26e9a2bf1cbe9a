def sw_wu (W : Nat → Nat → Nat) (x w v : Nat) : Nat → Nat → Nat := fun a b => if a = x ∧ b = w then v else W a b
theorem op_want {I : ax_I} {L : ax_J} (h : sw_RR I L) (a b c : Int32) : sw_OP 103 201 [ax_vi a, ax_vi b, ax_vi c] I L := by
  intro d
  have h0 := h
  obtain ⟨N, T, kd, tl, un, W, es, h1, h2, h3, h4⟩ := h
  have hN := h1.1.1
  have hT := h1.1.2.1
  have c1 := h1.2.2.2.2.1.1
  have c2 := h1.2.2.2.2.1.2.1
  have r1 := h1.2.2.2.2.2.2.1.1
  have r2 := h1.2.2.2.2.2.2.1.2.1
  apply vc_X8_want
  rcases sw_dich (n := N) (by omega) a with ⟨x, hx, rfl⟩ | ha
  case inr =>
    refine cl_hasOne_no c1 ha ?_
    refine ⟨fun _ => ?_, (fun q => absurd q (by decide))⟩
    apply vc_X9_want
    refine rf_isOne_no r1 hN ha ?_
    exact ⟨fun _ => ⟨rfl, h0⟩, (fun q => absurd q (by decide))⟩
  refine cl_hasOne_k c1 (by omega) hx ?_
  refine ⟨(fun q => absurd q (by decide)), fun _ => ?_⟩
  rcases sw_dich (n := T) (by omega) b with ⟨w, hw, rfl⟩ | hb
  case inr =>
    refine cl_hasThing_no c2 hb ?_
    refine ⟨fun _ => ?_, (fun q => absurd q (by decide))⟩
    apply vc_X9_want
    refine rf_isOne_k r1 hN hx ?_
    refine ⟨(fun q => absurd q (by decide)), fun _ => ?_⟩
    refine rf_isThing_no r2 hT hb ?_
    exact ⟨fun _ => ⟨rfl, h0⟩, (fun q => absurd q (by decide))⟩
  refine cl_hasThing_k c2 (by omega) hw ?_
  refine ⟨(fun q => absurd q (by decide)), fun _ => ?_⟩
  rcases sw_dich (n := 10) (by omega) c with ⟨v, hv, rfl⟩ | hc
  case inr =>
    have fin : ax_CI (d + 30) 201 [ax_vr 9 0 184, ax_vi (nI x), ax_vi (nI w), ax_vi c] I L (fun b I2 L2 => (-1 : Int32) = b ∧ sw_RR I2 L2) := by
      apply vc_X9_want
      refine rf_isOne_k r1 hN hx ?_
      refine ⟨(fun q => absurd q (by decide)), fun _ => ?_⟩
      refine rf_isThing_k r2 hT hw ?_
      refine ⟨(fun q => absurd q (by decide)), fun _ => ?_⟩
      refine rf_in_no (n := 10) (by omega) (by decide) hc ?_
      exact ⟨(fun q => absurd q (by decide)), fun _ => ⟨rfl, h0⟩⟩
    refine ax_if (fun _ => fin) (fun q0 => ax_if (fun q1 => ?_) (fun _ => fin))
    exfalso
    rcases hc with q | q
    · exact absurd q q0
    · exact absurd (Int32.le_trans q q1) (by decide)
  obtain ⟨q1, q2, q3, q4, q5, q6, q7, q8, q9, q10⟩ := h1
  have e12 : I (11 + (1 + x)) w = nI (W x w) := q6.1.1 x (by omega) w (by omega)
  have e193 : I 193 (6 * x + w) = nI (W x w) := q7.2.2.2.2.1 x (by omega) w (by omega)
  simp (disch := omega) only [Bool.not_eq_false, Bool.not_eq_true, decide_eq_true_eq, decide_eq_false_iff_not, Bool.not_eq_true', Bool.not_eq_false', ax_lle, ax_llt, ax_lel, ax_ltl, ax_leq, ax_eql, ax_clampl, ax_inb_iff, nI_clamp, nI_1, nI_leI, nI_ltI, nI_eq, ax_b0, ax_b1, ax_bitb, ax_ui_eq, ax_ui_ne, true_and, and_true]
  refine ⟨fun q => by omega, fun _ => ⟨fun _ => ⟨by omega, by omega, by omega, by omega, ?_⟩, fun q => by omega⟩⟩
  apply vc_X9_want
  refine rf_isOne_k (by rw [ax_ui_ne (by omega)]; exact r1) hN hx ?_
  refine ⟨(fun q => absurd q (by decide)), fun _ => ?_⟩
  refine rf_isThing_k (by rw [ax_ui_ne (by omega)]; exact r2) hT hw ?_
  refine ⟨(fun q => absurd q (by decide)), fun _ => ?_⟩
  refine rf_in_k (n := 10) (by omega) (by decide) hv ?_
  simp (disch := omega) only [Bool.not_eq_false, Bool.not_eq_true, decide_eq_true_eq, decide_eq_false_iff_not, Bool.not_eq_true', Bool.not_eq_false', ax_lle, ax_llt, ax_lel, ax_ltl, ax_leq, ax_eql, ax_clampl, ax_inb_iff, nI_clamp, nI_1, nI_leI, nI_ltI, nI_eq, ax_b0, ax_b1, ax_bitb, ax_ui_eq, ax_ui_ne, true_and, and_true, ax_lmul, nI_add]
  refine ⟨fun _ => ⟨by omega, by omega, ?_⟩, (fun q => absurd q (by decide))⟩
  refine ⟨by rw [e12, e193], N, T, kd, tl, un, sw_wu W x w v, es, ?_, fun k hk => (h2 k hk).frame hk (fun a q => by rw [ax_ui_row (by omega), ax_ui_row (by omega)]), h3.frame (fun a q => by rw [ax_ui_row (by omega), ax_ui_row (by omega)]), h4.frame (by rw [ax_ui_ne (by omega), ax_ui_ne (by omega)]) (by rw [ax_ui_ne (by omega), ax_ui_ne (by omega)]) (by rw [ax_ui_row (by omega), ax_ui_row (by omega)]) (by rw [ax_ui_row (by omega), ax_ui_row (by omega)]) (by rw [ax_ui_ne (by omega), ax_ui_ne (by omega)]) (by rw [ax_ui_ne (by omega), ax_ui_ne (by omega)])⟩
  have fr : ∀ a, ¬ a = 11 + (1 + x) → ¬ a = 193 → ax_ui (ax_ui I (11 + (1 + x)) w (nI v)) 193 (6 * x + w) (nI v) a = I a := fun a z1 z2 => by rw [ax_ui_row z2, ax_ui_row z1]
  refine ⟨q1, ?_, q3, q4.frame (fr _ (by omega) (by omega)) (fr _ (by omega) (by omega)), q5.frame (fun a _ _ => fr a (by omega) (by omega)), ?_, ?_, fun hN => (q8 hN).same (fun j hj => by unfold sw_fr; rw [fr _ (by omega) (by omega)]), by rw [fr _ (by omega) (by omega)]; exact q9, by rw [fr _ (by omega) (by omega), fr _ (by omega) (by omega)]; exact q10⟩
  · refine ⟨fun a b => ?_, fun a b hb => ?_⟩
    · unfold sw_wu
      split
      · omega
      · exact q2.1 a b
    · unfold sw_wu
      rw [if_neg (by omega)]
      exact q2.2 a b hb
  · obtain ⟨⟨g1, g2, g3, g4, g5⟩, g6, g7, g8, g9⟩ := q6
    refine ⟨⟨fun a ha b hb => ?_, fun b hb => by rw [fr _ (by omega) (by omega)]; exact g2 b hb, fun b hb => by rw [fr _ (by omega) (by omega)]; exact g3 b hb, by rw [fr _ (by omega) (by omega)]; exact g4, by rw [fr _ (by omega) (by omega)]; exact g5⟩, fun b hb => by rw [fr _ (by omega) (by omega)]; exact g6 b hb, fun b hb => by rw [fr _ (by omega) (by omega)]; exact g7 b hb, by rw [fr _ (by omega) (by omega)]; exact g8, by rw [fr _ (by omega) (by omega), fr _ (by omega) (by omega)]; exact g9⟩
    unfold sw_wu
    by_cases z : a = x ∧ b = w
    · obtain ⟨rfl, rfl⟩ := z
      rw [if_pos ⟨rfl, rfl⟩, ax_ui_ne (by omega)]; exact ax_ui_eq
    · rw [if_neg z, ax_ui_ne (by omega), ax_ui_ne (by omega)]; exact g1 a ha b hb
  · obtain ⟨g1, g2, g3, g4, g5, g6⟩ := q7
    refine ⟨by rw [fr _ (by omega) (by omega)]; exact g1, by rw [fr _ (by omega) (by omega)]; exact g2, fun b hb => by rw [fr _ (by omega) (by omega)]; exact g3 b hb, fun b hb => by rw [fr _ (by omega) (by omega)]; exact g4 b hb, fun a ha b hb => ?_, fun b hb => by rw [fr _ (by omega) (by omega)]; exact g6 b hb⟩
    unfold sw_wu
    by_cases z : a = x ∧ b = w
    · obtain ⟨rfl, rfl⟩ := z
      rw [if_pos ⟨rfl, rfl⟩]; exact ax_ui_eq
    · rw [if_neg z, ax_ui_ne (by omega), ax_ui_ne (by omega)]; exact g5 a ha b hb
theorem op_tell {I : ax_I} {L : ax_J} (h : sw_RR I L) (a b c : Int32) : sw_OP 104 202 [ax_vi a, ax_vi b, ax_vi c] I L := by
  intro d
  have h0 := h
  obtain ⟨N, T, kd, tl, un, W, es, h1, h2, h3, h4⟩ := h
  have hN := h1.1.1
  have c1 := h1.2.2.2.2.1.1
  have r1 := h1.2.2.2.2.2.2.1.1
  apply vc_X8_tell
  rcases sw_dich (n := N) (by omega) a with ⟨x, hx, rfl⟩ | ha
  case inr =>
    refine cl_hasOne_no c1 ha ?_
    refine ⟨fun _ => ?_, (fun q => absurd q (by decide))⟩
    apply vc_X9_tell
    refine rf_isOne_no r1 hN ha ?_
    exact ⟨fun _ => ⟨rfl, h0⟩, (fun q => absurd q (by decide))⟩
  refine cl_hasOne_k c1 (by omega) hx ?_
  refine ⟨(fun q => absurd q (by decide)), fun _ => ?_⟩
  rcases sw_dich (n := N) (by omega) b with ⟨y, hy, rfl⟩ | hb
  case inr =>
    refine cl_hasOne_no c1 hb ?_
    refine ⟨fun _ => ?_, (fun q => absurd q (by decide))⟩
    apply vc_X9_tell
    refine rf_isOne_k r1 hN hx ?_
    refine ⟨(fun q => absurd q (by decide)), fun _ => ?_⟩
    refine rf_isOne_no r1 hN hb ?_
    exact ⟨fun _ => ⟨rfl, h0⟩, (fun q => absurd q (by decide))⟩
  refine cl_hasOne_k c1 (by omega) hy ?_
  refine ⟨(fun q => absurd q (by decide)), fun _ => ?_⟩
  refine ax_if (fun hxy => ?_) (fun hxy => ?_)
  · apply vc_X9_tell
    refine rf_isOne_k r1 hN hx ?_
    refine ⟨(fun q => absurd q (by decide)), fun _ => ?_⟩
    refine rf_isOne_k r1 hN hy ?_
    refine ⟨(fun q => absurd q (by decide)), fun _ => ?_⟩
    exact ax_if (fun _ => ⟨rfl, h0⟩) (fun q => absurd hxy q)
  rcases sw_dich (n := 2) (by omega) c with ⟨v, hv, rfl⟩ | hc
  case inr =>
    have fin : ax_CI (d + 30) 202 [ax_vr 9 0 184, ax_vi (nI x), ax_vi (nI y), ax_vi c] I L (fun b I2 L2 => (-1 : Int32) = b ∧ sw_RR I2 L2) := by
      apply vc_X9_tell
      refine rf_isOne_k r1 hN hx ?_
      refine ⟨(fun q => absurd q (by decide)), fun _ => ?_⟩
      refine rf_isOne_k r1 hN hy ?_
      refine ⟨(fun q => absurd q (by decide)), fun _ => ?_⟩
      refine ax_if (fun q => absurd q hxy) (fun _ => ?_)
      refine rf_in_no (n := 2) (by omega) (by decide) hc ?_
      exact ⟨(fun q => absurd q (by decide)), fun _ => ⟨rfl, h0⟩⟩
    refine ax_if (fun _ => fin) (fun q0 => ax_if (fun q1 => ?_) (fun _ => fin))
    exfalso
    rcases hc with q | q
    · exact absurd q q0
    · exact absurd (Int32.le_trans q q1) (by decide)
  obtain ⟨q1, q2, q3, q4, q5, q6, q7, q8, q9, q10⟩ := h1
  have e8b := q5.2.2.2.1 x hx
  obtain ⟨c8, e8⟩ : ∃ c8 : Int32, I 8 x = c8 := ⟨_, rfl⟩
  rw [show (6 : Nat) + 2 = 8 from rfl, e8] at e8b
  have e192 : I 192 x = tl x := q7.2.2.2.1 x hx
  have hne : ¬ x = y := fun e => hxy (by rw [e])
  /- the new set, the same on both sides -/
  obtain ⟨nw, hnW, hnR, hbits⟩ : ∃ nw : Int32, ((tl x &&& ((1 : Int32) <<< (nI y &&& 31) ^^^ (-1))) ||| (nI v <<< (nI y &&& 31))) = nw ∧ (if v = 1 then tl x ||| (1 : Int32) <<< (nI y &&& 31) else tl x &&& ((1 : Int32) <<< (nI y &&& 31) ^^^ (-1))) = nw ∧ ∀ i, i < 32 → ax_bt nw i = true → ax_bt (tl x) i = true ∨ i = y := by
    refine ⟨_, rfl, ?_, ?_⟩
    · rcases (show v = 0 ∨ v = 1 by omega) with rfl | rfl
      · rw [if_neg (by omega)]
        have e : nI 0 <<< (nI y &&& 31) = 0 := by
          have : ∀ k : Fin 6, nI 0 <<< (nI k.val &&& 31) = 0 := by decide +kernel
          exact this ⟨y, by omega⟩
        rw [e, Int32.or_zero]
      · rw [if_pos rfl]
        apply ax_bt_ext
        intro i hi
        rw [show nI 1 = (1 : Int32) from rfl, ax_bt_or, ax_bt_or, ax_bt_and, ax_bt_xor, ax_bt_m1 hi, ax_bt_sh (by omega) hi, Bool.xor_true]
        by_cases z : i = y <;> simp [z]
    · intro i hi hb
      rw [ax_bt_or, ax_bt_and, Bool.or_eq_true, Bool.and_eq_true] at hb
      rcases hb with hb | hb
      · exact .inl hb.1
      · right
        rcases (show v = 0 ∨ v = 1 by omega) with rfl | rfl
        · have e : nI 0 <<< (nI y &&& 31) = 0 := by
            have : ∀ k : Fin 6, nI 0 <<< (nI k.val &&& 31) = 0 := by decide +kernel
            exact this ⟨y, by omega⟩
          rw [e, ax_bt_0] at hb; cases hb
        · rw [show nI 1 = (1 : Int32) from rfl, ax_bt_sh (by omega) hi] at hb
          exact of_decide_eq_true hb
  obtain ⟨nc, hnC⟩ : ∃ nc : Int32, ((c8 &&& ((1 : Int32) <<< (nI y &&& 31) ^^^ (-1))) ||| (nI v <<< (nI y &&& 31))) = nc := ⟨_, rfl⟩
  have hcb : ∀ i, i < N → ¬ i = x → ax_bt nc i = ax_bt nw i := fun i hi hix => by
    rw [← hnC, ← hnW, ax_bt_or, ax_bt_or, ax_bt_and, ax_bt_and, e8b i hi hix]
  simp (disch := omega) only [Bool.not_eq_false, Bool.not_eq_true, decide_eq_true_eq, decide_eq_false_iff_not, Bool.not_eq_true', Bool.not_eq_false', ax_lle, ax_llt, ax_lel, ax_ltl, ax_leq, ax_eql, ax_clampl, ax_inb_iff, nI_clamp, nI_1, nI_leI, nI_ltI, nI_eq, ax_b0, ax_b1, ax_bitb, ax_ui_eq, ax_ui_ne, true_and, and_true, e8, hnC]
  refine ⟨fun q => by omega, fun _ => ⟨fun _ => ⟨by omega, by omega, by omega, ?_⟩, fun q => by omega⟩⟩
  have fr : ∀ a, ¬ a = 8 → ¬ a = 192 → ax_ui (ax_ui I 8 x nc) 192 x nw a = I a := fun a z1 z2 => by rw [ax_ui_row z2, ax_ui_row z1]
  have fin : sw_RR (ax_ui (ax_ui I 8 x nc) 192 x nw) L := by
    refine ⟨N, T, kd, sw_up tl x nw, un, W, es, ?_, fun k hk => (h2 k hk).frame hk (fun a q => fr a (by omega) (by omega)), h3.frame (fun a q => fr a (by omega) (by omega)), h4.frame (by rw [fr _ (by omega) (by omega)]) (by rw [fr _ (by omega) (by omega)]) (fr _ (by omega) (by omega)) (fr _ (by omega) (by omega)) (by rw [fr _ (by omega) (by omega)]) (by rw [fr _ (by omega) (by omega)])⟩
    refine ⟨?_, q2, q3, q4.frame (fr _ (by omega) (by omega)) (fr _ (by omega) (by omega)), ?_, q6.frame (fun a _ _ => fr a (by omega) (by omega)), ?_, fun hN => (q8 hN).same (fun j hj => by unfold sw_fr; rw [fr _ (by omega) (by omega)]), by rw [fr _ (by omega) (by omega)]; exact q9, by rw [fr _ (by omega) (by omega), fr _ (by omega) (by omega)]; exact q10⟩
    · obtain ⟨g1, g2, g3, g4, g5, g6⟩ := q1
      refine ⟨g1, g2, g3, g4, fun z hz i hi hb => ?_, g6⟩
      by_cases e : z = x
      · subst e
        rw [sw_up_eq] at hb
        rcases hbits i hi hb with q | q
        · exact g5 z hz i hi q
        · exact ⟨by omega, by omega⟩
      · rw [sw_up_ne e] at hb; exact g5 z hz i hi hb
    · obtain ⟨g1, g2, g3, g4, g5⟩ := q5
      refine ⟨by rw [fr _ (by omega) (by omega)]; exact g1, by rw [fr _ (by omega) (by omega)]; exact g2, fun z hz => by rw [fr _ (by omega) (by omega)]; exact g3 z hz, fun z hz => ?_, fun z hz => by rw [fr _ (by omega) (by omega)]; exact g5 z hz⟩
      rw [ax_ui_ne (by omega)]
      by_cases e : z = x
      · subst e; rw [sw_up_eq, ax_ui_eq]; exact hcb
      · rw [sw_up_ne e, ax_ui_ne (by omega)]; exact g4 z hz
    · obtain ⟨g1, g2, g3, g4, g5, g6⟩ := q7
      refine ⟨by rw [fr _ (by omega) (by omega)]; exact g1, by rw [fr _ (by omega) (by omega)]; exact g2, fun z hz => by rw [fr _ (by omega) (by omega)]; exact g3 z hz, fun z hz => ?_, fun z hz b hb => by rw [fr _ (by omega) (by omega)]; exact g5 z hz b hb, fun z hz => by rw [fr _ (by omega) (by omega)]; exact g6 z hz⟩
      by_cases e : z = x
      · subst e; rw [sw_up_eq]; exact ax_ui_eq
      · rw [sw_up_ne e, ax_ui_ne (by omega), ax_ui_ne (by omega)]; exact g4 z hz
  apply vc_X9_tell
  refine rf_isOne_k (by rw [ax_ui_ne (by omega)]; exact r1) hN hx ?_
  refine ⟨(fun q => absurd q (by decide)), fun _ => ?_⟩
  refine rf_isOne_k (by rw [ax_ui_ne (by omega)]; exact r1) hN hy ?_
  refine ⟨(fun q => absurd q (by decide)), fun _ => ?_⟩
  refine ax_if (fun q => absurd q hxy) (fun _ => ?_)
  refine rf_in_k (n := 2) (by omega) (by decide) hv ?_
  refine ⟨fun _ => ⟨ax_inb_nI (by omega) (by omega), ?_⟩, (fun q => absurd q (by decide))⟩
  rw [nI_clamp (by omega), ax_ui_ne (a := 192) (by omega), e192]
  refine rf_has (by omega) ?_
  rw [ax_bt_ask (by omega)]
  simp (disch := omega) only [Bool.not_eq_false, Bool.not_eq_true, decide_eq_true_eq, decide_eq_false_iff_not, Bool.not_eq_true', Bool.not_eq_false', ax_lle, ax_llt, ax_lel, ax_ltl, ax_leq, ax_eql, ax_clampl, ax_inb_iff, nI_clamp, nI_1, nI_leI, nI_ltI, nI_eq, ax_b0, ax_b1, ax_bitb, ax_ui_eq, ax_ui_ne, true_and, and_true, e192]
  refine ⟨fun hb => ⟨fun hv1 => ⟨by omega, by omega, ?_, ?_⟩, fun hv1 => ⟨by omega, by omega, ?_, ?_⟩⟩, fun hb => ⟨fun hv1 => ⟨by omega, by omega, ?_, ?_⟩, fun hv1 => ⟨by omega, by omega, ?_, ?_⟩⟩⟩
  · rw [e8b y hy (fun e => hne e.symm), hb]; rfl
  · rw [if_neg hv1] at hnR; rw [hnR]; exact fin
  · rw [e8b y hy (fun e => hne e.symm), hb]; rfl
  · rw [if_pos hv1] at hnR; rw [hnR]; exact fin
  · rw [e8b y hy (fun e => hne e.symm), hb]; rfl
  · rw [if_neg hv1] at hnR; rw [hnR]; exact fin
  · rw [e8b y hy (fun e => hne e.symm), hb]; rfl
  · rw [if_pos hv1] at hnR; rw [hnR]; exact fin
