theorem op_at {I : ax_I} {L : ax_J} (h : sw_RR I L) (a b : Int32) : sw_OP 92 164 [ax_vi a, ax_vi b] I L := by
  intro d
  apply vc_X8_at
  rcases sw_dich (n := 6) (by omega) a with ⟨r, hr, rfl⟩ | ha
  · refine cl_isRow_k hr ?_
    obtain ⟨l1, l2⟩ := h.LS.1 r hr
    simp (disch := omega) only [Bool.not_eq_false, Bool.not_eq_true, decide_eq_true_eq, decide_eq_false_iff_not, Bool.not_eq_true', Bool.not_eq_false', ax_lle, ax_llt, ax_lel, ax_ltl, ax_leq, ax_eql, ax_clampl, ax_inb_iff, nI_clamp, nI_1, nI_leI, nI_ltI, nI_eq, ax_b0, ax_b1, ax_bitb, ax_ui_eq, ax_ui_ne, true_and, and_true]
    refine ⟨fun _ => ⟨by omega, ?_⟩, (fun q => absurd q (by decide))⟩
    rcases l2 with l2 | ⟨n, hn, l2, l3⟩
    · refine cl_refuse_0 l2 ?_
      refine ⟨(fun q => absurd q (by decide)), fun _ => ?_⟩
      apply vc_X9_at
      refine rf_isRow_k hr ?_
      have e : sw_fC I 1 186 r = -1 := by unfold sw_fC; rw [ax_ui_ne (by omega), ax_ui_ne (by omega), l1, l2]
      simp (disch := omega) only [Bool.not_eq_false, Bool.not_eq_true, decide_eq_true_eq, decide_eq_false_iff_not, Bool.not_eq_true', Bool.not_eq_false', ax_lle, ax_llt, ax_lel, ax_ltl, ax_leq, ax_eql, ax_clampl, ax_inb_iff, nI_clamp, nI_1, nI_leI, nI_ltI, nI_eq, ax_b0, ax_b1, ax_bitb, ax_ui_eq, ax_ui_ne, true_and, and_true, e]
      refine ⟨fun _ => ⟨by omega, fun q => absurd q ax_m1neg, fun _ => ?_⟩, (fun q => absurd q (by decide))⟩
      exact rf_meets (f := 1) (by omega) ⟨rfl, h.find (by omega)⟩
    · rcases sw_dich (n := n) (by omega) b with ⟨i, hi, rfl⟩ | hb
      · refine cl_refuse_k l2 (by omega) hi ?_
        refine ⟨fun _ => ⟨by omega, ?_⟩, (fun q => absurd q (by decide))⟩
        simp (disch := omega) only [Bool.not_eq_false, Bool.not_eq_true, decide_eq_true_eq, decide_eq_false_iff_not, Bool.not_eq_true', Bool.not_eq_false', ax_lle, ax_llt, ax_lel, ax_ltl, ax_leq, ax_eql, ax_clampl, ax_inb_iff, nI_clamp, nI_1, nI_leI, nI_ltI, nI_eq, ax_b0, ax_b1, ax_bitb, ax_ui_eq, ax_ui_ne, true_and, and_true]
        refine ⟨by omega, ?_⟩
        apply vc_X9_at
        refine rf_isRow_k hr ?_
        rw [ax_ui_ne (a := 186) (by omega), nI_clamp (by omega), l1, l2]
        simp (disch := omega) only [Bool.not_eq_false, Bool.not_eq_true, decide_eq_true_eq, decide_eq_false_iff_not, Bool.not_eq_true', Bool.not_eq_false', ax_lle, ax_llt, ax_lel, ax_ltl, ax_leq, ax_eql, ax_clampl, ax_inb_iff, nI_clamp, nI_1, nI_leI, nI_ltI, nI_eq, ax_b0, ax_b1, ax_bitb, ax_ui_eq, ax_ui_ne, true_and, and_true]
        refine ⟨fun _ => ⟨by omega, fun _ => ⟨by omega, ?_⟩, fun q => by omega⟩, (fun q => absurd q (by decide))⟩
        refine rf_in_k (n := n) (by omega) rfl hi ?_
        refine ⟨(fun q => absurd q (by decide)), fun _ => ?_⟩
        refine rf_rowAt hr (by omega) ?_
        apply vc_X9_tells
        have ev : ax_ui I 3 13 (I (4 + (115 + 2 * r) + 1) i) 187 (40 * r + i) = I (4 + (115 + 2 * r) + 1) i := by
          rw [ax_ui_ne (by omega)]; exact l3 i hi
        rw [ev]
        exact ⟨rfl, h.tell⟩
      · refine cl_refuse_no l2 (by omega) hb ?_
        refine ⟨(fun q => absurd q (by decide)), fun _ => ?_⟩
        apply vc_X9_at
        refine rf_isRow_k hr ?_
        have e : sw_fC I 2 186 r = nI n := by unfold sw_fC; rw [ax_ui_ne (by omega), ax_ui_ne (by omega), l1, l2]
        simp (disch := omega) only [Bool.not_eq_false, Bool.not_eq_true, decide_eq_true_eq, decide_eq_false_iff_not, Bool.not_eq_true', Bool.not_eq_false', ax_lle, ax_llt, ax_lel, ax_ltl, ax_leq, ax_eql, ax_clampl, ax_inb_iff, nI_clamp, nI_1, nI_leI, nI_ltI, nI_eq, ax_b0, ax_b1, ax_bitb, ax_ui_eq, ax_ui_ne, true_and, and_true, e]
        refine ⟨fun _ => ⟨by omega, fun _ => ⟨by omega, ?_⟩, fun q => by omega⟩, (fun q => absurd q (by decide))⟩
        refine rf_in_no (n := n) (by omega) rfl hb ?_
        simp (disch := omega) only [Bool.not_eq_false, Bool.not_eq_true, decide_eq_true_eq, decide_eq_false_iff_not, Bool.not_eq_true', Bool.not_eq_false', ax_lle, ax_llt, ax_lel, ax_ltl, ax_leq, ax_eql, ax_clampl, ax_inb_iff, nI_clamp, nI_1, nI_leI, nI_ltI, nI_eq, ax_b0, ax_b1, ax_bitb, ax_ui_eq, ax_ui_ne, true_and, and_true]
        refine ⟨fun _ => ?_, (fun q => absurd trivial q)⟩
        exact rf_meets (f := 2) (by omega) ⟨rfl, h.find (by omega)⟩
  · refine cl_isRow_no ha ?_
    refine ⟨(fun q => absurd q (by decide)), fun _ => ?_⟩
    apply vc_X9_at
    refine rf_isRow_no ha ?_
    exact ⟨(fun q => absurd q (by decide)), fun _ => ⟨rfl, h⟩⟩
theorem op_tear {I : ax_I} {L : ax_J} (h : sw_RR I L) (a : Int32) : sw_OP 93 165 [ax_vi a] I L := by
  intro d
  apply vc_X8_tear
  rcases sw_dich (n := 6) (by omega) a with ⟨r, hr, rfl⟩ | ha
  · refine cl_isRow_k hr ?_
    obtain ⟨l1, l2⟩ := h.LS.1 r hr
    simp (disch := omega) only [Bool.not_eq_false, Bool.not_eq_true, decide_eq_true_eq, decide_eq_false_iff_not, Bool.not_eq_true', Bool.not_eq_false', ax_lle, ax_llt, ax_lel, ax_ltl, ax_leq, ax_eql, ax_clampl, ax_inb_iff, nI_clamp, nI_1, nI_leI, nI_ltI, nI_eq, ax_b0, ax_b1, ax_bitb, ax_ui_eq, ax_ui_ne, true_and, and_true]
    refine ⟨fun _ => ⟨by omega, ?_⟩, (fun q => absurd q (by decide))⟩
    rcases l2 with l2 | ⟨n, hn, l2, l3⟩
    · refine cl_missing l2 ?_
      refine ⟨(fun q => absurd q (by decide)), fun _ => ?_⟩
      refine cl_find (f := 1) (by omega) ?_
      apply vc_X9_tear
      refine rf_isRow_k hr ?_
      have e : sw_fC I 1 186 r = -1 := by unfold sw_fC; rw [ax_ui_ne (by omega), ax_ui_ne (by omega), l1, l2]
      simp (disch := omega) only [Bool.not_eq_false, Bool.not_eq_true, decide_eq_true_eq, decide_eq_false_iff_not, Bool.not_eq_true', Bool.not_eq_false', ax_lle, ax_llt, ax_lel, ax_ltl, ax_leq, ax_eql, ax_clampl, ax_inb_iff, nI_clamp, nI_1, nI_leI, nI_ltI, nI_eq, ax_b0, ax_b1, ax_bitb, ax_ui_eq, ax_ui_ne, true_and, and_true, e]
      refine ⟨fun _ => ⟨by omega, fun q => absurd q ax_m1neg, fun _ => ?_⟩, (fun q => absurd q (by decide))⟩
      exact rf_meets (f := 1) (by omega) ⟨rfl, h.find (by omega)⟩
    · refine cl_there l2 (by omega) ?_
      refine ⟨fun _ => ⟨by omega, ?_⟩, (fun q => absurd q (by decide))⟩
      apply vc_X4_lose
      apply vc_X9_tear
      refine rf_isRow_k hr ?_
      rw [ax_ui_ne (a := 186) (by omega), nI_clamp (by omega), l1, l2]
      simp (disch := omega) only [Bool.not_eq_false, Bool.not_eq_true, decide_eq_true_eq, decide_eq_false_iff_not, Bool.not_eq_true', Bool.not_eq_false', ax_lle, ax_llt, ax_lel, ax_ltl, ax_leq, ax_eql, ax_clampl, ax_inb_iff, nI_clamp, nI_1, nI_leI, nI_ltI, nI_eq, ax_b0, ax_b1, ax_bitb, ax_ui_eq, ax_ui_ne, true_and, and_true]
      refine ⟨fun _ => ⟨by omega, fun _ => ⟨by omega, ?_⟩, fun q => by omega⟩, (fun q => absurd q (by decide))⟩
      refine h.line hr ⟨?_, .inl ?_⟩ (fun a q1 q2 q3 => ?_) ((sw_SK.refl.ui (by omega) (by omega)).ui (by omega) (by omega)) (fun b hb => ?_) (fun b hb => ?_) (h.MS.frame ?_ ?_ ?_ ?_ ?_ ?_)
      · rw [ax_ui_eq, ax_ui_ne (by omega), ax_ui_eq]
      · rw [ax_ui_ne (by omega), ax_ui_eq]
      · rw [ax_ui_row (by omega), ax_ui_row (by omega)]
      · rw [ax_ui_ne (by omega), ax_ui_ne (by omega)]
      · rw [ax_ui_ne (by omega), ax_ui_ne (by omega)]
      · rw [ax_ui_ne (by omega), ax_ui_ne (by omega)]
      · rw [ax_ui_ne (by omega), ax_ui_ne (by omega)]
      · rw [ax_ui_row (by omega), ax_ui_row (by omega)]
      · rw [ax_ui_row (by omega), ax_ui_row (by omega)]
      · rw [ax_ui_ne (by omega), ax_ui_ne (by omega)]
      · rw [ax_ui_ne (by omega), ax_ui_ne (by omega)]
  · refine cl_isRow_no ha ?_
    refine ⟨(fun q => absurd q (by decide)), fun _ => ?_⟩
    apply vc_X9_tear
    refine rf_isRow_no ha ?_
    exact ⟨(fun q => absurd q (by decide)), fun _ => ⟨rfl, h⟩⟩
theorem ax_b8 (v : Int32) : v.toInt8.toInt32.toInt8.toInt32 = v.toInt8.toInt32 := by
  rw [Int8.toInt8_toInt32]
theorem op_put {I : ax_I} {L : ax_J} (h : sw_RR I L) (a b c : Int32) : sw_OP 97 170 [ax_vi a, ax_vi b, ax_vi c] I L := by
  intro d
  apply vc_X8_put
  rcases sw_dich (n := 4) (by omega) a with ⟨r, hr, rfl⟩ | ha
  · refine cl_isText_k hr ?_
    obtain ⟨l1, l2⟩ := h.LS.2 r hr
    simp (disch := omega) only [Bool.not_eq_false, Bool.not_eq_true, decide_eq_true_eq, decide_eq_false_iff_not, Bool.not_eq_true', Bool.not_eq_false', ax_lle, ax_llt, ax_lel, ax_ltl, ax_leq, ax_eql, ax_clampl, ax_inb_iff, nI_clamp, nI_1, nI_leI, nI_ltI, nI_eq, ax_b0, ax_b1, ax_bitb, ax_ui_eq, ax_ui_ne, true_and, and_true]
    refine ⟨fun _ => ⟨by omega, ?_⟩, (fun q => absurd q (by decide))⟩
    rcases l2 with l2 | ⟨n, hn, l2, l3⟩
    · refine cl_refuse_0 l2 ?_
      refine ⟨(fun q => absurd q (by decide)), fun _ => ?_⟩
      apply vc_X9_put
      refine rf_isText_k hr ?_
      have e : sw_fC I 1 189 r = -1 := by unfold sw_fC; rw [ax_ui_ne (by omega), ax_ui_ne (by omega), l1, l2]
      simp (disch := omega) only [Bool.not_eq_false, Bool.not_eq_true, decide_eq_true_eq, decide_eq_false_iff_not, Bool.not_eq_true', Bool.not_eq_false', ax_lle, ax_llt, ax_lel, ax_ltl, ax_leq, ax_eql, ax_clampl, ax_inb_iff, nI_clamp, nI_1, nI_leI, nI_ltI, nI_eq, ax_b0, ax_b1, ax_bitb, ax_ui_eq, ax_ui_ne, true_and, and_true, e]
      refine ⟨fun _ => ⟨by omega, fun q => absurd q ax_m1neg, fun _ => ?_⟩, (fun q => absurd q (by decide))⟩
      exact rf_meets (f := 1) (by omega) ⟨rfl, h.find (by omega)⟩
    · rcases sw_dich (n := n) (by omega) b with ⟨i, hi, rfl⟩ | hb
      · refine cl_refuse_k l2 (by omega) hi ?_
        refine ⟨fun _ => ⟨by omega, ?_⟩, (fun q => absurd q (by decide))⟩
        simp (disch := omega) only [Bool.not_eq_false, Bool.not_eq_true, decide_eq_true_eq, decide_eq_false_iff_not, Bool.not_eq_true', Bool.not_eq_false', ax_lle, ax_llt, ax_lel, ax_ltl, ax_leq, ax_eql, ax_clampl, ax_inb_iff, nI_clamp, nI_1, nI_leI, nI_ltI, nI_eq, ax_b0, ax_b1, ax_bitb, ax_ui_eq, ax_ui_ne, true_and, and_true]
        refine ⟨by omega, by omega, by omega, ?_⟩
        apply vc_X9_put
        refine rf_isText_k hr ?_
        rw [ax_ui_ne (a := 189) (by omega), nI_clamp (by omega), l1, l2]
        simp (disch := omega) only [Bool.not_eq_false, Bool.not_eq_true, decide_eq_true_eq, decide_eq_false_iff_not, Bool.not_eq_true', Bool.not_eq_false', ax_lle, ax_llt, ax_lel, ax_ltl, ax_leq, ax_eql, ax_clampl, ax_inb_iff, nI_clamp, nI_1, nI_leI, nI_ltI, nI_eq, ax_b0, ax_b1, ax_bitb, ax_ui_eq, ax_ui_ne, true_and, and_true]
        refine ⟨fun _ => ⟨by omega, fun _ => ⟨by omega, ?_⟩, fun q => by omega⟩, (fun q => absurd q (by decide))⟩
        refine rf_in_k (n := n) (by omega) rfl hi ?_
        simp (disch := omega) only [Bool.not_eq_false, Bool.not_eq_true, decide_eq_true_eq, decide_eq_false_iff_not, Bool.not_eq_true', Bool.not_eq_false', ax_lle, ax_llt, ax_lel, ax_ltl, ax_leq, ax_eql, ax_clampl, ax_inb_iff, nI_clamp, nI_1, nI_leI, nI_ltI, nI_eq, ax_b0, ax_b1, ax_bitb, ax_ui_eq, ax_ui_ne, true_and, and_true, ax_lmul, nI_add]
        refine ⟨fun _ => ⟨by omega, by omega, ?_⟩, (fun q => absurd q (by decide))⟩
        rw [ax_b8]
        refine ⟨?_, h.tline hr ⟨?_, .inr ⟨n, hn, ?_, fun j hj => ?_⟩⟩ (fun a q1 q2 q3 => ?_) ((sw_SK.refl.ui (by omega) (by omega)).ui (by omega) (by omega)) (fun b hb => ?_) (fun b hb => ?_) (h.MS.frame ?_ ?_ ?_ ?_ ?_ ?_)⟩
        · rw [l3 i hi, Int32.add_comm]
        · rw [ax_ui_ne (by omega), ax_ui_ne (by omega), ax_ui_ne (by omega), ax_ui_ne (by omega)]; exact l1
        · rw [ax_ui_ne (by omega), ax_ui_ne (by omega)]; exact l2
        · by_cases e : j = i
          · subst e; rw [ax_ui_eq, ax_ui_ne (by omega), ax_ui_eq]
          · rw [ax_ui_ne (by omega), ax_ui_ne (by omega), ax_ui_ne (by omega), ax_ui_ne (by omega)]; exact l3 j hj
        · rw [ax_ui_row (by omega), ax_ui_row (by omega)]
        · rw [ax_ui_ne (by omega), ax_ui_ne (by omega)]
        · rw [ax_ui_ne (by omega), ax_ui_ne (by omega)]
        · rw [ax_ui_ne (by omega), ax_ui_ne (by omega)]
        · rw [ax_ui_ne (by omega), ax_ui_ne (by omega)]
        · rw [ax_ui_row (by omega), ax_ui_row (by omega)]
        · rw [ax_ui_row (by omega), ax_ui_row (by omega)]
        · rw [ax_ui_ne (by omega), ax_ui_ne (by omega)]
        · rw [ax_ui_ne (by omega), ax_ui_ne (by omega)]
      · refine cl_refuse_no l2 (by omega) hb ?_
        refine ⟨(fun q => absurd q (by decide)), fun _ => ?_⟩
        apply vc_X9_put
        refine rf_isText_k hr ?_
        have e : sw_fC I 2 189 r = nI n := by unfold sw_fC; rw [ax_ui_ne (by omega), ax_ui_ne (by omega), l1, l2]
        simp (disch := omega) only [Bool.not_eq_false, Bool.not_eq_true, decide_eq_true_eq, decide_eq_false_iff_not, Bool.not_eq_true', Bool.not_eq_false', ax_lle, ax_llt, ax_lel, ax_ltl, ax_leq, ax_eql, ax_clampl, ax_inb_iff, nI_clamp, nI_1, nI_leI, nI_ltI, nI_eq, ax_b0, ax_b1, ax_bitb, ax_ui_eq, ax_ui_ne, true_and, and_true, e]
        refine ⟨fun _ => ⟨by omega, fun _ => ⟨by omega, ?_⟩, fun q => by omega⟩, (fun q => absurd q (by decide))⟩
        refine rf_in_no (n := n) (by omega) rfl hb ?_
        simp (disch := omega) only [Bool.not_eq_false, Bool.not_eq_true, decide_eq_true_eq, decide_eq_false_iff_not, Bool.not_eq_true', Bool.not_eq_false', ax_lle, ax_llt, ax_lel, ax_ltl, ax_leq, ax_eql, ax_clampl, ax_inb_iff, nI_clamp, nI_1, nI_leI, nI_ltI, nI_eq, ax_b0, ax_b1, ax_bitb, ax_ui_eq, ax_ui_ne, true_and, and_true]
        refine ⟨(fun q => absurd trivial q), fun _ => ?_⟩
        exact rf_meets (f := 2) (by omega) ⟨rfl, h.find (by omega)⟩
  · refine cl_isText_no ha ?_
    refine ⟨(fun q => absurd q (by decide)), fun _ => ?_⟩
    apply vc_X9_put
    refine rf_isText_no ha ?_
    exact ⟨(fun q => absurd q (by decide)), fun _ => ⟨rfl, h⟩⟩
theorem op_mean {I : ax_I} {L : ax_J} (h : sw_RR I L) (a : Int32) : sw_OP 95 167 [ax_vi a] I L := by
  intro d
  apply vc_X8_mean
  rcases sw_dich (n := 6) (by omega) a with ⟨r, hr, rfl⟩ | ha
  · refine cl_isRow_k hr ?_
    obtain ⟨l1, l2⟩ := h.LS.1 r hr
    simp (disch := omega) only [Bool.not_eq_false, Bool.not_eq_true, decide_eq_true_eq, decide_eq_false_iff_not, Bool.not_eq_true', Bool.not_eq_false', ax_lle, ax_llt, ax_lel, ax_ltl, ax_leq, ax_eql, ax_clampl, ax_inb_iff, nI_clamp, nI_1, nI_leI, nI_ltI, nI_eq, ax_b0, ax_b1, ax_bitb, ax_ui_eq, ax_ui_ne, true_and, and_true]
    refine ⟨fun _ => ⟨by omega, ?_⟩, (fun q => absurd q (by decide))⟩
    rcases l2 with l2 | ⟨n, hn, l2, l3⟩
    · refine cl_missing l2 ?_
      refine ⟨(fun q => absurd q (by decide)), fun _ => ?_⟩
      refine cl_find (f := 1) (by omega) ?_
      apply vc_X9_mean
      refine rf_isRow_k hr ?_
      have e : sw_fC I 1 186 r = -1 := by unfold sw_fC; rw [ax_ui_ne (by omega), ax_ui_ne (by omega), l1, l2]
      simp (disch := omega) only [Bool.not_eq_false, Bool.not_eq_true, decide_eq_true_eq, decide_eq_false_iff_not, Bool.not_eq_true', Bool.not_eq_false', ax_lle, ax_llt, ax_lel, ax_ltl, ax_leq, ax_eql, ax_clampl, ax_inb_iff, nI_clamp, nI_1, nI_leI, nI_ltI, nI_eq, ax_b0, ax_b1, ax_bitb, ax_ui_eq, ax_ui_ne, true_and, and_true, e]
      refine ⟨fun _ => ⟨by omega, fun q => absurd q ax_m1neg, fun _ => ?_⟩, (fun q => absurd q (by decide))⟩
      exact rf_meets (f := 1) (by omega) ⟨rfl, h.find (by omega)⟩
    · refine cl_there l2 (by omega) ?_
      refine ⟨fun _ => ⟨by omega, ?_⟩, (fun q => absurd q (by decide))⟩
      rw [l2]
      simp (disch := omega) only [Bool.not_eq_false, Bool.not_eq_true, decide_eq_true_eq, decide_eq_false_iff_not, Bool.not_eq_true', Bool.not_eq_false', ax_lle, ax_llt, ax_lel, ax_ltl, ax_leq, ax_eql, ax_clampl, ax_inb_iff, nI_clamp, nI_1, nI_leI, nI_ltI, nI_eq, ax_b0, ax_b1, ax_bitb, ax_ui_eq, ax_ui_ne, true_and, and_true]
      refine ⟨fun q => ⟨by omega, ?_⟩, fun q => ?_⟩
      · have hne : ¬ (nI n).toInt64 = 0 := by
          rw [nI_l (by omega)]
          intro e
          have := congrArg Int64.toInt e
          rw [show lN n = Int64.ofNat n from rfl, Int64.toInt_ofNat_of_lt (by omega)] at this
          simp at this; omega
        /- the sum, alike on both sides -/
        apply vc_X4_sum
        suffices ∀ (j i : Nat) (s : Int64) (z : Option ax_V), i + j = n → (s = ax_it (fun i s => s + (I (4 + (115 + 2 * r) + 1) i).toInt64) i 0 0) → ax_AK ((d + 28)) 56 (4, [some (ax_vr 4 40 (4 + (115 + 2 * r))), some (ax_vl s), z, some (ax_vi (nI i))], [], ax_mm I L) (ax_kl (fun x9 I7 L8 => (¬ (nI n).toInt64 = 0) ∧ ax_CI (d + 30) 167 [ax_vr 9 0 184, ax_vi (nI r)] (ax_ui I7 3 13 (x9 / (nI n).toInt64).toInt32) L8 (fun b I2 L2 => 1 = b ∧ sw_RR I2 L2))) from this n 0 0 _ (by omega) rfl
        intro j
        induction j with
        | zero =>
          intro i s z hi hs
          apply vc_X4_sum_4
          simp (disch := omega) only [Bool.not_eq_false, Bool.not_eq_true, decide_eq_true_eq, decide_eq_false_iff_not, Bool.not_eq_true', Bool.not_eq_false', ax_lle, ax_llt, ax_lel, ax_ltl, ax_leq, ax_eql, ax_clampl, ax_inb_iff, nI_clamp, nI_1, nI_leI, nI_ltI, nI_eq, ax_b0, ax_b1, ax_bitb, ax_ui_eq, ax_ui_ne, true_and, and_true, l2]
          refine ⟨fun _ => ⟨hne, ?_⟩, fun q => by omega⟩
          have hi : i = n := by omega
          subst hi
          apply vc_X9_mean
          refine rf_isRow_k hr ?_
          rw [ax_ui_ne (a := 186) (by omega), nI_clamp (by omega), l1, l2]
          simp (disch := omega) only [Bool.not_eq_false, Bool.not_eq_true, decide_eq_true_eq, decide_eq_false_iff_not, Bool.not_eq_true', Bool.not_eq_false', ax_lle, ax_llt, ax_lel, ax_ltl, ax_leq, ax_eql, ax_clampl, ax_inb_iff, nI_clamp, nI_1, nI_leI, nI_ltI, nI_eq, ax_b0, ax_b1, ax_bitb, ax_ui_eq, ax_ui_ne, true_and, and_true]
          refine ⟨fun _ => ⟨by omega, fun _ => ⟨by omega, fun _ => ?_, fun q => by omega⟩, fun q => by omega⟩, (fun q => absurd q (by decide))⟩
          suffices ∀ (j k : Nat) (s2 : Int64) (z : Option ax_V), k + j = i → (s2 = ax_it (fun i s => s + (I (4 + (115 + 2 * r) + 1) i).toInt64) k 0 0) → ax_AK ((d + 29)) 167 (44, [some (ax_vr 9 0 184), some (ax_vi (nI r)), some (ax_vl s2), z, some (ax_vi (nI k))], [], ax_mm (ax_ui I 3 13 (s / (nI i).toInt64).toInt32) L) (ax_ki (fun b I2 L2 => 1 = b ∧ sw_RR I2 L2)) from this i 0 0 _ (by omega) rfl
          intro j
          induction j with
          | zero =>
            intro k s2 z hk hs2
            have hk : k = i := by omega
            subst hk
            apply vc_X9_mean_44
            rw [ax_ui_ne (a := 186) (by omega), nI_clamp (by omega), l1, l2]
            simp (disch := omega) only [Bool.not_eq_false, Bool.not_eq_true, decide_eq_true_eq, decide_eq_false_iff_not, Bool.not_eq_true', Bool.not_eq_false', ax_lle, ax_llt, ax_lel, ax_ltl, ax_leq, ax_eql, ax_clampl, ax_inb_iff, nI_clamp, nI_1, nI_leI, nI_ltI, nI_eq, ax_b0, ax_b1, ax_bitb, ax_ui_eq, ax_ui_ne, true_and, and_true]
            refine ⟨by omega, fun _ => ⟨by omega, hne, ?_⟩, fun q => by omega⟩
            apply vc_X9_tells
            rw [hs2, ← hs]
            exact ⟨rfl, h.tell⟩
          | succ j ih =>
            intro k s2 z hk hs2
            apply vc_X9_mean_44
            rw [ax_ui_ne (a := 186) (by omega), nI_clamp (by omega), l1, l2]
            simp (disch := omega) only [Bool.not_eq_false, Bool.not_eq_true, decide_eq_true_eq, decide_eq_false_iff_not, Bool.not_eq_true', Bool.not_eq_false', ax_lle, ax_llt, ax_lel, ax_ltl, ax_leq, ax_eql, ax_clampl, ax_inb_iff, nI_clamp, nI_1, nI_leI, nI_ltI, nI_eq, ax_b0, ax_b1, ax_bitb, ax_ui_eq, ax_ui_ne, true_and, and_true]
            refine ⟨by omega, fun q => by omega, fun _ => ?_⟩
            refine rf_rowAt hr (by omega) ?_
            refine ih _ _ _ (by omega) ?_
            rw [ax_it_succ, Nat.zero_add, ← hs2, ax_ui_ne (by omega), l3 k (by omega)]
        | succ j ih =>
          intro i s z hi hs
          apply vc_X4_sum_4
          simp (disch := omega) only [Bool.not_eq_false, Bool.not_eq_true, decide_eq_true_eq, decide_eq_false_iff_not, Bool.not_eq_true', Bool.not_eq_false', ax_lle, ax_llt, ax_lel, ax_ltl, ax_leq, ax_eql, ax_clampl, ax_inb_iff, nI_clamp, nI_1, nI_leI, nI_ltI, nI_eq, ax_b0, ax_b1, ax_bitb, ax_ui_eq, ax_ui_ne, true_and, and_true, l2]
          refine ⟨fun q => by omega, fun _ => ⟨by omega, ih _ _ _ (by omega) ?_⟩⟩
          rw [ax_it_succ, Nat.zero_add, ← hs]
      · subst q
        refine cl_find (f := 4) (by omega) ?_
        apply vc_X9_mean
        refine rf_isRow_k hr ?_
        have e : sw_fC I 4 186 r = nI 0 := by unfold sw_fC; rw [ax_ui_ne (by omega), ax_ui_ne (by omega), l1, l2]
        simp (disch := omega) only [Bool.not_eq_false, Bool.not_eq_true, decide_eq_true_eq, decide_eq_false_iff_not, Bool.not_eq_true', Bool.not_eq_false', ax_lle, ax_llt, ax_lel, ax_ltl, ax_leq, ax_eql, ax_clampl, ax_inb_iff, nI_clamp, nI_1, nI_leI, nI_ltI, nI_eq, ax_b0, ax_b1, ax_bitb, ax_ui_eq, ax_ui_ne, true_and, and_true, e]
        refine ⟨fun _ => ⟨by omega, fun _ => ⟨by omega, (fun q => absurd trivial q), fun _ => ?_⟩, fun q => absurd (Nat.le_refl 0) q⟩, (fun q => absurd q (by decide))⟩
        exact rf_meets (f := 4) (by omega) ⟨rfl, h.find (by omega)⟩
  · refine cl_isRow_no ha ?_
    refine ⟨(fun q => absurd q (by decide)), fun _ => ?_⟩
    apply vc_X9_mean
    refine rf_isRow_no ha ?_
    exact ⟨(fun q => absurd q (by decide)), fun _ => ⟨rfl, h⟩⟩
