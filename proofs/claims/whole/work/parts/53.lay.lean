theorem cl_missing {d o n0 : Nat} {I : ax_I} {L : ax_J} {K : Int32 → ax_I → ax_J → Prop} (h : I o 1 = -1) (hK : K 1 I L) : ax_CI (d + 1) 50 [ax_vr 4 n0 o] I L K := by
  apply vc_X4_isMissing
  rw [h]
  exact ⟨(fun q => by cases q), fun _ => ⟨by decide, hK⟩⟩
theorem ax_nm1 {n : Nat} (hn : n < 2 ^ 31) : ¬ nI n = -1 := by
  intro e
  have := congrArg Int32.toInt e
  rw [nI_toInt hn] at this
  have e2 : (-1 : Int32).toInt = -1 := by decide +kernel
  omega
theorem cl_there {d o n0 n : Nat} {I : ax_I} {L : ax_J} {K : Int32 → ax_I → ax_J → Prop} (h : I o 1 = nI n) (hn : n < 2 ^ 31) (hK : K 0 I L) : ax_CI (d + 1) 50 [ax_vr 4 n0 o] I L K := by
  apply vc_X4_isMissing
  rw [h]
  exact ax_ifn (fun _ => ⟨by decide, hK⟩) (fun q => absurd q (ax_nm1 hn))
theorem cl_refuse_0 {d o n0 : Nat} {x : Int32} {I : ax_I} {L : ax_J} {K : Int32 → ax_I → ax_J → Prop} (h : I o 1 = -1) (hK : K (-3) (sw_fC I 1) L) : ax_CI (d + 2) 137 [ax_vr 8 0 3, ax_vr 4 n0 o, ax_vi x] I L K := by
  apply vc_X8_refusePlace
  refine cl_missing h ?_
  exact ⟨(fun q => absurd q (by decide)), fun _ => cl_find (f := 1) (by omega) hK⟩
theorem cl_refuse_k {d o n0 n i : Nat} {I : ax_I} {L : ax_J} {K : Int32 → ax_I → ax_J → Prop} (h : I o 1 = nI n) (hn : n < 2 ^ 31) (hi : i < n) (hK : K 0 I L) : ax_CI (d + 2) 137 [ax_vr 8 0 3, ax_vr 4 n0 o, ax_vi (nI i)] I L K := by
  apply vc_X8_refusePlace
  refine cl_there h hn ?_
  refine ⟨fun _ => ?_, (fun q => absurd q (by decide))⟩
  apply vc_X4_hasPlace
  simp (disch := omega) only [Bool.not_eq_false, Bool.not_eq_true, decide_eq_true_eq, decide_eq_false_iff_not, Bool.not_eq_true', Bool.not_eq_false', ax_lle, ax_llt, ax_lel, ax_ltl, ax_leq, ax_eql, ax_clampl, ax_inb_iff, nI_clamp, nI_1, nI_leI, nI_ltI, nI_eq, ax_b0, ax_b1, ax_bitb, ax_ui_eq, ax_ui_ne, true_and, and_true, h]
  exact ⟨fun z => by omega, fun _ => ⟨fun z => by omega, fun _ => ⟨by decide, (fun q => absurd q (by decide)), fun _ => hK⟩⟩⟩
theorem cl_refuse_no {d o n0 n : Nat} {x : Int32} {I : ax_I} {L : ax_J} {K : Int32 → ax_I → ax_J → Prop} (h : I o 1 = nI n) (hn : n < 2 ^ 31) (hi : x < 0 ∨ nI n ≤ x) (hK : K (-3) (sw_fC I 2) L) : ax_CI (d + 2) 137 [ax_vr 8 0 3, ax_vr 4 n0 o, ax_vi x] I L K := by
  apply vc_X8_refusePlace
  refine cl_there h hn ?_
  refine ⟨fun _ => ?_, (fun q => absurd q (by decide))⟩
  apply vc_X4_hasPlace
  rw [h]
  have fin : (decide ((0 : Int32) = 0) = true → ax_CI (d + 1) 135 [ax_vr 8 0 3, ax_vi 2] I L (fun x9 I7 L8 => K x9 I7 L8)) ∧ (decide ((0 : Int32) = 0) = false → K 0 I L) := ⟨fun _ => cl_find (f := 2) (by omega) hK, (fun q => absurd q (by decide))⟩
  refine ax_if (fun _ => ⟨by decide, fin⟩) (fun h0 => ax_if (fun _ => ⟨by decide, fin⟩) (fun h6 => ?_))
  rcases hi with q | q
  · exact absurd q h0
  · exact absurd q h6
theorem rf_rowAt {d r i : Nat} {I : ax_I} {L : ax_J} {K : Int32 → ax_I → ax_J → Prop} (hr : r < 6) (hi : i < 40) (hK : K (I 187 (40 * r + i)) I L) : ax_CI (d + 1) 161 [ax_vr 9 0 184, ax_vi (nI r), ax_vi (nI i)] I L K := by
  apply vc_X9_rowAt
  simp (disch := omega) only [Bool.not_eq_false, Bool.not_eq_true, decide_eq_true_eq, decide_eq_false_iff_not, Bool.not_eq_true', Bool.not_eq_false', ax_lle, ax_llt, ax_lel, ax_ltl, ax_leq, ax_eql, ax_clampl, ax_inb_iff, nI_clamp, nI_1, nI_leI, nI_ltI, nI_eq, ax_b0, ax_b1, ax_bitb, ax_ui_eq, ax_ui_ne, true_and, and_true, ax_lmul, nI_add]
  exact ⟨by omega, hK⟩
theorem ax_m1neg : ¬ (0 : Int32) ≤ -1 := by decide
theorem ax_m1lt : (-1 : Int32) < 0 := by decide
theorem op_text {I : ax_I} {L : ax_J} (h : sw_RR I L) (a b : Int32) : sw_OP 96 169 [ax_vi a, ax_vi b] I L := by
  intro d
  apply vc_X8_text
  apply vc_X8_lineAnewT
  rcases sw_dich (n := 4) (by omega) a with ⟨r, hr, rfl⟩ | ha
  · simp (disch := omega) only [Bool.not_eq_false, Bool.not_eq_true, decide_eq_true_eq, decide_eq_false_iff_not, Bool.not_eq_true', Bool.not_eq_false', ax_lle, ax_llt, ax_lel, ax_ltl, ax_leq, ax_eql, ax_clampl, ax_inb_iff, nI_clamp, nI_1, nI_leI, nI_ltI, nI_eq, ax_b0, ax_b1, ax_bitb, ax_ui_eq, ax_ui_ne, true_and, and_true]
    refine ⟨fun h => by omega, fun _ => ⟨fun h => by omega, fun _ => ⟨by omega, fun h40 => ⟨fun h0 => ⟨by omega, ?_⟩, fun h0 => ?_⟩, fun h40 => ?_⟩⟩⟩
    · obtain ⟨n, hn, rfl⟩ := ax_of_le h0 h40 (by omega)
      refine cl_makeAnew (by omega) (by omega) (fun I1 m1 v1 f1 => ?_)
      apply vc_X9_text
      refine rf_isText_k hr ?_
      simp (disch := omega) only [Bool.not_eq_false, Bool.not_eq_true, decide_eq_true_eq, decide_eq_false_iff_not, Bool.not_eq_true', Bool.not_eq_false', ax_lle, ax_llt, ax_lel, ax_ltl, ax_leq, ax_eql, ax_clampl, ax_inb_iff, nI_clamp, nI_1, nI_leI, nI_ltI, nI_eq, ax_b0, ax_b1, ax_bitb, ax_ui_eq, ax_ui_ne, true_and, and_true]
      refine ⟨fun h => absurd h (by decide), fun _ => ⟨fun _ => ⟨fun _ => ⟨by omega, ?_⟩, fun h => by omega⟩, fun h => by omega⟩⟩
      refine rf_textLoop hr hn (fun I2 z2 k2 f2 => ⟨rfl, ?_⟩)
      have fall : ∀ a, ¬ a = 5 + (126 + 2 * r) → ¬ a = 5 + (126 + 2 * r) + 1 → ¬ a = 189 → ¬ a = 190 → I2 a = I a := fun a q1 q2 q3 q4 => by rw [f2 a (by omega), ax_ui_row q3, f1 a (by omega)]
      refine h.tline hr ⟨?_, .inr ⟨n, hn, ?_, fun i hi => ?_⟩⟩ (fun a q1 q2 q3 => fall a q2 q3 (by omega) (by omega)) ⟨fun b _ => by rw [fall _ (by omega) (by omega) (by omega) (by omega)], by rw [fall _ (by omega) (by omega) (by omega) (by omega)], by rw [fall _ (by omega) (by omega) (by omega) (by omega)], by rw [fall _ (by omega) (by omega) (by omega) (by omega)]⟩ (fun b hb => ?_) (fun b hb => ?_) (h.MS.frame (by rw [fall _ (by omega) (by omega) (by omega) (by omega)]) (by rw [fall _ (by omega) (by omega) (by omega) (by omega)]) (fall _ (by omega) (by omega) (by omega) (by omega)) (fall _ (by omega) (by omega) (by omega) (by omega)) (by rw [fall _ (by omega) (by omega) (by omega) (by omega)]) (by rw [fall _ (by omega) (by omega) (by omega) (by omega)]))
      · rw [f2 _ (by omega), f2 _ (by omega), ax_ui_eq, ax_ui_ne (by omega), m1]
      · rw [f2 _ (by omega), ax_ui_ne (by omega), m1]
      · rw [z2 i (by omega), f2 _ (by omega), ax_ui_ne (by omega), v1 i hi]
      · rw [f2 _ (by omega), ax_ui_ne (by omega), f1 _ (by omega)]
      · rw [k2 b hb, ax_ui_ne (by omega), f1 _ (by omega)]
    · refine cl_find (f := 5) (by omega) ?_
      apply vc_X9_text
      refine rf_isText_k hr ?_
      simp (disch := omega) only [Bool.not_eq_false, Bool.not_eq_true, decide_eq_true_eq, decide_eq_false_iff_not, Bool.not_eq_true', Bool.not_eq_false', ax_lle, ax_llt, ax_lel, ax_ltl, ax_leq, ax_eql, ax_clampl, ax_inb_iff, nI_clamp, nI_1, nI_leI, nI_ltI, nI_eq, ax_b0, ax_b1, ax_bitb, ax_ui_eq, ax_ui_ne, true_and, and_true]
      refine ⟨fun h => absurd h (by decide), fun _ => ⟨fun _ => ⟨fun z => absurd z h0, fun _ => ?_⟩, fun z => absurd h40 z⟩⟩
      exact rf_meets (f := 5) (by omega) ⟨rfl, h.find (by omega)⟩
    · apply vc_X9_text
      refine rf_isText_k hr ?_
      simp (disch := omega) only [Bool.not_eq_false, Bool.not_eq_true, decide_eq_true_eq, decide_eq_false_iff_not, Bool.not_eq_true', Bool.not_eq_false', ax_lle, ax_llt, ax_lel, ax_ltl, ax_leq, ax_eql, ax_clampl, ax_inb_iff, nI_clamp, nI_1, nI_leI, nI_ltI, nI_eq, ax_b0, ax_b1, ax_bitb, ax_ui_eq, ax_ui_ne, true_and, and_true]
      exact ⟨fun h => absurd h (by decide), fun _ => ⟨fun z => absurd z h40, fun _ => h⟩⟩
  · have fin : ax_CI (d + 30) 169 [ax_vr 9 0 184, ax_vi a, ax_vi b] I L (fun b I2 L2 => (-1 : Int32) = b ∧ sw_RR I2 L2) := by
      apply vc_X9_text
      refine rf_isText_no ha ?_
      simp (disch := omega) only [Bool.not_eq_false, Bool.not_eq_true, decide_eq_true_eq, decide_eq_false_iff_not, Bool.not_eq_true', Bool.not_eq_false', ax_lle, ax_llt, ax_lel, ax_ltl, ax_leq, ax_eql, ax_clampl, ax_inb_iff, nI_clamp, nI_1, nI_leI, nI_ltI, nI_eq, ax_b0, ax_b1, ax_bitb, ax_ui_eq, ax_ui_ne, true_and, and_true]
      exact ⟨fun _ => h, fun z => absurd trivial z⟩
    refine ax_if (fun _ => fin) (fun h0 => ax_if (fun _ => fin) (fun h6 => ?_))
    rcases ha with q | q
    · exact absurd q h0
    · exact absurd q h6
theorem op_lay {I : ax_I} {L : ax_J} (h : sw_RR I L) (a b c : Int32) : sw_OP 91 163 [ax_vi a, ax_vi b, ax_vi c] I L := by
  intro d
  apply vc_X8_lay
  rcases sw_dich (n := 6) (by omega) a with ⟨r, hr, rfl⟩ | ha
  · refine cl_isRow_k hr ?_
    obtain ⟨l1, l2⟩ := h.LS.1 r hr
    simp (disch := omega) only [Bool.not_eq_false, Bool.not_eq_true, decide_eq_true_eq, decide_eq_false_iff_not, Bool.not_eq_true', Bool.not_eq_false', ax_lle, ax_llt, ax_lel, ax_ltl, ax_leq, ax_eql, ax_clampl, ax_inb_iff, nI_clamp, nI_1, nI_leI, nI_ltI, nI_eq, ax_b0, ax_b1, ax_bitb, ax_ui_eq, ax_ui_ne, true_and, and_true]
    refine ⟨fun _ => ⟨by omega, ?_⟩, (fun q => absurd q (by decide))⟩
    rcases l2 with l2 | ⟨n, hn, l2, l3⟩
    · refine cl_refuse_0 l2 ?_
      refine ⟨(fun q => absurd q (by decide)), fun _ => ?_⟩
      apply vc_X9_lay
      refine rf_isRow_k hr ?_
      have e : sw_fC I 1 186 r = -1 := by unfold sw_fC; rw [ax_ui_ne (by omega), ax_ui_ne (by omega), l1, l2]
      simp (disch := omega) only [Bool.not_eq_false, Bool.not_eq_true, decide_eq_true_eq, decide_eq_false_iff_not, Bool.not_eq_true', Bool.not_eq_false', ax_lle, ax_llt, ax_lel, ax_ltl, ax_leq, ax_eql, ax_clampl, ax_inb_iff, nI_clamp, nI_1, nI_leI, nI_ltI, nI_eq, ax_b0, ax_b1, ax_bitb, ax_ui_eq, ax_ui_ne, true_and, and_true, e]
      refine ⟨fun _ => ⟨by omega, fun q => absurd q ax_m1neg, fun _ => ?_⟩, (fun q => absurd q (by decide))⟩
      exact rf_meets (f := 1) (by omega) ⟨rfl, h.find (by omega)⟩
    · rcases sw_dich (n := n) (by omega) b with ⟨i, hi, rfl⟩ | hb
      · refine cl_refuse_k l2 (by omega) hi ?_
        refine ⟨fun _ => ⟨by omega, ?_⟩, (fun q => absurd q (by decide))⟩
        simp (disch := omega) only [Bool.not_eq_false, Bool.not_eq_true, decide_eq_true_eq, decide_eq_false_iff_not, Bool.not_eq_true', Bool.not_eq_false', ax_lle, ax_llt, ax_lel, ax_ltl, ax_leq, ax_eql, ax_clampl, ax_inb_iff, nI_clamp, nI_1, nI_leI, nI_ltI, nI_eq, ax_b0, ax_b1, ax_bitb, ax_ui_eq, ax_ui_ne, true_and, and_true]
        refine ⟨by omega, by omega, by omega, ?_⟩
        apply vc_X9_lay
        refine rf_isRow_k hr ?_
        rw [ax_ui_ne (a := 186) (by omega), ax_ui_ne (a := 186) (by omega), nI_clamp (by omega), l1, l2]
        simp (disch := omega) only [Bool.not_eq_false, Bool.not_eq_true, decide_eq_true_eq, decide_eq_false_iff_not, Bool.not_eq_true', Bool.not_eq_false', ax_lle, ax_llt, ax_lel, ax_ltl, ax_leq, ax_eql, ax_clampl, ax_inb_iff, nI_clamp, nI_1, nI_leI, nI_ltI, nI_eq, ax_b0, ax_b1, ax_bitb, ax_ui_eq, ax_ui_ne, true_and, and_true]
        refine ⟨fun _ => ⟨by omega, fun _ => ⟨by omega, ?_⟩, fun q => by omega⟩, (fun q => absurd q (by decide))⟩
        refine rf_in_k (n := n) (by omega) rfl hi ?_
        refine ⟨fun _ => ?_, (fun q => absurd q (by decide))⟩
        refine rf_rowAt hr (by omega) ?_
        simp (disch := omega) only [Bool.not_eq_false, Bool.not_eq_true, decide_eq_true_eq, decide_eq_false_iff_not, Bool.not_eq_true', Bool.not_eq_false', ax_lle, ax_llt, ax_lel, ax_ltl, ax_leq, ax_eql, ax_clampl, ax_inb_iff, nI_clamp, nI_1, nI_leI, nI_ltI, nI_eq, ax_b0, ax_b1, ax_bitb, ax_ui_eq, ax_ui_ne, true_and, and_true, ax_lmul, nI_add]
        refine ⟨by omega, ?_⟩
        apply vc_X9_tells
        rw [l3 i hi]
        refine ⟨rfl, h.line hr ⟨?_, .inr ⟨n, hn, ?_, fun j hj => ?_⟩⟩ (fun a q1 q2 q3 => ?_) ((((sw_SK.refl.ui (by omega) (by omega)).ui (by omega) (by omega)).ui (by omega) (by omega)).ui (by omega) (by omega)) (fun b hb => ?_) (fun b hb => ?_) (h.MS.told ?_ ?_ ?_ ?_ ?_)⟩
        · rw [ax_ui_ne (by omega), ax_ui_ne (by omega), ax_ui_ne (by omega), ax_ui_ne (by omega), ax_ui_ne (by omega), ax_ui_ne (by omega), ax_ui_ne (by omega), ax_ui_ne (by omega)]; exact l1
        · rw [ax_ui_ne (by omega), ax_ui_ne (by omega), ax_ui_ne (by omega), ax_ui_ne (by omega)]; exact l2
        · by_cases e : j = i
          · subst e; rw [ax_ui_ne (by omega), ax_ui_eq, ax_ui_ne (by omega), ax_ui_ne (by omega), ax_ui_eq]
          · rw [ax_ui_ne (by omega), ax_ui_ne (by omega), ax_ui_ne (by omega), ax_ui_ne (by omega), ax_ui_ne (by omega), ax_ui_ne (by omega), ax_ui_ne (by omega), ax_ui_ne (by omega)]; exact l3 j hj
        · rw [ax_ui_row (by omega), ax_ui_row (by omega), ax_ui_row (by omega), ax_ui_row (by omega)]
        · rw [ax_ui_ne (by omega), ax_ui_ne (by omega), ax_ui_ne (by omega), ax_ui_ne (by omega)]
        · rw [ax_ui_ne (by omega), ax_ui_ne (by omega), ax_ui_ne (by omega), ax_ui_ne (by omega)]
        · rw [ax_ui_ne (by omega), ax_ui_ne (by omega), ax_ui_ne (by omega), ax_ui_ne (by omega)]
        · rw [ax_ui_ne (by omega), ax_ui_ne (by omega), ax_ui_ne (by omega), ax_ui_ne (by omega)]
        · rw [ax_ui_row (by omega), ax_ui_row (by omega), ax_ui_row (by omega), ax_ui_row (by omega)]
        · rw [ax_ui_row (by omega), ax_ui_row (by omega), ax_ui_row (by omega), ax_ui_row (by omega)]
        · rw [ax_ui_eq, ax_ui_ne (by omega), ax_ui_ne (by omega), ax_ui_ne (by omega), ax_ui_eq]
      · refine cl_refuse_no l2 (by omega) hb ?_
        refine ⟨(fun q => absurd q (by decide)), fun _ => ?_⟩
        apply vc_X9_lay
        refine rf_isRow_k hr ?_
        have e : sw_fC I 2 186 r = nI n := by unfold sw_fC; rw [ax_ui_ne (by omega), ax_ui_ne (by omega), l1, l2]
        simp (disch := omega) only [Bool.not_eq_false, Bool.not_eq_true, decide_eq_true_eq, decide_eq_false_iff_not, Bool.not_eq_true', Bool.not_eq_false', ax_lle, ax_llt, ax_lel, ax_ltl, ax_leq, ax_eql, ax_clampl, ax_inb_iff, nI_clamp, nI_1, nI_leI, nI_ltI, nI_eq, ax_b0, ax_b1, ax_bitb, ax_ui_eq, ax_ui_ne, true_and, and_true, e]
        refine ⟨fun _ => ⟨by omega, fun _ => ⟨by omega, ?_⟩, fun q => by omega⟩, (fun q => absurd q (by decide))⟩
        refine rf_in_no (n := n) (by omega) rfl hb ?_
        simp (disch := omega) only [Bool.not_eq_false, Bool.not_eq_true, decide_eq_true_eq, decide_eq_false_iff_not, Bool.not_eq_true', Bool.not_eq_false', ax_lle, ax_llt, ax_lel, ax_ltl, ax_leq, ax_eql, ax_clampl, ax_inb_iff, nI_clamp, nI_1, nI_leI, nI_ltI, nI_eq, ax_b0, ax_b1, ax_bitb, ax_ui_eq, ax_ui_ne, true_and, and_true]
        refine ⟨(fun q => absurd trivial q), fun _ => ?_⟩
        exact rf_meets (f := 2) (by omega) ⟨rfl, h.find (by omega)⟩
  · refine cl_isRow_no ha ?_
    refine ⟨(fun q => absurd q (by decide)), fun _ => ?_⟩
    apply vc_X9_lay
    refine rf_isRow_no ha ?_
    exact ⟨(fun q => absurd q (by decide)), fun _ => ⟨rfl, h⟩⟩
