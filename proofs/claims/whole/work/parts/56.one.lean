theorem sw_ms_T {T : Nat} {p : Nat → Bool} (hT : T ≤ 6) (h : ∀ i, T ≤ i → i < 6 → p i = false) : ax_ms T p = ax_ms 6 p := by
  apply ax_bt_ext
  intro i hi
  rw [ax_bt_ms (by omega), ax_bt_ms (by omega)]
  by_cases h1 : i < T
  · rw [decide_eq_true h1, decide_eq_true (show i < 6 by omega)]
  · by_cases h2 : i < 6
    · rw [h i (by omega) h2, Bool.and_false, Bool.and_false]
    · rw [decide_eq_false h1, decide_eq_false h2]
theorem sw_TW.GI {I : ax_I} {N T : Nat} {kd : Nat → Nat} {tl un : Nat → Int32} {W : Nat → Nat → Nat} {es : sw_E} (h : sw_TW I N T kd tl un W es) : sw_GI N T (sw_rp kd es) := h.2.2.1.GI h.1.1 h.1.2.1
theorem sw_GI.out {N T : Nat} {G : sw_G} (h : sw_GI N T G) {w : Nat} (hw : T ≤ w) (h6 : w < 6) : G.1 w = -9 ∧ G.2.1 w = -9 := by
  obtain ⟨h1, h2, h3, h4, h5, h6', h7, h8⟩ := h
  exact ⟨h8 w h6 hw, h7 w h6 (h8 w h6 hw)⟩
theorem sw_TW.bo {I : ax_I} {N T : Nat} {kd : Nat → Nat} {tl un : Nat → Int32} {W : Nat → Nat → Nat} {es : sw_E} (h : sw_TW I N T kd tl un W es) {w : Nat} (hw : T ≤ w) (h6 : w < 6) : sw_by kd es w = -9 :=
  sw_by_no (fun e q => by have := (h.2.2.1.2 e q).1; have := h.1.1; omega) (h.GI.out hw h6).2
def sw_o1 (N : Nat) (kd : Nat → Nat) (tl un : Nat → Int32) (W : Nat → Nat → Nat) (es : sw_E) (x : Nat) : Nat → Int32
  | 0 => nI (kd x)
  | 1 => sw_hr N kd tl x
  | 2 => ax_ms 6 (fun w => ax_bt (sw_he kd es w) x)
  | 3 => ax_ms 6 (fun w => decide ((sw_rp kd es).2.1 w = nI x))
  | _ => nI (sw_gn W un (sw_rp kd es) x)
theorem cl_ofOne {d x k N T : Nat} {kd : Nat → Nat} {tl un : Nat → Int32} {W : Nat → Nat → Nat} {es : sw_E} {I : ax_I} {L : ax_J} {K : Int32 → ax_I → ax_J → Prop} (h : sw_TW I N T kd tl un W es) (hx : x < N) (hk : k ≤ 4) (hK : K (sw_o1 N kd tl un W es x k) I L) : ax_CI (d + 4) 140 [ax_vr 8 0 3, ax_vi (nI x), ax_vi (nI k)] I L K := by
  have hG := h.GI
  obtain ⟨q1, q2, q3, q4, q5, q6, q7, q8, q9, q10⟩ := h
  have hN := q1.1
  have hT := q1.2.1
  apply vc_X8_ofOne
  simp (disch := omega) only [Bool.not_eq_false, Bool.not_eq_true, decide_eq_true_eq, decide_eq_false_iff_not, Bool.not_eq_true', Bool.not_eq_false', ax_lle, ax_llt, ax_lel, ax_ltl, ax_leq, ax_eql, ax_clampl, ax_inb_iff, nI_clamp, nI_1, nI_leI, nI_ltI, nI_eq, ax_b0, ax_b1, ax_bitb, ax_ui_eq, ax_ui_ne, true_and, and_true, q5.2.2.1 x hx]
  match k, hk with
  | 0, _ => exact ⟨fun _ => ⟨by omega, hK⟩, fun q => by omega⟩
  | 1, _ => exact ⟨fun q => by omega, fun _ => ⟨fun _ => cl_hearersOf q4 q5 q1 hx hK, fun q => by omega⟩⟩
  | 2, _ => exact ⟨fun q => by omega, fun _ => ⟨fun q => by omega, fun _ => ⟨fun _ => cl_heardOfBy q6.2.2.1 (by omega) hK, fun q => by omega⟩⟩⟩
  | 3, _ => exact ⟨fun q => by omega, fun _ => ⟨fun q => by omega, fun _ => ⟨fun q => by omega, fun _ => ⟨fun _ => cl_hasOf q6.1 hK, fun q => by omega⟩⟩⟩⟩
  | 4, _ => exact ⟨fun q => by omega, fun _ => ⟨fun q => by omega, fun _ => ⟨fun q => by omega, fun _ => ⟨fun q => by omega, fun _ => cl_gainOf q5 q6.1 (fun v hv => by have := hG.2.2.2.1 v hv; omega) hG.len (by omega) hK⟩⟩⟩⟩
theorem rf_oneTells {d x k N T : Nat} {kd : Nat → Nat} {tl un : Nat → Int32} {W : Nat → Nat → Nat} {es : sw_E} {I : ax_I} {L : ax_J} {K : Int32 → ax_I → ax_J → Prop} (h : sw_TW I N T kd tl un W es) (hx : x < N) (hk : k ≤ 4) (hK : K (sw_o1 N kd tl un W es x k) I L) : ax_CI (d + 4) 194 [ax_vr 9 0 184, ax_vi (nI x), ax_vi (nI k)] I L K := by
  have hG := h.GI
  obtain ⟨q1, q2, q3, q4, q5, q6, q7, q8, q9, q10⟩ := h
  have hN := q1.1
  have hT := q1.2.1
  have q8 := q8 (by omega)
  apply vc_X9_oneTells
  simp (disch := omega) only [Bool.not_eq_false, Bool.not_eq_true, decide_eq_true_eq, decide_eq_false_iff_not, Bool.not_eq_true', Bool.not_eq_false', ax_lle, ax_llt, ax_lel, ax_ltl, ax_leq, ax_eql, ax_clampl, ax_inb_iff, nI_clamp, nI_1, nI_leI, nI_ltI, nI_eq, ax_b0, ax_b1, ax_bitb, ax_ui_eq, ax_ui_ne, true_and, and_true, q7.2.2.1 x hx]
  match k, hk with
  | 0, _ => exact ⟨fun _ => ⟨by omega, hK⟩, fun q => by omega⟩
  | 1, _ => exact ⟨fun q => by omega, fun _ => ⟨fun _ => rf_hearsOf q7 q1 hx hK, fun q => by omega⟩⟩
  | 2, _ =>
    refine ⟨fun q => by omega, fun _ => ⟨fun q => by omega, fun _ => ⟨fun _ => ?_, fun q => by omega⟩⟩⟩
    refine rf_v (k := 0) (a := 24) (by omega) (by omega) ?_
    rw [q8.2.2 x (by omega)]; exact hK
  | 3, _ =>
    refine ⟨fun q => by omega, fun _ => ⟨fun q => by omega, fun _ => ⟨fun q => by omega, fun _ => ⟨fun _ => ?_, fun q => by omega⟩⟩⟩⟩
    refine rf_thingsBy (a := 6) q7 hT (by omega) q8.1.2.1 ?_
    rw [sw_ms_T hT (fun i h1 h2 => by rw [(hG.out h1 h2).2]; exact decide_eq_false (ax_9ne (by omega)))]
    exact hK
  | 4, _ => exact ⟨fun q => by omega, fun _ => ⟨fun q => by omega, fun _ => ⟨fun q => by omega, fun _ => ⟨fun q => by omega, fun _ => rf_gainOf (k := 0) q7 hT q8.1 hG (by omega) (by omega) hK⟩⟩⟩⟩
def sw_t1 (un : Nat → Int32) (kd : Nat → Nat) (es : sw_E) (w : Nat) : Nat → Int32
  | 0 => (sw_rp kd es).1 w
  | 1 => (sw_rp kd es).2.1 w
  | 2 => un w
  | _ => if ax_bt (sw_hd un (sw_rp kd es).2.2) w then 1 else 0
theorem cl_ofThing {d w k N T : Nat} {kd : Nat → Nat} {tl un : Nat → Int32} {W : Nat → Nat → Nat} {es : sw_E} {I : ax_I} {L : ax_J} {K : Int32 → ax_I → ax_J → Prop} (h : sw_TW I N T kd tl un W es) (hw : w < T) (hk : k ≤ 3) (hK : K (sw_t1 un kd es w k) I L) : ax_CI (d + 4) 141 [ax_vr 8 0 3, ax_vi (nI w), ax_vi (nI k)] I L K := by
  have hG := h.GI
  obtain ⟨q1, q2, q3, q4, q5, q6, q7, q8, q9, q10⟩ := h
  have hN := q1.1
  have hT := q1.2.1
  have e1 : I 18 w = (sw_rp kd es).1 w := q6.1.2.1 w (by omega)
  have e2 : I 19 w = (sw_rp kd es).2.1 w := q6.1.2.2.1 w (by omega)
  have e3 : I 9 w = un w := q5.2.2.2.2 w (by omega)
  apply vc_X8_ofThing
  simp (disch := omega) only [Bool.not_eq_false, Bool.not_eq_true, decide_eq_true_eq, decide_eq_false_iff_not, Bool.not_eq_true', Bool.not_eq_false', ax_lle, ax_llt, ax_lel, ax_ltl, ax_leq, ax_eql, ax_clampl, ax_inb_iff, nI_clamp, nI_1, nI_leI, nI_ltI, nI_eq, ax_b0, ax_b1, ax_bitb, ax_ui_eq, ax_ui_ne, true_and, and_true, e1, e2, e3]
  match k, hk with
  | 0, _ => exact ⟨fun _ => ⟨by omega, hK⟩, fun q => by omega⟩
  | 1, _ => exact ⟨fun q => by omega, fun _ => ⟨fun _ => ⟨by omega, hK⟩, fun q => by omega⟩⟩
  | 2, _ => exact ⟨fun q => by omega, fun _ => ⟨fun q => by omega, fun _ => ⟨fun _ => ⟨by omega, hK⟩, fun q => by omega⟩⟩⟩
  | 3, _ =>
    refine ⟨fun q => by omega, fun _ => ⟨fun q => by omega, fun _ => ⟨fun q => by omega, fun _ => ?_⟩⟩⟩
    refine cl_holding q5 q6.1 (fun v hv => by have := hG.2.2.2.1 v hv; omega) hG.len ?_
    rw [ax_bt_ask (by omega)]; exact hK
theorem rf_thingTells {d w k N T : Nat} {kd : Nat → Nat} {tl un : Nat → Int32} {W : Nat → Nat → Nat} {es : sw_E} {I : ax_I} {L : ax_J} {K : Int32 → ax_I → ax_J → Prop} (h : sw_TW I N T kd tl un W es) (hw : w < T) (hk : k ≤ 3) (hK : K (sw_t1 un kd es w k) I L) : ax_CI (d + 4) 196 [ax_vr 9 0 184, ax_vi (nI w), ax_vi (nI k)] I L K := by
  have hG := h.GI
  obtain ⟨q1, q2, q3, q4, q5, q6, q7, q8, q9, q10⟩ := h
  have hN := q1.1
  have hT := q1.2.1
  have q8 := q8 (by have := q1.2.2.1; omega)
  have e3 : I 194 w = un w := q7.2.2.2.2.2 w (by omega)
  apply vc_X9_thingTells
  simp (disch := omega) only [Bool.not_eq_false, Bool.not_eq_true, decide_eq_true_eq, decide_eq_false_iff_not, Bool.not_eq_true', Bool.not_eq_false', ax_lle, ax_llt, ax_lel, ax_ltl, ax_leq, ax_eql, ax_clampl, ax_inb_iff, nI_clamp, nI_1, nI_leI, nI_ltI, nI_eq, ax_b0, ax_b1, ax_bitb, ax_ui_eq, ax_ui_ne, true_and, and_true, e3]
  match k, hk with
  | 0, _ =>
    refine ⟨fun _ => rf_v (k := 0) (a := 0) (by omega) (by omega) ?_, fun q => by omega⟩
    rw [Nat.zero_add, q8.1.1 w (by omega)]; exact hK
  | 1, _ =>
    refine ⟨fun q => by omega, fun _ => ⟨fun _ => rf_v (k := 0) (a := 6) (by omega) (by omega) ?_, fun q => by omega⟩⟩
    rw [q8.1.2.1 w (by omega)]; exact hK
  | 2, _ => exact ⟨fun q => by omega, fun _ => ⟨fun q => by omega, fun _ => ⟨fun _ => ⟨by omega, hK⟩, fun q => by omega⟩⟩⟩
  | 3, _ =>
    refine ⟨fun q => by omega, fun _ => ⟨fun q => by omega, fun _ => ⟨fun q => by omega, fun _ => ?_⟩⟩⟩
    refine rf_holds (k := 0) q7 hT q8.1 hG (by omega) ?_
    refine rf_has (by omega) ?_
    simp (disch := omega) only [Bool.not_eq_false, Bool.not_eq_true, decide_eq_true_eq, decide_eq_false_iff_not, Bool.not_eq_true', Bool.not_eq_false', ax_lle, ax_llt, ax_lel, ax_ltl, ax_leq, ax_eql, ax_clampl, ax_inb_iff, nI_clamp, nI_1, nI_leI, nI_ltI, nI_eq, ax_b0, ax_b1, ax_bitb, ax_ui_eq, ax_ui_ne, true_and, and_true]
    have hK : K (if ax_bt (sw_hd un (sw_rp kd es).2.2) w then 1 else 0) I L := hK
    refine ⟨fun q => ?_, fun q => ?_⟩
    · rw [q] at hK; exact hK
    · rw [q] at hK; exact hK
theorem sw_TW.t3 {I : ax_I} {N T : Nat} {kd : Nat → Nat} {tl un : Nat → Int32} {W : Nat → Nat → Nat} {es : sw_E} {v : Int32} (h : sw_TW I N T kd tl un W es) : sw_TW (ax_ui I 3 13 v) N T kd tl un W es :=
  h.frame (fun a q => ax_ui_row (by omega)) (ax_ui_ne (by omega)) (ax_ui_ne (by omega)) (ax_ui_ne (by omega)) (fun b _ => ax_ui_ne (by omega))
theorem op_one {I : ax_I} {L : ax_J} (h : sw_RR I L) (a b : Int32) : sw_OP 100 195 [ax_vi a, ax_vi b] I L := by
  intro d
  have h0 := h
  obtain ⟨N, T, kd, tl, un, W, es, h1, h2, h3, h4⟩ := h
  have hN := h1.1.1
  have c1 := h1.2.2.2.2.1.1
  have r1 := h1.2.2.2.2.2.2.1.1
  apply vc_X8_one
  rcases sw_dich (n := N) (by omega) a with ⟨x, hx, rfl⟩ | ha
  · refine cl_hasOne_k c1 (by omega) hx ?_
    refine ⟨(fun q => absurd q (by decide)), fun _ => ?_⟩
    rcases sw_dich (n := 5) (by omega) b with ⟨k, hk, rfl⟩ | hb
    · simp (disch := omega) only [Bool.not_eq_false, Bool.not_eq_true, decide_eq_true_eq, decide_eq_false_iff_not, Bool.not_eq_true', Bool.not_eq_false', ax_lle, ax_llt, ax_lel, ax_ltl, ax_leq, ax_eql, ax_clampl, ax_inb_iff, nI_clamp, nI_1, nI_leI, nI_ltI, nI_eq, ax_b0, ax_b1, ax_bitb, ax_ui_eq, ax_ui_ne, true_and, and_true]
      refine ⟨fun q => by omega, fun _ => ⟨fun _ => ?_, fun q => by omega⟩⟩
      refine cl_ofOne h1 hx (by omega) ?_
      apply vc_X9_one
      refine rf_isOne_k (by rw [ax_ui_ne (by omega)]; exact r1) hN hx ?_
      refine ⟨(fun q => absurd q (by decide)), fun _ => ?_⟩
      refine rf_in_k (n := 5) (by omega) (by decide) hk ?_
      refine ⟨(fun q => absurd q (by decide)), fun _ => ?_⟩
      refine rf_oneTells h1.t3 hx (by omega) ?_
      apply vc_X9_tells
      exact ⟨rfl, h0.tell⟩
    · have fin : ax_CI (d + 30) 195 [ax_vr 9 0 184, ax_vi (nI x), ax_vi b] I L (fun b I2 L2 => (-1 : Int32) = b ∧ sw_RR I2 L2) := by
        apply vc_X9_one
        refine rf_isOne_k r1 hN hx ?_
        refine ⟨(fun q => absurd q (by decide)), fun _ => ?_⟩
        refine rf_in_no (n := 5) (by omega) (by decide) hb ?_
        exact ⟨fun _ => ⟨rfl, h0⟩, (fun q => absurd q (by decide))⟩
      refine ax_if (fun _ => fin) (fun q0 => ax_if (fun q1 => ?_) (fun _ => fin))
      exfalso
      rcases hb with q | q
      · exact absurd q q0
      · exact absurd (Int32.le_trans q q1) (by decide)
  · refine cl_hasOne_no c1 ha ?_
    refine ⟨fun _ => ?_, (fun q => absurd q (by decide))⟩
    apply vc_X9_one
    refine rf_isOne_no r1 hN ha ?_
    exact ⟨fun _ => ⟨rfl, h0⟩, (fun q => absurd q (by decide))⟩
theorem op_thing {I : ax_I} {L : ax_J} (h : sw_RR I L) (a b : Int32) : sw_OP 101 197 [ax_vi a, ax_vi b] I L := by
  intro d
  have h0 := h
  obtain ⟨N, T, kd, tl, un, W, es, h1, h2, h3, h4⟩ := h
  have hT := h1.1.2.1
  have c1 := h1.2.2.2.2.1.2.1
  have r1 := h1.2.2.2.2.2.2.1.2.1
  apply vc_X8_thing
  rcases sw_dich (n := T) (by omega) a with ⟨x, hx, rfl⟩ | ha
  · refine cl_hasThing_k c1 (by omega) hx ?_
    refine ⟨(fun q => absurd q (by decide)), fun _ => ?_⟩
    rcases sw_dich (n := 4) (by omega) b with ⟨k, hk, rfl⟩ | hb
    · simp (disch := omega) only [Bool.not_eq_false, Bool.not_eq_true, decide_eq_true_eq, decide_eq_false_iff_not, Bool.not_eq_true', Bool.not_eq_false', ax_lle, ax_llt, ax_lel, ax_ltl, ax_leq, ax_eql, ax_clampl, ax_inb_iff, nI_clamp, nI_1, nI_leI, nI_ltI, nI_eq, ax_b0, ax_b1, ax_bitb, ax_ui_eq, ax_ui_ne, true_and, and_true]
      refine ⟨fun q => by omega, fun _ => ⟨fun _ => ?_, fun q => by omega⟩⟩
      refine cl_ofThing h1 hx (by omega) ?_
      apply vc_X9_thing
      refine rf_isThing_k (by rw [ax_ui_ne (by omega)]; exact r1) hT hx ?_
      refine ⟨(fun q => absurd q (by decide)), fun _ => ?_⟩
      refine rf_in_k (n := 4) (by omega) (by decide) hk ?_
      refine ⟨(fun q => absurd q (by decide)), fun _ => ?_⟩
      refine rf_thingTells h1.t3 hx (by omega) ?_
      apply vc_X9_tells
      exact ⟨rfl, h0.tell⟩
    · have fin : ax_CI (d + 30) 197 [ax_vr 9 0 184, ax_vi (nI x), ax_vi b] I L (fun b I2 L2 => (-1 : Int32) = b ∧ sw_RR I2 L2) := by
        apply vc_X9_thing
        refine rf_isThing_k r1 hT hx ?_
        refine ⟨(fun q => absurd q (by decide)), fun _ => ?_⟩
        refine rf_in_no (n := 4) (by omega) (by decide) hb ?_
        exact ⟨fun _ => ⟨rfl, h0⟩, (fun q => absurd q (by decide))⟩
      refine ax_if (fun _ => fin) (fun q0 => ax_if (fun q1 => ?_) (fun _ => fin))
      exfalso
      rcases hb with q | q
      · exact absurd q q0
      · exact absurd (Int32.le_trans q q1) (by decide)
  · refine cl_hasThing_no c1 ha ?_
    refine ⟨fun _ => ?_, (fun q => absurd q (by decide))⟩
    apply vc_X9_thing
    refine rf_isThing_no r1 hT ha ?_
    exact ⟨fun _ => ⟨rfl, h0⟩, (fun q => absurd q (by decide))⟩
