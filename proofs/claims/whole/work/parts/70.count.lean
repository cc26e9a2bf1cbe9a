theorem ax_ct {P A B : Prop} [Decidable P] (h : P) (a : A) : (decide P = true → A) ∧ (decide P = false → B) := ⟨fun _ => a, fun q => absurd h (of_decide_eq_false q)⟩
theorem ax_cf {P A B : Prop} [Decidable P] (h : ¬ P) (b : B) : (decide P = true → A) ∧ (decide P = false → B) := ⟨fun q => absurd (of_decide_eq_true q) h, fun _ => b⟩
theorem ax_nt {P A B : Prop} [Decidable P] (h : ¬ P) (a : A) : ((!decide P) = true → A) ∧ ((!decide P) = false → B) := ⟨fun _ => a, fun q => absurd (by rw [Bool.not_eq_false', decide_eq_true_eq] at q; exact q) h⟩
theorem ax_nf {P A B : Prop} [Decidable P] (h : P) (b : B) : ((!decide P) = true → A) ∧ ((!decide P) = false → B) := ⟨fun q => absurd h (by rw [Bool.not_eq_true', decide_eq_false_iff_not] at q; exact q), fun _ => b⟩
theorem op_asked {I : ax_I} {L : ax_J} (h : sw_RR I L) : sw_OP 125 156 [] I L := by
  intro d
  apply vc_X8_asked
  apply vc_X9_asked
  exact ⟨h.MS.2.2.1, h⟩
theorem op_upper {I : ax_I} {L : ax_J} (h : sw_RR I L) : sw_OPL 126 158 [] I L := by
  intro d
  apply vc_X8_upper
  apply vc_X9_upper
  exact ⟨h.MS.2.2.2.1, h⟩
theorem op_lower {I : ax_I} {L : ax_J} (h : sw_RR I L) : sw_OPL 127 159 [] I L := by
  intro d
  apply vc_X8_lower
  apply vc_X9_lower
  exact ⟨h.MS.2.2.2.2, h⟩
theorem op_finding {I : ax_I} {L : ax_J} (h : sw_RR I L) : sw_OP 129 153 [] I L := by
  intro d
  apply vc_X8_finding
  apply vc_X9_finding
  exact ⟨h.MS.1, h⟩
theorem op_findings {I : ax_I} {L : ax_J} (h : sw_RR I L) (a : Int32) : sw_OP 130 154 [ax_vi a] I L := by
  intro d
  apply vc_X8_findings
  by_cases hb : (1 : Int32) ≤ a ∧ a ≤ 5
  · obtain ⟨k, hk, rfl⟩ := ax_of_le (x := a) (n := 5) (Int32.le_trans (by decide) hb.1) hb.2 (by omega)
    have hk1 : 1 ≤ k := by have := hb.1; simp (disch := omega) only [Bool.not_eq_false, Bool.not_eq_true, decide_eq_true_eq, decide_eq_false_iff_not, Bool.not_eq_true', Bool.not_eq_false', ax_lle, ax_llt, ax_lel, ax_ltl, ax_leq, ax_eql, ax_clampl, ax_inb_iff, nI_clamp, nI_1, nI_leI, nI_ltI, nI_eq, ax_b0, ax_b1, ax_bitb, ax_ui_eq, ax_ui_ne, true_and, and_true] at this; exact this
    simp (disch := omega) only [Bool.not_eq_false, Bool.not_eq_true, decide_eq_true_eq, decide_eq_false_iff_not, Bool.not_eq_true', Bool.not_eq_false', ax_lle, ax_llt, ax_lel, ax_ltl, ax_leq, ax_eql, ax_clampl, ax_inb_iff, nI_clamp, nI_1, nI_leI, nI_ltI, nI_eq, ax_b0, ax_b1, ax_bitb, ax_ui_eq, ax_ui_ne, true_and, and_true]
    refine ⟨fun q => by omega, fun _ => ⟨fun q => by omega, fun _ => ⟨by omega, ?_⟩⟩⟩
    apply vc_X9_findings
    refine rf_in ?_
    rw [decide_eq_true (show (1 : Int32) ≤ nI k from hb.1), decide_eq_true (show nI k ≤ 5 from hb.2)]
    refine ⟨(fun q => absurd q (by decide)), fun _ => ⟨ax_inb_nI (by omega) (by omega), ?_⟩⟩
    rw [nI_clamp (by omega)]
    exact ⟨h.MS.2.1 k (by omega), h⟩
  · have fin : ax_CI (d + 30) 154 [ax_vr 9 0 184, ax_vi a] I L (fun b I2 L2 => (-1 : Int32) = b ∧ sw_RR I2 L2) := by
      apply vc_X9_findings
      refine rf_in ?_
      have e : (decide ((1 : Int32) ≤ a) && decide (a ≤ 5)) = false := by
        cases z : (decide ((1 : Int32) ≤ a) && decide (a ≤ 5)) with
        | false => rfl
        | true =>
          rw [Bool.and_eq_true, decide_eq_true_eq, decide_eq_true_eq] at z
          exact absurd z hb
      rw [e]
      exact ⟨fun _ => ⟨rfl, h⟩, (fun q => absurd q (by decide))⟩
    refine ax_if (fun _ => fin) (fun q0 => ax_if (fun _ => fin) (fun q1 => ?_))
    exact absurd ⟨Int32.not_lt.mp q0, Int32.not_lt.mp q1⟩ hb
/-- how many of them -/
def sw_hm (p : Nat → Bool) (n : Nat) : Nat := ax_it (fun i a => if p i then a + 1 else a) n 0 0
theorem sw_hm_ext {p q : Nat → Bool} {n : Nat} (h : ∀ i, i < n → p i = q i) : sw_hm p n = sw_hm q n := ax_it_congr n 0 0 (fun i a _ h2 => by rw [h i (by omega)])
theorem sw_hm_T {p : Nat → Bool} {T : Nat} (hT : T ≤ 6) (h : ∀ i, T ≤ i → i < 6 → p i = false) : sw_hm p 6 = sw_hm p T := by
  unfold sw_hm
  rw [show 6 = T + (6 - T) by omega, ax_it_add]
  exact ax_it_id _ _ _ (fun i a h1 h2 => by rw [h i (by omega) (by omega)]; rfl)
def sw_bl (b0 b1 b2 b3 b4 b5 : Bool) (i : Nat) : Bool := if i = 0 then b0 else if i = 1 then b1 else if i = 2 then b2 else if i = 3 then b3 else if i = 4 then b4 else b5
theorem sw_bl_eq {p : Nat → Bool} {i : Nat} (h : i < 6) : p i = sw_bl (p 0) (p 1) (p 2) (p 3) (p 4) (p 5) i := by
  match i, h with
  | 0, _ => rfl
  | 1, _ => rfl
  | 2, _ => rfl
  | 3, _ => rfl
  | 4, _ => rfl
  | 5, _ => rfl
theorem sw_pcb : ∀ N, N ≤ 6 → ∀ b0 b1 b2 b3 b4 b5 : Bool, ∀ m, m < 64 → ax_ms N (sw_bl b0 b1 b2 b3 b4 b5) = nI m → sw_pc 6 m = sw_hm (sw_bl b0 b1 b2 b3 b4 b5) N := by decide +kernel
theorem sw_pcs {p : Nat → Bool} {N m : Nat} (hN : N ≤ 6) (hm : m < 64) (h : ax_ms N p = nI m) : sw_pc 6 m = sw_hm p N := by
  have e1 : ax_ms N p = ax_ms N (sw_bl (p 0) (p 1) (p 2) (p 3) (p 4) (p 5)) := ax_ms_congr (fun i hi => sw_bl_eq (by omega))
  have e2 : sw_hm p N = sw_hm (sw_bl (p 0) (p 1) (p 2) (p 3) (p 4) (p 5)) N := sw_hm_ext (fun i hi => sw_bl_eq (by omega))
  rw [e2]
  exact sw_pcb N hN _ _ _ _ _ _ m hm (e1 ▸ h)
/-- what count() answers -/
def sw_ct (I : ax_I) (N T : Nat) (kd : Nat → Nat) (es : sw_E) : Nat → Nat
  | 0 => N
  | 1 => T
  | 2 => es.length
  | 3 => sw_hm (fun w => !decide ((sw_rp kd es).2.1 w = -9)) T
  | 4 => sw_hm (fun w => !decide ((sw_rp kd es).1 w = -9) && decide ((sw_rp kd es).2.1 w = -9)) T
  | 5 => sw_hm (fun x => sw_ko (kd x) 1) N
  | 6 => sw_hm (fun r => !decide (I (4 + (115 + 2 * r)) 1 = -1)) 6
  | 7 => sw_hm (fun r => !decide (I (5 + (126 + 2 * r)) 1 = -1)) 4
  | _ => sw_hm (fun k => !decide (I 26 k = 0)) 3
theorem sw_cn_hm {O : Nat → Int32} : sw_cn O = sw_hm (fun w => !decide (O w = -9)) 6 := by
  unfold sw_cn sw_hm
  refine ax_it_congr 6 0 0 (fun i a _ _ => ?_)
  by_cases h : O i = -9
  · simp [h]
  · simp [h]
theorem cl_count {d k N T : Nat} {kd : Nat → Nat} {tl un : Nat → Int32} {W : Nat → Nat → Nat} {es : sw_E} {I : ax_I} {L : ax_J} {K : Int32 → ax_I → ax_J → Prop} (h : sw_TW I N T kd tl un W es) (hk : k ≤ 8) (hK : K (nI (sw_ct I N T kd es k)) I L) : ax_CI (d + 4) 128 [ax_vr 8 0 3, ax_vi (nI k)] I L K := by
  have hG := h.GI
  obtain ⟨q1, q2, q3, q4, q5, q6, q7, q8, q9, q10⟩ := h
  have hN := q1.1
  have hT := q1.2.1
  apply vc_X8_count
  rw [q5.1, q5.2.1, q6.2.2.2.1, q6.1.2.2.2.1]
  simp (disch := omega) only [Bool.not_eq_false, Bool.not_eq_true, decide_eq_true_eq, decide_eq_false_iff_not, Bool.not_eq_true', Bool.not_eq_false', ax_lle, ax_llt, ax_lel, ax_ltl, ax_leq, ax_eql, ax_clampl, ax_inb_iff, nI_clamp, nI_1, nI_leI, nI_ltI, nI_eq, ax_b0, ax_b1, ax_bitb, ax_ui_eq, ax_ui_ne, true_and, and_true]
  match k, hk with
  | 0, _ => exact ⟨fun _ => hK, fun q => by omega⟩
  | 1, _ => exact ⟨fun q => by omega, fun _ => ⟨fun _ => hK, fun q => by omega⟩⟩
  | 2, _ => exact ⟨fun q => by omega, fun _ => ⟨fun q => by omega, fun _ => ⟨fun _ => hK, fun q => by omega⟩⟩⟩
  | 3, _ =>
    refine ⟨fun q => by omega, fun _ => ⟨fun q => by omega, fun _ => ⟨fun q => by omega, fun _ => ⟨fun _ => ?_, fun q => by omega⟩⟩⟩⟩
    rw [hG.1, sw_cn_hm, sw_hm_T hT (fun i h1 h2 => by rw [(hG.out h1 h2).2]; rfl)]; exact hK
  | 4, _ =>
    refine ⟨fun q => by omega, fun _ => ⟨fun q => by omega, fun _ => ⟨fun q => by omega, fun _ => ⟨fun q => by omega, fun _ => ⟨fun _ => ?_, fun q => by omega⟩⟩⟩⟩⟩
    refine cl_waiting q6.1 ?_
    have e := sw_hm_T (p := fun w => !decide ((sw_rp kd es).1 w = -9) && decide ((sw_rp kd es).2.1 w = -9)) hT (fun i h1 h2 => by rw [(hG.out h1 h2).1]; rfl)
    have hK : K (nI (sw_hm (fun w => !decide ((sw_rp kd es).1 w = -9) && decide ((sw_rp kd es).2.1 w = -9)) T)) I L := hK
    rw [← e] at hK; exact hK
  | 5, _ =>
    refine ⟨fun q => by omega, fun _ => ⟨fun q => by omega, fun _ => ⟨fun q => by omega, fun _ => ⟨fun q => by omega, fun _ => ⟨fun q => by omega, fun _ => ⟨fun _ => ?_, fun q => by omega⟩⟩⟩⟩⟩⟩
    refine cl_allOf (k := 1) q4 q5 q1 (by omega) (by omega) ?_
    obtain ⟨m, hm, em⟩ : ∃ m, m < 64 ∧ ax_ms N (fun x => sw_ko (kd x) 1) = nI m := ax_small (fun i h1 h2 => by rw [ax_bt_ms (by omega), decide_eq_false (by omega), Bool.false_and])
    rw [em]
    refine cl_bitCount hm ?_
    rw [sw_pcs hN hm em]; exact hK
  | 6, _ =>
    refine ⟨fun q => by omega, fun _ => ⟨fun q => by omega, fun _ => ⟨fun q => by omega, fun _ => ⟨fun q => by omega, fun _ => ⟨fun q => by omega, fun _ => ⟨fun q => by omega, fun _ => ⟨fun _ => ?_, fun q => by omega⟩⟩⟩⟩⟩⟩⟩
    apply vc_X8_linesThereR
    suffices ∀ (n w a : Nat) (z0 z5 : Option ax_V), w + n = 6 → K (nI (ax_it (fun i a => if (fun r => !decide (I (4 + (115 + 2 * r)) 1 = -1)) i then a + 1 else a) n w a)) I L → ax_AK ((d + 2)) 142 (10, [z0, some (ax_vi (nI a)), some (ax_vr 13 6 4), some (ax_vi (nI 6)), some (ax_vi (nI w)), z5], [], ax_mm I L) (ax_ki K) from this 6 0 0 _ _ (by omega) hK
    intro n
    induction n with
    | zero =>
      intro w a z0 z5 hw hK
      apply vc_X8_linesThereR_10
      simp (disch := omega) only [Bool.not_eq_false, Bool.not_eq_true, decide_eq_true_eq, decide_eq_false_iff_not, Bool.not_eq_true', Bool.not_eq_false', ax_lle, ax_llt, ax_lel, ax_ltl, ax_leq, ax_eql, ax_clampl, ax_inb_iff, nI_clamp, nI_1, nI_leI, nI_ltI, nI_eq, ax_b0, ax_b1, ax_bitb, ax_ui_eq, ax_ui_ne, true_and, and_true]
      exact ⟨fun _ => hK, fun q => by omega⟩
    | succ n ih =>
      intro w a z0 z5 hw hK
      have hK : K (nI (ax_it (fun i a => if (fun r => !decide (I (4 + (115 + 2 * r)) 1 = -1)) i then a + 1 else a) n (w + 1) (if !decide (I (4 + (115 + 2 * w)) 1 = -1) then a + 1 else a))) I L := hK
      apply vc_X8_linesThereR_10
      simp (disch := omega) only [Bool.not_eq_false, Bool.not_eq_true, decide_eq_true_eq, decide_eq_false_iff_not, Bool.not_eq_true', Bool.not_eq_false', ax_lle, ax_llt, ax_lel, ax_ltl, ax_leq, ax_eql, ax_clampl, ax_inb_iff, nI_clamp, nI_1, nI_leI, nI_ltI, nI_eq, ax_b0, ax_b1, ax_bitb, ax_ui_eq, ax_ui_ne, true_and, and_true]
      refine ⟨fun q => by omega, fun _ => ⟨by omega, ?_⟩⟩
      by_cases z : I (4 + (115 + 2 * w)) 1 = -1
      · refine cl_missing z ?_
        rw [z] at hK
        exact ⟨fun _ => ih _ _ _ _ (by omega) hK, fun q => absurd q (by decide)⟩
      · apply vc_X4_isMissing
        refine ax_nt z ⟨by decide, ?_⟩
        rw [decide_eq_false z] at hK
        exact ⟨fun q => absurd rfl q, fun _ => ih _ _ _ _ (by omega) hK⟩
  | 7, _ =>
    refine ⟨fun q => by omega, fun _ => ⟨fun q => by omega, fun _ => ⟨fun q => by omega, fun _ => ⟨fun q => by omega, fun _ => ⟨fun q => by omega, fun _ => ⟨fun q => by omega, fun _ => ⟨fun q => by omega, fun _ => ⟨fun _ => ?_, fun q => by omega⟩⟩⟩⟩⟩⟩⟩⟩
    apply vc_X8_linesThereT
    suffices ∀ (n w a : Nat) (z0 z5 : Option ax_V), w + n = 4 → K (nI (ax_it (fun i a => if (fun r => !decide (I (5 + (126 + 2 * r)) 1 = -1)) i then a + 1 else a) n w a)) I L → ax_AK ((d + 2)) 142 (10, [z0, some (ax_vi (nI a)), some (ax_vr 14 4 5), some (ax_vi (nI 4)), some (ax_vi (nI w)), z5], [], ax_mm I L) (ax_ki K) from this 4 0 0 _ _ (by omega) hK
    intro n
    induction n with
    | zero =>
      intro w a z0 z5 hw hK
      apply vc_X8_linesThereT_10
      simp (disch := omega) only [Bool.not_eq_false, Bool.not_eq_true, decide_eq_true_eq, decide_eq_false_iff_not, Bool.not_eq_true', Bool.not_eq_false', ax_lle, ax_llt, ax_lel, ax_ltl, ax_leq, ax_eql, ax_clampl, ax_inb_iff, nI_clamp, nI_1, nI_leI, nI_ltI, nI_eq, ax_b0, ax_b1, ax_bitb, ax_ui_eq, ax_ui_ne, true_and, and_true]
      exact ⟨fun _ => hK, fun q => by omega⟩
    | succ n ih =>
      intro w a z0 z5 hw hK
      have hK : K (nI (ax_it (fun i a => if (fun r => !decide (I (5 + (126 + 2 * r)) 1 = -1)) i then a + 1 else a) n (w + 1) (if !decide (I (5 + (126 + 2 * w)) 1 = -1) then a + 1 else a))) I L := hK
      apply vc_X8_linesThereT_10
      simp (disch := omega) only [Bool.not_eq_false, Bool.not_eq_true, decide_eq_true_eq, decide_eq_false_iff_not, Bool.not_eq_true', Bool.not_eq_false', ax_lle, ax_llt, ax_lel, ax_ltl, ax_leq, ax_eql, ax_clampl, ax_inb_iff, nI_clamp, nI_1, nI_leI, nI_ltI, nI_eq, ax_b0, ax_b1, ax_bitb, ax_ui_eq, ax_ui_ne, true_and, and_true]
      refine ⟨fun q => by omega, fun _ => ⟨by omega, ?_⟩⟩
      by_cases z : I (5 + (126 + 2 * w)) 1 = -1
      · refine cl_missing z ?_
        rw [z] at hK
        exact ⟨fun _ => ih _ _ _ _ (by omega) hK, fun q => absurd q (by decide)⟩
      · apply vc_X4_isMissing
        refine ax_nt z ⟨by decide, ?_⟩
        rw [decide_eq_false z] at hK
        exact ⟨fun q => absurd rfl q, fun _ => ih _ _ _ _ (by omega) hK⟩
  | 8, _ =>
    refine ⟨fun q => by omega, fun _ => ⟨fun q => by omega, fun _ => ⟨fun q => by omega, fun _ => ⟨fun q => by omega, fun _ => ⟨fun q => by omega, fun _ => ⟨fun q => by omega, fun _ => ⟨fun q => by omega, fun _ => ⟨fun q => by omega, fun _ => ⟨fun _ => ?_, fun q => by omega⟩⟩⟩⟩⟩⟩⟩⟩⟩
    apply vc_X8_daysKept
    suffices ∀ (n w a : Nat) (z0 z5 : Option ax_V), w + n = 3 → K (nI (ax_it (fun i a => if (fun k => !decide (I 26 k = 0)) i then a + 1 else a) n w a)) I L → ax_AK ((d + 2)) 143 (13, [z0, some (ax_vi (nI a)), some (ax_vr 11 3 26), some (ax_vi (nI 3)), some (ax_vi (nI w)), z5], [], ax_mm I L) (ax_ki K) from this 3 0 0 _ _ (by omega) hK
    intro n
    induction n with
    | zero =>
      intro w a z0 z5 hw hK
      apply vc_X8_daysKept_13
      simp (disch := omega) only [Bool.not_eq_false, Bool.not_eq_true, decide_eq_true_eq, decide_eq_false_iff_not, Bool.not_eq_true', Bool.not_eq_false', ax_lle, ax_llt, ax_lel, ax_ltl, ax_leq, ax_eql, ax_clampl, ax_inb_iff, nI_clamp, nI_1, nI_leI, nI_ltI, nI_eq, ax_b0, ax_b1, ax_bitb, ax_ui_eq, ax_ui_ne, true_and, and_true]
      exact ⟨fun _ => hK, fun q => by omega⟩
    | succ n ih =>
      intro w a z0 z5 hw hK
      have hK : K (nI (ax_it (fun i a => if (fun k => !decide (I 26 k = 0)) i then a + 1 else a) n (w + 1) (if !decide (I 26 w = 0) then a + 1 else a))) I L := hK
      apply vc_X8_daysKept_13
      simp (disch := omega) only [Bool.not_eq_false, Bool.not_eq_true, decide_eq_true_eq, decide_eq_false_iff_not, Bool.not_eq_true', Bool.not_eq_false', ax_lle, ax_llt, ax_lel, ax_ltl, ax_leq, ax_eql, ax_clampl, ax_inb_iff, nI_clamp, nI_1, nI_leI, nI_ltI, nI_eq, ax_b0, ax_b1, ax_bitb, ax_ui_eq, ax_ui_ne, true_and, and_true]
      refine ⟨fun q => by omega, fun _ => ⟨by omega, fun z => ?_, fun z => ?_⟩⟩
      · rw [decide_eq_true z] at hK; exact ih _ _ _ _ (by omega) hK
      · rw [decide_eq_false z] at hK; exact ih _ _ _ _ (by omega) hK
theorem rf_counted {d k N T : Nat} {kd : Nat → Nat} {tl un : Nat → Int32} {W : Nat → Nat → Nat} {es : sw_E} {I : ax_I} {L : ax_J} {K : Int32 → ax_I → ax_J → Prop} (h : sw_TW I N T kd tl un W es) (h2 : ∀ k, k < 3 → sw_KP I N T kd k) (h3 : sw_LS I) (hk : k ≤ 8) (hK : K (nI (sw_ct I N T kd es k)) I L) : ax_CI (d + 3) 238 [ax_vr 9 0 184, ax_vi (nI k)] I L K := by
  obtain ⟨q1, q2, q3, q4, q5, q6, q7, q8, q9, q10⟩ := h
  have hN := q1.1
  have hT := q1.2.1
  apply vc_X9_counted
  have lit : ∀ c : Nat, c < 9 → (nI k = nI c ↔ k = c) := fun c hc => nI_eq (by omega) (by omega)
  /- the five loops, one behind the other -/
  obtain ⟨p1, hp1⟩ : ∃ p : Nat → Bool, p = fun w => (decide (k = 3) && !decide ((sw_rp kd es).2.1 w = -9)) || (decide (k = 4) && (!decide ((sw_rp kd es).1 w = -9) && decide ((sw_rp kd es).2.1 w = -9))) := ⟨_, rfl⟩
  obtain ⟨p2, hp2⟩ : ∃ p : Nat → Bool, p = fun x => decide (k = 5) && sw_ko (kd x) 1 := ⟨_, rfl⟩
  obtain ⟨p3, hp3⟩ : ∃ p : Nat → Bool, p = fun r => decide (k = 6) && !decide (I (4 + (115 + 2 * r)) 1 = -1) := ⟨_, rfl⟩
  obtain ⟨p4, hp4⟩ : ∃ p : Nat → Bool, p = fun r => decide (k = 7) && !decide (I (5 + (126 + 2 * r)) 1 = -1) := ⟨_, rfl⟩
  obtain ⟨p5, hp5⟩ : ∃ p : Nat → Bool, p = fun r => decide (k = 8) && !decide (I 26 r = 0) := ⟨_, rfl⟩
  have fin : ∀ (p : Nat → Bool) (n a : Nat), (∀ i, i < n → p i = false) → ax_it (fun i a => if p i then a + 1 else a) n 0 a = a := fun p n a hp => ax_it_id n 0 a (fun i a _ h2 => by rw [hp i (by omega)]; rfl)
  have tot : (k ≤ 2) ∨ ax_it (fun i a => if p5 i then a + 1 else a) 3 0 (ax_it (fun i a => if p4 i then a + 1 else a) 4 0 (ax_it (fun i a => if p3 i then a + 1 else a) 6 0 (ax_it (fun i a => if p2 i then a + 1 else a) N 0 (ax_it (fun i a => if p1 i then a + 1 else a) T 0 0)))) = sw_ct I N T kd es k := by
    match k, hk with
    | 0, _ => left; omega
    | 1, _ => left; omega
    | 2, _ => left; omega
    | 3, _ =>
      right
      rw [fin p5 _ _ (fun i _ => by rw [hp5]; rfl), fin p4 _ _ (fun i _ => by rw [hp4]; rfl), fin p3 _ _ (fun i _ => by rw [hp3]; rfl), fin p2 _ _ (fun i _ => by rw [hp2]; rfl), hp1]
      exact sw_hm_ext (fun i _ => by simp)
    | 4, _ =>
      right
      rw [fin p5 _ _ (fun i _ => by rw [hp5]; rfl), fin p4 _ _ (fun i _ => by rw [hp4]; rfl), fin p3 _ _ (fun i _ => by rw [hp3]; rfl), fin p2 _ _ (fun i _ => by rw [hp2]; rfl), hp1]
      exact sw_hm_ext (fun i _ => by simp)
    | 5, _ =>
      right
      rw [fin p5 _ _ (fun i _ => by rw [hp5]; rfl), fin p4 _ _ (fun i _ => by rw [hp4]; rfl), fin p3 _ _ (fun i _ => by rw [hp3]; rfl), fin p1 _ _ (fun i _ => by rw [hp1]; rfl), hp2]
      exact sw_hm_ext (fun i _ => by simp)
    | 6, _ =>
      right
      rw [fin p5 _ _ (fun i _ => by rw [hp5]; rfl), fin p4 _ _ (fun i _ => by rw [hp4]; rfl), fin p1 _ _ (fun i _ => by rw [hp1]; rfl), fin p2 _ _ (fun i _ => by rw [hp2]; rfl), hp3]
      exact sw_hm_ext (fun i _ => by simp)
    | 7, _ =>
      right
      rw [fin p5 _ _ (fun i _ => by rw [hp5]; rfl), fin p1 _ _ (fun i _ => by rw [hp1]; rfl), fin p2 _ _ (fun i _ => by rw [hp2]; rfl), fin p3 _ _ (fun i _ => by rw [hp3]; rfl), hp4]
      exact sw_hm_ext (fun i _ => by simp)
    | 8, _ =>
      right
      rw [fin p1 _ _ (fun i _ => by rw [hp1]; rfl), fin p2 _ _ (fun i _ => by rw [hp2]; rfl), fin p3 _ _ (fun i _ => by rw [hp3]; rfl), fin p4 _ _ (fun i _ => by rw [hp4]; rfl), hp5]
      exact sw_hm_ext (fun i _ => by simp)
  have L5 : ∀ (n w a : Nat) (z4 : Option ax_V), w + n = 3 → (k ≤ 2 ∨ ax_it (fun i a => if p5 i then a + 1 else a) n w a = sw_ct I N T kd es k) → ax_AK ((d + 2)) 238 (202, [some (ax_vr 9 0 184), some (ax_vi (nI k)), some (ax_vi (nI a)), some (ax_vi (nI w)), z4], [], ax_mm I L) (ax_ki K) := by
    intro n
    induction n with
    | zero =>
      intro w a z4 hw ht
      apply vc_X9_counted_202
      rw [q7.1, q7.2.1, q9]
      simp (disch := omega) only [Bool.not_eq_false, Bool.not_eq_true, decide_eq_true_eq, decide_eq_false_iff_not, Bool.not_eq_true', Bool.not_eq_false', ax_lle, ax_llt, ax_lel, ax_ltl, ax_leq, ax_eql, ax_clampl, ax_inb_iff, nI_clamp, nI_1, nI_leI, nI_ltI, nI_eq, ax_b0, ax_b1, ax_bitb, ax_ui_eq, ax_ui_ne, true_and, and_true]
      refine ⟨fun _ => ⟨fun e => ?_, fun e0 => ⟨fun e => ?_, fun e1 => ⟨fun e => ?_, fun e2 => ?_⟩⟩⟩, fun q => by omega⟩
      · subst e; exact hK
      · subst e; exact hK
      · subst e; exact hK
      · rcases ht with z | z
        · omega
        · have z : a = sw_ct I N T kd es k := z
          rw [z]; exact hK
    | succ n ih =>
      intro w a z4 hw ht
      have ht : k ≤ 2 ∨ ax_it (fun i a => if p5 i then a + 1 else a) n (w + 1) (if p5 w then a + 1 else a) = sw_ct I N T kd es k := ht
      apply vc_X9_counted_202
      simp (disch := omega) only [Bool.not_eq_false, Bool.not_eq_true, decide_eq_true_eq, decide_eq_false_iff_not, Bool.not_eq_true', Bool.not_eq_false', ax_lle, ax_llt, ax_lel, ax_ltl, ax_leq, ax_eql, ax_clampl, ax_inb_iff, nI_clamp, nI_1, nI_leI, nI_ltI, nI_eq, ax_b0, ax_b1, ax_bitb, ax_ui_eq, ax_ui_ne, true_and, and_true]
      refine ⟨fun q => by omega, fun _ => ⟨fun e => ?_, fun e => ⟨by omega, fun z => ?_, fun z => ?_⟩⟩⟩
      · rw [Int32.add_zero]
        refine ih _ _ _ (by omega) ?_
        rw [hp5, decide_eq_false e] at ht
        rw [hp5, decide_eq_false e]; exact ht
      · rw [Int32.add_zero]
        refine ih _ _ _ (by omega) ?_
        have : p5 w = false := by
          rw [hp5]
          rcases h2 w (by omega) with y | y
          · dsimp only; rw [y.1]; simp
          · rw [y.2.1] at z; exact absurd z (by decide)
        rw [this] at ht; exact ht
      · refine ih _ _ _ (by omega) ?_
        have : p5 w = true := by
          rw [hp5]
          rcases h2 w (by omega) with y | y
          · exact absurd y.2 z
          · dsimp only; rw [y.1, decide_eq_true e]; rfl
        rw [this] at ht; exact ht
  have L4 : ∀ (n w a : Nat) (z4 : Option ax_V), w + n = 4 → (k ≤ 2 ∨ ax_it (fun i a => if p5 i then a + 1 else a) 3 0 (ax_it (fun i a => if p4 i then a + 1 else a) n w a) = sw_ct I N T kd es k) → ax_AK ((d + 2)) 238 (166, [some (ax_vr 9 0 184), some (ax_vi (nI k)), some (ax_vi (nI a)), some (ax_vi (nI w)), z4], [], ax_mm I L) (ax_ki K) := by
    intro n
    induction n with
    | zero =>
      intro w a z4 hw ht
      apply vc_X9_counted_166
      simp (disch := omega) only [Bool.not_eq_false, Bool.not_eq_true, decide_eq_true_eq, decide_eq_false_iff_not, Bool.not_eq_true', Bool.not_eq_false', ax_lle, ax_llt, ax_lel, ax_ltl, ax_leq, ax_eql, ax_clampl, ax_inb_iff, nI_clamp, nI_1, nI_leI, nI_ltI, nI_eq, ax_b0, ax_b1, ax_bitb, ax_ui_eq, ax_ui_ne, true_and, and_true]
      exact ⟨fun _ => L5 3 0 a _ (by omega) ht, fun q => by omega⟩
    | succ n ih =>
      intro w a z4 hw ht
      have ht : k ≤ 2 ∨ ax_it (fun i a => if p5 i then a + 1 else a) 3 0 (ax_it (fun i a => if p4 i then a + 1 else a) n (w + 1) (if p4 w then a + 1 else a)) = sw_ct I N T kd es k := ht
      obtain ⟨l1, l2⟩ := h3.2 w (by omega)
      apply vc_X9_counted_166
      simp (disch := omega) only [Bool.not_eq_false, Bool.not_eq_true, decide_eq_true_eq, decide_eq_false_iff_not, Bool.not_eq_true', Bool.not_eq_false', ax_lle, ax_llt, ax_lel, ax_ltl, ax_leq, ax_eql, ax_clampl, ax_inb_iff, nI_clamp, nI_1, nI_leI, nI_ltI, nI_eq, ax_b0, ax_b1, ax_bitb, ax_ui_eq, ax_ui_ne, true_and, and_true, l1]
      refine ⟨fun q => by omega, fun _ => ⟨fun e => ?_, fun e => ⟨by omega, fun z => ?_, fun z => ?_⟩⟩⟩
      · rw [Int32.add_zero]
        refine ih _ _ _ (by omega) ?_
        have : p4 w = false := by rw [hp4]; dsimp only; rw [decide_eq_false e]; rfl
        rw [this] at ht; exact ht
      · rw [Int32.add_zero]
        refine ih _ _ _ (by omega) ?_
        have : p4 w = false := by
          rw [hp4]
          rcases l2 with y | ⟨n, y1, y2, _⟩
          · dsimp only; rw [y]; simp
          · rw [y2] at z; exact absurd z (nI_pos (by omega))
        rw [this] at ht; exact ht
      · refine ih _ _ _ (by omega) ?_
        have : p4 w = true := by
          rw [hp4]
          rcases l2 with y | ⟨n, y1, y2, _⟩
          · rw [y] at z; exact absurd (by decide) z
          · dsimp only; rw [y2, decide_eq_true e, decide_eq_false (ax_nm1 (by omega))]; rfl
        rw [this] at ht; exact ht
  have L3 : ∀ (n w a : Nat) (z4 : Option ax_V), w + n = 6 → (k ≤ 2 ∨ ax_it (fun i a => if p5 i then a + 1 else a) 3 0 (ax_it (fun i a => if p4 i then a + 1 else a) 4 0 (ax_it (fun i a => if p3 i then a + 1 else a) n w a)) = sw_ct I N T kd es k) → ax_AK ((d + 2)) 238 (129, [some (ax_vr 9 0 184), some (ax_vi (nI k)), some (ax_vi (nI a)), some (ax_vi (nI w)), z4], [], ax_mm I L) (ax_ki K) := by
    intro n
    induction n with
    | zero =>
      intro w a z4 hw ht
      apply vc_X9_counted_129
      simp (disch := omega) only [Bool.not_eq_false, Bool.not_eq_true, decide_eq_true_eq, decide_eq_false_iff_not, Bool.not_eq_true', Bool.not_eq_false', ax_lle, ax_llt, ax_lel, ax_ltl, ax_leq, ax_eql, ax_clampl, ax_inb_iff, nI_clamp, nI_1, nI_leI, nI_ltI, nI_eq, ax_b0, ax_b1, ax_bitb, ax_ui_eq, ax_ui_ne, true_and, and_true]
      exact ⟨fun _ => L4 4 0 a _ (by omega) ht, fun q => by omega⟩
    | succ n ih =>
      intro w a z4 hw ht
      have ht : k ≤ 2 ∨ ax_it (fun i a => if p5 i then a + 1 else a) 3 0 (ax_it (fun i a => if p4 i then a + 1 else a) 4 0 (ax_it (fun i a => if p3 i then a + 1 else a) n (w + 1) (if p3 w then a + 1 else a))) = sw_ct I N T kd es k := ht
      obtain ⟨l1, l2⟩ := h3.1 w (by omega)
      apply vc_X9_counted_129
      simp (disch := omega) only [Bool.not_eq_false, Bool.not_eq_true, decide_eq_true_eq, decide_eq_false_iff_not, Bool.not_eq_true', Bool.not_eq_false', ax_lle, ax_llt, ax_lel, ax_ltl, ax_leq, ax_eql, ax_clampl, ax_inb_iff, nI_clamp, nI_1, nI_leI, nI_ltI, nI_eq, ax_b0, ax_b1, ax_bitb, ax_ui_eq, ax_ui_ne, true_and, and_true, l1]
      refine ⟨fun q => by omega, fun _ => ⟨fun e => ?_, fun e => ⟨by omega, fun z => ?_, fun z => ?_⟩⟩⟩
      · rw [Int32.add_zero]
        refine ih _ _ _ (by omega) ?_
        have : p3 w = false := by rw [hp3]; dsimp only; rw [decide_eq_false e]; rfl
        rw [this] at ht; exact ht
      · rw [Int32.add_zero]
        refine ih _ _ _ (by omega) ?_
        have : p3 w = false := by
          rw [hp3]
          rcases l2 with y | ⟨n, y1, y2, _⟩
          · dsimp only; rw [y]; simp
          · rw [y2] at z; exact absurd z (nI_pos (by omega))
        rw [this] at ht; exact ht
      · refine ih _ _ _ (by omega) ?_
        have : p3 w = true := by
          rw [hp3]
          rcases l2 with y | ⟨n, y1, y2, _⟩
          · rw [y] at z; exact absurd (by decide) z
          · dsimp only; rw [y2, decide_eq_true e, decide_eq_false (ax_nm1 (by omega))]; rfl
        rw [this] at ht; exact ht
  have L2 : ∀ (n w a : Nat) (z4 : Option ax_V), w + n = N → (k ≤ 2 ∨ ax_it (fun i a => if p5 i then a + 1 else a) 3 0 (ax_it (fun i a => if p4 i then a + 1 else a) 4 0 (ax_it (fun i a => if p3 i then a + 1 else a) 6 0 (ax_it (fun i a => if p2 i then a + 1 else a) n w a))) = sw_ct I N T kd es k) → ax_AK ((d + 2)) 238 (80, [some (ax_vr 9 0 184), some (ax_vi (nI k)), some (ax_vi (nI a)), some (ax_vi (nI w)), z4], [], ax_mm I L) (ax_ki K) := by
    intro n
    induction n with
    | zero =>
      intro w a z4 hw ht
      apply vc_X9_counted_80
      rw [q7.1]
      simp (disch := omega) only [Bool.not_eq_false, Bool.not_eq_true, decide_eq_true_eq, decide_eq_false_iff_not, Bool.not_eq_true', Bool.not_eq_false', ax_lle, ax_llt, ax_lel, ax_ltl, ax_leq, ax_eql, ax_clampl, ax_inb_iff, nI_clamp, nI_1, nI_leI, nI_ltI, nI_eq, ax_b0, ax_b1, ax_bitb, ax_ui_eq, ax_ui_ne, true_and, and_true]
      exact ⟨fun _ => L3 6 0 a _ (by omega) ht, fun q => by omega⟩
    | succ n ih =>
      intro w a z4 hw ht
      have ht : k ≤ 2 ∨ ax_it (fun i a => if p5 i then a + 1 else a) 3 0 (ax_it (fun i a => if p4 i then a + 1 else a) 4 0 (ax_it (fun i a => if p3 i then a + 1 else a) 6 0 (ax_it (fun i a => if p2 i then a + 1 else a) n (w + 1) (if p2 w then a + 1 else a)))) = sw_ct I N T kd es k := ht
      have e191 := q7.2.2.1 w (by omega)
      have hk6 := q1.2.2.2.1 w (by omega)
      apply vc_X9_counted_80
      rw [q7.1]
      simp (disch := omega) only [Bool.not_eq_false, Bool.not_eq_true, decide_eq_true_eq, decide_eq_false_iff_not, Bool.not_eq_true', Bool.not_eq_false', ax_lle, ax_llt, ax_lel, ax_ltl, ax_leq, ax_eql, ax_clampl, ax_inb_iff, nI_clamp, nI_1, nI_leI, nI_ltI, nI_eq, ax_b0, ax_b1, ax_bitb, ax_ui_eq, ax_ui_ne, true_and, and_true, e191]
      refine ⟨fun q => by omega, fun _ => ⟨fun e => ?_, fun e => ⟨by omega, fun z => ?_, fun z => ⟨by omega, fun y => ?_, fun y => ?_⟩⟩⟩⟩
      · rw [Int32.add_zero]
        refine ih _ _ _ (by omega) ?_
        have : p2 w = false := by rw [hp2]; dsimp only; rw [decide_eq_false e]; rfl
        rw [this] at ht; exact ht
      · refine ih _ _ _ (by omega) ?_
        have : p2 w = true := by rw [hp2]; dsimp only; rw [decide_eq_true e, z]; rfl
        rw [this] at ht; exact ht
      · rw [Int32.add_zero]
        refine ih _ _ _ (by omega) ?_
        have : p2 w = false := by rw [hp2]; simp [sw_ko, z, y]
        rw [this] at ht; exact ht
      · refine ih _ _ _ (by omega) ?_
        have : p2 w = true := by rw [hp2]; dsimp only; rw [decide_eq_true e, y]; rfl
        rw [this] at ht; exact ht
  suffices ∀ (n w a : Nat) (z4 : Option ax_V), w + n = T → (k ≤ 2 ∨ ax_it (fun i a => if p5 i then a + 1 else a) 3 0 (ax_it (fun i a => if p4 i then a + 1 else a) 4 0 (ax_it (fun i a => if p3 i then a + 1 else a) 6 0 (ax_it (fun i a => if p2 i then a + 1 else a) N 0 (ax_it (fun i a => if p1 i then a + 1 else a) n w a)))) = sw_ct I N T kd es k) → ax_AK ((d + 2)) 238 (4, [some (ax_vr 9 0 184), some (ax_vi (nI k)), some (ax_vi (nI a)), some (ax_vi (nI w)), z4], [], ax_mm I L) (ax_ki K) from this T 0 0 _ (by omega) tot
  intro n
  induction n with
  | zero =>
    intro w a z4 hw ht
    apply vc_X9_counted_4
    rw [q7.2.1]
    refine ax_ct ((nI_leI (by omega) (by omega)).mpr (by omega)) ?_
    exact L2 N 0 a _ (by omega) ht
  | succ n ih =>
    intro w a z4 hw ht
    have ht : k ≤ 2 ∨ ax_it (fun i a => if p5 i then a + 1 else a) 3 0 (ax_it (fun i a => if p4 i then a + 1 else a) 4 0 (ax_it (fun i a => if p3 i then a + 1 else a) 6 0 (ax_it (fun i a => if p2 i then a + 1 else a) N 0 (ax_it (fun i a => if p1 i then a + 1 else a) n (w + 1) (if p1 w then a + 1 else a))))) = sw_ct I N T kd es k := ht
    have q8 := q8 (by have := q1.2.2.1; omega)
    have n0 : ∀ z4, p1 w = false → ax_AK ((d + 2)) 238 (4, [some (ax_vr 9 0 184), some (ax_vi (nI k)), some (ax_vi (nI a + 0)), some (ax_vi (nI w + 1)), z4], [], ax_mm I L) (ax_ki K) := by
      intro z4 hp
      rw [Int32.add_zero, nI_1]
      refine ih _ _ _ (by omega) ?_
      rw [hp] at ht; exact ht
    have n1 : ∀ z4, p1 w = true → ax_AK ((d + 2)) 238 (4, [some (ax_vr 9 0 184), some (ax_vi (nI k)), some (ax_vi (nI a + 1)), some (ax_vi (nI w + 1)), z4], [], ax_mm I L) (ax_ki K) := by
      intro z4 hp
      rw [nI_1, nI_1]
      refine ih _ _ _ (by omega) ?_
      rw [hp] at ht; exact ht
    apply vc_X9_counted_4
    rw [q7.2.1]
    refine ax_cf (by rw [nI_leI (by omega) (by omega)]; omega) ?_
    refine rf_v (k := 0) (a := 6) (by omega) (by omega) ?_
    rw [q8.1.2.1 w (by omega)]
    have k3 : nI k = 3 ↔ k = 3 := lit 3 (by omega)
    have k4 : nI k = 4 ↔ k = 4 := lit 4 (by omega)
    by_cases hO : (sw_rp kd es).2.1 w = -9
    · refine ax_ct hO ?_
      by_cases h3 : k = 3
      · refine ax_nf (k3.mpr h3) (ax_nf rfl (ax_nt (fun z => by have := k4.mp z; omega) (n0 _ ?_)))
        rw [hp1]; dsimp only; rw [hO, h3]; rfl
      · refine ax_nt (fun z => h3 (k3.mp z)) ?_
        by_cases h4 : k = 4
        · refine ax_nf (k4.mpr h4) (ax_nf rfl ?_)
          refine rf_v (k := 0) (a := 0) (by omega) (by omega) ?_
          rw [Nat.zero_add, q8.1.1 w (by omega)]
          by_cases hF : (sw_rp kd es).1 w = -9
          · refine ax_ct hF (n0 _ ?_)
            rw [hp1]; dsimp only; rw [hO, hF, h4]; rfl
          · refine ax_cf hF (n1 _ ?_)
            rw [hp1]; dsimp only; rw [hO, decide_eq_false hF, h4]; rfl
        · refine ax_nt (fun z => h4 (k4.mp z)) (n0 _ ?_)
          rw [hp1]; dsimp only; rw [decide_eq_false h3, decide_eq_false h4]; rfl
    · refine ax_cf hO ?_
      by_cases h3 : k = 3
      · refine ax_nf (k3.mpr h3) (ax_nt (by decide) (n1 _ ?_))
        rw [hp1]; dsimp only; rw [decide_eq_false hO, h3]; rfl
      · refine ax_nt (fun z => h3 (k3.mp z)) ?_
        by_cases h4 : k = 4
        · refine ax_nf (k4.mpr h4) (ax_nt (by decide) (n0 _ ?_))
          rw [hp1]; dsimp only; rw [decide_eq_false hO, h4]; simp
        · refine ax_nt (fun z => h4 (k4.mp z)) (n0 _ ?_)
          rw [hp1]; dsimp only; rw [decide_eq_false h3, decide_eq_false h4]; rfl
theorem op_count {I : ax_I} {L : ax_J} (h : sw_RR I L) (a : Int32) : sw_OP 128 239 [ax_vi a] I L := by
  intro d
  have h0 := h
  obtain ⟨N, T, kd, tl, un, W, es, h1, h2, h3, h4⟩ := h
  rcases sw_dich (n := 9) (by omega) a with ⟨k, hk, rfl⟩ | ha
  · refine cl_count h1 (by omega) ?_
    apply vc_X9_count
    refine rf_in_k (n := 9) (by omega) (by decide) hk ?_
    refine ⟨(fun q => absurd q (by decide)), fun _ => ?_⟩
    exact rf_counted h1 h2 h3 (by omega) ⟨rfl, h0⟩
  · have fin : ax_CI (d + 30) 239 [ax_vr 9 0 184, ax_vi a] I L (fun b I2 L2 => (-1 : Int32) = b ∧ sw_RR I2 L2) := by
      apply vc_X9_count
      refine rf_in_no (n := 9) (by omega) (by decide) ha ?_
      exact ⟨fun _ => ⟨rfl, h0⟩, (fun q => absurd q (by decide))⟩
    have ne : ∀ k : Nat, k < 9 → ¬ a = nI k := by
      intro k hk e
      subst e
      rcases ha with q | q
      · exact absurd q (nI_pos (by omega))
      · rw [nI_leI (by omega) (by omega)] at q; omega
    apply vc_X8_count
    exact ax_cf (ne 0 (by omega)) (ax_cf (ne 1 (by omega)) (ax_cf (ne 2 (by omega)) (ax_cf (ne 3 (by omega)) (ax_cf (ne 4 (by omega)) (ax_cf (ne 5 (by omega)) (ax_cf (ne 6 (by omega)) (ax_cf (ne 7 (by omega)) (ax_cf (ne 8 (by omega)) fin))))))))
