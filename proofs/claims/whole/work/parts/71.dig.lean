/-! digest: both lay the same numbers into the sum -/
def sw_h (v : Int32) (h : Int64) : Int64 := 31 * h + v.toInt64
def sw_h0 (I : ax_I) (N T : Nat) (kd : Nat → Nat) (es : sw_E) (h : Int64) : Int64 := ax_it (fun k h => sw_h (nI (sw_ct I N T kd es k)) h) 9 0 h
def sw_hP (N T : Nat) (kd : Nat → Nat) (tl un : Nat → Int32) (W : Nat → Nat → Nat) (es : sw_E) (x : Nat) (h : Int64) : Int64 := ax_it (fun w h => sw_h (nI (W x w)) h) T 0 (ax_it (fun k h => sw_h (sw_o1 N kd tl un W es x k) h) 5 0 h)
def sw_hT (kd : Nat → Nat) (un : Nat → Int32) (es : sw_E) (w : Nat) (h : Int64) : Int64 := ax_it (fun k h => sw_h (sw_t1 un kd es w k) h) 4 0 h
def sw_hW (N T : Nat) (kd : Nat → Nat) (tl un : Nat → Int32) (W : Nat → Nat → Nat) (es : sw_E) (h : Int64) : Int64 := ax_it (sw_hT kd un es) T 0 (ax_it (sw_hP N T kd tl un W es) N 0 h)
def sw_hk (I : ax_I) (k : Nat) (h : Int64) : Int64 := if I 202 k = 0 then 31 * h + (-1) else sw_h (I 203 k) h
def sw_sz (v : Int32) : Nat := v.toNatClampNeg
def sw_hl (s : Int32) (f : Nat → Int32) (h : Int64) : Int64 := ax_it (fun i h => sw_h (f i) h) (sw_sz s) 0 (sw_h s h)
theorem cl_mix {d : Nat} {h v : Int64} {I : ax_I} {L : ax_J} {K : Int64 → ax_I → ax_J → Prop} (hK : K (31 * h + v) I L) : ax_CL (d + 1) 145 [ax_vl h, ax_vl v] I L K := by
  apply vc_X8_mix
  exact hK
theorem cl_mixTown {d N T : Nat} {kd : Nat → Nat} {tl un : Nat → Int32} {W : Nat → Nat → Nat} {es : sw_E} {h0 : Int64} {I : ax_I} {L : ax_J} {K : Int64 → ax_I → ax_J → Prop} (h : sw_TW I N T kd tl un W es) (hK : K (sw_hW N T kd tl un W es h0) I L) : ax_CL (d + 6) 146 [ax_vr 8 0 3, ax_vl h0] I L K := by
  have hh := h
  obtain ⟨q1, q2, q3, q4, q5, q6, q7, q8, q9, q10⟩ := h
  have hN := q1.1
  have hT := q1.2.1
  apply vc_X8_mixTown
  have S2 : ∀ (n w : Nat) (a : Int64) (z1 z2 z4 z6 : Option ax_V), w + n = T → K (ax_it (sw_hT kd un es) n w a) I L → ax_AK ((d + 5)) 146 (95, [some (ax_vr 8 0 3), z1, z2, some (ax_vl a), z4, some (ax_vi (nI w)), z6], [], ax_mm I L) (ax_kl K) := by
    intro n
    induction n with
    | zero =>
      intro w a z1 z2 z4 z6 hw hK
      apply vc_X8_mixTown_95
      rw [q5.2.1]
      simp (disch := omega) only [Bool.not_eq_false, Bool.not_eq_true, decide_eq_true_eq, decide_eq_false_iff_not, Bool.not_eq_true', Bool.not_eq_false', ax_lle, ax_llt, ax_lel, ax_ltl, ax_leq, ax_eql, ax_clampl, ax_inb_iff, nI_clamp, nI_1, nI_leI, nI_ltI, nI_eq, ax_b0, ax_b1, ax_bitb, ax_ui_eq, ax_ui_ne, true_and, and_true]
      exact ⟨fun _ => hK, fun q => by omega⟩
    | succ n ih =>
      intro w a z1 z2 z4 z6 hw hK
      apply vc_X8_mixTown_95
      rw [q5.2.1]
      simp (disch := omega) only [Bool.not_eq_false, Bool.not_eq_true, decide_eq_true_eq, decide_eq_false_iff_not, Bool.not_eq_true', Bool.not_eq_false', ax_lle, ax_llt, ax_lel, ax_ltl, ax_leq, ax_eql, ax_clampl, ax_inb_iff, nI_clamp, nI_1, nI_leI, nI_ltI, nI_eq, ax_b0, ax_b1, ax_bitb, ax_ui_eq, ax_ui_ne, true_and, and_true]
      refine ⟨fun q => by omega, fun _ => ?_⟩
      suffices ∀ (c k : Nat) (b : Int64) (z1 z2 z4 : Option ax_V), k + c = 4 → ax_it (fun k h => sw_h (sw_t1 un kd es w k) h) c k b = sw_hT kd un es w a → ax_AK ((d + 5)) 146 (110, [some (ax_vr 8 0 3), z1, z2, some (ax_vl b), z4, some (ax_vi (nI w)), some (ax_vi (nI k))], [], ax_mm I L) (ax_kl K) from this 4 0 a _ _ _ (by omega) rfl
      intro c
      induction c with
      | zero =>
        intro k b z1 z2 z4 hk hb
        have hb : b = sw_hT kd un es w a := hb
        apply vc_X8_mixTown_110
        simp (disch := omega) only [Bool.not_eq_false, Bool.not_eq_true, decide_eq_true_eq, decide_eq_false_iff_not, Bool.not_eq_true', Bool.not_eq_false', ax_lle, ax_llt, ax_lel, ax_ltl, ax_leq, ax_eql, ax_clampl, ax_inb_iff, nI_clamp, nI_1, nI_leI, nI_ltI, nI_eq, ax_b0, ax_b1, ax_bitb, ax_ui_eq, ax_ui_ne, true_and, and_true]
        refine ⟨fun _ => ih _ _ _ _ _ _ (by omega) ?_, fun q => by omega⟩
        rw [hb]; exact hK
      | succ c ihc =>
        intro k b z1 z2 z4 hk hb
        apply vc_X8_mixTown_110
        simp (disch := omega) only [Bool.not_eq_false, Bool.not_eq_true, decide_eq_true_eq, decide_eq_false_iff_not, Bool.not_eq_true', Bool.not_eq_false', ax_lle, ax_llt, ax_lel, ax_ltl, ax_leq, ax_eql, ax_clampl, ax_inb_iff, nI_clamp, nI_1, nI_leI, nI_ltI, nI_eq, ax_b0, ax_b1, ax_bitb, ax_ui_eq, ax_ui_ne, true_and, and_true]
        refine ⟨fun q => by omega, fun _ => ?_⟩
        refine cl_ofThing hh (by omega) (by omega) ?_
        refine cl_mix ?_
        exact ihc _ _ _ _ _ (by omega) hb
  suffices ∀ (n x : Nat) (a : Int64) (z1 z2 z4 z6 : Option ax_V), x + n = N → K (ax_it (sw_hT kd un es) T 0 (ax_it (sw_hP N T kd tl un W es) n x a)) I L → ax_AK ((d + 5)) 146 (5, [some (ax_vr 8 0 3), z1, z2, some (ax_vl a), z4, some (ax_vi (nI x)), z6], [], ax_mm I L) (ax_kl K) from this N 0 h0 _ _ _ _ (by omega) hK
  intro n
  induction n with
  | zero =>
    intro x a z1 z2 z4 z6 hx hK
    apply vc_X8_mixTown_5
    rw [q5.1]
    simp (disch := omega) only [Bool.not_eq_false, Bool.not_eq_true, decide_eq_true_eq, decide_eq_false_iff_not, Bool.not_eq_true', Bool.not_eq_false', ax_lle, ax_llt, ax_lel, ax_ltl, ax_leq, ax_eql, ax_clampl, ax_inb_iff, nI_clamp, nI_1, nI_leI, nI_ltI, nI_eq, ax_b0, ax_b1, ax_bitb, ax_ui_eq, ax_ui_ne, true_and, and_true]
    exact ⟨fun _ => S2 T 0 a _ _ _ _ (by omega) hK, fun q => by omega⟩
  | succ n ih =>
    intro x a z1 z2 z4 z6 hx hK
    apply vc_X8_mixTown_5
    rw [q5.1]
    simp (disch := omega) only [Bool.not_eq_false, Bool.not_eq_true, decide_eq_true_eq, decide_eq_false_iff_not, Bool.not_eq_true', Bool.not_eq_false', ax_lle, ax_llt, ax_lel, ax_ltl, ax_leq, ax_eql, ax_clampl, ax_inb_iff, nI_clamp, nI_1, nI_leI, nI_ltI, nI_eq, ax_b0, ax_b1, ax_bitb, ax_ui_eq, ax_ui_ne, true_and, and_true]
    refine ⟨fun q => by omega, fun _ => ?_⟩
    suffices ∀ (c k : Nat) (b : Int64) (z1 z2 z4 : Option ax_V), k + c = 5 → ax_it (fun w h => sw_h (nI (W x w)) h) T 0 (ax_it (fun k h => sw_h (sw_o1 N kd tl un W es x k) h) c k b) = sw_hP N T kd tl un W es x a → ax_AK ((d + 5)) 146 (20, [some (ax_vr 8 0 3), z1, z2, some (ax_vl b), z4, some (ax_vi (nI x)), some (ax_vi (nI k))], [], ax_mm I L) (ax_kl K) from this 5 0 a _ _ _ (by omega) rfl
    intro c
    induction c with
    | zero =>
      intro k b z1 z2 z4 hk hb
      apply vc_X8_mixTown_20
      simp (disch := omega) only [Bool.not_eq_false, Bool.not_eq_true, decide_eq_true_eq, decide_eq_false_iff_not, Bool.not_eq_true', Bool.not_eq_false', ax_lle, ax_llt, ax_lel, ax_ltl, ax_leq, ax_eql, ax_clampl, ax_inb_iff, nI_clamp, nI_1, nI_leI, nI_ltI, nI_eq, ax_b0, ax_b1, ax_bitb, ax_ui_eq, ax_ui_ne, true_and, and_true]
      refine ⟨fun _ => ?_, fun q => by omega⟩
      suffices ∀ (c w : Nat) (b : Int64) (z1 z2 z4 : Option ax_V), w + c = T → ax_it (fun w h => sw_h (nI (W x w)) h) c w b = sw_hP N T kd tl un W es x a → ax_AK ((d + 5)) 146 (49, [some (ax_vr 8 0 3), z1, z2, some (ax_vl b), z4, some (ax_vi (nI x)), some (ax_vi (nI w))], [], ax_mm I L) (ax_kl K) from this T 0 b _ _ _ (by omega) hb
      intro c
      induction c with
      | zero =>
        intro w b z1 z2 z4 hw hb
        have hb : b = sw_hP N T kd tl un W es x a := hb
        apply vc_X8_mixTown_49
        rw [q5.2.1]
        simp (disch := omega) only [Bool.not_eq_false, Bool.not_eq_true, decide_eq_true_eq, decide_eq_false_iff_not, Bool.not_eq_true', Bool.not_eq_false', ax_lle, ax_llt, ax_lel, ax_ltl, ax_leq, ax_eql, ax_clampl, ax_inb_iff, nI_clamp, nI_1, nI_leI, nI_ltI, nI_eq, ax_b0, ax_b1, ax_bitb, ax_ui_eq, ax_ui_ne, true_and, and_true]
        refine ⟨fun _ => ih _ _ _ _ _ _ (by omega) ?_, fun q => by omega⟩
        rw [hb]; exact hK
      | succ c ihc =>
        intro w b z1 z2 z4 hw hb
        have eW : I (11 + (1 + x)) w = nI (W x w) := q6.1.1 x (by omega) w (by omega)
        apply vc_X8_mixTown_49
        rw [q5.2.1]
        simp (disch := omega) only [Bool.not_eq_false, Bool.not_eq_true, decide_eq_true_eq, decide_eq_false_iff_not, Bool.not_eq_true', Bool.not_eq_false', ax_lle, ax_llt, ax_lel, ax_ltl, ax_leq, ax_eql, ax_clampl, ax_inb_iff, nI_clamp, nI_1, nI_leI, nI_ltI, nI_eq, ax_b0, ax_b1, ax_bitb, ax_ui_eq, ax_ui_ne, true_and, and_true, eW]
        refine ⟨fun q => by omega, fun _ => ⟨by omega, by omega, ?_⟩⟩
        refine cl_mix ?_
        exact ihc _ _ _ _ _ (by omega) hb
    | succ c ihc =>
      intro k b z1 z2 z4 hk hb
      apply vc_X8_mixTown_20
      simp (disch := omega) only [Bool.not_eq_false, Bool.not_eq_true, decide_eq_true_eq, decide_eq_false_iff_not, Bool.not_eq_true', Bool.not_eq_false', ax_lle, ax_llt, ax_lel, ax_ltl, ax_leq, ax_eql, ax_clampl, ax_inb_iff, nI_clamp, nI_1, nI_leI, nI_ltI, nI_eq, ax_b0, ax_b1, ax_bitb, ax_ui_eq, ax_ui_ne, true_and, and_true]
      refine ⟨fun q => by omega, fun _ => ?_⟩
      refine cl_ofOne hh (by omega) (by omega) ?_
      refine cl_mix ?_
      exact ihc _ _ _ _ _ (by omega) hb
theorem cl_mixLinesR {d : Nat} {h0 : Int64} {I : ax_I} {L : ax_J} {K : Int64 → ax_I → ax_J → Prop} (h3 : sw_LS I) (hK : K (ax_it (fun r h => sw_hl (I (4 + (115 + 2 * r)) 1) (I (4 + (115 + 2 * r) + 1)) h) 6 0 h0) I L) : ax_CL (d + 2) 147 [ax_vl h0, ax_vr 13 6 4] I L K := by
  apply vc_X8_mixLinesR
  suffices ∀ (n r : Nat) (a : Int64) (z0 z1 z2 z4 z8 z9 : Option ax_V), r + n = 6 → K (ax_it (fun r h => sw_hl (I (4 + (115 + 2 * r)) 1) (I (4 + (115 + 2 * r) + 1)) h) n r a) I L → ax_AK ((d + 1)) 147 (13, [z0, z1, z2, some (ax_vl a), z4, some (ax_vr 13 6 4), some (ax_vi (nI 6)), some (ax_vi (nI r)), z8, z9], [], ax_mm I L) (ax_kl K) from this 6 0 h0 _ _ _ _ _ _ (by omega) hK
  intro n
  induction n with
  | zero =>
    intro r a z0 z1 z2 z4 z8 z9 hr hK
    apply vc_X8_mixLinesR_13
    simp (disch := omega) only [Bool.not_eq_false, Bool.not_eq_true, decide_eq_true_eq, decide_eq_false_iff_not, Bool.not_eq_true', Bool.not_eq_false', ax_lle, ax_llt, ax_lel, ax_ltl, ax_leq, ax_eql, ax_clampl, ax_inb_iff, nI_clamp, nI_1, nI_leI, nI_ltI, nI_eq, ax_b0, ax_b1, ax_bitb, ax_ui_eq, ax_ui_ne, true_and, and_true]
    exact ⟨fun _ => hK, fun q => by omega⟩
  | succ n ih =>
    intro r a z0 z1 z2 z4 z8 z9 hr hK
    have hsz : sw_sz (I (4 + (115 + 2 * r)) 1) ≤ 40 ∧ (∀ i, i < 2 ^ 31 → (I (4 + (115 + 2 * r)) 1 ≤ nI i ↔ sw_sz (I (4 + (115 + 2 * r)) 1) ≤ i)) := by
      obtain ⟨l1, l2⟩ := h3.1 r (by omega)
      rcases l2 with y | ⟨n, y1, y2, _⟩
      · rw [y]
        exact ⟨by decide, fun i hi => ⟨fun _ => by show (0 : Nat) ≤ i; omega, fun _ => Int32.le_trans (by decide) (nI_pos' hi)⟩⟩
      · rw [y2]; unfold sw_sz; rw [nI_clamp (by omega)]
        exact ⟨y1, fun i hi => nI_leI (by omega) hi⟩
    apply vc_X8_mixLinesR_13
    simp (disch := omega) only [Bool.not_eq_false, Bool.not_eq_true, decide_eq_true_eq, decide_eq_false_iff_not, Bool.not_eq_true', Bool.not_eq_false', ax_lle, ax_llt, ax_lel, ax_ltl, ax_leq, ax_eql, ax_clampl, ax_inb_iff, nI_clamp, nI_1, nI_leI, nI_ltI, nI_eq, ax_b0, ax_b1, ax_bitb, ax_ui_eq, ax_ui_ne, true_and, and_true]
    refine ⟨fun q => by omega, fun _ => ⟨by omega, ?_⟩⟩
    refine cl_mix ?_
    suffices ∀ (c i : Nat) (b : Int64) (z0 z1 z2 z4 : Option ax_V), i + c = sw_sz (I (4 + (115 + 2 * r)) 1) → ax_it (fun i h => sw_h (I (4 + (115 + 2 * r) + 1) i) h) c i b = sw_hl (I (4 + (115 + 2 * r)) 1) (I (4 + (115 + 2 * r) + 1)) a → ax_AK ((d + 1)) 147 (41, [z0, z1, z2, some (ax_vl b), z4, some (ax_vr 13 6 4), some (ax_vi (nI 6)), some (ax_vi (nI r)), some (ax_vr 4 40 (4 + (115 + 2 * r))), some (ax_vi (nI i))], [], ax_mm I L) (ax_kl K) from this _ 0 _ _ _ _ _ (by omega) rfl
    intro c
    induction c with
    | zero =>
      intro i b z0 z1 z2 z4 hi hb
      have hb : b = sw_hl (I (4 + (115 + 2 * r)) 1) (I (4 + (115 + 2 * r) + 1)) a := hb
      apply vc_X8_mixLinesR_41
      refine ax_ct ((hsz.2 i (by omega)).mpr (by omega)) ?_
      rw [nI_1]
      refine ih _ _ _ _ _ _ _ _ (by omega) ?_
      rw [hb]; exact hK
    | succ c ihc =>
      intro i b z0 z1 z2 z4 hi hb
      apply vc_X8_mixLinesR_41
      refine ax_cf (fun z => by have := (hsz.2 i (by omega)).mp z; omega) ⟨ax_inb_nI (by omega) (by omega), ?_⟩
      rw [nI_1, nI_clamp (by omega)]
      refine cl_mix ?_
      exact ihc _ _ _ _ _ _ (by omega) hb
theorem cl_mixLinesT {d : Nat} {h0 : Int64} {I : ax_I} {L : ax_J} {K : Int64 → ax_I → ax_J → Prop} (h3 : sw_LS I) (hK : K (ax_it (fun r h => sw_hl (I (5 + (126 + 2 * r)) 1) (I (5 + (126 + 2 * r) + 1)) h) 4 0 h0) I L) : ax_CL (d + 2) 147 [ax_vl h0, ax_vr 14 4 5] I L K := by
  apply vc_X8_mixLinesT
  suffices ∀ (n r : Nat) (a : Int64) (z0 z1 z2 z4 z8 z9 : Option ax_V), r + n = 4 → K (ax_it (fun r h => sw_hl (I (5 + (126 + 2 * r)) 1) (I (5 + (126 + 2 * r) + 1)) h) n r a) I L → ax_AK ((d + 1)) 147 (13, [z0, z1, z2, some (ax_vl a), z4, some (ax_vr 14 4 5), some (ax_vi (nI 4)), some (ax_vi (nI r)), z8, z9], [], ax_mm I L) (ax_kl K) from this 4 0 h0 _ _ _ _ _ _ (by omega) hK
  intro n
  induction n with
  | zero =>
    intro r a z0 z1 z2 z4 z8 z9 hr hK
    apply vc_X8_mixLinesT_13
    simp (disch := omega) only [Bool.not_eq_false, Bool.not_eq_true, decide_eq_true_eq, decide_eq_false_iff_not, Bool.not_eq_true', Bool.not_eq_false', ax_lle, ax_llt, ax_lel, ax_ltl, ax_leq, ax_eql, ax_clampl, ax_inb_iff, nI_clamp, nI_1, nI_leI, nI_ltI, nI_eq, ax_b0, ax_b1, ax_bitb, ax_ui_eq, ax_ui_ne, true_and, and_true]
    exact ⟨fun _ => hK, fun q => by omega⟩
  | succ n ih =>
    intro r a z0 z1 z2 z4 z8 z9 hr hK
    have hsz : sw_sz (I (5 + (126 + 2 * r)) 1) ≤ 80 ∧ (∀ i, i < 2 ^ 31 → (I (5 + (126 + 2 * r)) 1 ≤ nI i ↔ sw_sz (I (5 + (126 + 2 * r)) 1) ≤ i)) := by
      obtain ⟨l1, l2⟩ := h3.2 r (by omega)
      rcases l2 with y | ⟨n, y1, y2, _⟩
      · rw [y]
        exact ⟨by decide, fun i hi => ⟨fun _ => by show (0 : Nat) ≤ i; omega, fun _ => Int32.le_trans (by decide) (nI_pos' hi)⟩⟩
      · rw [y2]; unfold sw_sz; rw [nI_clamp (by omega)]
        exact ⟨y1, fun i hi => nI_leI (by omega) hi⟩
    apply vc_X8_mixLinesT_13
    simp (disch := omega) only [Bool.not_eq_false, Bool.not_eq_true, decide_eq_true_eq, decide_eq_false_iff_not, Bool.not_eq_true', Bool.not_eq_false', ax_lle, ax_llt, ax_lel, ax_ltl, ax_leq, ax_eql, ax_clampl, ax_inb_iff, nI_clamp, nI_1, nI_leI, nI_ltI, nI_eq, ax_b0, ax_b1, ax_bitb, ax_ui_eq, ax_ui_ne, true_and, and_true]
    refine ⟨fun q => by omega, fun _ => ⟨by omega, ?_⟩⟩
    refine cl_mix ?_
    suffices ∀ (c i : Nat) (b : Int64) (z0 z1 z2 z4 : Option ax_V), i + c = sw_sz (I (5 + (126 + 2 * r)) 1) → ax_it (fun i h => sw_h (I (5 + (126 + 2 * r) + 1) i) h) c i b = sw_hl (I (5 + (126 + 2 * r)) 1) (I (5 + (126 + 2 * r) + 1)) a → ax_AK ((d + 1)) 147 (41, [z0, z1, z2, some (ax_vl b), z4, some (ax_vr 14 4 5), some (ax_vi (nI 4)), some (ax_vi (nI r)), some (ax_vr 4 80 (5 + (126 + 2 * r))), some (ax_vi (nI i))], [], ax_mm I L) (ax_kl K) from this _ 0 _ _ _ _ _ (by omega) rfl
    intro c
    induction c with
    | zero =>
      intro i b z0 z1 z2 z4 hi hb
      have hb : b = sw_hl (I (5 + (126 + 2 * r)) 1) (I (5 + (126 + 2 * r) + 1)) a := hb
      apply vc_X8_mixLinesT_41
      refine ax_ct ((hsz.2 i (by omega)).mpr (by omega)) ?_
      rw [nI_1]
      refine ih _ _ _ _ _ _ _ _ (by omega) ?_
      rw [hb]; exact hK
    | succ c ihc =>
      intro i b z0 z1 z2 z4 hi hb
      apply vc_X8_mixLinesT_41
      refine ax_cf (fun z => by have := (hsz.2 i (by omega)).mp z; omega) ⟨ax_inb_nI (by omega) (by omega), ?_⟩
      rw [nI_1, nI_clamp (by omega)]
      refine cl_mix ?_
      exact ihc _ _ _ _ _ _ (by omega) hb
/-- the whole sum -/
def sw_dg (I : ax_I) (N T : Nat) (kd : Nat → Nat) (tl un : Nat → Int32) (W : Nat → Nat → Nat) (es : sw_E) : Int64 :=
  ax_it (fun r h => sw_hl (I (5 + (126 + 2 * r)) 1) (I (5 + (126 + 2 * r) + 1)) h) 4 0 (ax_it (fun r h => sw_hl (I (4 + (115 + 2 * r)) 1) (I (4 + (115 + 2 * r) + 1)) h) 6 0 (ax_it (sw_hk I) 3 0 (ax_it (fun i h => sw_h (I 23 i) h) es.length 0 (sw_hW N T kd tl un W es (sw_h0 I N T kd es 17)))))
theorem cl_digest {d N T : Nat} {kd : Nat → Nat} {tl un : Nat → Int32} {W : Nat → Nat → Nat} {es : sw_E} {I : ax_I} {L : ax_J} {K : Int64 → ax_I → ax_J → Prop} (h : sw_TW I N T kd tl un W es) (h2 : ∀ k, k < 3 → sw_KP I N T kd k) (h3 : sw_LS I) (hK : K (sw_dg I N T kd tl un W es) I L) : ax_CL (d + 7) 131 [ax_vr 8 0 3] I L K := by
  have hh := h
  obtain ⟨q1, q2, q3, q4, q5, q6, q7, q8, q9, q10⟩ := h
  have h40 := q3.1
  have e9 := q6.2.2.2.1
  apply vc_X8_digest
  have S3 : ∀ (n k : Nat) (a : Int64) (z2 : Option ax_V), k + n = 3 → K (ax_it (fun r h => sw_hl (I (5 + (126 + 2 * r)) 1) (I (5 + (126 + 2 * r) + 1)) h) 4 0 (ax_it (fun r h => sw_hl (I (4 + (115 + 2 * r)) 1) (I (4 + (115 + 2 * r) + 1)) h) 6 0 (ax_it (sw_hk I) n k a))) I L → ax_AK ((d + 6)) 131 (71, [some (ax_vr 8 0 3), some (ax_vl a), z2, some (ax_vi (nI k))], [], ax_mm I L) (ax_kl K) := by
    intro n
    induction n with
    | zero =>
      intro k a z2 hk hK
      apply vc_X8_digest_71
      refine ax_ct ((nI_leI (a := 3) (by omega) (by omega)).mpr (by omega)) ?_
      refine cl_mixLinesR h3 ?_
      exact cl_mixLinesT h3 hK
    | succ n ih =>
      intro k a z2 hk hK
      have hK : K (ax_it (fun r h => sw_hl (I (5 + (126 + 2 * r)) 1) (I (5 + (126 + 2 * r) + 1)) h) 4 0 (ax_it (fun r h => sw_hl (I (4 + (115 + 2 * r)) 1) (I (4 + (115 + 2 * r) + 1)) h) 6 0 (ax_it (sw_hk I) n (k + 1) (sw_hk I k a)))) I L := hK
      apply vc_X8_digest_71
      refine ax_cf (fun z => by have := (nI_leI (a := 3) (by omega) (by omega)).mp z; omega) ⟨ax_inb_nI (by omega) (by omega), ?_⟩
      rw [nI_1, nI_clamp (by omega)]
      rcases h2 k (by omega) with ⟨z1, y2⟩ | ⟨z1, y2, W', es', y3, y4, y5, y6, _⟩
      · refine ax_ct z1 ?_
        refine cl_mix ?_
        refine ih _ _ _ (by omega) ?_
        unfold sw_hk at hK
        rw [if_pos y2] at hK; exact hK
      · refine ax_cf (by rw [z1]; decide) ⟨ax_inb_nI (by omega) (by omega), ?_⟩
        refine cl_mix ?_
        refine ih _ _ _ (by omega) ?_
        have e9' : I (25 + (114 + 15 * k)) 9 = nI es'.length := y5.2.2.2.1
        rw [e9', ← y6]
        unfold sw_hk at hK
        rw [if_neg (by rw [y2]; decide)] at hK; exact hK
  have S2 : ∀ (n i : Nat) (a : Int64) (z2 : Option ax_V), i + n = es.length → K (ax_it (fun r h => sw_hl (I (5 + (126 + 2 * r)) 1) (I (5 + (126 + 2 * r) + 1)) h) 4 0 (ax_it (fun r h => sw_hl (I (4 + (115 + 2 * r)) 1) (I (4 + (115 + 2 * r) + 1)) h) 6 0 (ax_it (sw_hk I) 3 0 (ax_it (fun i h => sw_h (I 23 i) h) n i a)))) I L → ax_AK ((d + 6)) 131 (37, [some (ax_vr 8 0 3), some (ax_vl a), z2, some (ax_vi (nI i))], [], ax_mm I L) (ax_kl K) := by
    intro n
    induction n with
    | zero =>
      intro i a z2 hi hK
      apply vc_X8_digest_37
      rw [e9]
      simp (disch := omega) only [Bool.not_eq_false, Bool.not_eq_true, decide_eq_true_eq, decide_eq_false_iff_not, Bool.not_eq_true', Bool.not_eq_false', ax_lle, ax_llt, ax_lel, ax_ltl, ax_leq, ax_eql, ax_clampl, ax_inb_iff, nI_clamp, nI_1, nI_leI, nI_ltI, nI_eq, ax_b0, ax_b1, ax_bitb, ax_ui_eq, ax_ui_ne, true_and, and_true]
      exact ⟨fun _ => S3 3 0 a _ (by omega) hK, fun q => by omega⟩
    | succ n ih =>
      intro i a z2 hi hK
      apply vc_X8_digest_37
      rw [e9]
      simp (disch := omega) only [Bool.not_eq_false, Bool.not_eq_true, decide_eq_true_eq, decide_eq_false_iff_not, Bool.not_eq_true', Bool.not_eq_false', ax_lle, ax_llt, ax_lel, ax_ltl, ax_leq, ax_eql, ax_clampl, ax_inb_iff, nI_clamp, nI_1, nI_leI, nI_ltI, nI_eq, ax_b0, ax_b1, ax_bitb, ax_ui_eq, ax_ui_ne, true_and, and_true]
      refine ⟨fun q => by omega, fun _ => ⟨by omega, ?_⟩⟩
      refine cl_mix ?_
      exact ih _ _ _ (by omega) hK
  suffices ∀ (n k : Nat) (a : Int64) (z2 : Option ax_V), k + n = 9 → ax_it (fun k h => sw_h (nI (sw_ct I N T kd es k)) h) n k a = sw_h0 I N T kd es 17 → ax_AK ((d + 6)) 131 (6, [some (ax_vr 8 0 3), some (ax_vl a), z2, some (ax_vi (nI k))], [], ax_mm I L) (ax_kl K) from this 9 0 17 _ (by omega) rfl
  intro n
  induction n with
  | zero =>
    intro k a z2 hk ha
    have ha : a = sw_h0 I N T kd es 17 := ha
    apply vc_X8_digest_6
    simp (disch := omega) only [Bool.not_eq_false, Bool.not_eq_true, decide_eq_true_eq, decide_eq_false_iff_not, Bool.not_eq_true', Bool.not_eq_false', ax_lle, ax_llt, ax_lel, ax_ltl, ax_leq, ax_eql, ax_clampl, ax_inb_iff, nI_clamp, nI_1, nI_leI, nI_ltI, nI_eq, ax_b0, ax_b1, ax_bitb, ax_ui_eq, ax_ui_ne, true_and, and_true]
    refine ⟨fun _ => ?_, fun q => by omega⟩
    refine cl_mixTown hh ?_
    refine S2 es.length 0 _ _ (by omega) ?_
    rw [ha]; exact hK
  | succ n ih =>
    intro k a z2 hk ha
    apply vc_X8_digest_6
    simp (disch := omega) only [Bool.not_eq_false, Bool.not_eq_true, decide_eq_true_eq, decide_eq_false_iff_not, Bool.not_eq_true', Bool.not_eq_false', ax_lle, ax_llt, ax_lel, ax_ltl, ax_leq, ax_eql, ax_clampl, ax_inb_iff, nI_clamp, nI_1, nI_leI, nI_ltI, nI_eq, ax_b0, ax_b1, ax_bitb, ax_ui_eq, ax_ui_ne, true_and, and_true]
    refine ⟨fun q => by omega, fun _ => ?_⟩
    refine cl_count hh (by omega) ?_
    refine cl_mix ?_
    exact ih _ _ _ (by omega) ha
