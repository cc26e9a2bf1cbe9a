theorem ax_ul_ul {L : ax_J} {o k : Nat} {a b : Int64} : ax_ul (ax_ul L o k a) o k b = ax_ul L o k b := by
  funext x y
  unfold ax_ul
  split <;> rfl
theorem rf_mix {d : Nat} {a v : Int64} {I : ax_I} {L : ax_J} {K : ax_I → ax_J → Prop} (hK : K I (ax_ul L 184 45 (31 * a + v))) : ax_CV (d + 1) 240 [ax_vr 9 0 184, ax_vl v] I (ax_ul L 184 45 a) K := by
  apply vc_X9_mix
  rw [ax_ul_ul, ax_ul_eq]
  exact hK
theorem rf_mixTown {d N T : Nat} {kd : Nat → Nat} {tl un : Nat → Int32} {W : Nat → Nat → Nat} {es : sw_E} {h0 : Int64} {I : ax_I} {L : ax_J} {K : ax_I → ax_J → Prop} (h : sw_TW I N T kd tl un W es) (h2 : ∀ k, k < 3 → sw_KP I N T kd k) (hK : K I (ax_ul L 184 45 (ax_it (sw_hk I) 3 0 (ax_it (fun i h => sw_h (I 23 i) h) es.length 0 (sw_hW N T kd tl un W es h0))))) : ax_CV (d + 6) 241 [ax_vr 9 0 184] I (ax_ul L 184 45 h0) K := by
  have hh := h
  obtain ⟨q1, q2, q3, q4, q5, q6, q7, q8, q9, q10⟩ := h
  have hN := q1.1
  have hT := q1.2.1
  have h40 := q3.1
  apply vc_X9_mixTown
  have S4 : ∀ (n k : Nat) (a : Int64) (z2 : Option ax_V), k + n = 3 → K I (ax_ul L 184 45 (ax_it (sw_hk I) n k a)) → ax_AK ((d + 5)) 241 (141, [some (ax_vr 9 0 184), some (ax_vi (nI k)), z2], [], ax_mm I (ax_ul L 184 45 a)) (ax_kv K) := by
    intro n
    induction n with
    | zero =>
      intro k a z2 hk hK
      apply vc_X9_mixTown_141
      exact ax_ct ((nI_leI (a := 3) (by omega) (by omega)).mpr (by omega)) hK
    | succ n ih =>
      intro k a z2 hk hK
      have hK : K I (ax_ul L 184 45 (ax_it (sw_hk I) n (k + 1) (sw_hk I k a))) := hK
      apply vc_X9_mixTown_141
      refine ax_cf (fun z => by have := (nI_leI (a := 3) (by omega) (by omega)).mp z; omega) ⟨ax_inb_nI (by omega) (by omega), ?_⟩
      rw [nI_1, nI_clamp (by omega)]
      unfold sw_hk at hK
      by_cases z : I 202 k = 0
      · refine ax_ct z ?_
        refine rf_mix ?_
        refine ih _ _ _ (by omega) ?_
        rw [if_pos z] at hK; exact hK
      · refine ax_cf z ⟨ax_inb_nI (by omega) (by omega), ?_⟩
        refine rf_mix ?_
        refine ih _ _ _ (by omega) ?_
        rw [if_neg z] at hK; exact hK
  have S3 : ∀ (n i : Nat) (a : Int64) (z2 : Option ax_V), i + n = es.length → K I (ax_ul L 184 45 (ax_it (sw_hk I) 3 0 (ax_it (fun i h => sw_h (I 23 i) h) n i a))) → ax_AK ((d + 5)) 241 (114, [some (ax_vr 9 0 184), some (ax_vi (nI i)), z2], [], ax_mm I (ax_ul L 184 45 a)) (ax_kv K) := by
    intro n
    induction n with
    | zero =>
      intro i a z2 hi hK
      apply vc_X9_mixTown_114
      rw [q9]
      simp (disch := omega) only [Bool.not_eq_false, Bool.not_eq_true, decide_eq_true_eq, decide_eq_false_iff_not, Bool.not_eq_true', Bool.not_eq_false', ax_lle, ax_llt, ax_lel, ax_ltl, ax_leq, ax_eql, ax_clampl, ax_inb_iff, nI_clamp, nI_1, nI_leI, nI_ltI, nI_eq, ax_b0, ax_b1, ax_bitb, ax_ui_eq, ax_ui_ne, true_and, and_true]
      exact ⟨fun _ => S4 3 0 a _ (by omega) hK, fun q => by omega⟩
    | succ n ih =>
      intro i a z2 hi hK
      have e200 : I 200 i = I 23 i := sw_sy_ry q6.2.2.2.2 q10 i (by omega)
      apply vc_X9_mixTown_114
      rw [q9]
      simp (disch := omega) only [Bool.not_eq_false, Bool.not_eq_true, decide_eq_true_eq, decide_eq_false_iff_not, Bool.not_eq_true', Bool.not_eq_false', ax_lle, ax_llt, ax_lel, ax_ltl, ax_leq, ax_eql, ax_clampl, ax_inb_iff, nI_clamp, nI_1, nI_leI, nI_ltI, nI_eq, ax_b0, ax_b1, ax_bitb, ax_ui_eq, ax_ui_ne, true_and, and_true, e200]
      refine ⟨fun q => by omega, fun _ => ⟨by omega, ?_⟩⟩
      refine rf_mix ?_
      exact ih _ _ _ (by omega) hK
  have S2 : ∀ (n w : Nat) (a : Int64) (z2 : Option ax_V), w + n = T → K I (ax_ul L 184 45 (ax_it (sw_hk I) 3 0 (ax_it (fun i h => sw_h (I 23 i) h) es.length 0 (ax_it (sw_hT kd un es) n w a)))) → ax_AK ((d + 5)) 241 (74, [some (ax_vr 9 0 184), some (ax_vi (nI w)), z2], [], ax_mm I (ax_ul L 184 45 a)) (ax_kv K) := by
    intro n
    induction n with
    | zero =>
      intro w a z2 hw hK
      apply vc_X9_mixTown_74
      rw [q7.2.1]
      simp (disch := omega) only [Bool.not_eq_false, Bool.not_eq_true, decide_eq_true_eq, decide_eq_false_iff_not, Bool.not_eq_true', Bool.not_eq_false', ax_lle, ax_llt, ax_lel, ax_ltl, ax_leq, ax_eql, ax_clampl, ax_inb_iff, nI_clamp, nI_1, nI_leI, nI_ltI, nI_eq, ax_b0, ax_b1, ax_bitb, ax_ui_eq, ax_ui_ne, true_and, and_true]
      exact ⟨fun _ => S3 es.length 0 a _ (by omega) hK, fun q => by omega⟩
    | succ n ih =>
      intro w a z2 hw hK
      apply vc_X9_mixTown_74
      rw [q7.2.1]
      simp (disch := omega) only [Bool.not_eq_false, Bool.not_eq_true, decide_eq_true_eq, decide_eq_false_iff_not, Bool.not_eq_true', Bool.not_eq_false', ax_lle, ax_llt, ax_lel, ax_ltl, ax_leq, ax_eql, ax_clampl, ax_inb_iff, nI_clamp, nI_1, nI_leI, nI_ltI, nI_eq, ax_b0, ax_b1, ax_bitb, ax_ui_eq, ax_ui_ne, true_and, and_true]
      refine ⟨fun q => by omega, fun _ => ?_⟩
      suffices ∀ (c k : Nat) (b : Int64), k + c = 4 → ax_it (fun k h => sw_h (sw_t1 un kd es w k) h) c k b = sw_hT kd un es w a → ax_AK ((d + 5)) 241 (84, [some (ax_vr 9 0 184), some (ax_vi (nI w)), some (ax_vi (nI k))], [], ax_mm I (ax_ul L 184 45 b)) (ax_kv K) from this 4 0 a (by omega) rfl
      intro c
      induction c with
      | zero =>
        intro k b hk hb
        have hb : b = sw_hT kd un es w a := hb
        apply vc_X9_mixTown_84
        simp (disch := omega) only [Bool.not_eq_false, Bool.not_eq_true, decide_eq_true_eq, decide_eq_false_iff_not, Bool.not_eq_true', Bool.not_eq_false', ax_lle, ax_llt, ax_lel, ax_ltl, ax_leq, ax_eql, ax_clampl, ax_inb_iff, nI_clamp, nI_1, nI_leI, nI_ltI, nI_eq, ax_b0, ax_b1, ax_bitb, ax_ui_eq, ax_ui_ne, true_and, and_true]
        refine ⟨fun _ => ih _ _ _ (by omega) ?_, fun q => by omega⟩
        rw [hb]; exact hK
      | succ c ihc =>
        intro k b hk hb
        apply vc_X9_mixTown_84
        simp (disch := omega) only [Bool.not_eq_false, Bool.not_eq_true, decide_eq_true_eq, decide_eq_false_iff_not, Bool.not_eq_true', Bool.not_eq_false', ax_lle, ax_llt, ax_lel, ax_ltl, ax_leq, ax_eql, ax_clampl, ax_inb_iff, nI_clamp, nI_1, nI_leI, nI_ltI, nI_eq, ax_b0, ax_b1, ax_bitb, ax_ui_eq, ax_ui_ne, true_and, and_true]
        refine ⟨fun q => by omega, fun _ => ?_⟩
        refine rf_thingTells hh (by omega) (by omega) ?_
        refine rf_mix ?_
        exact ihc _ _ (by omega) hb
  suffices ∀ (n x : Nat) (a : Int64) (z2 : Option ax_V), x + n = N → K I (ax_ul L 184 45 (ax_it (sw_hk I) 3 0 (ax_it (fun i h => sw_h (I 23 i) h) es.length 0 (ax_it (sw_hT kd un es) T 0 (ax_it (sw_hP N T kd tl un W es) n x a))))) → ax_AK ((d + 5)) 241 (2, [some (ax_vr 9 0 184), some (ax_vi (nI x)), z2], [], ax_mm I (ax_ul L 184 45 a)) (ax_kv K) from this N 0 h0 _ (by omega) hK
  intro n
  induction n with
  | zero =>
    intro x a z2 hx hK
    apply vc_X9_mixTown_2
    rw [q7.1]
    simp (disch := omega) only [Bool.not_eq_false, Bool.not_eq_true, decide_eq_true_eq, decide_eq_false_iff_not, Bool.not_eq_true', Bool.not_eq_false', ax_lle, ax_llt, ax_lel, ax_ltl, ax_leq, ax_eql, ax_clampl, ax_inb_iff, nI_clamp, nI_1, nI_leI, nI_ltI, nI_eq, ax_b0, ax_b1, ax_bitb, ax_ui_eq, ax_ui_ne, true_and, and_true]
    exact ⟨fun _ => S2 T 0 a _ (by omega) hK, fun q => by omega⟩
  | succ n ih =>
    intro x a z2 hx hK
    apply vc_X9_mixTown_2
    rw [q7.1]
    simp (disch := omega) only [Bool.not_eq_false, Bool.not_eq_true, decide_eq_true_eq, decide_eq_false_iff_not, Bool.not_eq_true', Bool.not_eq_false', ax_lle, ax_llt, ax_lel, ax_ltl, ax_leq, ax_eql, ax_clampl, ax_inb_iff, nI_clamp, nI_1, nI_leI, nI_ltI, nI_eq, ax_b0, ax_b1, ax_bitb, ax_ui_eq, ax_ui_ne, true_and, and_true]
    refine ⟨fun q => by omega, fun _ => ?_⟩
    suffices ∀ (c k : Nat) (b : Int64), k + c = 5 → ax_it (fun w h => sw_h (nI (W x w)) h) T 0 (ax_it (fun k h => sw_h (sw_o1 N kd tl un W es x k) h) c k b) = sw_hP N T kd tl un W es x a → ax_AK ((d + 5)) 241 (12, [some (ax_vr 9 0 184), some (ax_vi (nI x)), some (ax_vi (nI k))], [], ax_mm I (ax_ul L 184 45 b)) (ax_kv K) from this 5 0 a (by omega) rfl
    intro c
    induction c with
    | zero =>
      intro k b hk hb
      apply vc_X9_mixTown_12
      simp (disch := omega) only [Bool.not_eq_false, Bool.not_eq_true, decide_eq_true_eq, decide_eq_false_iff_not, Bool.not_eq_true', Bool.not_eq_false', ax_lle, ax_llt, ax_lel, ax_ltl, ax_leq, ax_eql, ax_clampl, ax_inb_iff, nI_clamp, nI_1, nI_leI, nI_ltI, nI_eq, ax_b0, ax_b1, ax_bitb, ax_ui_eq, ax_ui_ne, true_and, and_true]
      refine ⟨fun _ => ?_, fun q => by omega⟩
      suffices ∀ (c w : Nat) (b : Int64), w + c = T → ax_it (fun w h => sw_h (nI (W x w)) h) c w b = sw_hP N T kd tl un W es x a → ax_AK ((d + 5)) 241 (36, [some (ax_vr 9 0 184), some (ax_vi (nI x)), some (ax_vi (nI w))], [], ax_mm I (ax_ul L 184 45 b)) (ax_kv K) from this T 0 b (by omega) hb
      intro c
      induction c with
      | zero =>
        intro w b hw hb
        have hb : b = sw_hP N T kd tl un W es x a := hb
        apply vc_X9_mixTown_36
        rw [q7.2.1]
        simp (disch := omega) only [Bool.not_eq_false, Bool.not_eq_true, decide_eq_true_eq, decide_eq_false_iff_not, Bool.not_eq_true', Bool.not_eq_false', ax_lle, ax_llt, ax_lel, ax_ltl, ax_leq, ax_eql, ax_clampl, ax_inb_iff, nI_clamp, nI_1, nI_leI, nI_ltI, nI_eq, ax_b0, ax_b1, ax_bitb, ax_ui_eq, ax_ui_ne, true_and, and_true]
        refine ⟨fun _ => ih _ _ _ (by omega) ?_, fun q => by omega⟩
        rw [hb]; exact hK
      | succ c ihc =>
        intro w b hw hb
        have eW : I 193 (6 * x + w) = nI (W x w) := q7.2.2.2.2.1 x (by omega) w (by omega)
        apply vc_X9_mixTown_36
        rw [q7.2.1]
        simp (disch := omega) only [Bool.not_eq_false, Bool.not_eq_true, decide_eq_true_eq, decide_eq_false_iff_not, Bool.not_eq_true', Bool.not_eq_false', ax_lle, ax_llt, ax_lel, ax_ltl, ax_leq, ax_eql, ax_clampl, ax_inb_iff, nI_clamp, nI_1, nI_leI, nI_ltI, nI_eq, ax_b0, ax_b1, ax_bitb, ax_ui_eq, ax_ui_ne, true_and, and_true, ax_lmul, nI_add, eW]
        refine ⟨fun q => by omega, fun _ => ⟨by omega, ?_⟩⟩
        refine rf_mix ?_
        exact ihc _ _ (by omega) hb
    | succ c ihc =>
      intro k b hk hb
      apply vc_X9_mixTown_12
      simp (disch := omega) only [Bool.not_eq_false, Bool.not_eq_true, decide_eq_true_eq, decide_eq_false_iff_not, Bool.not_eq_true', Bool.not_eq_false', ax_lle, ax_llt, ax_lel, ax_ltl, ax_leq, ax_eql, ax_clampl, ax_inb_iff, nI_clamp, nI_1, nI_leI, nI_ltI, nI_eq, ax_b0, ax_b1, ax_bitb, ax_ui_eq, ax_ui_ne, true_and, and_true]
      refine ⟨fun q => by omega, fun _ => ?_⟩
      refine rf_oneTells hh (by omega) (by omega) ?_
      refine rf_mix ?_
      exact ihc _ _ (by omega) hb
theorem rf_digest {d N T : Nat} {kd : Nat → Nat} {tl un : Nat → Int32} {W : Nat → Nat → Nat} {es : sw_E} {I : ax_I} {L : ax_J} {K : Int64 → ax_I → ax_J → Prop} (h : sw_TW I N T kd tl un W es) (h2 : ∀ k, k < 3 → sw_KP I N T kd k) (h3 : sw_LS I) (hK : K (sw_dg I N T kd tl un W es) I (ax_ul L 184 45 (sw_dg I N T kd tl un W es))) : ax_CL (d + 7) 242 [ax_vr 9 0 184] I L K := by
  apply vc_X9_digest
  have S3 : ∀ (n r : Nat) (a : Int64) (z2 : Option ax_V), r + n = 4 → ax_it (fun r h => sw_hl (I (5 + (126 + 2 * r)) 1) (I (5 + (126 + 2 * r) + 1)) h) n r a = sw_dg I N T kd tl un W es → ax_AK ((d + 6)) 242 (91, [some (ax_vr 9 0 184), some (ax_vi (nI r)), z2], [], ax_mm I (ax_ul L 184 45 a)) (ax_kl K) := by
    intro n
    induction n with
    | zero =>
      intro r a z2 hr ha
      have ha : a = sw_dg I N T kd tl un W es := ha
      apply vc_X9_digest_91
      refine ax_ct ((nI_leI (a := 4) (by omega) (by omega)).mpr (by omega)) ?_
      rw [ax_ul_eq, ha]; exact hK
    | succ n ih =>
      intro r a z2 hr ha
      obtain ⟨l1, l2⟩ := h3.2 r (by omega)
      have hsz : sw_sz (I (5 + (126 + 2 * r)) 1) ≤ 80 ∧ (∀ i, i < 2 ^ 31 → (I (5 + (126 + 2 * r)) 1 ≤ nI i ↔ sw_sz (I (5 + (126 + 2 * r)) 1) ≤ i)) ∧ (∀ i, i < sw_sz (I (5 + (126 + 2 * r)) 1) → I 190 (80 * r + i) = I (5 + (126 + 2 * r) + 1) i) := by
        rcases l2 with y | ⟨n, y1, y2, y3⟩
        · rw [y]
          exact ⟨by decide, fun i hi => ⟨fun _ => by show (0 : Nat) ≤ i; omega, fun _ => Int32.le_trans (by decide) (nI_pos' hi)⟩, fun i hi => by cases hi⟩
        · rw [y2]; unfold sw_sz; rw [nI_clamp (by omega)]
          exact ⟨y1, fun i hi => nI_leI (by omega) hi, y3⟩
      apply vc_X9_digest_91
      refine ax_cf (fun z => by have := (nI_leI (a := 4) (by omega) (by omega)).mp z; omega) ⟨ax_inb_nI (by omega) (by omega), ?_⟩
      rw [nI_clamp (by omega), l1]
      refine rf_mix ?_
      suffices ∀ (c i : Nat) (b : Int64), i + c = sw_sz (I (5 + (126 + 2 * r)) 1) → ax_it (fun i h => sw_h (I (5 + (126 + 2 * r) + 1) i) h) c i b = sw_hl (I (5 + (126 + 2 * r)) 1) (I (5 + (126 + 2 * r) + 1)) a → ax_AK ((d + 6)) 242 (109, [some (ax_vr 9 0 184), some (ax_vi (nI r)), some (ax_vi (nI i))], [], ax_mm I (ax_ul L 184 45 b)) (ax_kl K) from this _ 0 _ (by omega) rfl
      intro c
      induction c with
      | zero =>
        intro i b hi hb
        have hb : b = sw_hl (I (5 + (126 + 2 * r)) 1) (I (5 + (126 + 2 * r) + 1)) a := hb
        apply vc_X9_digest_109
        rw [nI_clamp (by omega), l1]
        refine ⟨ax_inb_nI (by omega) (by omega), ax_ct ((hsz.2.1 i (by omega)).mpr (by omega)) ?_⟩
        rw [nI_1]
        refine ih _ _ _ (by omega) ?_
        rw [hb]; exact ha
      | succ c ihc =>
        intro i b hi hb
        apply vc_X9_digest_109
        rw [nI_clamp (show r < 2 ^ 31 by omega), l1]
        refine ⟨ax_inb_nI (by omega) (by omega), ax_cf (fun z => by have := (hsz.2.1 i (by omega)).mp z; omega) ?_⟩
        rw [nI_1]
        apply vc_X9_byteAt
        rw [nI_clamp (show r < 2 ^ 31 by omega), l1]
        refine ⟨ax_inb_nI (by omega) (by omega), ax_cf (fun z => by have := (hsz.2.1 i (by omega)).mp z; omega) ?_⟩
        rw [show (80 : Int32) * nI r + nI i = nI (80 * r + i) by rw [show (80 : Int32) = nI 80 from rfl, ax_nI_mul, nI_add], nI_clamp (by omega), hsz.2.2 i (by omega)]
        refine ⟨ax_inb_nI (by omega) (by omega), ?_⟩
        refine rf_mix ?_
        exact ihc _ _ (by omega) hb
  have S2 : ∀ (n r : Nat) (a : Int64) (z2 : Option ax_V), r + n = 6 → ax_it (fun r h => sw_hl (I (5 + (126 + 2 * r)) 1) (I (5 + (126 + 2 * r) + 1)) h) 4 0 (ax_it (fun r h => sw_hl (I (4 + (115 + 2 * r)) 1) (I (4 + (115 + 2 * r) + 1)) h) n r a) = sw_dg I N T kd tl un W es → ax_AK ((d + 6)) 242 (37, [some (ax_vr 9 0 184), some (ax_vi (nI r)), z2], [], ax_mm I (ax_ul L 184 45 a)) (ax_kl K) := by
    intro n
    induction n with
    | zero =>
      intro r a z2 hr ha
      apply vc_X9_digest_37
      refine ax_ct ((nI_leI (a := 6) (by omega) (by omega)).mpr (by omega)) ?_
      exact S3 4 0 a _ (by omega) ha
    | succ n ih =>
      intro r a z2 hr ha
      obtain ⟨l1, l2⟩ := h3.1 r (by omega)
      have hsz : sw_sz (I (4 + (115 + 2 * r)) 1) ≤ 40 ∧ (∀ i, i < 2 ^ 31 → (I (4 + (115 + 2 * r)) 1 ≤ nI i ↔ sw_sz (I (4 + (115 + 2 * r)) 1) ≤ i)) ∧ (∀ i, i < sw_sz (I (4 + (115 + 2 * r)) 1) → I 187 (40 * r + i) = I (4 + (115 + 2 * r) + 1) i) := by
        rcases l2 with y | ⟨n, y1, y2, y3⟩
        · rw [y]
          exact ⟨by decide, fun i hi => ⟨fun _ => by show (0 : Nat) ≤ i; omega, fun _ => Int32.le_trans (by decide) (nI_pos' hi)⟩, fun i hi => by cases hi⟩
        · rw [y2]; unfold sw_sz; rw [nI_clamp (by omega)]
          exact ⟨y1, fun i hi => nI_leI (by omega) hi, y3⟩
      apply vc_X9_digest_37
      refine ax_cf (fun z => by have := (nI_leI (a := 6) (by omega) (by omega)).mp z; omega) ⟨ax_inb_nI (by omega) (by omega), ?_⟩
      rw [nI_clamp (by omega), l1]
      refine rf_mix ?_
      suffices ∀ (c i : Nat) (b : Int64), i + c = sw_sz (I (4 + (115 + 2 * r)) 1) → ax_it (fun i h => sw_h (I (4 + (115 + 2 * r) + 1) i) h) c i b = sw_hl (I (4 + (115 + 2 * r)) 1) (I (4 + (115 + 2 * r) + 1)) a → ax_AK ((d + 6)) 242 (56, [some (ax_vr 9 0 184), some (ax_vi (nI r)), some (ax_vi (nI i))], [], ax_mm I (ax_ul L 184 45 b)) (ax_kl K) from this _ 0 _ (by omega) rfl
      intro c
      induction c with
      | zero =>
        intro i b hi hb
        have hb : b = sw_hl (I (4 + (115 + 2 * r)) 1) (I (4 + (115 + 2 * r) + 1)) a := hb
        apply vc_X9_digest_56
        rw [nI_clamp (by omega), l1]
        refine ⟨ax_inb_nI (by omega) (by omega), ax_ct ((hsz.2.1 i (by omega)).mpr (by omega)) ?_⟩
        rw [nI_1]
        refine ih _ _ _ (by omega) ?_
        rw [hb]; exact ha
      | succ c ihc =>
        intro i b hi hb
        apply vc_X9_digest_56
        rw [nI_clamp (show r < 2 ^ 31 by omega), l1]
        refine ⟨ax_inb_nI (by omega) (by omega), ax_cf (fun z => by have := (hsz.2.1 i (by omega)).mp z; omega) ?_⟩
        rw [nI_1]
        refine rf_rowAt (by omega) (by omega) ?_
        rw [hsz.2.2 i (by omega)]
        refine rf_mix ?_
        exact ihc _ _ (by omega) hb
  suffices ∀ (n k : Nat) (a : Int64) (z2 : Option ax_V), k + n = 9 → ax_it (fun k h => sw_h (nI (sw_ct I N T kd es k)) h) n k a = sw_h0 I N T kd es 17 → ax_AK ((d + 6)) 242 (9, [some (ax_vr 9 0 184), some (ax_vi (nI k)), z2], [], ax_mm I (ax_ul L 184 45 a)) (ax_kl K) from this 9 0 17 _ (by omega) rfl
  intro n
  induction n with
  | zero =>
    intro k a z2 hk ha
    have ha : a = sw_h0 I N T kd es 17 := ha
    apply vc_X9_digest_9
    simp (disch := omega) only [Bool.not_eq_false, Bool.not_eq_true, decide_eq_true_eq, decide_eq_false_iff_not, Bool.not_eq_true', Bool.not_eq_false', ax_lle, ax_llt, ax_lel, ax_ltl, ax_leq, ax_eql, ax_clampl, ax_inb_iff, nI_clamp, nI_1, nI_leI, nI_ltI, nI_eq, ax_b0, ax_b1, ax_bitb, ax_ui_eq, ax_ui_ne, true_and, and_true]
    refine ⟨fun _ => ?_, fun q => by omega⟩
    refine rf_mixTown h h2 ?_
    refine S2 6 0 _ _ (by omega) ?_
    rw [ha]; rfl
  | succ n ih =>
    intro k a z2 hk ha
    apply vc_X9_digest_9
    simp (disch := omega) only [Bool.not_eq_false, Bool.not_eq_true, decide_eq_true_eq, decide_eq_false_iff_not, Bool.not_eq_true', Bool.not_eq_false', ax_lle, ax_llt, ax_lel, ax_ltl, ax_leq, ax_eql, ax_clampl, ax_inb_iff, nI_clamp, nI_1, nI_leI, nI_ltI, nI_eq, ax_b0, ax_b1, ax_bitb, ax_ui_eq, ax_ui_ne, true_and, and_true]
    refine ⟨fun q => by omega, fun _ => ?_⟩
    refine rf_counted h h2 h3 (by omega) ?_
    refine rf_mix ?_
    exact ih _ _ _ (by omega) ha
theorem op_digest {I : ax_I} {L : ax_J} (h : sw_RR I L) : sw_OPL 131 242 [] I L := by
  intro d
  have h0 := h
  obtain ⟨N, T, kd, tl, un, W, es, h1, h2, h3, h4⟩ := h
  refine cl_digest h1 h2 h3 ?_
  refine rf_digest h1 h2 h3 ⟨rfl, ?_⟩
  refine h0.aside (fun _ _ => rfl) sw_SK.refl ?_
  obtain ⟨m1, m2, m3, m4, m5⟩ := h4
  exact ⟨m1, m2, m3, by rw [ax_ul_ne (by omega), ax_ul_ne (by omega)]; exact m4, by rw [ax_ul_ne (by omega), ax_ul_ne (by omega)]; exact m5⟩
