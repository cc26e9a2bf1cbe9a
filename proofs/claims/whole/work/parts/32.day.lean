/-! needs: 21a 21b 30 31 -/
/-! the class's Town and Day -/
theorem cl_thingsWith {d n0 o0 : Nat} {x : Int32} {I : ax_I} {L : ax_J} {K : Int32 → ax_I → ax_J → Prop} (hn : 6 ≤ n0) (hn2 : n0 < 2 ^ 31) (hK : K (ax_ms 6 (fun w => decide (I o0 w = x))) I L) : ax_CI (d + 1) 21 [ax_vr 10 n0 o0, ax_vi x] I L K := by
  apply vc_X1_thingsWith
  suffices ∀ n w acc, w + n = 6 → K (ax_it (ax_sb (fun w => decide (I o0 w = x))) n w acc) I L → ax_AK d 21 (4, [some (ax_vr 10 n0 o0), some (ax_vi x), some (ax_vi acc), some (ax_vi (nI w))], [], ax_mm I L) (ax_ki K) from this 6 0 0 rfl hK
  intro n
  induction n with
  | zero =>
    intro w acc hw hK
    apply vc_X1_thingsWith_4
    simp (disch := omega) only [Bool.not_eq_false, Bool.not_eq_true, decide_eq_true_eq, decide_eq_false_iff_not, Bool.not_eq_true', Bool.not_eq_false', ax_lle, ax_llt, ax_lel, ax_ltl, ax_leq, ax_eql, ax_clampl, ax_inb_iff, nI_clamp, nI_1, nI_leI, nI_ltI, nI_eq, ax_b0, ax_b1, ax_bitb, ax_ui_eq, ax_ui_ne, true_and, and_true]
    exact ⟨fun _ => hK, fun h => by omega⟩
  | succ n ih =>
    intro w acc hw hK
    apply vc_X1_thingsWith_4
    simp (disch := omega) only [Bool.not_eq_false, Bool.not_eq_true, decide_eq_true_eq, decide_eq_false_iff_not, Bool.not_eq_true', Bool.not_eq_false', ax_lle, ax_llt, ax_lel, ax_ltl, ax_leq, ax_eql, ax_clampl, ax_inb_iff, nI_clamp, nI_1, nI_leI, nI_ltI, nI_eq, ax_b0, ax_b1, ax_bitb, ax_ui_eq, ax_ui_ne, true_and, and_true]
    refine ⟨fun h => by omega, fun _ => ⟨by omega, fun h => ih _ _ (by omega) ?_, fun h => ih _ _ (by omega) ?_⟩⟩
    · rw [← ax_sb_f (p := fun w => decide (I o0 w = x)) (w := w) (a := acc) (by simpa using h)]; exact hK
    · rw [← ax_sb_t (p := fun w => decide (I o0 w = x)) (w := w) (a := acc) (by simpa using h)]; exact hK
/-- the tables that never change -/
def sw_ST (I : ax_I) : Prop := I 1 0 = -9 ∧ I 1 1 = 0 ∧ I 1 2 = 0 ∧ I 1 3 = 0 ∧ I 1 4 = 2 ∧ I 1 5 = 1 ∧ I 2 0 = 111 ∧ I 2 1 = 109 ∧ I 2 2 = 99 ∧ I 2 3 = 98 ∧ I 2 4 = 108 ∧ I 2 5 = 107
def sw_TP (I : ax_I) (t N T : Nat) (kd : Nat → Nat) (tl un : Nat → Int32) : Prop := I t 0 = nI N ∧ I t 1 = nI T ∧ (∀ x, x < N → I (t + 1) x = nI (kd x)) ∧ (∀ x, x < N → ∀ i, i < N → ¬ i = x → ax_bt (I (t + 2) x) i = ax_bt (tl x) i) ∧ (∀ w, w < 6 → I (t + 3) w = un w)
def sw_or (f : Nat → Int32) : List Nat → Prop
  | [] => True
  | v :: R => f R.length = nI v ∧ sw_or f R
def sw_DA (I : ax_I) (o : Nat) (W : Nat → Nat → Nat) (G : sw_G) : Prop := (∀ x, x < 6 → ∀ w, w < 6 → I (o + 1 + (1 + x)) w = nI (W x w)) ∧ (∀ w, w < 6 → I (o + 8) w = G.1 w) ∧ (∀ w, w < 6 → I (o + 9) w = G.2.1 w) ∧ I o 6 = nI G.2.2.length ∧ sw_or (I (o + 12)) G.2.2
theorem cl_isOf {d o x a k : Nat} {I : ax_I} {L : ax_J} {K : Int32 → ax_I → ax_J → Prop} (hs : sw_ST I) (hx : x < 6) (ha : I (o + 1) x = nI a) (ha6 : a < 6) (hk : 1 ≤ k) (hk5 : k ≤ 5) (hK : K (ax_b (sw_ko a k)) I L) : ax_CI (d + 1) 84 [ax_vr 7 0 o, ax_vi (nI x), ax_vi (nI k)] I L K := by
  obtain ⟨s0, s1, s2, s3, s4, s5, _⟩ := hs
  apply vc_X7_isOf
  simp (disch := omega) only [Bool.not_eq_false, Bool.not_eq_true, decide_eq_true_eq, decide_eq_false_iff_not, Bool.not_eq_true', Bool.not_eq_false', ax_lle, ax_llt, ax_lel, ax_ltl, ax_leq, ax_eql, ax_clampl, ax_inb_iff, nI_clamp, nI_1, nI_leI, nI_ltI, nI_eq, ax_b0, ax_b1, ax_bitb, ax_ui_eq, ax_ui_ne, true_and, and_true, ha]
  refine ⟨by omega, fun h => ⟨by decide, ?_⟩, fun h => ⟨by omega, fun h2 => ⟨by decide, ?_⟩, fun h2 => ⟨fun h3 => ⟨by decide, ?_⟩, fun h3 => by omega⟩⟩⟩
  · have e : sw_ko a k = true := by simp [sw_ko, h]
    rw [e] at hK; exact hK
  · have e : sw_ko a k = true := by
      match a, k, ha6, hk, hk5 with
      | 0, _, _, _, _ => rw [s0] at h2; exact absurd h2 (ax_9ne (by omega))
      | 1, _, _, _, _ => rw [s1] at h2; simp (disch := omega) only [Bool.not_eq_false, Bool.not_eq_true, decide_eq_true_eq, decide_eq_false_iff_not, Bool.not_eq_true', Bool.not_eq_false', ax_lle, ax_llt, ax_lel, ax_ltl, ax_leq, ax_eql, ax_clampl, ax_inb_iff, nI_clamp, nI_1, nI_leI, nI_ltI, nI_eq, ax_b0, ax_b1, ax_bitb, ax_ui_eq, ax_ui_ne, true_and, and_true] at h2; omega
      | 2, _, _, _, _ => rw [s2] at h2; simp (disch := omega) only [Bool.not_eq_false, Bool.not_eq_true, decide_eq_true_eq, decide_eq_false_iff_not, Bool.not_eq_true', Bool.not_eq_false', ax_lle, ax_llt, ax_lel, ax_ltl, ax_leq, ax_eql, ax_clampl, ax_inb_iff, nI_clamp, nI_1, nI_leI, nI_ltI, nI_eq, ax_b0, ax_b1, ax_bitb, ax_ui_eq, ax_ui_ne, true_and, and_true] at h2; omega
      | 3, _, _, _, _ => rw [s3] at h2; simp (disch := omega) only [Bool.not_eq_false, Bool.not_eq_true, decide_eq_true_eq, decide_eq_false_iff_not, Bool.not_eq_true', Bool.not_eq_false', ax_lle, ax_llt, ax_lel, ax_ltl, ax_leq, ax_eql, ax_clampl, ax_inb_iff, nI_clamp, nI_1, nI_leI, nI_ltI, nI_eq, ax_b0, ax_b1, ax_bitb, ax_ui_eq, ax_ui_ne, true_and, and_true] at h2; omega
      | 4, _, _, _, _ => rw [s4] at h2; simp (disch := omega) only [Bool.not_eq_false, Bool.not_eq_true, decide_eq_true_eq, decide_eq_false_iff_not, Bool.not_eq_true', Bool.not_eq_false', ax_lle, ax_llt, ax_lel, ax_ltl, ax_leq, ax_eql, ax_clampl, ax_inb_iff, nI_clamp, nI_1, nI_leI, nI_ltI, nI_eq, ax_b0, ax_b1, ax_bitb, ax_ui_eq, ax_ui_ne, true_and, and_true] at h2; simp [sw_ko]; omega
      | 5, _, _, _, _ => rw [s5] at h2; simp (disch := omega) only [Bool.not_eq_false, Bool.not_eq_true, decide_eq_true_eq, decide_eq_false_iff_not, Bool.not_eq_true', Bool.not_eq_false', ax_lle, ax_llt, ax_lel, ax_ltl, ax_leq, ax_eql, ax_clampl, ax_inb_iff, nI_clamp, nI_1, nI_leI, nI_ltI, nI_eq, ax_b0, ax_b1, ax_bitb, ax_ui_eq, ax_ui_ne, true_and, and_true] at h2; simp [sw_ko]; omega
    rw [e] at hK; exact hK
  · have e : sw_ko a k = false := by
      match a, k, ha6, hk, hk5 with
      | 0, _, _, _, _ => simp [sw_ko]; omega
      | 1, _, _, _, _ => simp [sw_ko]; omega
      | 2, _, _, _, _ => simp [sw_ko]; omega
      | 3, _, _, _, _ => simp [sw_ko]; omega
      | 4, _, _, _, _ => rw [s4] at h2; simp (disch := omega) only [Bool.not_eq_false, Bool.not_eq_true, decide_eq_true_eq, decide_eq_false_iff_not, Bool.not_eq_true', Bool.not_eq_false', ax_lle, ax_llt, ax_lel, ax_ltl, ax_leq, ax_eql, ax_clampl, ax_inb_iff, nI_clamp, nI_1, nI_leI, nI_ltI, nI_eq, ax_b0, ax_b1, ax_bitb, ax_ui_eq, ax_ui_ne, true_and, and_true] at h2; simp [sw_ko]; omega
      | 5, _, _, _, _ => rw [s5] at h2; simp (disch := omega) only [Bool.not_eq_false, Bool.not_eq_true, decide_eq_true_eq, decide_eq_false_iff_not, Bool.not_eq_true', Bool.not_eq_false', ax_lle, ax_llt, ax_lel, ax_ltl, ax_leq, ax_eql, ax_clampl, ax_inb_iff, nI_clamp, nI_1, nI_leI, nI_ltI, nI_eq, ax_b0, ax_b1, ax_bitb, ax_ui_eq, ax_ui_ne, true_and, and_true] at h2; simp [sw_ko]; omega
    rw [e] at hK; exact hK
theorem cl_isWaiting {d o w : Nat} {W : Nat → Nat → Nat} {G : sw_G} {I : ax_I} {L : ax_J} {K : Int32 → ax_I → ax_J → Prop} (hD : sw_DA I o W G) (hw : w < 6) (hK : K (ax_b (!decide (G.1 w = -9) && decide (G.2.1 w = -9))) I L) : ax_CI (d + 1) 7 [ax_vr 1 0 o, ax_vi (nI w)] I L K := by
  obtain ⟨h1, h2, h3, h4, h5⟩ := hD
  apply vc_X1_isWaiting
  simp (disch := omega) only [Bool.not_eq_false, Bool.not_eq_true, decide_eq_true_eq, decide_eq_false_iff_not, Bool.not_eq_true', Bool.not_eq_false', ax_lle, ax_llt, ax_lel, ax_ltl, ax_leq, ax_eql, ax_clampl, ax_inb_iff, nI_clamp, nI_1, nI_leI, nI_ltI, nI_eq, ax_b0, ax_b1, ax_bitb, ax_ui_eq, ax_ui_ne, true_and, and_true, h2 w hw, h3 w hw]
  refine ⟨by omega, fun h => ⟨by decide, ?_⟩, fun h => ⟨by omega, fun q => ⟨by decide, ?_⟩, fun q => ⟨by decide, ?_⟩⟩⟩ <;> simpa [h, ax_b, *] using hK
theorem cl_isGrantable {d o o0 x w N T : Nat} {kd : Nat → Nat} {tl un : Nat → Int32} {W : Nat → Nat → Nat} {G : sw_G} {I : ax_I} {L : ax_J} {K : Int32 → ax_I → ax_J → Prop} (hs : sw_ST I) (hT : sw_TP I o0 N T kd tl un) (hg : sw_TG N T kd tl un) (hD : sw_DA I o W G) (hx : x < N) (hw : w < 6) (hK : K (ax_b (!decide (G.1 w = -9) && decide (G.2.1 w = -9) && (!decide (G.1 w = nI x) || decide (kd x = 5)))) I L) : ax_CI (d + 2) 8 [ax_vr 1 0 o, ax_vr 7 0 o0, ax_vi (nI x), ax_vi (nI w)] I L K := by
  have hx6 : x < 6 := by have := hg.1; omega
  apply vc_X1_isGrantable
  apply cl_isWaiting hD hw
  obtain ⟨h1, h2, h3, h4, h5⟩ := hD
  simp (disch := omega) only [Bool.not_eq_false, Bool.not_eq_true, decide_eq_true_eq, decide_eq_false_iff_not, Bool.not_eq_true', Bool.not_eq_false', ax_lle, ax_llt, ax_lel, ax_ltl, ax_leq, ax_eql, ax_clampl, ax_inb_iff, nI_clamp, nI_1, nI_leI, nI_ltI, nI_eq, ax_b0, ax_b1, ax_bitb, ax_ui_eq, ax_ui_ne, true_and, and_true, h2 w hw, h3 w hw]
  refine ⟨fun h => ⟨by decide, ?_⟩, fun h => ⟨by omega, fun q => ⟨by decide, ?_⟩, fun q => ?_⟩⟩
  · rw [h] at hK; exact hK
  · rw [h, decide_eq_false q] at hK; exact hK
  · refine cl_isOf (k := 5) hs hx6 (hT.2.2.1 x hx) (hg.2.2.2.1 x hx) (by omega) (by omega) ?_
    simp (disch := omega) only [Bool.not_eq_false, Bool.not_eq_true, decide_eq_true_eq, decide_eq_false_iff_not, Bool.not_eq_true', Bool.not_eq_false', ax_lle, ax_llt, ax_lel, ax_ltl, ax_leq, ax_eql, ax_clampl, ax_inb_iff, nI_clamp, nI_1, nI_leI, nI_ltI, nI_eq, ax_b0, ax_b1, ax_bitb, ax_ui_eq, ax_ui_ne, true_and, and_true]
    rw [h, decide_eq_true q] at hK
    refine ⟨fun h => ⟨by decide, ?_⟩, fun h => ⟨by decide, ?_⟩⟩
    · have : ¬ kd x = 5 := by intro e; rw [e] at h; exact absurd h (by decide)
      rw [decide_eq_false this] at hK; exact hK
    · have : kd x = 5 := by
        have h := h
        simp [sw_ko] at h; exact h
      rw [decide_eq_true this] at hK; exact hK
/-- what a WISH lays into memory -/
def sw_wI (I : ax_I) (o : Nat) (kd : Nat → Nat) (G : sw_G) (x w : Nat) : ax_I := match sw_out kd G x w with
  | 1 => ax_ui I (o + 8) w (nI x)
  | 2 => ax_ui (ax_ui (ax_ui (ax_ui I (o + 9) w (sw_own kd G x w)) (o + 10) w (nI x)) (o + 12) G.2.2.length (nI w)) o 6 (nI (G.2.2.length + 1))
  | _ => I
theorem sw_wI_0 {I : ax_I} {o : Nat} {kd : Nat → Nat} {G : sw_G} {x w : Nat} (h : sw_out kd G x w = 0) : sw_wI I o kd G x w = I := by unfold sw_wI; rw [h]; rfl
theorem sw_wI_1 {I : ax_I} {o : Nat} {kd : Nat → Nat} {G : sw_G} {x w : Nat} (h : sw_out kd G x w = 1) : sw_wI I o kd G x w = ax_ui I (o + 8) w (nI x) := by unfold sw_wI; rw [h]; rfl
theorem sw_wI_2 {I : ax_I} {o : Nat} {kd : Nat → Nat} {G : sw_G} {x w : Nat} (h : sw_out kd G x w = 2) : sw_wI I o kd G x w = ax_ui (ax_ui (ax_ui (ax_ui I (o + 9) w (sw_own kd G x w)) (o + 10) w (nI x)) (o + 12) G.2.2.length (nI w)) o 6 (nI (G.2.2.length + 1)) := by unfold sw_wI; rw [h]; rfl
theorem cl_wish {d o o0 x w N T : Nat} {kd : Nat → Nat} {tl un : Nat → Int32} {W : Nat → Nat → Nat} {G : sw_G} {I : ax_I} {L : ax_J} {K : Int32 → ax_I → ax_J → Prop} (hs : sw_ST I) (hT : sw_TP I o0 N T kd tl un) (hg : sw_TG N T kd tl un) (hD : sw_DA I o W G) (hG : sw_GI N T G) (hx : x < N) (hw : w < 6) (hK : K (nI (sw_out kd G x w)) (sw_wI I o kd G x w) L) : ax_CI (d + 3) 9 [ax_vr 1 0 o, ax_vr 7 0 o0, ax_vi (nI x), ax_vi (nI w)] I L K := by
  have hx6 : x < 6 := by have := hg.1; omega
  have hD0 := hD
  obtain ⟨h1, h2, h3, h4, h5⟩ := hD
  have hlen := hG.len
  apply vc_X1_wish
  simp (disch := omega) only [Bool.not_eq_false, Bool.not_eq_true, decide_eq_true_eq, decide_eq_false_iff_not, Bool.not_eq_true', Bool.not_eq_false', ax_lle, ax_llt, ax_lel, ax_ltl, ax_leq, ax_eql, ax_clampl, ax_inb_iff, nI_clamp, nI_1, nI_leI, nI_ltI, nI_eq, ax_b0, ax_b1, ax_bitb, ax_ui_eq, ax_ui_ne, true_and, and_true, h2 w hw, h3 w hw, h4]
  refine ⟨by omega, fun h => ⟨fun h6 => ?_, fun h6 => ?_⟩, fun h => ⟨by omega, ?_⟩⟩
  · have : ¬ G.2.1 w = -9 := fun e => by have := hG.room hw e; omega
    have e : sw_out kd G x w = 0 := by unfold sw_out; rw [if_neg h, if_neg (fun q => this q.1)]
    unfold sw_wI at hK; rw [e] at hK; exact hK
  · refine cl_isGrantable hs hT hg hD0 hx hw ?_
    simp (disch := omega) only [Bool.not_eq_false, Bool.not_eq_true, decide_eq_true_eq, decide_eq_false_iff_not, Bool.not_eq_true', Bool.not_eq_false', ax_lle, ax_llt, ax_lel, ax_ltl, ax_leq, ax_eql, ax_clampl, ax_inb_iff, nI_clamp, nI_1, nI_leI, nI_ltI, nI_eq, ax_b0, ax_b1, ax_bitb, ax_ui_eq, ax_ui_ne, true_and, and_true]
    refine ⟨fun q => ?_, fun q => ?_⟩
    · have q := q
      rw [Bool.and_eq_true, Bool.and_eq_true, Bool.or_eq_true] at q
      simp only [Bool.not_eq_true', decide_eq_true_eq, decide_eq_false_iff_not] at q
      have e : sw_out kd G x w = 2 := by unfold sw_out; rw [if_neg h, if_pos ⟨q.1.2, q.2⟩]
      unfold sw_wI at hK; rw [e] at hK
      refine cl_isOf (k := 4) hs hx6 (hT.2.2.1 x hx) (hg.2.2.2.1 x hx) (by omega) (by omega) ?_
      simp (disch := omega) only [Bool.not_eq_false, Bool.not_eq_true, decide_eq_true_eq, decide_eq_false_iff_not, Bool.not_eq_true', Bool.not_eq_false', ax_lle, ax_llt, ax_lel, ax_ltl, ax_leq, ax_eql, ax_clampl, ax_inb_iff, nI_clamp, nI_1, nI_leI, nI_ltI, nI_eq, ax_b0, ax_b1, ax_bitb, ax_ui_eq, ax_ui_ne, true_and, and_true, h4, h2 w hw]
      refine ⟨fun z => ⟨by omega, by omega, by omega, ?_⟩, fun z => ⟨by omega, by omega, by omega, by omega, ?_⟩⟩
      · have : ¬ kd x = 4 := by intro e; rw [e] at z; exact absurd z (by decide)
        unfold sw_own at hK; rw [if_neg this] at hK; exact hK
      · have : kd x = 4 := by
          have z := z
          simp [sw_ko] at z; exact z
        unfold sw_own at hK; rw [if_pos this] at hK; exact hK
    · have e : sw_out kd G x w = 0 := by
        unfold sw_out; rw [if_neg h, if_neg]
        intro z
        rw [decide_eq_false h, decide_eq_true z.1, Bool.not_false, Bool.true_and, Bool.true_and] at q
        rcases z.2 with z | z
        · rw [decide_eq_false z] at q; simp at q
        · rw [decide_eq_true z] at q; simp at q
      unfold sw_wI at hK; rw [e] at hK; exact hK
  · have e : sw_out kd G x w = 1 := by unfold sw_out; rw [if_pos h]
    unfold sw_wI at hK; rw [e] at hK; exact hK
theorem sw_or_up {f : Nat → Int32} {k : Nat} {v : Int32} {g : Nat → Int32} (hg : ∀ b, ¬ b = k → g b = f b) : ∀ (R : List Nat), R.length ≤ k → sw_or f R → sw_or g R
  | [], _, _ => trivial
  | u :: R, h, q => ⟨by rw [hg _ (by have : R.length + 1 ≤ k := h; omega)]; exact q.1, sw_or_up (v := v) hg R (by have : R.length + 1 ≤ k := h; omega) q.2⟩
theorem sw_DA.wish {I : ax_I} {o : Nat} {W : Nat → Nat → Nat} {G : sw_G} (h : sw_DA I o W G) {kd : Nat → Nat} {x w : Nat} (hw : w < 6) : sw_DA (sw_wI I o kd G x w) o W (sw_ws kd G x w) := by
  obtain ⟨h1, h2, h3, h4, h5⟩ := h
  unfold sw_wI
  split
  · rename_i e
    obtain ⟨_, e⟩ := sw_ws_1 e
    rw [e]
    refine ⟨?_, ?_, ?_, ?_, ?_⟩
    · intro a ha b hb; rw [ax_ui_ne (by omega)]; exact h1 a ha b hb
    · intro a ha
      by_cases q : a = w
      · subst q; rw [ax_ui_eq]; exact sw_up_eq.symm
      · rw [ax_ui_ne (by omega)]; show _ = sw_up _ _ _ _; rw [sw_up_ne q]; exact h2 a ha
    · intro a ha; rw [ax_ui_ne (by omega)]; exact h3 a ha
    · rw [ax_ui_ne (by omega)]; exact h4
    · rw [ax_ui_row (by omega)]; exact h5
  · rename_i e
    obtain ⟨_, _, e⟩ := sw_ws_2 e
    rw [e]
    refine ⟨?_, ?_, ?_, ?_, ?_⟩
    · intro a ha b hb; rw [ax_ui_ne (by omega), ax_ui_ne (by omega), ax_ui_ne (by omega), ax_ui_ne (by omega)]; exact h1 a ha b hb
    · intro a ha; rw [ax_ui_ne (by omega), ax_ui_ne (by omega), ax_ui_ne (by omega), ax_ui_ne (by omega)]; exact h2 a ha
    · intro a ha
      rw [ax_ui_ne (by omega), ax_ui_ne (by omega), ax_ui_ne (by omega)]
      by_cases q : a = w
      · subst q; rw [ax_ui_eq]; exact sw_up_eq.symm
      · rw [ax_ui_ne (by omega)]; show _ = sw_up _ _ _ _; rw [sw_up_ne q]; exact h3 a ha
    · rw [ax_ui_eq]; rfl
    · rw [ax_ui_row (by omega)]
      refine ⟨ax_ui_eq, ?_⟩
      refine sw_or_up (k := G.2.2.length) (v := 0) (f := I (o + 12)) ?_ _ (Nat.le_refl _) h5
      intro b hb
      rw [ax_ui_ne (by omega), ax_ui_row (by omega), ax_ui_row (by omega)]
  · rename_i e1 e2
    have e : sw_out kd G x w = 0 := by have := sw_out_le (kd := kd) (G := G) (x := x) (w := w); have e1 : ¬ _ := e1; have e2 : ¬ _ := e2; omega
    rw [sw_ws_0 e]
    exact ⟨h1, h2, h3, h4, h5⟩
theorem sw_wI_FR {I : ax_I} {o : Nat} {G : sw_G} {kd : Nat → Nat} {x w : Nat} : ax_FR o (o + 14) I (sw_wI I o kd G x w) := by
  unfold sw_wI
  split
  · exact ax_FR.refl.ui (by omega) (by omega)
  · exact (((ax_FR.refl.ui (by omega) (by omega)).ui (by omega) (by omega)).ui (by omega) (by omega)).ui (by omega) (by omega)
  · exact ax_FR.refl
/-- what is taken back -/
def sw_tI (I : ax_I) (o : Nat) (w out n : Nat) : ax_I := match out with
  | 1 => ax_ui (ax_ui I (o + 8) w (-9)) (o + 11) w 0
  | 2 => ax_ui (ax_ui (ax_ui I (o + 9) w (-9)) (o + 10) w (-9)) o 6 (nI n)
  | _ => I
theorem cl_takeBack {d o w out n : Nat} {I : ax_I} {L : ax_J} {K : ax_I → ax_J → Prop} (hw : w < 6) (ho : out ≤ 2) (hn : out = 2 → I o 6 = nI (n + 1)) (hK : K (sw_tI I o w out n) L) : ax_CV (d + 1) 10 [ax_vr 1 0 o, ax_vi (nI w), ax_vi (nI out)] I L K := by
  apply vc_X1_takeBack
  simp (disch := omega) only [Bool.not_eq_false, Bool.not_eq_true, decide_eq_true_eq, decide_eq_false_iff_not, Bool.not_eq_true', Bool.not_eq_false', ax_lle, ax_llt, ax_lel, ax_ltl, ax_leq, ax_eql, ax_clampl, ax_inb_iff, nI_clamp, nI_1, nI_leI, nI_ltI, nI_eq, ax_b0, ax_b1, ax_bitb, ax_ui_eq, ax_ui_ne, true_and, and_true]
  match out, ho with
  | 0, _ => exact ⟨fun _ => ⟨fun _ => hK, fun q => by omega⟩, fun q => by omega⟩
  | 1, _ => exact ⟨fun q => by omega, fun _ => ⟨by omega, by omega, hK⟩⟩
  | 2, _ =>
    refine ⟨fun _ => ⟨fun q => by omega, fun _ => ⟨by omega, by omega, ?_⟩⟩, fun q => by omega⟩
    rw [hn rfl, nI_pred]; exact hK
theorem sw_DA.back {I : ax_I} {o : Nat} {W : Nat → Nat → Nat} {G : sw_G} {kd : Nat → Nat} {x w : Nat} (h : sw_DA I o W (sw_ws kd G x w)) (hw : w < 6) : sw_DA (sw_tI I o w (sw_out kd G x w) G.2.2.length) o W G := by
  unfold sw_tI
  split
  · rename_i e
    obtain ⟨q, e⟩ := sw_ws_1 e
    rw [e] at h
    obtain ⟨h1, h2, h3, h4, h5⟩ := h
    refine ⟨?_, ?_, ?_, ?_, ?_⟩
    · intro a ha b hb; rw [ax_ui_ne (by omega), ax_ui_ne (by omega)]; exact h1 a ha b hb
    · intro a ha
      rw [ax_ui_ne (by omega)]
      by_cases z : a = w
      · subst z; rw [ax_ui_eq]; exact q.symm
      · rw [ax_ui_ne (by omega)]; have := h2 a ha; rw [this]; exact sw_up_ne z
    · intro a ha; rw [ax_ui_ne (by omega), ax_ui_ne (by omega)]; exact h3 a ha
    · rw [ax_ui_ne (by omega), ax_ui_ne (by omega)]; exact h4
    · rw [ax_ui_row (by omega), ax_ui_row (by omega)]; exact h5
  · rename_i e
    obtain ⟨q, q2, e⟩ := sw_ws_2 e
    rw [e] at h
    obtain ⟨h1, h2, h3, h4, h5⟩ := h
    refine ⟨?_, ?_, ?_, ?_, ?_⟩
    · intro a ha b hb; rw [ax_ui_ne (by omega), ax_ui_ne (by omega), ax_ui_ne (by omega)]; exact h1 a ha b hb
    · intro a ha; rw [ax_ui_ne (by omega), ax_ui_ne (by omega), ax_ui_ne (by omega)]; exact h2 a ha
    · intro a ha
      rw [ax_ui_ne (by omega), ax_ui_ne (by omega)]
      by_cases z : a = w
      · subst z; rw [ax_ui_eq]; exact q2.1.symm
      · rw [ax_ui_ne (by omega)]; have := h3 a ha; rw [this]; exact sw_up_ne z
    · rw [ax_ui_eq]
    · rw [ax_ui_row (by omega), ax_ui_row (by omega), ax_ui_row (by omega)]; exact h5.2
  · rename_i e1 e2
    have e : sw_out kd G x w = 0 := by have := sw_out_le (kd := kd) (G := G) (x := x) (w := w); have e1 : ¬ _ := e1; have e2 : ¬ _ := e2; omega
    rw [sw_ws_0 e] at h
    exact h
theorem sw_tI_FR {I : ax_I} {o w out n : Nat} : ax_FR o (o + 14) I (sw_tI I o w out n) := by
  unfold sw_tI
  split
  · exact (ax_FR.refl.ui (by omega) (by omega)).ui (by omega) (by omega)
  · exact ((ax_FR.refl.ui (by omega) (by omega)).ui (by omega) (by omega)).ui (by omega) (by omega)
  · exact ax_FR.refl
theorem sw_DA.back6 {I : ax_I} {o : Nat} {W : Nat → Nat → Nat} {G : sw_G} {kd : Nat → Nat} {x w : Nat} (h : sw_DA I o W (sw_ws kd G x w)) : sw_out kd G x w = 2 → I o 6 = nI (G.2.2.length + 1) := by
  intro e
  obtain ⟨q, q2, e⟩ := sw_ws_2 e
  rw [e] at h
  exact h.2.2.2.1
