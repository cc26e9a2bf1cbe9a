/-! WHAT HOLDS BETWEEN THE CLASS AND THE REFERENCE, between two calls -/
def sw_L1 (I : ax_I) (o n0 so sk ro : Nat) : Prop := I so sk = I o 1 ∧ (I o 1 = -1 ∨ ∃ n, n ≤ n0 ∧ I o 1 = nI n ∧ ∀ i, i < n → I ro (n0 * sk + i) = I (o + 1) i)
def sw_LS (I : ax_I) : Prop := (∀ r, r < 6 → sw_L1 I (4 + (115 + 2 * r)) 40 186 r 187) ∧ (∀ t, t < 4 → sw_L1 I (5 + (126 + 2 * t)) 80 189 t 190)
def sw_MS (I : ax_I) (L : ax_J) : Prop := I 3 12 = I 184 0 ∧ (∀ f, f < 6 → I 118 f = I 185 f) ∧ I 3 13 = I 184 2 ∧ L 3 14 = L 184 3 ∧ L 3 15 = L 184 4
/-- a whole frame of the reference -/
def sw_FF (f : Nat → Int32) (kd : Nat → Nat) (es : sw_E) : Prop := sw_FG f (sw_rp kd es) ∧ (∀ w, w < 6 → f (18 + w) = sw_by kd es w) ∧ (∀ x, x < 6 → f (24 + x) = ax_ms 6 (fun w => ax_bt (sw_he kd es w) x))
def sw_ry (kd : Nat → Nat) (f g : Nat → Int32) : sw_E → Prop
  | [] => True
  | e :: es => f es.length = nI (10 * e.1 + e.2.1) ∧ sw_FF (fun j => g (31 * es.length + j)) kd es ∧ sw_ry kd f g es
def sw_W9 (T : Nat) (W : Nat → Nat → Nat) : Prop := (∀ x w, W x w ≤ 9) ∧ (∀ x w, T ≤ w → W x w = 0)
def sw_TW (I : ax_I) (N T : Nat) (kd : Nat → Nat) (tl un : Nat → Int32) (W : Nat → Nat → Nat) (es : sw_E) : Prop :=
  sw_TG N T kd tl un ∧ sw_W9 T W ∧ sw_EI N T es ∧ sw_ST I ∧ sw_TP I 6 N T kd tl un ∧ sw_DF I 10 kd W es ∧ sw_RT I N T kd tl un W ∧ (0 < N → sw_FF (sw_fr I 0) kd es) ∧ I 184 27 = nI es.length ∧ sw_ry kd (I 200) (I 201) es
def sw_KP (I : ax_I) (N T : Nat) (kd : Nat → Nat) (k : Nat) : Prop := (I 26 k = 0 ∧ I 202 k = 0) ∨ (I 26 k = 1 ∧ I 202 k = 1 ∧ ∃ (W : Nat → Nat → Nat) (es : sw_E), sw_W9 T W ∧ sw_EI N T es ∧ sw_DF I (25 + (114 + 15 * k)) kd W es ∧ I 203 k = nI es.length ∧ sw_FF (fun j => I 204 (31 * k + j)) kd es ∧ (∀ x, x < 6 → ∀ w, w < 6 → I 205 (36 * k + (6 * x + w)) = nI (W x w)) ∧ sw_ry kd (fun i => I 206 (40 * k + i)) (fun i => I 207 (1240 * k + i)) es)
def sw_RR (I : ax_I) (L : ax_J) : Prop := ∃ (N T : Nat) (kd : Nat → Nat) (tl un : Nat → Int32) (W : Nat → Nat → Nat) (es : sw_E), sw_TW I N T kd tl un W es ∧ (∀ k, k < 3 → sw_KP I N T kd k) ∧ sw_LS I ∧ sw_MS I L
/-- a call: class and reference answer alike, and go on alike -/
def sw_OP (y z : Nat) (as : List ax_V) (I : ax_I) (L : ax_J) : Prop := ∀ d, ax_CI (d + 30) y (ax_vr 8 0 3 :: as) I L (fun a I1 L1 => ax_CI (d + 30) z (ax_vr 9 0 184 :: as) I1 L1 (fun b I2 L2 => a = b ∧ sw_RR I2 L2))
def sw_OPL (y z : Nat) (as : List ax_V) (I : ax_I) (L : ax_J) : Prop := ∀ d, ax_CL (d + 30) y (ax_vr 8 0 3 :: as) I L (fun a I1 L1 => ax_CL (d + 30) z (ax_vr 9 0 184 :: as) I1 L1 (fun b I2 L2 => a = b ∧ sw_RR I2 L2))
/-! frames -/
theorem sw_L1.frame {I I' : ax_I} {o n0 so sk ro : Nat} (h : sw_L1 I o n0 so sk ro) (h1 : I' so = I so) (h2 : I' o = I o) (h3 : I' ro = I ro) (h4 : I' (o + 1) = I (o + 1)) : sw_L1 I' o n0 so sk ro := by
  unfold sw_L1; rw [h1, h2, h3, h4]; exact h
theorem sw_LS.frame {I I' : ax_I} (h : sw_LS I) (hf : ∀ a, (119 ≤ a ∧ a ≤ 138) ∨ (186 ≤ a ∧ a ≤ 187) ∨ (189 ≤ a ∧ a ≤ 190) → I' a = I a) : sw_LS I' :=
  ⟨fun r hr => (h.1 r hr).frame (hf _ (by omega)) (hf _ (by omega)) (hf _ (by omega)) (hf _ (by omega)), fun t ht => (h.2 t ht).frame (hf _ (by omega)) (hf _ (by omega)) (hf _ (by omega)) (hf _ (by omega))⟩
theorem sw_MS.frame {I I' : ax_I} {L : ax_J} (h : sw_MS I L) (h1 : I' 3 12 = I 3 12) (h2 : I' 184 0 = I 184 0) (h3 : I' 118 = I 118) (h4 : I' 185 = I 185) (h5 : I' 3 13 = I 3 13) (h6 : I' 184 2 = I 184 2) : sw_MS I' L := by
  unfold sw_MS; rw [h1, h2, h3, h4, h5, h6]; exact h
theorem sw_FF.same {f g : Nat → Int32} {kd : Nat → Nat} {es : sw_E} (h : sw_FF f kd es) (hg : ∀ j, j < 31 → g j = f j) : sw_FF g kd es :=
  ⟨h.1.same hg, fun w hw => by rw [hg _ (by omega)]; exact h.2.1 w hw, fun w hw => by rw [hg _ (by omega)]; exact h.2.2 w hw⟩
theorem sw_ry_up {kd : Nat → Nat} {f g f' g' : Nat → Int32} {k : Nat} (hf : ∀ b, b < k → f' b = f b) (hg : ∀ b, b < 31 * k → g' b = g b) : ∀ (es : sw_E), es.length ≤ k → sw_ry kd f g es → sw_ry kd f' g' es
  | [], _, _ => trivial
  | e :: es, h, q => by
    have h : es.length + 1 ≤ k := h
    exact ⟨by rw [hf _ (by omega)]; exact q.1, q.2.1.same (fun j hj => hg _ (by omega)), sw_ry_up hf hg es (by omega) q.2.2⟩
theorem sw_TW.frame {I I' : ax_I} {N T : Nat} {kd : Nat → Nat} {tl un : Nat → Int32} {W : Nat → Nat → Nat} {es : sw_E} (h : sw_TW I N T kd tl un W es) (hf : ∀ a, a = 1 ∨ a = 2 ∨ (6 ≤ a ∧ a ≤ 24) ∨ (191 ≤ a ∧ a ≤ 194) ∨ a = 200 ∨ a = 201 → I' a = I a) (h1 : I' 184 10 = I 184 10) (h2 : I' 184 11 = I 184 11) (h3 : I' 184 27 = I 184 27) (h4 : ∀ b, b < 31 → I' 199 b = I 199 b) : sw_TW I' N T kd tl un W es := by
  obtain ⟨q1, q2, q3, q4, q5, q6, q7, q8, q9, q10⟩ := h
  refine ⟨q1, q2, q3, q4.frame (hf _ (by omega)) (hf _ (by omega)), q5.frame (fun a _ _ => hf a (by omega)), q6.frame (fun a _ _ => hf a (by omega)), q7.frame h1 h2 (hf _ (by omega)) (hf _ (by omega)) (hf _ (by omega)) (hf _ (by omega)), fun hN => (q8 hN).same (fun j hj => ?_), h3.trans q9, ?_⟩
  · unfold sw_fr; exact h4 _ (by omega)
  · rw [hf 200 (by omega), hf 201 (by omega)]; exact q10
theorem sw_KP.frame {I I' : ax_I} {N T : Nat} {kd : Nat → Nat} {k : Nat} (h : sw_KP I N T kd k) (hk : k < 3) (hf : ∀ a, a = 26 ∨ (139 ≤ a ∧ a ≤ 183) ∨ (202 ≤ a ∧ a ≤ 207) → I' a = I a) : sw_KP I' N T kd k := by
  unfold sw_KP
  rw [hf 26 (by omega), hf 202 (by omega), hf 203 (by omega), hf 204 (by omega), hf 205 (by omega), hf 206 (by omega), hf 207 (by omega)]
  rcases h with h | ⟨h1, h2, W, es, h3, h4, h5, h6⟩
  · exact .inl h
  · exact .inr ⟨h1, h2, W, es, h3, h4, h5.frame (fun a _ _ => hf a (by omega)), h6⟩
/-- nothing that counts has changed -/
def sw_SM (I I' : ax_I) : Prop := (∀ a, (1 ≤ a ∧ a ≤ 2) ∨ (6 ≤ a ∧ a ≤ 24) ∨ a = 26 ∨ (118 ≤ a ∧ a ≤ 183) ∨ (185 ≤ a ∧ a ≤ 187) ∨ (189 ≤ a ∧ a ≤ 194) ∨ (200 ≤ a ∧ a ≤ 207) → I' a = I a) ∧ (∀ b, b < 31 → I' 199 b = I 199 b) ∧ I' 3 12 = I 3 12 ∧ I' 3 13 = I 3 13 ∧ I' 184 0 = I 184 0 ∧ I' 184 2 = I 184 2 ∧ I' 184 10 = I 184 10 ∧ I' 184 11 = I 184 11 ∧ I' 184 27 = I 184 27
theorem sw_RR.same {I I' : ax_I} {L : ax_J} (h : sw_RR I L) (hf : sw_SM I I') : sw_RR I' L := by
  obtain ⟨N, T, kd, tl, un, W, es, h1, h2, h3, h4⟩ := h
  obtain ⟨f1, f2, f3, f4, f5, f6, f7, f8, f9⟩ := hf
  exact ⟨N, T, kd, tl, un, W, es, h1.frame (fun a q => f1 a (by omega)) f7 f8 f9 f2, fun k hk => (h2 k hk).frame hk (fun a q => f1 a (by omega)), h3.frame (fun a q => f1 a (by omega)), h4.frame f3 f5 (f1 _ (by omega)) (f1 _ (by omega)) f4 f6⟩
theorem sw_SM.of {I I' : ax_I} {lo hi : Nat} (h : ax_FR lo hi I I') (h1 : 27 ≤ lo) (h2 : hi ≤ 117) : sw_SM I I' :=
  ⟨fun a q => h a (by omega), fun b _ => by rw [h _ (by omega)], by rw [h _ (by omega)], by rw [h _ (by omega)], by rw [h _ (by omega)], by rw [h _ (by omega)], by rw [h _ (by omega)], by rw [h _ (by omega)], by rw [h _ (by omega)]⟩
/-! small questions -/
theorem sw_dich {n : Nat} (hn : n < 2 ^ 31) (x : Int32) : (∃ k, k < n ∧ x = nI k) ∨ (x < 0 ∨ nI n ≤ x) := by
  by_cases h0 : x < 0
  · exact .inr (.inl h0)
  · by_cases h : nI n ≤ x
    · exact .inr (.inr h)
    · exact .inl (ax_of_in (Int32.not_lt.mp h0) (Int32.not_le.mp h) hn)
theorem sw_lo1 {n : Nat} {x : Int32} (hn : n < 2 ^ 31) (h : x < 0 ∨ nI n ≤ x) : (decide (0 ≤ x) && decide (x ≤ nI n - 1)) = false := by
  rcases h with h | h
  · rw [decide_eq_false (Int32.not_le.mpr h), Bool.false_and]
  · by_cases h0 : n = 0
    · subst h0
      by_cases q : (0 : Int32) ≤ x
      · have : ¬ x ≤ nI 0 - 1 := fun z => absurd (Int32.le_trans q z) (by decide)
        rw [decide_eq_false this, Bool.and_false]
      · rw [decide_eq_false q, Bool.false_and]
    · have : ¬ x ≤ nI n - 1 := by
        rw [ax_nI_s1 (by omega), Int32.not_le]
        exact Int32.lt_of_lt_of_le ((nI_ltI (by omega) (by omega)).mpr (by omega)) h
      rw [decide_eq_false this, Bool.and_false]
theorem rf_in_k {d k n : Nat} {b : Int32} {I : ax_I} {L : ax_J} {K : Int32 → ax_I → ax_J → Prop} (hn : n < 2 ^ 31) (hb : b = nI n - 1) (hk : k < n) (hK : K 1 I L) : ax_CI (d + 1) 149 [ax_vi (nI k), ax_vi 0, ax_vi b] I L K := by
  refine rf_in ?_
  rw [hb, ax_nI_s1 (by omega), decide_eq_true (show (0 : Int32) ≤ nI k from nI_pos' (by omega)), decide_eq_true ((nI_leI (by omega) (by omega)).mpr (by omega))]
  exact hK
theorem rf_in_no {d n : Nat} {x b : Int32} {I : ax_I} {L : ax_J} {K : Int32 → ax_I → ax_J → Prop} (hn : n < 2 ^ 31) (hb : b = nI n - 1) (hk : x < 0 ∨ nI n ≤ x) (hK : K 0 I L) : ax_CI (d + 1) 149 [ax_vi x, ax_vi 0, ax_vi b] I L K := by
  refine rf_in ?_
  rw [hb, sw_lo1 hn hk]
  exact hK
theorem cl_isRow_k {d k : Nat} {I : ax_I} {L : ax_J} {K : Int32 → ax_I → ax_J → Prop} (hk : k < 6) (hK : K 1 I L) : ax_CI (d + 1) 132 [ax_vi (nI k)] I L K := by
  apply vc_X8_isRow
  simp (disch := omega) only [Bool.not_eq_false, Bool.not_eq_true, decide_eq_true_eq, decide_eq_false_iff_not, Bool.not_eq_true', Bool.not_eq_false', ax_lle, ax_llt, ax_lel, ax_ltl, ax_leq, ax_eql, ax_clampl, ax_inb_iff, nI_clamp, nI_1, nI_leI, nI_ltI, nI_eq, ax_b0, ax_b1, ax_bitb, ax_ui_eq, ax_ui_ne, true_and, and_true]
  exact ⟨fun h => by omega, fun _ => ⟨fun h => by omega, fun _ => ⟨by decide, hK⟩⟩⟩
theorem cl_isRow_no {d : Nat} {x : Int32} {I : ax_I} {L : ax_J} {K : Int32 → ax_I → ax_J → Prop} (hk : x < 0 ∨ nI 6 ≤ x) (hK : K 0 I L) : ax_CI (d + 1) 132 [ax_vi x] I L K := by
  apply vc_X8_isRow
  refine ax_if (fun _ => ⟨by decide, hK⟩) (fun h => ax_if (fun _ => ⟨by decide, hK⟩) (fun h2 => ?_))
  rcases hk with q | q
  · exact absurd q h
  · exact absurd q h2
theorem cl_isText_k {d k : Nat} {I : ax_I} {L : ax_J} {K : Int32 → ax_I → ax_J → Prop} (hk : k < 4) (hK : K 1 I L) : ax_CI (d + 1) 133 [ax_vi (nI k)] I L K := by
  apply vc_X8_isText
  simp (disch := omega) only [Bool.not_eq_false, Bool.not_eq_true, decide_eq_true_eq, decide_eq_false_iff_not, Bool.not_eq_true', Bool.not_eq_false', ax_lle, ax_llt, ax_lel, ax_ltl, ax_leq, ax_eql, ax_clampl, ax_inb_iff, nI_clamp, nI_1, nI_leI, nI_ltI, nI_eq, ax_b0, ax_b1, ax_bitb, ax_ui_eq, ax_ui_ne, true_and, and_true]
  exact ⟨fun h => by omega, fun _ => ⟨fun h => by omega, fun _ => ⟨by decide, hK⟩⟩⟩
theorem cl_isText_no {d : Nat} {x : Int32} {I : ax_I} {L : ax_J} {K : Int32 → ax_I → ax_J → Prop} (hk : x < 0 ∨ nI 4 ≤ x) (hK : K 0 I L) : ax_CI (d + 1) 133 [ax_vi x] I L K := by
  apply vc_X8_isText
  refine ax_if (fun _ => ⟨by decide, hK⟩) (fun h => ax_if (fun _ => ⟨by decide, hK⟩) (fun h2 => ?_))
  rcases hk with q | q
  · exact absurd q h
  · exact absurd q h2
theorem cl_isPlace_k {d k : Nat} {I : ax_I} {L : ax_J} {K : Int32 → ax_I → ax_J → Prop} (hk : k < 3) (hK : K 1 I L) : ax_CI (d + 1) 134 [ax_vi (nI k)] I L K := by
  apply vc_X8_isPlace
  simp (disch := omega) only [Bool.not_eq_false, Bool.not_eq_true, decide_eq_true_eq, decide_eq_false_iff_not, Bool.not_eq_true', Bool.not_eq_false', ax_lle, ax_llt, ax_lel, ax_ltl, ax_leq, ax_eql, ax_clampl, ax_inb_iff, nI_clamp, nI_1, nI_leI, nI_ltI, nI_eq, ax_b0, ax_b1, ax_bitb, ax_ui_eq, ax_ui_ne, true_and, and_true]
  exact ⟨fun h => by omega, fun _ => ⟨fun h => by omega, fun _ => ⟨by decide, hK⟩⟩⟩
theorem cl_isPlace_no {d : Nat} {x : Int32} {I : ax_I} {L : ax_J} {K : Int32 → ax_I → ax_J → Prop} (hk : x < 0 ∨ nI 3 ≤ x) (hK : K 0 I L) : ax_CI (d + 1) 134 [ax_vi x] I L K := by
  apply vc_X8_isPlace
  refine ax_if (fun _ => ⟨by decide, hK⟩) (fun h => ax_if (fun _ => ⟨by decide, hK⟩) (fun h2 => ?_))
  rcases hk with q | q
  · exact absurd q h
  · exact absurd q h2
theorem cl_hasOne_k {d o N k : Nat} {I : ax_I} {L : ax_J} {K : Int32 → ax_I → ax_J → Prop} (hN : I o 0 = nI N) (hN2 : N < 2 ^ 31) (hk : k < N) (hK : K 1 I L) : ax_CI (d + 1) 80 [ax_vr 7 0 o, ax_vi (nI k)] I L K := by
  refine cl_hasOne hN ?_
  rw [decide_eq_true (show (0 : Int32) ≤ nI k from nI_pos' (by omega)), decide_eq_true ((nI_ltI (by omega) (by omega)).mpr hk)]
  exact hK
theorem cl_hasOne_no {d o N : Nat} {x : Int32} {I : ax_I} {L : ax_J} {K : Int32 → ax_I → ax_J → Prop} (hN : I o 0 = nI N) (hk : x < 0 ∨ nI N ≤ x) (hK : K 0 I L) : ax_CI (d + 1) 80 [ax_vr 7 0 o, ax_vi x] I L K := by
  refine cl_hasOne hN ?_
  have : (decide (0 ≤ x) && decide (x < nI N)) = false := by
    rcases hk with h | h
    · rw [decide_eq_false (Int32.not_le.mpr h), Bool.false_and]
    · rw [decide_eq_false (Int32.not_lt.mpr h), Bool.and_false]
  rw [this]; exact hK
theorem cl_hasThing_k {d o T k : Nat} {I : ax_I} {L : ax_J} {K : Int32 → ax_I → ax_J → Prop} (hN : I o 1 = nI T) (hN2 : T < 2 ^ 31) (hk : k < T) (hK : K 1 I L) : ax_CI (d + 1) 81 [ax_vr 7 0 o, ax_vi (nI k)] I L K := by
  refine cl_hasThing hN ?_
  rw [decide_eq_true (show (0 : Int32) ≤ nI k from nI_pos' (by omega)), decide_eq_true ((nI_ltI (by omega) (by omega)).mpr hk)]
  exact hK
theorem cl_hasThing_no {d o T : Nat} {x : Int32} {I : ax_I} {L : ax_J} {K : Int32 → ax_I → ax_J → Prop} (hN : I o 1 = nI T) (hk : x < 0 ∨ nI T ≤ x) (hK : K 0 I L) : ax_CI (d + 1) 81 [ax_vr 7 0 o, ax_vi x] I L K := by
  refine cl_hasThing hN ?_
  have : (decide (0 ≤ x) && decide (x < nI T)) = false := by
    rcases hk with h | h
    · rw [decide_eq_false (Int32.not_le.mpr h), Bool.false_and]
    · rw [decide_eq_false (Int32.not_lt.mpr h), Bool.and_false]
  rw [this]; exact hK
theorem rf_isRow_k {d k : Nat} {I : ax_I} {L : ax_J} {K : Int32 → ax_I → ax_J → Prop} (hk : k < 6) (hK : K 1 I L) : ax_CI (d + 2) 160 [ax_vi (nI k)] I L K := by
  apply vc_X9_isRow
  exact rf_in_k (n := 6) (by omega) (by decide) hk ⟨by decide, hK⟩
theorem rf_isRow_no {d : Nat} {x : Int32} {I : ax_I} {L : ax_J} {K : Int32 → ax_I → ax_J → Prop} (hk : x < 0 ∨ nI 6 ≤ x) (hK : K 0 I L) : ax_CI (d + 2) 160 [ax_vi x] I L K := by
  apply vc_X9_isRow
  exact rf_in_no (n := 6) (by omega) (by decide) hk ⟨by decide, hK⟩
theorem rf_isText_k {d k : Nat} {I : ax_I} {L : ax_J} {K : Int32 → ax_I → ax_J → Prop} (hk : k < 4) (hK : K 1 I L) : ax_CI (d + 2) 168 [ax_vi (nI k)] I L K := by
  apply vc_X9_isText
  exact rf_in_k (n := 4) (by omega) (by decide) hk ⟨by decide, hK⟩
theorem rf_isText_no {d : Nat} {x : Int32} {I : ax_I} {L : ax_J} {K : Int32 → ax_I → ax_J → Prop} (hk : x < 0 ∨ nI 4 ≤ x) (hK : K 0 I L) : ax_CI (d + 2) 168 [ax_vi x] I L K := by
  apply vc_X9_isText
  exact rf_in_no (n := 4) (by omega) (by decide) hk ⟨by decide, hK⟩
theorem rf_isOne_k {d N k : Nat} {I : ax_I} {L : ax_J} {K : Int32 → ax_I → ax_J → Prop} (hN : I 184 10 = nI N) (hN2 : N ≤ 6) (hk : k < N) (hK : K 1 I L) : ax_CI (d + 2) 182 [ax_vr 9 0 184, ax_vi (nI k)] I L K := by
  apply vc_X9_isOne
  exact rf_in_k (n := N) (by omega) (by rw [hN]) hk ⟨by decide, hK⟩
theorem rf_isOne_no {d N : Nat} {x : Int32} {I : ax_I} {L : ax_J} {K : Int32 → ax_I → ax_J → Prop} (hN : I 184 10 = nI N) (hN2 : N ≤ 6) (hk : x < 0 ∨ nI N ≤ x) (hK : K 0 I L) : ax_CI (d + 2) 182 [ax_vr 9 0 184, ax_vi x] I L K := by
  apply vc_X9_isOne
  exact rf_in_no (n := N) (by omega) (by rw [hN]) hk ⟨by decide, hK⟩
theorem rf_isThing_k {d T k : Nat} {I : ax_I} {L : ax_J} {K : Int32 → ax_I → ax_J → Prop} (hN : I 184 11 = nI T) (hN2 : T ≤ 6) (hk : k < T) (hK : K 1 I L) : ax_CI (d + 2) 183 [ax_vr 9 0 184, ax_vi (nI k)] I L K := by
  apply vc_X9_isThing
  exact rf_in_k (n := T) (by omega) (by rw [hN]) hk ⟨by decide, hK⟩
theorem rf_isThing_no {d T : Nat} {x : Int32} {I : ax_I} {L : ax_J} {K : Int32 → ax_I → ax_J → Prop} (hN : I 184 11 = nI T) (hN2 : T ≤ 6) (hk : x < 0 ∨ nI T ≤ x) (hK : K 0 I L) : ax_CI (d + 2) 183 [ax_vr 9 0 184, ax_vi x] I L K := by
  apply vc_X9_isThing
  exact rf_in_no (n := T) (by omega) (by rw [hN]) hk ⟨by decide, hK⟩
/-! a FINDING on both sides -/
def sw_fC (I : ax_I) (f : Nat) : ax_I := ax_ui (ax_ui I 3 12 (nI f)) 118 f (I 118 f + 1)
def sw_fR (I : ax_I) (f : Nat) : ax_I := ax_ui (ax_ui I 184 0 (nI f)) 185 f (I 185 f + 1)
theorem cl_find {d f : Nat} {I : ax_I} {L : ax_J} {K : Int32 → ax_I → ax_J → Prop} (hf : f < 6) (hK : K (-3) (sw_fC I f) L) : ax_CI (d + 1) 135 [ax_vr 8 0 3, ax_vi (nI f)] I L K := by
  apply vc_X8_find
  simp (disch := omega) only [Bool.not_eq_false, Bool.not_eq_true, decide_eq_true_eq, decide_eq_false_iff_not, Bool.not_eq_true', Bool.not_eq_false', ax_lle, ax_llt, ax_lel, ax_ltl, ax_leq, ax_eql, ax_clampl, ax_inb_iff, nI_clamp, nI_1, nI_leI, nI_ltI, nI_eq, ax_b0, ax_b1, ax_bitb, ax_ui_eq, ax_ui_ne, true_and, and_true, ax_ui_ne]
  exact ⟨by omega, by omega, hK⟩
theorem rf_meets {d f : Nat} {I : ax_I} {L : ax_J} {K : Int32 → ax_I → ax_J → Prop} (hf : f < 6) (hK : K (-3) (sw_fR I f) L) : ax_CI (d + 1) 152 [ax_vr 9 0 184, ax_vi (nI f)] I L K := by
  apply vc_X9_meets
  simp (disch := omega) only [Bool.not_eq_false, Bool.not_eq_true, decide_eq_true_eq, decide_eq_false_iff_not, Bool.not_eq_true', Bool.not_eq_false', ax_lle, ax_llt, ax_lel, ax_ltl, ax_leq, ax_eql, ax_clampl, ax_inb_iff, nI_clamp, nI_1, nI_leI, nI_ltI, nI_eq, ax_b0, ax_b1, ax_bitb, ax_ui_eq, ax_ui_ne, true_and, and_true, ax_ui_ne]
  exact ⟨by omega, by omega, hK⟩
theorem sw_RR.find {I : ax_I} {L : ax_J} {f : Nat} (h : sw_RR I L) (hf : f < 6) : sw_RR (sw_fR (sw_fC I f) f) L := by
  obtain ⟨N, T, kd, tl, un, W, es, h1, h2, h3, h4⟩ := h
  have hf1 : ∀ a, ¬ a = 3 → ¬ a = 118 → ¬ a = 184 → ¬ a = 185 → sw_fR (sw_fC I f) f a = I a := by
    intro a q1 q2 q3 q4
    unfold sw_fR sw_fC
    rw [ax_ui_row q4, ax_ui_row q3, ax_ui_row q2, ax_ui_row q1]
  have h184 : ∀ b, ¬ b = 0 → sw_fR (sw_fC I f) f 184 b = I 184 b := by
    intro b hb
    unfold sw_fR sw_fC
    rw [ax_ui_ne (by omega), ax_ui_ne (by omega), ax_ui_ne (by omega), ax_ui_ne (by omega)]
  refine ⟨N, T, kd, tl, un, W, es, h1.frame (fun a q => hf1 a (by omega) (by omega) (by omega) (by omega)) (h184 _ (by omega)) (h184 _ (by omega)) (h184 _ (by omega)) (fun b _ => by rw [hf1 199 (by omega) (by omega) (by omega) (by omega)]), fun k hk => (h2 k hk).frame hk (fun a q => hf1 a (by omega) (by omega) (by omega) (by omega)), h3.frame (fun a q => hf1 a (by omega) (by omega) (by omega) (by omega)), ?_⟩
  obtain ⟨m1, m2, m3, m4, m5⟩ := h4
  refine ⟨?_, ?_, ?_, m4, m5⟩
  · unfold sw_fR sw_fC
    rw [ax_ui_ne (by omega), ax_ui_ne (by omega), ax_ui_ne (by omega), ax_ui_eq, ax_ui_ne (by omega), ax_ui_eq]
  · intro g hg
    unfold sw_fR sw_fC
    by_cases e : g = f
    · subst e
      rw [ax_ui_ne (by omega), ax_ui_ne (by omega), ax_ui_eq, ax_ui_eq, ax_ui_ne (by omega), ax_ui_ne (by omega), m2 g hg]
    · rw [ax_ui_ne (by omega), ax_ui_ne (by omega), ax_ui_ne (by omega), ax_ui_ne (by omega), ax_ui_ne (by omega), ax_ui_ne (by omega), ax_ui_ne (by omega), ax_ui_ne (by omega)]; exact m2 g hg
  · rw [h184 _ (by omega)]
    unfold sw_fR sw_fC
    rw [ax_ui_ne (by omega), ax_ui_ne (by omega), ax_ui_ne (by omega), ax_ui_ne (by omega)]; exact m3
/-- told on both sides -/
theorem sw_RR.tell {I : ax_I} {L : ax_J} {v : Int32} (h : sw_RR I L) : sw_RR (ax_ui (ax_ui I 3 13 v) 184 2 v) L := by
  obtain ⟨N, T, kd, tl, un, W, es, h1, h2, h3, h4⟩ := h
  have hf1 : ∀ a, ¬ a = 3 → ¬ a = 184 → ax_ui (ax_ui I 3 13 v) 184 2 v a = I a := by
    intro a q1 q3
    rw [ax_ui_row q3, ax_ui_row q1]
  have h184 : ∀ b, ¬ b = 2 → ax_ui (ax_ui I 3 13 v) 184 2 v 184 b = I 184 b := by
    intro b hb
    rw [ax_ui_ne (by omega), ax_ui_ne (by omega)]
  refine ⟨N, T, kd, tl, un, W, es, h1.frame (fun a q => hf1 a (by omega) (by omega)) (h184 _ (by omega)) (h184 _ (by omega)) (h184 _ (by omega)) (fun b _ => by rw [hf1 199 (by omega) (by omega)]), fun k hk => (h2 k hk).frame hk (fun a q => hf1 a (by omega) (by omega)), h3.frame (fun a q => hf1 a (by omega) (by omega)), ?_⟩
  obtain ⟨m1, m2, m3, m4, m5⟩ := h4
  refine ⟨?_, ?_, ?_, m4, m5⟩
  · rw [ax_ui_ne (by omega), ax_ui_ne (by omega), ax_ui_ne (by omega), ax_ui_ne (by omega)]; exact m1
  · intro g hg
    rw [ax_ui_ne (by omega), ax_ui_ne (by omega), ax_ui_ne (by omega), ax_ui_ne (by omega)]; exact m2 g hg
  · rw [ax_ui_ne (by omega), ax_ui_eq, ax_ui_eq]
