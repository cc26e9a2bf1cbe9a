/-! ROWS and TEXTS: lines that change -/
def sw_SK (I I' : ax_I) : Prop := (∀ b, b < 31 → I' 199 b = I 199 b) ∧ I' 184 10 = I 184 10 ∧ I' 184 11 = I 184 11 ∧ I' 184 27 = I 184 27
theorem sw_SK.refl {I : ax_I} : sw_SK I I := ⟨fun _ _ => rfl, rfl, rfl, rfl⟩
theorem sw_SK.trans {I I1 I2 : ax_I} (h1 : sw_SK I I1) (h2 : sw_SK I1 I2) : sw_SK I I2 := ⟨fun b hb => (h2.1 b hb).trans (h1.1 b hb), h2.2.1.trans h1.2.1, h2.2.2.1.trans h1.2.2.1, h2.2.2.2.trans h1.2.2.2⟩
theorem sw_SK.ui {I I' : ax_I} (h : sw_SK I I') {o k : Nat} {v : Int32} (h1 : ¬ o = 199 ∨ 31 ≤ k) (h2 : ¬ o = 184 ∨ (¬ k = 10 ∧ ¬ k = 11 ∧ ¬ k = 27)) : sw_SK I (ax_ui I' o k v) :=
  ⟨fun b hb => by rw [ax_ui_ne (by omega)]; exact h.1 b hb, by rw [ax_ui_ne (by omega)]; exact h.2.1, by rw [ax_ui_ne (by omega)]; exact h.2.2.1, by rw [ax_ui_ne (by omega)]; exact h.2.2.2⟩
theorem sw_SK.of {I I' : ax_I} {lo hi : Nat} (h : ax_FR lo hi I I') (h2 : hi ≤ 183 ∨ 200 ≤ lo ∨ (185 ≤ lo ∧ hi ≤ 198)) : sw_SK I I' :=
  ⟨fun b hb => by rw [h _ (by omega)], by rw [h _ (by omega)], by rw [h _ (by omega)], by rw [h _ (by omega)]⟩
theorem sw_SK.lo {I I' : ax_I} {k : Nat} (h : ax_FR 199 199 I I') (h2 : sw_LO k I I') : sw_SK I I' :=
  ⟨fun b hb => h2 b (by omega), by rw [h _ (by omega)], by rw [h _ (by omega)], by rw [h _ (by omega)]⟩
theorem sw_RR.line {I I' : ax_I} {L L' : ax_J} {r : Nat} (h : sw_RR I L) (hr : r < 6) (hL : sw_L1 I' (4 + (115 + 2 * r)) 40 186 r 187) (hf : ∀ a, ((1 ≤ a ∧ a ≤ 2) ∨ (6 ≤ a ∧ a ≤ 24) ∨ a = 26 ∨ (119 ≤ a ∧ a ≤ 183) ∨ (189 ≤ a ∧ a ≤ 194) ∨ (200 ≤ a ∧ a ≤ 207)) → ¬ a = 4 + (115 + 2 * r) → ¬ a = 4 + (115 + 2 * r) + 1 → I' a = I a) (hk : sw_SK I I') (h186 : ∀ b, ¬ b = r → I' 186 b = I 186 b) (h187 : ∀ b, b < 40 * r ∨ 40 * r + 40 ≤ b → I' 187 b = I 187 b) (hM : sw_MS I' L') : sw_RR I' L' := by
  obtain ⟨N, T, kd, tl, un, W, es, h1, h2, h3, h4⟩ := h
  obtain ⟨k1, k2, k3, k4⟩ := hk
  refine ⟨N, T, kd, tl, un, W, es, h1.frame (fun a q => hf a (by omega) (by omega) (by omega)) k2 k3 k4 k1, fun k hk => (h2 k hk).frame hk (fun a q => hf a (by omega) (by omega) (by omega)), ⟨fun s hs => ?_, fun t ht => (h3.2 t ht).frame (hf _ (by omega) (by omega) (by omega)) (hf _ (by omega) (by omega) (by omega)) (hf _ (by omega) (by omega) (by omega)) (hf _ (by omega) (by omega) (by omega))⟩, hM⟩
  by_cases e : s = r
  · subst e; exact hL
  · obtain ⟨q1, q2⟩ := h3.1 s hs
    have e1 : I' (4 + (115 + 2 * s)) = I (4 + (115 + 2 * s)) := hf _ (by omega) (by omega) (by omega)
    have e2 : I' (4 + (115 + 2 * s) + 1) = I (4 + (115 + 2 * s) + 1) := hf _ (by omega) (by omega) (by omega)
    unfold sw_L1
    rw [e1, e2, h186 s e]
    refine ⟨q1, ?_⟩
    rcases q2 with q2 | ⟨n, n1, n2, n3⟩
    · exact .inl q2
    · refine .inr ⟨n, n1, n2, fun i hi => ?_⟩
      rw [h187 _ (by omega)]; exact n3 i hi
theorem sw_RR.tline {I I' : ax_I} {L L' : ax_J} {r : Nat} (h : sw_RR I L) (hr : r < 4) (hL : sw_L1 I' (5 + (126 + 2 * r)) 80 189 r 190) (hf : ∀ a, ((1 ≤ a ∧ a ≤ 2) ∨ (6 ≤ a ∧ a ≤ 24) ∨ a = 26 ∨ (119 ≤ a ∧ a ≤ 183) ∨ (186 ≤ a ∧ a ≤ 187) ∨ (191 ≤ a ∧ a ≤ 194) ∨ (200 ≤ a ∧ a ≤ 207)) → ¬ a = 5 + (126 + 2 * r) → ¬ a = 5 + (126 + 2 * r) + 1 → I' a = I a) (hk : sw_SK I I') (h186 : ∀ b, ¬ b = r → I' 189 b = I 189 b) (h187 : ∀ b, b < 80 * r ∨ 80 * r + 80 ≤ b → I' 190 b = I 190 b) (hM : sw_MS I' L') : sw_RR I' L' := by
  obtain ⟨N, T, kd, tl, un, W, es, h1, h2, h3, h4⟩ := h
  obtain ⟨k1, k2, k3, k4⟩ := hk
  refine ⟨N, T, kd, tl, un, W, es, h1.frame (fun a q => hf a (by omega) (by omega) (by omega)) k2 k3 k4 k1, fun k hk => (h2 k hk).frame hk (fun a q => hf a (by omega) (by omega) (by omega)), ⟨fun t ht => (h3.1 t ht).frame (hf _ (by omega) (by omega) (by omega)) (hf _ (by omega) (by omega) (by omega)) (hf _ (by omega) (by omega) (by omega)) (hf _ (by omega) (by omega) (by omega)), fun s hs => ?_⟩, hM⟩
  by_cases e : s = r
  · subst e; exact hL
  · obtain ⟨q1, q2⟩ := h3.2 s hs
    have e1 : I' (5 + (126 + 2 * s)) = I (5 + (126 + 2 * s)) := hf _ (by omega) (by omega) (by omega)
    have e2 : I' (5 + (126 + 2 * s) + 1) = I (5 + (126 + 2 * s) + 1) := hf _ (by omega) (by omega) (by omega)
    unfold sw_L1
    rw [e1, e2, h186 s e]
    refine ⟨q1, ?_⟩
    rcases q2 with q2 | ⟨n, n1, n2, n3⟩
    · exact .inl q2
    · refine .inr ⟨n, n1, n2, fun i hi => ?_⟩
      rw [h187 _ (by omega)]; exact n3 i hi
/-- nothing but what is told -/
theorem sw_RR.aside {I I' : ax_I} {L L' : ax_J} (h : sw_RR I L) (hf : ∀ a, ((1 ≤ a ∧ a ≤ 2) ∨ (6 ≤ a ∧ a ≤ 24) ∨ a = 26 ∨ (119 ≤ a ∧ a ≤ 183) ∨ (186 ≤ a ∧ a ≤ 187) ∨ (189 ≤ a ∧ a ≤ 194) ∨ (200 ≤ a ∧ a ≤ 207)) → I' a = I a) (hk : sw_SK I I') (hM : sw_MS I' L') : sw_RR I' L' := by
  obtain ⟨N, T, kd, tl, un, W, es, h1, h2, h3, h4⟩ := h
  obtain ⟨k1, k2, k3, k4⟩ := hk
  exact ⟨N, T, kd, tl, un, W, es, h1.frame (fun a q => hf a (by omega)) k2 k3 k4 k1, fun k hk => (h2 k hk).frame hk (fun a q => hf a (by omega)), h3.frame (fun a q => hf a (by omega)), hM⟩
theorem sw_RR.MS {I : ax_I} {L : ax_J} (h : sw_RR I L) : sw_MS I L := by
  obtain ⟨N, T, kd, tl, un, W, es, h1, h2, h3, h4⟩ := h
  exact h4
theorem sw_RR.LS {I : ax_I} {L : ax_J} (h : sw_RR I L) : sw_LS I := by
  obtain ⟨N, T, kd, tl, un, W, es, h1, h2, h3, h4⟩ := h
  exact h3
theorem sw_MS.told {I I' : ax_I} {L : ax_J} (h : sw_MS I L) (h1 : I' 3 12 = I 3 12) (h2 : I' 184 0 = I 184 0) (h3 : I' 118 = I 118) (h4 : I' 185 = I 185) (h5 : I' 3 13 = I' 184 2) : sw_MS I' L := by
  unfold sw_MS; rw [h1, h2, h3, h4]; exact ⟨h.1, h.2.1, h5, h.2.2.2⟩
/-- a row of the reference is laid anew, alike in all its places -/
theorem rf_rowLoop {d r n : Nat} {I : ax_I} {L : ax_J} {K : Int32 → ax_I → ax_J → Prop} (hr : r < 6) (hn : n ≤ 40) (hK : ∀ I', (∀ i, i < 40 → I' 187 (40 * r + i) = 0) → (∀ b, b < 40 * r ∨ 40 * r + 40 ≤ b → I' 187 b = I 187 b) → ax_FR 187 187 I I' → K (nI n) I' L) : ax_AK d 162 (34, [some (ax_vr 9 0 184), some (ax_vi (nI r)), some (ax_vi (nI n)), some (ax_vi 0)], [], ax_mm I L) (ax_ki K) := by
  suffices ∀ (j i : Nat) (I1 : ax_I), i + j = 40 → (∀ e, e < i → I1 187 (40 * r + e) = 0) → (∀ b, b < 40 * r ∨ 40 * r + 40 ≤ b → I1 187 b = I 187 b) → ax_FR 187 187 I I1 → ax_AK d 162 (34, [some (ax_vr 9 0 184), some (ax_vi (nI r)), some (ax_vi (nI n)), some (ax_vi (nI i))], [], ax_mm I1 L) (ax_ki K) from this 40 0 I (by omega) (fun e he => by omega) (fun _ _ => rfl) ax_FR.refl
  intro j
  induction j with
  | zero =>
    intro i I1 hi h1 h2 h3
    apply vc_X9_row_34
    simp (disch := omega) only [Bool.not_eq_false, Bool.not_eq_true, decide_eq_true_eq, decide_eq_false_iff_not, Bool.not_eq_true', Bool.not_eq_false', ax_lle, ax_llt, ax_lel, ax_ltl, ax_leq, ax_eql, ax_clampl, ax_inb_iff, nI_clamp, nI_1, nI_leI, nI_ltI, nI_eq, ax_b0, ax_b1, ax_bitb, ax_ui_eq, ax_ui_ne, true_and, and_true]
    exact ⟨fun _ => hK I1 (fun e he => h1 e (by omega)) h2 h3, fun h => by omega⟩
  | succ j ih =>
    intro i I1 hi h1 h2 h3
    apply vc_X9_row_34
    simp (disch := omega) only [Bool.not_eq_false, Bool.not_eq_true, decide_eq_true_eq, decide_eq_false_iff_not, Bool.not_eq_true', Bool.not_eq_false', ax_lle, ax_llt, ax_lel, ax_ltl, ax_leq, ax_eql, ax_clampl, ax_inb_iff, nI_clamp, nI_1, nI_leI, nI_ltI, nI_eq, ax_b0, ax_b1, ax_bitb, ax_ui_eq, ax_ui_ne, true_and, and_true, ax_lmul, nI_add]
    refine ⟨fun h => by omega, fun _ => ⟨by omega, ih _ _ (by omega) ?_ ?_ (h3.ui (by omega) (by omega))⟩⟩
    · intro e he
      by_cases q : e = i
      · subst q; exact ax_ui_eq
      · rw [ax_ui_ne (by omega)]; exact h1 e (by omega)
    · intro b hb; rw [ax_ui_ne (by omega)]; exact h2 b hb
theorem rf_textLoop {d r n : Nat} {I : ax_I} {L : ax_J} {K : Int32 → ax_I → ax_J → Prop} (hr : r < 4) (hn : n ≤ 80) (hK : ∀ I', (∀ i, i < 80 → I' 190 (80 * r + i) = 32) → (∀ b, b < 80 * r ∨ 80 * r + 80 ≤ b → I' 190 b = I 190 b) → ax_FR 190 190 I I' → K (nI n) I' L) : ax_AK d 169 (34, [some (ax_vr 9 0 184), some (ax_vi (nI r)), some (ax_vi (nI n)), some (ax_vi 0)], [], ax_mm I L) (ax_ki K) := by
  suffices ∀ (j i : Nat) (I1 : ax_I), i + j = 80 → (∀ e, e < i → I1 190 (80 * r + e) = 32) → (∀ b, b < 80 * r ∨ 80 * r + 80 ≤ b → I1 190 b = I 190 b) → ax_FR 190 190 I I1 → ax_AK d 169 (34, [some (ax_vr 9 0 184), some (ax_vi (nI r)), some (ax_vi (nI n)), some (ax_vi (nI i))], [], ax_mm I1 L) (ax_ki K) from this 80 0 I (by omega) (fun e he => by omega) (fun _ _ => rfl) ax_FR.refl
  intro j
  induction j with
  | zero =>
    intro i I1 hi h1 h2 h3
    apply vc_X9_text_34
    simp (disch := omega) only [Bool.not_eq_false, Bool.not_eq_true, decide_eq_true_eq, decide_eq_false_iff_not, Bool.not_eq_true', Bool.not_eq_false', ax_lle, ax_llt, ax_lel, ax_ltl, ax_leq, ax_eql, ax_clampl, ax_inb_iff, nI_clamp, nI_1, nI_leI, nI_ltI, nI_eq, ax_b0, ax_b1, ax_bitb, ax_ui_eq, ax_ui_ne, true_and, and_true]
    exact ⟨fun _ => hK I1 (fun e he => h1 e (by omega)) h2 h3, fun h => by omega⟩
  | succ j ih =>
    intro i I1 hi h1 h2 h3
    apply vc_X9_text_34
    rw [show (32 : Int32).toInt8.toInt32 = 32 from by decide]
    simp (disch := omega) only [Bool.not_eq_false, Bool.not_eq_true, decide_eq_true_eq, decide_eq_false_iff_not, Bool.not_eq_true', Bool.not_eq_false', ax_lle, ax_llt, ax_lel, ax_ltl, ax_leq, ax_eql, ax_clampl, ax_inb_iff, nI_clamp, nI_1, nI_leI, nI_ltI, nI_eq, ax_b0, ax_b1, ax_bitb, ax_ui_eq, ax_ui_ne, true_and, and_true, ax_lmul, nI_add]
    refine ⟨fun h => by omega, fun _ => ⟨by omega, ih _ _ (by omega) ?_ ?_ (h3.ui (by omega) (by omega))⟩⟩
    · intro e he
      by_cases q : e = i
      · subst q; exact ax_ui_eq
      · rw [ax_ui_ne (by omega)]; exact h1 e (by omega)
    · intro b hb; rw [ax_ui_ne (by omega)]; exact h2 b hb
theorem op_row {I : ax_I} {L : ax_J} (h : sw_RR I L) (a b : Int32) : sw_OP 90 162 [ax_vi a, ax_vi b] I L := by
  intro d
  apply vc_X8_row
  apply vc_X8_lineAnewR
  rcases sw_dich (n := 6) (by omega) a with ⟨r, hr, rfl⟩ | ha
  · have hs : (∃ n, n < 41 ∧ b = nI n) ∨ (b < 0 ∨ nI 41 ≤ b) := sw_dich (by omega) b
    simp (disch := omega) only [Bool.not_eq_false, Bool.not_eq_true, decide_eq_true_eq, decide_eq_false_iff_not, Bool.not_eq_true', Bool.not_eq_false', ax_lle, ax_llt, ax_lel, ax_ltl, ax_leq, ax_eql, ax_clampl, ax_inb_iff, nI_clamp, nI_1, nI_leI, nI_ltI, nI_eq, ax_b0, ax_b1, ax_bitb, ax_ui_eq, ax_ui_ne, true_and, and_true]
    refine ⟨fun h => by omega, fun _ => ⟨fun h => by omega, fun _ => ⟨by omega, fun h40 => ⟨fun h0 => ⟨by omega, ?_⟩, fun h0 => ?_⟩, fun h40 => ?_⟩⟩⟩
    · obtain ⟨n, hn, rfl⟩ := ax_of_le h0 h40 (by omega)
      refine cl_makeAnew (by omega) (by omega) (fun I1 m1 v1 f1 => ?_)
      apply vc_X9_row
      refine rf_isRow_k hr ?_
      simp (disch := omega) only [Bool.not_eq_false, Bool.not_eq_true, decide_eq_true_eq, decide_eq_false_iff_not, Bool.not_eq_true', Bool.not_eq_false', ax_lle, ax_llt, ax_lel, ax_ltl, ax_leq, ax_eql, ax_clampl, ax_inb_iff, nI_clamp, nI_1, nI_leI, nI_ltI, nI_eq, ax_b0, ax_b1, ax_bitb, ax_ui_eq, ax_ui_ne, true_and, and_true]
      refine ⟨fun h => absurd h (by decide), fun _ => ⟨fun _ => ⟨fun _ => ⟨by omega, ?_⟩, fun h => by omega⟩, fun h => by omega⟩⟩
      refine rf_rowLoop hr hn (fun I2 z2 k2 f2 => ⟨rfl, ?_⟩)
      have fall : ∀ a, ¬ a = 4 + (115 + 2 * r) → ¬ a = 4 + (115 + 2 * r) + 1 → ¬ a = 186 → ¬ a = 187 → I2 a = I a := fun a q1 q2 q3 q4 => by rw [f2 a (by omega), ax_ui_row q3, f1 a (by omega)]
      refine h.line hr ⟨?_, .inr ⟨n, hn, ?_, fun i hi => ?_⟩⟩ (fun a q1 q2 q3 => fall a q2 q3 (by omega) (by omega)) ⟨fun b _ => by rw [fall _ (by omega) (by omega) (by omega) (by omega)], by rw [fall _ (by omega) (by omega) (by omega) (by omega)], by rw [fall _ (by omega) (by omega) (by omega) (by omega)], by rw [fall _ (by omega) (by omega) (by omega) (by omega)]⟩ (fun b hb => ?_) (fun b hb => ?_) (h.MS.frame (by rw [fall _ (by omega) (by omega) (by omega) (by omega)]) (by rw [fall _ (by omega) (by omega) (by omega) (by omega)]) (fall _ (by omega) (by omega) (by omega) (by omega)) (fall _ (by omega) (by omega) (by omega) (by omega)) (by rw [fall _ (by omega) (by omega) (by omega) (by omega)]) (by rw [fall _ (by omega) (by omega) (by omega) (by omega)]))
      · rw [f2 _ (by omega), f2 _ (by omega), ax_ui_eq, ax_ui_ne (by omega), m1]
      · rw [f2 _ (by omega), ax_ui_ne (by omega), m1]
      · rw [z2 i (by omega), f2 _ (by omega), ax_ui_ne (by omega), v1 i hi]
      · rw [f2 _ (by omega), ax_ui_ne (by omega), f1 _ (by omega)]
      · rw [k2 b hb, ax_ui_ne (by omega), f1 _ (by omega)]
    · refine cl_find (f := 5) (by omega) ?_
      apply vc_X9_row
      refine rf_isRow_k hr ?_
      simp (disch := omega) only [Bool.not_eq_false, Bool.not_eq_true, decide_eq_true_eq, decide_eq_false_iff_not, Bool.not_eq_true', Bool.not_eq_false', ax_lle, ax_llt, ax_lel, ax_ltl, ax_leq, ax_eql, ax_clampl, ax_inb_iff, nI_clamp, nI_1, nI_leI, nI_ltI, nI_eq, ax_b0, ax_b1, ax_bitb, ax_ui_eq, ax_ui_ne, true_and, and_true]
      refine ⟨fun h => absurd h (by decide), fun _ => ⟨fun _ => ⟨fun z => absurd z h0, fun _ => ?_⟩, fun z => absurd h40 z⟩⟩
      exact rf_meets (f := 5) (by omega) ⟨rfl, h.find (by omega)⟩
    · apply vc_X9_row
      refine rf_isRow_k hr ?_
      simp (disch := omega) only [Bool.not_eq_false, Bool.not_eq_true, decide_eq_true_eq, decide_eq_false_iff_not, Bool.not_eq_true', Bool.not_eq_false', ax_lle, ax_llt, ax_lel, ax_ltl, ax_leq, ax_eql, ax_clampl, ax_inb_iff, nI_clamp, nI_1, nI_leI, nI_ltI, nI_eq, ax_b0, ax_b1, ax_bitb, ax_ui_eq, ax_ui_ne, true_and, and_true]
      exact ⟨fun h => absurd h (by decide), fun _ => ⟨fun z => absurd z h40, fun _ => h⟩⟩
  · have fin : ax_CI (d + 30) 162 [ax_vr 9 0 184, ax_vi a, ax_vi b] I L (fun b I2 L2 => (-1 : Int32) = b ∧ sw_RR I2 L2) := by
      apply vc_X9_row
      refine rf_isRow_no ha ?_
      simp (disch := omega) only [Bool.not_eq_false, Bool.not_eq_true, decide_eq_true_eq, decide_eq_false_iff_not, Bool.not_eq_true', Bool.not_eq_false', ax_lle, ax_llt, ax_lel, ax_ltl, ax_leq, ax_eql, ax_clampl, ax_inb_iff, nI_clamp, nI_1, nI_leI, nI_ltI, nI_eq, ax_b0, ax_b1, ax_bitb, ax_ui_eq, ax_ui_ne, true_and, and_true]
      exact ⟨fun _ => h, fun z => absurd trivial z⟩
    refine ax_if (fun _ => fin) (fun h0 => ax_if (fun _ => fin) (fun h6 => ?_))
    rcases ha with q | q
    · exact absurd q h0
    · exact absurd q h6
