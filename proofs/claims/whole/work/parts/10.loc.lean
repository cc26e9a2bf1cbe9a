/-! locals -/
def ax_LK (G : ax_G) (ls : ax_L) (la : Array Slot) : Prop := la.size = ls.length ∧ lv_wf la ∧ ∀ (i : Nat) (v : ax_V), ls[i]? = some (some v) → la[i]? = some (.val (ax_cv G v))
def ax_prs (G : ax_G) (ls : ax_L) : List (Nat × Value) := (List.range ls.length).filterMap (fun i => match ls[i]? with | some (some v) => some (i, ax_cv G v) | _ => none)
theorem ax_LK.has {G : ax_G} {ls : ax_L} {la : Array Slot} (h : ax_LK G ls la) : lv_has la ls.length (ax_prs G ls) := by
  refine ⟨h.1, h.2.1, fun q hq => ?_⟩
  obtain ⟨i, -, e⟩ := List.mem_filterMap.mp hq
  split at e
  · rename_i v hv
    cases e
    exact h.2.2 i v hv
  · cases e
theorem ax_prs_mem {G : ax_G} {ls : ax_L} {i : Nat} {v : ax_V} (h : ls[i]? = some (some v)) : (i, ax_cv G v) ∈ ax_prs G ls := by
  refine List.mem_filterMap.mpr ⟨i, List.mem_range.mpr (List.getElem?_eq_some_iff.mp h).1, ?_⟩
  rw [h]
theorem ax_k1_len (ls : ax_L) (i : Nat) : (ax_k1 ls i).length = ls.length := by
  cases i with
  | zero => rfl
  | succ j =>
    show (match ls[j]? with | some (some (.inr (.inl _))) => ls.set j none | _ => ls).length = ls.length
    split
    · simp
    · rfl
theorem ax_k1_at {ls : ax_L} {i j : Nat} {w : ax_V} (h : (ax_k1 ls i)[j]? = some (some w)) : ls[j]? = some (some w) ∧ ¬ (j + 1 = i ∧ ∃ x, w = .inr (.inl x)) := by
  cases i with
  | zero => exact ⟨h, fun q => by omega⟩
  | succ k =>
    have e : ax_k1 ls (k + 1) = match ls[k]? with | some (some (.inr (.inl _))) => ls.set k none | _ => ls := rfl
    rw [e] at h
    split at h
    · rename_i x hx
      by_cases q : j = k
      · subst q
        rw [List.getElem?_set_self (List.getElem?_eq_some_iff.mp hx).1] at h
        cases h
      · rw [List.getElem?_set_ne (Ne.symm q)] at h
        exact ⟨h, fun z => q (by omega)⟩
    · rename_i hx
      refine ⟨h, fun ⟨q1, x, q2⟩ => ?_⟩
      have q3 : j = k := by omega
      subst q3
      subst q2
      exact hx _ h
theorem ax_s1_len (ls : ax_L) (i : Nat) (v : ax_V) : (ax_s1 ls i v).length = ls.length := by unfold ax_s1; rw [List.length_set, ax_k1_len]
theorem ax_s2_len (ls : ax_L) (i : Nat) (v : ax_V) : (ax_s2 ls i v).length = ls.length := by unfold ax_s2; rw [List.length_set, List.length_set, ax_k1_len]
theorem ax_s1_at {ls : ax_L} {i j : Nat} {v w : ax_V} (h : (ax_s1 ls i v)[j]? = some (some w)) : (j = i ∧ w = v) ∨ (j ≠ i ∧ ls[j]? = some (some w) ∧ ¬ (j + 1 = i ∧ ∃ x, w = .inr (.inl x))) := by
  unfold ax_s1 at h
  by_cases e : j = i
  · subst e
    have hl := (List.getElem?_eq_some_iff.mp h).1
    rw [List.length_set] at hl
    rw [List.getElem?_set_self hl] at h
    exact Or.inl ⟨rfl, (Option.some.inj (Option.some.inj h)).symm⟩
  · rw [List.getElem?_set_ne (Ne.symm e)] at h
    exact Or.inr ⟨e, ax_k1_at h⟩
theorem ax_s2_at {ls : ax_L} {i j : Nat} {v w : ax_V} (h : (ax_s2 ls i v)[j]? = some (some w)) : (j = i ∧ w = v) ∨ (j ≠ i ∧ j ≠ i + 1 ∧ ls[j]? = some (some w) ∧ ¬ (j + 1 = i ∧ ∃ x, w = .inr (.inl x))) := by
  unfold ax_s2 at h
  by_cases e1 : j = i + 1
  · subst e1
    have hl := (List.getElem?_eq_some_iff.mp h).1
    rw [List.length_set] at hl
    rw [List.getElem?_set_self hl] at h
    cases h
  · rw [List.getElem?_set_ne (Ne.symm e1)] at h
    rcases ax_s1_at (ls := ls) (v := v) h with q | ⟨q1, q2⟩
    · exact Or.inl q
    · exact Or.inr ⟨q1, e1, q2⟩
theorem ax_cat {G : ax_G} {w : ax_V} (h : ¬ ∃ x, w = .inr (.inl x)) : (ax_cv G w).category = 1 := by
  match w, h with
  | .inl _, _ => rfl
  | .inr (.inl x), h => exact absurd ⟨x, rfl⟩ h
  | .inr (.inr _), _ => rfl
theorem ax_LK.s1 {G : ax_G} {ls : ax_L} {la' : Array Slot} {i : Nat} {v : ax_V} (h' : lv_has la' ls.length ((i, ax_cv G v) :: (ax_prs G ls).filter (fun q => !(q.1 == i) && !(q.1 + 1 == i && q.2.category == 2)))) : ax_LK G (ax_s1 ls i v) la' := by
  refine ⟨by rw [ax_s1_len]; exact h'.1, h'.2.1, fun j w hj => ?_⟩
  rcases ax_s1_at hj with ⟨rfl, rfl⟩ | ⟨q1, q2, q3⟩
  · exact h'.2.2 (j, ax_cv G w) List.mem_cons_self
  · refine h'.2.2 (j, ax_cv G w) (List.mem_cons_of_mem _ (List.mem_filter.mpr ⟨ax_prs_mem q2, ?_⟩))
    by_cases e : j + 1 = i
    · have := ax_cat (G := G) (w := w) (fun z => q3 ⟨e, z⟩)
      simp [q1, this]
    · simp [q1, e]
theorem ax_LK.s2 {G : ax_G} {ls : ax_L} {la' : Array Slot} {i : Nat} {v : ax_V} (h' : lv_has la' ls.length ((i, ax_cv G v) :: (ax_prs G ls).filter (fun q => !(q.1 == i) && (!(q.1 == i + 1) && !(q.1 + 1 == i && q.2.category == 2))))) : ax_LK G (ax_s2 ls i v) la' := by
  refine ⟨by rw [ax_s2_len]; exact h'.1, h'.2.1, fun j w hj => ?_⟩
  rcases ax_s2_at hj with ⟨rfl, rfl⟩ | ⟨q1, q0, q2, q3⟩
  · exact h'.2.2 (j, ax_cv G w) List.mem_cons_self
  · refine h'.2.2 (j, ax_cv G w) (List.mem_cons_of_mem _ (List.mem_filter.mpr ⟨ax_prs_mem q2, ?_⟩))
    by_cases e : j + 1 = i
    · have := ax_cat (G := G) (w := w) (fun z => q3 ⟨e, z⟩)
      simp [q1, q0, this]
    · simp [q1, q0, e]
theorem ax_mk_len : ∀ (k : Nat) (ls : ax_L), (ax_mk k ls).length = ls.length
  | _, [] => rfl
  | k, v :: r => by unfold ax_mk; simp [ax_mk_len (k / 2) r]
theorem ax_mk_at : ∀ (k : Nat) (ls : ax_L) (i : Nat) (v : ax_V), (ax_mk k ls)[i]? = some (some v) → ls[i]? = some (some v)
  | _, [], i, v, h => by simp [ax_mk] at h
  | k, w :: r, i, v, h => by
    unfold ax_mk at h
    cases i with
    | zero =>
      rw [List.getElem?_cons_zero] at h ⊢
      cases hb : Nat.beq (k % 2) 1 with
      | false => rw [hb] at h; exact h
      | true => rw [hb] at h; cases h
    | succ j =>
      rw [List.getElem?_cons_succ] at h ⊢
      exact ax_mk_at (k / 2) r j v h
theorem ax_LK.mk {G : ax_G} {ls : ax_L} {la : Array Slot} (h : ax_LK G ls la) (k : Nat) : ax_LK G (ax_mk k ls) la := ⟨by rw [ax_mk_len]; exact h.1, h.2.1, fun i v hv => h.2.2 i v (ax_mk_at k ls i v hv)⟩
theorem ax_ld_at {ls : ax_L} {k : Nat} {v : ax_V} (h : ax_ld ls k = some v) : ls[k]? = some (some v) := by
  unfold ax_ld at h
  split at h
  · rename_i w hw
    cases h
    exact hw
  · cases h
/-- the locals with which a method begins -/
def ax_la : List ax_V → ax_L
  | [] => []
  | .inr (.inl x) :: r => some (.inr (.inl x)) :: none :: ax_la r
  | v :: r => some v :: ax_la r
def ax_lc (as : List ax_V) (n : Nat) : ax_L := ax_la as ++ List.replicate (n - (ax_la as).length) none
theorem ax_la_args (G : ax_G) : ∀ (as : List ax_V) (b i : Nat) (v : ax_V), (ax_la as)[i]? = some (some v) → (b + i, ax_cv G v) ∈ lv_args b (as.map (ax_cv G)) ∧ v ∈ as
  | [], b, i, v, h => by simp [ax_la] at h
  | .inr (.inl x) :: r, b, i, v, h => by
    have e : ax_la (.inr (.inl x) :: r) = some (.inr (.inl x)) :: none :: ax_la r := rfl
    rw [e] at h
    show (b + i, ax_cv G v) ∈ (b, Value.long x) :: lv_args (b + 2) (r.map (ax_cv G)) ∧ _
    match i, h with
    | 0, h => cases h; exact ⟨List.mem_cons_self, List.mem_cons_self⟩
    | 1, h => cases h
    | i + 2, h =>
      have := ax_la_args G r (b + 2) i v h
      exact ⟨List.mem_cons_of_mem _ (by rw [show b + (i + 2) = b + 2 + i by omega]; exact this.1), List.mem_cons_of_mem _ this.2⟩
  | .inl x :: r, b, i, v, h => by
    have e : ax_la (.inl x :: r) = some (.inl x) :: ax_la r := rfl
    rw [e] at h
    show (b + i, ax_cv G v) ∈ (b, Value.int x) :: lv_args (b + 1) (r.map (ax_cv G)) ∧ _
    match i, h with
    | 0, h => cases h; exact ⟨List.mem_cons_self, List.mem_cons_self⟩
    | i + 1, h =>
      have := ax_la_args G r (b + 1) i v h
      exact ⟨List.mem_cons_of_mem _ (by rw [show b + (i + 1) = b + 1 + i by omega]; exact this.1), List.mem_cons_of_mem _ this.2⟩
  | .inr (.inr q) :: r, b, i, v, h => by
    have e : ax_la (.inr (.inr q) :: r) = some (.inr (.inr q)) :: ax_la r := rfl
    rw [e] at h
    show (b + i, ax_cv G v) ∈ (b, Value.ref (ax_adr G q.2.2)) :: lv_args (b + 1) (r.map (ax_cv G)) ∧ _
    match i, h with
    | 0, h => cases h; exact ⟨List.mem_cons_self, List.mem_cons_self⟩
    | i + 1, h =>
      have := ax_la_args G r (b + 1) i v h
      exact ⟨List.mem_cons_of_mem _ (by rw [show b + (i + 1) = b + 1 + i by omega]; exact this.1), List.mem_cons_of_mem _ this.2⟩
theorem ax_la_len (G : ax_G) : ∀ (as : List ax_V), (lg_sl (as.map (ax_cv G))).length = (ax_la as).length
  | [] => rfl
  | .inr (.inl x) :: r => by
    have := ax_la_len G r
    show (lg_sl (Value.long x :: r.map (ax_cv G))).length = (some (.inr (.inl x)) :: none :: ax_la r).length
    unfold lg_sl at this ⊢
    rw [List.flatMap_cons, List.length_append, this]
    simp [Value.category]; omega
  | .inl x :: r => by
    have := ax_la_len G r
    show (lg_sl (Value.int x :: r.map (ax_cv G))).length = (some (.inl x) :: ax_la r).length
    unfold lg_sl at this ⊢
    rw [List.flatMap_cons, List.length_append, this]
    simp [Value.category]; omega
  | .inr (.inr q) :: r => by
    have := ax_la_len G r
    show (lg_sl (Value.ref (ax_adr G q.2.2) :: r.map (ax_cv G))).length = (some (.inr (.inr q)) :: ax_la r).length
    unfold lg_sl at this ⊢
    rw [List.flatMap_cons, List.length_append, this]
    simp [Value.category]; omega
theorem ax_lc_at {as : List ax_V} {n i : Nat} {v : ax_V} (h : (ax_lc as n)[i]? = some (some v)) : (ax_la as)[i]? = some (some v) := by
  unfold ax_lc at h
  by_cases hl : i < (ax_la as).length
  · rw [List.getElem?_append_left hl] at h; exact h
  · rw [List.getElem?_append_right (by omega)] at h
    obtain ⟨h1, h2⟩ := List.getElem?_eq_some_iff.mp h
    simp at h2
theorem ax_LK.entry (G : ax_G) (as : List ax_V) {n : Nat} (h : (ax_la as).length ≤ n) : ax_LK G (ax_lc as n) ((lg_sl (as.map (ax_cv G)) ++ List.replicate (n - (lg_sl (as.map (ax_cv G))).length) Slot.unset).toArray) := by
  have hl := lv_entry (as.map (ax_cv G)) (n := n) (by rw [ax_la_len]; exact h)
  refine ⟨by rw [hl.1]; unfold ax_lc; simp; omega, hl.2.1, fun i v hv => ?_⟩
  have := (ax_la_args G as 0 i v (ax_lc_at hv)).1
  rw [Nat.zero_add] at this
  exact hl.2.2 _ this
