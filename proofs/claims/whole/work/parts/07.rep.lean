/-! WHAT THE HEAP HOLDS when the typed machine's memory is m -/
/-- the heap of the start; the addresses of the three arrays that stood before; class numbers, slots, array classes; the script's length; what the three arrays hold -/
abbrev ax_G : Type := Heap × (Nat → Nat) × (Nat → ClassId) × (Nat → Nat → Nat) × (Nat → ClassId) × Nat × (Nat → Nat → Int32)
def ax_adr (G : ax_G) (o : Nat) : Nat := if o < 3 then G.2.1 o else G.1.size + (o - 3)
def ax_cv (G : ax_G) (v : ax_V) : Value := match v with
  | .inl x => .int x
  | .inr (.inl x) => .long x
  | .inr (.inr q) => .ref (ax_adr G q.2.2)
def ax_sp (G : ax_G) (o : Nat) : Nat × Nat := if o = 0 then (19, G.2.2.2.2.2.1) else ax_shp o
def ax_ok (G : ax_G) (cnt : Nat) (v : ax_V) : Prop := match v with
  | .inr (.inr q) => q.2.2 < cnt ∧ ax_sp G q.2.2 = (q.1, q.2.1)
  | _ => True
def ax_fv (G : ax_G) (m : ax_M) (t n o k : Nat) : Value := match ax_kd t k with
  | 0 => .int (m.2.1 o k)
  | 1 => .long (m.2.2.1 o k)
  | 2 => if m.2.2.2 o k = true then .ref (ax_adr G (ax_lay t n o k).2.2) else .null
  | 3 => .int (m.2.1 o k)
  | _ => if m.2.2.2 o k = true then .ref (ax_adr G (m.2.1 o k).toNatClampNeg) else .null
def ax_av (G : ax_G) (m : ax_M) (t n o i : Nat) : Value := if 13 ≤ t ∧ t ≤ 17 then (if m.2.2.2 o i = true then .ref (ax_adr G (ax_ely t n o i).2.2) else .null) else .int (m.2.1 o i)
def ax_cell (G : ax_G) (m : ax_M) (o : Nat) (H : Heap) : Prop :=
  if (ax_shp o).1 < 10 then t_OB (ax_adr G o) (G.2.2.1 (ax_shp o).1) (ax_N (ax_shp o).1) (G.2.2.2.1 (ax_shp o).1) H (ax_fv G m (ax_shp o).1 (ax_shp o).2 o)
  else H[ax_adr G o]? = some (arrV (G.2.2.2.2.1 (ax_shp o).1) (ax_shp o).2 (ax_av G m (ax_shp o).1 (ax_shp o).2 o))
/-- a reference that is set points to a cell that is there -/
def ax_tg (m : ax_M) (t n o k : Nat) : Prop :=
  if t < 10 then (if ax_kd t k = 2 then (ax_lay t n o k).2.2 < m.1 else if ax_kd t k = 4 then 3 ≤ (m.2.1 o k).toNatClampNeg ∧ (m.2.1 o k).toNatClampNeg < m.1 ∧ (ax_shp (m.2.1 o k).toNatClampNeg).1 = 10 else True)
  else if 13 ≤ t ∧ t ≤ 17 then (ax_ely t n o k).2.2 < m.1 else True
def ax_Rep (G : ax_G) (m : ax_M) (H : Heap) : Prop :=
  (3 ≤ m.1 ∧ m.1 ≤ 212) ∧ H.size = G.1.size + (m.1 - 3) ∧ (∀ q : Nat, q < G.1.size → H[q]? = G.1[q]?) ∧ (∀ o, 3 ≤ o → o < m.1 → ax_cell G m o H) ∧
  (∀ o, 3 ≤ o → o < m.1 → ∀ k, k < ax_sz o → m.2.2.2 o k = true → ax_tg m (ax_shp o).1 (ax_shp o).2 o k) ∧
  (m.1 = 212 ∨ ∀ o k, m.1 ≤ o → m.2.1 o k = 0 ∧ m.2.2.1 o k = 0 ∧ m.2.2.2 o k = false) ∧ (∀ o j, o < 3 → m.2.1 o j = G.2.2.2.2.2.2 o j)
theorem ax_adr_ge (G : ax_G) {o : Nat} (h : 3 ≤ o) : G.1.size ≤ ax_adr G o := by unfold ax_adr; rw [if_neg (by omega)]; omega
theorem ax_adr_inj (G : ax_G) {o o' : Nat} (h : 3 ≤ o) (h' : 3 ≤ o') (e : ax_adr G o = ax_adr G o') : o = o' := by unfold ax_adr at e; rw [if_neg (by omega), if_neg (by omega)] at e; omega
theorem ax_adr_new (G : ax_G) {m : ax_M} {H : Heap} (h : ax_Rep G m H) : ax_adr G m.1 = H.size := by
  have h1 := h.1.1
  rw [h.2.1]; unfold ax_adr; rw [if_neg (by omega)]
theorem ax_sp3 (G : ax_G) {o : Nat} (h : 3 ≤ o) : ax_sp G o = ax_shp o := by unfold ax_sp; rw [if_neg (by omega)]
theorem ax_shp_big {o : Nat} (h : 212 ≤ o) : ax_shp o = (99, 0) := by
  unfold ax_shp
  rw [show Nat.ble 212 o = true from Nat.ble_eq.mpr h]
  rfl
/-- an object of one of the ten classes stands among the cells made here -/
theorem ax_ok_obj {G : ax_G} {cnt t n o : Nat} (h : ax_ok G cnt (ax_vr t n o)) (ht : t < 10) : o < cnt ∧ 3 ≤ o ∧ ax_shp o = (t, n) ∧ o < 212 := by
  obtain ⟨h1, h2⟩ := h
  have h1 : o < cnt := h1
  have h2 : ax_sp G o = (t, n) := h2
  have h3 : 3 ≤ o := by
    rcases Nat.lt_or_ge o 3 with q | q
    · exfalso
      rcases (show o = 0 ∨ o = 1 ∨ o = 2 by omega) with rfl | rfl | rfl
      · unfold ax_sp at h2; rw [if_pos rfl] at h2; have := congrArg Prod.fst h2; simp at this; omega
      · have e : ax_sp G 1 = (20, 6) := rfl
        rw [e] at h2; have := congrArg Prod.fst h2; simp at this; omega
      · have e : ax_sp G 2 = (18, 6) := rfl
        rw [e] at h2; have := congrArg Prod.fst h2; simp at this; omega
    · exact q
  rw [ax_sp3 G h3] at h2
  refine ⟨h1, h3, h2, ?_⟩
  rcases Nat.lt_or_ge o 212 with q | q
  · exact q
  · rw [ax_shp_big q] at h2; have := congrArg Prod.fst h2; simp at this; omega
theorem ax_ok_arr {G : ax_G} {cnt t n o : Nat} (h : ax_ok G cnt (ax_vr t n o)) (h1 : 10 ≤ t) (h2 : t < 18) : o < cnt ∧ 3 ≤ o ∧ ax_shp o = (t, n) ∧ o < 212 := by
  obtain ⟨q1, q2⟩ := h
  have q1 : o < cnt := q1
  have q2 : ax_sp G o = (t, n) := q2
  have h3 : 3 ≤ o := by
    rcases Nat.lt_or_ge o 3 with q | q
    · exfalso
      rcases (show o = 0 ∨ o = 1 ∨ o = 2 by omega) with rfl | rfl | rfl
      · unfold ax_sp at q2; rw [if_pos rfl] at q2; have := congrArg Prod.fst q2; simp at this; omega
      · have e : ax_sp G 1 = (20, 6) := rfl
        rw [e] at q2; have := congrArg Prod.fst q2; simp at this; omega
      · have e : ax_sp G 2 = (18, 6) := rfl
        rw [e] at q2; have := congrArg Prod.fst q2; simp at this; omega
    · exact q
  rw [ax_sp3 G h3] at q2
  refine ⟨q1, h3, q2, ?_⟩
  rcases Nat.lt_or_ge o 212 with q | q
  · exact q
  · rw [ax_shp_big q] at q2; have := congrArg Prod.fst q2; simp at this; omega
theorem ax_ok_mono {G : ax_G} {a b : Nat} (h : a ≤ b) {v : ax_V} (hv : ax_ok G a v) : ax_ok G b v := by
  match v, hv with
  | .inl _, _ => trivial
  | .inr (.inl _), _ => trivial
  | .inr (.inr q), hv => exact ⟨Nat.lt_of_lt_of_le hv.1 h, hv.2⟩
theorem ax_Rep.obj {G : ax_G} {m : ax_M} {H : Heap} (h : ax_Rep G m H) {t n o : Nat} (hv : ax_ok G m.1 (ax_vr t n o)) (ht : t < 10) : t_OB (ax_adr G o) (G.2.2.1 t) (ax_N t) (G.2.2.2.1 t) H (ax_fv G m t n o) := by
  obtain ⟨h1, h3, h4, -⟩ := ax_ok_obj hv ht
  have e := h.2.2.2.1 o h3 h1
  unfold ax_cell at e
  rw [h4] at e
  rw [if_pos ht] at e
  exact e
theorem ax_Rep.arr {G : ax_G} {m : ax_M} {H : Heap} (h : ax_Rep G m H) {t n o : Nat} (hv : ax_ok G m.1 (ax_vr t n o)) (h1 : 10 ≤ t) (h2 : t < 18) : H[ax_adr G o]? = some (arrV (G.2.2.2.2.1 t) n (ax_av G m t n o)) := by
  obtain ⟨q1, q3, q4, -⟩ := ax_ok_arr hv h1 h2
  have e := h.2.2.2.1 o q3 q1
  unfold ax_cell at e
  rw [q4] at e
  rw [if_neg (Nat.not_lt.mpr h1)] at e
  exact e
theorem ax_cell_kept {G : ax_G} {m m' : ax_M} {o : Nat} {H H' : Heap} (h : ax_cell G m o H) (hH : H'[ax_adr G o]? = H[ax_adr G o]?)
    (hf : ∀ k, ax_fv G m' (ax_shp o).1 (ax_shp o).2 o k = ax_fv G m (ax_shp o).1 (ax_shp o).2 o k) (ha : ∀ k, ax_av G m' (ax_shp o).1 (ax_shp o).2 o k = ax_av G m (ax_shp o).1 (ax_shp o).2 o k) : ax_cell G m' o H' := by
  unfold ax_cell at h ⊢
  split
  · rename_i ht
    rw [if_pos ht] at h
    exact (h.kept hH).to (fun k _ => (hf k).symm)
  · rename_i ht
    rw [if_neg ht] at h
    rw [hH, h, show ax_av G m' (ax_shp o).1 (ax_shp o).2 o = ax_av G m (ax_shp o).1 (ax_shp o).2 o from funext ha]
/-- one cell changes, by what is laid into memory -/
theorem ax_Rep.set {G : ax_G} {m m' : ax_M} {H H' : Heap} (h : ax_Rep G m H) {o : Nat} (ho3 : 3 ≤ o) (ho : o < m.1) (hc : m'.1 = m.1) (hz : H'.size = H.size) (hoq : ∀ q : Nat, q ≠ ax_adr G o → H'[q]? = H[q]?) (hcell : ax_cell G m' o H')
    (hi : ∀ a k, a ≠ o → m'.2.1 a k = m.2.1 a k) (hl : ∀ a k, a ≠ o → m'.2.2.1 a k = m.2.2.1 a k) (hs : ∀ a k, a ≠ o → m'.2.2.2 a k = m.2.2.2 a k)
    (htg : ∀ k, k < ax_sz o → m'.2.2.2 o k = true → ax_tg m' (ax_shp o).1 (ax_shp o).2 o k) : ax_Rep G m' H' := by
  obtain ⟨r1, r2, r3, r4, r5, r6, r7⟩ := h
  refine ⟨by rw [hc]; exact r1, by rw [hz, hc]; exact r2, fun q hq => ?_, fun a ha3 ha => ?_, fun a ha3 ha k hk hS => ?_, ?_, fun a j ha => ?_⟩
  · rw [hoq q (by have := ax_adr_ge G ho3; omega)]; exact r3 q hq
  · rw [hc] at ha
    by_cases e : a = o
    · subst e; exact hcell
    · refine ax_cell_kept (r4 a ha3 ha) (hoq _ (fun q => e (ax_adr_inj G ha3 ho3 q))) (fun k => ?_) (fun k => ?_)
      · unfold ax_fv; rw [hi a k e, hl a k e, hs a k e]
      · unfold ax_av; rw [hi a k e, hs a k e]
  · rw [hc] at ha
    by_cases e : a = o
    · subst e; exact htg k hk hS
    · rw [hs a k e] at hS
      have := r5 a ha3 ha k hk hS
      unfold ax_tg at this ⊢
      rw [hc, hi a k e]
      exact this
  · rw [hc]
    rcases r6 with q | q
    · exact Or.inl q
    · refine Or.inr (fun a k ha => ?_)
      have e : a ≠ o := by omega
      rw [hi a k e, hl a k e, hs a k e]
      exact q a k ha
  · rw [hi a j (by omega)]; exact r7 a j ha
