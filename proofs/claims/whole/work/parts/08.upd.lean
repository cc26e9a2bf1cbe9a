/-! what is laid into memory, in the heap -/
theorem ax_wi_at (m : ax_M) (o k : Nat) (x : Int32) (a b : Nat) : (ax_wi m o k x).2.1 a b = if a = o ∧ b = k then x else m.2.1 a b := rfl
theorem ax_wi_ne {m : ax_M} {o k : Nat} {x : Int32} {a b : Nat} (h : ¬ (a = o ∧ b = k)) : (ax_wi m o k x).2.1 a b = m.2.1 a b := if_neg h
theorem ax_wi_eq {m : ax_M} {o k : Nat} {x : Int32} : (ax_wi m o k x).2.1 o k = x := if_pos ⟨rfl, rfl⟩
theorem ax_wr_eq {m : ax_M} {o k : Nat} : (ax_wr m o k).2.2.2 o k = true := by
  show (m.2.2.2 o k || (Nat.beq o o && Nat.beq k k)) = true
  rw [Nat.beq_refl, Nat.beq_refl]
  simp
theorem ax_wr_ne {m : ax_M} {o k a b : Nat} (h : ¬ (a = o ∧ b = k)) : (ax_wr m o k).2.2.2 a b = m.2.2.2 a b := by
  show (m.2.2.2 a b || (Nat.beq a o && Nat.beq b k)) = m.2.2.2 a b
  have e : (Nat.beq a o && Nat.beq b k) = false := by
    cases hb : (Nat.beq a o && Nat.beq b k) with
    | false => rfl
    | true =>
      rw [Bool.and_eq_true] at hb
      exact absurd ⟨Nat.eq_of_beq_eq_true hb.1, Nat.eq_of_beq_eq_true hb.2⟩ h
  rw [e, Bool.or_false]
theorem ax_sz_obj {o t n : Nat} (h : ax_shp o = (t, n)) (ht : t < 10) : ax_sz o = ax_N t := by
  unfold ax_sz
  rw [h, show Nat.ble 10 t = false from by
    rcases hb : Nat.ble 10 t with _ | _
    · rfl
    · have := Nat.ble_eq.mp hb; omega]
  rfl
theorem ax_sz_arr {o t n : Nat} (h : ax_shp o = (t, n)) (ht : 10 ≤ t) : ax_sz o = n := by
  unfold ax_sz
  rw [h, show Nat.ble 10 t = true from Nat.ble_eq.mpr ht]
  rfl
theorem ax_mkcell {G : ax_G} {m : ax_M} {t n o : Nat} {H : Heap} (h : ax_shp o = (t, n)) (ht : t < 10) (hob : t_OB (ax_adr G o) (G.2.2.1 t) (ax_N t) (G.2.2.2.1 t) H (ax_fv G m t n o)) : ax_cell G m o H := by
  unfold ax_cell; rw [h]; rw [if_pos ht]; exact hob
theorem ax_mkcellA {G : ax_G} {m : ax_M} {t n o : Nat} {H : Heap} (h : ax_shp o = (t, n)) (ht : 10 ≤ t) (hob : H[ax_adr G o]? = some (arrV (G.2.2.2.2.1 t) n (ax_av G m t n o))) : ax_cell G m o H := by
  unfold ax_cell; rw [h]; rw [if_neg (Nat.not_lt.mpr ht)]; exact hob
theorem ax_Rep.putI {G : ax_G} {m : ax_M} {H H' : Heap} (h : ax_Rep G m H) {t n o k : Nat} (hv : ax_ok G m.1 (ax_vr t n o)) (ht : t < 10) (hkd : ax_kd t k = 0 ∨ ax_kd t k = 3) {x : Int32}
    (hob : t_OB (ax_adr G o) (G.2.2.1 t) (ax_N t) (G.2.2.2.1 t) H' (updV (ax_fv G m t n o) k (.int x))) (hz : H'.size = H.size) (hoq : ∀ q : Nat, q ≠ ax_adr G o → H'[q]? = H[q]?) : ax_Rep G (ax_wi m o k x) H' := by
  obtain ⟨h1, h3, h4, h5⟩ := ax_ok_obj hv ht
  refine h.set h3 h1 rfl hz hoq (ax_mkcell h4 ht (hob.to fun j _ => ?_)) (fun a b e => ax_wi_ne (fun q => e q.1)) (fun _ _ _ => rfl) (fun _ _ _ => rfl) (fun j hj hS => ?_)
  · unfold updV
    by_cases e : j = k
    · subst e
      rw [if_pos rfl]
      unfold ax_fv
      rcases hkd with q | q <;> rw [q] <;> exact congrArg Value.int ax_wi_eq.symm
    · rw [if_neg e]
      unfold ax_fv
      rw [ax_wi_ne (fun q => e q.2)]
      rfl
  · have e5 := h.2.2.2.2.1 o h3 h1 j hj hS
    rw [h4] at e5 ⊢
    unfold ax_tg at e5 ⊢
    rw [if_pos ht] at e5 ⊢
    by_cases q2 : ax_kd t j = 2
    · rw [if_pos q2] at e5 ⊢; exact e5
    · rw [if_neg q2] at e5 ⊢
      by_cases q4 : ax_kd t j = 4
      · rw [if_pos q4] at e5 ⊢
        have e : j ≠ k := by
          intro q; subst q; omega
        rw [ax_wi_ne (fun q => e q.2)]
        exact e5
      · rw [if_neg q4]; trivial
theorem ax_Rep.putL {G : ax_G} {m : ax_M} {H H' : Heap} (h : ax_Rep G m H) {t n o k : Nat} (hv : ax_ok G m.1 (ax_vr t n o)) (ht : t < 10) (hkd : ax_kd t k = 1) {x : Int64}
    (hob : t_OB (ax_adr G o) (G.2.2.1 t) (ax_N t) (G.2.2.2.1 t) H' (updV (ax_fv G m t n o) k (.long x))) (hz : H'.size = H.size) (hoq : ∀ q : Nat, q ≠ ax_adr G o → H'[q]? = H[q]?) : ax_Rep G (ax_wl m o k x) H' := by
  obtain ⟨h1, h3, h4, h5⟩ := ax_ok_obj hv ht
  refine h.set h3 h1 rfl hz hoq (ax_mkcell h4 ht (hob.to fun j _ => ?_)) (fun _ _ _ => rfl) (fun a b e => if_neg (fun q => e q.1)) (fun _ _ _ => rfl) (fun j hj hS => h.2.2.2.2.1 o h3 h1 j hj hS)
  unfold updV
  by_cases e : j = k
  · subst e
    rw [if_pos rfl]
    unfold ax_fv
    rw [hkd]
    exact congrArg Value.long (if_pos ⟨rfl, rfl⟩ : (ax_wl m o j x).2.2.1 o j = x).symm
  · rw [if_neg e]
    unfold ax_fv
    rw [show (ax_wl m o k x).2.2.1 o j = m.2.2.1 o j from if_neg (fun q => e q.2)]
    rfl
theorem ax_Rep.putR {G : ax_G} {m : ax_M} {H H' : Heap} (h : ax_Rep G m H) {t n o k : Nat} (hv : ax_ok G m.1 (ax_vr t n o)) (ht : t < 10) (hkd : ax_kd t k = 2) (hlt : (ax_lay t n o k).2.2 < m.1)
    (hob : t_OB (ax_adr G o) (G.2.2.1 t) (ax_N t) (G.2.2.2.1 t) H' (updV (ax_fv G m t n o) k (.ref (ax_adr G (ax_lay t n o k).2.2)))) (hz : H'.size = H.size) (hoq : ∀ q : Nat, q ≠ ax_adr G o → H'[q]? = H[q]?) : ax_Rep G (ax_wr m o k) H' := by
  obtain ⟨h1, h3, h4, h5⟩ := ax_ok_obj hv ht
  refine h.set h3 h1 rfl hz hoq (ax_mkcell h4 ht (hob.to fun j _ => ?_)) (fun _ _ _ => rfl) (fun _ _ _ => rfl) (fun a b e => ax_wr_ne (fun q => e q.1)) (fun j hj hS => ?_)
  · unfold updV
    by_cases e : j = k
    · subst e
      rw [if_pos rfl]
      unfold ax_fv
      rw [hkd]
      show _ = if (ax_wr m o j).2.2.2 o j = true then _ else _
      rw [if_pos ax_wr_eq]
    · rw [if_neg e]
      unfold ax_fv
      rw [show (ax_wr m o k).2.2.2 o j = m.2.2.2 o j from ax_wr_ne (fun q => e q.2)]
      rfl
  · rw [h4]
    by_cases e : j = k
    · subst e
      unfold ax_tg
      rw [if_pos ht, if_pos hkd]
      exact hlt
    · have hS2 : m.2.2.2 o j = true := by
        have e2 : (ax_wr m o k).2.2.2 o j = m.2.2.2 o j := ax_wr_ne (fun q => e q.2)
        rw [← e2]; exact hS
      have := h.2.2.2.2.1 o h3 h1 j hj hS2
      rw [h4] at this
      exact this
theorem ax_Rep.putQ {G : ax_G} {m : ax_M} {H H' : Heap} (h : ax_Rep G m H) {t n o k o' : Nat} (hv : ax_ok G m.1 (ax_vr t n o)) (ht : t < 10) (hkd : ax_kd t k = 4) (h3' : 3 ≤ o') (hlt : o' < m.1) (hsh : (ax_shp o').1 = 10)
    (hob : t_OB (ax_adr G o) (G.2.2.1 t) (ax_N t) (G.2.2.2.1 t) H' (updV (ax_fv G m t n o) k (.ref (ax_adr G o')))) (hz : H'.size = H.size) (hoq : ∀ q : Nat, q ≠ ax_adr G o → H'[q]? = H[q]?) : ax_Rep G (ax_wr (ax_wi m o k (nI o')) o k) H' := by
  obtain ⟨h1, h3, h4, h5⟩ := ax_ok_obj hv ht
  have hcl : (nI o').toNatClampNeg = o' := nI_clamp (by have := h.1.2; omega)
  have hri : (ax_wr (ax_wi m o k (nI o')) o k).2.1 o k = nI o' := ax_wi_eq
  refine h.set h3 h1 rfl hz hoq (ax_mkcell h4 ht (hob.to fun j _ => ?_)) (fun a b e => ax_wi_ne (fun q => e q.1)) (fun _ _ _ => rfl) (fun a b e => ax_wr_ne (fun q => e q.1)) (fun j hj hS => ?_)
  · unfold updV
    by_cases e : j = k
    · subst e
      rw [if_pos rfl]
      unfold ax_fv
      rw [hkd]
      show _ = if (ax_wr (ax_wi m o j (nI o')) o j).2.2.2 o j = true then _ else _
      rw [if_pos ax_wr_eq, hri, hcl]
    · rw [if_neg e]
      unfold ax_fv
      rw [show (ax_wr (ax_wi m o k (nI o')) o k).2.2.2 o j = m.2.2.2 o j from ax_wr_ne (fun q => e q.2), show (ax_wr (ax_wi m o k (nI o')) o k).2.1 o j = m.2.1 o j from ax_wi_ne (fun q => e q.2)]
      rfl
  · rw [h4]
    by_cases e : j = k
    · subst e
      unfold ax_tg
      rw [if_pos ht, if_neg (by rw [hkd]; decide), if_pos hkd, hri, hcl]
      exact ⟨h3', hlt, hsh⟩
    · have hS2 : m.2.2.2 o j = true := by
        have e2 : (ax_wr (ax_wi m o k (nI o')) o k).2.2.2 o j = m.2.2.2 o j := ax_wr_ne (fun q => e q.2)
        rw [← e2]; exact hS
      have e5 := h.2.2.2.2.1 o h3 h1 j hj hS2
      rw [h4] at e5
      unfold ax_tg at e5 ⊢
      rw [show (ax_wr (ax_wi m o k (nI o')) o k).2.1 o j = m.2.1 o j from ax_wi_ne (fun q => e q.2)]
      exact e5
theorem ax_av_int {G : ax_G} {m : ax_M} {t n o i : Nat} (h : t < 13) : ax_av G m t n o i = .int (m.2.1 o i) := by unfold ax_av; rw [if_neg (by omega)]
theorem ax_av_ref {G : ax_G} {m : ax_M} {t n o i : Nat} (h : 13 ≤ t) (h2 : t ≤ 17) : ax_av G m t n o i = if m.2.2.2 o i = true then .ref (ax_adr G (ax_ely t n o i).2.2) else .null := by unfold ax_av; rw [if_pos ⟨h, h2⟩]
theorem ax_tg_int {m : ax_M} {t n o k : Nat} (h : 10 ≤ t) (h2 : t < 13) : ax_tg m t n o k := by unfold ax_tg; rw [if_neg (by omega), if_neg (by omega)]; trivial
theorem ax_Rep.stI {G : ax_G} {m : ax_M} {H H' : Heap} (h : ax_Rep G m H) {t n o j : Nat} (hv : ax_ok G m.1 (ax_vr t n o)) (ht : 10 ≤ t) (ht2 : t < 13) {x : Int32}
    (e : H'[ax_adr G o]? = some ((arrV (G.2.2.2.2.1 t) n (ax_av G m t n o)).setSlot j (.int x))) (hz : H'.size = H.size) (hoq : ∀ q : Nat, q ≠ ax_adr G o → H'[q]? = H[q]?) : ax_Rep G (ax_wi m o j x) H' := by
  obtain ⟨h1, h3, h4, h5⟩ := ax_ok_arr hv ht (by omega)
  refine h.set h3 h1 rfl hz hoq (ax_mkcellA h4 ht ?_) (fun a b e => ax_wi_ne (fun q => e q.1)) (fun _ _ _ => rfl) (fun _ _ _ => rfl) (fun k _ _ => by rw [h4]; exact ax_tg_int ht ht2)
  rw [e, arrV_store]
  refine congrArg (fun f => some (arrV _ n f)) (funext fun k => ?_)
  unfold updV
  by_cases q : k = j
  · subst q; rw [if_pos rfl, ax_av_int ht2, ax_wi_eq]
  · rw [if_neg q, ax_av_int ht2, ax_av_int ht2, ax_wi_ne (fun z => q z.2)]
theorem ax_Rep.stR {G : ax_G} {m : ax_M} {H H' : Heap} (h : ax_Rep G m H) {t n o j : Nat} (hv : ax_ok G m.1 (ax_vr t n o)) (ht : 13 ≤ t) (ht2 : t ≤ 15) (hlt : (ax_ely t n o j).2.2 < m.1)
    (e : H'[ax_adr G o]? = some ((arrV (G.2.2.2.2.1 t) n (ax_av G m t n o)).setSlot j (.ref (ax_adr G (ax_ely t n o j).2.2)))) (hz : H'.size = H.size) (hoq : ∀ q : Nat, q ≠ ax_adr G o → H'[q]? = H[q]?) : ax_Rep G (ax_wr m o j) H' := by
  obtain ⟨h1, h3, h4, h5⟩ := ax_ok_arr hv (by omega) (by omega)
  refine h.set h3 h1 rfl hz hoq (ax_mkcellA h4 (by omega) ?_) (fun _ _ _ => rfl) (fun _ _ _ => rfl) (fun a b e => ax_wr_ne (fun q => e q.1)) (fun k hk hS => ?_)
  · rw [e, arrV_store]
    refine congrArg (fun f => some (arrV _ n f)) (funext fun k => ?_)
    unfold updV
    by_cases q : k = j
    · subst q
      rw [if_pos rfl, ax_av_ref ht (by omega), if_pos ax_wr_eq]
    · rw [if_neg q, ax_av_ref ht (by omega), ax_av_ref ht (by omega), show (ax_wr m o j).2.2.2 o k = m.2.2.2 o k from ax_wr_ne (fun z => q z.2)]
  · rw [h4]
    by_cases q : k = j
    · subst q
      unfold ax_tg
      rw [if_neg (by omega), if_pos ⟨ht, by omega⟩]
      exact hlt
    · have hS2 : m.2.2.2 o k = true := by
        have e2 : (ax_wr m o j).2.2.2 o k = m.2.2.2 o k := ax_wr_ne (fun z => q z.2)
        rw [← e2]; exact hS
      have := h.2.2.2.2.1 o h3 h1 k hk hS2
      rw [h4] at this
      exact this
theorem ax_Rep.cpy {G : ax_G} {m : ax_M} {H H' : Heap} (h : ax_Rep G m H) {n1 o0 o1 sp dp n : Nat} (hv : ax_ok G m.1 (ax_vr 10 n1 o1))
    (e : H'[ax_adr G o1]? = some (arrV (G.2.2.2.2.1 10) n1 (fun j => .int (va_cpy (m.2.1 o0) (m.2.1 o1) sp dp n j)))) (hz : H'.size = H.size) (hoq : ∀ q : Nat, q ≠ ax_adr G o1 → H'[q]? = H[q]?) : ax_Rep G (ax_wc m o0 o1 sp dp n) H' := by
  obtain ⟨h1, h3, h4, h5⟩ := ax_ok_arr hv (by omega) (by omega)
  refine h.set h3 h1 rfl hz hoq (ax_mkcellA h4 (by omega) ?_) (fun a b e => if_neg e) (fun _ _ _ => rfl) (fun _ _ _ => rfl) (fun k _ _ => by rw [h4]; exact ax_tg_int (by omega) (by omega))
  rw [e]
  refine congrArg (fun f => some (arrV _ n1 f)) (funext fun k => ?_)
  rw [ax_av_int (by omega)]
  exact congrArg Value.int (if_pos rfl : (ax_wc m o0 o1 sp dp n).2.1 o1 k = _).symm
