/-! fields by kind, new cells, the rest -/
theorem ax_sl_mono {a b : Nat} (h : a ≤ b) : ax_sl a ≤ ax_sl b := by
  induction b with
  | zero => rw [Nat.le_zero.mp h]; exact Nat.le_refl _
  | succ n ih =>
    rcases Nat.lt_or_ge a (n + 1) with q | q
    · have := ih (by omega)
      show ax_sl a ≤ ax_sl n + ax_sz n
      omega
    · rw [show a = n + 1 by omega]; exact Nat.le_refl _
theorem ax_sl_add (a n k : Nat) (h : ∀ i, i < n → ax_sz (a + i) = k) : ax_sl (a + n) = ax_sl a + n * k := by
  induction n with
  | zero => simp
  | succ n ih =>
    show ax_sl (a + n) + ax_sz (a + n) = _
    rw [ih (fun i hi => h i (by omega)), h n (by omega), Nat.succ_mul]
    omega
theorem ax_Rl.grow {G : ax_G} {c0 nl k n : Nat} {ls : ax_L} {st st' : List ax_V} {m m' : ax_M} {H H' : Heap} {locs : List Loc} {cells slots : Nat} {la : Array Slot} (h : ax_Rl G c0 nl ls st m H locs cells slots la) (hR : ax_Rep G m' H') (hc : m'.1 = m.1 + k) (hsl : ax_sl m'.1 = ax_sl m.1 + n) (hs : ∀ v ∈ st', ax_ok G m'.1 v) : ax_Rl G c0 nl ls st' m' H' locs (cells + k) (slots + n) la := by
  obtain ⟨h1, h2, h3, h4, h5, h6, ⟨h7, h7'⟩, h8⟩ := h
  have := ax_sl_mono h6
  refine ⟨h1, hR, fun i v hv => ax_ok_mono (by omega) (h3 i v hv), hs, h5, by omega, ⟨by omega, by omega⟩, h8⟩
theorem ax_oks_mono {G : ax_G} {a b : Nat} (h : a ≤ b) {st : List ax_V} (hs : ∀ v ∈ st, ax_ok G a v) : ∀ v ∈ st, ax_ok G b v := fun v hv => ax_ok_mono h (hs v hv)
theorem ax_kd_ty {t k : Nat} (ht : t < 10) (hk : k < ax_N t) : (ax_kd t k = 0 → ax_ty t k = .int ∧ (ax_T t k).2.2.2 = false) ∧ (ax_kd t k = 1 → ax_ty t k = .long ∧ (ax_T t k).2.2.2 = false) ∧ (ax_kd t k = 3 → ax_ty t k = .boolean ∧ (ax_T t k).2.2.2 = false) ∧
    (ax_kd t k = 2 → ((∃ z, ax_ty t k = .array z) ∨ ∃ z, ax_ty t k = .object z) ∧ (ax_T t k).2.2.2 = true) ∧ (ax_kd t k = 4 → (∃ z, ax_ty t k = .array z) ∧ (ax_T t k).2.2.2 = false) ∧ ax_kd t k < 5 := by
  have e := ax_kdok t ht k hk
  generalize ax_kd t k = d at e ⊢
  generalize ax_ty t k = ty at e ⊢
  generalize (ax_T t k).2.2.2 = f at e ⊢
  unfold ax_kdt at e
  split at e
  · exact ⟨fun _ => ⟨rfl, rfl⟩, fun h => (by cases h), fun h => (by cases h), fun h => (by cases h), fun h => (by cases h), by decide⟩
  · exact ⟨fun h => (by cases h), fun _ => ⟨rfl, rfl⟩, fun h => (by cases h), fun h => (by cases h), fun h => (by cases h), by decide⟩
  · exact ⟨fun h => (by cases h), fun h => (by cases h), fun h => (by cases h), fun _ => ⟨Or.inl ⟨_, rfl⟩, rfl⟩, fun h => (by cases h), by decide⟩
  · exact ⟨fun h => (by cases h), fun h => (by cases h), fun h => (by cases h), fun _ => ⟨Or.inr ⟨_, rfl⟩, rfl⟩, fun h => (by cases h), by decide⟩
  · exact ⟨fun h => (by cases h), fun h => (by cases h), fun _ => ⟨rfl, rfl⟩, fun h => (by cases h), fun h => (by cases h), by decide⟩
  · exact ⟨fun h => (by cases h), fun h => (by cases h), fun h => (by cases h), fun h => (by cases h), fun _ => ⟨⟨_, rfl⟩, rfl⟩, by decide⟩
  · cases e
section AXN
variable {p : Program} {l : Launch} {e : Env} {R : Room} {s : State} {mt : MethodId} {args : Array Value} {below : List Frame} {meth : Method} {c : Code} {Q : State → Prop} {G : ax_G} {c0 cF d y nl : Nat}
variable {pc : Nat} {ls : ax_L} {st r : List ax_V} {m : ax_M} {H : Heap} {locs : List Loc} {cells slots : Nat} {la : Array Slot} {rest : List Value}
theorem axw_getI (C : ax_Cx p s mt meth c R G y d c0 cF) {t n o q idx : Nat} (hd : decode (ax_by y) pc = .ok (.getfield idx, 3)) (hl : (ax_oy y, idx, q) ∈ ax_FL) (ht : q / 100 = t) (hkd : ax_kd t (q % 100) = 0 ∨ ax_kd t (q % 100) = 3)
    (K : ax_WW p l e R s mt args below meth c Q G c0 (ax_ml y) (pc + 3, ls, ax_vi (m.2.1 o (q % 100)) :: r, m)) : ax_WW p l e R s mt args below meth c Q G c0 (ax_ml y) (pc, ls, ax_vr t n o :: r, m) := by
  intro H locs cells slots la h
  have K' := K H locs cells slots la (h.st (ax_oks_cons trivial (ax_oks_tl h.2.2.2.1)))
  refine ax_getW C h.2.1 (ax_oks_hd h.2.2.2.1) hd hl ht ?_
  have e : ax_fv G m t n o (q % 100) = .int (m.2.1 o (q % 100)) := by unfold ax_fv; rcases hkd with z | z <;> rw [z] <;> rfl
  rw [e]
  exact K'
theorem axw_getL (C : ax_Cx p s mt meth c R G y d c0 cF) {t n o q idx : Nat} (hd : decode (ax_by y) pc = .ok (.getfield idx, 3)) (hl : (ax_oy y, idx, q) ∈ ax_FL) (ht : q / 100 = t) (hkd : ax_kd t (q % 100) = 1)
    (K : ax_WW p l e R s mt args below meth c Q G c0 (ax_ml y) (pc + 3, ls, ax_vl (m.2.2.1 o (q % 100)) :: r, m)) : ax_WW p l e R s mt args below meth c Q G c0 (ax_ml y) (pc, ls, ax_vr t n o :: r, m) := by
  intro H locs cells slots la h
  have K' := K H locs cells slots la (h.st (ax_oks_cons trivial (ax_oks_tl h.2.2.2.1)))
  refine ax_getW C h.2.1 (ax_oks_hd h.2.2.2.1) hd hl ht ?_
  have e : ax_fv G m t n o (q % 100) = .long (m.2.2.1 o (q % 100)) := by unfold ax_fv; rw [hkd]; rfl
  rw [e]
  exact K'
theorem axw_getR (C : ax_Cx p s mt meth c R G y d c0 cF) {t n o q idx : Nat} (hd : decode (ax_by y) pc = .ok (.getfield idx, 3)) (hl : (ax_oy y, idx, q) ∈ ax_FL) (ht : q / 100 = t) (hkd : ax_kd t (q % 100) = 2) (hS : m.2.2.2 o (q % 100) = true)
    (K : ax_WW p l e R s mt args below meth c Q G c0 (ax_ml y) (pc + 3, ls, .inr (.inr (ax_lay t n o (q % 100))) :: r, m)) : ax_WW p l e R s mt args below meth c Q G c0 (ax_ml y) (pc, ls, ax_vr t n o :: r, m) := by
  intro H locs cells slots la h
  obtain ⟨-, h10, hk⟩ := ax_FL_of hl C.2.2.2.2.2.2.2.2.2
  rw [ht] at h10 hk
  have K' := K H locs cells slots la (h.st (ax_oks_cons (ax_lay_ok h.2.1 (ax_oks_hd h.2.2.2.1) h10 hk hkd hS) (ax_oks_tl h.2.2.2.1)))
  refine ax_getW C h.2.1 (ax_oks_hd h.2.2.2.1) hd hl ht ?_
  have e : ax_fv G m t n o (q % 100) = .ref (ax_adr G (ax_lay t n o (q % 100)).2.2) := by unfold ax_fv; rw [hkd]; exact if_pos hS
  rw [e]
  exact K'
theorem axw_getQ (C : ax_Cx p s mt meth c R G y d c0 cF) {t n o q idx : Nat} (hd : decode (ax_by y) pc = .ok (.getfield idx, 3)) (hl : (ax_oy y, idx, q) ∈ ax_FL) (ht : q / 100 = t) (hkd : ax_kd t (q % 100) = 4) (hS : m.2.2.2 o (q % 100) = true)
    (K : ax_WW p l e R s mt args below meth c Q G c0 (ax_ml y) (pc + 3, ls, ax_vr 10 (ax_shp (m.2.1 o (q % 100)).toNatClampNeg).2 (m.2.1 o (q % 100)).toNatClampNeg :: r, m)) : ax_WW p l e R s mt args below meth c Q G c0 (ax_ml y) (pc, ls, ax_vr t n o :: r, m) := by
  intro H locs cells slots la h
  obtain ⟨-, h10, hk⟩ := ax_FL_of hl C.2.2.2.2.2.2.2.2.2
  rw [ht] at h10 hk
  have hv := ax_oks_hd h.2.2.2.1
  obtain ⟨h1, h3, h4, h5⟩ := ax_ok_obj hv h10
  have e5 := h.2.1.2.2.2.2.1 o h3 h1 _ (by rw [ax_sz_obj h4 h10]; exact hk) hS
  rw [h4] at e5
  unfold ax_tg at e5
  rw [if_pos h10, if_neg (by rw [hkd]; decide), if_pos hkd] at e5
  obtain ⟨b1, b2, b3⟩ := e5
  have K' := K H locs cells slots la (h.st (ax_oks_cons ⟨b2, by rw [ax_sp3 G b1]; exact Prod.ext b3 rfl⟩ (ax_oks_tl h.2.2.2.1)))
  refine ax_getW C h.2.1 hv hd hl ht ?_
  have e : ax_fv G m t n o (q % 100) = .ref (ax_adr G (m.2.1 o (q % 100)).toNatClampNeg) := by unfold ax_fv; rw [hkd]; exact if_pos hS
  rw [e]
  exact K'
theorem axw_putI (C : ax_Cx p s mt meth c R G y d c0 cF) {t n o q idx : Nat} {x : Int32} (hd : decode (ax_by y) pc = .ok (.putfield idx, 3)) (hl : (ax_oy y, idx, q) ∈ ax_FL) (ht : q / 100 = t) (hkd : ax_kd t (q % 100) = 0 ∨ (ax_kd t (q % 100) = 3 ∧ ax_bit x = true))
    (K : ax_WW p l e R s mt args below meth c Q G c0 (ax_ml y) (pc + 3, ls, r, ax_wi m o (q % 100) x)) : ax_WW p l e R s mt args below meth c Q G c0 (ax_ml y) (pc, ls, ax_vi x :: ax_vr t n o :: r, m) := by
  intro H locs cells slots la h
  obtain ⟨-, h10, hk⟩ := ax_FL_of hl C.2.2.2.2.2.2.2.2.2
  rw [ht] at h10 hk
  have hv := ax_oks_hd (ax_oks_tl h.2.2.2.1)
  have hT := ax_kd_ty h10 hk
  have hh : (ax_T t (q % 100)).2.2.2 = false ∧ narrow (ax_ty t (q % 100)) (.int x) = .int x ∧ fits (ax_ty t (q % 100)) (.int x) = true := by
    rcases hkd with z | ⟨z, zb⟩
    · obtain ⟨a1, a2⟩ := hT.1 z
      rw [a1]; exact ⟨a2, rfl, rfl⟩
    · obtain ⟨a1, a2⟩ := hT.2.2.1 z
      rw [a1]; exact ⟨a2, (ax_bit_nar zb).1, (ax_bit_nar zb).2⟩
  refine ax_putW C h.2.1 hv hd hl ht hh.1 hh.2.1 hh.2.2 fun H' e1 e2 e3 => ?_
  exact K H' _ cells slots la (h.mem (h.2.1.putI hv h10 (hkd.imp id And.left) e1 e2 e3) rfl (ax_adr_ge G (ax_ok_obj hv h10).2.1) (ax_oks_tl (ax_oks_tl h.2.2.2.1)))
theorem axw_putL (C : ax_Cx p s mt meth c R G y d c0 cF) {t n o q idx : Nat} {x : Int64} (hd : decode (ax_by y) pc = .ok (.putfield idx, 3)) (hl : (ax_oy y, idx, q) ∈ ax_FL) (ht : q / 100 = t) (hkd : ax_kd t (q % 100) = 1)
    (K : ax_WW p l e R s mt args below meth c Q G c0 (ax_ml y) (pc + 3, ls, r, ax_wl m o (q % 100) x)) : ax_WW p l e R s mt args below meth c Q G c0 (ax_ml y) (pc, ls, ax_vl x :: ax_vr t n o :: r, m) := by
  intro H locs cells slots la h
  obtain ⟨-, h10, hk⟩ := ax_FL_of hl C.2.2.2.2.2.2.2.2.2
  rw [ht] at h10 hk
  have hv := ax_oks_hd (ax_oks_tl h.2.2.2.1)
  obtain ⟨a1, a2⟩ := (ax_kd_ty h10 hk).2.1 hkd
  refine ax_putW C h.2.1 hv hd hl ht a2 (by rw [a1]; rfl) (by rw [a1]; rfl) fun H' e1 e2 e3 => ?_
  exact K H' _ cells slots la (h.mem (h.2.1.putL hv h10 hkd e1 e2 e3) rfl (ax_adr_ge G (ax_ok_obj hv h10).2.1) (ax_oks_tl (ax_oks_tl h.2.2.2.1)))
theorem axw_putR (C : ax_Cx p s mt meth c R G y d c0 cF) {t n o q idx : Nat} (hd : decode (ax_by y) pc = .ok (.putfield idx, 3)) (hl : (ax_oy y, idx, q) ∈ ax_FL) (ht : q / 100 = t) (hkd : ax_kd t (q % 100) = 2)
    (hini : (ax_nm y).name = "<init>") (hdecl : (ax_T t (q % 100)).1 = (ax_nm y).cls)
    (K : ax_WW p l e R s mt args below meth c Q G c0 (ax_ml y) (pc + 3, ls, r, ax_wr m o (q % 100))) : ax_WW p l e R s mt args below meth c Q G c0 (ax_ml y) (pc, ls, .inr (.inr (ax_lay t n o (q % 100))) :: ax_vr t n o :: r, m) := by
  intro H locs cells slots la h
  obtain ⟨-, h10, hk⟩ := ax_FL_of hl C.2.2.2.2.2.2.2.2.2
  rw [ht] at h10 hk
  have hv := ax_oks_hd (ax_oks_tl h.2.2.2.1)
  have hlt := (ax_oks_hd h.2.2.2.1).1
  obtain ⟨a1, a2⟩ := (ax_kd_ty h10 hk).2.2.2.1 hkd
  refine ax_putFW C h.2.1 hv hd hl ht a2 hini hdecl (by rcases a1 with ⟨z, a1⟩ | ⟨z, a1⟩ <;> rw [a1] <;> rfl) (by rcases a1 with ⟨z, a1⟩ | ⟨z, a1⟩ <;> rw [a1] <;> rfl) fun H' e1 e2 e3 => ?_
  exact K H' _ cells slots la (h.mem (h.2.1.putR hv h10 hkd hlt e1 e2 e3) rfl (ax_adr_ge G (ax_ok_obj hv h10).2.1) (ax_oks_tl (ax_oks_tl h.2.2.2.1)))
theorem axw_putQ (C : ax_Cx p s mt meth c R G y d c0 cF) {t n o q idx n' o' : Nat} (hd : decode (ax_by y) pc = .ok (.putfield idx, 3)) (hl : (ax_oy y, idx, q) ∈ ax_FL) (ht : q / 100 = t) (hkd : ax_kd t (q % 100) = 4)
    (K : ax_WW p l e R s mt args below meth c Q G c0 (ax_ml y) (pc + 3, ls, r, ax_wr (ax_wi m o (q % 100) (nI o')) o (q % 100))) : ax_WW p l e R s mt args below meth c Q G c0 (ax_ml y) (pc, ls, ax_vr 10 n' o' :: ax_vr t n o :: r, m) := by
  intro H locs cells slots la h
  obtain ⟨-, h10, hk⟩ := ax_FL_of hl C.2.2.2.2.2.2.2.2.2
  rw [ht] at h10 hk
  have hv := ax_oks_hd (ax_oks_tl h.2.2.2.1)
  obtain ⟨b1, b2, b3, -⟩ := ax_ok_arr (ax_oks_hd h.2.2.2.1) (by omega) (by omega)
  obtain ⟨⟨z, a1⟩, a2⟩ := (ax_kd_ty h10 hk).2.2.2.2.1 hkd
  refine ax_putW C h.2.1 hv hd hl ht a2 (by rw [a1]; rfl) (by rw [a1]; rfl) fun H' e1 e2 e3 => ?_
  exact K H' _ cells slots la (h.mem (h.2.1.putQ hv h10 hkd b2 b1 (by rw [b3]) e1 e2 e3) rfl (ax_adr_ge G (ax_ok_obj hv h10).2.1) (ax_oks_tl (ax_oks_tl h.2.2.2.1)))
theorem ax_aty_cls {t : Nat} (h : 13 ≤ t) (h2 : t ≤ 15) {n o i : Nat} : ∃ cc : Nat, cc < 10 ∧ ax_aty t = .object (ax_R cc) ∧ (ax_ely t n o i).1 = cc := by
  rcases (show t = 13 ∨ t = 14 ∨ t = 15 by omega) with rfl | rfl | rfl
  · exact ⟨4, by omega, rfl, rfl⟩
  · exact ⟨4, by omega, rfl, rfl⟩
  · exact ⟨1, by omega, rfl, rfl⟩
theorem axw_aastore (C : ax_Cx p s mt meth c R G y d c0 cF) {t n o : Nat} {j : Int32} (hd : decode (ax_by y) pc = .ok (.aastore, 1)) (h1 : 13 ≤ t) (h2 : t ≤ 15) (hj : ax_inb j n = true)
    (K : ax_WW p l e R s mt args below meth c Q G c0 (ax_ml y) (pc + 1, ls, r, ax_wr m o j.toNatClampNeg)) : ax_WW p l e R s mt args below meth c Q G c0 (ax_ml y) (pc, ls, .inr (.inr (ax_ely t n o j.toNatClampNeg)) :: ax_vi j :: ax_vr t n o :: r, m) := by
  intro H locs cells slots la h
  have hv := ax_oks_hd (ax_oks_tl (ax_oks_tl h.2.2.2.1))
  have hu := ax_oks_hd h.2.2.2.1
  obtain ⟨cc, c10, ety, ecl⟩ := ax_aty_cls h1 h2 (n := n) (o := o) (i := j.toNatClampNeg)
  obtain ⟨a1, a2, -⟩ := ax_rd h.2.1 hv (by omega) (by omega) hj
  have hu' : ax_ok G m.1 (ax_vr cc (ax_ely t n o j.toNatClampNeg).2.1 (ax_ely t n o j.toNatClampNeg).2.2) := by
    rw [← ecl]; exact hu
  obtain ⟨cellV, g1, g2, g3, -⟩ := h.2.1.obj hu' c10
  have hcls := (C.2.2.2.2.2.2.2.1.2.1 cc c10).2
  obtain ⟨kC, hkC, -⟩ := hcls.2
  have hov : (Cond.arrayOver (.object (ax_R cc))).before args s = true := by
    refine ax_word C ?_ rfl
    rcases (show t = 13 ∨ t = 14 ∨ t = 15 by omega) with rfl | rfl | rfl
    · have e4 : cc = 4 := ecl.symm.trans rfl
      subst e4; exact List.mem_append_right _ (by decide +kernel)
    · have e4 : cc = 4 := ecl.symm.trans rfl
      subst e4; exact List.mem_append_right _ (by decide +kernel)
    · have e4 : cc = 1 := ecl.symm.trans rfl
      subst e4; exact List.mem_append_right _ (by decide +kernel)
  obtain ⟨comp, cA, kA, f1, -, f3, f4, f5⟩ := Cond.arrayOver_spec hov
  have hcA : cA = G.2.2.2.2.1 t := by
    have := (C.2.2.2.2.2.2.2.1.2.2.1 t (by omega) (by omega)).2
    rw [ety] at this
    exact Option.some.inj (f5.symm.trans this)
  subst hcA
  have hcomp : comp = G.2.2.1 cc := Option.some.inj (f1.symm.trans hcls.1)
  subst hcomp
  have h0 := ax_inb_of hj
  refine W.aast C.1 C.2.1 a1 (fun q z => by cases z) (fun z => by cases z) f3 f4 rfl hkC ⟨h0.1, by rw [arrV_size]; exact h0.2⟩ g1 (fun q z => by rw [g3] at z; cases z) (by rw [g2]; exact hkC) (by rw [g2]; exact va_assign hcls) rfl rfl hd fun H' e1 e2 e3 => ?_
  exact K H' _ cells slots la (h.mem (h.2.1.stR hv h1 h2 hu.1 e1 e2 e3) rfl (ax_adr_ge G (ax_ok_arr hv (by omega) (by omega)).2.1) (ax_oks_tl (ax_oks_tl (ax_oks_tl h.2.2.2.1))))
end AXN
