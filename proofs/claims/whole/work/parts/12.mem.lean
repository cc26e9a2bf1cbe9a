/-! fields and arrays -/
theorem ax_inb_of {j : Int32} {n : Nat} (h : ax_inb j n = true) : ¬ j < 0 ∧ j.toNatClampNeg < n := by
  unfold ax_inb at h
  simp only [Bool.and_eq_true, decide_eq_true_eq, Nat.blt_eq] at h
  exact ⟨Int32.not_lt.mpr h.1, h.2⟩
theorem ax_inb_in {j : Int32} {n : Nat} (h : ax_inb j n = true) : ¬ (j < 0 ∨ n ≤ j.toNatClampNeg) := by
  have := ax_inb_of h
  intro q
  rcases q with q | q
  · exact this.1 q
  · omega
theorem ax_lay_kw {C : String} {T : u_T} {N : Nat} : ∀ w ∈ u_ws C T N, ax_kw w = true := by
  intro w hw
  obtain ⟨k, -, rfl⟩ := List.mem_map.mp hw
  unfold u_lay
  split <;> rfl
theorem ax_FL_of {y idx q : Nat} (h : (ax_oy y, idx, q) ∈ ax_FL) (ho : ax_oc (ax_oy y) = (ax_nm y).cls) : Cond.fieldLink (ax_nm y).cls idx (ax_T (q / 100) (q % 100)).1 (ax_T (q / 100) (q % 100)).2.1 (ax_T (q / 100) (q % 100)).2.2.1 ∈ lw_tbl ∧ q / 100 < 10 ∧ q % 100 < ax_N (q / 100) := by
  have h1 := ax_subl_in _ _ ax_FLs _ (List.mem_map.mpr ⟨_, h, rfl⟩)
  have h2 := List.all_eq_true.mp ax_FLr _ h
  dsimp only at h1 h2
  rw [ho] at h1
  simp only [Bool.and_eq_true, Nat.blt_eq] at h2
  exact ⟨h1, h2⟩
/-- a reference field that is set gives a reference that is good -/
theorem ax_lay_ok {G : ax_G} {m : ax_M} {H : Heap} (h : ax_Rep G m H) {t n o k : Nat} (hv : ax_ok G m.1 (ax_vr t n o)) (ht : t < 10) (hk : k < ax_N t) (hkd : ax_kd t k = 2) (hS : m.2.2.2 o k = true) : ax_ok G m.1 (.inr (.inr (ax_lay t n o k))) := by
  obtain ⟨h1, h3, h4, h5⟩ := ax_ok_obj hv ht
  have e := ax_layok o h5 h3 (by rw [h4]; exact ht) k (by rw [h4]; exact hk) (by rw [h4]; exact hkd)
  rw [h4] at e
  have e5 := h.2.2.2.2.1 o h3 h1 k (by rw [ax_sz_obj h4 ht]; exact hk) hS
  rw [h4] at e5
  unfold ax_tg at e5
  rw [if_pos ht, if_pos hkd] at e5
  exact ⟨e5, by rw [ax_sp3 G e.2]; exact e.1⟩
theorem ax_ely_ok {G : ax_G} {m : ax_M} {H : Heap} (h : ax_Rep G m H) {t n o i : Nat} (hv : ax_ok G m.1 (ax_vr t n o)) (ht : 13 ≤ t) (ht2 : t ≤ 17) (hi : i < n) (hS : m.2.2.2 o i = true) : ax_ok G m.1 (.inr (.inr (ax_ely t n o i))) := by
  obtain ⟨h1, h3, h4, h5⟩ := ax_ok_arr hv (by omega) (by omega)
  have e := ax_elyok o h5 (by rw [h4]; exact ht) (by rw [h4]; show t < 18; omega) h3 i (by rw [h4]; exact hi)
  rw [h4] at e
  have e5 := h.2.2.2.2.1 o h3 h1 i (by rw [ax_sz_arr h4 (by omega)]; exact hi) hS
  rw [h4] at e5
  unfold ax_tg at e5
  rw [if_neg (by omega), if_pos ⟨ht, ht2⟩] at e5
  exact ⟨e5, by rw [ax_sp3 G e.2]; exact e.1⟩
theorem ax_ro_of {G : ax_G} {cnt t n o : Nat} (h : ax_ok G cnt (ax_vr t n o)) (ht : 18 ≤ t) (ht2 : t < 21) : (t = 19 ∧ o = 0 ∧ n = G.2.2.2.2.2.1) ∨ (t = 20 ∧ o = 1 ∧ n = 6) ∨ (t = 18 ∧ o = 2 ∧ n = 6) := by
  obtain ⟨-, q2⟩ := h
  have q2 : ax_sp G o = (t, n) := q2
  rcases Nat.lt_or_ge o 3 with q | q
  · rcases (show o = 0 ∨ o = 1 ∨ o = 2 by omega) with rfl | rfl | rfl
    · unfold ax_sp at q2; rw [if_pos rfl] at q2
      have e1 := congrArg Prod.fst q2; have e2 := congrArg Prod.snd q2; simp at e1 e2
      exact Or.inl ⟨e1.symm, rfl, e2.symm⟩
    · have e : ax_sp G 1 = (20, 6) := rfl
      rw [e] at q2
      have e1 := congrArg Prod.fst q2; have e2 := congrArg Prod.snd q2; simp at e1 e2
      exact Or.inr (Or.inl ⟨e1.symm, rfl, e2.symm⟩)
    · have e : ax_sp G 2 = (18, 6) := rfl
      rw [e] at q2
      have e1 := congrArg Prod.fst q2; have e2 := congrArg Prod.snd q2; simp at e1 e2
      exact Or.inr (Or.inr ⟨e1.symm, rfl, e2.symm⟩)
  · exfalso
    rw [ax_sp3 G q] at q2
    rcases Nat.lt_or_ge o 212 with z | z
    · have := ax_shp3 o z q
      rw [q2] at this
      have : t < 18 := this
      omega
    · rw [ax_shp_big z] at q2
      have e1 := congrArg Prod.fst q2; simp at e1; omega
section AXM
variable {p : Program} {l : Launch} {e : Env} {R : Room} {s : State} {mt : MethodId} {args : Array Value} {below : List Frame} {meth : Method} {c : Code} {Q : State → Prop} {G : ax_G} {c0 cF d y nl : Nat}
variable {pc : Nat} {ls : ax_L} {st r : List ax_V} {m : ax_M} {H : Heap} {locs : List Loc} {cells slots : Nat} {la : Array Slot} {rest : List Value}
theorem ax_hts (C : ax_Cx p s mt meth c R G y d c0 cF) {t : Nat} (ht : t < 10) : ∀ w ∈ u_ws (ax_R t) (ax_T t) (ax_N t), w.before args s = true := fun w hw => C.2.2.2.2.2.2.2.1.1 args w (ax_in t ht w hw) (ax_lay_kw w hw)
theorem ax_apart (C : ax_Cx p s mt meth c R G y d c0 cF) {t : Nat} (ht : t < 10) : ∀ a b, a < ax_N t → b < ax_N t → a ≠ b → G.2.2.2.1 t a ≠ G.2.2.2.1 t b := by
  intro x y hx hy hne
  obtain ⟨hS, -⟩ := C.2.2.2.2.2.2.2.1.2.1 t ht
  obtain ⟨_, _, _, fa, hia, ea⟩ := hS x hx
  obtain ⟨_, _, _, fb, hib, eb⟩ := hS y hy
  rw [← ea, ← eb]
  refine u_apart (args := #[]) (u_lays (ax_hts C ht) (fun _ h => h) hx) (u_lays (ax_hts C ht) (fun _ h => h) hy) hia hib ?_
  rw [(State.fieldFound?_type hia (ax_tyok t ht x hx)).1, (State.fieldFound?_type hib (ax_tyok t ht y hy)).1]
  exact ax_nmok t ht x hx y hy hne
theorem ax_getW (C : ax_Cx p s mt meth c R G y d c0 cF) {t n o q idx : Nat} (hR : ax_Rep G m H) (hv : ax_ok G m.1 (ax_vr t n o)) (hd : decode (ax_by y) pc = .ok (.getfield idx, 3)) (hl : (ax_oy y, idx, q) ∈ ax_FL) (ht : q / 100 = t)
    (kk : W p l e R s mt args below meth c H locs cells slots Q (F0 mt (pc + 3) la (ax_fv G m t n o (q % 100) :: rest))) : W p l e R s mt args below meth c H locs cells slots Q (F0 mt pc la (.ref (ax_adr G o) :: rest)) := by
  obtain ⟨hw, h10, hk⟩ := ax_FL_of hl C.2.2.2.2.2.2.2.2.2
  subst ht
  obtain ⟨cell, q1, q2, q3, q4⟩ := hR.obj hv h10
  obtain ⟨hS, hfc, kC, hkC, hkind⟩ := C.2.2.2.2.2.2.2.1.2.1 _ h10
  obtain ⟨cf, kf, fi, f, hi, hsl⟩ := hS _ hk
  exact W.getf C.1 C.2.1 C.2.2.2.2.1 (ax_word C hw rfl) hi (u_facts hfc hkC (u_lays (ax_hts (args := args) C h10) (fun _ h => h) hk) hi).1 q1 (by rw [q3]; exact fun h => by cases h) (by rw [hsl, q4 _ hk]) rfl rfl hd kk
theorem ax_putW (C : ax_Cx p s mt meth c R G y d c0 cF) {t n o q idx : Nat} {v : Value} (hR : ax_Rep G m H) (hv : ax_ok G m.1 (ax_vr t n o)) (hd : decode (ax_by y) pc = .ok (.putfield idx, 3)) (hl : (ax_oy y, idx, q) ∈ ax_FL) (ht : q / 100 = t) (hfin : (ax_T t (q % 100)).2.2.2 = false)
    (hn : narrow (ax_ty t (q % 100)) v = v) (hfit : fits (ax_ty t (q % 100)) v = true)
    (kk : ∀ H' : Heap, t_OB (ax_adr G o) (G.2.2.1 t) (ax_N t) (G.2.2.2.1 t) H' (updV (ax_fv G m t n o) (q % 100) v) → H'.size = H.size → (∀ a : Nat, a ≠ ax_adr G o → H'[a]? = H[a]?) → W p l e R s mt args below meth c H' (locs ++ [⟨ax_adr G o, G.2.2.2.1 t (q % 100)⟩]) cells slots Q (F0 mt (pc + 3) la rest)) : W p l e R s mt args below meth c H locs cells slots Q (F0 mt pc la (v :: .ref (ax_adr G o) :: rest)) := by
  obtain ⟨hw, h10, hk⟩ := ax_FL_of hl C.2.2.2.2.2.2.2.2.2
  subst ht
  have hap := ax_apart C h10
  obtain ⟨cell, q1, q2, q3, q4⟩ := hR.obj hv h10
  obtain ⟨hS, hfc, kC, hkC, hkind⟩ := C.2.2.2.2.2.2.2.1.2.1 _ h10
  obtain ⟨cf, kf, fi, f, hi, hsl⟩ := hS _ hk
  have hlay := ax_hts (args := args) C h10 _ (u_in_lay hk)
  unfold u_lay at hlay
  rw [if_neg (by rw [hfin]; decide)] at hlay
  have hst := (u_facts hfc hkC (u_lays (ax_hts (args := args) C h10) (fun _ h => h) hk) hi).1
  have h6 := u_store hfc hkC hkind hlay hi (ax_tyok _ h10 _ hk) hn hfit
  refine W.putK C.1 C.2.1 (f := f) ⟨C.2.2.2.2.1, ax_word C hw rfl, ⟨_, _, _, hi⟩, hst⟩ (by rw [q2]; exact h6) q1 q3 (by rw [hsl]; exact k2_hasslot (q4 _ hk)) rfl rfl hd fun H' e1 e2 e3 => ?_
  rw [hsl] at e1 ⊢
  exact kk H' ⟨_, e1, q2, q3, t_set q4 hap hk v⟩ e2 e3
theorem ax_putFW (C : ax_Cx p s mt meth c R G y d c0 cF) {t n o q idx : Nat} {v : Value} (hR : ax_Rep G m H) (hv : ax_ok G m.1 (ax_vr t n o)) (hd : decode (ax_by y) pc = .ok (.putfield idx, 3)) (hl : (ax_oy y, idx, q) ∈ ax_FL) (ht : q / 100 = t) (hfin : (ax_T t (q % 100)).2.2.2 = true)
    (hini : (ax_nm y).name = "<init>") (hdecl : (ax_T t (q % 100)).1 = (ax_nm y).cls) (hn : narrow (ax_ty t (q % 100)) v = v) (hfit : fits (ax_ty t (q % 100)) v = true)
    (kk : ∀ H' : Heap, t_OB (ax_adr G o) (G.2.2.1 t) (ax_N t) (G.2.2.2.1 t) H' (updV (ax_fv G m t n o) (q % 100) v) → H'.size = H.size → (∀ a : Nat, a ≠ ax_adr G o → H'[a]? = H[a]?) → W p l e R s mt args below meth c H' (locs ++ [⟨ax_adr G o, G.2.2.2.1 t (q % 100)⟩]) cells slots Q (F0 mt (pc + 3) la rest)) : W p l e R s mt args below meth c H locs cells slots Q (F0 mt pc la (v :: .ref (ax_adr G o) :: rest)) := by
  obtain ⟨hw, h10, hk⟩ := ax_FL_of hl C.2.2.2.2.2.2.2.2.2
  subst ht
  have hap := ax_apart C h10
  obtain ⟨cell, q1, q2, q3, q4⟩ := hR.obj hv h10
  obtain ⟨hS, hfc, kC, hkC, hkind⟩ := C.2.2.2.2.2.2.2.1.2.1 _ h10
  obtain ⟨cf, kf, fi, f, hi, hsl⟩ := hS _ hk
  have hlay := ax_hts (args := args) C h10 _ (u_in_lay hk)
  unfold u_lay at hlay
  rw [if_pos hfin] at hlay
  have hst := (u_facts hfc hkC (u_lays (ax_hts (args := args) C h10) (fun _ h => h) hk) hi).1
  have hown : s.vm.findClass (ax_nm y).cls = some mt.cls := C.2.2.2.2.1
  have hcf : mt.cls = cf := by
    obtain ⟨_, _, c', _, _, _, -, -, hf', -, -, -, hown2, -⟩ := Cond.laysFinal_spec hlay
    have e1 : c' = cf := by have := hi.symm.trans hf'; simp at this; exact this.1.symm
    rw [hdecl] at hown2
    rw [← e1]; exact Option.some.inj (hown.symm.trans hown2)
  have h6 := u_fits hfc hkC hkind (Or.inr hlay) hi (ax_tyok _ h10 _ hk) hn hfit
  refine W.putFinK C.1 C.2.1 hown (ax_word C hw rfl) hi hst hcf (by rw [C.2.2.2.2.2.1]; exact hini) (by rw [q2]; exact h6) q1 q3 (by rw [hsl]; exact k2_hasslot (q4 _ hk)) rfl rfl hd fun H' e1 e2 e3 => ?_
  rw [hsl] at e1 ⊢
  exact kk H' ⟨_, e1, q2, q3, t_set q4 hap hk v⟩ e2 e3
theorem ax_arrOf (C : ax_Cx p s mt meth c R G y d c0 cF) {t n : Nat} (h1 : 10 ≤ t) (h2 : t < 18) (f : Nat → Value) : s.isArrayOf (arrV (G.2.2.2.2.1 t) n f) (ax_aty t) := (C.2.2.2.2.2.2.2.1.2.2.1 t h1 h2).1 n f
/-- reading a place of an array that was made here -/
theorem ax_rd (hR : ax_Rep G m H) {t n o : Nat} (hv : ax_ok G m.1 (ax_vr t n o)) (h1 : 10 ≤ t) (h2 : t < 18) {j : Int32} (hj : ax_inb j n = true) :
    H[ax_adr G o]? = some (arrV (G.2.2.2.2.1 t) n (ax_av G m t n o)) ∧ ¬ (j < 0 ∨ (arrV (G.2.2.2.2.1 t) n (ax_av G m t n o)).slots.size ≤ j.toNatClampNeg) ∧ (arrV (G.2.2.2.2.1 t) n (ax_av G m t n o)).slots[j.toNatClampNeg]? = some (ax_av G m t n o j.toNatClampNeg) :=
  ⟨hR.arr hv h1 h2, by rw [arrV_size]; exact ax_inb_in hj, arrV_read _ _ (ax_inb_of hj).2⟩
/-- .. of one of the three that stood before -/
theorem ax_rdT (hR : ax_Rep G m H) {ty : FieldType} {N o : Nat} (ho : o < 3) (hT : va_T ty (G.2.1 o) N (fun j => .int (G.2.2.2.2.2.2 o j)) (fun q => G.1.size ≤ q) s G.1) {j : Int32} (hj : ax_inb j N = true) :
    ∃ cell : Cell, H[ax_adr G o]? = some cell ∧ s.isArrayOf cell ty ∧ cell.vm ≠ .unknown ∧ ¬ (j < 0 ∨ cell.slots.size ≤ j.toNatClampNeg) ∧ cell.slots[j.toNatClampNeg]? = some (.int (m.2.1 o j.toNatClampNeg)) := by
  obtain ⟨cell, h1, h2, h3, h4, h5, h6, h7⟩ := hT
  have hlt := (Array.getElem?_eq_some_iff.mp h1).1
  have hj2 := ax_inb_of hj
  refine ⟨cell, by unfold ax_adr; rw [if_pos ho, hR.2.2.1 _ hlt]; exact h1, h2, h3, fun q => ?_, by rw [h6 _ hj2.2, hR.2.2.2.2.2.2 o _ ho]⟩
  rcases q with q | q
  · exact hj2.1 q
  · omega
theorem axw_iaload (C : ax_Cx p s mt meth c R G y d c0 cF) {t n o : Nat} {j : Int32} (hd : decode (ax_by y) pc = .ok (.iaload, 1)) (ht : t = 10 ∨ t = 19 ∨ t = 20) (hj : ax_inb j n = true)
    (K : ax_WW p l e R s mt args below meth c Q G c0 (ax_ml y) (pc + 1, ls, ax_vi (m.2.1 o j.toNatClampNeg) :: r, m)) : ax_WW p l e R s mt args below meth c Q G c0 (ax_ml y) (pc, ls, ax_vi j :: ax_vr t n o :: r, m) := by
  intro H locs cells slots la h
  have K' := K H locs cells slots la (h.st (ax_oks_cons trivial (ax_oks_tl (ax_oks_tl h.2.2.2.1))))
  have hv := ax_oks_hd (ax_oks_tl h.2.2.2.1)
  rcases ht with rfl | ht
  · obtain ⟨a1, a2, a3⟩ := ax_rd h.2.1 hv (by omega) (by omega) hj
    rw [ax_av_int (by omega)] at a3
    exact W.iald C.1 C.2.1 a1 (ax_arrOf C (t := 10) (by omega) (by omega) _) (fun q => by cases q) a2 a3 rfl rfl hd K'
  · rcases ax_ro_of hv (by omega) (by omega) with ⟨e1, rfl, rfl⟩ | ⟨e1, rfl, rfl⟩ | ⟨e1, -, -⟩
    · obtain ⟨cell, a1, a2, a3, a4, a5⟩ := ax_rdT h.2.1 (by omega) C.2.2.2.2.2.2.2.1.2.2.2.2.2.1 hj
      exact W.iald C.1 C.2.1 a1 a2 a3 a4 a5 rfl rfl hd K'
    · obtain ⟨cell, a1, a2, a3, a4, a5⟩ := ax_rdT h.2.1 (by omega) C.2.2.2.2.2.2.2.1.2.2.2.2.2.2.1 hj
      exact W.iald C.1 C.2.1 a1 a2 a3 a4 a5 rfl rfl hd K'
    · omega
theorem axw_caload (C : ax_Cx p s mt meth c R G y d c0 cF) {n o : Nat} {j : Int32} (hd : decode (ax_by y) pc = .ok (.caload, 1)) (hj : ax_inb j n = true)
    (K : ax_WW p l e R s mt args below meth c Q G c0 (ax_ml y) (pc + 1, ls, ax_vi (m.2.1 o j.toNatClampNeg) :: r, m)) : ax_WW p l e R s mt args below meth c Q G c0 (ax_ml y) (pc, ls, ax_vi j :: ax_vr 18 n o :: r, m) := by
  intro H locs cells slots la h
  have K' := K H locs cells slots la (h.st (ax_oks_cons trivial (ax_oks_tl (ax_oks_tl h.2.2.2.1))))
  have hv := ax_oks_hd (ax_oks_tl h.2.2.2.1)
  rcases ax_ro_of hv (by omega) (by omega) with ⟨e1, -, -⟩ | ⟨e1, -, -⟩ | ⟨e1, rfl, rfl⟩
  · omega
  · omega
  · obtain ⟨cell, a1, a2, a3, a4, a5⟩ := ax_rdT h.2.1 (by omega) C.2.2.2.2.2.2.2.1.2.2.2.2.2.2.2 hj
    exact W.cald C.1 C.2.1 a1 a2 a3 a4 a5 rfl rfl hd K'
theorem axw_baload (C : ax_Cx p s mt meth c R G y d c0 cF) {t n o : Nat} {j : Int32} (hd : decode (ax_by y) pc = .ok (.baload, 1)) (ht : t = 11 ∨ t = 12) (hj : ax_inb j n = true)
    (K : ax_WW p l e R s mt args below meth c Q G c0 (ax_ml y) (pc + 1, ls, ax_vi (m.2.1 o j.toNatClampNeg) :: r, m)) : ax_WW p l e R s mt args below meth c Q G c0 (ax_ml y) (pc, ls, ax_vi j :: ax_vr t n o :: r, m) := by
  intro H locs cells slots la h
  have K' := K H locs cells slots la (h.st (ax_oks_cons trivial (ax_oks_tl (ax_oks_tl h.2.2.2.1))))
  have hv := ax_oks_hd (ax_oks_tl h.2.2.2.1)
  rcases ht with rfl | rfl
  · obtain ⟨a1, a2, a3⟩ := ax_rd h.2.1 hv (by omega) (by omega) hj
    rw [ax_av_int (by omega)] at a3
    exact W.zald C.1 C.2.1 a1 (ax_arrOf C (t := 11) (by omega) (by omega) _) (fun q => by cases q) a2 a3 rfl rfl hd K'
  · obtain ⟨a1, a2, a3⟩ := ax_rd h.2.1 hv (by omega) (by omega) hj
    rw [ax_av_int (by omega)] at a3
    exact W.bald C.1 C.2.1 a1 (ax_arrOf C (t := 12) (by omega) (by omega) _) (fun q => by cases q) a2 a3 rfl rfl hd K'
theorem ax_aty_ref {t : Nat} (h : 13 ≤ t) (h2 : t ≤ 17) : (ax_aty t).isReference = true := by
  rcases (show t = 13 ∨ t = 14 ∨ t = 15 ∨ t = 16 ∨ t = 17 by omega) with rfl | rfl | rfl | rfl | rfl <;> rfl
theorem axw_aaload (C : ax_Cx p s mt meth c R G y d c0 cF) {t n o : Nat} {j : Int32} (hd : decode (ax_by y) pc = .ok (.aaload, 1)) (h1 : 13 ≤ t) (h2 : t ≤ 17) (hS : m.2.2.2 o j.toNatClampNeg = true) (hj : ax_inb j n = true)
    (K : ax_WW p l e R s mt args below meth c Q G c0 (ax_ml y) (pc + 1, ls, .inr (.inr (ax_ely t n o j.toNatClampNeg)) :: r, m)) : ax_WW p l e R s mt args below meth c Q G c0 (ax_ml y) (pc, ls, ax_vi j :: ax_vr t n o :: r, m) := by
  intro H locs cells slots la h
  have hv := ax_oks_hd (ax_oks_tl h.2.2.2.1)
  have K' := K H locs cells slots la (h.st (ax_oks_cons (ax_ely_ok h.2.1 hv h1 h2 (ax_inb_of hj).2 hS) (ax_oks_tl (ax_oks_tl h.2.2.2.1))))
  obtain ⟨a1, a2, a3⟩ := ax_rd h.2.1 hv (by omega) (by omega) hj
  rw [ax_av_ref h1 h2, if_pos hS] at a3
  exact W.aald C.1 C.2.1 a1 (ax_arrOf C (by omega) (by omega) _) (ax_aty_ref h1 h2) (fun q => by cases q) a2 a3 rfl rfl hd K'
theorem axw_alen (C : ax_Cx p s mt meth c R G y d c0 cF) {t n o : Nat} (hd : decode (ax_by y) pc = .ok (.arraylength, 1)) (h1 : 10 ≤ t)
    (K : ax_WW p l e R s mt args below meth c Q G c0 (ax_ml y) (pc + 1, ls, ax_vi (nI n) :: r, m)) : ax_WW p l e R s mt args below meth c Q G c0 (ax_ml y) (pc, ls, ax_vr t n o :: r, m) := by
  intro H locs cells slots la h
  have K' := K H locs cells slots la (h.st (ax_oks_cons trivial (ax_oks_tl h.2.2.2.1)))
  have hv := ax_oks_hd h.2.2.2.1
  rcases Nat.lt_or_ge t 18 with q | q
  · exact W.alen C.1 C.2.1 (h.2.1.arr hv h1 q) (ax_arrOf C h1 q _) (by rw [arrV_size]; rfl) rfl rfl hd K'
  · have h21 : t < 21 := by
      have e : ax_sp G o = (t, n) := hv.2
      rcases Nat.lt_or_ge o 212 with z | z
      · unfold ax_sp at e
        split at e
        · have e1 := congrArg Prod.fst e; simp at e1; omega
        · have := ax_shpok o z; rw [e] at this; exact this
      · have h3 : m.1 ≤ 212 := h.2.1.1.2
        have h4 : o < m.1 := hv.1
        omega
    have key : ∀ {ty : FieldType} {N o' : Nat}, o' < 3 → va_T ty (G.2.1 o') N (fun j => .int (G.2.2.2.2.2.2 o' j)) (fun q => G.1.size ≤ q) s G.1 → n = N → o = o' → W p l e R s mt args below meth c H locs cells slots Q (F0 mt pc la (.ref (ax_adr G o) :: r.map (ax_cv G))) := by
      intro ty N o' ho hT e1 e2
      subst e1; subst e2
      obtain ⟨cell, b1, b2, b3, b4, b5, b6, b7⟩ := hT
      have hlt := (Array.getElem?_eq_some_iff.mp b1).1
      exact W.alen C.1 C.2.1 (by unfold ax_adr; rw [if_pos ho, h.2.1.2.2.1 _ hlt]; exact b1) b2 b5 rfl rfl hd K'
    rcases ax_ro_of hv q h21 with ⟨-, e2, e3⟩ | ⟨-, e2, e3⟩ | ⟨-, e2, e3⟩
    · exact key (o' := 0) (by omega) C.2.2.2.2.2.2.2.1.2.2.2.2.2.1 e3 e2
    · exact key (o' := 1) (by omega) C.2.2.2.2.2.2.2.1.2.2.2.2.2.2.1 e3 e2
    · exact key (o' := 2) (by omega) C.2.2.2.2.2.2.2.1.2.2.2.2.2.2.2 e3 e2
theorem axw_iastore (C : ax_Cx p s mt meth c R G y d c0 cF) {n o : Nat} {j x : Int32} (hd : decode (ax_by y) pc = .ok (.iastore, 1)) (hj : ax_inb j n = true)
    (K : ax_WW p l e R s mt args below meth c Q G c0 (ax_ml y) (pc + 1, ls, r, ax_wi m o j.toNatClampNeg x)) : ax_WW p l e R s mt args below meth c Q G c0 (ax_ml y) (pc, ls, ax_vi x :: ax_vi j :: ax_vr 10 n o :: r, m) := by
  intro H locs cells slots la h
  have hv := ax_oks_hd (ax_oks_tl (ax_oks_tl h.2.2.2.1))
  obtain ⟨a1, a2, -⟩ := ax_rd h.2.1 hv (by omega) (by omega) hj
  refine W.iast C.1 C.2.1 a1 (ax_arrOf C (t := 10) (by omega) (by omega) _) (fun q => by cases q) a2 rfl rfl hd fun H' e1 e2 e3 => ?_
  exact K H' _ cells slots la (h.mem (h.2.1.stI hv (by omega) (by omega) e1 e2 e3) rfl (ax_adr_ge G (ax_ok_arr hv (by omega) (by omega)).2.1) (ax_oks_tl (ax_oks_tl (ax_oks_tl h.2.2.2.1))))
theorem axw_bastoreB (C : ax_Cx p s mt meth c R G y d c0 cF) {n o : Nat} {j x : Int32} (hd : decode (ax_by y) pc = .ok (.bastore, 1)) (hj : ax_inb j n = true)
    (K : ax_WW p l e R s mt args below meth c Q G c0 (ax_ml y) (pc + 1, ls, r, ax_wi m o j.toNatClampNeg x.toInt8.toInt32)) : ax_WW p l e R s mt args below meth c Q G c0 (ax_ml y) (pc, ls, ax_vi x :: ax_vi j :: ax_vr 12 n o :: r, m) := by
  intro H locs cells slots la h
  have hv := ax_oks_hd (ax_oks_tl (ax_oks_tl h.2.2.2.1))
  obtain ⟨a1, a2, -⟩ := ax_rd h.2.1 hv (by omega) (by omega) hj
  refine W.bast C.1 C.2.1 a1 (ax_arrOf C (t := 12) (by omega) (by omega) _) (fun q => by cases q) a2 rfl rfl hd fun H' e1 e2 e3 => ?_
  exact K H' _ cells slots la (h.mem (h.2.1.stI hv (by omega) (by omega) e1 e2 e3) rfl (ax_adr_ge G (ax_ok_arr hv (by omega) (by omega)).2.1) (ax_oks_tl (ax_oks_tl (ax_oks_tl h.2.2.2.1))))
theorem ax_bit_nar {x : Int32} (h : ax_bit x = true) : narrow .boolean (.int x) = .int x ∧ fits .boolean (.int x) = true := by
  unfold ax_bit at h
  simp only [Bool.or_eq_true, decide_eq_true_eq] at h
  rcases h with rfl | rfl <;> exact ⟨rfl, rfl⟩
theorem axw_bastoreZ (C : ax_Cx p s mt meth c R G y d c0 cF) {n o : Nat} {j x : Int32} (hd : decode (ax_by y) pc = .ok (.bastore, 1)) (hj : ax_inb j n = true) (hx : ax_bit x = true)
    (K : ax_WW p l e R s mt args below meth c Q G c0 (ax_ml y) (pc + 1, ls, r, ax_wi m o j.toNatClampNeg x)) : ax_WW p l e R s mt args below meth c Q G c0 (ax_ml y) (pc, ls, ax_vi x :: ax_vi j :: ax_vr 11 n o :: r, m) := by
  intro H locs cells slots la h
  have hv := ax_oks_hd (ax_oks_tl (ax_oks_tl h.2.2.2.1))
  obtain ⟨a1, a2, -⟩ := ax_rd h.2.1 hv (by omega) (by omega) hj
  refine W.zast C.1 C.2.1 a1 (ax_arrOf C (t := 11) (by omega) (by omega) _) (fun q => by cases q) a2 rfl rfl hd fun H' e1 e2 e3 => ?_
  rw [(ax_bit_nar hx).1] at e1
  exact K H' _ cells slots la (h.mem (h.2.1.stI hv (by omega) (by omega) e1 e2 e3) rfl (ax_adr_ge G (ax_ok_arr hv (by omega) (by omega)).2.1) (ax_oks_tl (ax_oks_tl (ax_oks_tl h.2.2.2.1))))
end AXM
