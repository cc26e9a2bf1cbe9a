/-! copies, statics, switches, calls -/
def ax_Pc (G : ax_G) (as : List ax_V) (m : ax_M) : Array Value → State → Prop := fun v U => v = (as.map (ax_cv G)).toArray ∧ ax_K G U ∧ ax_Rep G m U.heap ∧ ∀ a ∈ as, ax_ok G m.1 a
def ax_Qc (G : ax_G) (r : Option ax_V) (m' : ax_M) : Array Value → State → Outcome → State → Prop := fun _ _ o t => o = .returned (r.map (ax_cv G)) ∧ ax_Rep G m' t.heap
def ax_rm (d : Nat) (m m' : ax_M) : Room := { frames := d, cells := m'.1 - m.1, slots := ax_sl m'.1 - ax_sl m.1, locals := 48 * d }
/-- the contract of a method at these arguments, this memory -/
def ax_Met (l : Launch) (d y : Nat) (as : List ax_V) (m : ax_M) (r : Option ax_V) (m' : ax_M) : Prop :=
  ∀ G : ax_G, Met l (ax_nm y) [Cond.code (ax_nm y) (ax_by y) (ax_ml y) (ax_ret y)] (ax_rm d m m') (ax_Pc G as m) (ax_Qc G r m') (m'.1 - m.1) (ax_sl m'.1 - ax_sl m.1) (fun q => G.1.size ≤ q)
theorem ax_blind (G : ax_G) (as : List ax_V) (m : ax_M) : FrameBlind (ax_Pc G as m) := by
  intro a U g mk h
  obtain ⟨h1, h2, h3, h4⟩ := h
  exact ⟨h1, h2.warm (State.WarmedH.refl U), h3, h4⟩
theorem ax_Rl.memL {G : ax_G} {c0 nl : Nat} {ls : ax_L} {st st' : List ax_V} {m m' : ax_M} {H H' : Heap} {locs L : List Loc} {cells slots : Nat} {la : Array Slot} (h : ax_Rl G c0 nl ls st m H locs cells slots la) (hR : ax_Rep G m' H') (hc : m'.1 = m.1) (ha : ∀ q ∈ L, G.1.size ≤ q.base) (hs : ∀ v ∈ st', ax_ok G m.1 v) : ax_Rl G c0 nl ls st' m' H' (locs ++ L) cells slots la := by
  obtain ⟨h1, h2, h3, h4, h5, h6, h7, h8⟩ := h
  refine ⟨h1, hR, by rw [hc]; exact h3, by rw [hc]; exact hs, fun q hq => ?_, by rw [hc]; exact h6, by rw [hc]; exact h7, h8⟩
  rcases List.mem_append.mp hq with z | z
  · exact h5 q z
  · exact ha q z
theorem ax_wd_cat (G : ax_G) : ∀ (st : List ax_V), ((st.map (ax_cv G)).map fun v => v.category).sum = ax_wd st
  | [] => rfl
  | .inl x :: r => by
    have := ax_wd_cat G r
    show 1 + ((r.map (ax_cv G)).map fun v => v.category).sum = ax_wd r + 1
    omega
  | .inr (.inl x) :: r => by
    have := ax_wd_cat G r
    show 2 + ((r.map (ax_cv G)).map fun v => v.category).sum = ax_wd r + 2
    omega
  | .inr (.inr x) :: r => by
    have := ax_wd_cat G r
    show 1 + ((r.map (ax_cv G)).map fun v => v.category).sum = ax_wd r + 1
    omega
section AXC
variable {p : Program} {l : Launch} {e : Env} {R : Room} {s : State} {mt : MethodId} {args : Array Value} {below : List Frame} {meth : Method} {c : Code} {Q : State → Prop} {G : ax_G} {c0 cF d y nl : Nat}
variable {pc : Nat} {ls : ax_L} {st r : List ax_V} {m : ax_M} {H : Heap} {locs : List Loc} {cells slots : Nat} {la : Array Slot} {rest : List Value}
theorem ax_mls (C : ax_Cx p s mt meth c R G y d c0 cF) (h : ax_Rl G c0 (ax_ml y) ls st m H locs cells slots la) : c.maxLocals = la.size := by rw [h.1.1, h.2.2.2.2.2.2.2]; exact C.2.2.2.1
theorem axw_copy (C : ax_Cx p s mt meth c R G y d c0 cF) {n0 n1 o0 o1 idx : Nat} {sp dp n : Int32} (hd : decode (ax_by y) pc = .ok (.invokestatic idx, 3)) (hl : (ax_oy y, idx, 900) ∈ ax_ML) (h1 : 0 ≤ sp) (h2 : 0 ≤ dp) (h3 : 0 ≤ n) (h4 : sp.toNatClampNeg + n.toNatClampNeg ≤ n0) (h5 : dp.toNatClampNeg + n.toNatClampNeg ≤ n1)
    (K : ax_WW p l e R s mt args below meth c Q G c0 (ax_ml y) (pc + 3, ls, [], ax_wc m o0 o1 sp.toNatClampNeg dp.toNatClampNeg n.toNatClampNeg)) : ax_WW p l e R s mt args below meth c Q G c0 (ax_ml y) (pc, ls, [ax_vi n, ax_vi dp, ax_vr 10 n1 o1, ax_vi sp, ax_vr 10 n0 o0], m) := by
  intro H locs cells slots la h
  have h : ax_Rl G c0 (ax_ml y) ls [ax_vi n, ax_vi dp, ax_vr 10 n1 o1, ax_vi sp, ax_vr 10 n0 o0] m H locs cells slots la := h
  have hv1 := ax_oks_hd (ax_oks_tl (ax_oks_tl h.2.2.2.1))
  have hv0 := ax_oks_hd (ax_oks_tl (ax_oks_tl (ax_oks_tl (ax_oks_tl h.2.2.2.1))))
  have nn : ∀ z : Int32, 0 ≤ z → z.toInt = (z.toNatClampNeg : Int) := by
    intro z hz
    have hz0 : (0 : Int) ≤ z.toInt := by simpa using Int32.le_iff_toInt_le.mp hz
    show z.toInt = ((z.toInt.toNat : Nat) : Int)
    omega
  have hw := ax_ML_of hl C.2.2.2.2.2.2.2.2.2
  have hc0 : H[ax_adr G o0]? = some (arrV (G.2.2.2.2.1 10) n0 (fun j => .int (m.2.1 o0 j))) := by
    rw [h.2.1.arr hv0 (by omega) (by omega)]
    exact congrArg (fun f => some (arrV _ n0 f)) (funext fun j => ax_av_int (by omega))
  have hc1 : H[ax_adr G o1]? = some (arrV (G.2.2.2.2.1 10) n1 (fun j => .int (m.2.1 o1 j))) := by
    rw [h.2.1.arr hv1 (by omega) (by omega)]
    exact congrArg (fun f => some (arrV _ n1 f)) (funext fun j => ax_av_int (by omega))
  obtain ⟨-, k0, hk0, cm0, hkk0⟩ := ax_arrOf C (t := 10) (n := n0) (by omega) (by omega) (fun j => .int (m.2.1 o0 j))
  obtain ⟨hfr, hlo, -, -⟩ := C.2.2.2.2.2.2.2.2.1
  have hnw : nativeFrameWords "java/lang/System" "arraycopy" 5 = 7 := by decide +kernel
  have hk1 : s.vm.classes[(arrV (G.2.2.2.2.1 10) n1 (fun j => .int (m.2.1 o1 j))).cls]? = some k0 := hk0
  intro T hT X
  obtain ⟨vm', X', step⟩ := X.arraycopy C.1 C.2.2.2.2.1 (ax_word (args := args) C hw rfl) (ax_word C ax_copyw.1 rfl) (ax_word C ax_copyw.2.1 rfl) (ax_word C ax_copyw.2.2.1 rfl) (src := ax_adr G o0) (dst := ax_adr G o1) (cs := arrV (G.2.2.2.2.1 10) n0 (fun j => .int (m.2.1 o0 j))) (cd := arrV (G.2.2.2.2.1 10) n1 (fun j => .int (m.2.1 o1 j))) (srcPos := sp) (destPos := dp) (n := n) (by rw [hT]; exact hc0) (by rw [hT]; exact hc1)
    (fun _ h => by cases h) (fun _ h => by cases h) (fun h => by cases h) (fun h => by cases h) hk0 hk1 hkk0 hkk0 (by decide) (Int32.not_lt.mpr h1) (Int32.not_lt.mpr h2) (Int32.not_lt.mpr h3)
    (by rw [nn sp h1, nn n h3, arrV_size]; omega)
    (by rw [nn dp h2, nn n h3, arrV_size]; omega)
    (fun vm₁ _ i hi => by
      have e : (arrV (G.2.2.2.2.1 10) n0 (fun j => .int (m.2.1 o0 j))).slots.getD (sp.toNatClampNeg + i) .null = .int (m.2.1 o0 (sp.toNatClampNeg + i)) := by
        rw [Array.getD_eq_getD_getElem?, arrV_read _ _ (by omega)]
        rfl
      rw [e]
      exact ⟨rfl, trivial⟩)
    (g := F0 mt pc la [.int n, .int dp, .ref (ax_adr G o1), .int sp, .ref (ax_adr G o0)]) rfl (ax_mls C h).symm (rest := []) rfl (by rw [C.2.1]; exact hd) (by omega) (by show 2 * 0 + 0 + (nativeFrameWords "java/lang/System" "arraycopy" 5 + 11) ≤ _; rw [hnw]; omega)
  have e1 : copied (arrV (G.2.2.2.2.1 10) n0 (fun j => .int (m.2.1 o0 j))) (arrV (G.2.2.2.2.1 10) n1 (fun j => .int (m.2.1 o1 j))) sp dp n = arrV (G.2.2.2.2.1 10) n1 (fun j => .int (va_cpy (m.2.1 o0) (m.2.1 o1) sp.toNatClampNeg dp.toNatClampNeg n.toNatClampNeg j)) := va_copied (fun z => .int z) _ _ _ _ h4
  rw [e1] at X' step
  have hl1 : ax_adr G o1 < H.size := (Array.getElem?_eq_some_iff.mp hc1).1
  have hheap : ∀ x : Cell, ((T.setVm vm').setCell (ax_adr G o1) x).heap = H.setIfInBounds (ax_adr G o1) x := fun x => by rw [← hT]; rfl
  have hR := h.2.1.cpy (H' := H.setIfInBounds (ax_adr G o1) (arrV (G.2.2.2.2.1 10) n1 (fun j => .int (va_cpy (m.2.1 o0) (m.2.1 o1) sp.toNatClampNeg dp.toNatClampNeg n.toNatClampNeg j)))) (o0 := o0) (sp := sp.toNatClampNeg) (dp := dp.toNatClampNeg) (n := n.toNatClampNeg) hv1 (by simp [Array.getElem?_setIfInBounds, hl1]) (by simp) (fun q hq => by simp [Array.getElem?_setIfInBounds, Ne.symm hq])
  obtain ⟨t, a1, b1⟩ := K _ _ cells slots la (h.memL (st' := []) hR rfl (fun q hq => by
      obtain ⟨z, -, hz⟩ := List.mem_map.mp hq
      rw [← hz]
      exact ax_adr_ge G (ax_ok_arr hv1 (by omega) (by omega)).2.1) (fun v hv => by cases hv)) _ (hheap _) X'
  exact ⟨t, step t a1, b1⟩
theorem axw_objInit (C : ax_Cx p s mt meth c R G y d c0 cF) {q : Nat × Nat × Nat} {idx : Nat} (hd : decode (ax_by y) pc = .ok (.invokespecial idx, 3)) (hl : (ax_oy y, idx, 901) ∈ ax_ML)
    (K : ax_WW p l e R s mt args below meth c Q G c0 (ax_ml y) (pc + 3, ls, [], m)) : ax_WW p l e R s mt args below meth c Q G c0 (ax_ml y) (pc, ls, [.inr (.inr q)], m) := by
  intro H locs cells slots la h
  have hw := ax_ML_of hl C.2.2.2.2.2.2.2.2.2
  obtain ⟨hfr, hlo, -, -⟩ := C.2.2.2.2.2.2.2.2.1
  refine W.objInit C.1 C.2.1 C.2.2.2.2.1 (ax_word C hw rfl) (ax_word C ax_copyw.2.2.2.1 rfl) (ax_word C ax_copyw.2.2.2.2 rfl) rfl (ax_mls C h).symm rfl hd (by omega) (by show 2 * 0 + 0 + 12 ≤ _; omega) ?_
  exact K H locs cells slots la (h.st (fun v hv => by cases hv))
theorem axw_getstatic (C : ax_Cx p s mt meth c R G y d c0 cF) {idx k : Nat} (hd : decode (ax_by y) pc = .ok (.getstatic idx, 3)) (hk : (k = 1 ∧ Cond.fieldLinkNest (ax_nm y).cls idx "SecondWish" "PARENT" "[I" "SecondWish" ∈ lw_tbl) ∨ (k = 2 ∧ Cond.fieldLinkNest (ax_nm y).cls idx "SecondWish" "LETTER" "[C" "SecondWish" ∈ lw_tbl))
    (K : ax_WW p l e R s mt args below meth c Q G c0 (ax_ml y) (pc + 3, ls, ax_vr (ax_shp k).1 (ax_shp k).2 k :: r, m)) : ax_WW p l e R s mt args below meth c Q G c0 (ax_ml y) (pc, ls, r, m) := by
  intro H locs cells slots la h
  have h3 : 3 ≤ m.1 := h.2.1.1.1
  have K' := K H locs cells slots la (h.st (ax_oks_cons (⟨by show k < m.1; rcases hk with ⟨q, -⟩ | ⟨q, -⟩ <;> omega, by
    show ax_sp G k = _
    unfold ax_sp
    rw [if_neg (by rcases hk with ⟨q, -⟩ | ⟨q, -⟩ <;> omega)]⟩) h.2.2.2.1))
  rcases hk with ⟨rfl, hw⟩ | ⟨rfl, hw⟩
  · obtain ⟨cf, kf, fi, f, a, cell, z1, z2, z3, z4, z5, z6, z7, z8⟩ := C.2.2.2.2.2.2.2.1.2.2.2.1
    exact va_WgetsN C.1 C.2.1 C.2.2.2.2.1 (ax_word C hw rfl) z1 z2 z3 z4 (by rw [h.2.1.2.2.1 a (Array.getElem?_eq_some_iff.mp z5).1]; exact z5) (fun e => by rw [e] at z6; cases z6) z7 rfl hd K'
  · obtain ⟨cf, kf, fi, f, a, cell, z1, z2, z3, z4, z5, z6, z7, z8⟩ := C.2.2.2.2.2.2.2.1.2.2.2.2.1
    exact va_WgetsN C.1 C.2.1 C.2.2.2.2.1 (ax_word C hw rfl) z1 z2 z3 z4 (by rw [h.2.1.2.2.1 a (Array.getElem?_eq_some_iff.mp z5).1]; exact z5) (fun e => by rw [e] at z6; cases z6) z7 rfl hd K'
theorem ax_maxw : Cond.code Lib.Math.max.name Lib.Math.max.code 2 (some .int) ∈ lw_tbl ∧ Cond.static Lib.Math.max.name ∈ lw_tbl ∧ Cond.initialized "java/lang/Math" ∈ lw_tbl ∧ Cond.code Lib.Math.min.name Lib.Math.min.code 2 (some .int) ∈ lw_tbl ∧ Cond.static Lib.Math.min.name ∈ lw_tbl ∧ ax_mn 244 = Lib.Math.max.name ∧ ax_mn 245 = Lib.Math.min.name :=
  ⟨List.mem_of_getElem? (i := 339) rfl, List.mem_of_getElem? (i := 338) rfl, List.mem_of_getElem? (i := 88) rfl, List.mem_of_getElem? (i := 424) rfl, List.mem_of_getElem? (i := 423) rfl, rfl, rfl⟩
theorem ax_cellsR (C : ax_Cx p s mt meth c R G y d c0 cF) (h : ax_Rl G c0 (ax_ml y) ls st m H locs cells slots la) (hF : m.1 ≤ cF) : cells ≤ R.cells ∧ slots ≤ R.slots := by
  obtain ⟨h1, h2, h3, h4, h5, h6, ⟨h7, h7'⟩, h8⟩ := h
  obtain ⟨-, -, q1, q2⟩ := C.2.2.2.2.2.2.2.2.1
  have := ax_sl_mono hF
  omega
theorem axw_max (C : ax_Cx p s mt meth c R G y d c0 cF) {idx : Nat} {a b : Int32} (hd : decode (ax_by y) pc = .ok (.invokestatic idx, 3)) (hl : (ax_oy y, idx, 244) ∈ ax_ML) (hwd : ax_wd r ≤ 8) (hF : m.1 ≤ cF)
    (K : ax_WW p l e R s mt args below meth c Q G c0 (ax_ml y) (pc + 3, ls, ax_vi (if a < b then b else a) :: r, m)) : ax_WW p l e R s mt args below meth c Q G c0 (ax_ml y) (pc, ls, ax_vi b :: ax_vi a :: r, m) := by
  intro H locs cells slots la h
  have hw := ax_ML_of hl C.2.2.2.2.2.2.2.2.2
  rw [ax_maxw.2.2.2.2.2.1] at hw
  obtain ⟨hfr, hlo, -, -⟩ := C.2.2.2.2.2.2.2.2.1
  have hc := ax_cellsR C h hF
  exact va_mmax C.1 C.2.1 (ax_mls C h) C.2.2.2.2.1 (ax_word C hw rfl) (ax_word C ax_maxw.2.1 rfl) (ax_word C ax_maxw.2.2.1 rfl) (ax_word C ax_maxw.1 rfl) (by omega) (by rw [ax_wd_cat]; omega) hc.1 hc.2 hd (K H locs cells slots la (h.st (ax_oks_cons trivial (ax_oks_tl (ax_oks_tl h.2.2.2.1)))))
theorem axw_min (C : ax_Cx p s mt meth c R G y d c0 cF) {idx : Nat} {a b : Int32} (hd : decode (ax_by y) pc = .ok (.invokestatic idx, 3)) (hl : (ax_oy y, idx, 245) ∈ ax_ML) (hwd : ax_wd r ≤ 8) (hF : m.1 ≤ cF)
    (K : ax_WW p l e R s mt args below meth c Q G c0 (ax_ml y) (pc + 3, ls, ax_vi (if b < a then b else a) :: r, m)) : ax_WW p l e R s mt args below meth c Q G c0 (ax_ml y) (pc, ls, ax_vi b :: ax_vi a :: r, m) := by
  intro H locs cells slots la h
  have hw := ax_ML_of hl C.2.2.2.2.2.2.2.2.2
  rw [ax_maxw.2.2.2.2.2.2] at hw
  obtain ⟨hfr, hlo, -, -⟩ := C.2.2.2.2.2.2.2.2.1
  have hc := ax_cellsR C h hF
  exact va_mmin C.1 C.2.1 (ax_mls C h) C.2.2.2.2.1 (ax_word C hw rfl) (ax_word C ax_maxw.2.2.2.2.1 rfl) (ax_word C ax_maxw.2.2.1 rfl) (ax_word C ax_maxw.2.2.2.1 rfl) (by omega) (by rw [ax_wd_cat]; omega) hc.1 hc.2 hd (K H locs cells slots la (h.st (ax_oks_cons trivial (ax_oks_tl (ax_oks_tl h.2.2.2.1)))))
/-- behind a call -/
theorem ax_back {as : List ax_V} {m' : ax_M} {r' : Option ax_V} {stk : List Value} {aa : Array Value} (h : ax_Rl G c0 (ax_ml y) ls st m H locs cells slots la) (hsub : ∀ v ∈ r, v ∈ st) (hr : ∀ q, r' ≠ some (.inr (.inr q))) (hm : m.1 ≤ m'.1)
    (hrun : va_Run p l e R s mt args below meth c H locs cells slots (m'.1 - m.1) (ax_sl m'.1 - ax_sl m.1) (F0 mt pc la stk) (r.map (ax_cv G)) (ax_Qc G r' m' aa) (fun q => G.1.size ≤ q))
    (K : ax_WW p l e R s mt args below meth c Q G c0 (ax_ml y) (pc + 3, ls, r'.toList ++ r, m')) : W p l e R s mt args below meth c H locs cells slots Q (F0 mt pc la stk) := by
  intro T hT X
  obtain ⟨v, st₀, t, T', L, -, X', hL, e1, e2, ⟨hv, hR⟩, step⟩ := hrun T hT X
  have hv : v = r'.map (ax_cv G) := Outcome.returned.inj hv
  subst hv
  obtain ⟨h1, h2, h3, h4, h5, h6, ⟨h7, h7'⟩, h8⟩ := h
  have hsl1 := ax_sl_mono h6
  have hsl2 := ax_sl_mono hm
  have hRl : ax_Rl G c0 (ax_ml y) ls (r'.toList ++ r) m' T'.heap (locs ++ L) (cells + (m'.1 - m.1)) (slots + (ax_sl m'.1 - ax_sl m.1)) la := by
    refine ⟨h1, by rw [e1]; exact hR, fun i v hv => ax_ok_mono hm (h3 i v hv), fun v hv => ?_, fun q hq => ?_, by omega, ⟨by omega, by omega⟩, h8⟩
    · rcases List.mem_append.mp hv with z | z
      · have z2 : r' = some v := by simpa using z
        match v, z2 with
        | .inl _, _ => trivial
        | .inr (.inl _), _ => trivial
        | .inr (.inr q), z2 => exact absurd z2 (hr q)
      · exact ax_ok_mono hm (h4 v (hsub v z))
    · rcases List.mem_append.mp hq with z | z
      · exact h5 q z
      · exact hL q z
  obtain ⟨t2, a1, b1⟩ := K _ _ _ _ la hRl T' rfl X'
  refine ⟨t2, step t2 ?_, b1⟩
  have e3 : (r'.toList ++ r).map (ax_cv G) = (r'.map (ax_cv G)).toList ++ r.map (ax_cv G) := by cases r' <;> simp
  have a1 : Steps p.tables e below (T'.setTop (F0 mt (pc + 3) la ((r'.toList ++ r).map (ax_cv G)))) t2 := a1
  rw [e3] at a1
  exact a1
theorem ax_CB (C : ax_Cx p s mt meth c R G y d c0 cF) {y' idx d' n : Nat} {m' : ax_M} (hy : y' < 247) (hl : Cond.methodLink (ax_nm y).cls idx (ax_nm y') ∈ lw_tbl) (hd : d' ≤ d) (hn : ∀ sig, parseMethodDescriptor (ax_nm y').desc = some sig → n = sig.parameters.length) :
    CallB R s args (ax_nm y).cls idx (ax_nm y') (ax_by y') (ax_ml y') (ax_ret y') [Cond.code (ax_nm y') (ax_by y') (ax_ml y') (ax_ret y')] (ax_rm d' m m') (m'.1 - m.1) (ax_sl m'.1 - ax_sl m.1) n := by
  obtain ⟨⟨q1, q2, q3, q4, q5⟩, ⟨q6, q7, q8⟩, -⟩ := ax_mt_of hy
  obtain ⟨hfr, hlo, -, -⟩ := C.2.2.2.2.2.2.2.2.1
  refine ⟨rfl, rfl, by show d' + 1 ≤ _; omega, by show 8 + (ax_ml y' + 11) + 48 * d' ≤ _; omega, fun w hw a' U hW => ?_, List.mem_singleton.mpr rfl, ax_word C q1 rfl, ax_word C q2 rfl, q5, hn, ax_word C hl rfl⟩
  rw [List.mem_singleton.mp hw]
  exact ax_word_warm hW (show ax_kw (Cond.code _ _ _ _) = true from rfl) (ax_word (args := args) C q1 rfl)
theorem ax_len {y' n k : Nat} (h : (parseMethodDescriptor (ax_nm y').desc).map (fun d => d.parameters.length + k) = some (n + k)) : ∀ sig, parseMethodDescriptor (ax_nm y').desc = some sig → n = sig.parameters.length := by
  intro sig hs
  rw [hs] at h
  have h2 : sig.parameters.length + k = n + k := Option.some.inj h
  omega
theorem axw_callV (C : ax_Cx p s mt meth c R G y d c0 cF) {y' idx d' t n o : Nat} {as : List ax_V} {m' : ax_M} {r' : Option ax_V} (hd : decode (ax_by y) pc = .ok (.invokevirtual idx, 3)) (hl : (ax_oy y, idx, y') ∈ ax_ML) (hy : y' < 247) (hs : ax_st y' = 0) (hn : ax_na y' = as.length + 1) (ht : t = ax_oy y') (ht9 : t ≤ 9) (hwd : ax_wd r ≤ 8)
    (hM : ax_Met l d' y' (ax_vr t n o :: as) m r' m') (hdd : d' ≤ d) (hr : ∀ q, r' ≠ some (.inr (.inr q))) (hm : m.1 ≤ m'.1) (hF : m'.1 ≤ cF)
    (K : ax_WW p l e R s mt args below meth c Q G c0 (ax_ml y) (pc + 3, ls, r'.toList ++ r, m')) : ax_WW p l e R s mt args below meth c Q G c0 (ax_ml y) (pc, ls, as.reverse ++ ax_vr t n o :: r, m) := by
  intro H locs cells slots la h
  have h : ax_Rl G c0 (ax_ml y) ls (as.reverse ++ ax_vr t n o :: r) m H locs cells slots la := h
  have hw := ax_ML_of hl C.2.2.2.2.2.2.2.2.2
  rw [ax_mn_lt hy] at hw
  obtain ⟨⟨-, -, q3, -, -⟩, -, q0, -⟩ := ax_mt_of hy
  obtain ⟨g1, g2, g3⟩ := q0 hs
  rw [hn] at g3
  have hok : ∀ v ∈ ax_vr t n o :: as, ax_ok G m.1 v := fun v hv => h.2.2.2.1 v (by
    rcases List.mem_cons.mp hv with rfl | z
    · exact List.mem_append_right _ List.mem_cons_self
    · exact List.mem_append_left _ (List.mem_reverse.mpr z))
  have hroom : cells + (m'.1 - m.1) ≤ R.cells ∧ slots + (ax_sl m'.1 - ax_sl m.1) ≤ R.slots := by
    have := ax_room1 C h (k := m'.1 - m.1) (n := ax_sl m'.1 - ax_sl m.1) (by omega) (by rw [show m.1 + (m'.1 - m.1) = m'.1 by omega]; have := ax_sl_mono hm; omega)
    exact this
  have hcls : ax_R t = (ax_nm y').cls := by
    rw [← q3, ← ht]
    rcases (show t = 0 ∨ t = 1 ∨ t = 2 ∨ t = 3 ∨ t = 4 ∨ t = 5 ∨ t = 6 ∨ t = 7 ∨ t = 8 ∨ t = 9 by omega) with q | q | q | q | q | q | q | q | q | q <;> rw [q] <;> rfl
  refine ax_back (aa := (Value.ref (ax_adr G o) :: as.map (ax_cv G)).toArray) (as := as) (m' := m') (r' := r') h (fun v hv => List.mem_append_right _ (List.mem_cons_of_mem _ hv)) hr hm ?_ K
  refine va_runV (As := as.map (ax_cv G)) (b := ax_adr G o) (rest := r.map (ax_cv G)) (Ts := []) (C := (ax_nm y').cls) (cc := ax_by y) (nL := ax_ml y) (own := (ax_nm y).cls) ⟨C.1, C.2.1, C.2.2.2.1, C.2.2.2.2.1, fun w hw => by cases hw⟩ (hM G) ⟨ax_CB C hy hw hdd (ax_len g3), ax_word C g1 rfl, ax_word C g2 rfl⟩
    ⟨ax_blind _ _ _, ?_, fun U hU hW => ⟨rfl, C.2.2.2.2.2.2.2.1.warm hW, by rw [hU]; exact h.2.1, hok⟩⟩ rfl (by simp) (by rw [h.1.1, h.2.2.2.2.2.2.2]) (by simp [ax_cv]) (lv_room (by rw [ax_wd_cat]; exact hwd)) hd hroom
  obtain ⟨cell, k1, k2, k3, -⟩ := h.2.1.obj (hok _ List.mem_cons_self) (by omega)
  exact ⟨cell, k1, by rw [k3]; rfl, by rw [k2, ← hcls]; exact (C.2.2.2.2.2.2.2.1.2.1 t (by omega)).2.1⟩
theorem axw_callS (C : ax_Cx p s mt meth c R G y d c0 cF) {y' idx d' : Nat} {as : List ax_V} {m' : ax_M} {r' : Option ax_V} (hd : decode (ax_by y) pc = .ok (.invokestatic idx, 3)) (hl : (ax_oy y, idx, y') ∈ ax_ML) (hy : y' < 247) (hs : ax_st y' = 1) (hn : ax_na y' = as.length) (hwd : ax_wd r ≤ 8)
    (hM : ax_Met l d' y' as m r' m') (hdd : d' ≤ d) (hr : ∀ q, r' ≠ some (.inr (.inr q))) (hm : m.1 ≤ m'.1) (hF : m'.1 ≤ cF)
    (K : ax_WW p l e R s mt args below meth c Q G c0 (ax_ml y) (pc + 3, ls, r'.toList ++ r, m')) : ax_WW p l e R s mt args below meth c Q G c0 (ax_ml y) (pc, ls, as.reverse ++ r, m) := by
  intro H locs cells slots la h
  have h : ax_Rl G c0 (ax_ml y) ls (as.reverse ++ r) m H locs cells slots la := h
  have hw := ax_ML_of hl C.2.2.2.2.2.2.2.2.2
  rw [ax_mn_lt hy] at hw
  obtain ⟨g1, g3⟩ := (ax_mt_of hy).2.2.2.1 hs
  rw [hn] at g3
  have hok : ∀ v ∈ as, ax_ok G m.1 v := fun v hv => h.2.2.2.1 v (List.mem_append_left _ (List.mem_reverse.mpr hv))
  have hroom := ax_room1 C h (k := m'.1 - m.1) (n := ax_sl m'.1 - ax_sl m.1) (by omega) (by rw [show m.1 + (m'.1 - m.1) = m'.1 by omega]; have := ax_sl_mono hm; omega)
  refine ax_back (aa := (as.map (ax_cv G)).toArray) (as := as) (m' := m') (r' := r') h (fun v hv => List.mem_append_right _ hv) hr hm ?_ K
  exact va_runS (As := as.map (ax_cv G)) (rest := r.map (ax_cv G)) (Ts := []) (cc := ax_by y) (nL := ax_ml y) (own := (ax_nm y).cls) ⟨C.1, C.2.1, C.2.2.2.1, C.2.2.2.2.1, fun w hw => by cases hw⟩ (hM G) ⟨ax_CB C hy hw hdd (ax_len (k := 0) g3), ax_word C g1 rfl⟩
    ⟨ax_blind _ _ _, fun U hU hW => ⟨rfl, C.2.2.2.2.2.2.2.1.warm hW, by rw [hU]; exact h.2.1, hok⟩⟩ rfl (by simp) (by rw [h.1.1, h.2.2.2.2.2.2.2]) (by simp) (lv_room (by rw [ax_wd_cat]; exact hwd)) hd hroom
theorem axw_callI (C : ax_Cx p s mt meth c R G y d c0 cF) {y' idx d' : Nat} {q : Nat × Nat × Nat} {as : List ax_V} {m' : ax_M} (hd : decode (ax_by y) pc = .ok (.invokespecial idx, 3)) (hl : (ax_oy y, idx, y') ∈ ax_ML ∨ (ax_oy y, idx, y') ∈ ax_NL) (hy : y' < 247) (hs : ax_st y' = 2) (hn : ax_na y' = as.length + 1) (hwd : ax_wd r ≤ 8)
    (hM : ax_Met l d' y' (.inr (.inr q) :: as) m none m') (hdd : d' ≤ d) (hm : m.1 ≤ m'.1) (hF : m'.1 ≤ cF)
    (K : ax_WW p l e R s mt args below meth c Q G c0 (ax_ml y) (pc + 3, ls, r, m')) : ax_WW p l e R s mt args below meth c Q G c0 (ax_ml y) (pc, ls, as.reverse ++ .inr (.inr q) :: r, m) := by
  intro H locs cells slots la h
  have h : ax_Rl G c0 (ax_ml y) ls (as.reverse ++ .inr (.inr q) :: r) m H locs cells slots la := h
  obtain ⟨⟨q1, q2, q3, q4, q5⟩, -, -, -, q0⟩ := ax_mt_of hy
  obtain ⟨g1, g2, gr, g3⟩ := q0 hs
  rw [hn] at g3
  have hok : ∀ v ∈ (.inr (.inr q) : ax_V) :: as, ax_ok G m.1 v := fun v hv => h.2.2.2.1 v (by
    rcases List.mem_cons.mp hv with rfl | z
    · exact List.mem_append_right _ List.mem_cons_self
    · exact List.mem_append_left _ (List.mem_reverse.mpr z))
  have hroom := ax_room1 C h (k := m'.1 - m.1) (n := ax_sl m'.1 - ax_sl m.1) (by omega) (by rw [show m.1 + (m'.1 - m.1) = m'.1 by omega]; have := ax_sl_mono hm; omega)
  have hM' := hM G
  rw [gr] at hM'
  refine ax_back (aa := (Value.ref (ax_adr G q.2.2) :: as.map (ax_cv G)).toArray) (as := as) (m' := m') (r' := none) h (fun v hv => List.mem_append_right _ (List.mem_cons_of_mem _ hv)) (fun _ z => by cases z) hm ?_ K
  rcases hl with hl | hl
  · have hw := ax_ML_of hl C.2.2.2.2.2.2.2.2.2
    rw [ax_mn_lt hy] at hw
    have hcb := ax_CB (args := args) (m := m) (m' := m') C hy hw hdd (ax_len g3)
    rw [gr] at hcb
    exact va_runI (As := as.map (ax_cv G)) (b := ax_adr G q.2.2) (rest := r.map (ax_cv G)) (Ts := []) (cc := ax_by y) (nL := ax_ml y) (own := (ax_nm y).cls) ⟨C.1, C.2.1, C.2.2.2.1, C.2.2.2.2.1, fun w hw => by cases hw⟩ hM' ⟨hcb, g2, ax_word C g1 rfl⟩
      ⟨ax_blind _ _ _, fun U hU hW => ⟨rfl, C.2.2.2.2.2.2.2.1.warm hW, by rw [hU]; exact h.2.1, hok⟩⟩ rfl (by simp) (by rw [h.1.1, h.2.2.2.2.2.2.2]) (by simp [ax_cv]) (lv_room (by rw [ax_wd_cat]; exact hwd)) hd hroom
  · have hw := ax_NL_of hl C.2.2.2.2.2.2.2.2.2
    rw [ax_mn_lt hy] at hw
    obtain ⟨hfr, hlo, -, -⟩ := C.2.2.2.2.2.2.2.2.1
    obtain ⟨-, ⟨-, -, q8⟩, -⟩ := ax_mt_of hy
    rw [gr] at q1
    have hcn : va_CN R s args (ax_nm y).cls idx (ax_nm y') "SecondWish" (ax_by y') (ax_ml y') none [Cond.code (ax_nm y') (ax_by y') (ax_ml y') none] (ax_rm d' m m') (m'.1 - m.1) (ax_sl m'.1 - ax_sl m.1) as.length :=
      ⟨⟨rfl, rfl, by show d' + 1 ≤ _; omega, by show 8 + (ax_ml y' + 11) + 48 * d' ≤ _; omega, fun w hw a' U hW => by
        rw [List.mem_singleton.mp hw]
        exact ax_word_warm hW (show ax_kw (Cond.code _ _ _ _) = true from rfl) (ax_word (args := args) C q1 rfl), List.mem_singleton.mpr rfl⟩, ax_word C q1 rfl, ax_word C q2 rfl, q5, ax_len g3, ax_word C hw rfl⟩
    exact va_runIN (As := as.map (ax_cv G)) (b := ax_adr G q.2.2) (rest := r.map (ax_cv G)) (Ts := []) (cc := ax_by y) (nL := ax_ml y) (own := (ax_nm y).cls) ⟨C.1, C.2.1, C.2.2.2.1, C.2.2.2.2.1, fun w hw => by cases hw⟩ hM' ⟨hcn, g2, ax_word C g1 rfl⟩
      ⟨ax_blind _ _ _, fun U hU hW => ⟨rfl, C.2.2.2.2.2.2.2.1.warm hW, by rw [hU]; exact h.2.1, hok⟩⟩ rfl (by simp) (by rw [h.1.1, h.2.2.2.2.2.2.2]) (by simp [ax_cv]) (lv_room (by rw [ax_wd_cat]; exact hwd)) hd hroom
end AXC
