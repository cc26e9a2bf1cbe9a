/-! THE TYPED MACHINE OVER THE REAL ONE -/
def ax_Rl (G : ax_G) (c0 nl : Nat) (ls : ax_L) (st : List ax_V) (m : ax_M) (H : Heap) (locs : List Loc) (cells slots : Nat) (la : Array Slot) : Prop :=
  ax_LK G ls la ∧ ax_Rep G m H ∧ (∀ (i : Nat) (v : ax_V), ls[i]? = some (some v) → ax_ok G m.1 v) ∧ (∀ v ∈ st, ax_ok G m.1 v) ∧ (∀ q ∈ locs, G.1.size ≤ q.base) ∧ c0 ≤ m.1 ∧ (cells = m.1 - c0 ∧ slots = ax_sl m.1 - ax_sl c0) ∧ ls.length = nl
def ax_WW (p : Program) (l : Launch) (e : Env) (R : Room) (s : State) (mt : MethodId) (args : Array Value) (below : List Frame) (meth : Method) (c : Code) (Q : State → Prop) (G : ax_G) (c0 nl : Nat) (S : ax_S) : Prop :=
  ∀ (H : Heap) (locs : List Loc) (cells slots : Nat) (la : Array Slot), ax_Rl G c0 nl S.2.1 S.2.2.1 S.2.2.2 H locs cells slots la → W p l e R s mt args below meth c H locs cells slots Q (F0 mt S.1 la (S.2.2.1.map (ax_cv G)))
/-- what holds in a method's body -/
def ax_Cx (p : Program) (s : State) (mt : MethodId) (meth : Method) (c : Code) (R : Room) (G : ax_G) (y d c0 cF : Nat) : Prop :=
  p.tables.exec = Jvm.exec ∧ c.code = ax_by y ∧ meth.sig.returnType = ax_ret y ∧ c.maxLocals = ax_ml y ∧ s.vm.findClass (ax_nm y).cls = some mt.cls ∧ meth.name = (ax_nm y).name ∧ meth.locks = false ∧ ax_K G s ∧
  (d + 1 ≤ R.frames ∧ 48 * (d + 1) ≤ R.locals ∧ cF - c0 ≤ R.cells ∧ ax_sl cF - ax_sl c0 ≤ R.slots) ∧ ax_oc (ax_oy y) = (ax_nm y).cls
theorem ax_Rl.st {G : ax_G} {c0 nl : Nat} {ls : ax_L} {st st' : List ax_V} {m : ax_M} {H : Heap} {locs : List Loc} {cells slots : Nat} {la : Array Slot} (h : ax_Rl G c0 nl ls st m H locs cells slots la) (hs : ∀ v ∈ st', ax_ok G m.1 v) : ax_Rl G c0 nl ls st' m H locs cells slots la :=
  ⟨h.1, h.2.1, h.2.2.1, hs, h.2.2.2.2⟩
theorem ax_oks_cons {G : ax_G} {n : Nat} {v : ax_V} {r : List ax_V} (hv : ax_ok G n v) (hr : ∀ w ∈ r, ax_ok G n w) : ∀ w ∈ v :: r, ax_ok G n w := fun w hw => by
  rcases List.mem_cons.mp hw with rfl | hw
  · exact hv
  · exact hr w hw
theorem ax_oks_tl {G : ax_G} {n : Nat} {v : ax_V} {r : List ax_V} (h : ∀ w ∈ v :: r, ax_ok G n w) : ∀ w ∈ r, ax_ok G n w := fun w hw => h w (List.mem_cons_of_mem _ hw)
theorem ax_oks_hd {G : ax_G} {n : Nat} {v : ax_V} {r : List ax_V} (h : ∀ w ∈ v :: r, ax_ok G n w) : ax_ok G n v := h v List.mem_cons_self
theorem ax_Rl.s1 {G : ax_G} {c0 nl : Nat} {ls : ax_L} {st st' : List ax_V} {m : ax_M} {H : Heap} {locs : List Loc} {cells slots : Nat} {la la' : Array Slot} {i : Nat} {v : ax_V} (h : ax_Rl G c0 nl ls st m H locs cells slots la) (hl : lv_has la' nl ((i, ax_cv G v) :: (ax_prs G ls).filter (fun q => !(q.1 == i) && !(q.1 + 1 == i && q.2.category == 2)))) (hv : ax_ok G m.1 v) (hs : ∀ w ∈ st', ax_ok G m.1 w) : ax_Rl G c0 nl (ax_s1 ls i v) st' m H locs cells slots la' := by
  obtain ⟨h1, h2, h3, h4, h5, h6, h7, h8⟩ := h
  refine ⟨ax_LK.s1 (by rw [h8]; exact hl), h2, fun j w hj => ?_, hs, h5, h6, h7, by rw [ax_s1_len]; exact h8⟩
  rcases ax_s1_at hj with ⟨-, rfl⟩ | ⟨-, q, -⟩
  · exact hv
  · exact h3 j w q
theorem ax_Rl.s2 {G : ax_G} {c0 nl : Nat} {ls : ax_L} {st st' : List ax_V} {m : ax_M} {H : Heap} {locs : List Loc} {cells slots : Nat} {la la' : Array Slot} {i : Nat} {v : ax_V} (h : ax_Rl G c0 nl ls st m H locs cells slots la) (hl : lv_has la' nl ((i, ax_cv G v) :: (ax_prs G ls).filter (fun q => !(q.1 == i) && (!(q.1 == i + 1) && !(q.1 + 1 == i && q.2.category == 2))))) (hv : ax_ok G m.1 v) (hs : ∀ w ∈ st', ax_ok G m.1 w) : ax_Rl G c0 nl (ax_s2 ls i v) st' m H locs cells slots la' := by
  obtain ⟨h1, h2, h3, h4, h5, h6, h7, h8⟩ := h
  refine ⟨ax_LK.s2 (by rw [h8]; exact hl), h2, fun j w hj => ?_, hs, h5, h6, h7, by rw [ax_s2_len]; exact h8⟩
  rcases ax_s2_at hj with ⟨-, rfl⟩ | ⟨-, -, q, -⟩
  · exact hv
  · exact h3 j w q
theorem ax_Rl.has {G : ax_G} {c0 nl : Nat} {ls : ax_L} {st : List ax_V} {m : ax_M} {H : Heap} {locs : List Loc} {cells slots : Nat} {la : Array Slot} (h : ax_Rl G c0 nl ls st m H locs cells slots la) : lv_has la nl (ax_prs G ls) := by
  have := h.1.has
  rw [h.2.2.2.2.2.2.2] at this
  exact this
theorem ax_prs_get {G : ax_G} {ls : ax_L} {i : Nat} {v : ax_V} (h : ls[i]? = some (some v)) : ∃ k : Nat, (ax_prs G ls)[k]? = some (i, ax_cv G v) := List.getElem?_of_mem (ax_prs_mem h)
/-- behind a store: the same cells, another heap -/
theorem ax_Rl.mem {G : ax_G} {c0 nl : Nat} {ls : ax_L} {st st' : List ax_V} {m m' : ax_M} {H H' : Heap} {locs : List Loc} {cells slots : Nat} {la : Array Slot} {a k : Nat} (h : ax_Rl G c0 nl ls st m H locs cells slots la) (hR : ax_Rep G m' H') (hc : m'.1 = m.1) (ha : G.1.size ≤ a) (hs : ∀ v ∈ st', ax_ok G m.1 v) : ax_Rl G c0 nl ls st' m' H' (locs ++ [⟨a, k⟩]) cells slots la := by
  obtain ⟨h1, h2, h3, h4, h5, h6, h7, h8⟩ := h
  refine ⟨h1, hR, by rw [hc]; exact h3, by rw [hc]; exact hs, fun q hq => ?_, by rw [hc]; exact h6, by rw [hc]; exact h7, h8⟩
  rcases List.mem_append.mp hq with z | z
  · exact h5 q z
  · rw [List.mem_singleton.mp z]; exact ha
section AXS
variable {p : Program} {l : Launch} {e : Env} {R : Room} {s : State} {mt : MethodId} {args : Array Value} {below : List Frame} {meth : Method} {c : Code} {Q : State → Prop} {G : ax_G} {c0 cF d y : Nat}
theorem axw_iadd (C : ax_Cx p s mt meth c R G y d c0 cF) {pc : Nat} {ls : ax_L} {r : List ax_V} {m : ax_M} {a b : Int32} (hd : decode (ax_by y) pc = .ok (.iadd, 1)) (K : ax_WW p l e R s mt args below meth c Q G c0 (ax_ml y) (pc + 1, ls, ax_vi (a + b) :: r, m)) : ax_WW p l e R s mt args below meth c Q G c0 (ax_ml y) (pc, ls, ax_vi b :: ax_vi a :: r, m) :=
  fun H locs cells slots la h => lv_iadd C.1 C.2.1 hd (K H locs cells slots la (h.st (ax_oks_cons trivial (ax_oks_tl (ax_oks_tl h.2.2.2.1)))))
theorem axw_isub (C : ax_Cx p s mt meth c R G y d c0 cF) {pc : Nat} {ls : ax_L} {r : List ax_V} {m : ax_M} {a b : Int32} (hd : decode (ax_by y) pc = .ok (.isub, 1)) (K : ax_WW p l e R s mt args below meth c Q G c0 (ax_ml y) (pc + 1, ls, ax_vi (a - b) :: r, m)) : ax_WW p l e R s mt args below meth c Q G c0 (ax_ml y) (pc, ls, ax_vi b :: ax_vi a :: r, m) :=
  fun H locs cells slots la h => lv_isub C.1 C.2.1 hd (K H locs cells slots la (h.st (ax_oks_cons trivial (ax_oks_tl (ax_oks_tl h.2.2.2.1)))))
theorem axw_imul (C : ax_Cx p s mt meth c R G y d c0 cF) {pc : Nat} {ls : ax_L} {r : List ax_V} {m : ax_M} {a b : Int32} (hd : decode (ax_by y) pc = .ok (.imul, 1)) (K : ax_WW p l e R s mt args below meth c Q G c0 (ax_ml y) (pc + 1, ls, ax_vi (a * b) :: r, m)) : ax_WW p l e R s mt args below meth c Q G c0 (ax_ml y) (pc, ls, ax_vi b :: ax_vi a :: r, m) :=
  fun H locs cells slots la h => lv_imul C.1 C.2.1 hd (K H locs cells slots la (h.st (ax_oks_cons trivial (ax_oks_tl (ax_oks_tl h.2.2.2.1)))))
theorem axw_iand (C : ax_Cx p s mt meth c R G y d c0 cF) {pc : Nat} {ls : ax_L} {r : List ax_V} {m : ax_M} {a b : Int32} (hd : decode (ax_by y) pc = .ok (.iand, 1)) (K : ax_WW p l e R s mt args below meth c Q G c0 (ax_ml y) (pc + 1, ls, ax_vi (a &&& b) :: r, m)) : ax_WW p l e R s mt args below meth c Q G c0 (ax_ml y) (pc, ls, ax_vi b :: ax_vi a :: r, m) :=
  fun H locs cells slots la h => lv_iand C.1 C.2.1 hd (K H locs cells slots la (h.st (ax_oks_cons trivial (ax_oks_tl (ax_oks_tl h.2.2.2.1)))))
theorem axw_ior (C : ax_Cx p s mt meth c R G y d c0 cF) {pc : Nat} {ls : ax_L} {r : List ax_V} {m : ax_M} {a b : Int32} (hd : decode (ax_by y) pc = .ok (.ior, 1)) (K : ax_WW p l e R s mt args below meth c Q G c0 (ax_ml y) (pc + 1, ls, ax_vi (a ||| b) :: r, m)) : ax_WW p l e R s mt args below meth c Q G c0 (ax_ml y) (pc, ls, ax_vi b :: ax_vi a :: r, m) :=
  fun H locs cells slots la h => lv_ior C.1 C.2.1 hd (K H locs cells slots la (h.st (ax_oks_cons trivial (ax_oks_tl (ax_oks_tl h.2.2.2.1)))))
theorem axw_ixor (C : ax_Cx p s mt meth c R G y d c0 cF) {pc : Nat} {ls : ax_L} {r : List ax_V} {m : ax_M} {a b : Int32} (hd : decode (ax_by y) pc = .ok (.ixor, 1)) (K : ax_WW p l e R s mt args below meth c Q G c0 (ax_ml y) (pc + 1, ls, ax_vi (a ^^^ b) :: r, m)) : ax_WW p l e R s mt args below meth c Q G c0 (ax_ml y) (pc, ls, ax_vi b :: ax_vi a :: r, m) :=
  fun H locs cells slots la h => lv_ixor C.1 C.2.1 hd (K H locs cells slots la (h.st (ax_oks_cons trivial (ax_oks_tl (ax_oks_tl h.2.2.2.1)))))
theorem axw_ishl (C : ax_Cx p s mt meth c R G y d c0 cF) {pc : Nat} {ls : ax_L} {r : List ax_V} {m : ax_M} {a b : Int32} (hd : decode (ax_by y) pc = .ok (.ishl, 1)) (K : ax_WW p l e R s mt args below meth c Q G c0 (ax_ml y) (pc + 1, ls, ax_vi (a <<< (b &&& 31)) :: r, m)) : ax_WW p l e R s mt args below meth c Q G c0 (ax_ml y) (pc, ls, ax_vi b :: ax_vi a :: r, m) :=
  fun H locs cells slots la h => lv_ishl C.1 C.2.1 hd (K H locs cells slots la (h.st (ax_oks_cons trivial (ax_oks_tl (ax_oks_tl h.2.2.2.1)))))
theorem axw_ishr (C : ax_Cx p s mt meth c R G y d c0 cF) {pc : Nat} {ls : ax_L} {r : List ax_V} {m : ax_M} {a b : Int32} (hd : decode (ax_by y) pc = .ok (.ishr, 1)) (K : ax_WW p l e R s mt args below meth c Q G c0 (ax_ml y) (pc + 1, ls, ax_vi (a >>> (b &&& 31)) :: r, m)) : ax_WW p l e R s mt args below meth c Q G c0 (ax_ml y) (pc, ls, ax_vi b :: ax_vi a :: r, m) :=
  fun H locs cells slots la h => lv_ishr C.1 C.2.1 hd (K H locs cells slots la (h.st (ax_oks_cons trivial (ax_oks_tl (ax_oks_tl h.2.2.2.1)))))
theorem axw_iushr (C : ax_Cx p s mt meth c R G y d c0 cF) {pc : Nat} {ls : ax_L} {r : List ax_V} {m : ax_M} {a b : Int32} (hd : decode (ax_by y) pc = .ok (.iushr, 1)) (K : ax_WW p l e R s mt args below meth c Q G c0 (ax_ml y) (pc + 1, ls, ax_vi (a.toUInt32 >>> (b.toUInt32 &&& Int32.toUInt32 31)).toInt32 :: r, m)) : ax_WW p l e R s mt args below meth c Q G c0 (ax_ml y) (pc, ls, ax_vi b :: ax_vi a :: r, m) :=
  fun H locs cells slots la h => lv_iushr C.1 C.2.1 hd rfl (K H locs cells slots la (h.st (ax_oks_cons trivial (ax_oks_tl (ax_oks_tl h.2.2.2.1)))))
theorem axw_idiv (C : ax_Cx p s mt meth c R G y d c0 cF) {pc : Nat} {ls : ax_L} {r : List ax_V} {m : ax_M} {a b : Int32} (hd : decode (ax_by y) pc = .ok (.idiv, 1)) (hne : ¬ b = 0) (K : ax_WW p l e R s mt args below meth c Q G c0 (ax_ml y) (pc + 1, ls, ax_vi (a / b) :: r, m)) : ax_WW p l e R s mt args below meth c Q G c0 (ax_ml y) (pc, ls, ax_vi b :: ax_vi a :: r, m) :=
  fun H locs cells slots la h => lv_idiv C.1 C.2.1 hd hne (K H locs cells slots la (h.st (ax_oks_cons trivial (ax_oks_tl (ax_oks_tl h.2.2.2.1)))))
theorem axw_irem (C : ax_Cx p s mt meth c R G y d c0 cF) {pc : Nat} {ls : ax_L} {r : List ax_V} {m : ax_M} {a b : Int32} (hd : decode (ax_by y) pc = .ok (.irem, 1)) (hne : ¬ b = 0) (K : ax_WW p l e R s mt args below meth c Q G c0 (ax_ml y) (pc + 1, ls, ax_vi (a - a / b * b) :: r, m)) : ax_WW p l e R s mt args below meth c Q G c0 (ax_ml y) (pc, ls, ax_vi b :: ax_vi a :: r, m) :=
  fun H locs cells slots la h => lv_irem C.1 C.2.1 hd hne (K H locs cells slots la (h.st (ax_oks_cons trivial (ax_oks_tl (ax_oks_tl h.2.2.2.1)))))
theorem axw_ladd (C : ax_Cx p s mt meth c R G y d c0 cF) {pc : Nat} {ls : ax_L} {r : List ax_V} {m : ax_M} {a b : Int64} (hd : decode (ax_by y) pc = .ok (.ladd, 1)) (K : ax_WW p l e R s mt args below meth c Q G c0 (ax_ml y) (pc + 1, ls, ax_vl (a + b) :: r, m)) : ax_WW p l e R s mt args below meth c Q G c0 (ax_ml y) (pc, ls, ax_vl b :: ax_vl a :: r, m) :=
  fun H locs cells slots la h => lv_ladd C.1 C.2.1 hd (K H locs cells slots la (h.st (ax_oks_cons trivial (ax_oks_tl (ax_oks_tl h.2.2.2.1)))))
theorem axw_lmul (C : ax_Cx p s mt meth c R G y d c0 cF) {pc : Nat} {ls : ax_L} {r : List ax_V} {m : ax_M} {a b : Int64} (hd : decode (ax_by y) pc = .ok (.lmul, 1)) (K : ax_WW p l e R s mt args below meth c Q G c0 (ax_ml y) (pc + 1, ls, ax_vl (a * b) :: r, m)) : ax_WW p l e R s mt args below meth c Q G c0 (ax_ml y) (pc, ls, ax_vl b :: ax_vl a :: r, m) :=
  fun H locs cells slots la h => lv_lmul C.1 C.2.1 hd (K H locs cells slots la (h.st (ax_oks_cons trivial (ax_oks_tl (ax_oks_tl h.2.2.2.1)))))
theorem axw_land (C : ax_Cx p s mt meth c R G y d c0 cF) {pc : Nat} {ls : ax_L} {r : List ax_V} {m : ax_M} {a b : Int64} (hd : decode (ax_by y) pc = .ok (.land, 1)) (K : ax_WW p l e R s mt args below meth c Q G c0 (ax_ml y) (pc + 1, ls, ax_vl (a &&& b) :: r, m)) : ax_WW p l e R s mt args below meth c Q G c0 (ax_ml y) (pc, ls, ax_vl b :: ax_vl a :: r, m) :=
  fun H locs cells slots la h => lv_land C.1 C.2.1 hd (K H locs cells slots la (h.st (ax_oks_cons trivial (ax_oks_tl (ax_oks_tl h.2.2.2.1)))))
theorem axw_lor (C : ax_Cx p s mt meth c R G y d c0 cF) {pc : Nat} {ls : ax_L} {r : List ax_V} {m : ax_M} {a b : Int64} (hd : decode (ax_by y) pc = .ok (.lor, 1)) (K : ax_WW p l e R s mt args below meth c Q G c0 (ax_ml y) (pc + 1, ls, ax_vl (a ||| b) :: r, m)) : ax_WW p l e R s mt args below meth c Q G c0 (ax_ml y) (pc, ls, ax_vl b :: ax_vl a :: r, m) :=
  fun H locs cells slots la h => lv_lor C.1 C.2.1 hd (K H locs cells slots la (h.st (ax_oks_cons trivial (ax_oks_tl (ax_oks_tl h.2.2.2.1)))))
theorem axw_ldiv (C : ax_Cx p s mt meth c R G y d c0 cF) {pc : Nat} {ls : ax_L} {r : List ax_V} {m : ax_M} {a b : Int64} (hd : decode (ax_by y) pc = .ok (.ldiv, 1)) (hne : ¬ b = 0) (K : ax_WW p l e R s mt args below meth c Q G c0 (ax_ml y) (pc + 1, ls, ax_vl (a / b) :: r, m)) : ax_WW p l e R s mt args below meth c Q G c0 (ax_ml y) (pc, ls, ax_vl b :: ax_vl a :: r, m) :=
  fun H locs cells slots la h => lv_ldiv C.1 C.2.1 hd hne (K H locs cells slots la (h.st (ax_oks_cons trivial (ax_oks_tl (ax_oks_tl h.2.2.2.1)))))
theorem axw_lrem (C : ax_Cx p s mt meth c R G y d c0 cF) {pc : Nat} {ls : ax_L} {r : List ax_V} {m : ax_M} {a b : Int64} (hd : decode (ax_by y) pc = .ok (.lrem, 1)) (hne : ¬ b = 0) (K : ax_WW p l e R s mt args below meth c Q G c0 (ax_ml y) (pc + 1, ls, ax_vl (a - a / b * b) :: r, m)) : ax_WW p l e R s mt args below meth c Q G c0 (ax_ml y) (pc, ls, ax_vl b :: ax_vl a :: r, m) :=
  fun H locs cells slots la h => lv_lrem C.1 C.2.1 hd hne (K H locs cells slots la (h.st (ax_oks_cons trivial (ax_oks_tl (ax_oks_tl h.2.2.2.1)))))
theorem axw_lshl (C : ax_Cx p s mt meth c R G y d c0 cF) {pc : Nat} {ls : ax_L} {r : List ax_V} {m : ax_M} {a : Int64} {b : Int32} (hd : decode (ax_by y) pc = .ok (.lshl, 1)) (K : ax_WW p l e R s mt args below meth c Q G c0 (ax_ml y) (pc + 1, ls, ax_vl (a <<< (b.toInt64 &&& 63)) :: r, m)) : ax_WW p l e R s mt args below meth c Q G c0 (ax_ml y) (pc, ls, ax_vi b :: ax_vl a :: r, m) :=
  fun H locs cells slots la h => lv_lshl C.1 C.2.1 hd rfl (K H locs cells slots la (h.st (ax_oks_cons trivial (ax_oks_tl (ax_oks_tl h.2.2.2.1)))))
theorem axw_lushr (C : ax_Cx p s mt meth c R G y d c0 cF) {pc : Nat} {ls : ax_L} {r : List ax_V} {m : ax_M} {a : Int64} {b : Int32} (hd : decode (ax_by y) pc = .ok (.lushr, 1)) (K : ax_WW p l e R s mt args below meth c Q G c0 (ax_ml y) (pc + 1, ls, ax_vl (a.toUInt64 >>> (b.toInt64.toUInt64 &&& Int64.toUInt64 63)).toInt64 :: r, m)) : ax_WW p l e R s mt args below meth c Q G c0 (ax_ml y) (pc, ls, ax_vi b :: ax_vl a :: r, m) :=
  fun H locs cells slots la h => lv_lushr C.1 C.2.1 hd rfl (K H locs cells slots la (h.st (ax_oks_cons trivial (ax_oks_tl (ax_oks_tl h.2.2.2.1)))))
theorem axw_lcmp (C : ax_Cx p s mt meth c R G y d c0 cF) {pc : Nat} {ls : ax_L} {r : List ax_V} {m : ax_M} {a b : Int64} (hd : decode (ax_by y) pc = .ok (.lcmp, 1)) (K : ax_WW p l e R s mt args below meth c Q G c0 (ax_ml y) (pc + 1, ls, ax_vi (lg_cmp a b) :: r, m)) : ax_WW p l e R s mt args below meth c Q G c0 (ax_ml y) (pc, ls, ax_vl b :: ax_vl a :: r, m) :=
  fun H locs cells slots la h => W.lcmp C.1 C.2.1 hd (K H locs cells slots la (h.st (ax_oks_cons trivial (ax_oks_tl (ax_oks_tl h.2.2.2.1)))))
theorem axw_i2l (C : ax_Cx p s mt meth c R G y d c0 cF) {pc : Nat} {ls : ax_L} {r : List ax_V} {m : ax_M} {a : Int32} (hd : decode (ax_by y) pc = .ok (.i2l, 1)) (K : ax_WW p l e R s mt args below meth c Q G c0 (ax_ml y) (pc + 1, ls, ax_vl a.toInt64 :: r, m)) : ax_WW p l e R s mt args below meth c Q G c0 (ax_ml y) (pc, ls, ax_vi a :: r, m) :=
  fun H locs cells slots la h => lv_i2l C.1 C.2.1 hd rfl (K H locs cells slots la (h.st (ax_oks_cons trivial (ax_oks_tl h.2.2.2.1))))
theorem axw_l2i (C : ax_Cx p s mt meth c R G y d c0 cF) {pc : Nat} {ls : ax_L} {r : List ax_V} {m : ax_M} {a : Int64} (hd : decode (ax_by y) pc = .ok (.l2i, 1)) (K : ax_WW p l e R s mt args below meth c Q G c0 (ax_ml y) (pc + 1, ls, ax_vi a.toInt32 :: r, m)) : ax_WW p l e R s mt args below meth c Q G c0 (ax_ml y) (pc, ls, ax_vl a :: r, m) :=
  fun H locs cells slots la h => lv_l2i C.1 C.2.1 hd rfl (K H locs cells slots la (h.st (ax_oks_cons trivial (ax_oks_tl h.2.2.2.1))))
theorem axw_i2b (C : ax_Cx p s mt meth c R G y d c0 cF) {pc : Nat} {ls : ax_L} {r : List ax_V} {m : ax_M} {a : Int32} (hd : decode (ax_by y) pc = .ok (.i2b, 1)) (K : ax_WW p l e R s mt args below meth c Q G c0 (ax_ml y) (pc + 1, ls, ax_vi a.toInt8.toInt32 :: r, m)) : ax_WW p l e R s mt args below meth c Q G c0 (ax_ml y) (pc, ls, ax_vi a :: r, m) :=
  fun H locs cells slots la h => lv_i2b C.1 C.2.1 hd rfl (K H locs cells slots la (h.st (ax_oks_cons trivial (ax_oks_tl h.2.2.2.1))))
theorem axw_pop (C : ax_Cx p s mt meth c R G y d c0 cF) {pc : Nat} {ls : ax_L} {r : List ax_V} {m : ax_M} {a : Int32} (hd : decode (ax_by y) pc = .ok (.pop, 1)) (K : ax_WW p l e R s mt args below meth c Q G c0 (ax_ml y) (pc + 1, ls, r, m)) : ax_WW p l e R s mt args below meth c Q G c0 (ax_ml y) (pc, ls, ax_vi a :: r, m) :=
  fun H locs cells slots la h => lv_pop C.1 C.2.1 hd rfl (K H locs cells slots la (h.st (ax_oks_tl h.2.2.2.1)))
theorem axw_dupi (C : ax_Cx p s mt meth c R G y d c0 cF) {pc : Nat} {ls : ax_L} {r : List ax_V} {m : ax_M} {a : Int32} (hd : decode (ax_by y) pc = .ok (.dup, 1)) (K : ax_WW p l e R s mt args below meth c Q G c0 (ax_ml y) (pc + 1, ls, ax_vi a :: ax_vi a :: r, m)) : ax_WW p l e R s mt args below meth c Q G c0 (ax_ml y) (pc, ls, ax_vi a :: r, m) :=
  fun H locs cells slots la h => lv_dup C.1 C.2.1 hd rfl (K H locs cells slots la (h.st (ax_oks_cons trivial (ax_oks_cons trivial (ax_oks_tl h.2.2.2.1)))))
theorem axw_dupr (C : ax_Cx p s mt meth c R G y d c0 cF) {pc : Nat} {ls : ax_L} {r : List ax_V} {m : ax_M} {q : Nat × Nat × Nat} (hd : decode (ax_by y) pc = .ok (.dup, 1)) (K : ax_WW p l e R s mt args below meth c Q G c0 (ax_ml y) (pc + 1, ls, .inr (.inr q) :: .inr (.inr q) :: r, m)) : ax_WW p l e R s mt args below meth c Q G c0 (ax_ml y) (pc, ls, .inr (.inr q) :: r, m) :=
  fun H locs cells slots la h => lv_dup C.1 C.2.1 hd rfl (K H locs cells slots la (h.st (ax_oks_cons (ax_oks_hd h.2.2.2.1) h.2.2.2.1)))
theorem axw_dup2 (C : ax_Cx p s mt meth c R G y d c0 cF) {pc : Nat} {ls : ax_L} {r : List ax_V} {m : ax_M} {a : Int32} {q : Nat × Nat × Nat} (hd : decode (ax_by y) pc = .ok (.dup2, 1)) (K : ax_WW p l e R s mt args below meth c Q G c0 (ax_ml y) (pc + 1, ls, ax_vi a :: .inr (.inr q) :: ax_vi a :: .inr (.inr q) :: r, m)) : ax_WW p l e R s mt args below meth c Q G c0 (ax_ml y) (pc, ls, ax_vi a :: .inr (.inr q) :: r, m) :=
  fun H locs cells slots la h => lv_dup2_11 C.1 C.2.1 hd rfl rfl (K H locs cells slots la (h.st (ax_oks_cons trivial (ax_oks_cons (ax_oks_hd (ax_oks_tl h.2.2.2.1)) h.2.2.2.1))))
theorem ax_word (C : ax_Cx p s mt meth c R G y d c0 cF) {w : Cond} (hw : w ∈ lw_tbl) (hk : ax_kw w = true) : w.before args s = true := C.2.2.2.2.2.2.2.1.1 args w hw hk
theorem axw_iconst (C : ax_Cx p s mt meth c R G y d c0 cF) {pc len : Nat} {j : Instr} {ls : ax_L} {r : List ax_V} {m : ax_M} {v : Int} (hd : decode (ax_by y) pc = .ok (j, len)) (hl : ax_lnk y pc j len (.iconst v) = true) (K : ax_WW p l e R s mt args below meth c Q G c0 (ax_ml y) (pc + len, ls, ax_vi (ax_ic v) :: r, m)) : ax_WW p l e R s mt args below meth c Q G c0 (ax_ml y) (pc, ls, r, m) := by
  intro H locs cells slots la h
  have K' := K H locs cells slots la (h.st (ax_oks_cons trivial h.2.2.2.1))
  unfold ax_lnk at hl
  dsimp only at hl
  split at hl
  · simp only [Bool.and_eq_true, Nat.beq_eq, decide_eq_true_eq] at hl
    obtain ⟨rfl, hv⟩ := hl
    exact lv_iconst C.1 C.2.1 hd hv K'
  · simp only [Bool.and_eq_true, Nat.beq_eq, decide_eq_true_eq] at hl
    obtain ⟨rfl, hv⟩ := hl
    exact lv_bipush C.1 C.2.1 hd hv K'
  · simp only [Bool.and_eq_true, Nat.beq_eq, decide_eq_true_eq] at hl
    obtain ⟨rfl, hv⟩ := hl
    exact lv_sipush C.1 C.2.1 hd hv K'
  · simp only [Bool.and_eq_true, Nat.beq_eq, decide_eq_true_eq] at hl
    obtain ⟨⟨rfl, hv⟩, hc⟩ := hl
    have hm := ax_subl_in _ _ ax_KIs _ (List.mem_map.mpr ⟨_, hv, rfl⟩)
    dsimp only at hm
    rw [hc] at hm
    rw [C.2.2.2.2.2.2.2.2.2] at hm
    exact lv_ldcw C.1 C.2.1 C.2.2.2.2.1 (ax_word C hm rfl) hd K'
  · cases hl
theorem axw_lconst (C : ax_Cx p s mt meth c R G y d c0 cF) {pc len : Nat} {j : Instr} {ls : ax_L} {r : List ax_V} {m : ax_M} {v : Int} (hd : decode (ax_by y) pc = .ok (j, len)) (hl : ax_lnk y pc j len (.jsr_w v) = true) (K : ax_WW p l e R s mt args below meth c Q G c0 (ax_ml y) (pc + len, ls, ax_vl (ax_jc v) :: r, m)) : ax_WW p l e R s mt args below meth c Q G c0 (ax_ml y) (pc, ls, r, m) := by
  intro H locs cells slots la h
  have K' := K H locs cells slots la (h.st (ax_oks_cons trivial h.2.2.2.1))
  unfold ax_lnk at hl
  dsimp only at hl
  split at hl
  · simp only [Bool.and_eq_true, Nat.beq_eq, decide_eq_true_eq] at hl
    obtain ⟨rfl, hv⟩ := hl
    exact lv_lconst C.1 C.2.1 hd hv K'
  · simp only [Bool.and_eq_true, Nat.beq_eq, decide_eq_true_eq] at hl
    obtain ⟨⟨rfl, hv⟩, hc⟩ := hl
    have hm := ax_subl_in _ _ ax_KJs _ (List.mem_map.mpr ⟨_, hv, rfl⟩)
    dsimp only at hm
    rw [hc] at hm
    rw [C.2.2.2.2.2.2.2.2.2] at hm
    exact lv_ldc2 C.1 C.2.1 C.2.2.2.2.1 (ax_word C hm rfl) hd K'
  · cases hl
theorem axw_iload (C : ax_Cx p s mt meth c R G y d c0 cF) {pc len k : Nat} {j : Instr} {ls : ax_L} {r : List ax_V} {m : ax_M} {x : Int32} (hd : decode (ax_by y) pc = .ok (j, len)) (hl : ax_lnk y pc j len (.iload k) = true) (hx : ax_ld ls k = some (ax_vi x)) (K : ax_WW p l e R s mt args below meth c Q G c0 (ax_ml y) (pc + len, ls, ax_vi x :: r, m)) : ax_WW p l e R s mt args below meth c Q G c0 (ax_ml y) (pc, ls, r, m) := by
  intro H locs cells slots la h
  have K' := K H locs cells slots la (h.st (ax_oks_cons trivial h.2.2.2.1))
  have hg := h.1.2.2 k _ (ax_ld_at hx)
  unfold ax_lnk at hl
  dsimp only at hl
  split at hl
  · simp only [Bool.and_eq_true, Nat.beq_eq] at hl
    obtain ⟨rfl, rfl⟩ := hl
    exact lv_iload C.1 C.2.1 hd hg K'
  · simp only [Bool.and_eq_true, Nat.beq_eq] at hl
    obtain ⟨rfl, hk⟩ := hl
    exact lv_iload_n C.1 C.2.1 hd hk hg K'
  · cases hl
theorem axw_lload (C : ax_Cx p s mt meth c R G y d c0 cF) {pc len k : Nat} {j : Instr} {ls : ax_L} {r : List ax_V} {m : ax_M} {x : Int64} (hd : decode (ax_by y) pc = .ok (j, len)) (hl : ax_lnk y pc j len (.lload k) = true) (hx : ax_ld ls k = some (ax_vl x)) (K : ax_WW p l e R s mt args below meth c Q G c0 (ax_ml y) (pc + len, ls, ax_vl x :: r, m)) : ax_WW p l e R s mt args below meth c Q G c0 (ax_ml y) (pc, ls, r, m) := by
  intro H locs cells slots la h
  have K' := K H locs cells slots la (h.st (ax_oks_cons trivial h.2.2.2.1))
  have hg := h.1.2.2 k _ (ax_ld_at hx)
  unfold ax_lnk at hl
  dsimp only at hl
  split at hl
  · simp only [Bool.and_eq_true, Nat.beq_eq] at hl
    obtain ⟨rfl, rfl⟩ := hl
    exact lv_lload C.1 C.2.1 hd hg K'
  · simp only [Bool.and_eq_true, Nat.beq_eq] at hl
    obtain ⟨rfl, hk⟩ := hl
    exact lv_lload_n C.1 C.2.1 hd hk hg K'
  · cases hl
theorem axw_aload (C : ax_Cx p s mt meth c R G y d c0 cF) {pc len k : Nat} {j : Instr} {ls : ax_L} {r : List ax_V} {m : ax_M} {x : Nat × Nat × Nat} (hd : decode (ax_by y) pc = .ok (j, len)) (hl : ax_lnk y pc j len (.aload k) = true) (hx : ax_ld ls k = some ((.inr (.inr x) : ax_V))) (K : ax_WW p l e R s mt args below meth c Q G c0 (ax_ml y) (pc + len, ls, (.inr (.inr x) : ax_V) :: r, m)) : ax_WW p l e R s mt args below meth c Q G c0 (ax_ml y) (pc, ls, r, m) := by
  intro H locs cells slots la h
  have K' := K H locs cells slots la (h.st (ax_oks_cons (h.2.2.1 k _ (ax_ld_at hx)) h.2.2.2.1))
  have hg := h.1.2.2 k _ (ax_ld_at hx)
  unfold ax_lnk at hl
  dsimp only at hl
  split at hl
  · simp only [Bool.and_eq_true, Nat.beq_eq] at hl
    obtain ⟨rfl, rfl⟩ := hl
    exact lv_aload C.1 C.2.1 hd hg K'
  · simp only [Bool.and_eq_true, Nat.beq_eq] at hl
    obtain ⟨rfl, hk⟩ := hl
    exact lv_aload_n C.1 C.2.1 hd hk hg K'
  · cases hl
theorem axw_istore (C : ax_Cx p s mt meth c R G y d c0 cF) {pc len k : Nat} {j : Instr} {ls : ax_L} {r : List ax_V} {m : ax_M} {x : Int32} (hd : decode (ax_by y) pc = .ok (j, len)) (hl : ax_lnk y pc j len (.istore k) = true) (K : ax_WW p l e R s mt args below meth c Q G c0 (ax_ml y) (pc + len, ax_s1 ls k (ax_vi x), r, m)) : ax_WW p l e R s mt args below meth c Q G c0 (ax_ml y) (pc, ls, ax_vi x :: r, m) := by
  intro H locs cells slots la h
  have K' : ∀ la' : Array Slot, lv_has la' (ax_ml y) _ → _ := fun la' hl' => K H locs cells slots la' (h.s1 (v := ax_vi x) hl' trivial (ax_oks_tl h.2.2.2.1))
  unfold ax_lnk at hl
  dsimp only at hl
  split at hl
  · simp only [Bool.and_eq_true, Nat.beq_eq, Nat.blt_eq] at hl
    obtain ⟨⟨rfl, rfl⟩, hk⟩ := hl
    exact lv_istore C.1 C.2.1 hd h.has hk rfl K'
  · simp only [Bool.and_eq_true, Nat.beq_eq, Nat.blt_eq] at hl
    obtain ⟨⟨rfl, hj⟩, hk⟩ := hl
    exact lv_istore_n C.1 C.2.1 hd hj h.has hk rfl K'
  · cases hl
theorem axw_lstore (C : ax_Cx p s mt meth c R G y d c0 cF) {pc len k : Nat} {j : Instr} {ls : ax_L} {r : List ax_V} {m : ax_M} {x : Int64} (hd : decode (ax_by y) pc = .ok (j, len)) (hl : ax_lnk y pc j len (.lstore k) = true) (K : ax_WW p l e R s mt args below meth c Q G c0 (ax_ml y) (pc + len, ax_s2 ls k (ax_vl x), r, m)) : ax_WW p l e R s mt args below meth c Q G c0 (ax_ml y) (pc, ls, ax_vl x :: r, m) := by
  intro H locs cells slots la h
  have K' : ∀ la' : Array Slot, lv_has la' (ax_ml y) _ → _ := fun la' hl' => K H locs cells slots la' (h.s2 (v := ax_vl x) hl' trivial (ax_oks_tl h.2.2.2.1))
  unfold ax_lnk at hl
  dsimp only at hl
  split at hl
  · simp only [Bool.and_eq_true, Nat.beq_eq, Nat.blt_eq] at hl
    obtain ⟨⟨rfl, rfl⟩, hk⟩ := hl
    exact lv_lstore C.1 C.2.1 hd h.has hk rfl K'
  · simp only [Bool.and_eq_true, Nat.beq_eq, Nat.blt_eq] at hl
    obtain ⟨⟨rfl, hj⟩, hk⟩ := hl
    exact lv_lstore_n C.1 C.2.1 hd hj h.has hk rfl K'
  · cases hl
theorem axw_astore (C : ax_Cx p s mt meth c R G y d c0 cF) {pc len k : Nat} {j : Instr} {ls : ax_L} {r : List ax_V} {m : ax_M} {x : Nat × Nat × Nat} (hd : decode (ax_by y) pc = .ok (j, len)) (hl : ax_lnk y pc j len (.astore k) = true) (K : ax_WW p l e R s mt args below meth c Q G c0 (ax_ml y) (pc + len, ax_s1 ls k ((.inr (.inr x) : ax_V)), r, m)) : ax_WW p l e R s mt args below meth c Q G c0 (ax_ml y) (pc, ls, (.inr (.inr x) : ax_V) :: r, m) := by
  intro H locs cells slots la h
  have K' : ∀ la' : Array Slot, lv_has la' (ax_ml y) _ → _ := fun la' hl' => K H locs cells slots la' (h.s1 (v := (.inr (.inr x) : ax_V)) hl' (ax_oks_hd h.2.2.2.1) (ax_oks_tl h.2.2.2.1))
  unfold ax_lnk at hl
  dsimp only at hl
  split at hl
  · simp only [Bool.and_eq_true, Nat.beq_eq, Nat.blt_eq] at hl
    obtain ⟨⟨rfl, rfl⟩, hk⟩ := hl
    exact lv_astore C.1 C.2.1 hd h.has hk rfl K'
  · simp only [Bool.and_eq_true, Nat.beq_eq, Nat.blt_eq] at hl
    obtain ⟨⟨rfl, hj⟩, hk⟩ := hl
    exact lv_astore_n C.1 C.2.1 hd hj h.has hk rfl K'
  · cases hl
theorem axw_iinc (C : ax_Cx p s mt meth c R G y d c0 cF) {pc k : Nat} {ls : ax_L} {r : List ax_V} {m : ax_M} {x : Int32} {n : Int} (hd : decode (ax_by y) pc = .ok (.iinc k n, 3)) (hn : Int32.ofInt n = ax_ic n) (hx : ax_ld ls k = some (ax_vi x)) (K : ax_WW p l e R s mt args below meth c Q G c0 (ax_ml y) (pc + 3, ax_s1 ls k (ax_vi (x + ax_ic n)), r, m)) : ax_WW p l e R s mt args below meth c Q G c0 (ax_ml y) (pc, ls, r, m) := by
  intro H locs cells slots la h
  obtain ⟨k0, hk0⟩ := ax_prs_get (G := G) (ax_ld_at hx)
  have hk : k < ax_ml y := by have := (List.getElem?_eq_some_iff.mp (ax_ld_at hx)).1; rw [h.2.2.2.2.2.2.2] at this; exact this
  exact lv_iinc C.1 C.2.1 hd h.has hk0 (by rw [hn]) hk rfl (fun la' hl' => K H locs cells slots la' (h.s1 (v := ax_vi (x + ax_ic n)) hl' trivial h.2.2.2.1))
theorem axw_goto (C : ax_Cx p s mt meth c R G y d c0 cF) {pc t : Nat} {off : Int} {ls : ax_L} {r : List ax_V} {m : ax_M} (hd : decode (ax_by y) pc = .ok (.goto off, 3)) (ht : (pc : Int) + off = (t : Int)) (K : ax_WW p l e R s mt args below meth c Q G c0 (ax_ml y) (t, ls, r, m)) : ax_WW p l e R s mt args below meth c Q G c0 (ax_ml y) (pc, ls, r, m) :=
  fun H locs cells slots la h => lv_goto C.1 C.2.1 hd ht (K H locs cells slots la h)
theorem axw_icmp (C : ax_Cx p s mt meth c R G y d c0 cF) {pc t : Nat} {off : Int} {cd : ClassFile.Cond} {ls : ax_L} {r : List ax_V} {m : ax_M} {a b : Int32} (hd : decode (ax_by y) pc = .ok (.if_icmp cd off, 3)) (ht : (pc : Int) + off = (t : Int)) (K : ax_WW p l e R s mt args below meth c Q G c0 (ax_ml y) (ax_pick [(ax_cmp cd a b, (t, ls, r, m))] (pc + 3, ls, r, m))) : ax_WW p l e R s mt args below meth c Q G c0 (ax_ml y) (pc, ls, ax_vi b :: ax_vi a :: r, m) := by
  intro H locs cells slots la h
  have h' := h.st (ax_oks_tl (ax_oks_tl h.2.2.2.1))
  cases cd with
  | eq =>
    refine lv_icmp_eq C.1 C.2.1 hd ht (fun hc => ?_) (fun hc => ?_)
    · have e : ax_pick [(ax_cmp .eq a b, (t, ls, r, m))] (pc + 3, ls, r, m) = (t, ls, r, m) := by simp [ax_pick, ax_cmp, hc]
      rw [e] at K
      exact K H locs cells slots la h'
    · have e : ax_pick [(ax_cmp .eq a b, (t, ls, r, m))] (pc + 3, ls, r, m) = (pc + 3, ls, r, m) := by simp [ax_pick, ax_cmp, hc]
      rw [e] at K
      exact K H locs cells slots la h'
  | ne =>
    refine lv_icmp_ne C.1 C.2.1 hd ht (fun hc => ?_) (fun hc => ?_)
    · have e : ax_pick [(ax_cmp .ne a b, (t, ls, r, m))] (pc + 3, ls, r, m) = (t, ls, r, m) := by simp [ax_pick, ax_cmp, hc]
      rw [e] at K
      exact K H locs cells slots la h'
    · have e : ax_pick [(ax_cmp .ne a b, (t, ls, r, m))] (pc + 3, ls, r, m) = (pc + 3, ls, r, m) := by simp [ax_pick, ax_cmp, hc]
      rw [e] at K
      exact K H locs cells slots la h'
  | lt =>
    refine lv_icmp_lt C.1 C.2.1 hd ht (fun hc => ?_) (fun hc => ?_)
    · have e : ax_pick [(ax_cmp .lt a b, (t, ls, r, m))] (pc + 3, ls, r, m) = (t, ls, r, m) := by simp [ax_pick, ax_cmp, hc]
      rw [e] at K
      exact K H locs cells slots la h'
    · have e : ax_pick [(ax_cmp .lt a b, (t, ls, r, m))] (pc + 3, ls, r, m) = (pc + 3, ls, r, m) := by simp [ax_pick, ax_cmp, hc]
      rw [e] at K
      exact K H locs cells slots la h'
  | ge =>
    refine lv_icmp_ge C.1 C.2.1 hd ht (fun hc => ?_) (fun hc => ?_)
    · have e : ax_pick [(ax_cmp .ge a b, (t, ls, r, m))] (pc + 3, ls, r, m) = (t, ls, r, m) := by simp [ax_pick, ax_cmp, hc]
      rw [e] at K
      exact K H locs cells slots la h'
    · have e : ax_pick [(ax_cmp .ge a b, (t, ls, r, m))] (pc + 3, ls, r, m) = (pc + 3, ls, r, m) := by simp [ax_pick, ax_cmp, hc]
      rw [e] at K
      exact K H locs cells slots la h'
  | gt =>
    refine lv_icmp_gt C.1 C.2.1 hd ht (fun hc => ?_) (fun hc => ?_)
    · have e : ax_pick [(ax_cmp .gt a b, (t, ls, r, m))] (pc + 3, ls, r, m) = (t, ls, r, m) := by simp [ax_pick, ax_cmp, hc]
      rw [e] at K
      exact K H locs cells slots la h'
    · have e : ax_pick [(ax_cmp .gt a b, (t, ls, r, m))] (pc + 3, ls, r, m) = (pc + 3, ls, r, m) := by simp [ax_pick, ax_cmp, hc]
      rw [e] at K
      exact K H locs cells slots la h'
  | le =>
    refine lv_icmp_le C.1 C.2.1 hd ht (fun hc => ?_) (fun hc => ?_)
    · have e : ax_pick [(ax_cmp .le a b, (t, ls, r, m))] (pc + 3, ls, r, m) = (t, ls, r, m) := by simp [ax_pick, ax_cmp, hc]
      rw [e] at K
      exact K H locs cells slots la h'
    · have e : ax_pick [(ax_cmp .le a b, (t, ls, r, m))] (pc + 3, ls, r, m) = (pc + 3, ls, r, m) := by simp [ax_pick, ax_cmp, hc]
      rw [e] at K
      exact K H locs cells slots la h'
theorem axw_if (C : ax_Cx p s mt meth c R G y d c0 cF) {pc t : Nat} {off : Int} {cd : ClassFile.Cond} {ls : ax_L} {r : List ax_V} {m : ax_M} {a : Int32} (hd : decode (ax_by y) pc = .ok (.ifCond cd off, 3)) (ht : (pc : Int) + off = (t : Int)) (K : ax_WW p l e R s mt args below meth c Q G c0 (ax_ml y) (ax_pick [(ax_cmp cd a 0, (t, ls, r, m))] (pc + 3, ls, r, m))) : ax_WW p l e R s mt args below meth c Q G c0 (ax_ml y) (pc, ls, ax_vi a :: r, m) := by
  intro H locs cells slots la h
  have h' := h.st (ax_oks_tl h.2.2.2.1)
  cases cd with
  | eq =>
    refine lv_if_eq C.1 C.2.1 hd ht (fun hc => ?_) (fun hc => ?_)
    · have e : ax_pick [(ax_cmp .eq a 0, (t, ls, r, m))] (pc + 3, ls, r, m) = (t, ls, r, m) := by simp [ax_pick, ax_cmp, hc]
      rw [e] at K
      exact K H locs cells slots la h'
    · have e : ax_pick [(ax_cmp .eq a 0, (t, ls, r, m))] (pc + 3, ls, r, m) = (pc + 3, ls, r, m) := by simp [ax_pick, ax_cmp, hc]
      rw [e] at K
      exact K H locs cells slots la h'
  | ne =>
    refine lv_if_ne C.1 C.2.1 hd ht (fun hc => ?_) (fun hc => ?_)
    · have e : ax_pick [(ax_cmp .ne a 0, (t, ls, r, m))] (pc + 3, ls, r, m) = (t, ls, r, m) := by simp [ax_pick, ax_cmp, hc]
      rw [e] at K
      exact K H locs cells slots la h'
    · have e : ax_pick [(ax_cmp .ne a 0, (t, ls, r, m))] (pc + 3, ls, r, m) = (pc + 3, ls, r, m) := by simp [ax_pick, ax_cmp, hc]
      rw [e] at K
      exact K H locs cells slots la h'
  | lt =>
    refine lv_if_lt C.1 C.2.1 hd ht (fun hc => ?_) (fun hc => ?_)
    · have e : ax_pick [(ax_cmp .lt a 0, (t, ls, r, m))] (pc + 3, ls, r, m) = (t, ls, r, m) := by simp [ax_pick, ax_cmp, hc]
      rw [e] at K
      exact K H locs cells slots la h'
    · have e : ax_pick [(ax_cmp .lt a 0, (t, ls, r, m))] (pc + 3, ls, r, m) = (pc + 3, ls, r, m) := by simp [ax_pick, ax_cmp, hc]
      rw [e] at K
      exact K H locs cells slots la h'
  | ge =>
    refine lv_if_ge C.1 C.2.1 hd ht (fun hc => ?_) (fun hc => ?_)
    · have e : ax_pick [(ax_cmp .ge a 0, (t, ls, r, m))] (pc + 3, ls, r, m) = (t, ls, r, m) := by simp [ax_pick, ax_cmp, hc]
      rw [e] at K
      exact K H locs cells slots la h'
    · have e : ax_pick [(ax_cmp .ge a 0, (t, ls, r, m))] (pc + 3, ls, r, m) = (pc + 3, ls, r, m) := by simp [ax_pick, ax_cmp, hc]
      rw [e] at K
      exact K H locs cells slots la h'
  | gt =>
    refine lv_if_gt C.1 C.2.1 hd ht (fun hc => ?_) (fun hc => ?_)
    · have e : ax_pick [(ax_cmp .gt a 0, (t, ls, r, m))] (pc + 3, ls, r, m) = (t, ls, r, m) := by simp [ax_pick, ax_cmp, hc]
      rw [e] at K
      exact K H locs cells slots la h'
    · have e : ax_pick [(ax_cmp .gt a 0, (t, ls, r, m))] (pc + 3, ls, r, m) = (pc + 3, ls, r, m) := by simp [ax_pick, ax_cmp, hc]
      rw [e] at K
      exact K H locs cells slots la h'
  | le =>
    refine lv_if_le C.1 C.2.1 hd ht (fun hc => ?_) (fun hc => ?_)
    · have e : ax_pick [(ax_cmp .le a 0, (t, ls, r, m))] (pc + 3, ls, r, m) = (t, ls, r, m) := by simp [ax_pick, ax_cmp, hc]
      rw [e] at K
      exact K H locs cells slots la h'
    · have e : ax_pick [(ax_cmp .le a 0, (t, ls, r, m))] (pc + 3, ls, r, m) = (pc + 3, ls, r, m) := by simp [ax_pick, ax_cmp, hc]
      rw [e] at K
      exact K H locs cells slots la h'
end AXS
