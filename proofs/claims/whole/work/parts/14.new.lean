/-! new cells, copies, statics, switches -/
section AXK
variable {p : Program} {l : Launch} {e : Env} {R : Room} {s : State} {mt : MethodId} {args : Array Value} {below : List Frame} {meth : Method} {c : Code} {Q : State → Prop} {G : ax_G} {c0 cF d y nl : Nat}
variable {pc : Nat} {ls : ax_L} {st r : List ax_V} {m : ax_M} {H : Heap} {locs : List Loc} {cells slots : Nat} {la : Array Slot} {rest : List Value}
theorem ax_room1 (C : ax_Cx p s mt meth c R G y d c0 cF) (h : ax_Rl G c0 nl ls st m H locs cells slots la) {k n : Nat} (hc : m.1 + k ≤ cF) (hn : ax_sl (m.1 + k) = ax_sl m.1 + n) : cells + k ≤ R.cells ∧ slots + n ≤ R.slots := by
  obtain ⟨h1, h2, h3, h4, h5, h6, ⟨h7, h7'⟩, h8⟩ := h
  obtain ⟨-, -, q1, q2⟩ := C.2.2.2.2.2.2.2.2.1
  have := ax_sl_mono h6
  have := ax_sl_mono hc
  omega
theorem ax_CK_of {y idx q : Nat} (h : (ax_oy y, idx, q) ∈ ax_CK) (ho : ax_oc (ax_oy y) = (ax_nm y).cls) : Cond.classLink (ax_nm y).cls idx (ax_cn q) ∈ lw_tbl := by
  have h1 := ax_subl_in _ _ ax_CKs _ (List.mem_map.mpr ⟨_, h, rfl⟩)
  dsimp only at h1
  rw [ho] at h1
  exact h1
theorem ax_cn_lt {q : Nat} (h : q < 10) : ax_cn q = ax_R q := by
  unfold ax_cn
  rw [show Nat.beq q 16 = false from by
    rcases hb : Nat.beq q 16 with _ | _
    · rfl
    · have := Nat.eq_of_beq_eq_true hb; omega]
  rfl
theorem axw_new (C : ax_Cx p s mt meth c R G y d c0 cF) {t idx : Nat} (hd : decode (ax_by y) pc = .ok (.new idx, 3)) (hl : (ax_oy y, idx, t) ∈ ax_CK) (ht : t < 10) (hsh : (ax_shp m.1).1 = t) (hF : m.1 + 1 ≤ cF)
    (K : ax_WW p l e R s mt args below meth c Q G c0 (ax_ml y) (pc + 3, ls, ax_vr t (ax_shp m.1).2 m.1 :: r, (m.1 + 1, m.2))) : ax_WW p l e R s mt args below meth c Q G c0 (ax_ml y) (pc, ls, r, m) := by
  intro H locs cells slots la h
  have hs2 : ax_shp m.1 = (t, (ax_shp m.1).2) := Prod.ext hsh rfl
  have hlt : m.1 < 212 := by
    rcases Nat.lt_or_ge m.1 212 with q | q
    · exact q
    · rw [ax_shp_big q] at hsh; have hsh : 99 = t := hsh; omega
  have hw := ax_CK_of hl C.2.2.2.2.2.2.2.2.2
  rw [ax_cn_lt ht] at hw
  have hio := ax_instok t ht
  have hsl : ax_sl (m.1 + 1) = ax_sl m.1 + ax_N t := by show ax_sl m.1 + ax_sz m.1 = _; rw [ax_sz_obj hs2 ht]
  have hroom := ax_room1 C h hF hsl
  have hKn := C.2.2.2.2.2.2.2.1.2.1 t ht
  have had := ax_adr_new G h.2.1
  refine W.newcK C.1 C.2.1 C.2.2.2.2.1 (ax_word C hw rfl) (ax_word C hio.1 rfl) (ax_word C hio.2 rfl) rfl hd hroom.1 hroom.2 hKn.2.1 had.symm fun H' kC hkC e1 z1 o1 => ?_
  have hob : t_OB (ax_adr G m.1) (G.2.2.1 t) (ax_N t) (G.2.2.2.1 t) H' (ax_fv G (m.1 + 1, m.2) t (ax_shp m.1).2 m.1) :=
    (u_born (ax_ty t) (ax_hts (args := args) C ht) (fun _ h => h) hKn hkC e1 (ax_tyok t ht)).to (fun k hk => ax_fv_new ht hk (ax_fresh h.2.1 hlt k))
  have hR := h.2.1.grow hlt (by rw [z1, had]) (by rw [← had]; exact o1) (ax_mkcell hs2 ht hob)
  exact K H' locs _ _ la (h.grow hR rfl hsl (ax_oks_cons ⟨Nat.lt_succ_self _, by rw [ax_sp3 G h.2.1.1.1]; exact hs2⟩ (ax_oks_mono (Nat.le_succ _) h.2.2.2.1)))
theorem ax_arrClass (C : ax_Cx p s mt meth c R G y d c0 cF) {ty : FieldType} (h : ty = .int ∨ ty = .boolean ∨ ty = .byte) : (Cond.arrayClass ty).before args s = true := by
  refine ax_word C ?_ rfl
  rcases h with rfl | rfl | rfl
  · exact List.mem_append_right _ (by decide +kernel)
  · exact List.mem_append_right _ (by decide +kernel)
  · exact List.mem_append_right _ (by decide +kernel)
theorem axw_newarray (C : ax_Cx p s mt meth c R G y d c0 cF) {a : ArrayType} {t : Nat} {n : Int32} (hd : decode (ax_by y) pc = .ok (.newarray a, 2)) (hta : (a = .int ∧ t = 10) ∨ (a = .boolean ∧ t = 11) ∨ (a = .byte ∧ t = 12)) (hn : 0 ≤ n) (hsh : ax_shp m.1 = (t, n.toNatClampNeg)) (hsm : n.toNatClampNeg ≤ 10000) (hF : m.1 + 1 ≤ cF)
    (K : ax_WW p l e R s mt args below meth c Q G c0 (ax_ml y) (pc + 2, ls, ax_vr t n.toNatClampNeg m.1 :: r, (m.1 + 1, m.2))) : ax_WW p l e R s mt args below meth c Q G c0 (ax_ml y) (pc, ls, ax_vi n :: r, m) := by
  intro H locs cells slots la h
  have ht1 : 10 ≤ t ∧ t < 13 := by rcases hta with ⟨-, q⟩ | ⟨-, q⟩ | ⟨-, q⟩ <;> omega
  have hty : newarray.typeOf a = ax_aty t := by rcases hta with ⟨q, w⟩ | ⟨q, w⟩ | ⟨q, w⟩ <;> subst q <;> subst w <;> rfl
  have hpr : newarray.typeOf a = .int ∨ newarray.typeOf a = .boolean ∨ newarray.typeOf a = .byte := by rcases hta with ⟨q, -⟩ | ⟨q, -⟩ | ⟨q, -⟩ <;> subst q <;> simp [newarray.typeOf]
  have hby : n.toNatClampNeg * componentBytes (newarray.typeOf a) ≤ 536870912 := by rcases hta with ⟨q, -⟩ | ⟨q, -⟩ | ⟨q, -⟩ <;> subst q <;> simp [newarray.typeOf, componentBytes] <;> omega
  have hdv : defaultValue (newarray.typeOf a) = .int 0 := by rcases hta with ⟨q, -⟩ | ⟨q, -⟩ | ⟨q, -⟩ <;> subst q <;> rfl
  have hlt : m.1 < 212 := by
    rcases Nat.lt_or_ge m.1 212 with q | q
    · exact q
    · rw [ax_shp_big q] at hsh; have := congrArg Prod.fst hsh; simp at this; omega
  have hsl : ax_sl (m.1 + 1) = ax_sl m.1 + n.toNatClampNeg := by show ax_sl m.1 + ax_sz m.1 = _; rw [ax_sz_arr hsh (by omega)]
  have hroom := ax_room1 C h hF hsl
  have had := ax_adr_new G h.2.1
  refine va_newaK C.1 C.2.1 (ax_arrClass C hpr) rfl hd rfl (Int32.not_lt.mpr hn) rfl hby hroom.1 hroom.2 had.symm fun H' cA e1 z1 o1 hAr hNm => ?_
  have hcA : cA = G.2.2.2.2.1 t := by
    have := (C.2.2.2.2.2.2.2.1.2.2.1 t (by omega) (by omega)).2
    rw [← hty] at this
    exact Option.some.inj (hNm.symm.trans this)
  subst hcA
  have hcell : ax_cell G (m.1 + 1, m.2) m.1 H' := by
    refine ax_mkcellA hsh (by omega) ?_
    rw [e1]
    refine congrArg (fun f => some (arrV _ _ f)) (funext fun k => ?_)
    rw [ax_av_int (by omega), hdv]
    exact congrArg Value.int (ax_fresh h.2.1 hlt k).1.symm
  have hR := h.2.1.grow hlt (by rw [z1, had]) (by rw [← had]; exact o1) hcell
  exact K H' locs _ _ la (h.grow hR rfl hsl (ax_oks_cons ⟨Nat.lt_succ_self _, by rw [ax_sp3 G h.2.1.1.1]; exact hsh⟩ (ax_oks_mono (Nat.le_succ _) (ax_oks_tl h.2.2.2.1))))
theorem ax_over (C : ax_Cx p s mt meth c R G y d c0 cF) {cc : Nat} (h : cc = 4 ∨ cc = 1) : (Cond.arrayOver (.object (ax_R cc))).before args s = true := by
  refine ax_word C ?_ rfl
  rcases h with rfl | rfl
  · exact List.mem_append_right _ (by decide +kernel)
  · exact List.mem_append_right _ (by decide +kernel)
theorem axw_anewarray (C : ax_Cx p s mt meth c R G y d c0 cF) {t idx cc : Nat} {n : Int32} (hd : decode (ax_by y) pc = .ok (.anewarray idx, 3)) (htc : (t = 13 ∧ cc = 4) ∨ (t = 14 ∧ cc = 4) ∨ (t = 15 ∧ cc = 1)) (hl : (ax_oy y, idx, cc) ∈ ax_CK) (hn : 0 ≤ n) (hsh : ax_shp m.1 = (t, n.toNatClampNeg)) (hsm : n.toNatClampNeg ≤ 10000) (hF : m.1 + 1 ≤ cF)
    (K : ax_WW p l e R s mt args below meth c Q G c0 (ax_ml y) (pc + 3, ls, ax_vr t n.toNatClampNeg m.1 :: r, (m.1 + 1, m.2))) : ax_WW p l e R s mt args below meth c Q G c0 (ax_ml y) (pc, ls, ax_vi n :: r, m) := by
  intro H locs cells slots la h
  have ht1 : 13 ≤ t ∧ t < 16 := by rcases htc with ⟨q, -⟩ | ⟨q, -⟩ | ⟨q, -⟩ <;> omega
  have hcc : cc = 4 ∨ cc = 1 := by rcases htc with ⟨-, q⟩ | ⟨-, q⟩ | ⟨-, q⟩ <;> omega
  have hty : ax_aty t = .object (ax_R cc) := by rcases htc with ⟨q, w⟩ | ⟨q, w⟩ | ⟨q, w⟩ <;> subst q <;> subst w <;> rfl
  have hlt : m.1 < 212 := by
    rcases Nat.lt_or_ge m.1 212 with q | q
    · exact q
    · rw [ax_shp_big q] at hsh; have := congrArg Prod.fst hsh; simp at this; omega
  have hsl : ax_sl (m.1 + 1) = ax_sl m.1 + n.toNatClampNeg := by show ax_sl m.1 + ax_sz m.1 = _; rw [ax_sz_arr hsh (by omega)]
  have hroom := ax_room1 C h hF hsl
  have had := ax_adr_new G h.2.1
  have hw := ax_CK_of hl C.2.2.2.2.2.2.2.2.2
  rw [ax_cn_lt (by omega)] at hw
  refine W.anew C.1 C.2.1 C.2.2.2.2.1 (ax_word C hw rfl) (ax_over C hcc) rfl hd rfl (Int32.not_lt.mpr hn) (by omega) hroom.1 hroom.2 fun cA kA comp f1 f2 f3 f4 => ?_
  have hcA : cA = G.2.2.2.2.1 t := by
    have := (C.2.2.2.2.2.2.2.1.2.2.1 t (by omega) (by omega)).2
    rw [hty] at this
    exact Option.some.inj (f1.symm.trans this)
  subst hcA
  have hcell : ax_cell G (m.1 + 1, m.2) m.1 (H.push { cls := G.2.2.2.2.1 t, slots := Array.replicate n.toNatClampNeg .null, vm := .none }) := by
    refine ax_mkcellA hsh (by omega) ?_
    rw [had, Array.getElem?_push, if_pos rfl, arrV_new]
    refine congrArg (fun f => some (arrV _ _ f)) (funext fun k => ?_)
    rw [ax_av_ref (by omega) (by omega), if_neg]
    show ¬ m.2.2.2 m.1 k = true
    rw [(ax_fresh h.2.1 hlt k).2.2]
    decide
  have hR := h.2.1.grow hlt (by simp) (fun q hq => by rw [Array.getElem?_push, if_neg (Nat.ne_of_lt hq)]) hcell
  rw [← had]
  exact K _ locs _ _ la (h.grow hR rfl hsl (ax_oks_cons ⟨Nat.lt_succ_self _, by rw [ax_sp3 G h.2.1.1.1]; exact hsh⟩ (ax_oks_mono (Nat.le_succ _) (ax_oks_tl h.2.2.2.1))))
theorem ax_outer (cA : ClassId) (N h0 : Nat) : ∀ i : Nat, Jvm.Free.Multi.outerC cA N h0 i = arrV cA N (fun j => if j < i then .ref (h0 + 1 + j) else .null)
  | 0 => by
    show ({ cls := cA, slots := Array.replicate N .null, vm := .none } : Cell) = _
    rw [arrV_new]
    refine congrArg (arrV cA N) (funext fun j => ?_)
    rw [if_neg (by omega)]
  | i + 1 => by
    show (Jvm.Free.Multi.outerC cA N h0 i).setSlot i (.ref (h0 + 1 + i)) = _
    rw [ax_outer cA N h0 i, arrV_store]
    refine congrArg (arrV cA N) (funext fun j => ?_)
    unfold updV
    by_cases q : j = i
    · subst q; rw [if_pos rfl, if_pos (by omega)]
    · rw [if_neg q]
      dsimp only
      by_cases z : j < i
      · rw [if_pos z, if_pos (by omega)]
      · rw [if_neg z, if_neg (by omega)]
theorem axw_multi (C : ax_Cx p s mt meth c R G y d c0 cF) {t idx : Nat} {n k : Int32} (hd : decode (ax_by y) pc = .ok (.multianewarray idx 2, 4)) (htc : t = 16 ∨ t = 17) (hl : (ax_oy y, idx, 16) ∈ ax_CK) (hn : 0 ≤ n) (hk : 0 ≤ k) (hsh : ax_shp m.1 = (t, n.toNatClampNeg)) (hin : ∀ i, i < n.toNatClampNeg → ax_shp (m.1 + 1 + i) = (10, k.toNatClampNeg)) (hsm : n.toNatClampNeg ≤ 10000) (hsm2 : k.toNatClampNeg ≤ 10000) (hF : m.1 + 1 + n.toNatClampNeg ≤ cF)
    (K : ax_WW p l e R s mt args below meth c Q G c0 (ax_ml y) (pc + 4, ls, ax_vr t n.toNatClampNeg m.1 :: r, (m.1 + 1 + n.toNatClampNeg, m.2.1, m.2.2.1, fun a b => if a = m.1 then Nat.blt b n.toNatClampNeg else m.2.2.2 a b))) : ax_WW p l e R s mt args below meth c Q G c0 (ax_ml y) (pc, ls, ax_vi k :: ax_vi n :: r, m) := by
  intro H locs cells slots la h
  have h : ax_Rl G c0 (ax_ml y) ls (ax_vi k :: ax_vi n :: r) m H locs cells slots la := h
  have hsl : ax_sl (m.1 + (1 + n.toNatClampNeg)) = ax_sl m.1 + (n.toNatClampNeg + n.toNatClampNeg * k.toNatClampNeg) := by
    rw [← Nat.add_assoc, ax_sl_add (m.1 + 1) n.toNatClampNeg k.toNatClampNeg (fun i hi => ax_sz_arr (hin i hi) (by omega))]
    have : ax_sl (m.1 + 1) = ax_sl m.1 + n.toNatClampNeg := by show ax_sl m.1 + ax_sz m.1 = _; rw [ax_sz_arr hsh (by omega)]
    omega
  have hroom := ax_room1 C h (k := 1 + n.toNatClampNeg) (by omega) hsl
  have had := ax_adr_new G h.2.1
  have hw := ax_CK_of hl C.2.2.2.2.2.2.2.2.2
  have hov : (Cond.arrayOver (.array .int)).before args s = true := ax_word C (List.mem_append_right _ (by decide +kernel)) rfl
  have hac : (Cond.arrayClass .int).before args s = true := ax_arrClass C (Or.inl rfl)
  intro T hT X
  obtain ⟨vm₁, cA, comp, -, fA, fC, hO, -, X', step⟩ := X.multianewarray2F C.1 C.2.2.2.2.1 (ax_word (args := args) C hw rfl) hov hac (g := F0 mt pc la (.int k :: .int n :: r.map (ax_cv G))) rfl (by rw [C.2.1]; exact hd) rfl (Int32.not_lt.mpr hn) (Int32.not_lt.mpr hk) (by omega) (by simp [componentBytes]; omega) (by omega) rfl rfl hroom.1 hroom.2
  have hcA : cA = G.2.2.2.2.1 t := by
    have := (C.2.2.2.2.2.2.2.1.2.2.1 t (by omega) (by omega)).2
    rw [show ax_aty t = .array .int from by rcases htc with q | q <;> subst q <;> rfl] at this
    exact Option.some.inj (fA.symm.trans this)
  have hcomp : comp = G.2.2.2.2.1 10 := by
    have := (C.2.2.2.2.2.2.2.1.2.2.1 10 (by omega) (by omega)).2
    exact Option.some.inj (fC.symm.trans this)
  subst hcA
  subst hcomp
  have hTh : (T.setVm vm₁).heap = H := hT
  obtain ⟨f1, f2, -, -⟩ := Jvm.Free.Multi.fill_facts (T.setVm vm₁) (G.2.2.2.2.1 t) (G.2.2.2.2.1 10) n.toNatClampNeg k.toNatClampNeg (defaultValue .int) n.toNatClampNeg
  have hold := fun (x : Nat) (hx : x < H.size) => Jvm.Free.Multi.fill_old (T.setVm vm₁) (G.2.2.2.2.1 t) (G.2.2.2.2.1 10) n.toNatClampNeg k.toNatClampNeg (defaultValue .int) (a := x) (by rw [hTh]; exact hx) n.toNatClampNeg
  have hrow := fun (j : Nat) (hj : j < n.toNatClampNeg) => Jvm.Free.Multi.fill_inner (T.setVm vm₁) (G.2.2.2.2.1 t) (G.2.2.2.2.1 10) n.toNatClampNeg k.toNatClampNeg (defaultValue .int) n.toNatClampNeg j hj
  generalize Jvm.Free.Multi.fill (T.setVm vm₁) (G.2.2.2.2.1 t) (G.2.2.2.2.1 10) n.toNatClampNeg k.toNatClampNeg (defaultValue .int) n.toNatClampNeg = F at X' step f1 f2 hold hrow
  rw [hTh] at f1 f2
  rw [ax_outer] at f2
  have hR := h.2.1.multi htc hsh hin f1 (fun q hq => by rw [hold q hq, hTh]) f2 (fun j hj => by
    have := hrow j hj
    rw [hTh] at this
    rw [this]
    show some ({ cls := _, slots := Array.replicate _ _, vm := .none } : Cell) = _
    rw [arrV_new]; rfl)
  have K' := K F.heap locs _ _ la (h.grow (k := 1 + n.toNatClampNeg) (n := n.toNatClampNeg + n.toNatClampNeg * k.toNatClampNeg) hR (by show m.1 + 1 + n.toNatClampNeg = _; omega) (by show ax_sl (m.1 + 1 + n.toNatClampNeg) = _; rw [Nat.add_assoc]; exact hsl) (ax_oks_cons ⟨by show m.1 < m.1 + 1 + n.toNatClampNeg; omega, by rw [ax_sp3 G h.2.1.1.1]; exact hsh⟩ (ax_oks_mono (by show m.1 ≤ m.1 + 1 + n.toNatClampNeg; omega) (ax_oks_tl (ax_oks_tl h.2.2.2.1)))))
  obtain ⟨t2, a1, b1⟩ := K' F rfl (by rw [← Nat.add_assoc, ← Nat.add_assoc]; exact X')
  refine ⟨t2, step t2 ?_, b1⟩
  have e1 : T.heap.size = ax_adr G m.1 := by rw [hT, had]
  rw [e1]
  exact a1
end AXK
