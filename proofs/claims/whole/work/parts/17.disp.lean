/-! ONE INSTRUCTION, whatever it is -/
def ax_PO (p : Program) (l : Launch) (e : Env) (R : Room) (s : State) (mt : MethodId) (args : Array Value) (below : List Frame) (meth : Method) (c : Code) (Q : State → Prop) (G : ax_G) (c0 cF d y : Nat) (RT : Option ax_V → ax_M → Prop) (S : ax_S) (E : ax_E) : Prop := match E with
  | .inl S' => S'.2.2.2.1 ≤ cF → ax_WW p l e R s mt args below meth c Q G c0 (ax_ml y) S' → ax_WW p l e R s mt args below meth c Q G c0 (ax_ml y) S
  | .inr (.inl (g, S')) => g = true → S'.2.2.2.1 ≤ cF → ax_WW p l e R s mt args below meth c Q G c0 (ax_ml y) S' → ax_WW p l e R s mt args below meth c Q G c0 (ax_ml y) S
  | .inr (.inr (.inl (cs, dd))) => ax_WW p l e R s mt args below meth c Q G c0 (ax_ml y) (ax_pick cs dd) → ax_WW p l e R s mt args below meth c Q G c0 (ax_ml y) S
  | .inr (.inr (.inr (.inl (q, as, S')))) => ∀ (d' : Nat) (r' : Option ax_V) (m' : ax_M), ax_Met l d' (q / 1000) as S'.2.2.2 r' m' → d' ≤ d → (∀ z, r' ≠ some (.inr (.inr z))) → (ax_rk (q / 1000) = 0 → r' = none) → S'.2.2.2.1 ≤ m'.1 → m'.1 ≤ cF → ax_WW p l e R s mt args below meth c Q G c0 (ax_ml y) (S'.1, S'.2.1, r'.toList ++ S'.2.2.1, m') → ax_WW p l e R s mt args below meth c Q G c0 (ax_ml y) S
  | .inr (.inr (.inr (.inr (.inl (v, mm))))) => RT v mm → ax_WW p l e R s mt args below meth c Q G c0 (ax_ml y) S
  | .inr (.inr (.inr (.inr (.inr (.inl (g, v, mm)))))) => g = true → RT v mm → ax_WW p l e R s mt args below meth c Q G c0 (ax_ml y) S
  | .inr (.inr (.inr (.inr (.inr (.inr _))))) => True
theorem ax_sm {len : Nat} {j a : Instr} (h : (Nat.beq len 1 && decide (j = a)) = true) : len = 1 ∧ j = a := by
  simp only [Bool.and_eq_true, Nat.beq_eq, decide_eq_true_eq] at h
  exact h
theorem ax_nd {a b : Int32} (h : (!decide (a = b)) = true) : ¬ a = b := by simpa using h
theorem ax_ndl {a b : Int64} (h : (!decide (a = b)) = true) : ¬ a = b := by simpa using h
/-- what a return gives -/
def ax_RH (p : Program) (l : Launch) (e : Env) (R : Room) (s : State) (mt : MethodId) (args : Array Value) (below : List Frame) (meth : Method) (c : Code) (Q : State → Prop) (G : ax_G) (c0 y : Nat) (RT : Option ax_V → ax_M → Prop) : Prop :=
  ∀ (v : Option ax_V) (mm : ax_M) (pc : Nat) (H : Heap) (locs : List Loc) (cells slots : Nat) (la : Array Slot), RT v mm → ax_Rep G mm H → (∀ q ∈ locs, G.1.size ≤ q.base) → c0 ≤ mm.1 → cells = mm.1 - c0 → slots = ax_sl mm.1 - ax_sl c0 →
    ((ax_rk y = 0 ∧ v = none ∧ decode (ax_by y) pc = .ok (.return_, 1)) ∨ (∃ x, ax_rk y = 1 ∧ v = some (ax_vi x) ∧ decode (ax_by y) pc = .ok (.ireturn, 1)) ∨ (∃ x, ax_rk y = 2 ∧ v = some (ax_vl x) ∧ decode (ax_by y) pc = .ok (.lreturn, 1)) ∨ (∃ x, ax_rk y = 3 ∧ v = some (ax_vi x) ∧ ax_bit x = true ∧ decode (ax_by y) pc = .ok (.ireturn, 1))) →
    W p l e R s mt args below meth c H locs cells slots Q (F0 mt pc la (v.toList.map (ax_cv G)))
section AXD
variable {p : Program} {l : Launch} {e : Env} {R : Room} {s : State} {mt : MethodId} {args : Array Value} {below : List Frame} {meth : Method} {c : Code} {Q : State → Prop} {G : ax_G} {c0 cF d y : Nat} {RT : Option ax_V → ax_M → Prop}
variable {pc len : Nat} {j : Instr} {ls : ax_L} {st : List ax_V} {m : ax_M}
theorem axd_iadd (C : ax_Cx p s mt meth c R G y d c0 cF)  (hd : decode (ax_by y) pc = .ok (j, len)) (hl : ax_lnk y pc j len (.iadd) = true) : ax_PO p l e R s mt args below meth c Q G c0 cF d y RT (pc, ls, st, m) (ax_eff (ax_rk y) (.iadd) (pc + len) ls st m) := by
  obtain ⟨rfl, rfl⟩ := ax_sm hl
  rcases st with _ | ⟨v1, _ | ⟨v2, r⟩⟩
  · exact trivial
  · rcases v1 with w1 | w1 | w1 <;> exact trivial
  · rcases v1 with w1 | w1 | w1 <;> rcases v2 with w2 | w2 | w2 <;> first
    | exact trivial
    | (exact fun _ K => axw_iadd C hd K)
theorem axd_isub (C : ax_Cx p s mt meth c R G y d c0 cF)  (hd : decode (ax_by y) pc = .ok (j, len)) (hl : ax_lnk y pc j len (.isub) = true) : ax_PO p l e R s mt args below meth c Q G c0 cF d y RT (pc, ls, st, m) (ax_eff (ax_rk y) (.isub) (pc + len) ls st m) := by
  obtain ⟨rfl, rfl⟩ := ax_sm hl
  rcases st with _ | ⟨v1, _ | ⟨v2, r⟩⟩
  · exact trivial
  · rcases v1 with w1 | w1 | w1 <;> exact trivial
  · rcases v1 with w1 | w1 | w1 <;> rcases v2 with w2 | w2 | w2 <;> first
    | exact trivial
    | (exact fun _ K => axw_isub C hd K)
theorem axd_imul (C : ax_Cx p s mt meth c R G y d c0 cF)  (hd : decode (ax_by y) pc = .ok (j, len)) (hl : ax_lnk y pc j len (.imul) = true) : ax_PO p l e R s mt args below meth c Q G c0 cF d y RT (pc, ls, st, m) (ax_eff (ax_rk y) (.imul) (pc + len) ls st m) := by
  obtain ⟨rfl, rfl⟩ := ax_sm hl
  rcases st with _ | ⟨v1, _ | ⟨v2, r⟩⟩
  · exact trivial
  · rcases v1 with w1 | w1 | w1 <;> exact trivial
  · rcases v1 with w1 | w1 | w1 <;> rcases v2 with w2 | w2 | w2 <;> first
    | exact trivial
    | (exact fun _ K => axw_imul C hd K)
theorem axd_iand (C : ax_Cx p s mt meth c R G y d c0 cF)  (hd : decode (ax_by y) pc = .ok (j, len)) (hl : ax_lnk y pc j len (.iand) = true) : ax_PO p l e R s mt args below meth c Q G c0 cF d y RT (pc, ls, st, m) (ax_eff (ax_rk y) (.iand) (pc + len) ls st m) := by
  obtain ⟨rfl, rfl⟩ := ax_sm hl
  rcases st with _ | ⟨v1, _ | ⟨v2, r⟩⟩
  · exact trivial
  · rcases v1 with w1 | w1 | w1 <;> exact trivial
  · rcases v1 with w1 | w1 | w1 <;> rcases v2 with w2 | w2 | w2 <;> first
    | exact trivial
    | (exact fun _ K => axw_iand C hd K)
theorem axd_ior (C : ax_Cx p s mt meth c R G y d c0 cF)  (hd : decode (ax_by y) pc = .ok (j, len)) (hl : ax_lnk y pc j len (.ior) = true) : ax_PO p l e R s mt args below meth c Q G c0 cF d y RT (pc, ls, st, m) (ax_eff (ax_rk y) (.ior) (pc + len) ls st m) := by
  obtain ⟨rfl, rfl⟩ := ax_sm hl
  rcases st with _ | ⟨v1, _ | ⟨v2, r⟩⟩
  · exact trivial
  · rcases v1 with w1 | w1 | w1 <;> exact trivial
  · rcases v1 with w1 | w1 | w1 <;> rcases v2 with w2 | w2 | w2 <;> first
    | exact trivial
    | (exact fun _ K => axw_ior C hd K)
theorem axd_ixor (C : ax_Cx p s mt meth c R G y d c0 cF)  (hd : decode (ax_by y) pc = .ok (j, len)) (hl : ax_lnk y pc j len (.ixor) = true) : ax_PO p l e R s mt args below meth c Q G c0 cF d y RT (pc, ls, st, m) (ax_eff (ax_rk y) (.ixor) (pc + len) ls st m) := by
  obtain ⟨rfl, rfl⟩ := ax_sm hl
  rcases st with _ | ⟨v1, _ | ⟨v2, r⟩⟩
  · exact trivial
  · rcases v1 with w1 | w1 | w1 <;> exact trivial
  · rcases v1 with w1 | w1 | w1 <;> rcases v2 with w2 | w2 | w2 <;> first
    | exact trivial
    | (exact fun _ K => axw_ixor C hd K)
theorem axd_ishl (C : ax_Cx p s mt meth c R G y d c0 cF)  (hd : decode (ax_by y) pc = .ok (j, len)) (hl : ax_lnk y pc j len (.ishl) = true) : ax_PO p l e R s mt args below meth c Q G c0 cF d y RT (pc, ls, st, m) (ax_eff (ax_rk y) (.ishl) (pc + len) ls st m) := by
  obtain ⟨rfl, rfl⟩ := ax_sm hl
  rcases st with _ | ⟨v1, _ | ⟨v2, r⟩⟩
  · exact trivial
  · rcases v1 with w1 | w1 | w1 <;> exact trivial
  · rcases v1 with w1 | w1 | w1 <;> rcases v2 with w2 | w2 | w2 <;> first
    | exact trivial
    | (exact fun _ K => axw_ishl C hd K)
theorem axd_ishr (C : ax_Cx p s mt meth c R G y d c0 cF)  (hd : decode (ax_by y) pc = .ok (j, len)) (hl : ax_lnk y pc j len (.ishr) = true) : ax_PO p l e R s mt args below meth c Q G c0 cF d y RT (pc, ls, st, m) (ax_eff (ax_rk y) (.ishr) (pc + len) ls st m) := by
  obtain ⟨rfl, rfl⟩ := ax_sm hl
  rcases st with _ | ⟨v1, _ | ⟨v2, r⟩⟩
  · exact trivial
  · rcases v1 with w1 | w1 | w1 <;> exact trivial
  · rcases v1 with w1 | w1 | w1 <;> rcases v2 with w2 | w2 | w2 <;> first
    | exact trivial
    | (exact fun _ K => axw_ishr C hd K)
theorem axd_iushr (C : ax_Cx p s mt meth c R G y d c0 cF)  (hd : decode (ax_by y) pc = .ok (j, len)) (hl : ax_lnk y pc j len (.iushr) = true) : ax_PO p l e R s mt args below meth c Q G c0 cF d y RT (pc, ls, st, m) (ax_eff (ax_rk y) (.iushr) (pc + len) ls st m) := by
  obtain ⟨rfl, rfl⟩ := ax_sm hl
  rcases st with _ | ⟨v1, _ | ⟨v2, r⟩⟩
  · exact trivial
  · rcases v1 with w1 | w1 | w1 <;> exact trivial
  · rcases v1 with w1 | w1 | w1 <;> rcases v2 with w2 | w2 | w2 <;> first
    | exact trivial
    | (exact fun _ K => axw_iushr C hd K)
theorem axd_idiv (C : ax_Cx p s mt meth c R G y d c0 cF)  (hd : decode (ax_by y) pc = .ok (j, len)) (hl : ax_lnk y pc j len (.idiv) = true) : ax_PO p l e R s mt args below meth c Q G c0 cF d y RT (pc, ls, st, m) (ax_eff (ax_rk y) (.idiv) (pc + len) ls st m) := by
  obtain ⟨rfl, rfl⟩ := ax_sm hl
  rcases st with _ | ⟨v1, _ | ⟨v2, r⟩⟩
  · exact trivial
  · rcases v1 with w1 | w1 | w1 <;> exact trivial
  · rcases v1 with w1 | w1 | w1 <;> rcases v2 with w2 | w2 | w2 <;> first
    | exact trivial
    | (exact fun hg _ K => axw_idiv C hd (ax_nd hg) K)
theorem axd_irem (C : ax_Cx p s mt meth c R G y d c0 cF)  (hd : decode (ax_by y) pc = .ok (j, len)) (hl : ax_lnk y pc j len (.irem) = true) : ax_PO p l e R s mt args below meth c Q G c0 cF d y RT (pc, ls, st, m) (ax_eff (ax_rk y) (.irem) (pc + len) ls st m) := by
  obtain ⟨rfl, rfl⟩ := ax_sm hl
  rcases st with _ | ⟨v1, _ | ⟨v2, r⟩⟩
  · exact trivial
  · rcases v1 with w1 | w1 | w1 <;> exact trivial
  · rcases v1 with w1 | w1 | w1 <;> rcases v2 with w2 | w2 | w2 <;> first
    | exact trivial
    | (exact fun hg _ K => axw_irem C hd (ax_nd hg) K)
theorem axd_ladd (C : ax_Cx p s mt meth c R G y d c0 cF)  (hd : decode (ax_by y) pc = .ok (j, len)) (hl : ax_lnk y pc j len (.ladd) = true) : ax_PO p l e R s mt args below meth c Q G c0 cF d y RT (pc, ls, st, m) (ax_eff (ax_rk y) (.ladd) (pc + len) ls st m) := by
  obtain ⟨rfl, rfl⟩ := ax_sm hl
  rcases st with _ | ⟨v1, _ | ⟨v2, r⟩⟩
  · exact trivial
  · rcases v1 with w1 | w1 | w1 <;> exact trivial
  · rcases v1 with w1 | w1 | w1 <;> rcases v2 with w2 | w2 | w2 <;> first
    | exact trivial
    | (exact fun _ K => axw_ladd C hd K)
theorem axd_lmul (C : ax_Cx p s mt meth c R G y d c0 cF)  (hd : decode (ax_by y) pc = .ok (j, len)) (hl : ax_lnk y pc j len (.lmul) = true) : ax_PO p l e R s mt args below meth c Q G c0 cF d y RT (pc, ls, st, m) (ax_eff (ax_rk y) (.lmul) (pc + len) ls st m) := by
  obtain ⟨rfl, rfl⟩ := ax_sm hl
  rcases st with _ | ⟨v1, _ | ⟨v2, r⟩⟩
  · exact trivial
  · rcases v1 with w1 | w1 | w1 <;> exact trivial
  · rcases v1 with w1 | w1 | w1 <;> rcases v2 with w2 | w2 | w2 <;> first
    | exact trivial
    | (exact fun _ K => axw_lmul C hd K)
theorem axd_land (C : ax_Cx p s mt meth c R G y d c0 cF)  (hd : decode (ax_by y) pc = .ok (j, len)) (hl : ax_lnk y pc j len (.land) = true) : ax_PO p l e R s mt args below meth c Q G c0 cF d y RT (pc, ls, st, m) (ax_eff (ax_rk y) (.land) (pc + len) ls st m) := by
  obtain ⟨rfl, rfl⟩ := ax_sm hl
  rcases st with _ | ⟨v1, _ | ⟨v2, r⟩⟩
  · exact trivial
  · rcases v1 with w1 | w1 | w1 <;> exact trivial
  · rcases v1 with w1 | w1 | w1 <;> rcases v2 with w2 | w2 | w2 <;> first
    | exact trivial
    | (exact fun _ K => axw_land C hd K)
theorem axd_lor (C : ax_Cx p s mt meth c R G y d c0 cF)  (hd : decode (ax_by y) pc = .ok (j, len)) (hl : ax_lnk y pc j len (.lor) = true) : ax_PO p l e R s mt args below meth c Q G c0 cF d y RT (pc, ls, st, m) (ax_eff (ax_rk y) (.lor) (pc + len) ls st m) := by
  obtain ⟨rfl, rfl⟩ := ax_sm hl
  rcases st with _ | ⟨v1, _ | ⟨v2, r⟩⟩
  · exact trivial
  · rcases v1 with w1 | w1 | w1 <;> exact trivial
  · rcases v1 with w1 | w1 | w1 <;> rcases v2 with w2 | w2 | w2 <;> first
    | exact trivial
    | (exact fun _ K => axw_lor C hd K)
theorem axd_lcmp (C : ax_Cx p s mt meth c R G y d c0 cF)  (hd : decode (ax_by y) pc = .ok (j, len)) (hl : ax_lnk y pc j len (.lcmp) = true) : ax_PO p l e R s mt args below meth c Q G c0 cF d y RT (pc, ls, st, m) (ax_eff (ax_rk y) (.lcmp) (pc + len) ls st m) := by
  obtain ⟨rfl, rfl⟩ := ax_sm hl
  rcases st with _ | ⟨v1, _ | ⟨v2, r⟩⟩
  · exact trivial
  · rcases v1 with w1 | w1 | w1 <;> exact trivial
  · rcases v1 with w1 | w1 | w1 <;> rcases v2 with w2 | w2 | w2 <;> first
    | exact trivial
    | (exact fun _ K => axw_lcmp C hd K)
theorem axd_ldiv (C : ax_Cx p s mt meth c R G y d c0 cF)  (hd : decode (ax_by y) pc = .ok (j, len)) (hl : ax_lnk y pc j len (.ldiv) = true) : ax_PO p l e R s mt args below meth c Q G c0 cF d y RT (pc, ls, st, m) (ax_eff (ax_rk y) (.ldiv) (pc + len) ls st m) := by
  obtain ⟨rfl, rfl⟩ := ax_sm hl
  rcases st with _ | ⟨v1, _ | ⟨v2, r⟩⟩
  · exact trivial
  · rcases v1 with w1 | w1 | w1 <;> exact trivial
  · rcases v1 with w1 | w1 | w1 <;> rcases v2 with w2 | w2 | w2 <;> first
    | exact trivial
    | (exact fun hg _ K => axw_ldiv C hd (ax_ndl hg) K)
theorem axd_lrem (C : ax_Cx p s mt meth c R G y d c0 cF)  (hd : decode (ax_by y) pc = .ok (j, len)) (hl : ax_lnk y pc j len (.lrem) = true) : ax_PO p l e R s mt args below meth c Q G c0 cF d y RT (pc, ls, st, m) (ax_eff (ax_rk y) (.lrem) (pc + len) ls st m) := by
  obtain ⟨rfl, rfl⟩ := ax_sm hl
  rcases st with _ | ⟨v1, _ | ⟨v2, r⟩⟩
  · exact trivial
  · rcases v1 with w1 | w1 | w1 <;> exact trivial
  · rcases v1 with w1 | w1 | w1 <;> rcases v2 with w2 | w2 | w2 <;> first
    | exact trivial
    | (exact fun hg _ K => axw_lrem C hd (ax_ndl hg) K)
theorem axd_lshl (C : ax_Cx p s mt meth c R G y d c0 cF)  (hd : decode (ax_by y) pc = .ok (j, len)) (hl : ax_lnk y pc j len (.lshl) = true) : ax_PO p l e R s mt args below meth c Q G c0 cF d y RT (pc, ls, st, m) (ax_eff (ax_rk y) (.lshl) (pc + len) ls st m) := by
  obtain ⟨rfl, rfl⟩ := ax_sm hl
  rcases st with _ | ⟨v1, _ | ⟨v2, r⟩⟩
  · exact trivial
  · rcases v1 with w1 | w1 | w1 <;> exact trivial
  · rcases v1 with w1 | w1 | w1 <;> rcases v2 with w2 | w2 | w2 <;> first
    | exact trivial
    | (exact fun _ K => axw_lshl C hd K)
theorem axd_lushr (C : ax_Cx p s mt meth c R G y d c0 cF)  (hd : decode (ax_by y) pc = .ok (j, len)) (hl : ax_lnk y pc j len (.lushr) = true) : ax_PO p l e R s mt args below meth c Q G c0 cF d y RT (pc, ls, st, m) (ax_eff (ax_rk y) (.lushr) (pc + len) ls st m) := by
  obtain ⟨rfl, rfl⟩ := ax_sm hl
  rcases st with _ | ⟨v1, _ | ⟨v2, r⟩⟩
  · exact trivial
  · rcases v1 with w1 | w1 | w1 <;> exact trivial
  · rcases v1 with w1 | w1 | w1 <;> rcases v2 with w2 | w2 | w2 <;> first
    | exact trivial
    | (exact fun _ K => axw_lushr C hd K)
theorem axd_i2l (C : ax_Cx p s mt meth c R G y d c0 cF)  (hd : decode (ax_by y) pc = .ok (j, len)) (hl : ax_lnk y pc j len (.i2l) = true) : ax_PO p l e R s mt args below meth c Q G c0 cF d y RT (pc, ls, st, m) (ax_eff (ax_rk y) (.i2l) (pc + len) ls st m) := by
  obtain ⟨rfl, rfl⟩ := ax_sm hl
  rcases st with _ | ⟨v1, r⟩
  · exact trivial
  · rcases v1 with w1 | w1 | w1 <;> first
    | exact trivial
    | (exact fun _ K => axw_i2l C hd K)
theorem axd_l2i (C : ax_Cx p s mt meth c R G y d c0 cF)  (hd : decode (ax_by y) pc = .ok (j, len)) (hl : ax_lnk y pc j len (.l2i) = true) : ax_PO p l e R s mt args below meth c Q G c0 cF d y RT (pc, ls, st, m) (ax_eff (ax_rk y) (.l2i) (pc + len) ls st m) := by
  obtain ⟨rfl, rfl⟩ := ax_sm hl
  rcases st with _ | ⟨v1, r⟩
  · exact trivial
  · rcases v1 with w1 | w1 | w1 <;> first
    | exact trivial
    | (exact fun _ K => axw_l2i C hd K)
theorem axd_i2b (C : ax_Cx p s mt meth c R G y d c0 cF)  (hd : decode (ax_by y) pc = .ok (j, len)) (hl : ax_lnk y pc j len (.i2b) = true) : ax_PO p l e R s mt args below meth c Q G c0 cF d y RT (pc, ls, st, m) (ax_eff (ax_rk y) (.i2b) (pc + len) ls st m) := by
  obtain ⟨rfl, rfl⟩ := ax_sm hl
  rcases st with _ | ⟨v1, r⟩
  · exact trivial
  · rcases v1 with w1 | w1 | w1 <;> first
    | exact trivial
    | (exact fun _ K => axw_i2b C hd K)
theorem axd_pop (C : ax_Cx p s mt meth c R G y d c0 cF)  (hd : decode (ax_by y) pc = .ok (j, len)) (hl : ax_lnk y pc j len (.pop) = true) : ax_PO p l e R s mt args below meth c Q G c0 cF d y RT (pc, ls, st, m) (ax_eff (ax_rk y) (.pop) (pc + len) ls st m) := by
  obtain ⟨rfl, rfl⟩ := ax_sm hl
  rcases st with _ | ⟨v1, r⟩
  · exact trivial
  · rcases v1 with w1 | w1 | w1 <;> first
    | exact trivial
    | (exact fun _ K => axw_pop C hd K)
theorem axd_dup (C : ax_Cx p s mt meth c R G y d c0 cF)  (hd : decode (ax_by y) pc = .ok (j, len)) (hl : ax_lnk y pc j len (.dup) = true) : ax_PO p l e R s mt args below meth c Q G c0 cF d y RT (pc, ls, st, m) (ax_eff (ax_rk y) (.dup) (pc + len) ls st m) := by
  obtain ⟨rfl, rfl⟩ := ax_sm hl
  rcases st with _ | ⟨v1, r⟩
  · exact trivial
  · rcases v1 with w1 | w1 | w1 <;> first
    | exact trivial
    | (exact fun _ K => axw_dupi C hd K)
    | (exact fun _ K => axw_dupr C hd K)
theorem axd_dup2 (C : ax_Cx p s mt meth c R G y d c0 cF)  (hd : decode (ax_by y) pc = .ok (j, len)) (hl : ax_lnk y pc j len (.dup2) = true) : ax_PO p l e R s mt args below meth c Q G c0 cF d y RT (pc, ls, st, m) (ax_eff (ax_rk y) (.dup2) (pc + len) ls st m) := by
  obtain ⟨rfl, rfl⟩ := ax_sm hl
  rcases st with _ | ⟨v1, _ | ⟨v2, r⟩⟩
  · exact trivial
  · rcases v1 with w1 | w1 | w1 <;> exact trivial
  · rcases v1 with w1 | w1 | w1 <;> rcases v2 with w2 | w2 | w2 <;> first
    | exact trivial
    | (exact fun _ K => axw_dup2 C hd K)
theorem axd_iconst (C : ax_Cx p s mt meth c R G y d c0 cF) {k : Int} (hd : decode (ax_by y) pc = .ok (j, len)) (hl : ax_lnk y pc j len (.iconst k) = true) : ax_PO p l e R s mt args below meth c Q G c0 cF d y RT (pc, ls, st, m) (ax_eff (ax_rk y) (.iconst k) (pc + len) ls st m) := by
  exact fun _ K => axw_iconst C hd hl K
theorem axd_lconst (C : ax_Cx p s mt meth c R G y d c0 cF) {k : Int} (hd : decode (ax_by y) pc = .ok (j, len)) (hl : ax_lnk y pc j len (.jsr_w k) = true) : ax_PO p l e R s mt args below meth c Q G c0 cF d y RT (pc, ls, st, m) (ax_eff (ax_rk y) (.jsr_w k) (pc + len) ls st m) := by
  exact fun _ K => axw_lconst C hd hl K
theorem axd_iload (C : ax_Cx p s mt meth c R G y d c0 cF) {k : Nat} (hd : decode (ax_by y) pc = .ok (j, len)) (hl : ax_lnk y pc j len (.iload k) = true) : ax_PO p l e R s mt args below meth c Q G c0 cF d y RT (pc, ls, st, m) (ax_eff (ax_rk y) (.iload k) (pc + len) ls st m) := by
  show ax_PO p l e R s mt args below meth c Q G c0 cF d y RT (pc, ls, st, m) (match ax_ld ls k with | some (.inl x) => ax_go (pc + len, ls, (.inl x : ax_V) :: st, m) | _ => ax_no)
  cases hx : ax_ld ls k with
  | none => exact trivial
  | some v => rcases v with x | x | x <;> first | exact trivial | exact fun _ K => axw_iload C hd hl hx K
theorem axd_lload (C : ax_Cx p s mt meth c R G y d c0 cF) {k : Nat} (hd : decode (ax_by y) pc = .ok (j, len)) (hl : ax_lnk y pc j len (.lload k) = true) : ax_PO p l e R s mt args below meth c Q G c0 cF d y RT (pc, ls, st, m) (ax_eff (ax_rk y) (.lload k) (pc + len) ls st m) := by
  show ax_PO p l e R s mt args below meth c Q G c0 cF d y RT (pc, ls, st, m) (match ax_ld ls k with | some (.inr (.inl x)) => ax_go (pc + len, ls, (.inr (.inl x) : ax_V) :: st, m) | _ => ax_no)
  cases hx : ax_ld ls k with
  | none => exact trivial
  | some v => rcases v with x | x | x <;> first | exact trivial | exact fun _ K => axw_lload C hd hl hx K
theorem axd_aload (C : ax_Cx p s mt meth c R G y d c0 cF) {k : Nat} (hd : decode (ax_by y) pc = .ok (j, len)) (hl : ax_lnk y pc j len (.aload k) = true) : ax_PO p l e R s mt args below meth c Q G c0 cF d y RT (pc, ls, st, m) (ax_eff (ax_rk y) (.aload k) (pc + len) ls st m) := by
  show ax_PO p l e R s mt args below meth c Q G c0 cF d y RT (pc, ls, st, m) (match ax_ld ls k with | some (.inr (.inr x)) => ax_go (pc + len, ls, (.inr (.inr x) : ax_V) :: st, m) | _ => ax_no)
  cases hx : ax_ld ls k with
  | none => exact trivial
  | some v => rcases v with x | x | x <;> first | exact trivial | exact fun _ K => axw_aload C hd hl hx K
theorem axd_istore (C : ax_Cx p s mt meth c R G y d c0 cF) {k : Nat} (hd : decode (ax_by y) pc = .ok (j, len)) (hl : ax_lnk y pc j len (.istore k) = true) : ax_PO p l e R s mt args below meth c Q G c0 cF d y RT (pc, ls, st, m) (ax_eff (ax_rk y) (.istore k) (pc + len) ls st m) := by
  rcases st with _ | ⟨v1, r⟩
  · exact trivial
  · rcases v1 with w1 | w1 | w1 <;> first
    | exact trivial
    | (exact fun _ K => axw_istore C hd hl K)
theorem axd_lstore (C : ax_Cx p s mt meth c R G y d c0 cF) {k : Nat} (hd : decode (ax_by y) pc = .ok (j, len)) (hl : ax_lnk y pc j len (.lstore k) = true) : ax_PO p l e R s mt args below meth c Q G c0 cF d y RT (pc, ls, st, m) (ax_eff (ax_rk y) (.lstore k) (pc + len) ls st m) := by
  rcases st with _ | ⟨v1, r⟩
  · exact trivial
  · rcases v1 with w1 | w1 | w1 <;> first
    | exact trivial
    | (exact fun _ K => axw_lstore C hd hl K)
theorem axd_astore (C : ax_Cx p s mt meth c R G y d c0 cF) {k : Nat} (hd : decode (ax_by y) pc = .ok (j, len)) (hl : ax_lnk y pc j len (.astore k) = true) : ax_PO p l e R s mt args below meth c Q G c0 cF d y RT (pc, ls, st, m) (ax_eff (ax_rk y) (.astore k) (pc + len) ls st m) := by
  rcases st with _ | ⟨v1, r⟩
  · exact trivial
  · rcases v1 with w1 | w1 | w1 <;> first
    | exact trivial
    | (exact fun _ K => axw_astore C hd hl K)
theorem axd_iinc (C : ax_Cx p s mt meth c R G y d c0 cF) {k : Nat} {n : Int} (hd : decode (ax_by y) pc = .ok (j, len)) (hl : ax_lnk y pc j len (.iinc k n) = true) : ax_PO p l e R s mt args below meth c Q G c0 cF d y RT (pc, ls, st, m) (ax_eff (ax_rk y) (.iinc k n) (pc + len) ls st m) := by
  unfold ax_lnk at hl
  dsimp only at hl
  split at hl
  · simp only [Bool.and_eq_true, Nat.beq_eq, decide_eq_true_eq] at hl
    obtain ⟨⟨⟨rfl, rfl⟩, rfl⟩, hn⟩ := hl
    show ax_PO p l e R s mt args below meth c Q G c0 cF d y RT (pc, ls, st, m) (match ax_ld ls _ with | some (.inl x) => ax_go (pc + 3, ax_s1 ls _ (ax_vi (x + ax_ic _)), st, m) | _ => ax_no)
    rename_i k' n'
    cases hx : ax_ld ls k' with
    | none => exact trivial
    | some v => rcases v with x | x | x <;> first | exact trivial | exact fun _ K => axw_iinc C hd hn hx K
  · cases hl
theorem axd_goto (C : ax_Cx p s mt meth c R G y d c0 cF) {t : Int} (hd : decode (ax_by y) pc = .ok (j, len)) (hl : ax_lnk y pc j len (.goto t) = true) : ax_PO p l e R s mt args below meth c Q G c0 cF d y RT (pc, ls, st, m) (ax_eff (ax_rk y) (.goto t) (pc + len) ls st m) := by
  unfold ax_lnk at hl
  dsimp only at hl
  split at hl
  · simp only [Bool.and_eq_true, Nat.beq_eq, decide_eq_true_eq] at hl
    obtain ⟨rfl, ht⟩ := hl
    exact fun _ K => axw_goto C hd ht K
  · cases hl
theorem axd_icmp (C : ax_Cx p s mt meth c R G y d c0 cF) {cd : ClassFile.Cond} {t : Int} (hd : decode (ax_by y) pc = .ok (j, len)) (hl : ax_lnk y pc j len (.if_icmp cd t) = true) : ax_PO p l e R s mt args below meth c Q G c0 cF d y RT (pc, ls, st, m) (ax_eff (ax_rk y) (.if_icmp cd t) (pc + len) ls st m) := by
  unfold ax_lnk at hl
  dsimp only at hl
  split at hl
  · simp only [Bool.and_eq_true, Nat.beq_eq, decide_eq_true_eq] at hl
    obtain ⟨⟨rfl, rfl⟩, ht⟩ := hl
    rcases st with _ | ⟨v1, _ | ⟨v2, r⟩⟩
    · exact trivial
    · rcases v1 with w1 | w1 | w1 <;> exact trivial
    · rcases v1 with w1 | w1 | w1 <;> rcases v2 with w2 | w2 | w2 <;> first
      | exact trivial
      | (exact fun K => axw_icmp C hd ht K)
  · cases hl
theorem axd_if (C : ax_Cx p s mt meth c R G y d c0 cF) {cd : ClassFile.Cond} {t : Int} (hd : decode (ax_by y) pc = .ok (j, len)) (hl : ax_lnk y pc j len (.ifCond cd t) = true) : ax_PO p l e R s mt args below meth c Q G c0 cF d y RT (pc, ls, st, m) (ax_eff (ax_rk y) (.ifCond cd t) (pc + len) ls st m) := by
  unfold ax_lnk at hl
  dsimp only at hl
  split at hl
  · simp only [Bool.and_eq_true, Nat.beq_eq, decide_eq_true_eq] at hl
    obtain ⟨⟨rfl, rfl⟩, ht⟩ := hl
    rcases st with _ | ⟨v1, r⟩
    · exact trivial
    · rcases v1 with w1 | w1 | w1 <;> first
      | exact trivial
      | (exact fun K => axw_if C hd ht K)
  · cases hl
theorem ax_tab_pick (x : Int32) (ls : ax_L) (r : List ax_V) (m : ax_M) (dd : ax_S) : ∀ (ts : List Int) (lo : Int), 0 ≤ lo → lo + ts.length ≤ 1000 →
    ((x.toInt < lo ∨ lo + ts.length ≤ x.toInt) → ax_pick (ax_tab x lo ls r m ts) dd = dd) ∧ (∀ k : Nat, x.toInt = lo + k → ∀ t, ts[k]? = some t → ax_pick (ax_tab x lo ls r m ts) dd = (t.toNat, ls, r, m))
  | [], lo, _, _ => ⟨fun _ => rfl, fun k _ t h => by simp at h⟩
  | t :: ts, lo, h0, h1 => by
    have h1' : lo + (ts.length + 1 : Nat) ≤ 1000 := h1
    have ih := ax_tab_pick x ls r m dd ts (lo + 1) (by omega) (by omega)
    have e : ax_pick (ax_tab x lo ls r m (t :: ts)) dd = bif decide (x = ax_ic lo) then (t.toNat, ls, r, m) else ax_pick (ax_tab x (lo + 1) ls r m ts) dd := rfl
    have hlo : (ax_ic lo).toInt = lo := by
      have a : lo = ((lo.toNat : Nat) : Int) := by omega
      rw [a]
      exact nI_toInt (by omega)
    have heq : x = ax_ic lo ↔ x.toInt = lo := ⟨fun q => by rw [q, hlo], fun q => Int32.toInt_inj.mp (by rw [q, hlo])⟩
    rw [e]
    refine ⟨fun hx => ?_, fun k hk t' ht' => ?_⟩
    · have hx' : x.toInt < lo ∨ lo + (ts.length + 1 : Nat) ≤ x.toInt := hx
      rw [decide_eq_false (fun q => by have := heq.mp q; omega)]
      exact ih.1 (by omega)
    · cases k with
      | zero =>
        rw [decide_eq_true (heq.mpr (by omega))]
        rw [List.getElem?_cons_zero] at ht'
        cases ht'
        rfl
      | succ k =>
        rw [decide_eq_false (fun q => by have := heq.mp q; omega)]
        rw [List.getElem?_cons_succ] at ht'
        exact ih.2 k (by omega) t' ht'
theorem axd_tableswitch (C : ax_Cx p s mt meth c R G y d c0 cF) {td lo hi : Int} {offs : Array Int} (hd : decode (ax_by y) pc = .ok (j, len)) (hl : ax_lnk y pc j len (.tableswitch td lo hi offs) = true) : ax_PO p l e R s mt args below meth c Q G c0 cF d y RT (pc, ls, st, m) (ax_eff (ax_rk y) (.tableswitch td lo hi offs) (pc + len) ls st m) := by
  unfold ax_lnk at hl
  dsimp only at hl
  split at hl
  · rename_i e' l' h' os
    simp only [Bool.and_eq_true, decide_eq_true_eq] at hl
    obtain ⟨⟨⟨⟨⟨⟨rfl, rfl⟩, hdf⟩, hos⟩, hsz⟩, h0⟩, h1k⟩ := hl
    rcases st with _ | ⟨v1, r⟩
    · exact trivial
    · rcases v1 with x | x | x
      · intro K
        show ax_WW p l e R s mt args below meth c Q G c0 (ax_ml y) (pc, ls, ax_vi x :: r, m)
        intro H locs cells slots la h
        have hlen : offs.toList.length = os.toList.length := by
          have := congrArg List.length hos
          simpa using this.symm
        have hpk := ax_tab_pick x ls r m (td.toNat, ls, r, m) offs.toList l' h0 (by rw [hlen]; simp; omega)
        by_cases hx : x.toInt < l' ∨ h' < x.toInt
        · have e1 := hpk.1 (by rw [hlen]; simp; omega)
          rw [e1] at K
          exact lv_tableOut C.1 C.2.1 hd hx hdf (K H locs cells slots la (h.st (ax_oks_tl h.2.2.2.1)))
        · have hk : (x.toInt - l').toNat < os.size := by omega
          have hko : (x.toInt - l').toNat < offs.toList.length := by rw [hlen]; simpa using hk
          have ho1 : os[(x.toInt - l').toNat]? = some os[(x.toInt - l').toNat] := Array.getElem?_eq_getElem hk
          have ho2 : offs.toList[(x.toInt - l').toNat]? = some offs.toList[(x.toInt - l').toNat] := List.getElem?_eq_getElem hko
          have ht : (pc : Int) + os[(x.toInt - l').toNat] = ((offs.toList[(x.toInt - l').toNat].toNat : Nat) : Int) := by
            have q1 := congrArg (fun L => L[(x.toInt - l').toNat]?) hos
            simp only [List.getElem?_map, ho2, Array.getElem?_toList, ho1, Option.map_some] at q1
            exact Option.some.inj q1
          have e1 := hpk.2 (x.toInt - l').toNat (by omega) _ ho2
          rw [e1] at K
          exact lv_tableIn C.1 C.2.1 hd (fun q => hx (Or.inl q)) (fun q => hx (Or.inr q)) ho1 ht (K H locs cells slots la (h.st (ax_oks_tl h.2.2.2.1)))
      · exact trivial
      · exact trivial
  · cases hl
end AXD
