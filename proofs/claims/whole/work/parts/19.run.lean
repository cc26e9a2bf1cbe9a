/-! THE MACHINE RUNS: a run of the typed machine is one of the real one -/
section AXR
variable {p : Program} {l : Launch} {e : Env} {R : Room} {s : State} {mt : MethodId} {args : Array Value} {below : List Frame} {meth : Method} {c : Code} {Q : State → Prop} {G : ax_G} {c0 cF d y : Nat} {RT : Option ax_V → ax_M → Prop}
variable {pc len : Nat} {j : Instr} {ls : ax_L} {st : List ax_V} {m : ax_M}
theorem axd_ireturn (C : ax_Cx p s mt meth c R G y d c0 cF) (hR : ax_RH p l e R s mt args below meth c Q G c0 y RT) (hd : decode (ax_by y) pc = .ok (j, len)) (hl : ax_lnk y pc j len (.ireturn) = true) : ax_PO p l e R s mt args below meth c Q G c0 cF d y RT (pc, ls, st, m) (ax_eff (ax_rk y) (.ireturn) (pc + len) ls st m) := by
  obtain ⟨rfl, rfl⟩ := ax_sm hl
  rcases st with _ | ⟨v1, _ | ⟨v2, r⟩⟩
  · exact trivial
  · rcases v1 with x | w | w
    · show ax_PO p l e R s mt args below meth c Q G c0 cF d y RT (pc, ls, [ax_vi x], m) (bif Nat.beq (ax_rk y) 1 then ax_rt (some (ax_vi x)) m else bif Nat.beq (ax_rk y) 3 then ax_rg (ax_bit x) (some (ax_vi x)) m else ax_no)
      cases hb : Nat.beq (ax_rk y) 1 with
      | true => exact fun hT H locs cells slots la h => hR _ _ pc H locs cells slots la hT h.2.1 h.2.2.2.2.1 h.2.2.2.2.2.1 h.2.2.2.2.2.2.1.1 h.2.2.2.2.2.2.1.2 (Or.inr (Or.inl ⟨x, Nat.eq_of_beq_eq_true hb, rfl, hd⟩))
      | false =>
        cases hb2 : Nat.beq (ax_rk y) 3 with
        | true => exact fun hg hT H locs cells slots la h => hR _ _ pc H locs cells slots la hT h.2.1 h.2.2.2.2.1 h.2.2.2.2.2.1 h.2.2.2.2.2.2.1.1 h.2.2.2.2.2.2.1.2 (Or.inr (Or.inr (Or.inr ⟨x, Nat.eq_of_beq_eq_true hb2, rfl, hg, hd⟩)))
        | false => exact trivial
    · exact trivial
    · exact trivial
  · rcases v1 with x | w | w <;> exact trivial
theorem axd_lreturn (C : ax_Cx p s mt meth c R G y d c0 cF) (hR : ax_RH p l e R s mt args below meth c Q G c0 y RT) (hd : decode (ax_by y) pc = .ok (j, len)) (hl : ax_lnk y pc j len (.lreturn) = true) : ax_PO p l e R s mt args below meth c Q G c0 cF d y RT (pc, ls, st, m) (ax_eff (ax_rk y) (.lreturn) (pc + len) ls st m) := by
  obtain ⟨rfl, rfl⟩ := ax_sm hl
  rcases st with _ | ⟨v1, _ | ⟨v2, r⟩⟩
  · exact trivial
  · rcases v1 with w | x | w
    · exact trivial
    · show ax_PO p l e R s mt args below meth c Q G c0 cF d y RT (pc, ls, [ax_vl x], m) (bif Nat.beq (ax_rk y) 2 then ax_rt (some (ax_vl x)) m else ax_no)
      cases hb : Nat.beq (ax_rk y) 2 with
      | true => exact fun hT H locs cells slots la h => hR _ _ pc H locs cells slots la hT h.2.1 h.2.2.2.2.1 h.2.2.2.2.2.1 h.2.2.2.2.2.2.1.1 h.2.2.2.2.2.2.1.2 (Or.inr (Or.inr (Or.inl ⟨x, Nat.eq_of_beq_eq_true hb, rfl, hd⟩)))
      | false => exact trivial
    · exact trivial
  · rcases v1 with x | w | w <;> exact trivial
theorem axd_return_ (C : ax_Cx p s mt meth c R G y d c0 cF) (hR : ax_RH p l e R s mt args below meth c Q G c0 y RT) (hd : decode (ax_by y) pc = .ok (j, len)) (hl : ax_lnk y pc j len (.return_) = true) : ax_PO p l e R s mt args below meth c Q G c0 cF d y RT (pc, ls, st, m) (ax_eff (ax_rk y) (.return_) (pc + len) ls st m) := by
  obtain ⟨rfl, rfl⟩ := ax_sm hl
  rcases st with _ | ⟨v1, r⟩
  · show ax_PO p l e R s mt args below meth c Q G c0 cF d y RT (pc, ls, [], m) (bif Nat.beq (ax_rk y) 0 then ax_rt none m else ax_no)
    cases hb : Nat.beq (ax_rk y) 0 with
    | true => exact fun hT H locs cells slots la h => hR _ _ pc H locs cells slots la hT h.2.1 h.2.2.2.2.1 h.2.2.2.2.2.1 h.2.2.2.2.2.2.1.1 h.2.2.2.2.2.2.1.2 (Or.inl ⟨Nat.eq_of_beq_eq_true hb, rfl, hd⟩)
    | false => exact trivial
  · exact trivial
theorem ax_disp (C : ax_Cx p s mt meth c R G y d c0 cF) (hR : ax_RH p l e R s mt args below meth c Q G c0 y RT) {i : Instr} (hd : decode (ax_by y) pc = .ok (j, len)) (hl : ax_lnk y pc j len i = true) : ax_PO p l e R s mt args below meth c Q G c0 cF d y RT (pc, ls, st, m) (ax_eff (ax_rk y) i (pc + len) ls st m) := by
  cases i with
  | iadd => exact axd_iadd C hd hl
  | isub => exact axd_isub C hd hl
  | imul => exact axd_imul C hd hl
  | iand => exact axd_iand C hd hl
  | ior => exact axd_ior C hd hl
  | ixor => exact axd_ixor C hd hl
  | ishl => exact axd_ishl C hd hl
  | ishr => exact axd_ishr C hd hl
  | iushr => exact axd_iushr C hd hl
  | idiv => exact axd_idiv C hd hl
  | irem => exact axd_irem C hd hl
  | ladd => exact axd_ladd C hd hl
  | lmul => exact axd_lmul C hd hl
  | land => exact axd_land C hd hl
  | lor => exact axd_lor C hd hl
  | lcmp => exact axd_lcmp C hd hl
  | ldiv => exact axd_ldiv C hd hl
  | lrem => exact axd_lrem C hd hl
  | lshl => exact axd_lshl C hd hl
  | lushr => exact axd_lushr C hd hl
  | i2l => exact axd_i2l C hd hl
  | l2i => exact axd_l2i C hd hl
  | i2b => exact axd_i2b C hd hl
  | pop => exact axd_pop C hd hl
  | dup => exact axd_dup C hd hl
  | dup2 => exact axd_dup2 C hd hl
  | iconst => exact axd_iconst C hd hl
  | iload => exact axd_iload C hd hl
  | lload => exact axd_lload C hd hl
  | aload => exact axd_aload C hd hl
  | istore => exact axd_istore C hd hl
  | lstore => exact axd_lstore C hd hl
  | astore => exact axd_astore C hd hl
  | iinc => exact axd_iinc C hd hl
  | goto => exact axd_goto C hd hl
  | tableswitch => exact axd_tableswitch C hd hl
  | getfield => exact axd_getfield C hd hl
  | putfield => exact axd_putfield C hd hl
  | getstatic => exact axd_getstatic C hd hl
  | iaload => exact axd_iaload C hd hl
  | baload => exact axd_baload C hd hl
  | caload => exact axd_caload C hd hl
  | aaload => exact axd_aaload C hd hl
  | iastore => exact axd_iastore C hd hl
  | bastore => exact axd_bastore C hd hl
  | aastore => exact axd_aastore C hd hl
  | new => exact axd_new C hd hl
  | newarray => exact axd_newarray C hd hl
  | anewarray => exact axd_anewarray C hd hl
  | jsr_w => exact axd_lconst C hd hl
  | if_icmp => exact axd_icmp C hd hl
  | ifCond => exact axd_if C hd hl
  | arraylength => exact axd_alen C hd hl
  | multianewarray => exact axd_multi C hd hl
  | monitorenter => exact axd_copy C hd hl
  | monitorexit => exact axd_objInit C hd hl
  | swap => exact axd_max C hd hl
  | nop => exact axd_min C hd hl
  | invokestatic => exact axd_callS C hd hl
  | invokevirtual => exact axd_callV C hd hl
  | invokespecial => exact axd_callI C hd hl
  | ireturn => exact axd_ireturn C hR hd hl
  | lreturn => exact axd_lreturn C hR hd hl
  | return_ => exact axd_return_ C hR hd hl
  | _ => exact trivial
end AXR
/-- what an instruction does to the number of cells, and what a return gives -/
def ax_MN (rk : Nat) (m : ax_M) (E : ax_E) : Prop := match E with
  | .inl S' => m.1 ≤ S'.2.2.2.1
  | .inr (.inl (_, S')) => m.1 ≤ S'.2.2.2.1
  | .inr (.inr (.inl (cs, dd))) => (∀ q ∈ cs, q.2.2.2.2 = m) ∧ dd.2.2.2 = m
  | .inr (.inr (.inr (.inl (_, _, S')))) => S'.2.2.2 = m
  | .inr (.inr (.inr (.inr (.inl (v, mm))))) => mm = m ∧ (∀ z, v ≠ some (.inr (.inr z))) ∧ (rk = 0 → v = none)
  | .inr (.inr (.inr (.inr (.inr (.inl (_, v, mm)))))) => mm = m ∧ (∀ z, v ≠ some (.inr (.inr z))) ∧ (rk = 0 → v = none)
  | .inr (.inr (.inr (.inr (.inr (.inr _))))) => True
theorem ax_MN_bif {rk : Nat} {m : ax_M} {g : Bool} {a b : ax_E} (ha : g = true → ax_MN rk m a) (hb : ax_MN rk m b) : ax_MN rk m (bif g then a else b) := by
  cases g with
  | true => exact ha rfl
  | false => exact hb
theorem ax_tab_mem (x : Int32) (ls : ax_L) (r : List ax_V) (m : ax_M) : ∀ (ts : List Int) (lo : Int), ∀ q ∈ ax_tab x lo ls r m ts, q.2.2.2.2 = m
  | [], _, q, hq => by cases hq
  | t :: ts, lo, q, hq => by
    rcases List.mem_cons.mp hq with rfl | hq
    · rfl
    · exact ax_tab_mem x ls r m ts (lo + 1) q hq
theorem ax_rt_int {rk : Nat} {m : ax_M} {x : Int32} (h : Nat.beq rk 1 = true ∨ Nat.beq rk 3 = true) : m = m ∧ (∀ z, (some (ax_vi x) : Option ax_V) ≠ some (.inr (.inr z))) ∧ (rk = 0 → (some (ax_vi x) : Option ax_V) = none) :=
  ⟨rfl, (fun z h => (by cases h)), (fun h0 => (by subst h0; rcases h with h | h <;> cases h))⟩
theorem ax_rt_long {rk : Nat} {m : ax_M} {x : Int64} (h : Nat.beq rk 2 = true) : m = m ∧ (∀ z, (some (ax_vl x) : Option ax_V) ≠ some (.inr (.inr z))) ∧ (rk = 0 → (some (ax_vl x) : Option ax_V) = none) :=
  ⟨rfl, (fun z h => (by cases h)), (fun h0 => (by subst h0; cases h))⟩
theorem ax_rt_void {rk : Nat} {m : ax_M} : m = m ∧ (∀ z, (none : Option ax_V) ≠ some (.inr (.inr z))) ∧ (rk = 0 → (none : Option ax_V) = none) :=
  ⟨rfl, (fun z h => (by cases h)), (fun _ => rfl)⟩
set_option maxHeartbeats 4000000 in
theorem ax_eff_mn (rk : Nat) (i : Instr) (nx : Nat) (ls : ax_L) (st : List ax_V) (m : ax_M) : ax_MN rk m (ax_eff rk i nx ls st m) := by
  cases i <;> (unfold ax_eff; dsimp only) <;> repeat' (first
    | exact trivial
    | exact Nat.le_refl _
    | exact Nat.le_succ _
    | exact Nat.le_trans (Nat.le_succ _) (Nat.le_add_right _ _)
    | exact rfl
    | exact ⟨fun q hq => by rw [List.mem_singleton.mp hq], rfl⟩
    | exact ⟨ax_tab_mem _ _ _ _ _ _, rfl⟩
    | exact ax_rt_int (Or.inl (by assumption))
    | exact ax_rt_int (Or.inr (by assumption))
    | exact ax_rt_long (by assumption)
    | exact ax_rt_void
    | refine ax_MN_bif (fun _ => ?_) ?_
    | split)
theorem ax_pick_mem {cs : List (Bool × ax_S)} {dd : ax_S} {m : ax_M} (h : ∀ q ∈ cs, q.2.2.2.2 = m) (hd : dd.2.2.2 = m) : (ax_pick cs dd).2.2.2 = m := by
  induction cs with
  | nil => exact hd
  | cons q cs ih =>
    obtain ⟨g, S⟩ := q
    cases g with
    | true => exact h (true, S) List.mem_cons_self
    | false => exact ih (fun q hq => h q (List.mem_cons_of_mem _ hq))
theorem ax_run_pure {call : ax_X} {cd : ax_C} {rk : Nat} (hcall : ∀ (y' : Nat) (as : List ax_V) (m : ax_M) (r' : Option ax_V) (m' : ax_M), call y' as m = some (r', m') → m.1 ≤ m'.1) :
    ∀ (n : Nat) (S : ax_S) (r : Option ax_V) (m' : ax_M), ax_run call cd rk n S = some (r, m') → S.2.2.2.1 ≤ m'.1 ∧ (∀ z, r ≠ some (.inr (.inr z))) ∧ (rk = 0 → r = none)
  | 0, S, r, m', h => by cases h
  | n + 1, (pc, ls, st, m), r, m', h => by
    have ih := ax_run_pure (cd := cd) (rk := rk) hcall n
    unfold ax_run at h
    cases hcd : cd pc with
    | none => rw [hcd] at h; cases h
    | some q =>
      obtain ⟨i, nx, k⟩ := q
      rw [hcd] at h
      dsimp only at h
      generalize (bif Nat.beq k 0 then ls else ax_mk k ls) = ls' at h
      have hMN := ax_eff_mn rk i nx ls' st m
      generalize ax_eff rk i nx ls' st m = E at h hMN
      rcases E with S' | ⟨g, S'⟩ | ⟨cs, dd⟩ | ⟨q, as, S'⟩ | ⟨v, mm⟩ | ⟨g, v, mm⟩ | u
      · obtain ⟨k2, k3⟩ := ih S' r m' h
        exact ⟨Nat.le_trans hMN k2, k3⟩
      · cases g with
        | false => cases h
        | true =>
          obtain ⟨k2, k3⟩ := ih S' r m' h
          exact ⟨Nat.le_trans hMN k2, k3⟩
      · obtain ⟨k2, k3⟩ := ih _ r m' h
        have hpm := ax_pick_mem hMN.1 hMN.2
        rw [hpm] at k2
        exact ⟨k2, k3⟩
      · have hSm : S'.2.2.2 = m := hMN
        dsimp only at h
        cases hcl : call (q / 1000) as S'.2.2.2 with
        | none => rw [hcl] at h; cases h
        | some w =>
          obtain ⟨r1, m1⟩ := w
          rw [hcl] at h
          dsimp only at h
          have a4 := hcall _ _ _ _ _ hcl
          obtain ⟨k2, k3⟩ := ih _ r m' h
          exact ⟨Nat.le_trans (by rw [← hSm]; exact a4) k2, k3⟩
      · have h : (v, mm) = (r, m') := Option.some.inj h
        cases h
        have hMN : m' = m ∧ _ := hMN
        exact ⟨Nat.le_of_eq (by rw [hMN.1]), hMN.2⟩
      · cases g with
        | false => cases h
        | true =>
          have h : (v, mm) = (r, m') := Option.some.inj h
          cases h
          have hMN : m' = m ∧ _ := hMN
          exact ⟨Nat.le_of_eq (by rw [hMN.1]), hMN.2⟩
      · cases h
/-- one method body: a run of the typed machine from S on is one of the real one -/
theorem ax_runW {p : Program} {l : Launch} {e : Env} {R : Room} {s : State} {mt : MethodId} {args : Array Value} {below : List Frame} {meth : Method} {c : Code} {Q : State → Prop} {G : ax_G} {c0 cF d y : Nat} {RT : Option ax_V → ax_M → Prop}
    (C : ax_Cx p s mt meth c R G y d c0 cF) (hR : ax_RH p l e R s mt args below meth c Q G c0 y RT) (hck : ∀ pc, ax_ck1 y pc = true) {call : ax_X}
    (hcall : ∀ (y' : Nat) (as : List ax_V) (m : ax_M) (r' : Option ax_V) (m' : ax_M), call y' as m = some (r', m') → ax_Met l d y' as m r' m' ∧ (∀ z, r' ≠ some (.inr (.inr z))) ∧ (ax_rk y' = 0 → r' = none) ∧ m.1 ≤ m'.1) :
    ∀ (n : Nat) (S : ax_S) (r : Option ax_V) (m' : ax_M), ax_run call (ax_code y) (ax_rk y) n S = some (r, m') → m'.1 ≤ cF → RT r m' →
      ax_WW p l e R s mt args below meth c Q G c0 (ax_ml y) S ∧ S.2.2.2.1 ≤ m'.1 ∧ (∀ z, r ≠ some (.inr (.inr z))) ∧ (ax_rk y = 0 → r = none)
  | 0, S, r, m', h, _, _ => by cases h
  | n + 1, (pc, ls, st, m), r, m', h, hF, hT => by
    have ih := ax_runW C hR hck hcall n
    unfold ax_run at h
    have hc := hck pc
    unfold ax_ck1 at hc
    cases hcd : ax_code y pc with
    | none => rw [hcd] at h; cases h
    | some q =>
      obtain ⟨i, len, k⟩ := q
      rw [hcd] at h hc
      dsimp only at h hc
      cases hdec : decode (ax_by y) pc with
      | error _ => rw [hdec] at hc; cases hc
      | ok q2 =>
        obtain ⟨j, len'⟩ := q2
        rw [hdec] at hc
        dsimp only at hc
        rw [Bool.and_eq_true] at hc
        have hlen : pc + len' = len := Nat.eq_of_beq_eq_true hc.1
        subst hlen
        have hmask : ∀ ls' : ax_L, ls' = (bif Nat.beq k 0 then ls else ax_mk k ls) → ax_WW p l e R s mt args below meth c Q G c0 (ax_ml y) (pc, ls', st, m) → ax_WW p l e R s mt args below meth c Q G c0 (ax_ml y) (pc, ls, st, m) := by
          intro ls' hls K H locs cells slots la hh
          refine K H locs cells slots la ?_
          have hh : ax_Rl G c0 (ax_ml y) ls st m H locs cells slots la := hh
          show ax_Rl G c0 (ax_ml y) ls' st m H locs cells slots la
          rw [hls]
          cases Nat.beq k 0 with
          | true => exact hh
          | false => exact ⟨hh.1.mk k, hh.2.1, fun a v hv => hh.2.2.1 a v (ax_mk_at k ls a v hv), hh.2.2.2.1, hh.2.2.2.2.1, hh.2.2.2.2.2.1, hh.2.2.2.2.2.2.1, by show (ax_mk k ls).length = _; rw [ax_mk_len]; exact hh.2.2.2.2.2.2.2⟩
        generalize hls : (bif Nat.beq k 0 then ls else ax_mk k ls) = ls' at h
        have hPO := ax_disp (args := args) (ls := ls') (st := st) (m := m) C hR hdec hc.2
        have hMN := ax_eff_mn (ax_rk y) i (pc + len') ls' st m
        generalize ax_eff (ax_rk y) i (pc + len') ls' st m = E at h hPO hMN
        have fin := hmask ls' hls.symm
        rcases E with S' | ⟨g, S'⟩ | ⟨cs, dd⟩ | ⟨q, as, S'⟩ | ⟨v, mm⟩ | ⟨g, v, mm⟩ | u
        · obtain ⟨k1, k2, k3, k4⟩ := ih S' r m' h hF hT
          exact ⟨fin (hPO (Nat.le_trans k2 hF) k1), Nat.le_trans hMN k2, k3, k4⟩
        · cases g with
          | false => cases h
          | true =>
            obtain ⟨k1, k2, k3, k4⟩ := ih S' r m' h hF hT
            exact ⟨fin (hPO rfl (Nat.le_trans k2 hF) k1), Nat.le_trans hMN k2, k3, k4⟩
        · obtain ⟨k1, k2, k3, k4⟩ := ih _ r m' h hF hT
          have hpm := ax_pick_mem hMN.1 hMN.2
          rw [hpm] at k2
          exact ⟨fin (hPO k1), k2, k3, k4⟩
        · have hSm : S'.2.2.2 = m := hMN
          dsimp only at h
          cases hcl : call (q / 1000) as S'.2.2.2 with
          | none => rw [hcl] at h; cases h
          | some w =>
            obtain ⟨r1, m1⟩ := w
            rw [hcl] at h
            dsimp only at h
            obtain ⟨a1, a2, a3, a4⟩ := hcall _ _ _ _ _ hcl
            obtain ⟨k1, k2, k3, k4⟩ := ih _ r m' h hF hT
            exact ⟨fin (hPO d r1 m1 a1 (Nat.le_refl _) a2 a3 a4 (Nat.le_trans k2 hF) k1), Nat.le_trans (by rw [← hSm]; exact a4) k2, k3, k4⟩
        · have h : (v, mm) = (r, m') := Option.some.inj h
          cases h
          have hMN : m' = m ∧ _ := hMN
          exact ⟨fin (hPO hT), Nat.le_of_eq (by rw [hMN.1]), hMN.2.1, hMN.2.2⟩
        · cases g with
          | false => cases h
          | true =>
            have h : (v, mm) = (r, m') := Option.some.inj h
            cases h
            have hMN : m' = m ∧ _ := hMN
            exact ⟨fin (hPO rfl hT), Nat.le_of_eq (by rw [hMN.1]), hMN.2.1, hMN.2.2⟩
        · cases h
/-- the machine with calls d deep, n steps each -/
def ax_exec : Nat → Nat → ax_X
  | 0, _ => fun _ _ _ => none
  | d + 1, n => fun y as m => bif Nat.blt y 247 && Nat.ble (ax_la as).length (ax_ml y) then ax_run (ax_exec d n) (ax_code y) (ax_rk y) n (0, ax_lc as (ax_ml y), [], m) else none
theorem ax_code_math {y : Nat} (h : y = 244 ∨ y = 245) (pc : Nat) : ax_code y pc = none := by rcases h with rfl | rfl <;> rfl
theorem ax_execM (hck : ∀ y, y < 247 → ∀ pc, ax_ck1 y pc = true) (l : Launch) : ∀ (d n y : Nat) (as : List ax_V) (m : ax_M) (r : Option ax_V) (m' : ax_M), ax_exec d n y as m = some (r, m') →
    ax_Met l d y as m r m' ∧ (∀ z, r ≠ some (.inr (.inr z))) ∧ (ax_rk y = 0 → r = none) ∧ m.1 ≤ m'.1
  | 0, n, y, as, m, r, m', h => by cases h
  | d + 1, n, y, as, m, r, m', h => by
    have ih := ax_execM hck l d n
    have e : ax_exec (d + 1) n y as m = bif Nat.blt y 247 && Nat.ble (ax_la as).length (ax_ml y) then ax_run (ax_exec d n) (ax_code y) (ax_rk y) n (0, ax_lc as (ax_ml y), [], m) else none := rfl
    rw [e] at h
    cases hb : (Nat.blt y 247 && Nat.ble (ax_la as).length (ax_ml y)) with
    | false => rw [hb] at h; cases h
    | true =>
      rw [hb] at h
      have h : ax_run (ax_exec d n) (ax_code y) (ax_rk y) n (0, ax_lc as (ax_ml y), [], m) = some (r, m') := h
      simp only [Bool.and_eq_true, Nat.blt_eq, Nat.ble_eq] at hb
      obtain ⟨hy, hla⟩ := hb
      obtain ⟨⟨q1, q2, q3, q4, q5⟩, ⟨q6, q7, q8⟩, -⟩ := ax_mt_of hy
      have q4 : plainName (ax_nm y).cls = true := by
        rcases q4 with z | z
        · exfalso
          cases n with
          | zero => cases h
          | succ n =>
            unfold ax_run at h
            rw [ax_code_math z 0] at h
            cases h
        · exact z
      have hmono := ax_run_pure (fun y' as m r' m' hc => (ih y' as m r' m' hc).2.2.2) n _ r m' h
      refine ⟨fun G => ?_, hmono.2.1, hmono.2.2, hmono.1⟩
      refine Met.ofW (cc := ax_by y) (maxL := ax_ml y) (ret := ax_ret y) q4 rfl ?_
      intro p e s mt args below meth c s₁ B hml hP
      obtain ⟨rfl, hK, hRep, hok⟩ := hP
      have C : ax_Cx p s mt meth c (headSpec [Cond.code (ax_nm y) (ax_by y) (ax_ml y) (ax_ret y)] (ax_rm (d + 1) m m')).room G y d m.1 m'.1 :=
        ⟨B.exec, B.bytes, B.returns, hml, findClass_of_methodNamed B.named, (name_of_methodNamed B.named B.method).1, B.notSynchronized, hK, ⟨Nat.le_refl _, Nat.le_refl _, Nat.le_refl _, Nat.le_refl _⟩, q3⟩
      have hR : ax_RH p l e (headSpec [Cond.code (ax_nm y) (ax_by y) (ax_ml y) (ax_ret y)] (ax_rm (d + 1) m m')).room s mt (as.map (ax_cv G)).toArray below meth c (MQ below (ax_Qc G r m') (as.map (ax_cv G)).toArray s (m'.1 - m.1) (ax_sl m'.1 - ax_sl m.1) (fun q => G.1.size ≤ q)) G m.1 y (fun v mm => v = r ∧ mm = m') := by
        intro v mm pc H locs cells slots la hT hR hlo hc0 hce hsl hk
        obtain ⟨rfl, rfl⟩ := hT
        subst hce
        subst hsl
        have hlk : meth.locks = false := B.notSynchronized
        have hrt := B.returns
        rw [q6] at hrt
        rcases hk with ⟨k1, rfl, k3⟩ | ⟨x, k1, rfl, k3⟩ | ⟨x, k1, rfl, k3⟩ | ⟨x, k1, rfl, kb, k3⟩
        · rw [k1] at hrt
          exact W.vret B.exec B.bytes hrt (fun t ht _ => ⟨rfl, by rw [ht]; exact hR⟩) hlo k3 hlk
        · rw [k1] at hrt
          exact W.iret B.exec B.bytes hrt (fun t ht _ => ⟨rfl, by rw [ht]; exact hR⟩) hlo k3 hlk
        · rw [k1] at hrt
          exact W.lret B.exec B.bytes hrt (fun t ht _ => ⟨rfl, by rw [ht]; exact hR⟩) hlo k3 hlk
        · rw [k1] at hrt
          exact W.zret B.exec B.bytes hrt (ax_bit_nar kb).1 (fun t ht _ => ⟨rfl, by rw [ht]; exact hR⟩) hlo k3 hlk
      have key := (ax_runW (l := l) (e := e) (args := (as.map (ax_cv G)).toArray) (below := below) C hR (hck y hy) ih n _ r m' h (Nat.le_refl _) ⟨rfl, rfl⟩).1
      rw [lg_entry_eq]
      refine key s.heap [] 0 0 _ ⟨ax_LK.entry G as hla, hRep, fun i v hv => hok v (ax_la_args G as 0 i v (ax_lc_at hv)).2, (fun v hv => (by cases hv)), (fun q hq => (by cases hq)), Nat.le_refl _, ⟨(by show 0 = m.1 - m.1; omega), (by show 0 = ax_sl m.1 - ax_sl m.1; omega)⟩, ?_⟩
      show (ax_lc as (ax_ml y)).length = ax_ml y
      unfold ax_lc
      simp
      omega
