/-! THE LAW'S BODY from its entry to its loop's head -/
theorem ax_stepW {p : Program} {l : Launch} {e : Env} {R : Room} {s : State} {mt : MethodId} {args : Array Value} {below : List Frame} {meth : Method} {c : Code} {Q : State → Prop} {G : ax_G} {c0 cF d y : Nat} {RT : Option ax_V → ax_M → Prop}
    (C : ax_Cx p s mt meth c R G y d c0 cF) (hR : ax_RH p l e R s mt args below meth c Q G c0 y RT) (hck : ∀ pc, ax_ck1 y pc = true) {pc nx : Nat} {i : Instr} (hcd : ax_code y pc = some (i, nx, 0)) (ls : ax_L) (st : List ax_V) (m : ax_M) :
    ax_PO p l e R s mt args below meth c Q G c0 cF d y RT (pc, ls, st, m) (ax_eff (ax_rk y) i nx ls st m) := by
  have hc := hck pc
  unfold ax_ck1 at hc
  rw [hcd] at hc
  dsimp only at hc
  cases hdec : decode (ax_by y) pc with
  | error _ => rw [hdec] at hc; cases hc
  | ok q2 =>
    obtain ⟨j, len'⟩ := q2
    rw [hdec] at hc
    dsimp only at hc
    rw [Bool.and_eq_true] at hc
    have hlen : pc + len' = nx := Nat.eq_of_beq_eq_true hc.1
    subst hlen
    exact ax_disp (args := args) (ls := ls) (st := st) (m := m) C hR hdec hc.2
theorem ax_isn_of {r : Option (Option ax_V × ax_M)} {n : Nat} (h : ax_isn r n = true) : r = some (none, ax_gt r) ∧ (ax_gt r).1 = n := by
  unfold ax_isn at h
  split at h
  · exact ⟨rfl, Nat.eq_of_beq_eq_true h⟩
  · cases h
theorem sw_RR.off0 {I I' : ax_I} {L : ax_J} (h : sw_RR I L) (hf : ∀ a, ¬ a = 0 → I' a = I a) : sw_RR I' L :=
  h.same ⟨fun a _ => hf a (by omega), fun b _ => by rw [hf _ (by omega)], by rw [hf _ (by omega)], by rw [hf _ (by omega)], by rw [hf _ (by omega)], by rw [hf _ (by omega)], by rw [hf _ (by omega)], by rw [hf _ (by omega)], by rw [hf _ (by omega)]⟩
theorem ax_met_pre {l : Launch} {d y : Nat} {t o : Nat} {m0 m0' m m' : ax_M} (h : ax_Met l d y [ax_vr t 0 o] m0 none m0') (ho : 3 ≤ o) (hc : m.1 = m0.1) (hI : ∀ o, ¬ o = 0 → m.2.1 o = m0.2.1 o) (h01 : ∀ j, m0.2.1 0 j = m0.2.1 1 j) (hr : m.2.2 = m0.2.2) (hc' : m'.1 = m0'.1)
    (hQ : ∀ (G : ax_G) (H : Heap), (∀ oo j, oo < 3 → m.2.1 oo j = G.2.2.2.2.2.2 oo j) → ax_Rep (ax_ga G) m0' H → ax_Rep G m' H) : ax_Met l d y [ax_vr t 0 o] m none m' := by
  intro G
  have ad : ax_adr (ax_ga G) o = ax_adr G o := by unfold ax_adr; rw [if_neg (by omega), if_neg (by omega)]; rfl
  have key := h (ax_ga G)
  have e1 : ax_rm d m0 m0' = ax_rm d m m' := by unfold ax_rm; rw [hc, hc']
  rw [e1, ← hc, ← hc'] at key
  refine ax_met_imp key (fun a s hp => ?_) (fun a s oo tt hp hq => ?_)
  · obtain ⟨p1, p2, p3, p4⟩ := hp
    refine ⟨?_, ax_ga_K p2, ?_, fun x hx => ?_⟩
    · rw [p1]
      show #[Value.ref (ax_adr G o)] = #[Value.ref (ax_adr (ax_ga G) o)]
      rw [ad]
    · have g := p3.2.2.2.2.2.2
      have hFf := p3.2.2.2.2.2.1
      refine ax_Rep_to (m' := m0) p3 rfl rfl rfl rfl hc.symm (fun o ho => (hI o (by omega)).symm) (by rw [hr]) (fun o _ _ k _ _ => by rw [hr]) ?_ (fun oo j hoo => ?_)
      · rcases hFf with z | z
        · exact .inl z
        · exact .inr (fun o k ho => by rw [← hr]; exact (z o k ho).2.2)
      · show m0.2.1 oo j = if oo = 0 then G.2.2.2.2.2.2 1 j else G.2.2.2.2.2.2 oo j
        by_cases z : oo = 0
        · rw [if_pos z, z, h01 j, ← hI 1 (by omega)]; exact g 1 j (by omega)
        · rw [if_neg z, ← hI oo z]; exact g oo j hoo
    · have q := p4 x hx
      rcases List.mem_singleton.mp hx with rfl
      rw [← hc]
      refine ⟨q.1, ?_⟩
      have q2 := q.2
      have q2 : ax_sp G o = (t, 0) := q2
      rw [ax_sp3 G ho] at q2
      show ax_sp (ax_ga G) o = (t, 0)
      rw [ax_sp3 _ ho]; exact q2
  · obtain ⟨q1, q2⟩ := hq
    exact ⟨q1, hQ G _ hp.2.2.1.2.2.2.2.2.2 q2⟩
theorem ax_ga_to {G : ax_G} {m0' m m' : ax_M} {H : Heap} (g : ∀ oo j, oo < 3 → m.2.1 oo j = G.2.2.2.2.2.2 oo j) (q2 : ax_Rep (ax_ga G) m0' H) (hc' : m'.1 = m0'.1) (hI' : ∀ o, ¬ o = 0 → m'.2.1 o = m0'.2.1 o) (h0' : m'.2.1 0 = m.2.1 0) (hL' : m'.2.2.1 = m0'.2.2.1) (hS' : ∀ o, 3 ≤ o → o < m0'.1 → ∀ k, k < ax_sz o → ax_rel o k = true → m'.2.2.2 o k = m0'.2.2.2 o k) (hF : m0'.1 = 212 ∨ m'.2.2.2 = m0'.2.2.2) : ax_Rep G m' H := by
  have g2 := q2.2.2.2.2.2.2
  have g6 := q2.2.2.2.2.2.1
  refine ax_Rep_to q2 rfl rfl rfl rfl hc' (fun o ho => hI' o (by omega)) hL' hS' ?_ (fun oo j hoo => ?_)
  · rcases hF with z | z
    · exact .inl z
    · rcases g6 with y | y
      · exact .inl y
      · exact .inr (fun o k ho => by rw [z]; exact (y o k ho).2.2)
  · by_cases z : oo = 0
    · rw [z, h0']; exact g 0 j (by omega)
    · rw [hI' oo z]
      have := g2 oo j hoo
      rw [this]
      show (if oo = 0 then _ else G.2.2.2.2.2.2 oo j) = _
      rw [if_neg z]
theorem ax_met1 (hall : ∀ y, y < 247 → ∀ pc, ax_ck1 y pc = true) (l : Launch) (xs : Nat → Int32) {a1 : ax_I} {b1 : (Nat → Nat → Int64) × (Nat → Nat → Bool)} (hx : ax_exec 12 1000 89 [ax_vr 8 0 3] (4, ax_z0, (fun _ _ => 0), (fun _ _ => false)) = some (none, (184, a1, b1))) : ax_Met l 12 89 [ax_vr 8 0 3] (4, ax_pt xs ax_z0, (fun _ _ => 0), (fun _ _ => false)) none (184, ax_pt xs a1, b1) := by
  refine ax_met_pre (ax_execM hall l 12 1000 89 _ _ _ _ hx).1 (by omega) rfl (fun o h => ax_ptn h) (fun j => rfl) rfl rfl (fun G H g q2 => ?_)
  exact ax_ga_to g q2 rfl (fun o h => ax_ptn h) ((ax_pt0 xs a1).trans (ax_pt0 xs ax_z0).symm) rfl (fun _ _ _ _ _ _ => rfl) (.inr rfl)
/-- were the script's row not kept, nothing could come after the first call -/
theorem ax_met1n (hall : ∀ y, y < 247 → ∀ pc, ax_ck1 y pc = true) (l : Launch) (xs : Nat → Int32) {a1 : ax_I} {b1 : (Nat → Nat → Int64) × (Nat → Nat → Bool)} (hx : ax_exec 12 1000 89 [ax_vr 8 0 3] (4, ax_z0, (fun _ _ => 0), (fun _ _ => false)) = some (none, (184, a1, b1))) (hn : ¬ ∀ j, a1 0 j = a1 1 j) (m' : ax_M) (hm' : m'.1 = 184) : ax_Met l 12 89 [ax_vr 8 0 3] (4, ax_pt xs ax_z0, (fun _ _ => 0), (fun _ _ => false)) none m' := by
  refine ax_met_pre (ax_execM hall l 12 1000 89 _ _ _ _ hx).1 (by omega) rfl (fun o h => ax_ptn h) (fun j => rfl) rfl hm' (fun G H g q2 => ?_)
  exfalso
  refine hn (fun j => ?_)
  have g0 := q2.2.2.2.2.2.2 0 j (by omega)
  have g1 := q2.2.2.2.2.2.2 1 j (by omega)
  exact g0.trans g1.symm
theorem ax_met2 (hall : ∀ y, y < 247 → ∀ pc, ax_ck1 y pc = true) (l : Launch) (xs : Nat → Int32) {a1 : ax_I} {b1 : (Nat → Nat → Int64) × (Nat → Nat → Bool)} {a2 : ax_I} {l2 : ax_J} {c2 : Nat → Nat → Bool} (hx : ax_exec 12 1000 148 [ax_vr 9 0 184] (185, a1, b1) = some (none, (212, a2, l2, c2))) (hset : sw_set (212, a2, l2, c2) = true) (h01 : ∀ j, a1 0 j = a1 1 j) : ax_Met l 12 148 [ax_vr 9 0 184] (185, ax_pt xs a1, b1) none (ax_mm (ax_pt xs a2) l2) := by
  refine ax_met_pre (ax_execM hall l 12 1000 148 _ _ _ _ hx).1 (by omega) rfl (fun o h => ax_ptn h) h01 rfl rfl (fun G H g q2 => ?_)
  refine ax_ga_to g q2 rfl (fun o h => ax_ptn h) ((ax_pt0 xs a2).trans (ax_pt0 xs a1).symm) rfl (fun o o3 om k hk hr => ?_) (.inl rfl)
  have om : o < 212 := om
  unfold sw_set at hset
  have q := ax_all hset o om
  simp only [Bool.or_eq_true, Bool.and_eq_true, Nat.ble_eq] at q
  rcases q with (q | q) | q
  · omega
  · exfalso
    unfold ax_rel at hr
    simp only [Bool.or_eq_true, Bool.and_eq_true, Nat.ble_eq, Nat.blt_eq] at hr
    rcases hr with hr | hr
    · have := hr.1; omega
    · have := hr.1; omega
  · have q := ax_all q k hk
    rw [hr] at q
    exact (show c2 o k = true from q).symm
/-- from the entry to the loop's end -/
theorem sw_body {p : Program} {l : Launch} {e : Env} {R : Room} {s : State} {mt : MethodId} {args : Array Value} {below : List Frame} {meth : Method} {c : Code} {Q : State → Prop} {G : ax_G} {RT : Option ax_V → ax_M → Prop}
    (C : ax_Cx p s mt meth c R G 247 30 3 212) (hR : ax_RH p l e R s mt args below meth c Q G 3 247 RT) (hck : ∀ pc, ax_ck1 247 pc = true) (hall : ∀ y, y < 247 → ∀ pc, ax_ck1 y pc = true)
    (hRT : ∀ mm : ax_M, mm.1 = 212 → RT (some (ax_vi 1)) mm) {n0 : Nat} (hn : n0 ≤ 384) (xs : Nat → Int32) (hG : G.2.2.2.2.2.2 0 = xs)
    {a1 : ax_I} {b1 : (Nat → Nat → Int64) × (Nat → Nat → Bool)} (hx1 : ax_exec 12 1000 89 [ax_vr 8 0 3] (4, ax_z0, (fun _ _ => 0), (fun _ _ => false)) = some (none, (184, a1, b1)))
    {a2 : ax_I} {l2 : ax_J} {c2 : Nat → Nat → Bool} (hx2 : ax_exec 12 1000 148 [ax_vr 9 0 184] (185, a1, b1) = some (none, (212, a2, l2, c2))) (hset : sw_set (212, a2, l2, c2) = true) (hrr : sw_RR a2 l2) :
    ax_WW p l e R s mt args below meth c Q G 3 (ax_ml 247) (0, [some (ax_vr 19 n0 0), none, none, none], [], (3, ax_pt xs ax_z0, (fun _ _ => 0), (fun _ _ => false))) := by
  have s0 : 4 ≤ 212 → ax_WW p l e R s mt args below meth c Q G 3 (ax_ml 247) (3, [some (ax_vr 19 n0 0), none, none, none], [ax_vr 8 0 3], (4, ax_pt xs ax_z0, (fun _ _ => 0), (fun _ _ => false))) → ax_WW p l e R s mt args below meth c Q G 3 (ax_ml 247) (0, [some (ax_vr 19 n0 0), none, none, none], [], (3, ax_pt xs ax_z0, (fun _ _ => 0), (fun _ _ => false))) :=
    ax_stepW C hR hck (pc := 0) (nx := 3) (i := .new 8) rfl [some (ax_vr 19 n0 0), none, none, none] [] (3, ax_pt xs ax_z0, (fun _ _ => 0), (fun _ _ => false))
  refine s0 (by omega) ?_
  have s3 := fun m => ax_stepW C hR hck (pc := 3) (nx := 4) (i := .dup) rfl [some (ax_vr 19 n0 0), none, none, none] [ax_vr 8 0 3] m
  have s3 : ∀ m : ax_M, m.1 ≤ 212 → ax_WW p l e R s mt args below meth c Q G 3 (ax_ml 247) (4, [some (ax_vr 19 n0 0), none, none, none], [ax_vr 8 0 3, ax_vr 8 0 3], m) → ax_WW p l e R s mt args below meth c Q G 3 (ax_ml 247) (3, [some (ax_vr 19 n0 0), none, none, none], [ax_vr 8 0 3], m) := s3
  refine s3 _ (show 4 ≤ 212 by omega) ?_
  have s4 := fun m => ax_stepW C hR hck (pc := 4) (nx := 7) (i := .invokespecial 890801) rfl [some (ax_vr 19 n0 0), none, none, none] [ax_vr 8 0 3, ax_vr 8 0 3] m
  have s4 : ∀ (m : ax_M) (d' : Nat) (r' : Option ax_V) (m' : ax_M), ax_Met l d' 89 [ax_vr 8 0 3] m r' m' → d' ≤ 30 → (∀ z, r' ≠ some (.inr (.inr z))) → (ax_rk 89 = 0 → r' = none) → m.1 ≤ m'.1 → m'.1 ≤ 212 → ax_WW p l e R s mt args below meth c Q G 3 (ax_ml 247) (7, [some (ax_vr 19 n0 0), none, none, none], r'.toList ++ [ax_vr 8 0 3], m') → ax_WW p l e R s mt args below meth c Q G 3 (ax_ml 247) (4, [some (ax_vr 19 n0 0), none, none, none], [ax_vr 8 0 3, ax_vr 8 0 3], m) := s4
  by_cases h01 : ∀ j, a1 0 j = a1 1 j
  · refine s4 _ 12 none (184, ax_pt xs a1, b1) (ax_met1 hall l xs hx1) (by omega) (fun z q => by cases q) (fun _ => rfl) (show 4 ≤ 184 by omega) (show 184 ≤ 212 by omega) ?_
    have s7 : ∀ m : ax_M, m.1 ≤ 212 → ax_WW p l e R s mt args below meth c Q G 3 (ax_ml 247) (8, [some (ax_vr 19 n0 0), some (ax_vr 8 0 3), none, none], [], m) → ax_WW p l e R s mt args below meth c Q G 3 (ax_ml 247) (7, [some (ax_vr 19 n0 0), none, none, none], [ax_vr 8 0 3], m) :=
      fun m => ax_stepW C hR hck (pc := 7) (nx := 8) (i := .astore 1) rfl [some (ax_vr 19 n0 0), none, none, none] [ax_vr 8 0 3] m
    refine s7 _ (show 184 ≤ 212 by omega) ?_
    have s8 : ∀ q, 185 ≤ 212 → ax_WW p l e R s mt args below meth c Q G 3 (ax_ml 247) (11, [some (ax_vr 19 n0 0), some (ax_vr 8 0 3), none, none], [ax_vr 9 0 184], (185, q)) → ax_WW p l e R s mt args below meth c Q G 3 (ax_ml 247) (8, [some (ax_vr 19 n0 0), some (ax_vr 8 0 3), none, none], [], (184, q)) :=
      fun q => ax_stepW C hR hck (pc := 8) (nx := 11) (i := .new 9) rfl [some (ax_vr 19 n0 0), some (ax_vr 8 0 3), none, none] [] (184, q)
    refine s8 _ (by omega) ?_
    have s11 : ∀ m : ax_M, m.1 ≤ 212 → ax_WW p l e R s mt args below meth c Q G 3 (ax_ml 247) (12, [some (ax_vr 19 n0 0), some (ax_vr 8 0 3), none, none], [ax_vr 9 0 184, ax_vr 9 0 184], m) → ax_WW p l e R s mt args below meth c Q G 3 (ax_ml 247) (11, [some (ax_vr 19 n0 0), some (ax_vr 8 0 3), none, none], [ax_vr 9 0 184], m) :=
      fun m => ax_stepW C hR hck (pc := 11) (nx := 12) (i := .dup) rfl [some (ax_vr 19 n0 0), some (ax_vr 8 0 3), none, none] [ax_vr 9 0 184] m
    refine s11 _ (show 185 ≤ 212 by omega) ?_
    have s12 : ∀ (m : ax_M) (d' : Nat) (r' : Option ax_V) (m' : ax_M), ax_Met l d' 148 [ax_vr 9 0 184] m r' m' → d' ≤ 30 → (∀ z, r' ≠ some (.inr (.inr z))) → (ax_rk 148 = 0 → r' = none) → m.1 ≤ m'.1 → m'.1 ≤ 212 → ax_WW p l e R s mt args below meth c Q G 3 (ax_ml 247) (15, [some (ax_vr 19 n0 0), some (ax_vr 8 0 3), none, none], r'.toList ++ [ax_vr 9 0 184], m') → ax_WW p l e R s mt args below meth c Q G 3 (ax_ml 247) (12, [some (ax_vr 19 n0 0), some (ax_vr 8 0 3), none, none], [ax_vr 9 0 184, ax_vr 9 0 184], m) :=
      fun m => ax_stepW C hR hck (pc := 12) (nx := 15) (i := .invokespecial 1480901) rfl [some (ax_vr 19 n0 0), some (ax_vr 8 0 3), none, none] [ax_vr 9 0 184, ax_vr 9 0 184] m
    refine s12 _ 12 none (ax_mm (ax_pt xs a2) l2) (ax_met2 hall l xs hx2 hset h01) (by omega) (fun z q => by cases q) (fun _ => rfl) (show 185 ≤ 212 by omega) (show 212 ≤ 212 by omega) ?_
    have s15 : ∀ m : ax_M, m.1 ≤ 212 → ax_WW p l e R s mt args below meth c Q G 3 (ax_ml 247) (16, [some (ax_vr 19 n0 0), some (ax_vr 8 0 3), some (ax_vr 9 0 184), none], [], m) → ax_WW p l e R s mt args below meth c Q G 3 (ax_ml 247) (15, [some (ax_vr 19 n0 0), some (ax_vr 8 0 3), none, none], [ax_vr 9 0 184], m) :=
      fun m => ax_stepW C hR hck (pc := 15) (nx := 16) (i := .astore 2) rfl [some (ax_vr 19 n0 0), some (ax_vr 8 0 3), none, none] [ax_vr 9 0 184] m
    refine s15 _ (show 212 ≤ 212 by omega) ?_
    have s16 : ∀ m : ax_M, m.1 ≤ 212 → ax_WW p l e R s mt args below meth c Q G 3 (ax_ml 247) (17, [some (ax_vr 19 n0 0), some (ax_vr 8 0 3), some (ax_vr 9 0 184), none], [ax_vi (ax_ic 0)], m) → ax_WW p l e R s mt args below meth c Q G 3 (ax_ml 247) (16, [some (ax_vr 19 n0 0), some (ax_vr 8 0 3), some (ax_vr 9 0 184), none], [], m) :=
      fun m => ax_stepW C hR hck (pc := 16) (nx := 17) (i := .iconst 0) rfl [some (ax_vr 19 n0 0), some (ax_vr 8 0 3), some (ax_vr 9 0 184), none] [] m
    refine s16 _ (show 212 ≤ 212 by omega) ?_
    have s17 : ∀ (m : ax_M) (x : Int32), m.1 ≤ 212 → ax_WW p l e R s mt args below meth c Q G 3 (ax_ml 247) (18, [some (ax_vr 19 n0 0), some (ax_vr 8 0 3), some (ax_vr 9 0 184), some (ax_vi x)], [], m) → ax_WW p l e R s mt args below meth c Q G 3 (ax_ml 247) (17, [some (ax_vr 19 n0 0), some (ax_vr 8 0 3), some (ax_vr 9 0 184), none], [ax_vi x], m) :=
      fun m x => ax_stepW C hR hck (pc := 17) (nx := 18) (i := .istore 3) rfl [some (ax_vr 19 n0 0), some (ax_vr 8 0 3), some (ax_vr 9 0 184), none] [ax_vi x] m
    refine s17 _ _ (show 212 ≤ 212 by omega) ?_
    exact sw_loop C hR hck hall hRT hn 64 0 _ _ (by omega) (by omega) (hrr.off0 (fun a h => ax_ptn h))
  · refine s4 _ 12 none (184, (fun _ j => if xs j = 0 then 1 else 0), b1) (ax_met1n hall l xs hx1 h01 _ rfl) (by omega) (fun z q => by cases q) (fun _ => rfl) (show 4 ≤ 184 by omega) (show 184 ≤ 212 by omega) ?_
    intro H locs cells slots la hh
    exfalso
    have z : (if xs 0 = 0 then (1 : Int32) else 0) = G.2.2.2.2.2.2 0 0 := hh.2.1.2.2.2.2.2.2 0 0 (by omega)
    rw [hG] at z
    by_cases q : xs 0 = 0
    · rw [if_pos q, q] at z; exact absurd z (by decide)
    · rw [if_neg q] at z; exact q z.symm
theorem ax_gt_eta {m : ax_M} {n : Nat} (h : m.1 = n) : m = (n, m.2.1, m.2.2) := by subst h; rfl
theorem ax_gt_eta2 {m : ax_M} {n : Nat} (h : m.1 = n) : m = (n, m.2.1, m.2.2.1, m.2.2.2) := by subst h; rfl
/-- what the two constructors leave -/
theorem ax_two : ∃ (a1 : ax_I) (b1 : (Nat → Nat → Int64) × (Nat → Nat → Bool)) (a2 : ax_I) (l2 : ax_J) (c2 : Nat → Nat → Bool), ax_exec 12 1000 89 [ax_vr 8 0 3] (4, ax_z0, (fun _ _ => 0), (fun _ _ => false)) = some (none, (184, a1, b1)) ∧ ax_exec 12 1000 148 [ax_vr 9 0 184] (185, a1, b1) = some (none, (212, a2, l2, c2)) ∧ sw_set (212, a2, l2, c2) = true ∧ sw_RR a2 l2 := by
  have h1 := ax_isn_of ax_q1_ok
  have h2 := ax_isn_of ax_q2_ok
  have hs := sw_set2
  have hr := sw_RR_start sw_sc
  unfold ax_m2 at hs hr
  generalize hg2 : ax_gt ax_q2 = m2 at h2 hs hr
  unfold ax_q2 at h2
  unfold ax_m1 at h2
  generalize hg1 : ax_gt ax_q1 = m1 at h1 h2
  unfold ax_q1 at h1
  obtain ⟨e1, k1⟩ := h1
  obtain ⟨e2, k2⟩ := h2
  clear hg1 hg2
  obtain ⟨n1, a1, b1⟩ := m1
  obtain ⟨n2, a2, l2, c2⟩ := m2
  have k1 : n1 = 184 := k1
  have k2 : n2 = 212 := k2
  subst k1
  subst k2
  exact ⟨a1, b1, a2, l2, c2, e1, e2, hs, hr⟩
