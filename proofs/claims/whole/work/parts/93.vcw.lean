/-! THE LAW'S OWN BODY, over the real machine: a call keeps the script's row, for the heap does -/
def ax_CaW (d y : Nat) (as : List ax_V) (m : ax_M) (K : Option ax_V → ax_M → Prop) : Prop := ax_Call d y as m (fun r m' => m'.2.1 0 = m.2.1 0 → K r m')
abbrev ax_CIW (d y : Nat) (as : List ax_V) (I : ax_I) (L : ax_J) (K : Int32 → ax_I → ax_J → Prop) : Prop := ax_CaW d y as (ax_mm I L) (fun r m' => ∃ x, r = some (ax_vi x) ∧ K x m'.2.1 m'.2.2.1)
abbrev ax_CLW (d y : Nat) (as : List ax_V) (I : ax_I) (L : ax_J) (K : Int64 → ax_I → ax_J → Prop) : Prop := ax_CaW d y as (ax_mm I L) (fun r m' => ∃ x, r = some (ax_vl x) ∧ K x m'.2.1 m'.2.2.1)
theorem ax_vsW {p : Program} {l : Launch} {e : Env} {R : Room} {s : State} {mt : MethodId} {args : Array Value} {below : List Frame} {meth : Method} {c : Code} {Q : State → Prop} {G : ax_G} {c0 d y : Nat} {RT : Option ax_V → ax_M → Prop}
    (C : ax_Cx p s mt meth c R G y d c0 212) (hR : ax_RH p l e R s mt args below meth c Q G c0 y RT) (hck : ∀ pc, ax_ck1 y pc = true) (hall : ∀ y, y < 247 → ∀ pc, ax_ck1 y pc = true) {K : Option ax_V → ax_I → ax_J → Prop}
    (hK : ∀ (v : Option ax_V) (mm : ax_M), ax_SD mm → K v mm.2.1 mm.2.2.1 → RT v mm) {rec : ax_S → Prop}
    (hrec : ∀ S, ax_SD S.2.2.2 → rec S → ax_WW p l e R s mt args below meth c Q G c0 (ax_ml y) S) {S : ax_S} (hsd : ax_SD S.2.2.2) (h : ax_vs (ax_CaW d) (ax_code y) (ax_rk y) rec K S) :
    ax_WW p l e R s mt args below meth c Q G c0 (ax_ml y) S := by
  obtain ⟨pc, ls, st, m⟩ := S
  suffices hsuf : (∀ j, m.2.1 0 j = G.2.2.2.2.2.2 0 j) → ax_WW p l e R s mt args below meth c Q G c0 (ax_ml y) (pc, ls, st, m) from
    fun H0 locs0 cells0 slots0 la0 hh0 => hsuf (fun j => (show ax_Rl G c0 (ax_ml y) ls st m H0 locs0 cells0 slots0 la0 from hh0).2.1.2.2.2.2.2.2 0 j (by omega)) H0 locs0 cells0 slots0 la0 hh0
  intro r0
  unfold ax_vs at h
  dsimp only at h
  have hm : ax_SD m := hsd
  have hc := hck pc
  unfold ax_ck1 at hc
  cases hcd : ax_code y pc with
  | none => rw [hcd] at h; exact h.elim
  | some q =>
    obtain ⟨i, len, k⟩ := q
    rw [hcd] at h hc
    dsimp only at h hc
    cases hdec : decode (ax_by y) pc with
    | error _ => rw [hdec] at hc; cases hc
    | ok q2 =>
      obtain ⟨j, len'⟩ := q2
      rw [hdec] at hc
      dsimp only at hc
      rw [Bool.and_eq_true] at hc
      have hlen : pc + len' = len := Nat.eq_of_beq_eq_true hc.1
      subst hlen
      have hmask : ∀ ls' : ax_L, ls' = (bif Nat.beq k 0 then ls else ax_mk k ls) → ax_WW p l e R s mt args below meth c Q G c0 (ax_ml y) (pc, ls', st, m) → ax_WW p l e R s mt args below meth c Q G c0 (ax_ml y) (pc, ls, st, m) := by
        intro ls' hls K H locs cells slots la hh
        refine K H locs cells slots la ?_
        have hh : ax_Rl G c0 (ax_ml y) ls st m H locs cells slots la := hh
        show ax_Rl G c0 (ax_ml y) ls' st m H locs cells slots la
        rw [hls]
        cases Nat.beq k 0 with
        | true => exact hh
        | false => exact ⟨hh.1.mk k, hh.2.1, fun a v hv => hh.2.2.1 a v (ax_mk_at k ls a v hv), hh.2.2.2.1, hh.2.2.2.2.1, hh.2.2.2.2.2.1, hh.2.2.2.2.2.2.1, by show (ax_mk k ls).length = _; rw [ax_mk_len]; exact hh.2.2.2.2.2.2.2⟩
      generalize hls : (bif Nat.beq k 0 then ls else ax_mk k ls) = ls' at h
      have hPO := ax_disp (args := args) (ls := ls') (st := st) (m := m) C hR hdec hc.2
      have hMN := ax_eff_mn (ax_rk y) i (pc + len') ls' st m
      have hSE := ax_eff_sd (ax_rk y) i (pc + len') ls' st m.2.1 m.2.2.1
      rw [← hm.eq] at hSE
      generalize ax_eff (ax_rk y) i (pc + len') ls' st m = E at h hPO hMN hSE
      have fin := hmask ls' hls.symm
      rcases E with S' | ⟨g, S'⟩ | ⟨cs, dd⟩ | ⟨q, as, S'⟩ | ⟨v, mm⟩ | ⟨g, v, mm⟩ | u
      · exact fin (hPO (Nat.le_of_eq hSE.1) (hrec S' hSE h))
      · obtain ⟨rfl, h⟩ := h
        exact fin (hPO rfl (Nat.le_of_eq hSE.1) (hrec S' hSE h))
      · have hsd2 : ax_SD (ax_pick cs dd).2.2.2 := by
          obtain ⟨e1, e2⟩ := hSE
          clear h hPO hMN
          induction cs with
          | nil => exact e2
          | cons q cs ih2 =>
            obtain ⟨g, S⟩ := q
            cases g with
            | true => exact e1 (true, S) List.mem_cons_self
            | false => exact ih2 (fun q hq => e1 q (List.mem_cons_of_mem _ hq))
        exact fin (hPO (hrec _ hsd2 (ax_br_pick h)))
      · have hSm : S'.2.2.2 = m := hMN
        obtain ⟨n1, r1, m1, h1, h2⟩ := h
        have hm1 : ax_SD m1 := ax_exec_sd d n1 _ _ _ _ _ hSE h1
        obtain ⟨a1, a2, a3, a4⟩ := ax_execM hall l d n1 _ _ _ _ _ h1
        refine fin (hPO d r1 m1 a1 (Nat.le_refl _) a2 a3 a4 (Nat.le_of_eq hm1.1) ?_)
        intro H locs cells slots la hh
        have row : m1.2.1 0 = S'.2.2.2.2.1 0 := funext fun j => by
          have z : m1.2.1 0 j = G.2.2.2.2.2.2 0 j := hh.2.1.2.2.2.2.2.2 0 j (by omega)
          rw [z, hSm, r0 j]
        have h3 : ∀ kk : Nat, ax_cb kk rec S' r1 m1 → ax_WW p l e R s mt args below meth c Q G c0 (ax_ml y) (S'.1, S'.2.1, r1.toList ++ S'.2.2.1, m1) := by
          intro kk z2
          have z4 : ∀ st' : List ax_V, rec (S'.1, S'.2.1, st', ax_mm m1.2.1 m1.2.2.1) → ax_WW p l e R s mt args below meth c Q G c0 (ax_ml y) (S'.1, S'.2.1, st', m1) := fun st' z => by
            rw [← hm1.eq] at z
            exact hrec _ hm1 z
          match kk, z2 with
          | 0, z2 =>
            obtain ⟨rfl, z3⟩ := z2
            exact z4 _ z3
          | 1, z2 =>
            obtain ⟨x, rfl, z3⟩ := z2
            exact z4 _ z3
          | 2, z2 =>
            obtain ⟨x, rfl, z3⟩ := z2
            exact z4 _ z3
          | k + 3, z2 =>
            obtain ⟨x, rfl, z3⟩ := z2
            exact z4 _ z3
        exact h3 _ (h2 row) H locs cells slots la hh
      · exact fin (hPO (hK v mm hSE h))
      · obtain ⟨rfl, h⟩ := h
        exact fin (hPO rfl (hK v mm hSE h))
      · exact h.elim
theorem ax_vcW {p : Program} {l : Launch} {e : Env} {R : Room} {s : State} {mt : MethodId} {args : Array Value} {below : List Frame} {meth : Method} {c : Code} {Q : State → Prop} {G : ax_G} {c0 d y : Nat} {RT : Option ax_V → ax_M → Prop}
    (C : ax_Cx p s mt meth c R G y d c0 212) (hR : ax_RH p l e R s mt args below meth c Q G c0 y RT) (hck : ∀ pc, ax_ck1 y pc = true) (hall : ∀ y, y < 247 → ∀ pc, ax_ck1 y pc = true) {K : Option ax_V → ax_I → ax_J → Prop}
    (hK : ∀ (v : Option ax_V) (mm : ax_M), ax_SD mm → K v mm.2.1 mm.2.2.1 → RT v mm) {stop : Nat → Bool} : ∀ (n : Nat) (S : ax_S), ax_SD S.2.2.2 → ax_vc (ax_CaW d) (ax_code y) (ax_rk y) stop (ax_WW p l e R s mt args below meth c Q G c0 (ax_ml y)) K n S → ax_WW p l e R s mt args below meth c Q G c0 (ax_ml y) S
  | 0, _, _, h => h
  | n + 1, S, hs, h => by
    have h : bif stop S.1 then ax_WW p l e R s mt args below meth c Q G c0 (ax_ml y) S else ax_vs (ax_CaW d) (ax_code y) (ax_rk y) (ax_vc (ax_CaW d) (ax_code y) (ax_rk y) stop (ax_WW p l e R s mt args below meth c Q G c0 (ax_ml y)) K n) K S := h
    cases hb : stop S.1 with
    | true => rw [hb] at h; exact h
    | false => rw [hb] at h; exact ax_vsW C hR hck hall hK (ax_vcW C hR hck hall hK n) hs h
