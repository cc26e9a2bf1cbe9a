/-! the law's own run, each call's memory with the script's row as it was -/
def ax_xf (d n : Nat) : ax_X := fun y as m => match ax_exec d n y as m with
  | some (r, m') => some (r, ax_fo m m')
  | none => none
theorem ax_xf_some {d n y : Nat} {as : List ax_V} {m : ax_M} {r : Option ax_V} {m' : ax_M} (h : ax_xf d n y as m = some (r, m')) : ∃ m1, ax_exec d n y as m = some (r, m1) ∧ m' = ax_fo m m1 := by
  unfold ax_xf at h
  cases e : ax_exec d n y as m with
  | none => rw [e] at h; cases h
  | some q => obtain ⟨r1, m1⟩ := q; rw [e] at h; cases h; exact ⟨m1, rfl, rfl⟩
theorem ax_xf_of {d n y : Nat} {as : List ax_V} {m : ax_M} {r : Option ax_V} {m' : ax_M} (h : ax_exec d n y as m = some (r, m')) : ax_xf d n y as m = some (r, ax_fo m m') := by
  unfold ax_xf; rw [h]
theorem ax_xf_mono (d n n' : Nat) (hn : n ≤ n') : ∀ (y : Nat) (as : List ax_V) (m : ax_M) (r : Option ax_V × ax_M), ax_xf d n y as m = some r → ax_xf d n' y as m = some r := fun y as m r h => by
  obtain ⟨r, m'⟩ := r
  obtain ⟨m1, h1, rfl⟩ := ax_xf_some h
  exact ax_xf_of (ax_exec_mono d n n' hn _ _ _ _ h1)
theorem ax_xf_sd (d n y : Nat) (as : List ax_V) (m : ax_M) (r : Option ax_V) (m' : ax_M) (hs : ax_SD m) (h : ax_xf d n y as m = some (r, m')) : ax_SD m' := by
  obtain ⟨m1, h1, rfl⟩ := ax_xf_some h
  have q : ax_SD m1 := ax_exec_sd d n _ _ _ _ _ hs h1
  exact ⟨q.1, q.2⟩
def ax_AtF (d y : Nat) (S : ax_S) (K : Option ax_V → ax_M → Prop) : Prop := ∃ (n : Nat) (r : Option ax_V) (m' : ax_M), ax_run (ax_xf d n) (ax_code y) (ax_rk y) n S = some (r, m') ∧ K r m'
def ax_CaF (d y : Nat) (as : List ax_V) (m : ax_M) (K : Option ax_V → ax_M → Prop) : Prop := ∃ (n : Nat) (r : Option ax_V) (m' : ax_M), ax_xf d n y as m = some (r, m') ∧ K r m'
abbrev ax_AF (d y : Nat) (S : ax_S) (K : Option ax_V → ax_I → ax_J → Prop) : Prop := ax_AtF d y S (fun r m' => K r m'.2.1 m'.2.2.1)
theorem ax_vsF {d y : Nat} {K : Option ax_V → ax_I → ax_J → Prop} {rec : ax_S → Prop} (hrec : ∀ S, ax_SD S.2.2.2 → rec S → ax_AF d y S K) {S : ax_S} (hsd : ax_SD S.2.2.2) (h : ax_vs (ax_CaF d) (ax_code y) (ax_rk y) rec K S) : ax_AF d y S K := by
  obtain ⟨pc, ls, st, m⟩ := S
  unfold ax_vs at h
  dsimp only at h
  have key : ∀ (n : Nat), ax_run (ax_xf d (n + 1)) (ax_code y) (ax_rk y) (n + 1) (pc, ls, st, m) = match ax_code y pc with
      | none => none
      | some (i, nx, k) => match ax_eff (ax_rk y) i nx (bif Nat.beq k 0 then ls else ax_mk k ls) st m with
        | .inl s => ax_run (ax_xf d (n + 1)) (ax_code y) (ax_rk y) n s
        | .inr (.inl (g, s)) => bif g then ax_run (ax_xf d (n + 1)) (ax_code y) (ax_rk y) n s else none
        | .inr (.inr (.inl (cs, dd))) => ax_run (ax_xf d (n + 1)) (ax_code y) (ax_rk y) n (ax_pick cs dd)
        | .inr (.inr (.inr (.inl (q, as, s)))) => match ax_xf d (n + 1) (q / 1000) as s.2.2.2 with
          | none => none
          | some (r, m') => ax_run (ax_xf d (n + 1)) (ax_code y) (ax_rk y) n (s.1, s.2.1, r.toList ++ s.2.2.1, m')
        | .inr (.inr (.inr (.inr (.inl r)))) => some r
        | .inr (.inr (.inr (.inr (.inr (.inl (g, r)))))) => bif g then some r else none
        | .inr (.inr (.inr (.inr (.inr (.inr _))))) => none := fun n => rfl
  have hm : ax_SD m := hsd
  cases hcd : ax_code y pc with
  | none => rw [hcd] at h; exact h.elim
  | some q =>
    obtain ⟨i, nx, k⟩ := q
    rw [hcd] at h key
    dsimp only at h key
    have hSE := ax_eff_sd (ax_rk y) i nx (bif Nat.beq k 0 then ls else ax_mk k ls) st m.2.1 m.2.2.1
    rw [← hm.eq] at hSE
    generalize ax_eff (ax_rk y) i nx (bif Nat.beq k 0 then ls else ax_mk k ls) st m = E at h key hSE
    have lift : ∀ {n : Nat} {S : ax_S} {r : Option ax_V × ax_M}, ax_run (ax_xf d n) (ax_code y) (ax_rk y) n S = some r → ax_run (ax_xf d (n + 1)) (ax_code y) (ax_rk y) n S = some r := fun {n S r} hr => ax_run_mono (ax_xf_mono d n (n + 1) (Nat.le_succ n)) n n (Nat.le_refl n) S r hr
    rcases E with S' | ⟨g, S'⟩ | ⟨cs, dd⟩ | ⟨q, as, S'⟩ | ⟨v, mm⟩ | ⟨g, v, mm⟩ | u
    · obtain ⟨n, r, m', h1, h2⟩ := hrec S' hSE h
      exact ⟨n + 1, r, m', by rw [key]; exact lift h1, h2⟩
    · obtain ⟨rfl, h⟩ := h
      obtain ⟨n, r, m', h1, h2⟩ := hrec S' hSE h
      exact ⟨n + 1, r, m', by rw [key]; exact lift h1, h2⟩
    · have hsd2 : ax_SD (ax_pick cs dd).2.2.2 := by
        obtain ⟨e1, e2⟩ := hSE
        clear h key
        induction cs with
        | nil => exact e2
        | cons q cs ih2 =>
          obtain ⟨g, S⟩ := q
          cases g with
          | true => exact e1 (true, S) List.mem_cons_self
          | false => exact ih2 (fun q hq => e1 q (List.mem_cons_of_mem _ hq))
      obtain ⟨n, r, m', h1, h2⟩ := hrec _ hsd2 (ax_br_pick h)
      exact ⟨n + 1, r, m', by rw [key]; exact lift h1, h2⟩
    · obtain ⟨n1, r1, m1, h1, h2⟩ := h
      have hm1 : ax_SD m1 := ax_xf_sd d n1 _ _ _ _ _ hSE h1
      have h3 : ∀ kk : Nat, ax_cb kk rec S' r1 m1 → ax_AF d y (S'.1, S'.2.1, r1.toList ++ S'.2.2.1, m1) K := by
        intro kk z2
        have z4 : ∀ st' : List ax_V, rec (S'.1, S'.2.1, st', ax_mm m1.2.1 m1.2.2.1) → ax_AF d y (S'.1, S'.2.1, st', m1) K := fun st' z => by
          rw [← hm1.eq] at z
          exact hrec _ hm1 z
        match kk, z2 with
        | 0, z2 =>
          obtain ⟨rfl, z3⟩ := z2
          exact z4 _ z3
        | 1, z2 =>
          obtain ⟨x, rfl, z3⟩ := z2
          exact z4 _ z3
        | 2, z2 =>
          obtain ⟨x, rfl, z3⟩ := z2
          exact z4 _ z3
        | k + 3, z2 =>
          obtain ⟨x, rfl, z3⟩ := z2
          exact z4 _ z3
      have h3 := h3 _ h2
      obtain ⟨n2, r, m', h4, h5⟩ := h3
      refine ⟨(n1 + n2) + 1, r, m', ?_, h5⟩
      rw [key]
      dsimp only
      rw [ax_xf_mono d n1 (n1 + n2 + 1) (by omega) _ _ _ _ h1]
      exact ax_run_mono (ax_xf_mono d n2 (n1 + n2 + 1) (by omega)) n2 (n1 + n2) (by omega) _ _ h4
    · exact ⟨1, v, mm, by rw [key 0], h⟩
    · obtain ⟨rfl, h⟩ := h
      exact ⟨1, v, mm, by rw [key 0]; rfl, h⟩
    · exact h.elim
theorem ax_vcF {d y : Nat} {K : Option ax_V → ax_I → ax_J → Prop} {stop : Nat → Bool} : ∀ (n : Nat) (S : ax_S), ax_SD S.2.2.2 → ax_vc (ax_CaF d) (ax_code y) (ax_rk y) stop (fun S => ax_AF d y S K) K n S → ax_AF d y S K
  | 0, _, _, h => h
  | n + 1, S, hs, h => by
    have h : bif stop S.1 then ax_AF d y S K else ax_vs (ax_CaF d) (ax_code y) (ax_rk y) (ax_vc (ax_CaF d) (ax_code y) (ax_rk y) stop (fun S => ax_AF d y S K) K n) K S := h
    cases hb : stop S.1 with
    | true => rw [hb] at h; exact h
    | false => rw [hb] at h; exact ax_vsF (ax_vcF n) hs h
/-- from a loop head: the first step is taken -/
theorem ax_vcLF {d y : Nat} {K : Option ax_V → ax_I → ax_J → Prop} (cd : ax_C) (rk : Nat) (stop : Nat → Bool) (n : Nat) (hcd : ax_code y = cd) (hrk : ax_rk y = rk) {pc : Nat} {ls : ax_L} {st : List ax_V} {I : ax_I} {L : ax_J} (h : ax_vs (ax_CaF d) cd rk (ax_vc (ax_CaF d) cd rk stop (fun S => ax_AF d y S K) K n) K (pc, ls, st, ax_mm I L)) : ax_AF d y (pc, ls, st, ax_mm I L) K := by
  subst hcd; subst hrk
  exact ax_vsF (ax_vcF n) ⟨rfl, rfl⟩ h
