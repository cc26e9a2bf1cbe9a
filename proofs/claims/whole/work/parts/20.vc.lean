/-! WEAKEST PRECONDITIONS over the typed machine -/
theorem ax_run_mono {c1 c2 : ax_X} (hc : ∀ y as m r, c1 y as m = some r → c2 y as m = some r) {cd : ax_C} {rk : Nat} : ∀ (n1 n2 : Nat), n1 ≤ n2 → ∀ (S : ax_S) (r : Option ax_V × ax_M), ax_run c1 cd rk n1 S = some r → ax_run c2 cd rk n2 S = some r
  | 0, _, _, S, r, h => by cases h
  | n + 1, 0, hn, S, r, h => by omega
  | n + 1, k + 1, hn, (pc, ls, st, m), r, h => by
    have ih := ax_run_mono hc (cd := cd) (rk := rk) n k (by omega)
    unfold ax_run at h ⊢
    cases hcd : cd pc with
    | none => rw [hcd] at h; cases h
    | some q =>
      obtain ⟨i, nx, kk⟩ := q
      rw [hcd] at h
      dsimp only at h ⊢
      generalize ax_eff rk i nx (bif Nat.beq kk 0 then ls else ax_mk kk ls) st m = E at h ⊢
      rcases E with S' | ⟨g, S'⟩ | ⟨cs, dd⟩ | ⟨q, as, S'⟩ | ⟨v, mm⟩ | ⟨g, v, mm⟩ | u
      · exact ih _ r h
      · cases g with
        | false => cases h
        | true => exact ih _ r h
      · exact ih _ r h
      · dsimp only at h ⊢
        cases hcl : c1 (q / 1000) as S'.2.2.2 with
        | none => rw [hcl] at h; cases h
        | some w =>
          rw [hcl] at h
          rw [hc _ _ _ _ hcl]
          exact ih _ r h
      · exact h
      · exact h
      · exact h
theorem ax_exec_mono : ∀ (d n1 n2 : Nat), n1 ≤ n2 → ∀ (y : Nat) (as : List ax_V) (m : ax_M) (r : Option ax_V × ax_M), ax_exec d n1 y as m = some r → ax_exec d n2 y as m = some r
  | 0, _, _, _, y, as, m, r, h => by cases h
  | d + 1, n1, n2, hn, y, as, m, r, h => by
    have ih := ax_exec_mono d n1 n2 hn
    show (bif Nat.blt y 247 && Nat.ble (ax_la as).length (ax_ml y) then ax_run (ax_exec d n2) (ax_code y) (ax_rk y) n2 (0, ax_lc as (ax_ml y), [], m) else none) = some r
    have h : (bif Nat.blt y 247 && Nat.ble (ax_la as).length (ax_ml y) then ax_run (ax_exec d n1) (ax_code y) (ax_rk y) n1 (0, ax_lc as (ax_ml y), [], m) else none) = some r := h
    cases hb : (Nat.blt y 247 && Nat.ble (ax_la as).length (ax_ml y)) with
    | false => rw [hb] at h; cases h
    | true => rw [hb] at h; exact ax_run_mono ih n1 n2 hn _ r h
/-- from this state of a body of y, calls d deep, the run ends so that K -/
def ax_At (d y : Nat) (S : ax_S) (K : Option ax_V → ax_M → Prop) : Prop := ∃ (n : Nat) (r : Option ax_V) (m' : ax_M), ax_run (ax_exec d n) (ax_code y) (ax_rk y) n S = some (r, m') ∧ K r m'
def ax_Call (d y : Nat) (as : List ax_V) (m : ax_M) (K : Option ax_V → ax_M → Prop) : Prop := ∃ (n : Nat) (r : Option ax_V) (m' : ax_M), ax_exec d n y as m = some (r, m') ∧ K r m'
theorem ax_Call.mono {d y : Nat} {as : List ax_V} {m : ax_M} {K K' : Option ax_V → ax_M → Prop} (h : ax_Call d y as m K) (hK : ∀ r m', K r m' → K' r m') : ax_Call d y as m K' := by
  obtain ⟨n, r, m', h1, h2⟩ := h
  exact ⟨n, r, m', h1, hK r m' h2⟩
theorem ax_At.mono {d y : Nat} {S : ax_S} {K K' : Option ax_V → ax_M → Prop} (h : ax_At d y S K) (hK : ∀ r m', K r m' → K' r m') : ax_At d y S K' := by
  obtain ⟨n, r, m', h1, h2⟩ := h
  exact ⟨n, r, m', h1, hK r m' h2⟩
/-! all is made: the memory stays whole -/
abbrev ax_mm (I : Nat → Nat → Int32) (L : Nat → Nat → Int64) : ax_M := (212, I, L, fun _ _ => true)
def ax_SD (m : ax_M) : Prop := m.1 = 212 ∧ m.2.2.2 = fun _ _ => true
theorem ax_SD.eq {m : ax_M} (h : ax_SD m) : m = ax_mm m.2.1 m.2.2.1 := by
  obtain ⟨n, I, L, S⟩ := m
  obtain ⟨h1, h2⟩ := h
  have h1 : n = 212 := h1
  have h2 : S = fun _ _ => true := h2
  subst h1; subst h2
  rfl
def ax_SE1 (E : ax_E) : Prop := match E with
  | .inl S' => ax_SD S'.2.2.2
  | .inr (.inl (_, S')) => ax_SD S'.2.2.2
  | .inr (.inr (.inl (cs, dd))) => (∀ q ∈ cs, ax_SD q.2.2.2.2) ∧ ax_SD dd.2.2.2
  | .inr (.inr (.inr (.inl (_, _, S')))) => ax_SD S'.2.2.2
  | .inr (.inr (.inr (.inr (.inl (_, mm))))) => ax_SD mm
  | .inr (.inr (.inr (.inr (.inr (.inl (_, _, mm)))))) => ax_SD mm
  | .inr (.inr (.inr (.inr (.inr (.inr _))))) => True
theorem ax_SE1_bif {g : Bool} {a b : ax_E} (ha : g = true → ax_SE1 a) (hb : ax_SE1 b) : ax_SE1 (bif g then a else b) := by
  cases g with
  | true => exact ha rfl
  | false => exact hb
theorem ax_SD_wr {I : Nat → Nat → Int32} {L : Nat → Nat → Int64} {o k : Nat} : ax_SD (ax_wr (ax_mm I L) o k) := ⟨rfl, rfl⟩
theorem ax_shp212 : ax_shp 212 = (99, 0) := rfl
set_option maxHeartbeats 4000000 in
theorem ax_eff_sd (rk : Nat) (i : Instr) (nx : Nat) (ls : ax_L) (st : List ax_V) (I : Nat → Nat → Int32) (L : Nat → Nat → Int64) : ax_SE1 (ax_eff rk i nx ls st (ax_mm I L)) := by
  cases i <;> (unfold ax_eff; dsimp only) <;> repeat' (first
    | exact trivial
    | exact ⟨rfl, rfl⟩
    | exact ⟨fun q hq => by rw [List.mem_singleton.mp hq]; exact ⟨rfl, rfl⟩, ⟨rfl, rfl⟩⟩
    | exact ⟨fun q hq => by rw [ax_tab_mem _ _ _ _ _ _ q hq]; exact ⟨rfl, rfl⟩, ⟨rfl, rfl⟩⟩
    | (refine ax_SE1_bif (fun hg => ?_) ?_)
    | (exfalso; rename_i hg; rw [ax_shp212] at hg; simp only [Bool.and_eq_true, Nat.beq_eq, Nat.ble_eq] at hg; omega)
    | (exfalso; rename_i a _ _ hg; rw [ax_shp212] at hg; cases a <;> simp at hg)
    | split)
theorem ax_run_sd {call : ax_X} {cd : ax_C} {rk : Nat} (hcall : ∀ (y' : Nat) (as : List ax_V) (m : ax_M) (r' : Option ax_V) (m' : ax_M), ax_SD m → call y' as m = some (r', m') → ax_SD m') :
    ∀ (n : Nat) (S : ax_S) (r : Option ax_V) (m' : ax_M), ax_SD S.2.2.2 → ax_run call cd rk n S = some (r, m') → ax_SD m'
  | 0, S, r, m', _, h => by cases h
  | n + 1, (pc, ls, st, m), r, m', hS, h => by
    have ih := ax_run_sd (cd := cd) (rk := rk) hcall n
    have hS : ax_SD m := hS
    rw [hS.eq] at h
    unfold ax_run at h
    cases hcd : cd pc with
    | none => rw [hcd] at h; cases h
    | some q =>
      obtain ⟨i, nx, k⟩ := q
      rw [hcd] at h
      dsimp only at h
      generalize (bif Nat.beq k 0 then ls else ax_mk k ls) = ls' at h
      have hSE := ax_eff_sd rk i nx ls' st m.2.1 m.2.2.1
      generalize ax_eff rk i nx ls' st (ax_mm m.2.1 m.2.2.1) = E at h hSE
      rcases E with S' | ⟨g, S'⟩ | ⟨cs, dd⟩ | ⟨q, as, S'⟩ | ⟨v, mm⟩ | ⟨g, v, mm⟩ | u
      · exact ih S' r m' hSE h
      · cases g with
        | false => cases h
        | true => exact ih S' r m' hSE h
      · refine ih _ r m' ?_ h
        obtain ⟨h1, h2⟩ := hSE
        clear h
        induction cs with
        | nil => exact h2
        | cons q cs ih2 =>
          obtain ⟨g, S⟩ := q
          cases g with
          | true => exact h1 (true, S) List.mem_cons_self
          | false => exact ih2 (fun q hq => h1 q (List.mem_cons_of_mem _ hq))
      · dsimp only at h
        cases hcl : call (q / 1000) as S'.2.2.2 with
        | none => rw [hcl] at h; cases h
        | some w =>
          obtain ⟨r1, m1⟩ := w
          rw [hcl] at h
          dsimp only at h
          exact ih _ r m' (hcall _ _ _ _ _ hSE hcl) h
      · have h : (v, mm) = (r, m') := Option.some.inj h
        cases h
        exact hSE
      · cases g with
        | false => cases h
        | true =>
          have h : (v, mm) = (r, m') := Option.some.inj h
          cases h
          exact hSE
      · cases h
theorem ax_exec_sd : ∀ (d n y : Nat) (as : List ax_V) (m : ax_M) (r : Option ax_V) (m' : ax_M), ax_SD m → ax_exec d n y as m = some (r, m') → ax_SD m'
  | 0, n, y, as, m, r, m', _, h => by cases h
  | d + 1, n, y, as, m, r, m', hS, h => by
    have ih := ax_exec_sd d n
    have h : (bif Nat.blt y 247 && Nat.ble (ax_la as).length (ax_ml y) then ax_run (ax_exec d n) (ax_code y) (ax_rk y) n (0, ax_lc as (ax_ml y), [], m) else none) = some (r, m') := h
    cases hb : (Nat.blt y 247 && Nat.ble (ax_la as).length (ax_ml y)) with
    | false => rw [hb] at h; cases h
    | true => rw [hb] at h; exact ax_run_sd ih n _ r m' hS h
/-! conditions: memory is (ints, longs) from here on -/
abbrev ax_I : Type := Nat → Nat → Int32
abbrev ax_J : Type := Nat → Nat → Int64
def ax_ui (I : ax_I) (o k : Nat) (x : Int32) : ax_I := fun a b => if a = o ∧ b = k then x else I a b
def ax_ul (L : ax_J) (o k : Nat) (x : Int64) : ax_J := fun a b => if a = o ∧ b = k then x else L a b
def ax_uc (I : ax_I) (o0 o1 sp dp n : Nat) : ax_I := fun a b => if a = o1 then va_cpy (I o0) (I o1) sp dp n b else I a b
abbrev ax_CI (d y : Nat) (as : List ax_V) (I : ax_I) (L : ax_J) (K : Int32 → ax_I → ax_J → Prop) : Prop := ax_Call d y as (ax_mm I L) (fun r m' => ∃ x, r = some (ax_vi x) ∧ K x m'.2.1 m'.2.2.1)
abbrev ax_CL (d y : Nat) (as : List ax_V) (I : ax_I) (L : ax_J) (K : Int64 → ax_I → ax_J → Prop) : Prop := ax_Call d y as (ax_mm I L) (fun r m' => ∃ x, r = some (ax_vl x) ∧ K x m'.2.1 m'.2.2.1)
abbrev ax_CV (d y : Nat) (as : List ax_V) (I : ax_I) (L : ax_J) (K : ax_I → ax_J → Prop) : Prop := ax_Call d y as (ax_mm I L) (fun r m' => r = none ∧ K m'.2.1 m'.2.2.1)
abbrev ax_AK (d y : Nat) (S : ax_S) (K : Option ax_V → ax_I → ax_J → Prop) : Prop := ax_At d y S (fun r m' => K r m'.2.1 m'.2.2.1)
abbrev ax_ki (K : Int32 → ax_I → ax_J → Prop) : Option ax_V → ax_I → ax_J → Prop := fun v I L => match v with
  | some (.inl x) => K x I L
  | _ => False
abbrev ax_kl (K : Int64 → ax_I → ax_J → Prop) : Option ax_V → ax_I → ax_J → Prop := fun v I L => match v with
  | some (.inr (.inl x)) => K x I L
  | _ => False
abbrev ax_kv (K : ax_I → ax_J → Prop) : Option ax_V → ax_I → ax_J → Prop := fun v I L => match v with
  | none => K I L
  | _ => False
def ax_br (rec : ax_S → Prop) : List (Bool × ax_S) → ax_S → Prop
  | [], dd => rec dd
  | (c, S) :: r, dd => (c = true → rec S) ∧ (c = false → ax_br rec r dd)
theorem ax_br_pick {rec : ax_S → Prop} : ∀ {cs : List (Bool × ax_S)} {dd : ax_S}, ax_br rec cs dd → rec (ax_pick cs dd)
  | [], _, h => h
  | (true, S) :: _, _, h => h.1 rfl
  | (false, S) :: r, dd, h => ax_br_pick (cs := r) (h.2 rfl)
/-- what a call's answer must be, by its kind -/
def ax_cb (rk : Nat) (rec : ax_S → Prop) (S : ax_S) : Option ax_V → ax_M → Prop := match rk with
  | 0 => fun r m' => r = none ∧ rec (S.1, S.2.1, S.2.2.1, ax_mm m'.2.1 m'.2.2.1)
  | 2 => fun r m' => ∃ x, r = some (ax_vl x) ∧ rec (S.1, S.2.1, ax_vl x :: S.2.2.1, ax_mm m'.2.1 m'.2.2.1)
  | _ => fun r m' => ∃ x, r = some (ax_vi x) ∧ rec (S.1, S.2.1, ax_vi x :: S.2.2.1, ax_mm m'.2.1 m'.2.2.1)
def ax_vs (C : Nat → List ax_V → ax_M → (Option ax_V → ax_M → Prop) → Prop) (cd : ax_C) (rk : Nat) (rec : ax_S → Prop) (K : Option ax_V → ax_I → ax_J → Prop) (S : ax_S) : Prop := match cd S.1 with
  | none => False
  | some (i, nx, k) => match ax_eff rk i nx (bif Nat.beq k 0 then S.2.1 else ax_mk k S.2.1) S.2.2.1 S.2.2.2 with
    | .inl S' => rec S'
    | .inr (.inl (g, S')) => g = true ∧ rec S'
    | .inr (.inr (.inl (cs, dd))) => ax_br rec cs dd
    | .inr (.inr (.inr (.inl (q, as, S')))) => C (q / 1000) as S'.2.2.2 (ax_cb (q % 10) rec S')
    | .inr (.inr (.inr (.inr (.inl (v, mm))))) => K v mm.2.1 mm.2.2.1
    | .inr (.inr (.inr (.inr (.inr (.inl (g, v, mm)))))) => g = true ∧ K v mm.2.1 mm.2.2.1
    | .inr (.inr (.inr (.inr (.inr (.inr _))))) => False
/-- the condition, by at most n steps, as far as the places where to stop -/
def ax_vc (C : Nat → List ax_V → ax_M → (Option ax_V → ax_M → Prop) → Prop) (cd : ax_C) (rk : Nat) (stop : Nat → Bool) (Z : ax_S → Prop) (K : Option ax_V → ax_I → ax_J → Prop) : Nat → ax_S → Prop
  | 0, S => Z S
  | n + 1, S => bif stop S.1 then Z S else ax_vs C cd rk (ax_vc C cd rk stop Z K n) K S
theorem ax_vs_sound {d y : Nat} {K : Option ax_V → ax_I → ax_J → Prop} {rec : ax_S → Prop} (hrec : ∀ S, ax_SD S.2.2.2 → rec S → ax_AK d y S K) {S : ax_S} (hsd : ax_SD S.2.2.2) (h : ax_vs (ax_Call d) (ax_code y) (ax_rk y) rec K S) : ax_AK d y S K := by
  obtain ⟨pc, ls, st, m⟩ := S
  unfold ax_vs at h
  dsimp only at h
  have key : ∀ (n : Nat), ax_run (ax_exec d (n + 1)) (ax_code y) (ax_rk y) (n + 1) (pc, ls, st, m) = match ax_code y pc with
      | none => none
      | some (i, nx, k) => match ax_eff (ax_rk y) i nx (bif Nat.beq k 0 then ls else ax_mk k ls) st m with
        | .inl s => ax_run (ax_exec d (n + 1)) (ax_code y) (ax_rk y) n s
        | .inr (.inl (g, s)) => bif g then ax_run (ax_exec d (n + 1)) (ax_code y) (ax_rk y) n s else none
        | .inr (.inr (.inl (cs, dd))) => ax_run (ax_exec d (n + 1)) (ax_code y) (ax_rk y) n (ax_pick cs dd)
        | .inr (.inr (.inr (.inl (q, as, s)))) => match ax_exec d (n + 1) (q / 1000) as s.2.2.2 with
          | none => none
          | some (r, m') => ax_run (ax_exec d (n + 1)) (ax_code y) (ax_rk y) n (s.1, s.2.1, r.toList ++ s.2.2.1, m')
        | .inr (.inr (.inr (.inr (.inl r)))) => some r
        | .inr (.inr (.inr (.inr (.inr (.inl (g, r)))))) => bif g then some r else none
        | .inr (.inr (.inr (.inr (.inr (.inr _))))) => none := fun n => rfl
  have hm : ax_SD m := hsd
  cases hcd : ax_code y pc with
  | none => rw [hcd] at h; exact h.elim
  | some q =>
    obtain ⟨i, nx, k⟩ := q
    rw [hcd] at h key
    dsimp only at h key
    have hSE := ax_eff_sd (ax_rk y) i nx (bif Nat.beq k 0 then ls else ax_mk k ls) st m.2.1 m.2.2.1
    rw [← hm.eq] at hSE
    generalize ax_eff (ax_rk y) i nx (bif Nat.beq k 0 then ls else ax_mk k ls) st m = E at h key hSE
    have lift : ∀ {n : Nat} {S : ax_S} {r : Option ax_V × ax_M}, ax_run (ax_exec d n) (ax_code y) (ax_rk y) n S = some r → ax_run (ax_exec d (n + 1)) (ax_code y) (ax_rk y) n S = some r := fun {n S r} hr => ax_run_mono (ax_exec_mono d n (n + 1) (Nat.le_succ n)) n n (Nat.le_refl n) S r hr
    rcases E with S' | ⟨g, S'⟩ | ⟨cs, dd⟩ | ⟨q, as, S'⟩ | ⟨v, mm⟩ | ⟨g, v, mm⟩ | u
    · obtain ⟨n, r, m', h1, h2⟩ := hrec S' hSE h
      exact ⟨n + 1, r, m', by rw [key]; exact lift h1, h2⟩
    · obtain ⟨rfl, h⟩ := h
      obtain ⟨n, r, m', h1, h2⟩ := hrec S' hSE h
      exact ⟨n + 1, r, m', by rw [key]; exact lift h1, h2⟩
    · have hsd2 : ax_SD (ax_pick cs dd).2.2.2 := by
        obtain ⟨e1, e2⟩ := hSE
        clear h key
        induction cs with
        | nil => exact e2
        | cons q cs ih2 =>
          obtain ⟨g, S⟩ := q
          cases g with
          | true => exact e1 (true, S) List.mem_cons_self
          | false => exact ih2 (fun q hq => e1 q (List.mem_cons_of_mem _ hq))
      obtain ⟨n, r, m', h1, h2⟩ := hrec _ hsd2 (ax_br_pick h)
      exact ⟨n + 1, r, m', by rw [key]; exact lift h1, h2⟩
    · obtain ⟨n1, r1, m1, h1, h2⟩ := h
      have hm1 : ax_SD m1 := ax_exec_sd d n1 _ _ _ _ _ hSE h1
      have h3 : ∀ kk : Nat, ax_cb kk rec S' r1 m1 → ax_AK d y (S'.1, S'.2.1, r1.toList ++ S'.2.2.1, m1) K := by
        intro kk z2
        have z4 : ∀ st' : List ax_V, rec (S'.1, S'.2.1, st', ax_mm m1.2.1 m1.2.2.1) → ax_AK d y (S'.1, S'.2.1, st', m1) K := fun st' z => by
          rw [← hm1.eq] at z
          exact hrec _ hm1 z
        match kk, z2 with
        | 0, z2 =>
          obtain ⟨rfl, z3⟩ := z2
          exact z4 _ z3
        | 1, z2 =>
          obtain ⟨x, rfl, z3⟩ := z2
          exact z4 _ z3
        | 2, z2 =>
          obtain ⟨x, rfl, z3⟩ := z2
          exact z4 _ z3
        | k + 3, z2 =>
          obtain ⟨x, rfl, z3⟩ := z2
          exact z4 _ z3
      have h3 := h3 _ h2
      obtain ⟨n2, r, m', h4, h5⟩ := h3
      refine ⟨(n1 + n2) + 1, r, m', ?_, h5⟩
      rw [key]
      dsimp only
      rw [ax_exec_mono d n1 (n1 + n2 + 1) (by omega) _ _ _ _ h1]
      exact ax_run_mono (ax_exec_mono d n2 (n1 + n2 + 1) (by omega)) n2 (n1 + n2) (by omega) _ _ h4
    · exact ⟨1, v, mm, by rw [key 0], h⟩
    · obtain ⟨rfl, h⟩ := h
      exact ⟨1, v, mm, by rw [key 0]; rfl, h⟩
    · exact h.elim
theorem ax_vc_sound {d y : Nat} {K : Option ax_V → ax_I → ax_J → Prop} {stop : Nat → Bool} : ∀ (n : Nat) (S : ax_S), ax_SD S.2.2.2 → ax_vc (ax_Call d) (ax_code y) (ax_rk y) stop (fun S => ax_AK d y S K) K n S → ax_AK d y S K
  | 0, _, _, h => h
  | n + 1, S, hs, h => by
    have h : bif stop S.1 then ax_AK d y S K else ax_vs (ax_Call d) (ax_code y) (ax_rk y) (ax_vc (ax_Call d) (ax_code y) (ax_rk y) stop (fun S => ax_AK d y S K) K n) K S := h
    cases hb : stop S.1 with
    | true => rw [hb] at h; exact h
    | false => rw [hb] at h; exact ax_vs_sound (ax_vc_sound n) hs h
/-- from a loop head: the first step is taken -/
theorem ax_vcL {d y : Nat} {K : Option ax_V → ax_I → ax_J → Prop} (cd : ax_C) (rk : Nat) (stop : Nat → Bool) (n : Nat) (hcd : ax_code y = cd) (hrk : ax_rk y = rk) {pc : Nat} {ls : ax_L} {st : List ax_V} {I : ax_I} {L : ax_J} (h : ax_vs (ax_Call d) cd rk (ax_vc (ax_Call d) cd rk stop (fun S => ax_AK d y S K) K n) K (pc, ls, st, ax_mm I L)) : ax_AK d y (pc, ls, st, ax_mm I L) K := by
  subst hcd; subst hrk
  exact ax_vs_sound (ax_vc_sound n) ⟨rfl, rfl⟩ h
theorem ax_Call_of {d y : Nat} {as : List ax_V} {m : ax_M} {K : Option ax_V → ax_M → Prop} (hy : (Nat.blt y 247 && Nat.ble (ax_la as).length (ax_ml y)) = true) (h : ax_At d y (0, ax_lc as (ax_ml y), [], m) K) : ax_Call (d + 1) y as m K := by
  obtain ⟨n, r, m', h1, h2⟩ := h
  refine ⟨n, r, m', ?_, h2⟩
  show (bif Nat.blt y 247 && Nat.ble (ax_la as).length (ax_ml y) then ax_run (ax_exec d n) (ax_code y) (ax_rk y) n (0, ax_lc as (ax_ml y), [], m) else none) = some (r, m')
  rw [hy]
  exact h1
/-- a method: its condition from its entry, by the kind of its answer -/
theorem ax_vcI {d y : Nat} {as : List ax_V} {I : ax_I} {L : ax_J} {K : Int32 → ax_I → ax_J → Prop} (cd : ax_C) (rk : Nat) (ls : ax_L) (stop : Nat → Bool) (n : Nat) (hcd : ax_code y = cd) (hrk : ax_rk y = rk) (hls : ax_lc as (ax_ml y) = ls) (hy : (Nat.blt y 247 && Nat.ble (ax_la as).length (ax_ml y)) = true) (h : ax_vc (ax_Call d) cd rk stop (fun S => ax_AK d y S (ax_ki K)) (ax_ki K) n (0, ls, [], ax_mm I L)) : ax_CI (d + 1) y as I L K := by
  subst hcd; subst hrk; subst hls
  refine (ax_Call_of hy (ax_vc_sound n _ ⟨rfl, rfl⟩ h)).mono (fun r m' hk => ?_)
  rcases r with _ | x | x | x
  · exact hk.elim
  · exact ⟨x, rfl, hk⟩
  · exact hk.elim
  · exact hk.elim
theorem ax_vcJ {d y : Nat} {as : List ax_V} {I : ax_I} {L : ax_J} {K : Int64 → ax_I → ax_J → Prop} (cd : ax_C) (rk : Nat) (ls : ax_L) (stop : Nat → Bool) (n : Nat) (hcd : ax_code y = cd) (hrk : ax_rk y = rk) (hls : ax_lc as (ax_ml y) = ls) (hy : (Nat.blt y 247 && Nat.ble (ax_la as).length (ax_ml y)) = true) (h : ax_vc (ax_Call d) cd rk stop (fun S => ax_AK d y S (ax_kl K)) (ax_kl K) n (0, ls, [], ax_mm I L)) : ax_CL (d + 1) y as I L K := by
  subst hcd; subst hrk; subst hls
  refine (ax_Call_of hy (ax_vc_sound n _ ⟨rfl, rfl⟩ h)).mono (fun r m' hk => ?_)
  rcases r with _ | x | x | x
  · exact hk.elim
  · exact hk.elim
  · exact ⟨x, rfl, hk⟩
  · exact hk.elim
theorem ax_vcV {d y : Nat} {as : List ax_V} {I : ax_I} {L : ax_J} {K : ax_I → ax_J → Prop} (cd : ax_C) (rk : Nat) (ls : ax_L) (stop : Nat → Bool) (n : Nat) (hcd : ax_code y = cd) (hrk : ax_rk y = rk) (hls : ax_lc as (ax_ml y) = ls) (hy : (Nat.blt y 247 && Nat.ble (ax_la as).length (ax_ml y)) = true) (h : ax_vc (ax_Call d) cd rk stop (fun S => ax_AK d y S (ax_kv K)) (ax_kv K) n (0, ls, [], ax_mm I L)) : ax_CV (d + 1) y as I L K := by
  subst hcd; subst hrk; subst hls
  refine (ax_Call_of hy (ax_vc_sound n _ ⟨rfl, rfl⟩ h)).mono (fun r m' hk => ?_)
  rcases r with _ | x | x | x
  · exact ⟨rfl, hk⟩
  · exact hk.elim
  · exact hk.elim
  · exact hk.elim
