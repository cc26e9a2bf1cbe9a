theorem ax_tg_mono {m m' : ax_M} {t n o k : Nat} (h : ax_tg m t n o k) (hc : m.1 ≤ m'.1) (hi : m'.2.1 o k = m.2.1 o k) : ax_tg m' t n o k := by
  unfold ax_tg at h ⊢
  rw [hi]
  by_cases a : t < 10
  · rw [if_pos a] at h ⊢
    by_cases b : ax_kd t k = 2
    · rw [if_pos b] at h ⊢; omega
    · rw [if_neg b] at h ⊢
      by_cases d : ax_kd t k = 4
      · rw [if_pos d] at h ⊢; exact ⟨h.1, by omega, h.2.2⟩
      · rw [if_neg d]; trivial
  · rw [if_neg a] at h ⊢
    by_cases b : 13 ≤ t ∧ t ≤ 17
    · rw [if_pos b] at h ⊢; omega
    · rw [if_neg b]; trivial
/-- a new cell -/
theorem ax_Rep.grow {G : ax_G} {m : ax_M} {H H' : Heap} (h : ax_Rep G m H) (hlt : m.1 < 212) (hz : H'.size = H.size + 1) (ho : ∀ q : Nat, q < H.size → H'[q]? = H[q]?) (hcell : ax_cell G (m.1 + 1, m.2) m.1 H') : ax_Rep G (m.1 + 1, m.2) H' := by
  obtain ⟨r1, r2, r3, r4, r5, r6, r7⟩ := h
  have r6 := r6.resolve_left (by omega)
  refine ⟨⟨by show 3 ≤ m.1 + 1; omega, by show m.1 + 1 ≤ 212; omega⟩, by show H'.size = _ + (m.1 + 1 - 3); omega, fun q hq => ?_, fun a ha3 ha => ?_, fun a ha3 ha k hk hS => ?_, Or.inr (fun a k ha => ?_), r7⟩
  · rw [ho q (by omega)]; exact r3 q hq
  · have ha : a < m.1 + 1 := ha
    by_cases e : a = m.1
    · subst e; exact hcell
    · have hb : a < m.1 := by omega
      refine ax_cell_kept (r4 a ha3 hb) (ho _ ?_) (fun _ => rfl) (fun _ => rfl)
      unfold ax_adr; rw [if_neg (by omega)]; omega
  · have ha : a < m.1 + 1 := ha
    by_cases e : a = m.1
    · subst e
      have := (r6 m.1 k (Nat.le_refl _)).2.2
      rw [show m.2.2.2 m.1 k = true from hS] at this
      cases this
    · exact ax_tg_mono (r5 a ha3 (by omega) k hk hS) (by show m.1 ≤ m.1 + 1; omega) rfl
  · exact r6 a k (by have ha : m.1 + 1 ≤ a := ha; omega)
theorem ax_fresh {G : ax_G} {m : ax_M} {H : Heap} (h : ax_Rep G m H) (hlt : m.1 < 212) (k : Nat) : m.2.1 m.1 k = 0 ∧ m.2.2.1 m.1 k = 0 ∧ m.2.2.2 m.1 k = false := (h.2.2.2.2.2.1.resolve_left (by omega)) m.1 k (Nat.le_refl _)
theorem ax_fv_new {G : ax_G} {m : ax_M} {t n o k : Nat} (ht : t < 10) (hk : k < ax_N t) (h : m.2.1 o k = 0 ∧ m.2.2.1 o k = 0 ∧ m.2.2.2 o k = false) : defaultValue (ax_ty t k) = ax_fv G m t n o k := by
  have e := ax_kdok t ht k hk
  unfold ax_fv
  rw [h.1, h.2.1, h.2.2]
  generalize ax_kd t k = d at e
  generalize ax_ty t k = ty at e
  generalize (ax_T t k).2.2.2 = f at e
  unfold ax_kdt at e
  split at e <;> first | rfl | cases e
/-- new T[n][k]: a cell of references, then n cells of ints -/
theorem ax_Rep.multi {G : ax_G} {m : ax_M} {H H' : Heap} (h : ax_Rep G m H) {t n k : Nat} (ht : t = 16 ∨ t = 17) (hsh : ax_shp m.1 = (t, n)) (hin : ∀ i, i < n → ax_shp (m.1 + 1 + i) = (10, k)) (hz : H'.size = H.size + 1 + n) (ho : ∀ q : Nat, q < H.size → H'[q]? = H[q]?)
    (hout : H'[H.size]? = some (arrV (G.2.2.2.2.1 t) n (fun j => if j < n then .ref (H.size + 1 + j) else .null))) (hinn : ∀ j, j < n → H'[H.size + 1 + j]? = some (arrV (G.2.2.2.2.1 10) k (fun _ => .int 0))) :
    ax_Rep G (m.1 + 1 + n, m.2.1, m.2.2.1, fun a b => if a = m.1 then Nat.blt b n else m.2.2.2 a b) H' := by
  have hlt : m.1 < 212 := by
    rcases Nat.lt_or_ge m.1 212 with q | q
    · exact q
    · rw [ax_shp_big q] at hsh; have := congrArg Prod.fst hsh; simp at this; omega
  have hcap : m.1 + 1 + n ≤ 212 := by
    rcases Nat.lt_or_ge 0 n with q | q
    · have e := hin (n - 1) (by omega)
      rcases Nat.lt_or_ge (m.1 + 1 + (n - 1)) 212 with z | z
      · omega
      · rw [ax_shp_big z] at e; have := congrArg Prod.fst e; simp at this
    · omega
  have had := ax_adr_new G h
  obtain ⟨r1, r2, r3, r4, r5, r6, r7⟩ := h
  have r6 := r6.resolve_left (by omega)
  have hblt : ∀ b, Nat.blt b n = true ↔ b < n := fun b => by unfold Nat.blt; rw [Nat.ble_eq]; omega
  have hadr : ∀ i, ax_adr G (m.1 + 1 + i) = H.size + 1 + i := fun i => by
    rw [← had]; unfold ax_adr; rw [if_neg (by omega), if_neg (by omega)]; omega
  refine ⟨⟨by show 3 ≤ m.1 + 1 + n; omega, hcap⟩, by show H'.size = _ + (m.1 + 1 + n - 3); omega, fun q hq => ?_, fun a ha3 ha => ?_, fun a ha3 ha j hj hS => ?_, Or.inr (fun a j ha => ?_), r7⟩
  · rw [ho q (by omega)]; exact r3 q hq
  · have ha : a < m.1 + 1 + n := ha
    rcases (show a < m.1 ∨ a = m.1 ∨ ∃ i, i < n ∧ a = m.1 + 1 + i by
      rcases Nat.lt_trichotomy a m.1 with z | z | z
      · exact Or.inl z
      · exact Or.inr (Or.inl z)
      · exact Or.inr (Or.inr ⟨a - (m.1 + 1), by omega, by omega⟩)) with z | z | ⟨i, z1, z2⟩
    · have e : ¬ a = m.1 := by omega
      refine ax_cell_kept (r4 a ha3 z) (ho _ ?_) (fun j => ?_) (fun j => ?_)
      · unfold ax_adr; rw [if_neg (by omega)]; omega
      · unfold ax_fv; simp only [if_neg e]
      · unfold ax_av; simp only [if_neg e]
    · subst z
      refine ax_mkcellA hsh (by omega) ?_
      rw [had, hout]
      refine congrArg (fun f => some (arrV _ n f)) (funext fun j => ?_)
      rw [ax_av_ref (by omega) (by omega)]
      simp only [↓reduceIte]
      have hel : (ax_ely t n m.1 j).2.2 = m.1 + (1 + j) := by rcases ht with q | q <;> subst q <;> rfl
      by_cases q : j < n
      · rw [if_pos q, if_pos ((hblt j).mpr q), hel, show m.1 + (1 + j) = m.1 + 1 + j by omega, hadr j]
      · rw [if_neg q, if_neg (fun z => q ((hblt j).mp z))]
    · subst z2
      refine ax_mkcellA (hin i z1) (by omega) ?_
      rw [hadr i, hinn i z1]
      refine congrArg (fun f => some (arrV _ k f)) (funext fun j => ?_)
      rw [ax_av_int (by omega)]
      exact congrArg Value.int (r6 (m.1 + 1 + i) j (by omega)).1.symm
  · have ha : a < m.1 + 1 + n := ha
    dsimp only at hS
    by_cases e : a = m.1
    · subst e
      rw [if_pos rfl] at hS
      have hj2 := (hblt j).mp hS
      rw [hsh]
      unfold ax_tg
      rw [if_neg (by omega), if_pos (by omega)]
      have hel : (ax_ely t n m.1 j).2.2 = m.1 + (1 + j) := by rcases ht with q | q <;> subst q <;> rfl
      show (ax_ely t n m.1 j).2.2 < m.1 + 1 + n
      omega
    · rw [if_neg e] at hS
      rcases Nat.lt_or_ge a m.1 with z | z
      · exact ax_tg_mono (r5 a ha3 z j hj hS) (by show m.1 ≤ m.1 + 1 + n; omega) rfl
      · rw [(r6 a j z).2.2] at hS; cases hS
  · have ha : m.1 + 1 + n ≤ a := ha
    have := r6 a j (by omega)
    refine ⟨this.1, this.2.1, ?_⟩
    dsimp only
    rw [if_neg (by omega)]
    exact this.2.2
/-! what the tables say, at a state -/
def ax_kw (w : Cond) : Bool := goodWord w || (match w with | .fieldLinkNest .. => true | .methodLinkNest .. => true | .arrayOver (.object _) => true | .arrayOver (.array _) => true | _ => false)
def ax_K (G : ax_G) (s : State) : Prop :=
  (∀ (a : Array Value), ∀ w ∈ lw_tbl, ax_kw w = true → w.before a s = true) ∧
  (∀ c, c < 10 → u_Kn s (ax_R c) (ax_T c) (ax_N c) (G.2.2.1 c) (G.2.2.2.1 c)) ∧
  (∀ t, 10 ≤ t → t < 18 → ArrOfT s (G.2.2.2.2.1 t) (ax_aty t) ∧ s.vm.findClass ("[" ++ (ax_aty t).toString) = some (G.2.2.2.2.1 t)) ∧
  va_Z "SecondWish" "PARENT" "[I" (.ref (G.2.1 1)) (fun q => G.1.size ≤ q) s G.1 ∧ va_Z "SecondWish" "LETTER" "[C" (.ref (G.2.1 2)) (fun q => G.1.size ≤ q) s G.1 ∧
  va_T .int (G.2.1 0) G.2.2.2.2.2.1 (fun j => .int (G.2.2.2.2.2.2 0 j)) (fun q => G.1.size ≤ q) s G.1 ∧ va_T .int (G.2.1 1) 6 (fun j => .int (G.2.2.2.2.2.2 1 j)) (fun q => G.1.size ≤ q) s G.1 ∧ va_T .char (G.2.1 2) 6 (fun j => .int (G.2.2.2.2.2.2 2 j)) (fun q => G.1.size ≤ q) s G.1
theorem ax_AOA_moved {t : FieldType} {u U : State} (hvm : u.vm.Alike U.vm) {a b : Array Value} (h : (Cond.arrayOver (.array t)).before a u = true) : (Cond.arrayOver (.array t)).before b U = true := by
  obtain ⟨comp, c, k, h1, h2, h3, h4, h5⟩ := arrayOverA_spec h
  obtain ⟨k', hk', he⟩ := hvm.2.2 _ _ h3
  have e1 := va_idx_bare U.vm comp
  have e2 := va_idx_bare u.vm comp
  have e3 := hvm.bare_eq
  have hi : (U.vm.classes.findIdx? fun (x : Class) => match x.kind with | .array component _ => component == comp | _ => false) = some c := by
    first
      | (rw [e3] at e1; exact e1.symm.trans (e2.trans h2))
      | (rw [← e3] at e1; exact e1.symm.trans (e2.trans h2))
  have hkind : k'.kind = .array comp (.array t) := by rw [he]; exact h4
  have f1 : U.vm.findClass (FieldType.array t).toString = some comp := by rw [hvm.findClass]; exact h1
  have f2 : U.vm.findClass ("[" ++ (FieldType.array t).toString) = some c := by rw [hvm.findClass]; exact h5
  unfold Cond.before Cond.holds
  simp only [Cond.value]
  rw [f1, Option.bind_some]
  refine (congrArg (fun o : Option Nat => (o.bind (fun c => (U.vm.classes[c]?).map fun (k : Class) => match k.kind with | .array _ ty => decide (ty = FieldType.array t) && decide (U.vm.findClass ("[" ++ (FieldType.array t).toString) = some c) | _ => false) == some true)) hi).trans ?_
  simp [hk', hkind, f2]
theorem ax_word_warm {s U : State} (hW : s.WarmedH U.vm) {w : Cond} (hw : ax_kw w = true) {a b : Array Value} (h : w.before a s = true) : w.before b U = true := by
  unfold ax_kw at hw
  rw [Bool.or_eq_true] at hw
  rcases hw with hg | hn
  · exact word_at hW (good_of_word hg) h
  · split at hn
    · exact va_Nw.use rfl (va_Nw.warmF hW (va_Nw.of rfl h))
    · exact va_Nw.use rfl (va_Nw.warmM hW (va_Nw.of rfl h))
    · exact va_AO.use (va_AO.moved hW.alike (va_AO.of h))
    · exact ax_AOA_moved hW.alike h
    · cases hn
theorem ax_K.warm {G : ax_G} {s U : State} (h : ax_K G s) (hW : s.WarmedH U.vm) : ax_K G U := by
  obtain ⟨h1, h2, h3, h4, h5, h6, h7, h8⟩ := h
  refine ⟨fun a w hw hk => ax_word_warm hW hk (h1 a w hw hk), fun c hc => u_Kn_moved hW.alike (h2 c hc), fun t q1 q2 => ⟨arrOfT_moved hW.alike (h3 t q1 q2).1, by rw [hW.alike.findClass]; exact (h3 t q1 q2).2⟩, h4.moved hW.alike, h5.moved hW.alike, h6.moved hW.alike, h7.moved hW.alike, h8.moved hW.alike⟩
