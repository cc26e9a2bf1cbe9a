/-! THE START: what the tables and the Statement give at the law's entry -/
theorem ax_arrs {s : State} {a : Array Value} (hts : ∀ w ∈ lw_tbl, w.before a s = true) : ∃ ar : Nat → ClassId, ∀ t, 10 ≤ t → t < 18 → ArrOfT s (ar t) (ax_aty t) ∧ s.vm.findClass ("[" ++ (ax_aty t).toString) = some (ar t) := by
  have P : ∀ ty : FieldType, Cond.arrayClass ty ∈ tables_1 → ∃ cA : ClassId, ArrOfT s cA ty ∧ s.vm.findClass ("[" ++ ty.toString) = some cA := fun ty hm => by
    obtain ⟨cA, k, comp, h1, h2, h3⟩ := Cond.arrayClass_spec (hts _ (List.mem_append_right _ hm))
    exact ⟨cA, fun n z => ⟨(fun k h => by cases h), k, h2, comp, h3⟩, h1⟩
  have O : ∀ C : String, Cond.arrayOver (.object C) ∈ tables_1 → ∃ cA : ClassId, ArrOfT s cA (.object C) ∧ s.vm.findClass ("[" ++ (FieldType.object C).toString) = some cA := fun C hm => by
    obtain ⟨comp, cA, k, h1, h2, h3, h4, h5⟩ := Cond.arrayOver_spec (hts _ (List.mem_append_right _ hm))
    exact ⟨cA, fun n z => ⟨(fun k h => by cases h), k, h3, comp, h4⟩, h5⟩
  have A : ∃ cA : ClassId, ArrOfT s cA (.array .int) ∧ s.vm.findClass ("[" ++ (FieldType.array .int).toString) = some cA := by
    obtain ⟨comp, cA, k, h1, h2, h3, h4, h5⟩ := arrayOverA_spec (hts (Cond.arrayOver (.array .int)) (List.mem_append_right _ (by decide +kernel)))
    exact ⟨cA, fun n z => ⟨(fun k h => by cases h), k, h3, comp, h4⟩, h5⟩
  obtain ⟨a10, p10⟩ := P .int (by decide +kernel)
  obtain ⟨a11, p11⟩ := P .boolean (by decide +kernel)
  obtain ⟨a12, p12⟩ := P .byte (by decide +kernel)
  obtain ⟨a13, p13⟩ := O "SecondWish$Line" (by decide +kernel)
  obtain ⟨a15, p15⟩ := O "SecondWish$Day" (by decide +kernel)
  obtain ⟨a16, p16⟩ := A
  refine ⟨fun t => match t with | 10 => a10 | 11 => a11 | 12 => a12 | 13 => a13 | 14 => a13 | 15 => a15 | _ => a16, fun t h1 h2 => ?_⟩
  rcases (show t = 10 ∨ t = 11 ∨ t = 12 ∨ t = 13 ∨ t = 14 ∨ t = 15 ∨ t = 16 ∨ t = 17 by omega) with rfl | rfl | rfl | rfl | rfl | rfl | rfl | rfl
  · exact p10
  · exact p11
  · exact p12
  · exact p13
  · exact p13
  · exact p15
  · exact p16
  · exact p16
theorem ax_clss {s : State} {a : Array Value} (hts : ∀ w ∈ lw_tbl, w.before a s = true) : ∃ (cc : Nat → ClassId) (sl : Nat → Nat → Nat), ∀ c, c < 10 → u_Kn s (ax_R c) (ax_T c) (ax_N c) (cc c) (sl c) := by
  have h : ∀ c : Nat, ∃ q : ClassId × (Nat → Nat), c < 10 → u_Kn s (ax_R c) (ax_T c) (ax_N c) q.1 q.2 := fun c => by
    by_cases hc : c < 10
    · obtain ⟨cC, iS, h⟩ := u_known (n := ax_N c) hts (ax_in c hc) (hts _ (ax_instok c hc).1)
      exact ⟨(cC, iS), fun _ => h⟩
    · exact ⟨(0, fun _ => 0), fun z => absurd z hc⟩
  obtain ⟨f, hf⟩ := Classical.axiomOfChoice h
  exact ⟨fun c => (f c).1, fun c => (f c).2, hf⟩
theorem ax_stats {s : State} {b : Nat} (hts : ∀ w ∈ lw_tbl, w.before #[Value.ref b] s = true) (hgv : (Jvm.Cond.and given_1 narrow_1).before #[Value.ref b] s = true) :
    ∃ tP tL : Nat, va_Z "SecondWish" "PARENT" "[I" (.ref tP) (fun q => s.heap.size ≤ q) s s.heap ∧ va_Z "SecondWish" "LETTER" "[C" (.ref tL) (fun q => s.heap.size ≤ q) s s.heap ∧ va_T .int tP 6 (fun j => .int (ax_pa j)) (fun q => s.heap.size ≤ q) s s.heap ∧ va_T .char tL 6 (fun j => .int (ax_le j)) (fun q => s.heap.size ≤ q) s s.heap := by
  have hs := flat_of_before _ hgv
  have hA : ∀ a : Nat, a < s.heap.size → ¬ (fun q : Nat => s.heap.size ≤ q) a := fun a h z => absurd h (Nat.not_lt.mpr z)
  have hini : (Cond.initialized "SecondWish").before #[Value.ref b] s = true := hts _ (ax_instok 8 (by omega)).2
  have pe : ∀ j : Nat, j < 6 → (Term.elem (.static "SecondWish" "PARENT" "[I") (.int (Int32.ofNat j))).eval #[Value.ref b] s none [] s = some (.int (ax_pa j)) := by
    intro j hj
    rcases (show j = 0 ∨ j = 1 ∨ j = 2 ∨ j = 3 ∨ j = 4 ∨ j = 5 by omega) with rfl | rfl | rfl | rfl | rfl | rfl
    · exact va_eqt (hs (Cond.eq (Term.elem (.static "SecondWish" "PARENT" "[I") (.int 0)) (.int (-9))) (by decide +kernel))
    · exact va_eqt (hs (Cond.eq (Term.elem (.static "SecondWish" "PARENT" "[I") (.int 1)) (.int 0)) (by decide +kernel))
    · exact va_eqt (hs (Cond.eq (Term.elem (.static "SecondWish" "PARENT" "[I") (.int 2)) (.int 0)) (by decide +kernel))
    · exact va_eqt (hs (Cond.eq (Term.elem (.static "SecondWish" "PARENT" "[I") (.int 3)) (.int 0)) (by decide +kernel))
    · exact va_eqt (hs (Cond.eq (Term.elem (.static "SecondWish" "PARENT" "[I") (.int 4)) (.int 2)) (by decide +kernel))
    · exact va_eqt (hs (Cond.eq (Term.elem (.static "SecondWish" "PARENT" "[I") (.int 5)) (.int 1)) (by decide +kernel))
  have le : ∀ j : Nat, j < 6 → (Term.elem (.static "SecondWish" "LETTER" "[C") (.int (Int32.ofNat j))).eval #[Value.ref b] s none [] s = some (.int (ax_le j)) := by
    intro j hj
    rcases (show j = 0 ∨ j = 1 ∨ j = 2 ∨ j = 3 ∨ j = 4 ∨ j = 5 by omega) with rfl | rfl | rfl | rfl | rfl | rfl
    · exact va_eqt (hs (Cond.eq (Term.elem (.static "SecondWish" "LETTER" "[C") (.int 0)) (.int 111)) (by decide +kernel))
    · exact va_eqt (hs (Cond.eq (Term.elem (.static "SecondWish" "LETTER" "[C") (.int 1)) (.int 109)) (by decide +kernel))
    · exact va_eqt (hs (Cond.eq (Term.elem (.static "SecondWish" "LETTER" "[C") (.int 2)) (.int 99)) (by decide +kernel))
    · exact va_eqt (hs (Cond.eq (Term.elem (.static "SecondWish" "LETTER" "[C") (.int 3)) (.int 98)) (by decide +kernel))
    · exact va_eqt (hs (Cond.eq (Term.elem (.static "SecondWish" "LETTER" "[C") (.int 4)) (.int 108)) (by decide +kernel))
    · exact va_eqt (hs (Cond.eq (Term.elem (.static "SecondWish" "LETTER" "[C") (.int 5)) (.int 107)) (by decide +kernel))
  obtain ⟨tP, e1, h1⟩ := va_Tof (N := 6) (f := fun j => .int (ax_pa j)) (A := fun q => s.heap.size ≤ q) (by decide) (hs (Cond.arrayOf (.static "SecondWish" "PARENT" "[I") .int) (by decide +kernel)) (va_eqt (hs (Cond.eq (.length (.static "SecondWish" "PARENT" "[I")) (.int 6)) (by decide +kernel))) pe hA
  obtain ⟨tL, e2, h2⟩ := va_Tof (N := 6) (f := fun j => .int (ax_le j)) (A := fun q => s.heap.size ≤ q) (by decide) (hs (Cond.arrayOf (.static "SecondWish" "LETTER" "[C") .char) (by decide +kernel)) (va_eqt (hs (Cond.eq (.length (.static "SecondWish" "LETTER" "[C")) (.int 6)) (by decide +kernel))) le hA
  exact ⟨tP, tL, va_Zref (hts (Cond.laysStatic "SecondWish" "PARENT" "[I") (List.mem_append_right _ (by decide +kernel))) hini e1 hA, va_Zref (hts (Cond.laysStatic "SecondWish" "LETTER" "[C") (List.mem_append_right _ (by decide +kernel))) hini e2 hA, h1, h2⟩
/-- the script's row laid over a memory -/
def ax_pt (xs : Nat → Int32) (I : ax_I) : ax_I := fun o => if o = 0 then xs else I o
theorem ax_pt0 (xs : Nat → Int32) (I : ax_I) : ax_pt xs I 0 = xs := if_pos rfl
theorem ax_ptn {xs : Nat → Int32} {I : ax_I} {o : Nat} (h : ¬ o = 0) : ax_pt xs I o = I o := if_neg h
def ax_g0 (H : Heap) (b tP tL : Nat) (cc : Nat → ClassId) (sl : Nat → Nat → Nat) (ar : Nat → ClassId) (L : Nat) (xs : Nat → Int32) : ax_G := (H, (fun o => match o with | 0 => b | 1 => tP | _ => tL), cc, sl, ar, L, ax_pt xs ax_z0)
theorem ax_K0 {s : State} {b L tP tL : Nat} {xs : Nat → Int32} {cc : Nat → ClassId} {sl : Nat → Nat → Nat} {ar : Nat → ClassId} (hts : ∀ w ∈ lw_tbl, w.before #[Value.ref b] s = true)
    (h2 : ∀ c, c < 10 → u_Kn s (ax_R c) (ax_T c) (ax_N c) (cc c) (sl c)) (h3 : ∀ t, 10 ≤ t → t < 18 → ArrOfT s (ar t) (ax_aty t) ∧ s.vm.findClass ("[" ++ (ax_aty t).toString) = some (ar t))
    (h4 : va_Z "SecondWish" "PARENT" "[I" (.ref tP) (fun q => s.heap.size ≤ q) s s.heap) (h5 : va_Z "SecondWish" "LETTER" "[C" (.ref tL) (fun q => s.heap.size ≤ q) s s.heap) (h6 : va_T .int tP 6 (fun j => .int (ax_pa j)) (fun q => s.heap.size ≤ q) s s.heap) (h7 : va_T .char tL 6 (fun j => .int (ax_le j)) (fun q => s.heap.size ≤ q) s s.heap)
    (hX : va_X b L xs s s.heap) (hbl : b < s.heap.size) : ax_K (ax_g0 s.heap b tP tL cc sl ar L xs) s := by
  refine ⟨fun a w hw hk => ax_word_warm (State.WarmedH.refl s) hk (hts w hw), h2, h3, h4, h5, ?_, h6, h7⟩
  obtain ⟨scr, g1, g2, g3, g4, g5⟩ := hX
  exact ⟨scr, g1, g2, g3, Nat.le_of_eq g4.symm, by rw [g4]; rfl, fun j hj => g5 j hj, Nat.not_le.mpr hbl⟩
