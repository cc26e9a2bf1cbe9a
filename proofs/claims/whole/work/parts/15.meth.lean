/-! what the tables say of each method -/
theorem ax_fm {ws is : List Nat} {f : Nat → Cond} (h : ws.map f = is.filterMap (fun i => lw_tbl[i]?)) : ∀ y ∈ ws, f y ∈ lw_tbl := fun y hy => by
  have h1 : f y ∈ ws.map f := List.mem_map.mpr ⟨y, hy, rfl⟩
  rw [h] at h1
  obtain ⟨i, -, hi⟩ := List.mem_filterMap.mp h1
  exact List.mem_of_getElem? hi
set_option maxRecDepth 100000 in
theorem ax_COe : ax_CO = [89, 77, 3, 4, 246, 64, 26, 57, 44, 0, 49, 244, 90, 136, 135, 54, 245, 91, 132, 137, 50, 51, 92, 93, 53] ++ ([94, 52, 95, 56, 96, 97, 133, 98, 65, 78, 70, 67, 66, 68, 69, 71, 72, 73, 74, 75, 76, 99, 79, 5, 6] ++ ([100, 80, 140, 87, 84, 86, 85, 15, 19, 21, 25, 23, 24, 101, 81, 141, 102, 18, 243, 22, 88, 20, 103, 104, 105] ++ ([139, 9, 8, 7, 11, 106, 12, 10, 107, 14, 108, 16, 109, 110, 134, 111, 112, 27, 28, 113, 29, 30, 32, 83, 31] ++ ([33, 34, 114, 35, 36, 115, 37, 38, 39, 55, 116, 45, 46, 47, 48, 117, 17, 118, 119, 1, 2, 120, 138, 58, 59] ++ ([61, 63, 62, 121, 60, 122, 82, 40, 123, 41, 42, 43, 144, 124, 125, 126, 127, 128, 13, 142, 143, 129, 130, 131, 145] ++ ([146, 147, 148, 153, 154, 149, 156, 158, 159, 162, 160, 152, 163, 161, 155, 164, 165, 166, 167, 169, 168, 170, 180, 179, 171] ++ ([175, 174, 177, 178, 176, 173, 181, 187, 185, 195, 182, 194, 188, 184, 193, 192, 191, 150, 197, 183, 196, 200, 151, 198, 199] ++ ([201, 202, 204, 203, 190, 189, 205, 208, 206, 209, 207, 210, 211, 212, 213, 186, 218, 217, 216, 214, 215, 172, 220, 219, 222] ++ ([221, 224, 223, 225, 226, 228, 227, 232, 229, 231, 230, 233, 234, 236, 235, 157, 237, 239, 238, 242, 240, 241]))))))))) := rfl
theorem ax_COm : ∀ y ∈ ax_CO, Cond.code (ax_nm y) (ax_by y) (ax_ml y) (ax_ret y) ∈ lw_tbl := by
  intro y hy
  rw [ax_COe] at hy
  rcases List.mem_append.mp hy with hz | hy
  · exact ax_fm ax_CO0 y hz
  rcases List.mem_append.mp hy with hz | hy
  · exact ax_fm ax_CO1 y hz
  rcases List.mem_append.mp hy with hz | hy
  · exact ax_fm ax_CO2 y hz
  rcases List.mem_append.mp hy with hz | hy
  · exact ax_fm ax_CO3 y hz
  rcases List.mem_append.mp hy with hz | hy
  · exact ax_fm ax_CO4 y hz
  rcases List.mem_append.mp hy with hz | hy
  · exact ax_fm ax_CO5 y hz
  rcases List.mem_append.mp hy with hz | hy
  · exact ax_fm ax_CO6 y hz
  rcases List.mem_append.mp hy with hz | hy
  · exact ax_fm ax_CO7 y hz
  rcases List.mem_append.mp hy with hz | hy
  · exact ax_fm ax_CO8 y hz
  exact ax_fm ax_CO9 y hy
def ax_mt (y : Nat) : Bool := decide (y ∈ ax_CO) && decide (ax_oy y ∈ ax_IN) && decide (ax_oc (ax_oy y) = (ax_nm y).cls) && (Nat.beq y 244 || Nat.beq y 245 || plainName (ax_nm y).cls) && decide ((ax_nm y).cls ≠ "java/lang/invoke/MethodHandle") && decide ((ax_nm y).cls ≠ "java/lang/invoke/VarHandle") &&
  decide (ax_ret y = (match ax_rk y with | 0 => none | 1 => some .int | 2 => some .long | _ => some .boolean)) && Nat.blt (ax_rk y) 4 && Nat.ble (ax_ml y) 20 && (match ax_st y with
    | 0 => decide (y ∈ ax_IM) && decide (y ∈ ax_SE) && decide ((parseMethodDescriptor (ax_nm y).desc).map (fun d => d.parameters.length + 1) = some (ax_na y))
    | 1 => decide (y ∈ ax_ST) && decide ((parseMethodDescriptor (ax_nm y).desc).map (fun d => d.parameters.length) = some (ax_na y))
    | 2 => decide (y ∈ ax_IM) && decide ((ax_nm y).name = "<init>") && decide (ax_ret y = none) && decide ((parseMethodDescriptor (ax_nm y).desc).map (fun d => d.parameters.length + 1) = some (ax_na y))
    | _ => true)
theorem ax_mt0 : ((List.range 90).all ax_mt) = true := by decide +kernel
theorem ax_mt1 : ((List.range 90).all fun y => ax_mt (90 + y)) = true := by decide +kernel
theorem ax_mt2 : ((List.range 67).all fun y => ax_mt (180 + y)) = true := by decide +kernel
theorem ax_mtok (y : Nat) (h : y < 247) : ax_mt y = true := by
  rcases Nat.lt_or_ge y 90 with q | q
  · exact ax_all ax_mt0 y q
  · rcases Nat.lt_or_ge y 180 with z | z
    · have := ax_all ax_mt1 (y - 90) (by omega)
      rw [show 90 + (y - 90) = y by omega] at this
      exact this
    · have := ax_all ax_mt2 (y - 180) (by omega)
      rw [show 180 + (y - 180) = y by omega] at this
      exact this
/-- of each method but the law's -/
theorem ax_mt_of {y : Nat} (h : y < 247) : (Cond.code (ax_nm y) (ax_by y) (ax_ml y) (ax_ret y) ∈ lw_tbl ∧ Cond.initialized (ax_nm y).cls ∈ lw_tbl ∧ ax_oc (ax_oy y) = (ax_nm y).cls ∧ ((y = 244 ∨ y = 245) ∨ plainName (ax_nm y).cls = true) ∧ ((ax_nm y).cls ≠ "java/lang/invoke/MethodHandle" ∧ (ax_nm y).cls ≠ "java/lang/invoke/VarHandle")) ∧
    (ax_ret y = (match ax_rk y with | 0 => none | 1 => some .int | 2 => some .long | _ => some .boolean) ∧ ax_rk y < 4 ∧ ax_ml y ≤ 20) ∧
    (ax_st y = 0 → Cond.instanceMethod (ax_nm y) ∈ lw_tbl ∧ Cond.selects (ax_nm y).cls (ax_nm y) (ax_nm y) ∈ lw_tbl ∧ (parseMethodDescriptor (ax_nm y).desc).map (fun d => d.parameters.length + 1) = some (ax_na y)) ∧
    (ax_st y = 1 → Cond.static (ax_nm y) ∈ lw_tbl ∧ (parseMethodDescriptor (ax_nm y).desc).map (fun d => d.parameters.length) = some (ax_na y)) ∧
    (ax_st y = 2 → Cond.instanceMethod (ax_nm y) ∈ lw_tbl ∧ (ax_nm y).name = "<init>" ∧ ax_ret y = none ∧ (parseMethodDescriptor (ax_nm y).desc).map (fun d => d.parameters.length + 1) = some (ax_na y)) := by
  have e := ax_mtok y h
  unfold ax_mt at e
  simp only [Bool.and_eq_true, Bool.or_eq_true, decide_eq_true_eq, Nat.blt_eq, Nat.ble_eq, Nat.beq_eq] at e
  obtain ⟨⟨⟨⟨⟨⟨⟨⟨⟨e1, e2⟩, e3⟩, e4⟩, e5⟩, e6⟩, e7⟩, e8⟩, e9⟩, e10⟩ := e
  have hin := ax_subl_in _ _ ax_INs _ (List.mem_map.mpr ⟨_, e2, rfl⟩)
  rw [e3] at hin
  refine ⟨⟨ax_COm y e1, hin, e3, e4, e5, e6⟩, ⟨e7, e8, e9⟩, fun hs => ?_, fun hs => ?_, fun hs => ?_⟩
  · rw [hs] at e10
    simp only [Bool.and_eq_true, decide_eq_true_eq] at e10
    exact ⟨ax_subl_in _ _ ax_IMs _ (List.mem_map.mpr ⟨y, e10.1.1, rfl⟩), ax_subl_in _ _ ax_SEs _ (List.mem_map.mpr ⟨y, e10.1.2, rfl⟩), e10.2⟩
  · rw [hs] at e10
    simp only [Bool.and_eq_true, decide_eq_true_eq] at e10
    exact ⟨ax_subl_in _ _ ax_STs _ (List.mem_map.mpr ⟨y, e10.1, rfl⟩), e10.2⟩
  · rw [hs] at e10
    simp only [Bool.and_eq_true, decide_eq_true_eq] at e10
    exact ⟨ax_subl_in _ _ ax_IMs _ (List.mem_map.mpr ⟨y, e10.1.1.1, rfl⟩), e10.1.1.2, e10.1.2, e10.2⟩
theorem ax_ML_of {y idx q : Nat} (h : (ax_oy y, idx, q) ∈ ax_ML) (ho : ax_oc (ax_oy y) = (ax_nm y).cls) : Cond.methodLink (ax_nm y).cls idx (ax_mn q) ∈ lw_tbl := by
  have h1 := ax_subl_in _ _ ax_MLs _ (List.mem_map.mpr ⟨_, h, rfl⟩)
  dsimp only at h1
  rw [ho] at h1
  exact h1
theorem ax_NL_of {y idx q : Nat} (h : (ax_oy y, idx, q) ∈ ax_NL) (ho : ax_oc (ax_oy y) = (ax_nm y).cls) : Cond.methodLinkNest (ax_nm y).cls idx (ax_mn q) "SecondWish" ∈ lw_tbl := by
  have h1 := ax_subl_in _ _ ax_NLs _ (List.mem_map.mpr ⟨_, h, rfl⟩)
  dsimp only at h1
  rw [ho] at h1
  exact h1
theorem ax_mn_lt {q : Nat} (h : q < 247) : ax_mn q = ax_nm q := by
  unfold ax_mn
  rw [show Nat.beq q 900 = false from by
    rcases hb : Nat.beq q 900 with _ | _
    · rfl
    · have := Nat.eq_of_beq_eq_true hb; omega, show Nat.beq q 901 = false from by
    rcases hb : Nat.beq q 901 with _ | _
    · rfl
    · have := Nat.eq_of_beq_eq_true hb; omega]
  rfl
theorem ax_copyw : Cond.native arraycopyName ∈ lw_tbl ∧ Cond.static arraycopyName ∈ lw_tbl ∧ Cond.initialized "java/lang/System" ∈ lw_tbl ∧ Cond.instanceMethod objectInit ∈ lw_tbl ∧ Cond.code objectInit ⟨#[0xb1]⟩ 1 none ∈ lw_tbl :=
  ⟨List.mem_of_getElem? (i := 466) rfl, List.mem_of_getElem? (i := 465) rfl, List.mem_of_getElem? (i := 90) rfl, List.mem_of_getElem? (i := 98) rfl, List.mem_of_getElem? (i := 99) rfl⟩
