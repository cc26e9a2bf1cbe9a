theorem sw_arm1 {y : Nat} {as : List ax_V} {I : ax_I} {L : ax_J} {P T : Int32 → ax_I → ax_J → Prop} (h : ax_CI 30 y as I L P) (hT : ∀ a I1 L1, I1 0 = I 0 → P a I1 L1 → T a I1 L1) : ax_CIW 30 y as I L T :=
  ax_Call.mono h (fun r m' hr row => by
    obtain ⟨x, e, h2⟩ := hr
    exact ⟨x, e, hT x _ _ row h2⟩)
theorem sw_arm1L {y : Nat} {as : List ax_V} {I : ax_I} {L : ax_J} {P T : Int64 → ax_I → ax_J → Prop} (h : ax_CL 30 y as I L P) (hT : ∀ a I1 L1, I1 0 = I 0 → P a I1 L1 → T a I1 L1) : ax_CLW 30 y as I L T :=
  ax_Call.mono h (fun r m' hr row => by
    obtain ⟨x, e, h2⟩ := hr
    exact ⟨x, e, hT x _ _ row h2⟩)
theorem sw_arm2 {z : Nat} {as : List ax_V} {I1 : ax_I} {L1 : ax_J} {x : Int32} {Z : ax_I → ax_J → Prop} {B : ax_I → ax_J → Prop} (h : ax_CI 30 z as I1 L1 (fun b I2 L2 => x = b ∧ sw_RR I2 L2)) (hZ : ∀ I2 L2, sw_RR I2 L2 → Z I2 L2) : ax_CIW 30 z as I1 L1 (fun x2 I2 L2 => (decide (x = x2) = true → Z I2 L2) ∧ (decide (x = x2) = false → B I2 L2)) :=
  sw_arm1 h (fun a I2 L2 _ hp => ⟨fun _ => hZ I2 L2 hp.2, fun q => absurd hp.1 (of_decide_eq_false q)⟩)
theorem sw_cmp0 (x : Int64) : lg_cmp x x = (0 : Int32) := by
  unfold lg_cmp
  simp
theorem sw_arm2L {z : Nat} {as : List ax_V} {I1 : ax_I} {L1 : ax_J} {x : Int64} {Z : ax_I → ax_J → Prop} {B : ax_I → ax_J → Prop} (h : ax_CL 30 z as I1 L1 (fun b I2 L2 => x = b ∧ sw_RR I2 L2)) (hZ : ∀ I2 L2, sw_RR I2 L2 → Z I2 L2) : ax_CLW 30 z as I1 L1 (fun x2 I2 L2 => (decide ((lg_cmp x x2) = (0 : Int32)) = true → Z I2 L2) ∧ (decide ((lg_cmp x x2) = (0 : Int32)) = false → B I2 L2)) :=
  sw_arm1L h (fun a I2 L2 _ hp => ⟨fun _ => hZ I2 L2 hp.2, fun q => absurd (by rw [hp.1]; exact sw_cmp0 a) (of_decide_eq_false q)⟩)
theorem sw_end {n0 i : Nat} (hn : n0 ≤ 384) (hi : i ≤ 1000) (h : decide (((nI n0) - 6) < nI i) = false) : i + 6 ≤ n0 := by
  have h := of_decide_eq_false h
  rcases Nat.lt_or_ge n0 6 with q | q
  · exfalso
    apply h
    have e : ∀ n : Nat, n < 6 → nI n - 6 < (0 : Int32) := by decide
    have e1 := Int32.lt_iff_toInt_lt.mp (e n0 q)
    refine Int32.lt_iff_toInt_lt.mpr ?_
    rw [ax_nI_toInt (show i < 2 ^ 31 by omega)]
    have e2 : (0 : Int32).toInt = 0 := rfl
    omega
  · rw [ax_n6, ax_nI_sub q, nI_ltI (by omega) (by omega)] at h
    omega
set_option maxRecDepth 100000 in
set_option maxHeartbeats 8000000 in
theorem sw_iter {n0 i : Nat} {I : ax_I} {L : ax_J} {Z : ax_S → Prop} (hn : n0 ≤ 384) (hi : i ≤ 1000) (h : sw_RR I L) (hZ : i + 6 ≤ n0 → ∀ I L, sw_RR I L → Z (18, [some (ax_vr 19 n0 0), some (ax_vr 8 0 3), some (ax_vr 9 0 184), some (ax_vi (nI i + 6))], [], ax_mm I L)) :
    ax_vs (ax_CaW 30) ax_c247 3 (ax_vc (ax_CaW 30) ax_c247 3 (fun pc => Nat.beq pc 18) Z (ax_ki (fun x _ _ => x = 1)) 71) (ax_ki (fun x _ _ => x = 1)) (18, [some (ax_vr 19 n0 0), some (ax_vr 8 0 3), some (ax_vr 9 0 184), some (ax_vi (nI i))], [], ax_mm I L) := by
  apply vw_law
  refine ⟨fun _ => ⟨rfl, rfl⟩, fun hb => ?_⟩
  have hb := sw_end hn hi hb
  have hz := hZ hb
  have g0 : ax_inb (nI i) n0 = true := ax_inb_nI (by omega) (by omega)
  have g1 : ax_inb (nI i + 1) n0 = true := by
    rw [show nI i + 1 = nI (i + 1) from (Int32.ofNat_add i 1).symm]; exact ax_inb_nI (by omega) (by omega)
  have g2 : ax_inb (nI i + 2) n0 = true := by
    rw [show nI i + 2 = nI (i + 2) from (Int32.ofNat_add i 2).symm]; exact ax_inb_nI (by omega) (by omega)
  have g3 : ax_inb (nI i + 3) n0 = true := by
    rw [show nI i + 3 = nI (i + 3) from (Int32.ofNat_add i 3).symm]; exact ax_inb_nI (by omega) (by omega)
  have g4 : ax_inb (nI i + 4) n0 = true := by
    rw [show nI i + 4 = nI (i + 4) from (Int32.ofNat_add i 4).symm]; exact ax_inb_nI (by omega) (by omega)
  have g5 : ax_inb (nI i + 5) n0 = true := by
    rw [show nI i + 5 = nI (i + 5) from (Int32.ofNat_add i 5).symm]; exact ax_inb_nI (by omega) (by omega)
  refine ⟨g0, ?_⟩
  refine ⟨fun _ => ⟨g1, g2, sw_arm1 (op_row h (I 0 (nI i + 1).toNatClampNeg) (I 0 (nI i + 2).toNatClampNeg) 0) (fun a I1 L1 row h2 => ⟨g1, g2, by rw [row]; exact sw_arm2 h2 hz⟩)⟩, fun _ => ?_⟩
  refine ⟨fun _ => ⟨g1, g2, g3, sw_arm1 (op_lay h (I 0 (nI i + 1).toNatClampNeg) (I 0 (nI i + 2).toNatClampNeg) (I 0 (nI i + 3).toNatClampNeg) 0) (fun a I1 L1 row h2 => ⟨g1, g2, g3, by rw [row]; exact sw_arm2 h2 hz⟩)⟩, fun _ => ?_⟩
  refine ⟨fun _ => ⟨g1, g2, sw_arm1 (op_at h (I 0 (nI i + 1).toNatClampNeg) (I 0 (nI i + 2).toNatClampNeg) 0) (fun a I1 L1 row h2 => ⟨g1, g2, by rw [row]; exact sw_arm2 h2 hz⟩)⟩, fun _ => ?_⟩
  refine ⟨fun _ => ⟨g1, sw_arm1 (op_tear h (I 0 (nI i + 1).toNatClampNeg) 0) (fun a I1 L1 row h2 => ⟨g1, by rw [row]; exact sw_arm2 h2 hz⟩)⟩, fun _ => ?_⟩
  refine ⟨fun _ => ⟨g1, g2, g3, g4, g5, sw_arm1 (op_copy h (I 0 (nI i + 1).toNatClampNeg) (I 0 (nI i + 2).toNatClampNeg) (I 0 (nI i + 3).toNatClampNeg) (I 0 (nI i + 4).toNatClampNeg) (I 0 (nI i + 5).toNatClampNeg) 0) (fun a I1 L1 row h2 => ⟨g1, g2, g3, g4, g5, by rw [row]; exact sw_arm2 h2 hz⟩)⟩, fun _ => ?_⟩
  refine ⟨fun _ => ⟨g1, sw_arm1 (op_mean h (I 0 (nI i + 1).toNatClampNeg) 0) (fun a I1 L1 row h2 => ⟨g1, by rw [row]; exact sw_arm2 h2 hz⟩)⟩, fun _ => ?_⟩
  refine ⟨fun _ => ⟨g1, g2, sw_arm1 (op_text h (I 0 (nI i + 1).toNatClampNeg) (I 0 (nI i + 2).toNatClampNeg) 0) (fun a I1 L1 row h2 => ⟨g1, g2, by rw [row]; exact sw_arm2 h2 hz⟩)⟩, fun _ => ?_⟩
  refine ⟨fun _ => ⟨g1, g2, g3, sw_arm1 (op_put h (I 0 (nI i + 1).toNatClampNeg) (I 0 (nI i + 2).toNatClampNeg) (I 0 (nI i + 3).toNatClampNeg) 0) (fun a I1 L1 row h2 => ⟨g1, g2, g3, by rw [row]; exact sw_arm2 h2 hz⟩)⟩, fun _ => ?_⟩
  refine ⟨fun _ => ⟨g1, sw_arm1 (op_fault h (I 0 (nI i + 1).toNatClampNeg) 0) (fun a I1 L1 row h2 => ⟨g1, by rw [row]; exact sw_arm2 h2 hz⟩)⟩, fun _ => ?_⟩
  refine ⟨fun _ => ⟨g1, sw_arm1 (op_town h (I 0 (nI i + 1).toNatClampNeg) 0) (fun a I1 L1 row h2 => ⟨g1, by rw [row]; exact sw_arm2 h2 hz⟩)⟩, fun _ => ?_⟩
  refine ⟨fun _ => ⟨g1, g2, sw_arm1 (op_one h (I 0 (nI i + 1).toNatClampNeg) (I 0 (nI i + 2).toNatClampNeg) 0) (fun a I1 L1 row h2 => ⟨g1, g2, by rw [row]; exact sw_arm2 h2 hz⟩)⟩, fun _ => ?_⟩
  refine ⟨fun _ => ⟨g1, g2, sw_arm1 (op_thing h (I 0 (nI i + 1).toNatClampNeg) (I 0 (nI i + 2).toNatClampNeg) 0) (fun a I1 L1 row h2 => ⟨g1, g2, by rw [row]; exact sw_arm2 h2 hz⟩)⟩, fun _ => ?_⟩
  refine ⟨fun _ => ⟨g1, g2, sw_arm1 (op_mark h (I 0 (nI i + 1).toNatClampNeg) (I 0 (nI i + 2).toNatClampNeg) 0) (fun a I1 L1 row h2 => ⟨g1, g2, by rw [row]; exact sw_arm2 h2 hz⟩)⟩, fun _ => ?_⟩
  refine ⟨fun _ => ⟨g1, g2, g3, sw_arm1 (op_want h (I 0 (nI i + 1).toNatClampNeg) (I 0 (nI i + 2).toNatClampNeg) (I 0 (nI i + 3).toNatClampNeg) 0) (fun a I1 L1 row h2 => ⟨g1, g2, g3, by rw [row]; exact sw_arm2 h2 hz⟩)⟩, fun _ => ?_⟩
  refine ⟨fun _ => ⟨g1, g2, g3, sw_arm1 (op_tell h (I 0 (nI i + 1).toNatClampNeg) (I 0 (nI i + 2).toNatClampNeg) (I 0 (nI i + 3).toNatClampNeg) 0) (fun a I1 L1 row h2 => ⟨g1, g2, g3, by rw [row]; exact sw_arm2 h2 hz⟩)⟩, fun _ => ?_⟩
  refine ⟨fun _ => ⟨g1, g2, sw_arm1 (op_say h (I 0 (nI i + 1).toNatClampNeg) (I 0 (nI i + 2).toNatClampNeg) 0) (fun a I1 L1 row h2 => ⟨g1, g2, by rw [row]; exact sw_arm2 h2 hz⟩)⟩, fun _ => ?_⟩
  refine ⟨fun _ => ⟨g1, sw_arm1 (op_undo h (I 0 (nI i + 1).toNatClampNeg) 0) (fun a I1 L1 row h2 => ⟨g1, by rw [row]; exact sw_arm2 h2 hz⟩)⟩, fun _ => ?_⟩
  refine ⟨fun _ => ⟨g1, sw_arm1 (op_can h (I 0 (nI i + 1).toNatClampNeg) 0) (fun a I1 L1 row h2 => ⟨g1, by rw [row]; exact sw_arm2 h2 hz⟩)⟩, fun _ => ?_⟩
  refine ⟨fun _ => ⟨g1, sw_arm1 (op_knows h (I 0 (nI i + 1).toNatClampNeg) 0) (fun a I1 L1 row h2 => ⟨g1, by rw [row]; exact sw_arm2 h2 hz⟩)⟩, fun _ => ?_⟩
  refine ⟨fun _ => sw_arm1 (op_dusk h  0) (fun a I1 L1 row h2 => sw_arm2 h2 hz), fun _ => ?_⟩
  refine ⟨fun _ => ⟨g1, sw_arm1 (op_keep h (I 0 (nI i + 1).toNatClampNeg) 0) (fun a I1 L1 row h2 => ⟨g1, by rw [row]; exact sw_arm2 h2 hz⟩)⟩, fun _ => ?_⟩
  refine ⟨fun _ => ⟨g1, sw_arm1 (op_on h (I 0 (nI i + 1).toNatClampNeg) 0) (fun a I1 L1 row h2 => ⟨g1, by rw [row]; exact sw_arm2 h2 hz⟩)⟩, fun _ => ?_⟩
  refine ⟨fun _ => ⟨g1, sw_arm1 (op_best h (I 0 (nI i + 1).toNatClampNeg) 0) (fun a I1 L1 row h2 => ⟨g1, by rw [row]; exact sw_arm2 h2 hz⟩)⟩, fun _ => ?_⟩
  refine ⟨fun _ => ⟨g1, g2, g3, sw_arm1 (op_plays h (I 0 (nI i + 1).toNatClampNeg) (I 0 (nI i + 2).toNatClampNeg) (I 0 (nI i + 3).toNatClampNeg) 0) (fun a I1 L1 row h2 => ⟨g1, g2, g3, by rw [row]; exact sw_arm2 h2 hz⟩)⟩, fun _ => ?_⟩
  refine ⟨fun _ => ⟨g1, g2, sw_arm1 (op_sure h (I 0 (nI i + 1).toNatClampNeg) (I 0 (nI i + 2).toNatClampNeg) 0) (fun a I1 L1 row h2 => ⟨g1, g2, by rw [row]; exact sw_arm2 h2 hz⟩)⟩, fun _ => ?_⟩
  refine ⟨fun _ => ⟨g1, g2, g3, sw_arm1 (op_fewest h (I 0 (nI i + 1).toNatClampNeg) (I 0 (nI i + 2).toNatClampNeg) (I 0 (nI i + 3).toNatClampNeg) 0) (fun a I1 L1 row h2 => ⟨g1, g2, g3, by rw [row]; exact sw_arm2 h2 hz⟩)⟩, fun _ => ?_⟩
  refine ⟨fun _ => ⟨g1, sw_arm1 (op_match h (I 0 (nI i + 1).toNatClampNeg) 0) (fun a I1 L1 row h2 => ⟨g1, by rw [row]; exact sw_arm2 h2 hz⟩)⟩, fun _ => ?_⟩
  refine ⟨fun _ => ⟨g1, g2, sw_arm1 (op_safe h (I 0 (nI i + 1).toNatClampNeg) (I 0 (nI i + 2).toNatClampNeg) 0) (fun a I1 L1 row h2 => ⟨g1, g2, by rw [row]; exact sw_arm2 h2 hz⟩)⟩, fun _ => ?_⟩
  refine ⟨fun _ => ⟨g1, sw_arm1 (op_price h (I 0 (nI i + 1).toNatClampNeg) 0) (fun a I1 L1 row h2 => ⟨g1, by rw [row]; exact sw_arm2 h2 hz⟩)⟩, fun _ => ?_⟩
  refine ⟨fun _ => sw_arm1 (op_rounds h  0) (fun a I1 L1 row h2 => sw_arm2 h2 hz), fun _ => ?_⟩
  refine ⟨fun _ => ⟨g1, g2, sw_arm1 (op_said h (I 0 (nI i + 1).toNatClampNeg) (I 0 (nI i + 2).toNatClampNeg) 0) (fun a I1 L1 row h2 => ⟨g1, g2, by rw [row]; exact sw_arm2 h2 hz⟩)⟩, fun _ => ?_⟩
  refine ⟨fun _ => ⟨g1, g2, sw_arm1 (op_firsts h (I 0 (nI i + 1).toNatClampNeg) (I 0 (nI i + 2).toNatClampNeg) 0) (fun a I1 L1 row h2 => ⟨g1, g2, by rw [row]; exact sw_arm2 h2 hz⟩)⟩, fun _ => ?_⟩
  refine ⟨fun _ => ⟨g1, sw_arm1 (op_judge h (I 0 (nI i + 1).toNatClampNeg) 0) (fun a I1 L1 row h2 => ⟨g1, by rw [row]; exact sw_arm2 h2 hz⟩)⟩, fun _ => ?_⟩
  refine ⟨fun _ => ⟨g1, g2, g3, sw_arm1 (op_odds h (I 0 (nI i + 1).toNatClampNeg) (I 0 (nI i + 2).toNatClampNeg) (I 0 (nI i + 3).toNatClampNeg) 0) (fun a I1 L1 row h2 => ⟨g1, g2, g3, by rw [row]; exact sw_arm2 h2 hz⟩)⟩, fun _ => ?_⟩
  refine ⟨fun _ => ⟨g1, g2, sw_arm1 (op_lots h (I 0 (nI i + 1).toNatClampNeg) (I 0 (nI i + 2).toNatClampNeg) 0) (fun a I1 L1 row h2 => ⟨g1, g2, by rw [row]; exact sw_arm2 h2 hz⟩)⟩, fun _ => ?_⟩
  refine ⟨fun _ => sw_arm1 (op_asked h  0) (fun a I1 L1 row h2 => sw_arm2 h2 hz), fun _ => ?_⟩
  refine ⟨fun _ => sw_arm1L (op_upper h  0) (fun a I1 L1 row h2 => sw_arm2L h2 hz), fun _ => ?_⟩
  refine ⟨fun _ => sw_arm1L (op_lower h  0) (fun a I1 L1 row h2 => sw_arm2L h2 hz), fun _ => ?_⟩
  refine ⟨fun _ => ⟨g1, sw_arm1 (op_count h (I 0 (nI i + 1).toNatClampNeg) 0) (fun a I1 L1 row h2 => ⟨g1, by rw [row]; exact sw_arm2 h2 hz⟩)⟩, fun _ => ?_⟩
  refine ⟨fun _ => sw_arm1 (op_finding h  0) (fun a I1 L1 row h2 => sw_arm2 h2 hz), fun _ => ?_⟩
  refine ⟨fun _ => ⟨g1, sw_arm1 (op_findings h (I 0 (nI i + 1).toNatClampNeg) 0) (fun a I1 L1 row h2 => ⟨g1, by rw [row]; exact sw_arm2 h2 hz⟩)⟩, fun _ => ?_⟩
  refine ⟨fun _ => sw_arm1L (op_digest h  0) (fun a I1 L1 row h2 => sw_arm2L h2 hz), fun _ => ?_⟩
  exact hz I L h
/-- the law's loop, from any place: it comes to its end with true -/
theorem sw_loop {p : Program} {l : Launch} {e : Env} {R : Room} {s : State} {mt : MethodId} {args : Array Value} {below : List Frame} {meth : Method} {c : Code} {Q : State → Prop} {G : ax_G} {c0 : Nat} {RT : Option ax_V → ax_M → Prop}
    (C : ax_Cx p s mt meth c R G 247 30 c0 212) (hR : ax_RH p l e R s mt args below meth c Q G c0 247 RT) (hck : ∀ pc, ax_ck1 247 pc = true) (hall : ∀ y, y < 247 → ∀ pc, ax_ck1 y pc = true)
    (hRT : ∀ mm : ax_M, mm.1 = 212 → RT (some (ax_vi 1)) mm) {n0 : Nat} (hn : n0 ≤ 384) : ∀ (k i : Nat) (I : ax_I) (L : ax_J), n0 < i + 6 * k + 6 → i ≤ 1000 → sw_RR I L →
      ax_WW p l e R s mt args below meth c Q G c0 (ax_ml 247) (18, [some (ax_vr 19 n0 0), some (ax_vr 8 0 3), some (ax_vr 9 0 184), some (ax_vi (nI i))], [], ax_mm I L) := by
  have hK : ∀ (v : Option ax_V) (mm : ax_M), ax_SD mm → ax_ki (fun x _ _ => x = 1) v mm.2.1 mm.2.2.1 → RT v mm := by
    intro v mm hs hv
    rcases v with _ | x | x | x
    · exact hv.elim
    · have hv : x = 1 := hv
      subst hv
      exact hRT mm hs.1
    · exact hv.elim
    · exact hv.elim
  intro k
  induction k with
  | zero =>
    intro i I L h1 h2 h3
    exact ax_vsW (y := 247) C hR hck hall hK (ax_vcW (y := 247) C hR hck hall hK 71) ⟨rfl, rfl⟩ (sw_iter hn h2 h3 (fun z => by omega))
  | succ k ih =>
    intro i I L h1 h2 h3
    refine ax_vsW (y := 247) C hR hck hall hK (ax_vcW (y := 247) C hR hck hall hK 71) ⟨rfl, rfl⟩ (sw_iter hn h2 h3 (fun z I L hr => ?_))
    rw [show nI i + 6 = nI (i + 6) from (Int32.ofNat_add i 6).symm]
    exact ih (i + 6) I L (by omega) (by omega) hr
