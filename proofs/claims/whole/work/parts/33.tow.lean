/-! needs: 21a 21b 21f 30 31 32 -/
/-! the class's Town and Day, what is only read -/
theorem ax_sb_0 {p : Nat → Bool} {w : Nat} {a : Int32} (h : p w = false) : ax_sb p w a = a := ax_sb_f (by rw [h]; decide)
theorem cl_holding {d o o0 N T : Nat} {kd : Nat → Nat} {tl un : Nat → Int32} {W : Nat → Nat → Nat} {G : sw_G} {I : ax_I} {L : ax_J} {K : Int32 → ax_I → ax_J → Prop} (hT : sw_TP I o0 N T kd tl un) (hD : sw_DA I o W G) (hR : ∀ v, v ∈ G.2.2 → v < 6) (hl : G.2.2.length ≤ 6) (hK : K (sw_hd un G.2.2) I L) : ax_CI (d + 1) 23 [ax_vr 1 0 o, ax_vr 7 0 o0] I L K := by
  obtain ⟨h1, h2, h3, h4, h5⟩ := hD
  obtain ⟨t1, t2, t3, t4, t5⟩ := hT
  apply vc_X1_holding
  rw [h4]
  suffices ∀ (R : List Nat) (b2 b3 : Int32) (z : Option ax_V), (∀ v, v ∈ R → v < 6) → R.length ≤ 6 → sw_or (I (o + 12)) R → K (sw_hu un R (b2, b3)).1 I L → ax_AK d 23 (12, [some (ax_vr 1 0 o), some (ax_vr 7 0 o0), some (ax_vi b2), some (ax_vi b3), some (ax_vi (nI R.length - 1)), z], [], ax_mm I L) (ax_ki K) from this G.2.2 0 0 none hR hl h5 hK
  intro R
  induction R with
  | nil =>
    intro b2 b3 z _ _ _ hK
    apply vc_X1_holding_12
    have : (nI ([] : List Nat).length - 1 : Int32) < 0 := by decide
    exact ⟨fun _ => hK, fun q => absurd this (of_decide_eq_false q)⟩
  | cons v R ih =>
    intro b2 b3 z hR hl ho hK
    apply vc_X1_holding_12
    have hv := hR v List.mem_cons_self
    have hl2 : R.length + 1 ≤ 6 := hl
    have e : nI (v :: R).length - 1 = nI R.length := nI_pred R.length
    have ho1 : I (o + 12) R.length = nI v := ho.1
    rw [e]
    have e2 : nI R.length + (-1) = nI R.length - 1 := (Int32.sub_eq_add_neg _ _).symm
    rw [e2]
    simp (disch := omega) only [Bool.not_eq_false, Bool.not_eq_true, decide_eq_true_eq, decide_eq_false_iff_not, Bool.not_eq_true', Bool.not_eq_false', ax_lle, ax_llt, ax_lel, ax_ltl, ax_leq, ax_eql, ax_clampl, ax_inb_iff, nI_clamp, nI_1, nI_leI, nI_ltI, nI_eq, ax_b0, ax_b1, ax_bitb, ax_ui_eq, ax_ui_ne, true_and, and_true, ho1, t5 v hv, ax_bt_ask0]
    have hK : K (sw_hu un R (if ax_bt b3 v then (b2, b3) else (b2 ||| (1 : Int32) <<< (nI v &&& 31), b3 ||| un v))).1 I L := hK
    refine ⟨fun q => by omega, fun _ => ⟨by omega, fun q => ?_, fun q => ⟨by omega, ?_⟩⟩⟩
    · rw [if_pos q] at hK
      exact ih _ _ _ (fun u hu => hR u (List.mem_cons_of_mem _ hu)) (by omega) ho.2 hK
    · rw [if_neg (by rw [q]; decide)] at hK
      exact ih _ _ _ (fun u hu => hR u (List.mem_cons_of_mem _ hu)) (by omega) ho.2 hK
theorem cl_worthOf {d o x : Nat} {m : Int32} {W : Nat → Nat → Nat} {G : sw_G} {I : ax_I} {L : ax_J} {K : Int32 → ax_I → ax_J → Prop} (hD : sw_DA I o W G) (hx : x < 6) (hK : K (nI (ax_it (fun w a => if ax_bt m w then a + W x w else a) 6 0 0)) I L) : ax_CI (d + 1) 24 [ax_vr 1 0 o, ax_vi (nI x), ax_vi m] I L K := by
  obtain ⟨h1, h2, h3, h4, h5⟩ := hD
  apply vc_X1_worthOf
  suffices ∀ (n w : Nat) (acc : Nat), w + n = 6 → K (nI (ax_it (fun w a => if ax_bt m w then a + W x w else a) n w acc)) I L → ax_AK d 24 (5, [some (ax_vr 1 0 o), some (ax_vi (nI x)), some (ax_vi m), some (ax_vi (nI acc)), some (ax_vi (nI w))], [], ax_mm I L) (ax_ki K) from this (6) 0 (0) (by omega) hK
  intro n
  induction n with
  | zero =>
    intro w acc hw hK
    apply vc_X1_worthOf_5
    simp (disch := omega) only [Bool.not_eq_false, Bool.not_eq_true, decide_eq_true_eq, decide_eq_false_iff_not, Bool.not_eq_true', Bool.not_eq_false', ax_lle, ax_llt, ax_lel, ax_ltl, ax_leq, ax_eql, ax_clampl, ax_inb_iff, nI_clamp, nI_1, nI_leI, nI_ltI, nI_eq, ax_b0, ax_b1, ax_bitb, ax_ui_eq, ax_ui_ne, true_and, and_true, ax_bt_ask0]
    exact ⟨fun _ => hK, fun h => by omega⟩
  | succ n ih =>
    intro w acc hw hK
    apply vc_X1_worthOf_5
    simp (disch := omega) only [Bool.not_eq_false, Bool.not_eq_true, decide_eq_true_eq, decide_eq_false_iff_not, Bool.not_eq_true', Bool.not_eq_false', ax_lle, ax_llt, ax_lel, ax_ltl, ax_leq, ax_eql, ax_clampl, ax_inb_iff, nI_clamp, nI_1, nI_leI, nI_ltI, nI_eq, ax_b0, ax_b1, ax_bitb, ax_ui_eq, ax_ui_ne, true_and, and_true, ax_bt_ask0]
    refine ⟨fun h => by omega, fun _ => ?_⟩
    replace hK : K (nI (ax_it (fun w a => if ax_bt m w then a + W x w else a) n (w + 1) ((fun w a => if ax_bt m w then a + W x w else a) w acc))) I L := hK
    try dsimp only at hK
    refine ⟨fun q => ih _ _ (by omega) ?_, fun q => ⟨by omega, by omega, ?_⟩⟩
    · rw [if_neg (by rw [q]; decide)] at hK; exact hK
    · rw [h1 x hx w (by omega), nI_add]
      refine ih _ _ (by omega) ?_
      rw [if_pos q] at hK; exact hK
theorem cl_hasOf {d o x : Nat} {W : Nat → Nat → Nat} {G : sw_G} {I : ax_I} {L : ax_J} {K : Int32 → ax_I → ax_J → Prop} (hD : sw_DA I o W G) (hK : K (ax_ms 6 (fun w => decide (G.2.1 w = nI x))) I L) : ax_CI (d + 2) 19 [ax_vr 1 0 o, ax_vi (nI x)] I L K := by
  apply vc_X1_hasOf
  refine cl_thingsWith (by omega) (by omega) ?_
  have e : ax_ms 6 (fun w => decide (I (o + 9) w = nI x)) = ax_ms 6 (fun w => decide (G.2.1 w = nI x)) := by
    exact ax_ms_congr (fun i hi => by rw [hD.2.2.1 i (by omega)])
  rw [e]; exact hK
theorem cl_firstOf {d o x : Nat} {W : Nat → Nat → Nat} {G : sw_G} {I : ax_I} {L : ax_J} {K : Int32 → ax_I → ax_J → Prop} (hD : sw_DA I o W G) (hK : K (ax_ms 6 (fun w => decide (G.1 w = nI x))) I L) : ax_CI (d + 2) 18 [ax_vr 1 0 o, ax_vi (nI x)] I L K := by
  apply vc_X1_firstOf
  refine cl_thingsWith (by omega) (by omega) ?_
  have e : ax_ms 6 (fun w => decide (I (o + 8) w = nI x)) = ax_ms 6 (fun w => decide (G.1 w = nI x)) := by
    exact ax_ms_congr (fun i hi => by rw [hD.2.1 i (by omega)])
  rw [e]; exact hK
theorem sw_gn_eq {W : Nat → Nat → Nat} {un : Nat → Int32} {G : sw_G} {x : Nat} : ax_it (fun w a => if ax_bt (ax_ms 6 (fun w => decide (G.2.1 w = nI x)) &&& sw_hd un G.2.2) w then a + W x w else a) 6 0 0 = sw_gn W un G x := by
  refine ax_it_congr 6 0 0 (fun i a h1 h2 => ?_)
  rw [ax_bt_and, ax_bt_ms (by omega), decide_eq_true (by omega), Bool.true_and, Bool.and_comm]
theorem cl_gainOf {d o o0 x N T : Nat} {kd : Nat → Nat} {tl un : Nat → Int32} {W : Nat → Nat → Nat} {G : sw_G} {I : ax_I} {L : ax_J} {K : Int32 → ax_I → ax_J → Prop} (hT : sw_TP I o0 N T kd tl un) (hD : sw_DA I o W G) (hR : ∀ v, v ∈ G.2.2 → v < 6) (hl : G.2.2.length ≤ 6) (hx : x < 6) (hK : K (nI (sw_gn W un G x)) I L) : ax_CI (d + 3) 25 [ax_vr 1 0 o, ax_vr 7 0 o0, ax_vi (nI x)] I L K := by
  apply vc_X1_gainOf
  refine cl_hasOf hD ?_
  refine cl_holding hT hD hR hl ?_
  refine cl_worthOf hD hx ?_
  rw [sw_gn_eq]; exact hK
theorem cl_allOf {d o k N T : Nat} {kd : Nat → Nat} {tl un : Nat → Int32} {I : ax_I} {L : ax_J} {K : Int32 → ax_I → ax_J → Prop} (hs : sw_ST I) (hT : sw_TP I o N T kd tl un) (hg : sw_TG N T kd tl un) (hk : 1 ≤ k) (hk5 : k ≤ 5) (hK : K (ax_ms N (fun x => sw_ko (kd x) k)) I L) : ax_CI (d + 2) 85 [ax_vr 7 0 o, ax_vi (nI k)] I L K := by
  have hN := hg.1
  apply vc_X7_allOf
  suffices ∀ (n w : Nat) (acc : Int32), w + n = N → K (ax_it (ax_sb (fun x => sw_ko (kd x) k)) n w acc) I L → ax_AK ((d + 1)) 85 (4, [some (ax_vr 7 0 o), some (ax_vi (nI k)), some (ax_vi acc), some (ax_vi (nI w))], [], ax_mm I L) (ax_ki K) from this (N) 0 (0) (by omega) hK
  intro n
  induction n with
  | zero =>
    intro w acc hw hK
    apply vc_X7_allOf_4
    simp (disch := omega) only [Bool.not_eq_false, Bool.not_eq_true, decide_eq_true_eq, decide_eq_false_iff_not, Bool.not_eq_true', Bool.not_eq_false', ax_lle, ax_llt, ax_lel, ax_ltl, ax_leq, ax_eql, ax_clampl, ax_inb_iff, nI_clamp, nI_1, nI_leI, nI_ltI, nI_eq, ax_b0, ax_b1, ax_bitb, ax_ui_eq, ax_ui_ne, true_and, and_true, hT.1]
    exact ⟨fun _ => hK, fun h => by omega⟩
  | succ n ih =>
    intro w acc hw hK
    apply vc_X7_allOf_4
    simp (disch := omega) only [Bool.not_eq_false, Bool.not_eq_true, decide_eq_true_eq, decide_eq_false_iff_not, Bool.not_eq_true', Bool.not_eq_false', ax_lle, ax_llt, ax_lel, ax_ltl, ax_leq, ax_eql, ax_clampl, ax_inb_iff, nI_clamp, nI_1, nI_leI, nI_ltI, nI_eq, ax_b0, ax_b1, ax_bitb, ax_ui_eq, ax_ui_ne, true_and, and_true, hT.1]
    refine ⟨fun h => by omega, fun _ => ?_⟩
    replace hK : K (ax_it (ax_sb (fun x => sw_ko (kd x) k)) n (w + 1) ((ax_sb (fun x => sw_ko (kd x) k)) w acc)) I L := hK
    try dsimp only at hK
    refine cl_isOf hs (by omega) (hT.2.2.1 w (by omega)) (hg.2.2.2.1 w (by omega)) hk hk5 ?_
    simp (disch := omega) only [Bool.not_eq_false, Bool.not_eq_true, decide_eq_true_eq, decide_eq_false_iff_not, Bool.not_eq_true', Bool.not_eq_false', ax_lle, ax_llt, ax_lel, ax_ltl, ax_leq, ax_eql, ax_clampl, ax_inb_iff, nI_clamp, nI_1, nI_leI, nI_ltI, nI_eq, ax_b0, ax_b1, ax_bitb, ax_ui_eq, ax_ui_ne, true_and, and_true]
    refine ⟨fun q => ih _ _ (by omega) ?_, fun q => ih _ _ (by omega) ?_⟩
    · rw [ax_sb_0 (p := fun x => sw_ko (kd x) k) q] at hK; exact hK
    · rw [ax_sb_t (p := fun x => sw_ko (kd x) k) q] at hK; exact hK
theorem cl_othersThan {d o x N T : Nat} {kd : Nat → Nat} {tl un : Nat → Int32} {I : ax_I} {L : ax_J} {K : Int32 → ax_I → ax_J → Prop} (hT : sw_TP I o N T kd tl un) (hN : N ≤ 6) (hx : x < 6) (hK : K (ax_ms 6 (fun y => decide (y < N) && !decide (y = x))) I L) : ax_CI (d + 1) 86 [ax_vr 7 0 o, ax_vi (nI x)] I L K := by
  apply vc_X7_othersThan
  rw [hT.1]
  have e : ((1 : Int32) <<< (nI N &&& 31) - 1) &&& ((1 : Int32) <<< (nI x &&& 31) ^^^ (-1)) = ax_ms 6 (fun y => decide (y < N) && !decide (y = x)) := by
    apply ax_bt_ext
    intro i hi
    rw [ax_bt_and, ax_bt_xor, ax_bt_m1 hi, ax_bt_low (by omega) hi, ax_bt_sh (by omega) hi, ax_bt_ms (by omega), Bool.xor_true]
    by_cases q : i < N
    · simp [q, show i < 6 by omega]
    · simp [q]
  rw [e]; exact hK
theorem cl_hearersOf {d o x N T : Nat} {kd : Nat → Nat} {tl un : Nat → Int32} {I : ax_I} {L : ax_J} {K : Int32 → ax_I → ax_J → Prop} (hs : sw_ST I) (hT : sw_TP I o N T kd tl un) (hg : sw_TG N T kd tl un) (hx : x < N) (hK : K (sw_hr N kd tl x) I L) : ax_CI (d + 3) 87 [ax_vr 7 0 o, ax_vi (nI x)] I L K := by
  have hN := hg.1
  apply vc_X7_hearersOf
  refine cl_isOf (k := 2) hs (by omega) (hT.2.2.1 x (by omega)) (hg.2.2.2.1 x (by omega)) (by omega) (by omega) ?_
  simp (disch := omega) only [Bool.not_eq_false, Bool.not_eq_true, decide_eq_true_eq, decide_eq_false_iff_not, Bool.not_eq_true', Bool.not_eq_false', ax_lle, ax_llt, ax_lel, ax_ltl, ax_leq, ax_eql, ax_clampl, ax_inb_iff, nI_clamp, nI_1, nI_leI, nI_ltI, nI_eq, ax_b0, ax_b1, ax_bitb, ax_ui_eq, ax_ui_ne, true_and, and_true]
  refine ⟨fun q => ?_, fun q => ?_⟩
  · refine cl_isOf (k := 1) hs (by omega) (hT.2.2.1 x (by omega)) (hg.2.2.2.1 x (by omega)) (by omega) (by omega) ?_
    simp (disch := omega) only [Bool.not_eq_false, Bool.not_eq_true, decide_eq_true_eq, decide_eq_false_iff_not, Bool.not_eq_true', Bool.not_eq_false', ax_lle, ax_llt, ax_lel, ax_ltl, ax_leq, ax_eql, ax_clampl, ax_inb_iff, nI_clamp, nI_1, nI_leI, nI_ltI, nI_eq, ax_b0, ax_b1, ax_bitb, ax_ui_eq, ax_ui_ne, true_and, and_true]
    refine ⟨fun q1 => ⟨by omega, ?_⟩, fun q1 => ?_⟩
    · refine cl_allOf (k := 3) hs hT hg (by omega) (by omega) ?_
      refine cl_othersThan hT hN (by omega) ?_
      have e : (I (o + 2) x ||| ax_ms N (fun x => sw_ko (kd x) 3)) &&& ax_ms 6 (fun y => decide (y < N) && !decide (y = x)) = sw_hr N kd tl x := by
        apply ax_bt_ext
        intro i hi
        unfold sw_hr
        rw [ax_bt_and, ax_bt_or, ax_bt_ms (by omega), ax_bt_ms (by omega), ax_bt_ms (by omega)]
        unfold sw_hp
        rw [q, q1]
        by_cases z : i < N
        · have : sw_ko (kd i) 3 = decide (kd i = 3) := by
            have := hg.2.2.2.1 i z
            simp [sw_ko]
          rw [this]
          by_cases zx : i = x
          · simp [zx]
          · rw [hT.2.2.2.1 x hx i z zx]
            simp [z, zx, show i < 6 by omega, Bool.and_comm, Bool.and_left_comm]
        · simp [z]
      rw [e]; exact hK
    · have e : (0 : Int32) = sw_hr N kd tl x := by
        apply ax_bt_ext
        intro i hi
        unfold sw_hr sw_hp
        rw [ax_bt_0, ax_bt_ms (by omega), q, q1]
        simp
      rw [e]; exact hK
  · refine cl_othersThan hT hN (by omega) ?_
    have e : ax_ms 6 (fun y => decide (y < N) && !decide (y = x)) = sw_hr N kd tl x := by
      refine ax_ms_congr (fun i hi => ?_)
      unfold sw_hp
      rw [q]
      simp
    rw [e]; exact hK
theorem cl_heardBy {d o y N T : Nat} {kd : Nat → Nat} {tl un : Nat → Int32} {I : ax_I} {L : ax_J} {K : Int32 → ax_I → ax_J → Prop} (hs : sw_ST I) (hT : sw_TP I o N T kd tl un) (hg : sw_TG N T kd tl un) (hy : y < 6) (hK : K (nI (ax_it (fun x a => if sw_hp N kd tl x y then a + 1 else a) N 0 0)) I L) : ax_CI (d + 4) 88 [ax_vr 7 0 o, ax_vi (nI y)] I L K := by
  have hN := hg.1
  apply vc_X7_heardBy
  suffices ∀ (n w : Nat) (acc : Nat), w + n = N → K (nI (ax_it (fun x a => if sw_hp N kd tl x y then a + 1 else a) n w acc)) I L → ax_AK ((d + 3)) 88 (4, [some (ax_vr 7 0 o), some (ax_vi (nI y)), some (ax_vi (nI acc)), some (ax_vi (nI w))], [], ax_mm I L) (ax_ki K) from this (N) 0 (0) (by omega) hK
  intro n
  induction n with
  | zero =>
    intro w acc hw hK
    apply vc_X7_heardBy_4
    simp (disch := omega) only [Bool.not_eq_false, Bool.not_eq_true, decide_eq_true_eq, decide_eq_false_iff_not, Bool.not_eq_true', Bool.not_eq_false', ax_lle, ax_llt, ax_lel, ax_ltl, ax_leq, ax_eql, ax_clampl, ax_inb_iff, nI_clamp, nI_1, nI_leI, nI_ltI, nI_eq, ax_b0, ax_b1, ax_bitb, ax_ui_eq, ax_ui_ne, true_and, and_true, hT.1]
    exact ⟨fun _ => hK, fun h => by omega⟩
  | succ n ih =>
    intro w acc hw hK
    apply vc_X7_heardBy_4
    simp (disch := omega) only [Bool.not_eq_false, Bool.not_eq_true, decide_eq_true_eq, decide_eq_false_iff_not, Bool.not_eq_true', Bool.not_eq_false', ax_lle, ax_llt, ax_lel, ax_ltl, ax_leq, ax_eql, ax_clampl, ax_inb_iff, nI_clamp, nI_1, nI_leI, nI_ltI, nI_eq, ax_b0, ax_b1, ax_bitb, ax_ui_eq, ax_ui_ne, true_and, and_true, hT.1]
    refine ⟨fun h => by omega, fun _ => ?_⟩
    replace hK : K (nI (ax_it (fun x a => if sw_hp N kd tl x y then a + 1 else a) n (w + 1) ((fun x a => if sw_hp N kd tl x y then a + 1 else a) w acc))) I L := hK
    try dsimp only at hK
    refine cl_hearersOf hs hT hg (by omega) ?_
    rw [ax_bt_ask (by omega)]
    unfold sw_hr
    rw [ax_bt_ms (by omega), decide_eq_true (by omega : y < 6), Bool.true_and]
    cases q : sw_hp N kd tl w y with
    | true =>
      rw [if_pos q] at hK
      rw [if_pos rfl, nI_1]
      exact ih _ _ (by omega) hK
    | false =>
      rw [if_neg (by rw [q]; decide)] at hK
      rw [if_neg (by decide), Int32.add_zero]
      exact ih _ _ (by omega) hK
theorem cl_waiting {d o : Nat} {W : Nat → Nat → Nat} {G : sw_G} {I : ax_I} {L : ax_J} {K : Int32 → ax_I → ax_J → Prop} (hD : sw_DA I o W G) (hK : K (nI (ax_it (fun w a => if (!decide (G.1 w = -9) && decide (G.2.1 w = -9)) = true then a + 1 else a) 6 0 0)) I L) : ax_CI (d + 2) 13 [ax_vr 1 0 o] I L K := by
  apply vc_X1_waiting
  suffices ∀ (n w : Nat) (acc : Nat), w + n = 6 → K (nI (ax_it (fun w a => if (!decide (G.1 w = -9) && decide (G.2.1 w = -9)) = true then a + 1 else a) n w acc)) I L → ax_AK ((d + 1)) 13 (4, [some (ax_vr 1 0 o), some (ax_vi (nI acc)), some (ax_vi (nI w))], [], ax_mm I L) (ax_ki K) from this (6) 0 (0) (by omega) hK
  intro n
  induction n with
  | zero =>
    intro w acc hw hK
    apply vc_X1_waiting_4
    simp (disch := omega) only [Bool.not_eq_false, Bool.not_eq_true, decide_eq_true_eq, decide_eq_false_iff_not, Bool.not_eq_true', Bool.not_eq_false', ax_lle, ax_llt, ax_lel, ax_ltl, ax_leq, ax_eql, ax_clampl, ax_inb_iff, nI_clamp, nI_1, nI_leI, nI_ltI, nI_eq, ax_b0, ax_b1, ax_bitb, ax_ui_eq, ax_ui_ne, true_and, and_true]
    exact ⟨fun _ => hK, fun h => by omega⟩
  | succ n ih =>
    intro w acc hw hK
    apply vc_X1_waiting_4
    simp (disch := omega) only [Bool.not_eq_false, Bool.not_eq_true, decide_eq_true_eq, decide_eq_false_iff_not, Bool.not_eq_true', Bool.not_eq_false', ax_lle, ax_llt, ax_lel, ax_ltl, ax_leq, ax_eql, ax_clampl, ax_inb_iff, nI_clamp, nI_1, nI_leI, nI_ltI, nI_eq, ax_b0, ax_b1, ax_bitb, ax_ui_eq, ax_ui_ne, true_and, and_true]
    refine ⟨fun h => by omega, fun _ => ?_⟩
    replace hK : K (nI (ax_it (fun w a => if (!decide (G.1 w = -9) && decide (G.2.1 w = -9)) = true then a + 1 else a) n (w + 1) ((fun w a => if (!decide (G.1 w = -9) && decide (G.2.1 w = -9)) = true then a + 1 else a) w acc))) I L := hK
    try dsimp only at hK
    refine cl_isWaiting hD (by omega) ?_
    simp (disch := omega) only [Bool.not_eq_false, Bool.not_eq_true, decide_eq_true_eq, decide_eq_false_iff_not, Bool.not_eq_true', Bool.not_eq_false', ax_lle, ax_llt, ax_lel, ax_ltl, ax_leq, ax_eql, ax_clampl, ax_inb_iff, nI_clamp, nI_1, nI_leI, nI_ltI, nI_eq, ax_b0, ax_b1, ax_bitb, ax_ui_eq, ax_ui_ne, true_and, and_true]
    refine ⟨fun q => ih _ _ (by omega) ?_, fun q => ih _ _ (by omega) ?_⟩
    · rw [if_neg (by rw [q]; decide)] at hK; exact hK
    · rw [if_pos q] at hK; exact hK
def sw_gp (kd : Nat → Nat) (G : sw_G) (x w : Nat) : Bool := !decide (G.1 w = -9) && decide (G.2.1 w = -9) && (!decide (G.1 w = nI x) || decide (kd x = 5))
theorem cl_grantableBy {d o o0 x N T : Nat} {kd : Nat → Nat} {tl un : Nat → Int32} {W : Nat → Nat → Nat} {G : sw_G} {I : ax_I} {L : ax_J} {K : Int32 → ax_I → ax_J → Prop} (hs : sw_ST I) (hT : sw_TP I o0 N T kd tl un) (hg : sw_TG N T kd tl un) (hD : sw_DA I o W G) (hx : x < N) (hK : K (ax_ms T (sw_gp kd G x)) I L) : ax_CI (d + 3) 14 [ax_vr 1 0 o, ax_vr 7 0 o0, ax_vi (nI x)] I L K := by
  have hT6 := hg.2.1
  apply vc_X1_grantableBy
  suffices ∀ (n w : Nat) (acc : Int32), w + n = T → K (ax_it (ax_sb (sw_gp kd G x)) n w acc) I L → ax_AK ((d + 2)) 14 (5, [some (ax_vr 1 0 o), some (ax_vr 7 0 o0), some (ax_vi (nI x)), some (ax_vi acc), some (ax_vi (nI w))], [], ax_mm I L) (ax_ki K) from this (T) 0 (0) (by omega) hK
  intro n
  induction n with
  | zero =>
    intro w acc hw hK
    apply vc_X1_grantableBy_5
    simp (disch := omega) only [Bool.not_eq_false, Bool.not_eq_true, decide_eq_true_eq, decide_eq_false_iff_not, Bool.not_eq_true', Bool.not_eq_false', ax_lle, ax_llt, ax_lel, ax_ltl, ax_leq, ax_eql, ax_clampl, ax_inb_iff, nI_clamp, nI_1, nI_leI, nI_ltI, nI_eq, ax_b0, ax_b1, ax_bitb, ax_ui_eq, ax_ui_ne, true_and, and_true, hT.2.1]
    exact ⟨fun _ => hK, fun h => by omega⟩
  | succ n ih =>
    intro w acc hw hK
    apply vc_X1_grantableBy_5
    simp (disch := omega) only [Bool.not_eq_false, Bool.not_eq_true, decide_eq_true_eq, decide_eq_false_iff_not, Bool.not_eq_true', Bool.not_eq_false', ax_lle, ax_llt, ax_lel, ax_ltl, ax_leq, ax_eql, ax_clampl, ax_inb_iff, nI_clamp, nI_1, nI_leI, nI_ltI, nI_eq, ax_b0, ax_b1, ax_bitb, ax_ui_eq, ax_ui_ne, true_and, and_true, hT.2.1]
    refine ⟨fun h => by omega, fun _ => ?_⟩
    replace hK : K (ax_it (ax_sb (sw_gp kd G x)) n (w + 1) ((ax_sb (sw_gp kd G x)) w acc)) I L := hK
    try dsimp only at hK
    refine cl_isGrantable hs hT hg hD hx (by omega) ?_
    simp (disch := omega) only [Bool.not_eq_false, Bool.not_eq_true, decide_eq_true_eq, decide_eq_false_iff_not, Bool.not_eq_true', Bool.not_eq_false', ax_lle, ax_llt, ax_lel, ax_ltl, ax_leq, ax_eql, ax_clampl, ax_inb_iff, nI_clamp, nI_1, nI_leI, nI_ltI, nI_eq, ax_b0, ax_b1, ax_bitb, ax_ui_eq, ax_ui_ne, true_and, and_true]
    refine ⟨fun q => ih _ _ (by omega) ?_, fun q => ih _ _ (by omega) ?_⟩
    · rw [ax_sb_0 q] at hK; exact hK
    · rw [ax_sb_t q] at hK; exact hK
theorem cl_heardOfBy {d o x : Nat} {H : Nat → Int32} {I : ax_I} {L : ax_J} {K : Int32 → ax_I → ax_J → Prop} (hH : ∀ w, w < 6 → I (o + 11) w = H w) (hx : x < 6) (hK : K (ax_ms 6 (fun w => ax_bt (H w) x)) I L) : ax_CI (d + 1) 15 [ax_vr 1 0 o, ax_vi (nI x)] I L K := by
  apply vc_X1_heardOfBy
  suffices ∀ (n w : Nat) (acc : Int32), w + n = 6 → K (ax_it (ax_sb (fun w => ax_bt (H w) x)) n w acc) I L → ax_AK d 15 (4, [some (ax_vr 1 0 o), some (ax_vi (nI x)), some (ax_vi acc), some (ax_vi (nI w))], [], ax_mm I L) (ax_ki K) from this (6) 0 (0) (by omega) hK
  intro n
  induction n with
  | zero =>
    intro w acc hw hK
    apply vc_X1_heardOfBy_4
    simp (disch := omega) only [Bool.not_eq_false, Bool.not_eq_true, decide_eq_true_eq, decide_eq_false_iff_not, Bool.not_eq_true', Bool.not_eq_false', ax_lle, ax_llt, ax_lel, ax_ltl, ax_leq, ax_eql, ax_clampl, ax_inb_iff, nI_clamp, nI_1, nI_leI, nI_ltI, nI_eq, ax_b0, ax_b1, ax_bitb, ax_ui_eq, ax_ui_ne, true_and, and_true]
    exact ⟨fun _ => hK, fun h => by omega⟩
  | succ n ih =>
    intro w acc hw hK
    apply vc_X1_heardOfBy_4
    simp (disch := omega) only [Bool.not_eq_false, Bool.not_eq_true, decide_eq_true_eq, decide_eq_false_iff_not, Bool.not_eq_true', Bool.not_eq_false', ax_lle, ax_llt, ax_lel, ax_ltl, ax_leq, ax_eql, ax_clampl, ax_inb_iff, nI_clamp, nI_1, nI_leI, nI_ltI, nI_eq, ax_b0, ax_b1, ax_bitb, ax_ui_eq, ax_ui_ne, true_and, and_true]
    refine ⟨fun h => by omega, fun _ => ?_⟩
    replace hK : K (ax_it (ax_sb (fun w => ax_bt (H w) x)) n (w + 1) ((ax_sb (fun w => ax_bt (H w) x)) w acc)) I L := hK
    try dsimp only at hK
    refine ⟨by omega, ih _ _ (by omega) ?_⟩
    rw [hH w (by omega), ax_bt_ask (by omega)]
    cases q : ax_bt (H w) x with
    | true =>
      rw [ax_sb_t (p := fun w => ax_bt (H w) x) q] at hK
      exact hK
    | false =>
      rw [ax_sb_0 (p := fun w => ax_bt (H w) x) q] at hK
      have e : ∀ k : Fin 6, (if false = true then (1 : Int32) else 0) <<< (nI k.val &&& 31) = 0 := by decide +kernel
      rw [e ⟨w, by omega⟩, Int32.or_zero]
      exact hK
theorem cl_wantedBy {d o x : Nat} {W : Nat → Nat → Nat} {G : sw_G} {I : ax_I} {L : ax_J} {K : Int32 → ax_I → ax_J → Prop} (hD : sw_DA I o W G) (hW : ∀ x w, W x w ≤ 9) (hx : x < 6) (hK : K (ax_ms 6 (fun w => decide (0 < W x w))) I L) : ax_CI (d + 1) 16 [ax_vr 1 0 o, ax_vi (nI x)] I L K := by
  apply vc_X1_wantedBy
  suffices ∀ (n w : Nat) (acc : Int32), w + n = 6 → K (ax_it (ax_sb (fun w => decide (0 < W x w))) n w acc) I L → ax_AK d 16 (4, [some (ax_vr 1 0 o), some (ax_vi (nI x)), some (ax_vi acc), some (ax_vi (nI w))], [], ax_mm I L) (ax_ki K) from this (6) 0 (0) (by omega) hK
  intro n
  induction n with
  | zero =>
    intro w acc hw hK
    apply vc_X1_wantedBy_4
    simp (disch := omega) only [Bool.not_eq_false, Bool.not_eq_true, decide_eq_true_eq, decide_eq_false_iff_not, Bool.not_eq_true', Bool.not_eq_false', ax_lle, ax_llt, ax_lel, ax_ltl, ax_leq, ax_eql, ax_clampl, ax_inb_iff, nI_clamp, nI_1, nI_leI, nI_ltI, nI_eq, ax_b0, ax_b1, ax_bitb, ax_ui_eq, ax_ui_ne, true_and, and_true]
    exact ⟨fun _ => hK, fun h => by omega⟩
  | succ n ih =>
    intro w acc hw hK
    apply vc_X1_wantedBy_4
    simp (disch := omega) only [Bool.not_eq_false, Bool.not_eq_true, decide_eq_true_eq, decide_eq_false_iff_not, Bool.not_eq_true', Bool.not_eq_false', ax_lle, ax_llt, ax_lel, ax_ltl, ax_leq, ax_eql, ax_clampl, ax_inb_iff, nI_clamp, nI_1, nI_leI, nI_ltI, nI_eq, ax_b0, ax_b1, ax_bitb, ax_ui_eq, ax_ui_ne, true_and, and_true]
    refine ⟨fun h => by omega, fun _ => ?_⟩
    replace hK : K (ax_it (ax_sb (fun w => decide (0 < W x w))) n (w + 1) ((ax_sb (fun w => decide (0 < W x w))) w acc)) I L := hK
    try dsimp only at hK
    rw [hD.1 x hx w (by omega)]
    have hw9 := hW x w
    simp (disch := omega) only [Bool.not_eq_false, Bool.not_eq_true, decide_eq_true_eq, decide_eq_false_iff_not, Bool.not_eq_true', Bool.not_eq_false', ax_lle, ax_llt, ax_lel, ax_ltl, ax_leq, ax_eql, ax_clampl, ax_inb_iff, nI_clamp, nI_1, nI_leI, nI_ltI, nI_eq, ax_b0, ax_b1, ax_bitb, ax_ui_eq, ax_ui_ne, true_and, and_true]
    refine ⟨by omega, by omega, fun q => ih _ _ (by omega) ?_, fun q => ih _ _ (by omega) ?_⟩
    · rw [ax_sb_0 (decide_eq_false (by omega))] at hK; exact hK
    · rw [ax_sb_t (decide_eq_true (by omega))] at hK; exact hK
theorem cl_wantersOf {d o v : Nat} {W : Nat → Nat → Nat} {G : sw_G} {I : ax_I} {L : ax_J} {K : Int32 → ax_I → ax_J → Prop} (hD : sw_DA I o W G) (hW : ∀ x w, W x w ≤ 9) (hv : v < 6) (hK : K (ax_ms 6 (fun x => decide (0 < W x v))) I L) : ax_CI (d + 1) 17 [ax_vr 1 0 o, ax_vi (nI v)] I L K := by
  apply vc_X1_wantersOf
  suffices ∀ (n w : Nat) (acc : Int32), w + n = 6 → K (ax_it (ax_sb (fun x => decide (0 < W x v))) n w acc) I L → ax_AK d 17 (4, [some (ax_vr 1 0 o), some (ax_vi (nI v)), some (ax_vi acc), some (ax_vi (nI w))], [], ax_mm I L) (ax_ki K) from this (6) 0 (0) (by omega) hK
  intro n
  induction n with
  | zero =>
    intro w acc hw hK
    apply vc_X1_wantersOf_4
    simp (disch := omega) only [Bool.not_eq_false, Bool.not_eq_true, decide_eq_true_eq, decide_eq_false_iff_not, Bool.not_eq_true', Bool.not_eq_false', ax_lle, ax_llt, ax_lel, ax_ltl, ax_leq, ax_eql, ax_clampl, ax_inb_iff, nI_clamp, nI_1, nI_leI, nI_ltI, nI_eq, ax_b0, ax_b1, ax_bitb, ax_ui_eq, ax_ui_ne, true_and, and_true]
    exact ⟨fun _ => hK, fun h => by omega⟩
  | succ n ih =>
    intro w acc hw hK
    apply vc_X1_wantersOf_4
    simp (disch := omega) only [Bool.not_eq_false, Bool.not_eq_true, decide_eq_true_eq, decide_eq_false_iff_not, Bool.not_eq_true', Bool.not_eq_false', ax_lle, ax_llt, ax_lel, ax_ltl, ax_leq, ax_eql, ax_clampl, ax_inb_iff, nI_clamp, nI_1, nI_leI, nI_ltI, nI_eq, ax_b0, ax_b1, ax_bitb, ax_ui_eq, ax_ui_ne, true_and, and_true]
    refine ⟨fun h => by omega, fun _ => ?_⟩
    replace hK : K (ax_it (ax_sb (fun x => decide (0 < W x v))) n (w + 1) ((ax_sb (fun x => decide (0 < W x v))) w acc)) I L := hK
    try dsimp only at hK
    rw [hD.1 w (by omega) v (by omega)]
    have hw9 := hW w v
    simp (disch := omega) only [Bool.not_eq_false, Bool.not_eq_true, decide_eq_true_eq, decide_eq_false_iff_not, Bool.not_eq_true', Bool.not_eq_false', ax_lle, ax_llt, ax_lel, ax_ltl, ax_leq, ax_eql, ax_clampl, ax_inb_iff, nI_clamp, nI_1, nI_leI, nI_ltI, nI_eq, ax_b0, ax_b1, ax_bitb, ax_ui_eq, ax_ui_ne, true_and, and_true]
    refine ⟨by omega, by omega, fun q => ih _ _ (by omega) ?_, fun q => ih _ _ (by omega) ?_⟩
    · rw [ax_sb_0 (decide_eq_false (by omega))] at hK; exact hK
    · rw [ax_sb_t (decide_eq_true (by omega))] at hK; exact hK
