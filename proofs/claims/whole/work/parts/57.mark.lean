theorem sw_sy_ry {kd : Nat → Nat} {f g f' g' : Nat → Int32} : ∀ {es : sw_E}, sw_sy kd f g es → sw_ry kd f' g' es → ∀ i, i < es.length → f' i = f i
  | [], _, _, i, hi => by cases hi
  | e :: es, h1, h2, i, hi => by
    by_cases q : i = es.length
    · subst q; exact h2.1.trans h1.1.symm
    · exact sw_sy_ry h1.2.2 h2.2.2 i (by have : i < es.length + 1 := hi; omega)
def sw_sb (f : Nat → Int32) (x n : Nat) : Nat := ax_it (fun i a => if f i / 10 = nI x then a + 1 else a) n 0 0
theorem cl_sayingsBy {d o x c : Nat} {I : ax_I} {L : ax_J} {K : Int32 → ax_I → ax_J → Prop} (hn : I o 9 = nI c) (h40 : c ≤ 40) (hK : K (nI (sw_sb (I (o + 13)) x c)) I L) : ax_CI (d + 1) 22 [ax_vr 1 0 o, ax_vi (nI x)] I L K := by
  apply vc_X1_sayingsBy
  suffices ∀ (n w : Nat) (acc : Nat), w + n = c → K (nI (ax_it (fun i a => if I (o + 13) i / 10 = nI x then a + 1 else a) n w acc)) I L → ax_AK d 22 (4, [some (ax_vr 1 0 o), some (ax_vi (nI x)), some (ax_vi (nI acc)), some (ax_vi (nI w))], [], ax_mm I L) (ax_ki K) from this (c) 0 (0) (by omega) hK
  intro n
  induction n with
  | zero =>
    intro w acc hw hK
    apply vc_X1_sayingsBy_4
    simp (disch := omega) only [Bool.not_eq_false, Bool.not_eq_true, decide_eq_true_eq, decide_eq_false_iff_not, Bool.not_eq_true', Bool.not_eq_false', ax_lle, ax_llt, ax_lel, ax_ltl, ax_leq, ax_eql, ax_clampl, ax_inb_iff, nI_clamp, nI_1, nI_leI, nI_ltI, nI_eq, ax_b0, ax_b1, ax_bitb, ax_ui_eq, ax_ui_ne, true_and, and_true, hn]
    exact ⟨fun _ => hK, fun h => by omega⟩
  | succ n ih =>
    intro w acc hw hK
    apply vc_X1_sayingsBy_4
    simp (disch := omega) only [Bool.not_eq_false, Bool.not_eq_true, decide_eq_true_eq, decide_eq_false_iff_not, Bool.not_eq_true', Bool.not_eq_false', ax_lle, ax_llt, ax_lel, ax_ltl, ax_leq, ax_eql, ax_clampl, ax_inb_iff, nI_clamp, nI_1, nI_leI, nI_ltI, nI_eq, ax_b0, ax_b1, ax_bitb, ax_ui_eq, ax_ui_ne, true_and, and_true, hn]
    refine ⟨fun h => by omega, fun _ => ?_⟩
    replace hK : K (nI (ax_it (fun i a => if I (o + 13) i / 10 = nI x then a + 1 else a) n (w + 1) ((fun i a => if I (o + 13) i / 10 = nI x then a + 1 else a) w acc))) I L := hK
    try dsimp only at hK
    refine ⟨by omega, by decide, fun q => ih _ _ (by omega) ?_, fun q => ?_⟩
    · rw [if_neg q] at hK; exact hK
    · refine ih _ _ (by omega) ?_
      rw [if_pos q] at hK; exact hK
theorem rf_saidBy {d x c : Nat} {I : ax_I} {L : ax_J} {K : Int32 → ax_I → ax_J → Prop} (hn : I 184 27 = nI c) (h40 : c ≤ 40) (hK : K (nI (sw_sb (I 200) x c)) I L) : ax_CI (d + 1) 198 [ax_vr 9 0 184, ax_vi (nI x)] I L K := by
  apply vc_X9_saidBy
  suffices ∀ (n w : Nat) (acc : Nat), w + n = c → K (nI (ax_it (fun i a => if I 200 i / 10 = nI x then a + 1 else a) n w acc)) I L → ax_AK d 198 (4, [some (ax_vr 9 0 184), some (ax_vi (nI x)), some (ax_vi (nI acc)), some (ax_vi (nI w))], [], ax_mm I L) (ax_ki K) from this (c) 0 (0) (by omega) hK
  intro n
  induction n with
  | zero =>
    intro w acc hw hK
    apply vc_X9_saidBy_4
    simp (disch := omega) only [Bool.not_eq_false, Bool.not_eq_true, decide_eq_true_eq, decide_eq_false_iff_not, Bool.not_eq_true', Bool.not_eq_false', ax_lle, ax_llt, ax_lel, ax_ltl, ax_leq, ax_eql, ax_clampl, ax_inb_iff, nI_clamp, nI_1, nI_leI, nI_ltI, nI_eq, ax_b0, ax_b1, ax_bitb, ax_ui_eq, ax_ui_ne, true_and, and_true, hn]
    exact ⟨fun _ => hK, fun h => by omega⟩
  | succ n ih =>
    intro w acc hw hK
    apply vc_X9_saidBy_4
    simp (disch := omega) only [Bool.not_eq_false, Bool.not_eq_true, decide_eq_true_eq, decide_eq_false_iff_not, Bool.not_eq_true', Bool.not_eq_false', ax_lle, ax_llt, ax_lel, ax_ltl, ax_leq, ax_eql, ax_clampl, ax_inb_iff, nI_clamp, nI_1, nI_leI, nI_ltI, nI_eq, ax_b0, ax_b1, ax_bitb, ax_ui_eq, ax_ui_ne, true_and, and_true, hn]
    refine ⟨fun h => by omega, fun _ => ?_⟩
    replace hK : K (nI (ax_it (fun i a => if I 200 i / 10 = nI x then a + 1 else a) n (w + 1) ((fun i a => if I 200 i / 10 = nI x then a + 1 else a) w acc))) I L := hK
    try dsimp only at hK
    refine ⟨by omega, by decide, fun q => ?_, fun q => ?_⟩
    · rw [Int32.add_zero]
      refine ih _ _ (by omega) ?_
      rw [if_neg q] at hK; exact hK
    · refine ih _ _ (by omega) ?_
      rw [if_pos q] at hK; exact hK
theorem rf_heardBy {d y N T : Nat} {kd : Nat → Nat} {tl un : Nat → Int32} {W : Nat → Nat → Nat} {I : ax_I} {L : ax_J} {K : Int32 → ax_I → ax_J → Prop} (hT : sw_RT I N T kd tl un W) (hg : sw_TG N T kd tl un) (hy : y < 6) (hK : K (nI (ax_it (fun x a => if sw_hp N kd tl x y then a + 1 else a) N 0 0)) I L) : ax_CI (d + 2) 199 [ax_vr 9 0 184, ax_vi (nI y)] I L K := by
  have hN := hg.1
  apply vc_X9_heardBy
  suffices ∀ (n w : Nat) (acc : Nat), w + n = N → K (nI (ax_it (fun x a => if sw_hp N kd tl x y then a + 1 else a) n w acc)) I L → ax_AK ((d + 1)) 199 (4, [some (ax_vr 9 0 184), some (ax_vi (nI y)), some (ax_vi (nI acc)), some (ax_vi (nI w))], [], ax_mm I L) (ax_ki K) from this (N) 0 (0) (by omega) hK
  intro n
  induction n with
  | zero =>
    intro w acc hw hK
    apply vc_X9_heardBy_4
    simp (disch := omega) only [Bool.not_eq_false, Bool.not_eq_true, decide_eq_true_eq, decide_eq_false_iff_not, Bool.not_eq_true', Bool.not_eq_false', ax_lle, ax_llt, ax_lel, ax_ltl, ax_leq, ax_eql, ax_clampl, ax_inb_iff, nI_clamp, nI_1, nI_leI, nI_ltI, nI_eq, ax_b0, ax_b1, ax_bitb, ax_ui_eq, ax_ui_ne, true_and, and_true, hT.1]
    exact ⟨fun _ => hK, fun h => by omega⟩
  | succ n ih =>
    intro w acc hw hK
    apply vc_X9_heardBy_4
    simp (disch := omega) only [Bool.not_eq_false, Bool.not_eq_true, decide_eq_true_eq, decide_eq_false_iff_not, Bool.not_eq_true', Bool.not_eq_false', ax_lle, ax_llt, ax_lel, ax_ltl, ax_leq, ax_eql, ax_clampl, ax_inb_iff, nI_clamp, nI_1, nI_leI, nI_ltI, nI_eq, ax_b0, ax_b1, ax_bitb, ax_ui_eq, ax_ui_ne, true_and, and_true, hT.1]
    refine ⟨fun h => by omega, fun _ => ?_⟩
    replace hK : K (nI (ax_it (fun x a => if sw_hp N kd tl x y then a + 1 else a) n (w + 1) ((fun x a => if sw_hp N kd tl x y then a + 1 else a) w acc))) I L := hK
    try dsimp only at hK
    refine rf_hearsOf hT hg (by omega) ?_
    refine rf_has (by omega) ?_
    unfold sw_hr
    rw [ax_bt_ms (by omega), decide_eq_true (by omega : y < 6), Bool.true_and]
    simp (disch := omega) only [Bool.not_eq_false, Bool.not_eq_true, decide_eq_true_eq, decide_eq_false_iff_not, Bool.not_eq_true', Bool.not_eq_false', ax_lle, ax_llt, ax_lel, ax_ltl, ax_leq, ax_eql, ax_clampl, ax_inb_iff, nI_clamp, nI_1, nI_leI, nI_ltI, nI_eq, ax_b0, ax_b1, ax_bitb, ax_ui_eq, ax_ui_ne, true_and, and_true]
    refine ⟨fun q => ?_, fun q => ?_⟩
    · rw [Int32.add_zero]
      refine ih _ _ (by omega) ?_
      rw [if_neg (by rw [q]; decide)] at hK; exact hK
    · refine ih _ _ (by omega) ?_
      rw [if_pos q] at hK; exact hK
theorem sw_ms_small {p : Nat → Bool} : ∃ m, m < 64 ∧ ax_ms 6 p = nI m := ax_small (fun i h1 h2 => by rw [ax_bt_ms (by omega), decide_eq_false (by omega), Bool.false_and])
theorem op_mark {I : ax_I} {L : ax_J} (h : sw_RR I L) (a b : Int32) : sw_OP 102 200 [ax_vi a, ax_vi b] I L := by
  intro d
  have h0 := h
  obtain ⟨N, T, kd, tl, un, W, es, h1, h2, h3, h4⟩ := h
  have hN := h1.1.1
  have c1 := h1.2.2.2.2.1.1
  have r1 := h1.2.2.2.2.2.2.1.1
  apply vc_X8_mark
  rcases sw_dich (n := N) (by omega) a with ⟨x, hx, rfl⟩ | ha
  case inr =>
    refine cl_hasOne_no c1 ha ?_
    refine ⟨fun _ => ?_, (fun q => absurd q (by decide))⟩
    apply vc_X9_mark
    refine rf_isOne_no r1 hN ha ?_
    exact ⟨fun _ => ⟨rfl, h0⟩, (fun q => absurd q (by decide))⟩
  refine cl_hasOne_k c1 (by omega) hx ?_
  refine ⟨(fun q => absurd q (by decide)), fun _ => ?_⟩
  by_cases hb : (1 : Int32) ≤ b ∧ b ≤ 5
  case neg =>
    have fin : ax_CI (d + 30) 200 [ax_vr 9 0 184, ax_vi (nI x), ax_vi b] I L (fun b I2 L2 => (-1 : Int32) = b ∧ sw_RR I2 L2) := by
      apply vc_X9_mark
      refine rf_isOne_k r1 hN hx ?_
      refine ⟨(fun q => absurd q (by decide)), fun _ => ?_⟩
      refine rf_in ?_
      have e : (decide ((1 : Int32) ≤ b) && decide (b ≤ 5)) = false := by
        cases z : (decide ((1 : Int32) ≤ b) && decide (b ≤ 5)) with
        | false => rfl
        | true =>
          rw [Bool.and_eq_true, decide_eq_true_eq, decide_eq_true_eq] at z
          exact absurd z hb
      rw [e]
      exact ⟨(fun q => absurd q (by decide)), fun _ => ⟨rfl, h0⟩⟩
    refine ax_if (fun _ => fin) (fun q0 => ax_if (fun q1 => ?_) (fun _ => fin))
    exfalso
    apply hb
    obtain ⟨k, hk, rfl⟩ := ax_of_in (n := 6) (Int32.le_of_lt (Int32.not_le.mp q0)) q1 (by omega)
    rw [Int32.not_le] at q0
    simp (disch := omega) only [Bool.not_eq_false, Bool.not_eq_true, decide_eq_true_eq, decide_eq_false_iff_not, Bool.not_eq_true', Bool.not_eq_false', ax_lle, ax_llt, ax_lel, ax_ltl, ax_leq, ax_eql, ax_clampl, ax_inb_iff, nI_clamp, nI_1, nI_leI, nI_ltI, nI_eq, ax_b0, ax_b1, ax_bitb, ax_ui_eq, ax_ui_ne, true_and, and_true] at q0
    simp (disch := omega) only [Bool.not_eq_false, Bool.not_eq_true, decide_eq_true_eq, decide_eq_false_iff_not, Bool.not_eq_true', Bool.not_eq_false', ax_lle, ax_llt, ax_lel, ax_ltl, ax_leq, ax_eql, ax_clampl, ax_inb_iff, nI_clamp, nI_1, nI_leI, nI_ltI, nI_eq, ax_b0, ax_b1, ax_bitb, ax_ui_eq, ax_ui_ne, true_and, and_true]
    omega
  obtain ⟨k, hk, rfl⟩ := ax_of_le (x := b) (n := 5) (Int32.le_trans (by decide) hb.1) hb.2 (by omega)
  have hk1 : 1 ≤ k := by have := hb.1; simp (disch := omega) only [Bool.not_eq_false, Bool.not_eq_true, decide_eq_true_eq, decide_eq_false_iff_not, Bool.not_eq_true', Bool.not_eq_false', ax_lle, ax_llt, ax_lel, ax_ltl, ax_leq, ax_eql, ax_clampl, ax_inb_iff, nI_clamp, nI_1, nI_leI, nI_ltI, nI_eq, ax_b0, ax_b1, ax_bitb, ax_ui_eq, ax_ui_ne, true_and, and_true] at this; exact this
  have hG := h1.GI
  have bo := fun w h1' h2' => h1.bo (w := w) h1' h2'
  obtain ⟨q1, q2, q3, q4, q5, q6, q7, q8, q9, q10⟩ := h1
  have hT := q1.2.1
  have q8 := q8 (by omega)
  have hkx := q1.2.2.2.1 x hx
  have e191 : I 191 x = nI (kd x) := q7.2.2.1 x hx
  obtain ⟨m1, hm1, em1⟩ := sw_ms_small (p := fun w => decide ((sw_rp kd es).1 w = nI x))
  obtain ⟨m4, hm4, em4⟩ := sw_ms_small (p := fun w => decide (sw_by kd es w = nI x))
  obtain ⟨m5, hm5, em5⟩ : ∃ m, m < 64 ∧ (ax_ms 6 (fun w => decide ((sw_rp kd es).1 w = nI x)) &&& ax_ms 6 (fun w => decide ((sw_rp kd es).2.1 w = nI x))) = nI m := ax_small (fun i h1 h2 => by rw [ax_bt_and, ax_bt_ms (by omega), decide_eq_false (by omega), Bool.false_and, Bool.false_and])
  have u1 : ax_ms T (fun w => decide ((sw_rp kd es).1 w = nI x)) = ax_ms 6 (fun w => decide ((sw_rp kd es).1 w = nI x)) := sw_ms_T hT (fun i h1 h2 => by rw [(hG.out h1 h2).1]; exact decide_eq_false (ax_9ne (by omega)))
  have u2 : ax_ms T (fun w => decide ((sw_rp kd es).2.1 w = nI x)) = ax_ms 6 (fun w => decide ((sw_rp kd es).2.1 w = nI x)) := sw_ms_T hT (fun i h1 h2 => by rw [(hG.out h1 h2).2]; exact decide_eq_false (ax_9ne (by omega)))
  have u4 : ax_ms T (fun w => decide (sw_by kd es w = nI x)) = ax_ms 6 (fun w => decide (sw_by kd es w = nI x)) := sw_ms_T hT (fun i h1 h2 => by rw [bo i h1 h2]; exact decide_eq_false (ax_9ne (by omega)))
  /- what a mark tells -/
  obtain ⟨V, hV1, hV2, hV3, hV4, hV5⟩ : ∃ V : Nat → Int32, V 1 = nI (sw_pc 6 m1) ∧ V 2 = nI (sw_sb (I 23) x es.length) ∧ V 3 = nI (ax_it (fun z a => if sw_hp N kd tl z x then a + 1 else a) N 0 0) ∧ V 4 = nI (sw_pc 6 m4) ∧ V 5 = nI (sw_pc 6 m5) :=
    ⟨fun k => match k with | 1 => nI (sw_pc 6 m1) | 2 => nI (sw_sb (I 23) x es.length) | 3 => nI (ax_it (fun z a => if sw_hp N kd tl z x then a + 1 else a) N 0 0) | 4 => nI (sw_pc 6 m4) | _ => nI (sw_pc 6 m5), rfl, rfl, rfl, rfl, rfl⟩
  have esb : sw_sb (I 200) x es.length = sw_sb (I 23) x es.length := by
    unfold sw_sb
    refine ax_it_congr _ _ _ (fun i a z1 z2 => ?_)
    rw [sw_sy_ry q6.2.2.2.2 q10 i (by omega)]
  simp (disch := omega) only [Bool.not_eq_false, Bool.not_eq_true, decide_eq_true_eq, decide_eq_false_iff_not, Bool.not_eq_true', Bool.not_eq_false', ax_lle, ax_llt, ax_lel, ax_ltl, ax_leq, ax_eql, ax_clampl, ax_inb_iff, nI_clamp, nI_1, nI_leI, nI_ltI, nI_eq, ax_b0, ax_b1, ax_bitb, ax_ui_eq, ax_ui_ne, true_and, and_true]
  refine ⟨fun q => by omega, fun _ => ⟨fun _ => ?_, fun q => by omega⟩⟩
  refine cl_isOf q4 (by omega) (q5.2.2.1 x hx) hkx hk1 hk ?_
  simp (disch := omega) only [Bool.not_eq_false, Bool.not_eq_true, decide_eq_true_eq, decide_eq_false_iff_not, Bool.not_eq_true', Bool.not_eq_false', ax_lle, ax_llt, ax_lel, ax_ltl, ax_leq, ax_eql, ax_clampl, ax_inb_iff, nI_clamp, nI_1, nI_leI, nI_ltI, nI_eq, ax_b0, ax_b1, ax_bitb, ax_ui_eq, ax_ui_ne, true_and, and_true]
  refine ⟨fun hko => ?_, fun hko => ?_⟩
  · /- of that kind -/
    have B : ∀ K0 : Int32 → ax_I → ax_J → Prop, K0 (V k) I L → (nI k = 1 → ax_CI (d + 29) 193 [ax_vr 9 0 184, ax_vi 0, ax_vi (nI x)] I L (fun x9 I7 L8 =>
                ax_CI (d + 29) 151 [ax_vi x9] I7 L8 (fun x12 I10 L11 => K0 x12 I10 L11))) ∧
            (¬ nI k = 1 → (nI k = 2 → ax_CI (d + 29) 198 [ax_vr 9 0 184, ax_vi (nI x)] I L (fun x15 I13 L14 => K0 x15 I13 L14)) ∧
            (¬ nI k = 2 → (nI k = 3 → ax_CI (d + 29) 199 [ax_vr 9 0 184, ax_vi (nI x)] I L (fun x18 I16 L17 => K0 x18 I16 L17)) ∧
            (¬ nI k = 3 → (nI k = 4 → ax_CI (d + 29) 193 [ax_vr 9 0 184, ax_vi 18, ax_vi (nI x)] I L (fun x21 I19 L20 =>
                ax_CI (d + 29) 151 [ax_vi x21] I19 L20 (fun x24 I22 L23 => K0 x24 I22 L23))) ∧
            (¬ nI k = 4 → ax_CI (d + 29) 193 [ax_vr 9 0 184, ax_vi 0, ax_vi (nI x)] I L (fun x27 I25 L26 =>
                ax_CI (d + 29) 193 [ax_vr 9 0 184, ax_vi 6, ax_vi (nI x)] I25 L26 (fun x30 I28 L29 =>
                  ax_CI (d + 29) 151 [ax_vi (x27 &&& x30)] I28 L29 (fun x33 I31 L32 => K0 x33 I31 L32))))))) := by
      intro K0 hK0
      refine ⟨fun e => ?_, fun n1 => ⟨fun e => ?_, fun n2 => ⟨fun e => ?_, fun n3 => ⟨fun e => ?_, fun n4 => ?_⟩⟩⟩⟩
      · simp (disch := omega) only [Bool.not_eq_false, Bool.not_eq_true, decide_eq_true_eq, decide_eq_false_iff_not, Bool.not_eq_true', Bool.not_eq_false', ax_lle, ax_llt, ax_lel, ax_ltl, ax_leq, ax_eql, ax_clampl, ax_inb_iff, nI_clamp, nI_1, nI_leI, nI_ltI, nI_eq, ax_b0, ax_b1, ax_bitb, ax_ui_eq, ax_ui_ne, true_and, and_true] at e
        subst e
        refine rf_thingsBy (a := 0) (q := (sw_rp kd es).1) q7 hT (by omega) (fun w hw => by rw [Nat.zero_add]; exact q8.1.1 w hw) ?_
        rw [u1, em1]
        refine rf_bits hm1 ?_
        rw [hV1] at hK0; exact hK0
      · simp (disch := omega) only [Bool.not_eq_false, Bool.not_eq_true, decide_eq_true_eq, decide_eq_false_iff_not, Bool.not_eq_true', Bool.not_eq_false', ax_lle, ax_llt, ax_lel, ax_ltl, ax_leq, ax_eql, ax_clampl, ax_inb_iff, nI_clamp, nI_1, nI_leI, nI_ltI, nI_eq, ax_b0, ax_b1, ax_bitb, ax_ui_eq, ax_ui_ne, true_and, and_true] at e
        subst e
        refine rf_saidBy q9 q3.1 ?_
        rw [esb]; rw [hV2] at hK0; exact hK0
      · simp (disch := omega) only [Bool.not_eq_false, Bool.not_eq_true, decide_eq_true_eq, decide_eq_false_iff_not, Bool.not_eq_true', Bool.not_eq_false', ax_lle, ax_llt, ax_lel, ax_ltl, ax_leq, ax_eql, ax_clampl, ax_inb_iff, nI_clamp, nI_1, nI_leI, nI_ltI, nI_eq, ax_b0, ax_b1, ax_bitb, ax_ui_eq, ax_ui_ne, true_and, and_true] at e
        subst e
        refine rf_heardBy q7 q1 (by omega) ?_
        rw [hV3] at hK0; exact hK0
      · simp (disch := omega) only [Bool.not_eq_false, Bool.not_eq_true, decide_eq_true_eq, decide_eq_false_iff_not, Bool.not_eq_true', Bool.not_eq_false', ax_lle, ax_llt, ax_lel, ax_ltl, ax_leq, ax_eql, ax_clampl, ax_inb_iff, nI_clamp, nI_1, nI_leI, nI_ltI, nI_eq, ax_b0, ax_b1, ax_bitb, ax_ui_eq, ax_ui_ne, true_and, and_true] at e
        subst e
        refine rf_thingsBy (a := 18) q7 hT (by omega) q8.2.1 ?_
        rw [u4, em4]
        refine rf_bits hm4 ?_
        rw [hV4] at hK0; exact hK0
      · simp (disch := omega) only [Bool.not_eq_false, Bool.not_eq_true, decide_eq_true_eq, decide_eq_false_iff_not, Bool.not_eq_true', Bool.not_eq_false', ax_lle, ax_llt, ax_lel, ax_ltl, ax_leq, ax_eql, ax_clampl, ax_inb_iff, nI_clamp, nI_1, nI_leI, nI_ltI, nI_eq, ax_b0, ax_b1, ax_bitb, ax_ui_eq, ax_ui_ne, true_and, and_true] at n1
        simp (disch := omega) only [Bool.not_eq_false, Bool.not_eq_true, decide_eq_true_eq, decide_eq_false_iff_not, Bool.not_eq_true', Bool.not_eq_false', ax_lle, ax_llt, ax_lel, ax_ltl, ax_leq, ax_eql, ax_clampl, ax_inb_iff, nI_clamp, nI_1, nI_leI, nI_ltI, nI_eq, ax_b0, ax_b1, ax_bitb, ax_ui_eq, ax_ui_ne, true_and, and_true] at n2
        simp (disch := omega) only [Bool.not_eq_false, Bool.not_eq_true, decide_eq_true_eq, decide_eq_false_iff_not, Bool.not_eq_true', Bool.not_eq_false', ax_lle, ax_llt, ax_lel, ax_ltl, ax_leq, ax_eql, ax_clampl, ax_inb_iff, nI_clamp, nI_1, nI_leI, nI_ltI, nI_eq, ax_b0, ax_b1, ax_bitb, ax_ui_eq, ax_ui_ne, true_and, and_true] at n3
        simp (disch := omega) only [Bool.not_eq_false, Bool.not_eq_true, decide_eq_true_eq, decide_eq_false_iff_not, Bool.not_eq_true', Bool.not_eq_false', ax_lle, ax_llt, ax_lel, ax_ltl, ax_leq, ax_eql, ax_clampl, ax_inb_iff, nI_clamp, nI_1, nI_leI, nI_ltI, nI_eq, ax_b0, ax_b1, ax_bitb, ax_ui_eq, ax_ui_ne, true_and, and_true] at n4
        have : k = 5 := by omega
        subst this
        refine rf_thingsBy (a := 0) (q := (sw_rp kd es).1) q7 hT (by omega) (fun w hw => by rw [Nat.zero_add]; exact q8.1.1 w hw) ?_
        refine rf_thingsBy (a := 6) q7 hT (by omega) q8.1.2.1 ?_
        rw [u1, u2, em5]
        refine rf_bits hm5 ?_
        rw [hV5] at hK0; exact hK0
    have ref : ax_CI (d + 30) 200 [ax_vr 9 0 184, ax_vi (nI x), ax_vi (nI k)] I L (fun b I2 L2 => V k = b ∧ sw_RR I2 L2) := by
      apply vc_X9_mark
      refine rf_isOne_k r1 hN hx ?_
      refine ⟨(fun q => absurd q (by decide)), fun _ => ?_⟩
      refine rf_in ?_
      rw [decide_eq_true (show (1 : Int32) ≤ nI k from hb.1), decide_eq_true (show nI k ≤ 5 from hb.2)]
      refine ⟨fun _ => ⟨ax_inb_nI (by omega) (by omega), ?_⟩, (fun q => absurd q (by decide))⟩
      rw [nI_clamp (by omega), e191]
      have B := B (fun b I2 L2 => V k = b ∧ sw_RR I2 L2) ⟨rfl, h0⟩
      simp only [decide_eq_true_eq, decide_eq_false_iff_not, Bool.not_eq_true', Bool.not_eq_false']
      have hko2 : kd x = k ∨ (kd x = 5 ∧ k = 1) ∨ (kd x = 4 ∧ k = 2) := by
        have hko := hko
        simp [sw_ko] at hko; omega
      refine ⟨fun _ => B, fun z1 => ⟨fun z2 => ⟨fun z3 => ?_, fun z3 => ⟨fun _ => B, fun z4 => ?_⟩⟩, fun z2 => ⟨fun _ => B, fun z4 => ?_⟩⟩⟩
      · exfalso
        simp (disch := omega) only [Bool.not_eq_false, Bool.not_eq_true, decide_eq_true_eq, decide_eq_false_iff_not, Bool.not_eq_true', Bool.not_eq_false', ax_lle, ax_llt, ax_lel, ax_ltl, ax_leq, ax_eql, ax_clampl, ax_inb_iff, nI_clamp, nI_1, nI_leI, nI_ltI, nI_eq, ax_b0, ax_b1, ax_bitb, ax_ui_eq, ax_ui_ne, true_and, and_true] at z1
        simp (disch := omega) only [Bool.not_eq_false, Bool.not_eq_true, decide_eq_true_eq, decide_eq_false_iff_not, Bool.not_eq_true', Bool.not_eq_false', ax_lle, ax_llt, ax_lel, ax_ltl, ax_leq, ax_eql, ax_clampl, ax_inb_iff, nI_clamp, nI_1, nI_leI, nI_ltI, nI_eq, ax_b0, ax_b1, ax_bitb, ax_ui_eq, ax_ui_ne, true_and, and_true] at z2
        simp (disch := omega) only [Bool.not_eq_false, Bool.not_eq_true, decide_eq_true_eq, decide_eq_false_iff_not, Bool.not_eq_true', Bool.not_eq_false', ax_lle, ax_llt, ax_lel, ax_ltl, ax_leq, ax_eql, ax_clampl, ax_inb_iff, nI_clamp, nI_1, nI_leI, nI_ltI, nI_eq, ax_b0, ax_b1, ax_bitb, ax_ui_eq, ax_ui_ne, true_and, and_true] at z3
        omega
      · exfalso
        simp (disch := omega) only [Bool.not_eq_false, Bool.not_eq_true, decide_eq_true_eq, decide_eq_false_iff_not, Bool.not_eq_true', Bool.not_eq_false', ax_lle, ax_llt, ax_lel, ax_ltl, ax_leq, ax_eql, ax_clampl, ax_inb_iff, nI_clamp, nI_1, nI_leI, nI_ltI, nI_eq, ax_b0, ax_b1, ax_bitb, ax_ui_eq, ax_ui_ne, true_and, and_true] at z1
        simp (disch := omega) only [Bool.not_eq_false, Bool.not_eq_true, decide_eq_true_eq, decide_eq_false_iff_not, Bool.not_eq_true', Bool.not_eq_false', ax_lle, ax_llt, ax_lel, ax_ltl, ax_leq, ax_eql, ax_clampl, ax_inb_iff, nI_clamp, nI_1, nI_leI, nI_ltI, nI_eq, ax_b0, ax_b1, ax_bitb, ax_ui_eq, ax_ui_ne, true_and, and_true] at z2
        simp (disch := omega) only [Bool.not_eq_false, Bool.not_eq_true, decide_eq_true_eq, decide_eq_false_iff_not, Bool.not_eq_true', Bool.not_eq_false', ax_lle, ax_llt, ax_lel, ax_ltl, ax_leq, ax_eql, ax_clampl, ax_inb_iff, nI_clamp, nI_1, nI_leI, nI_ltI, nI_eq, ax_b0, ax_b1, ax_bitb, ax_ui_eq, ax_ui_ne, true_and, and_true] at z3
        simp (disch := omega) only [Bool.not_eq_false, Bool.not_eq_true, decide_eq_true_eq, decide_eq_false_iff_not, Bool.not_eq_true', Bool.not_eq_false', ax_lle, ax_llt, ax_lel, ax_ltl, ax_leq, ax_eql, ax_clampl, ax_inb_iff, nI_clamp, nI_1, nI_leI, nI_ltI, nI_eq, ax_b0, ax_b1, ax_bitb, ax_ui_eq, ax_ui_ne, true_and, and_true] at z4
        omega
      · exfalso
        simp (disch := omega) only [Bool.not_eq_false, Bool.not_eq_true, decide_eq_true_eq, decide_eq_false_iff_not, Bool.not_eq_true', Bool.not_eq_false', ax_lle, ax_llt, ax_lel, ax_ltl, ax_leq, ax_eql, ax_clampl, ax_inb_iff, nI_clamp, nI_1, nI_leI, nI_ltI, nI_eq, ax_b0, ax_b1, ax_bitb, ax_ui_eq, ax_ui_ne, true_and, and_true] at z1
        simp (disch := omega) only [Bool.not_eq_false, Bool.not_eq_true, decide_eq_true_eq, decide_eq_false_iff_not, Bool.not_eq_true', Bool.not_eq_false', ax_lle, ax_llt, ax_lel, ax_ltl, ax_leq, ax_eql, ax_clampl, ax_inb_iff, nI_clamp, nI_1, nI_leI, nI_ltI, nI_eq, ax_b0, ax_b1, ax_bitb, ax_ui_eq, ax_ui_ne, true_and, and_true] at z2
        simp (disch := omega) only [Bool.not_eq_false, Bool.not_eq_true, decide_eq_true_eq, decide_eq_false_iff_not, Bool.not_eq_true', Bool.not_eq_false', ax_lle, ax_llt, ax_lel, ax_ltl, ax_leq, ax_eql, ax_clampl, ax_inb_iff, nI_clamp, nI_1, nI_leI, nI_ltI, nI_eq, ax_b0, ax_b1, ax_bitb, ax_ui_eq, ax_ui_ne, true_and, and_true] at z4
        omega
    have hcase : k = 1 ∨ k = 2 ∨ k = 3 ∨ k = 4 ∨ k = 5 := by omega
    refine ⟨fun e => ?_, fun n1 => ⟨fun e => ?_, fun n2 => ⟨fun e => ?_, fun n3 => ⟨fun e => ?_, fun n4 => ?_⟩⟩⟩⟩
    · subst e
      refine cl_firstOf q6.1 ?_
      rw [em1]
      refine cl_bitCount hm1 ?_
      rw [← hV1]; exact ref
    · subst e
      refine cl_sayingsBy q6.2.2.2.1 q3.1 ?_
      rw [← hV2]; exact ref
    · subst e
      refine cl_heardBy q4 q5 q1 (by omega) ?_
      rw [← hV3]; exact ref
    · subst e
      apply vc_X1_givenBy
      refine cl_thingsWith (by omega) (by omega) ?_
      rw [show ax_ms 6 (fun w => decide (I (10 + 10) w = nI x)) = ax_ms 6 (fun w => decide (sw_by kd es w = nI x)) from ax_ms_congr (fun i hi => by rw [q6.2.1 i hi]), em4]
      refine cl_bitCount hm4 ?_
      rw [← hV4]; exact ref
    · have : k = 5 := by omega
      subst this
      refine cl_firstOf q6.1 ?_
      refine cl_hasOf q6.1 ?_
      rw [em5]
      refine cl_bitCount hm5 ?_
      rw [← hV5]; exact ref
  · refine cl_find (f := 3) (by omega) ?_
    have e191' : sw_fC I 3 191 x = nI (kd x) := by unfold sw_fC; rw [ax_ui_ne (by omega), ax_ui_ne (by omega)]; exact e191
    apply vc_X9_mark
    refine rf_isOne_k (by unfold sw_fC; rw [ax_ui_ne (by omega), ax_ui_ne (by omega)]; exact r1) hN hx ?_
    refine ⟨(fun q => absurd q (by decide)), fun _ => ?_⟩
    refine rf_in ?_
    rw [decide_eq_true (show (1 : Int32) ≤ nI k from hb.1), decide_eq_true (show nI k ≤ 5 from hb.2)]
    refine ⟨fun _ => ⟨ax_inb_nI (by omega) (by omega), ?_⟩, (fun q => absurd q (by decide))⟩
    rw [nI_clamp (by omega), e191']
    simp only [decide_eq_true_eq, decide_eq_false_iff_not, Bool.not_eq_true', Bool.not_eq_false']
    have fin : ax_CI (d + 29) 152 [ax_vr 9 0 184, ax_vi 3] (sw_fC I 3) L (fun b I2 L2 => (-3 : Int32) = b ∧ sw_RR I2 L2) := rf_meets (f := 3) (by omega) ⟨rfl, h0.find (by omega)⟩
    have hko2 : ¬ (kd x = k ∨ (kd x = 5 ∧ k = 1) ∨ (kd x = 4 ∧ k = 2)) := by
      have hko := hko
      simp [sw_ko] at hko; omega
    refine ⟨fun z1 => ?_, fun z1 => ⟨fun z2 => ⟨fun z3 => fin, fun z3 => ⟨fun z4 => ?_, fun z4 => fin⟩⟩, fun z2 => ⟨fun z4 => ?_, fun z4 => ⟨fun z5 => fin, fun z5 => ⟨fun z6 => ?_, fun z6 => fin⟩⟩⟩⟩⟩
    · exfalso
      simp (disch := omega) only [Bool.not_eq_false, Bool.not_eq_true, decide_eq_true_eq, decide_eq_false_iff_not, Bool.not_eq_true', Bool.not_eq_false', ax_lle, ax_llt, ax_lel, ax_ltl, ax_leq, ax_eql, ax_clampl, ax_inb_iff, nI_clamp, nI_1, nI_leI, nI_ltI, nI_eq, ax_b0, ax_b1, ax_bitb, ax_ui_eq, ax_ui_ne, true_and, and_true] at z1
      omega
    · exfalso
      simp (disch := omega) only [Bool.not_eq_false, Bool.not_eq_true, decide_eq_true_eq, decide_eq_false_iff_not, Bool.not_eq_true', Bool.not_eq_false', ax_lle, ax_llt, ax_lel, ax_ltl, ax_leq, ax_eql, ax_clampl, ax_inb_iff, nI_clamp, nI_1, nI_leI, nI_ltI, nI_eq, ax_b0, ax_b1, ax_bitb, ax_ui_eq, ax_ui_ne, true_and, and_true] at z3
      simp (disch := omega) only [Bool.not_eq_false, Bool.not_eq_true, decide_eq_true_eq, decide_eq_false_iff_not, Bool.not_eq_true', Bool.not_eq_false', ax_lle, ax_llt, ax_lel, ax_ltl, ax_leq, ax_eql, ax_clampl, ax_inb_iff, nI_clamp, nI_1, nI_leI, nI_ltI, nI_eq, ax_b0, ax_b1, ax_bitb, ax_ui_eq, ax_ui_ne, true_and, and_true] at z4
      omega
    · exfalso
      simp (disch := omega) only [Bool.not_eq_false, Bool.not_eq_true, decide_eq_true_eq, decide_eq_false_iff_not, Bool.not_eq_true', Bool.not_eq_false', ax_lle, ax_llt, ax_lel, ax_ltl, ax_leq, ax_eql, ax_clampl, ax_inb_iff, nI_clamp, nI_1, nI_leI, nI_ltI, nI_eq, ax_b0, ax_b1, ax_bitb, ax_ui_eq, ax_ui_ne, true_and, and_true] at z2
      simp (disch := omega) only [Bool.not_eq_false, Bool.not_eq_true, decide_eq_true_eq, decide_eq_false_iff_not, Bool.not_eq_true', Bool.not_eq_false', ax_lle, ax_llt, ax_lel, ax_ltl, ax_leq, ax_eql, ax_clampl, ax_inb_iff, nI_clamp, nI_1, nI_leI, nI_ltI, nI_eq, ax_b0, ax_b1, ax_bitb, ax_ui_eq, ax_ui_ne, true_and, and_true] at z4
      omega
    · exfalso
      simp (disch := omega) only [Bool.not_eq_false, Bool.not_eq_true, decide_eq_true_eq, decide_eq_false_iff_not, Bool.not_eq_true', Bool.not_eq_false', ax_lle, ax_llt, ax_lel, ax_ltl, ax_leq, ax_eql, ax_clampl, ax_inb_iff, nI_clamp, nI_1, nI_leI, nI_ltI, nI_eq, ax_b0, ax_b1, ax_bitb, ax_ui_eq, ax_ui_ne, true_and, and_true] at z5
      simp (disch := omega) only [Bool.not_eq_false, Bool.not_eq_true, decide_eq_true_eq, decide_eq_false_iff_not, Bool.not_eq_true', Bool.not_eq_false', ax_lle, ax_llt, ax_lel, ax_ltl, ax_leq, ax_eql, ax_clampl, ax_inb_iff, nI_clamp, nI_1, nI_leI, nI_ltI, nI_eq, ax_b0, ax_b1, ax_bitb, ax_ui_eq, ax_ui_ne, true_and, and_true] at z6
      omega
