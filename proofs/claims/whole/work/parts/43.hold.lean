/-! needs: 21c 21d 21e 30 31 32 33 34 35 41 42 -/
theorem sw_RT.frame {I I' : ax_I} {N T : Nat} {kd : Nat → Nat} {tl un : Nat → Int32} {W : Nat → Nat → Nat} (h : sw_RT I N T kd tl un W) (h1 : I' 184 10 = I 184 10) (h2 : I' 184 11 = I 184 11) (h3 : I' 191 = I 191) (h4 : I' 192 = I 192) (h5 : I' 193 = I 193) (h6 : I' 194 = I 194) : sw_RT I' N T kd tl un W := by
  unfold sw_RT; rw [h1, h2, h3, h4, h5, h6]; exact h
theorem sw_RT.f199 {I I' : ax_I} {N T : Nat} {kd : Nat → Nat} {tl un : Nat → Int32} {W : Nat → Nat → Nat} (h : sw_RT I N T kd tl un W) (hf : ax_FR 199 199 I I') : sw_RT I' N T kd tl un W := h.frame (by rw [hf _ (by omega)]) (by rw [hf _ (by omega)]) (hf _ (by omega)) (hf _ (by omega)) (hf _ (by omega)) (hf _ (by omega))
theorem sw_FG.same {f g : Nat → Int32} {G : sw_G} (h : sw_FG f G) (hg : ∀ j, j < 31 → g j = f j) : sw_FG g G := by
  obtain ⟨h1, h2, h3, h4⟩ := h
  exact ⟨fun w hw => by rw [hg _ (by omega)]; exact h1 w hw, fun w hw => by rw [hg _ (by omega)]; exact h2 w hw, fun w hw => by rw [hg _ (by omega)]; exact h3 w hw, by rw [hg _ (by omega)]; exact h4⟩
theorem rf_holds {d k N T : Nat} {kd : Nat → Nat} {tl un : Nat → Int32} {W : Nat → Nat → Nat} {G : sw_G} {I : ax_I} {L : ax_J} {K : Int32 → ax_I → ax_J → Prop} (hT : sw_RT I N T kd tl un W) (hT6 : T ≤ 6) (hF : sw_FG (sw_fr I k) G) (hG : sw_GI N T G) (hk : k < 10) (hK : K (sw_hd un G.2.2) I L) : ax_CI (d + 2) 191 [ax_vr 9 0 184, ax_vi (nI k)] I L K := by
  obtain ⟨f1, f2, f3, f4⟩ := hF
  obtain ⟨t1, t2, t3, t4, t5, t6⟩ := hT
  have hl := hG.len
  apply vc_X9_holds
  refine rf_v (a := 30) (i := 0) hk (by omega) ?_
  rw [show 30 + 0 = 30 from rfl, f4]
  suffices ∀ (R P : List Nat) (s u : Int32) (z : Option ax_V), G.2.2 = P ++ R → K (sw_hu un R (s, u)).1 I L → ax_AK ((d + 1)) 191 (16, [some (ax_vr 9 0 184), some (ax_vi (nI k)), some (ax_vi s), some (ax_vi u), some (ax_vi (nI R.length - 1)), z], [], ax_mm I L) (ax_ki K) from this G.2.2 [] 0 0 none rfl hK
  intro R
  induction R with
  | nil =>
    intro P s u z hP hK
    apply vc_X9_holds_16
    have : (nI ([] : List Nat).length - 1 : Int32) < 0 := by decide
    exact ⟨fun _ => hK, fun q => absurd this (of_decide_eq_false q)⟩
  | cons v R ih =>
    intro P s u z hP hK
    have hv : v < T := hG.2.2.2.1 v (by rw [hP]; exact List.mem_append_right P List.mem_cons_self)
    have hnd : (P ++ v :: R).Nodup := hP ▸ hG.2.1
    have hlen : (P ++ v :: R).length ≤ 6 := by rw [← hP]; exact hl
    have hRl : R.length < 6 := by
      rw [List.length_append] at hlen
      have : P.length + (R.length + 1) ≤ 6 := hlen
      omega
    have hwh : ∀ w, sw_wh G.2.2 w = nI R.length ↔ w = v := fun w => by rw [hP]; exact sw_wh_iff P hnd (by omega)
    have hK : K (sw_hu un R (if ax_bt u v then (s, u) else (s ||| (1 : Int32) <<< (nI v &&& 31), u ||| un v))).1 I L := hK
    have e1 : nI (v :: R).length - 1 = nI R.length := nI_pred R.length
    apply vc_X9_holds_16
    rw [e1]
    simp (disch := omega) only [Bool.not_eq_false, Bool.not_eq_true, decide_eq_true_eq, decide_eq_false_iff_not, Bool.not_eq_true', Bool.not_eq_false', ax_lle, ax_llt, ax_lel, ax_ltl, ax_leq, ax_eql, ax_clampl, ax_inb_iff, nI_clamp, nI_1, nI_leI, nI_ltI, nI_eq, ax_b0, ax_b1, ax_bitb, ax_ui_eq, ax_ui_ne, true_and, and_true]
    refine ⟨fun q => by omega, fun _ => ?_⟩
    suffices ∀ (n w : Nat) (s u : Int32), w + n = T → K (sw_hu un R (if w ≤ v ∧ ax_bt u v = false then (s ||| (1 : Int32) <<< (nI v &&& 31), u ||| un v) else (s, u))).1 I L → ax_AK ((d + 1)) 191 (24, [some (ax_vr 9 0 184), some (ax_vi (nI k)), some (ax_vi s), some (ax_vi u), some (ax_vi (nI R.length)), some (ax_vi (nI w))], [], ax_mm I L) (ax_ki K) by
      refine this T 0 s u (by omega) ?_
      cases q : ax_bt u v with
      | true => rw [if_pos q] at hK; rw [if_neg (by simp)]; exact hK
      | false => rw [if_neg (by rw [q]; decide)] at hK; rw [if_pos ⟨by omega, rfl⟩]; exact hK
    clear hK
    intro n
    induction n with
    | zero =>
      intro w s u hw hK
      apply vc_X9_holds_24
      rw [t2, ← Int32.sub_eq_add_neg]
      simp (disch := omega) only [Bool.not_eq_false, Bool.not_eq_true, decide_eq_true_eq, decide_eq_false_iff_not, Bool.not_eq_true', Bool.not_eq_false', ax_lle, ax_llt, ax_lel, ax_ltl, ax_leq, ax_eql, ax_clampl, ax_inb_iff, nI_clamp, nI_1, nI_leI, nI_ltI, nI_eq, ax_b0, ax_b1, ax_bitb, ax_ui_eq, ax_ui_ne, true_and, and_true]
      refine ⟨fun _ => ?_, fun q => by omega⟩
      rw [if_neg (by omega)] at hK
      exact ih (P ++ [v]) s u _ (by rw [hP, List.append_assoc]; rfl) hK
    | succ n ih2 =>
      intro w s u hw hK
      apply vc_X9_holds_24
      rw [t2]
      simp (disch := omega) only [Bool.not_eq_false, Bool.not_eq_true, decide_eq_true_eq, decide_eq_false_iff_not, Bool.not_eq_true', Bool.not_eq_false', ax_lle, ax_llt, ax_lel, ax_ltl, ax_leq, ax_eql, ax_clampl, ax_inb_iff, nI_clamp, nI_1, nI_leI, nI_ltI, nI_eq, ax_b0, ax_b1, ax_bitb, ax_ui_eq, ax_ui_ne, true_and, and_true]
      refine ⟨fun q => by omega, fun _ => ?_⟩
      refine rf_v (a := 12) hk (by omega) ?_
      rw [f3 w (by omega)]
      refine ⟨fun q => ?_, fun q => ?_⟩
      · have q : ¬ w = v := fun e => q ((hwh w).mpr e)
        refine ih2 _ _ _ (by omega) ?_
        by_cases z2 : w ≤ v ∧ ax_bt u v = false
        · rw [if_pos z2] at hK; rw [if_pos ⟨by omega, z2.2⟩]; exact hK
        · rw [if_neg z2] at hK; rw [if_neg (fun y => z2 ⟨by omega, y.2⟩)]; exact hK
      · have q := (hwh w).mp q
        subst q
        refine rf_has (by omega) ?_
        simp (disch := omega) only [Bool.not_eq_false, Bool.not_eq_true, decide_eq_true_eq, decide_eq_false_iff_not, Bool.not_eq_true', Bool.not_eq_false', ax_lle, ax_llt, ax_lel, ax_ltl, ax_leq, ax_eql, ax_clampl, ax_inb_iff, nI_clamp, nI_1, nI_leI, nI_ltI, nI_eq, ax_b0, ax_b1, ax_bitb, ax_ui_eq, ax_ui_ne, true_and, and_true]
        refine ⟨fun q => ?_, fun q => ⟨by omega, ?_⟩⟩
        · refine ih2 _ _ _ (by omega) ?_
          rw [if_neg (by rw [q]; simp)] at hK
          rw [if_neg (by omega)]; exact hK
        · rw [t6 w (by omega)]
          refine ih2 _ _ _ (by omega) ?_
          rw [if_pos ⟨by omega, q⟩] at hK
          rw [if_neg (by omega)]; exact hK
theorem sw_gn_T {W : Nat → Nat → Nat} {un : Nat → Int32} {N T : Nat} {G : sw_G} {x : Nat} (hT : T ≤ 6) (hG : sw_GI N T G) : sw_gn W un G x = ax_it (fun w a => if ax_bt (sw_hd un G.2.2) w && decide (G.2.1 w = nI x) then a + W x w else a) T 0 0 := by
  unfold sw_gn
  have e : 6 = T + (6 - T) := by omega
  rw [e, ax_it_add, ax_it_id]
  intro i a h1 h2
  rw [if_neg]
  intro q
  rw [Bool.and_eq_true] at q
  have := hG.2.2.2.1 i (sw_hd_bt (by omega) (fun v hv => by have := hG.2.2.2.1 v hv; omega) q.1)
  omega
theorem rf_gainOf {d k x N T : Nat} {kd : Nat → Nat} {tl un : Nat → Int32} {W : Nat → Nat → Nat} {G : sw_G} {I : ax_I} {L : ax_J} {K : Int32 → ax_I → ax_J → Prop} (hT : sw_RT I N T kd tl un W) (hT6 : T ≤ 6) (hF : sw_FG (sw_fr I k) G) (hG : sw_GI N T G) (hk : k < 10) (hx : x < 6) (hK : K (nI (sw_gn W un G x)) I L) : ax_CI (d + 3) 192 [ax_vr 9 0 184, ax_vi (nI k), ax_vi (nI x)] I L K := by
  apply vc_X9_gainOf
  refine rf_holds hT hT6 hF hG hk ?_
  obtain ⟨f1, f2, f3, f4⟩ := hF
  obtain ⟨t1, t2, t3, t4, t5, t6⟩ := hT
  rw [sw_gn_T hT6 hG] at hK
  suffices ∀ (n w : Nat) (acc : Nat), w + n = T → K (nI (ax_it (fun w a => if ax_bt (sw_hd un G.2.2) w && decide (G.2.1 w = nI x) then a + W x w else a) n w acc)) I L → ax_AK ((d + 2)) 192 (12, [some (ax_vr 9 0 184), some (ax_vi (nI k)), some (ax_vi (nI x)), some (ax_vi (sw_hd un G.2.2)), some (ax_vi (nI acc)), some (ax_vi (nI w))], [], ax_mm I L) (ax_ki K) from this (T) 0 (0) (by omega) hK
  intro n
  induction n with
  | zero =>
    intro w acc hw hK
    apply vc_X9_gainOf_12
    simp (disch := omega) only [Bool.not_eq_false, Bool.not_eq_true, decide_eq_true_eq, decide_eq_false_iff_not, Bool.not_eq_true', Bool.not_eq_false', ax_lle, ax_llt, ax_lel, ax_ltl, ax_leq, ax_eql, ax_clampl, ax_inb_iff, nI_clamp, nI_1, nI_leI, nI_ltI, nI_eq, ax_b0, ax_b1, ax_bitb, ax_ui_eq, ax_ui_ne, true_and, and_true, t2]
    exact ⟨fun _ => hK, fun h => by omega⟩
  | succ n ih =>
    intro w acc hw hK
    apply vc_X9_gainOf_12
    simp (disch := omega) only [Bool.not_eq_false, Bool.not_eq_true, decide_eq_true_eq, decide_eq_false_iff_not, Bool.not_eq_true', Bool.not_eq_false', ax_lle, ax_llt, ax_lel, ax_ltl, ax_leq, ax_eql, ax_clampl, ax_inb_iff, nI_clamp, nI_1, nI_leI, nI_ltI, nI_eq, ax_b0, ax_b1, ax_bitb, ax_ui_eq, ax_ui_ne, true_and, and_true, t2]
    refine ⟨fun h => by omega, fun _ => ?_⟩
    replace hK : K (nI (ax_it (fun w a => if ax_bt (sw_hd un G.2.2) w && decide (G.2.1 w = nI x) then a + W x w else a) n (w + 1) ((fun w a => if ax_bt (sw_hd un G.2.2) w && decide (G.2.1 w = nI x) then a + W x w else a) w acc))) I L := hK
    try dsimp only at hK
    refine rf_has (by omega) ?_
    simp (disch := omega) only [Bool.not_eq_false, Bool.not_eq_true, decide_eq_true_eq, decide_eq_false_iff_not, Bool.not_eq_true', Bool.not_eq_false', ax_lle, ax_llt, ax_lel, ax_ltl, ax_leq, ax_eql, ax_clampl, ax_inb_iff, nI_clamp, nI_1, nI_leI, nI_ltI, nI_eq, ax_b0, ax_b1, ax_bitb, ax_ui_eq, ax_ui_ne, true_and, and_true]
    refine ⟨fun q => ?_, fun q => ?_⟩
    · rw [if_neg (by rw [q]; simp)] at hK
      rw [Int32.add_zero]
      exact ih _ _ (by omega) hK
    · refine rf_v (a := 6) hk (by omega) ?_
      rw [f2 w (by omega)]
      refine ⟨fun q2 => ?_, fun q2 => ?_⟩
      · rw [if_neg (by rw [q, decide_eq_false q2]; simp)] at hK
        rw [Int32.add_zero]
        exact ih _ _ (by omega) hK
      · rw [if_pos (by rw [q, decide_eq_true q2]; rfl)] at hK
        rw [show (6 : Int32) * nI x = nI (6 * x) from ax_nI_mul 6 x, nI_add]
        simp (disch := omega) only [Bool.not_eq_false, Bool.not_eq_true, decide_eq_true_eq, decide_eq_false_iff_not, Bool.not_eq_true', Bool.not_eq_false', ax_lle, ax_llt, ax_lel, ax_ltl, ax_leq, ax_eql, ax_clampl, ax_inb_iff, nI_clamp, nI_1, nI_leI, nI_ltI, nI_eq, ax_b0, ax_b1, ax_bitb, ax_ui_eq, ax_ui_ne, true_and, and_true, t5 x hx w (by omega), nI_add]
        exact ⟨by omega, ih _ _ (by omega) hK⟩
theorem rf_clear {d k : Nat} {I : ax_I} {L : ax_J} {K : ax_I → ax_J → Prop} (hk : k < 10) (hK : ∀ I', (∀ j, j < 31 → sw_fr I' k j = if j < 24 then -9 else 0) → sw_FO k I I' → ax_FR 199 199 I I' → K I' L) : ax_CV (d + 2) 187 [ax_vr 9 0 184, ax_vi (nI k)] I L K := by
  apply vc_X9_clear
  suffices ∀ (n w : Nat) (I1 : ax_I), w + n = 6 → (∀ i, i < w → sw_fr I1 k i = -9 ∧ sw_fr I1 k (6 + i) = -9 ∧ sw_fr I1 k (12 + i) = -9 ∧ sw_fr I1 k (18 + i) = -9 ∧ sw_fr I1 k (24 + i) = 0) → sw_FO k I I1 → ax_FR 199 199 I I1 → ax_AK ((d + 1)) 187 (2, [some (ax_vr 9 0 184), some (ax_vi (nI k)), some (ax_vi (nI w))], [], ax_mm I1 L) (ax_kv K) from this 6 0 I (by omega) (fun j hj => by omega) (fun _ _ => rfl) ax_FR.refl
  intro n
  induction n with
  | zero =>
    intro w I1 hw h1 h2 h3
    apply vc_X9_clear_2
    simp (disch := omega) only [Bool.not_eq_false, Bool.not_eq_true, decide_eq_true_eq, decide_eq_false_iff_not, Bool.not_eq_true', Bool.not_eq_false', ax_lle, ax_llt, ax_lel, ax_ltl, ax_leq, ax_eql, ax_clampl, ax_inb_iff, nI_clamp, nI_1, nI_leI, nI_ltI, nI_eq, ax_b0, ax_b1, ax_bitb, ax_ui_eq, ax_ui_ne, true_and, and_true]
    refine ⟨fun _ => ?_, fun h => by omega⟩
    refine rf_set (a := 30) (i := 0) hk (by omega) ?_
    refine hK _ ?_ ?_ (h3.ui (by omega) (by omega))
    · intro j hj
      unfold sw_fr
      by_cases q : j = 30
      · rw [q, if_neg (by omega)]; exact ax_ui_eq
      · rw [ax_ui_ne (by omega)]
        by_cases q1 : j < 6
        · rw [if_pos (by omega)]; exact (h1 j (by omega)).1
        · by_cases q2 : j < 12
          · rw [if_pos (by omega), show j = 6 + (j - 6) by omega]; exact (h1 (j - 6) (by omega)).2.1
          · by_cases q3 : j < 18
            · rw [if_pos (by omega), show j = 12 + (j - 12) by omega]; exact (h1 (j - 12) (by omega)).2.2.1
            · by_cases q4 : j < 24
              · rw [if_pos (by omega), show j = 18 + (j - 18) by omega]; exact (h1 (j - 18) (by omega)).2.2.2.1
              · rw [if_neg (by omega), show j = 24 + (j - 24) by omega]; exact (h1 (j - 24) (by omega)).2.2.2.2
    · intro b hb; rw [ax_ui_ne (by omega)]; exact h2 b hb
  | succ n ih =>
    intro w I1 hw h1 h2 h3
    apply vc_X9_clear_2
    simp (disch := omega) only [Bool.not_eq_false, Bool.not_eq_true, decide_eq_true_eq, decide_eq_false_iff_not, Bool.not_eq_true', Bool.not_eq_false', ax_lle, ax_llt, ax_lel, ax_ltl, ax_leq, ax_eql, ax_clampl, ax_inb_iff, nI_clamp, nI_1, nI_leI, nI_ltI, nI_eq, ax_b0, ax_b1, ax_bitb, ax_ui_eq, ax_ui_ne, true_and, and_true]
    refine ⟨fun h => by omega, fun _ => ?_⟩
    refine rf_set (a := 0) hk (by omega) ?_
    refine rf_set (a := 6) hk (by omega) ?_
    refine rf_set (a := 12) hk (by omega) ?_
    refine rf_set (a := 18) hk (by omega) ?_
    refine rf_set (a := 24) hk (by omega) ?_
    refine ih _ _ (by omega) ?_ ?_ (((((h3.ui (by omega) (by omega)).ui (by omega) (by omega)).ui (by omega) (by omega)).ui (by omega) (by omega)).ui (by omega) (by omega))
    · intro i hi
      unfold sw_fr
      by_cases q : i = w
      · subst q
        refine ⟨?_, ?_, ?_, ?_, ?_⟩
        · rw [ax_ui_ne (by omega), ax_ui_ne (by omega), ax_ui_ne (by omega), ax_ui_ne (by omega), Nat.zero_add, ax_ui_eq]
        · rw [ax_ui_ne (by omega), ax_ui_ne (by omega), ax_ui_ne (by omega), ax_ui_eq]
        · rw [ax_ui_ne (by omega), ax_ui_ne (by omega), ax_ui_eq]
        · rw [ax_ui_ne (by omega), ax_ui_eq]
        · rw [ax_ui_eq]
      · have := h1 i (by omega)
        unfold sw_fr at this
        refine ⟨?_, ?_, ?_, ?_, ?_⟩
        · rw [ax_ui_ne (by omega), ax_ui_ne (by omega), ax_ui_ne (by omega), ax_ui_ne (by omega), ax_ui_ne (by omega)]; exact this.1
        · rw [ax_ui_ne (by omega), ax_ui_ne (by omega), ax_ui_ne (by omega), ax_ui_ne (by omega), ax_ui_ne (by omega)]; exact this.2.1
        · rw [ax_ui_ne (by omega), ax_ui_ne (by omega), ax_ui_ne (by omega), ax_ui_ne (by omega), ax_ui_ne (by omega)]; exact this.2.2.1
        · rw [ax_ui_ne (by omega), ax_ui_ne (by omega), ax_ui_ne (by omega), ax_ui_ne (by omega), ax_ui_ne (by omega)]; exact this.2.2.2.1
        · rw [ax_ui_ne (by omega), ax_ui_ne (by omega), ax_ui_ne (by omega), ax_ui_ne (by omega), ax_ui_ne (by omega)]; exact this.2.2.2.2
    · intro b hb
      rw [ax_ui_ne (by omega), ax_ui_ne (by omega), ax_ui_ne (by omega), ax_ui_ne (by omega), ax_ui_ne (by omega)]; exact h2 b hb
theorem rf_thingsBy {d a N T : Nat} {kd : Nat → Nat} {tl un : Nat → Int32} {W : Nat → Nat → Nat} {x : Int32} {q : Nat → Int32} {I : ax_I} {L : ax_J} {K : Int32 → ax_I → ax_J → Prop} (hT : sw_RT I N T kd tl un W) (hT6 : T ≤ 6) (ha : a ≤ 24) (hq : ∀ w, w < 6 → sw_fr I 0 (a + w) = q w) (hK : K (ax_ms T (fun w => decide (q w = x))) I L) : ax_CI (d + 2) 193 [ax_vr 9 0 184, ax_vi (nI a), ax_vi x] I L K := by
  obtain ⟨t1, t2, t3, t4, t5, t6⟩ := hT
  apply vc_X9_thingsBy
  suffices ∀ (n w : Nat) (acc : Int32), w + n = T → K (ax_it (ax_sb (fun w => decide (q w = x))) n w acc) I L → ax_AK ((d + 1)) 193 (5, [some (ax_vr 9 0 184), some (ax_vi (nI a)), some (ax_vi x), some (ax_vi acc), some (ax_vi (nI w))], [], ax_mm I L) (ax_ki K) from this (T) 0 (0) (by omega) hK
  intro n
  induction n with
  | zero =>
    intro w acc hw hK
    apply vc_X9_thingsBy_5
    simp (disch := omega) only [Bool.not_eq_false, Bool.not_eq_true, decide_eq_true_eq, decide_eq_false_iff_not, Bool.not_eq_true', Bool.not_eq_false', ax_lle, ax_llt, ax_lel, ax_ltl, ax_leq, ax_eql, ax_clampl, ax_inb_iff, nI_clamp, nI_1, nI_leI, nI_ltI, nI_eq, ax_b0, ax_b1, ax_bitb, ax_ui_eq, ax_ui_ne, true_and, and_true, t2]
    exact ⟨fun _ => hK, fun h => by omega⟩
  | succ n ih =>
    intro w acc hw hK
    apply vc_X9_thingsBy_5
    simp (disch := omega) only [Bool.not_eq_false, Bool.not_eq_true, decide_eq_true_eq, decide_eq_false_iff_not, Bool.not_eq_true', Bool.not_eq_false', ax_lle, ax_llt, ax_lel, ax_ltl, ax_leq, ax_eql, ax_clampl, ax_inb_iff, nI_clamp, nI_1, nI_leI, nI_ltI, nI_eq, ax_b0, ax_b1, ax_bitb, ax_ui_eq, ax_ui_ne, true_and, and_true, t2]
    refine ⟨fun h => by omega, fun _ => ?_⟩
    replace hK : K (ax_it (ax_sb (fun w => decide (q w = x))) n (w + 1) ((ax_sb (fun w => decide (q w = x))) w acc)) I L := hK
    try dsimp only at hK
    refine rf_v (k := 0) (by omega) (by omega) ?_
    rw [hq w (by omega)]
    refine ⟨fun z => ?_, fun z => ih _ _ (by omega) ?_⟩
    · rw [Int32.or_zero]
      refine ih _ _ (by omega) ?_
      rw [ax_sb_0 (decide_eq_false z)] at hK; exact hK
    · rw [ax_sb_t (decide_eq_true z)] at hK; exact hK
theorem rf_tries {d k x w N T : Nat} {kd : Nat → Nat} {tl un : Nat → Int32} {W : Nat → Nat → Nat} {G : sw_G} {I : ax_I} {L : ax_J} {K : ax_I → ax_J → Prop} (hT : sw_RT I N T kd tl un W) (hg : sw_TG N T kd tl un) (hF : sw_FG (sw_fr I k) G) (hk : k < 9) (hx : x < N) (hw : w < 6) (hK : ∀ I', sw_FG (sw_fr I' (k + 1)) (sw_ws kd G x w) → sw_FO (k + 1) I I' → ax_FR 199 199 I I' → K I' L) : ax_CV (d + 4) 215 [ax_vr 9 0 184, ax_vi (nI k), ax_vi (nI x), ax_vi (nI w)] I L K := by
  apply vc_X9_tries
  simp (disch := omega) only [Bool.not_eq_false, Bool.not_eq_true, decide_eq_true_eq, decide_eq_false_iff_not, Bool.not_eq_true', Bool.not_eq_false', ax_lle, ax_llt, ax_lel, ax_ltl, ax_leq, ax_eql, ax_clampl, ax_inb_iff, nI_clamp, nI_1, nI_leI, nI_ltI, nI_eq, ax_b0, ax_b1, ax_bitb, ax_ui_eq, ax_ui_ne, true_and, and_true]
  refine rf_copyTo (by omega) (by omega) (by omega) (fun I1 c1 o1 r1 => ?_)
  have hF1 : sw_FG (sw_fr I1 (k + 1)) G := hF.same c1
  refine ⟨fun q => by omega, fun _ => ?_⟩
  refine rf_says (hT.f199 r1) hg hF1 (by omega) hx hw (fun I2 c2 o2 r2 => ?_)
  exact hK I2 (hF1.wish hg.1 hw c2) (fun b hb => (o2 b hb).trans (o1 b hb)) (r1.trans r2)
theorem rf_tries9 {d k x N T : Nat} {kd : Nat → Nat} {tl un : Nat → Int32} {W : Nat → Nat → Nat} {G : sw_G} {I : ax_I} {L : ax_J} {K : ax_I → ax_J → Prop} (hT : sw_RT I N T kd tl un W) (hF : sw_FG (sw_fr I k) G) (hk : k < 9) (hK : ∀ I', sw_FG (sw_fr I' (k + 1)) G → sw_FO (k + 1) I I' → ax_FR 199 199 I I' → K I' L) : ax_CV (d + 4) 215 [ax_vr 9 0 184, ax_vi (nI k), ax_vi (nI x), ax_vi 9] I L K := by
  apply vc_X9_tries
  simp (disch := omega) only [Bool.not_eq_false, Bool.not_eq_true, decide_eq_true_eq, decide_eq_false_iff_not, Bool.not_eq_true', Bool.not_eq_false', ax_lle, ax_llt, ax_lel, ax_ltl, ax_leq, ax_eql, ax_clampl, ax_inb_iff, nI_clamp, nI_1, nI_leI, nI_ltI, nI_eq, ax_b0, ax_b1, ax_bitb, ax_ui_eq, ax_ui_ne, true_and, and_true]
  refine rf_copyTo (by omega) (by omega) (by omega) (fun I1 c1 o1 r1 => ?_)
  exact ⟨fun _ => hK I1 (hF.same c1) o1 r1, fun q => absurd trivial q⟩
