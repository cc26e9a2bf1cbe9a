/-! needs: 21c 21d 30 31 32 33 34 35 41 -/
/-- what a WISH makes of a frame -/
def sw_sf (N : Nat) (kd : Nat → Nat) (tl : Nat → Int32) (G : sw_G) (x w : Nat) (f : Nat → Int32) (j : Nat) : Int32 :=
  if sw_out kd G x w = 1 then (if j = w then nI x else if 24 ≤ j ∧ j < 24 + N then f j ||| (if sw_hp N kd tl x (j - 24) then (1 : Int32) <<< (nI w &&& 31) else 0) else f j)
  else if sw_out kd G x w = 2 then (if j = 6 + w then sw_own kd G x w else if j = 12 + w then f 30 else if j = 18 + w then nI x else if j = 30 then f 30 + 1 else f j)
  else f j
def sw_sa (o : Nat) : Int32 := if o = 2 then 1 else if o = 1 then 0 else -9
theorem sw_FG.wish {N : Nat} {kd : Nat → Nat} {tl : Nat → Int32} {G : sw_G} {x w : Nat} {f g : Nat → Int32} (h : sw_FG f G) (hN : N ≤ 6) (hw : w < 6) (hg : ∀ j, j < 31 → g j = sw_sf N kd tl G x w f j) : sw_FG g (sw_ws kd G x w) := by
  obtain ⟨h1, h2, h3, h4⟩ := h
  have le := sw_out_le (kd := kd) (G := G) (x := x) (w := w)
  have h012 : sw_out kd G x w = 0 ∨ sw_out kd G x w = 1 ∨ sw_out kd G x w = 2 := by omega
  rcases h012 with e | e | e
  · have hg : ∀ j, j < 31 → g j = f j := by
      intro j hj
      rw [hg j hj]; unfold sw_sf; rw [if_neg (by omega), if_neg (by omega)]
    rw [sw_ws_0 e]
    exact ⟨fun v hv => by rw [hg _ (by omega)]; exact h1 v hv, fun v hv => by rw [hg _ (by omega)]; exact h2 v hv, fun v hv => by rw [hg _ (by omega)]; exact h3 v hv, by rw [hg _ (by omega)]; exact h4⟩
  · have hg : ∀ j, j < 24 ∨ j = 30 → g j = if j = w then nI x else f j := by
      intro j hj
      rw [hg j (by omega)]; unfold sw_sf; rw [if_pos e]
      by_cases q : j = w
      · rw [if_pos q, if_pos q]
      · rw [if_neg q, if_neg q, if_neg (by omega)]
    rw [(sw_ws_1 e).2]
    refine ⟨fun v hv => ?_, fun v hv => ?_, fun v hv => ?_, ?_⟩
    · rw [hg _ (by omega)]
      by_cases q : v = w
      · rw [if_pos q, q]; exact sw_up_eq.symm
      · rw [if_neg q, h1 v hv]; exact (sw_up_ne q).symm
    · rw [hg _ (by omega), if_neg (by omega)]; exact h2 v hv
    · rw [hg _ (by omega), if_neg (by omega)]; exact h3 v hv
    · rw [hg _ (by omega), if_neg (by omega)]; exact h4
  · have hg : ∀ j, j < 31 → g j = (if j = 6 + w then sw_own kd G x w else if j = 12 + w then f 30 else if j = 18 + w then nI x else if j = 30 then f 30 + 1 else f j) := by
      intro j hj
      rw [hg j (by omega)]; unfold sw_sf; rw [if_neg (by omega), if_pos e]
    rw [(sw_ws_2 e).2.2]
    refine ⟨fun v hv => ?_, fun v hv => ?_, fun v hv => ?_, ?_⟩
    · rw [hg _ (by omega), if_neg (by omega), if_neg (by omega), if_neg (by omega), if_neg (by omega)]; exact h1 v hv
    · rw [hg _ (by omega)]
      by_cases q : v = w
      · rw [if_pos (by omega), q]; exact sw_up_eq.symm
      · rw [if_neg (by omega), if_neg (by omega), if_neg (by omega), if_neg (by omega), h2 v hv]; exact (sw_up_ne q).symm
    · rw [hg _ (by omega), if_neg (by omega)]
      show _ = if v = w then nI G.2.2.length else sw_wh G.2.2 v
      by_cases q : v = w
      · rw [if_pos (by omega), if_pos q]; exact h4
      · rw [if_neg (by omega), if_neg (by omega), if_neg (by omega), if_neg q]; exact h3 v hv
    · rw [hg _ (by omega), if_neg (by omega), if_neg (by omega), if_neg (by omega), if_pos rfl, h4, nI_1]; rfl
theorem rf_says {d k x w N T : Nat} {kd : Nat → Nat} {tl un : Nat → Int32} {W : Nat → Nat → Nat} {G : sw_G} {I : ax_I} {L : ax_J} {K : Int32 → ax_I → ax_J → Prop} (hT : sw_RT I N T kd tl un W) (hg : sw_TG N T kd tl un) (hF : sw_FG (sw_fr I k) G) (hk : k < 10) (hx : x < N) (hw : w < 6) (hK : ∀ I', (∀ j, j < 31 → sw_fr I' k j = sw_sf N kd tl G x w (sw_fr I k) j) → sw_FO k I I' → ax_FR 199 199 I I' → K (sw_sa (sw_out kd G x w)) I' L) : ax_CI (d + 3) 190 [ax_vr 9 0 184, ax_vi (nI k), ax_vi (nI x), ax_vi (nI w)] I L K := by
  have hN := hg.1
  have hk6 := hg.2.2.2.1 x hx
  have le := sw_out_le (kd := kd) (G := G) (x := x) (w := w)
  apply vc_X9_says
  refine rf_grants hT hg hF hk hx hw ?_
  have hgp : sw_gp kd G x w = true ↔ sw_out kd G x w = 2 := by
    unfold sw_gp sw_out
    by_cases h1 : G.1 w = -9
    · simp [h1]
    · by_cases h2 : G.2.1 w = -9
      · by_cases h3 : G.1 w = nI x
        · by_cases h4 : kd x = 5 <;> simp [h1, h2, h3, h4, ax_ne9 (show x < 2 ^ 31 by omega)]
        · simp [h1, h2, h3]
      · simp [h1, h2]
  simp (disch := omega) only [Bool.not_eq_false, Bool.not_eq_true, decide_eq_true_eq, decide_eq_false_iff_not, Bool.not_eq_true', Bool.not_eq_false', ax_lle, ax_llt, ax_lel, ax_ltl, ax_leq, ax_eql, ax_clampl, ax_inb_iff, nI_clamp, nI_1, nI_leI, nI_ltI, nI_eq, ax_b0, ax_b1, ax_bitb, ax_ui_eq, ax_ui_ne, true_and, and_true]
  refine ⟨fun q => ?_, fun q => ?_⟩
  · refine rf_v (a := 0) hk (by omega) ?_
    rw [Nat.zero_add, hF.1 w hw]
    refine ⟨fun q2 => ?_, fun q2 => ?_⟩
    · have e : sw_out kd G x w = 1 := by unfold sw_out; rw [if_pos q2]
      have hK : ∀ I', (∀ j, j < 31 → sw_fr I' k j = sw_sf N kd tl G x w (sw_fr I k) j) → sw_FO k I I' → ax_FR 199 199 I I' → K 0 I' L := by
        rw [e] at hK; exact hK
      refine rf_set (a := 0) hk (by omega) ?_
      have hT1 : sw_RT (ax_ui I 199 (31 * k + (0 + w)) (nI x)) N T kd tl un W := by
        unfold sw_RT
        rw [ax_ui_row (by omega), ax_ui_row (by omega), ax_ui_row (by omega), ax_ui_row (by omega), ax_ui_row (by omega)]; exact hT
      refine rf_hearsOf hT1 hg hx ?_
      suffices ∀ (n y : Nat) (I1 : ax_I) (z : Option ax_V), y + n = N → (∀ j, j < 31 → sw_fr I1 k j = (if j = w then nI x else if 24 ≤ j ∧ j < 24 + y then sw_fr I k j ||| (if sw_hp N kd tl x (j - 24) then (1 : Int32) <<< (nI w &&& 31) else 0) else sw_fr I k j)) → sw_FO k I I1 → ax_FR 199 199 I I1 → ax_AK ((d + 2)) 190 (117, [some (ax_vr 9 0 184), some (ax_vi (nI k)), z, some (ax_vi (nI w)), some (ax_vi (sw_hr N kd tl x)), some (ax_vi (nI y))], [], ax_mm I1 L) (ax_ki K) by
        refine this N 0 _ _ (by omega) ?_ ?_ (ax_FR.refl.ui (by omega) (by omega))
        · intro j hj
          unfold sw_fr
          by_cases z : j = w
          · rw [if_pos z, z, Nat.zero_add, ax_ui_eq]
          · rw [if_neg z, ax_ui_ne (by omega), if_neg (by omega)]
        · intro b hb
          rw [ax_ui_ne (by omega)]
      intro n
      induction n with
      | zero =>
        intro y I1 z hy h1 h2 h3
        apply vc_X9_says_117
        rw [h3 184 (by omega), hT.1]
        simp (disch := omega) only [Bool.not_eq_false, Bool.not_eq_true, decide_eq_true_eq, decide_eq_false_iff_not, Bool.not_eq_true', Bool.not_eq_false', ax_lle, ax_llt, ax_lel, ax_ltl, ax_leq, ax_eql, ax_clampl, ax_inb_iff, nI_clamp, nI_1, nI_leI, nI_ltI, nI_eq, ax_b0, ax_b1, ax_bitb, ax_ui_eq, ax_ui_ne, true_and, and_true]
        refine ⟨fun _ => hK I1 ?_ h2 h3, fun h => by omega⟩
        intro j hj
        rw [h1 j hj]; unfold sw_sf
        have : y = N := by omega
        rw [if_pos e, this]
      | succ n ih =>
        intro y I1 z hy h1 h2 h3
        apply vc_X9_says_117
        rw [h3 184 (by omega), hT.1]
        simp (disch := omega) only [Bool.not_eq_false, Bool.not_eq_true, decide_eq_true_eq, decide_eq_false_iff_not, Bool.not_eq_true', Bool.not_eq_false', ax_lle, ax_llt, ax_lel, ax_ltl, ax_leq, ax_eql, ax_clampl, ax_inb_iff, nI_clamp, nI_1, nI_leI, nI_ltI, nI_eq, ax_b0, ax_b1, ax_bitb, ax_ui_eq, ax_ui_ne, true_and, and_true]
        refine ⟨fun h => by omega, fun _ => ?_⟩
        refine rf_v (a := 24) hk (by omega) ?_
        refine rf_has (by omega) ?_
        have hb : ax_bt (sw_hr N kd tl x) y = sw_hp N kd tl x y := by
          unfold sw_hr; rw [ax_bt_ms (by omega), decide_eq_true (by omega), Bool.true_and]
        have step : ∀ v : Int32, v = (if sw_hp N kd tl x y then (1 : Int32) <<< (nI w &&& 31) else 0) → ax_CV (d + 2) 185 [ax_vr 9 0 184, ax_vi (nI k), ax_vi 24, ax_vi (nI y), ax_vi (sw_fr I1 k (24 + y) ||| v)] I1 L (fun I4 L5 => ax_AK (d + 2) 190 (117, [some (ax_vr 9 0 184), some (ax_vi (nI k)), none, some (ax_vi (nI w)), some (ax_vi (sw_hr N kd tl x)), some (ax_vi (nI (y + 1)))], [], ax_mm I4 L5) (ax_ki K)) := by
          intro v hv
          refine rf_set (a := 24) hk (by omega) ?_
          refine ih _ _ _ (by omega) ?_ ?_ (h3.ui (by omega) (by omega))
          · intro j hj
            unfold sw_fr
            by_cases z : j = 24 + y
            · rw [z, ax_ui_eq, hv, if_neg (show ¬ 24 + y = w by omega), if_pos (show 24 ≤ 24 + y ∧ 24 + y < 24 + (y + 1) by omega), show 24 + y - 24 = y by omega]
              have := h1 (24 + y) (by omega)
              rw [if_neg (show ¬ 24 + y = w by omega), if_neg (show ¬ (24 ≤ 24 + y ∧ 24 + y < 24 + y) by omega)] at this
              unfold sw_fr at this
              rw [this]
            · rw [ax_ui_ne (by omega)]
              have := h1 j hj
              unfold sw_fr at this
              rw [this]
              by_cases z2 : j = w
              · rw [if_pos z2, if_pos z2]
              · rw [if_neg z2, if_neg z2]
                by_cases z3 : 24 ≤ j ∧ j < 24 + y
                · rw [if_pos z3, if_pos (show 24 ≤ j ∧ j < 24 + (y + 1) by omega)]
                · rw [if_neg z3, if_neg (show ¬ (24 ≤ j ∧ j < 24 + (y + 1)) by omega)]
          · intro b hb
            rw [ax_ui_ne (by omega)]; exact h2 b hb
        simp (disch := omega) only [Bool.not_eq_false, Bool.not_eq_true, decide_eq_true_eq, decide_eq_false_iff_not, Bool.not_eq_true', Bool.not_eq_false', ax_lle, ax_llt, ax_lel, ax_ltl, ax_leq, ax_eql, ax_clampl, ax_inb_iff, nI_clamp, nI_1, nI_leI, nI_ltI, nI_eq, ax_b0, ax_b1, ax_bitb, ax_ui_eq, ax_ui_ne, true_and, and_true]
        rw [hb]
        refine ⟨fun z => step 0 ?_, fun z => step _ ?_⟩
        · rw [z]; rfl
        · rw [z]; rfl
    · have e : sw_out kd G x w = 0 := by
        have : ¬ sw_out kd G x w = 2 := fun z => by rw [hgp.mpr z] at q; cases q
        have : ¬ sw_out kd G x w = 1 := fun z => q2 (sw_ws_1 z).1
        omega
      rw [e] at hK
      refine hK I ?_ (fun _ _ => rfl) ax_FR.refl
      intro j hj
      unfold sw_sf; rw [if_neg (by omega), if_neg (by omega)]
  · have e := hgp.mp q
    have hK : ∀ I', (∀ j, j < 31 → sw_fr I' k j = sw_sf N kd tl G x w (sw_fr I k) j) → sw_FO k I I' → ax_FR 199 199 I I' → K 1 I' L := by
      rw [e] at hK; exact hK
    have fin : ∀ v : Int32, v = sw_own kd G x w → K 1 (ax_ui (ax_ui (ax_ui (ax_ui I 199 (31 * k + (6 + w)) v) 199 (31 * k + (12 + w)) (sw_fr I k 30)) 199 (31 * k + (18 + w)) (nI x)) 199 (31 * k + (30 + 0)) (sw_fr I k 30 + 1)) L := by
      intro v hv
      refine hK _ ?_ ?_ ((((ax_FR.refl.ui (by omega) (by omega)).ui (by omega) (by omega)).ui (by omega) (by omega)).ui (by omega) (by omega))
      · intro j hj
        unfold sw_sf
        rw [if_neg (by omega), if_pos e]
        show ax_ui _ _ _ _ 199 (31 * k + j) = _
        by_cases z1 : j = 6 + w
        · rw [if_pos z1, z1, ax_ui_ne (by omega), ax_ui_ne (by omega), ax_ui_ne (by omega), ax_ui_eq, hv]
        · by_cases z2 : j = 12 + w
          · rw [if_neg z1, if_pos z2, z2, ax_ui_ne (by omega), ax_ui_ne (by omega), ax_ui_eq]
          · by_cases z3 : j = 18 + w
            · rw [if_neg z1, if_neg z2, if_pos z3, z3, ax_ui_ne (by omega), ax_ui_eq]
            · by_cases z4 : j = 30
              · rw [if_neg z1, if_neg z2, if_neg z3, if_pos z4, z4]; exact ax_ui_eq
              · rw [if_neg z1, if_neg z2, if_neg z3, if_neg z4, ax_ui_ne (by omega), ax_ui_ne (by omega), ax_ui_ne (by omega), ax_ui_ne (by omega)]; rfl
      · intro b hb
        rw [ax_ui_ne (by omega), ax_ui_ne (by omega), ax_ui_ne (by omega), ax_ui_ne (by omega)]
    have r30 : ∀ (a : Nat) (v : Int32) (I1 : ax_I), a < 30 → sw_fr I1 k 30 = sw_fr I k 30 → sw_fr (ax_ui I1 199 (31 * k + a) v) k 30 = sw_fr I k 30 := by
      intro a v I1 ha h
      rw [← h]; unfold sw_fr; rw [ax_ui_ne (by omega)]
    rw [hT.2.2.1 x hx]
    simp (disch := omega) only [Bool.not_eq_false, Bool.not_eq_true, decide_eq_true_eq, decide_eq_false_iff_not, Bool.not_eq_true', Bool.not_eq_false', ax_lle, ax_llt, ax_lel, ax_ltl, ax_leq, ax_eql, ax_clampl, ax_inb_iff, nI_clamp, nI_1, nI_leI, nI_ltI, nI_eq, ax_b0, ax_b1, ax_bitb, ax_ui_eq, ax_ui_ne, true_and, and_true]
    refine ⟨by omega, fun q => ?_, fun q => ?_⟩
    · refine rf_set (a := 6) hk (by omega) ?_
      refine rf_v (a := 30) (i := 0) hk (by omega) ?_
      refine rf_set (a := 12) hk (by omega) ?_
      refine rf_set (a := 18) hk (by omega) ?_
      refine rf_v (a := 30) (i := 0) hk (by omega) ?_
      refine rf_set (a := 30) (i := 0) hk (by omega) ?_
      rw [show 30 + 0 = 30 from rfl, r30 (18 + w) _ _ (by omega) (r30 (12 + w) _ _ (by omega) (r30 (6 + w) _ _ (by omega) rfl)), r30 (6 + w) _ _ (by omega) rfl]
      exact fin _ (by unfold sw_own; rw [if_neg q])
    · refine rf_v (a := 0) hk (by omega) ?_
      rw [Nat.zero_add, hF.1 w hw]
      refine rf_set (a := 6) hk (by omega) ?_
      refine rf_v (a := 30) (i := 0) hk (by omega) ?_
      refine rf_set (a := 12) hk (by omega) ?_
      refine rf_set (a := 18) hk (by omega) ?_
      refine rf_v (a := 30) (i := 0) hk (by omega) ?_
      refine rf_set (a := 30) (i := 0) hk (by omega) ?_
      rw [show 30 + 0 = 30 from rfl, r30 (18 + w) _ _ (by omega) (r30 (12 + w) _ _ (by omega) (r30 (6 + w) _ _ (by omega) rfl)), r30 (6 + w) _ _ (by omega) rfl]
      exact fin _ (by unfold sw_own; rw [if_pos q])
