theorem cl_withThing {d o x k m w N T : Nat} {W : Nat → Nat → Nat} {G : sw_G} {I : ax_I} {L : ax_J} {K : Int32 → ax_I → ax_J → Prop} (hD : sw_DA I o W G) (hk : k + 1 ≤ N) (hx : x = N - (k + 1)) (hN : N ≤ 6) (hT : T ≤ 6) (hm2 : m < 2 ^ T) (hw : w < 6) (hrow : ∀ m, m < 2 ^ T → I (108 + (1 + (N - k))) m = nI (sw_mo N T W k m)) (hK : K (nI (W x w + sw_mo N T W k (sw_cl m w))) I L) : ax_CI (d + 1) 47 [ax_vr 3 0 107, ax_vr 1 0 o, ax_vi (nI x), ax_vi (nI m), ax_vi (nI w)] I L K := by
  have h64 := sw_2le T hT
  have hc := sw_cl_le (m := m) (w := w)
  apply vc_X3_withThing
  rw [sw_cl64 m (by omega) w hw]
  simp (disch := omega) only [Bool.not_eq_false, Bool.not_eq_true, decide_eq_true_eq, decide_eq_false_iff_not, Bool.not_eq_true', Bool.not_eq_false', ax_lle, ax_llt, ax_lel, ax_ltl, ax_leq, ax_eql, ax_clampl, ax_inb_iff, nI_clamp, nI_1, nI_leI, nI_ltI, nI_eq, ax_b0, ax_b1, ax_bitb, ax_ui_eq, ax_ui_ne, true_and, and_true]
  have e1 := hD.1 x (by omega) w hw
  have e2 := hrow (sw_cl m w) (by omega)
  rw [show N - k = x + 1 by omega] at e2
  rw [e1, e2, nI_add]
  exact ⟨by omega, by omega, by omega, by omega, hK⟩
theorem cl_fillFromLast {d N T : Nat} {kd : Nat → Nat} {tl un : Nat → Int32} {W : Nat → Nat → Nat} {G : sw_G} {I : ax_I} {L : ax_J} {K : ax_I → ax_J → Prop} (hP : sw_TP I 6 N T kd tl un) (hD : sw_DA I 10 W G) (hW : ∀ x w, W x w ≤ 9) (hN : N ≤ 6) (hT : T ≤ 6) (hK : ∀ I', (∀ k, k ≤ N → ∀ m, m < 2 ^ T → I' (108 + (1 + (N - k))) m = nI (sw_mo N T W k m)) → ax_FR 109 115 I I' → K I' L) : ax_CV (d + 2) 46 [ax_vr 3 0 107, ax_vr 7 0 6, ax_vr 1 0 10] I L K := by
  have h64 := sw_2le T hT
  apply vc_X3_fillFromLast
  rw [hP.1, nI_clamp (by omega)]
  refine ⟨ax_inb_nI (by omega) (by omega), ?_⟩
  refine cl_fill (by omega) (fun I1 g1 f1 => ?_)
  rw [f1 6 (by omega), hP.1]
  suffices ∀ (j : Nat) (I2 : ax_I) (z4 z5 z6 : Option ax_V), j ≤ N → (∀ k, k ≤ N - j → ∀ m, m < 2 ^ T → I2 (108 + (1 + (N - k))) m = nI (sw_mo N T W k m)) → ax_FR 109 115 I I2 → ax_AK ((d + 1)) 46 (20, [some (ax_vr 3 0 107), some (ax_vr 7 0 6), some (ax_vr 1 0 10), some (ax_vi (nI j - 1)), z4, z5, z6], [], ax_mm I2 L) (ax_kv K) from this N I1 none none none (Nat.le_refl _) (fun k hk m hm => by
    have : k = 0 := by omega
    subst this
    exact g1 m (by omega)) (f1.wide (by omega) (by omega))
  intro j
  induction j with
  | zero =>
    intro I2 z4 z5 z6 hj h2 f2
    apply vc_X3_fillFromLast_20
    have : (nI 0 - 1 : Int32) < 0 := by decide
    exact ⟨fun _ => hK I2 (fun k hk => h2 k (by omega)) f2, fun q => absurd this (of_decide_eq_false q)⟩
  | succ j ihj =>
    intro I2 z4 z5 z6 hj h2 f2
    apply vc_X3_fillFromLast_20
    rw [nI_pred]
    simp (disch := omega) only [Bool.not_eq_false, Bool.not_eq_true, decide_eq_true_eq, decide_eq_false_iff_not, Bool.not_eq_true', Bool.not_eq_false', ax_lle, ax_llt, ax_lel, ax_ltl, ax_leq, ax_eql, ax_clampl, ax_inb_iff, nI_clamp, nI_1, nI_leI, nI_ltI, nI_eq, ax_b0, ax_b1, ax_bitb, ax_ui_eq, ax_ui_ne, true_and, and_true]
    refine ⟨fun q => by omega, fun _ => ?_⟩
    have ek : N - (j + 1) + 1 = N - j := by omega
    have ex : N - (N - (j + 1)) = j + 1 := by omega
    have ex2 : N - (N - (j + 1) + 1) = j := by omega
    suffices ∀ (i m : Nat) (I3 : ax_I) (z5 z6 : Option ax_V), m + i = 2 ^ T → (∀ m', m' < m → I3 (108 + (1 + j)) m' = nI (sw_mo N T W (N - (j + 1) + 1) m')) → (∀ k, k ≤ N - (j + 1) → ∀ m, m < 2 ^ T → I3 (108 + (1 + (N - k))) m = nI (sw_mo N T W k m)) → ax_FR 109 115 I I3 → ax_AK ((d + 1)) 46 (27, [some (ax_vr 3 0 107), some (ax_vr 7 0 6), some (ax_vr 1 0 10), some (ax_vi (nI j)), some (ax_vi (nI m)), z5, z6], [], ax_mm I3 L) (ax_kv K) from this (2 ^ T) 0 I2 none none (by omega) (fun m hm => by omega) h2 f2
    intro i
    induction i with
    | zero =>
      intro m I3 z5 z6 hm h3 h4 f3
      apply vc_X3_fillFromLast_27
      rw [f3 6 (by omega), hP.2.1, sw_p2 T hT, ← Int32.sub_eq_add_neg]
      simp (disch := omega) only [Bool.not_eq_false, Bool.not_eq_true, decide_eq_true_eq, decide_eq_false_iff_not, Bool.not_eq_true', Bool.not_eq_false', ax_lle, ax_llt, ax_lel, ax_ltl, ax_leq, ax_eql, ax_clampl, ax_inb_iff, nI_clamp, nI_1, nI_leI, nI_ltI, nI_eq, ax_b0, ax_b1, ax_bitb, ax_ui_eq, ax_ui_ne, true_and, and_true]
      refine ⟨fun _ => ihj I3 _ _ _ (by omega) (fun k hk m' hm' => ?_) f3, fun q => by omega⟩
      by_cases e : k = N - j
      · subst e
        rw [show N - (N - j) = j by omega, ← ek]
        exact h3 m' (by omega)
      · exact h4 k (by omega) m' hm'
    | succ i ihi =>
      intro m I3 z5 z6 hm h3 h4 f3
      apply vc_X3_fillFromLast_27
      rw [f3 6 (by omega), hP.2.1, sw_p2 T hT]
      simp (disch := omega) only [Bool.not_eq_false, Bool.not_eq_true, decide_eq_true_eq, decide_eq_false_iff_not, Bool.not_eq_true', Bool.not_eq_false', ax_lle, ax_llt, ax_lel, ax_ltl, ax_leq, ax_eql, ax_clampl, ax_inb_iff, nI_clamp, nI_1, nI_leI, nI_ltI, nI_eq, ax_b0, ax_b1, ax_bitb, ax_ui_eq, ax_ui_ne, true_and, and_true]
      have e0 := h4 (N - (j + 1)) (by omega) m (by omega)
      rw [ex] at e0
      rw [e0]
      refine ⟨fun q => by omega, fun _ => ⟨by omega, by omega, ?_⟩⟩
      suffices ∀ (c w b : Nat), w + c = T → b ≤ 54 → ax_it (fun w b => if m.testBit w then (if b < W (N - (N - (j + 1) + 1)) w + sw_mo N T W (N - (j + 1)) (sw_cl m w) then W (N - (N - (j + 1) + 1)) w + sw_mo N T W (N - (j + 1)) (sw_cl m w) else b) else b) c w b = sw_mo N T W (N - (j + 1) + 1) m → ax_AK ((d + 1)) 46 (54, [some (ax_vr 3 0 107), some (ax_vr 7 0 6), some (ax_vr 1 0 10), some (ax_vi (nI j)), some (ax_vi (nI m)), some (ax_vi (nI b)), some (ax_vi (nI w))], [], ax_mm I3 L) (ax_kv K) from this T 0 _ (by omega) (by have := sw_mo_le (N := N) (T := T) hW (N - (j + 1)) m; omega) rfl
      intro c
      induction c with
      | zero =>
        intro w b hw hb hfin
        apply vc_X3_fillFromLast_54
        rw [f3 6 (by omega), hP.2.1]
        simp (disch := omega) only [Bool.not_eq_false, Bool.not_eq_true, decide_eq_true_eq, decide_eq_false_iff_not, Bool.not_eq_true', Bool.not_eq_false', ax_lle, ax_llt, ax_lel, ax_ltl, ax_leq, ax_eql, ax_clampl, ax_inb_iff, nI_clamp, nI_1, nI_leI, nI_ltI, nI_eq, ax_b0, ax_b1, ax_bitb, ax_ui_eq, ax_ui_ne, true_and, and_true]
        refine ⟨fun _ => ⟨by omega, by omega, ihi _ _ _ _ (by omega) ?_ ?_ (f3.ui (by omega) (by omega))⟩, fun q => by omega⟩
        · intro m' hm'
          by_cases e : m' = m
          · subst e; rw [ax_ui_eq]; exact congrArg nI hfin
          · rw [ax_ui_ne (by omega)]; exact h3 m' (by omega)
        · intro k hk m' hm'
          rw [ax_ui_ne (by omega)]; exact h4 k hk m' hm'
      | succ c ihc =>
        intro w b hw hb hfin
        have hfin : ax_it (fun w b => if m.testBit w then (if b < W (N - (N - (j + 1) + 1)) w + sw_mo N T W (N - (j + 1)) (sw_cl m w) then W (N - (N - (j + 1) + 1)) w + sw_mo N T W (N - (j + 1)) (sw_cl m w) else b) else b) c (w + 1) (if m.testBit w then (if b < W (N - (N - (j + 1) + 1)) w + sw_mo N T W (N - (j + 1)) (sw_cl m w) then W (N - (N - (j + 1) + 1)) w + sw_mo N T W (N - (j + 1)) (sw_cl m w) else b) else b) = sw_mo N T W (N - (j + 1) + 1) m := hfin
        have hbt := sw_bt64 m (by omega) w (by omega)
        apply vc_X3_fillFromLast_54
        rw [f3 6 (by omega), hP.2.1]
        simp (disch := omega) only [Bool.not_eq_false, Bool.not_eq_true, decide_eq_true_eq, decide_eq_false_iff_not, Bool.not_eq_true', Bool.not_eq_false', ax_lle, ax_llt, ax_lel, ax_ltl, ax_leq, ax_eql, ax_clampl, ax_inb_iff, nI_clamp, nI_1, nI_leI, nI_ltI, nI_eq, ax_b0, ax_b1, ax_bitb, ax_ui_eq, ax_ui_ne, true_and, and_true, ax_bt_ask0, hbt]
        refine ⟨fun q => by omega, fun _ => ⟨fun q => ?_, fun q => ?_⟩⟩
        · refine ihc _ b (by omega) hb ?_
          rw [if_neg (by rw [q]; decide)] at hfin; exact hfin
        · refine cl_withThing (k := N - (j + 1)) (hD.frame (fun a _ _ => f3 a (by omega))) (by omega) (by omega) hN hT (by omega) (by omega) (h4 (N - (j + 1)) (Nat.le_refl _)) ?_
          have q : m.testBit w = true := by simpa using q
          rw [if_pos q, ex2] at hfin
          have hv : W j w + sw_mo N T W (N - (j + 1)) (sw_cl m w) ≤ 54 := by
            have := hW j w
            have := sw_mo_le (N := N) (T := T) hW (N - (j + 1)) (sw_cl m w)
            omega
          rw [ax_ite_lt (by omega) (by omega)]
          refine ihc _ _ (by omega) ?_ ?_
          · split <;> omega
          · rw [ex2]; exact hfin
theorem cl_firstOfMost {d k m N T : Nat} {kd : Nat → Nat} {tl un : Nat → Int32} {W : Nat → Nat → Nat} {G : sw_G} {I : ax_I} {L : ax_J} {K : Int32 → ax_I → ax_J → Prop} (hP : sw_TP I 6 N T kd tl un) (hD : sw_DA I 10 W G) (hW : ∀ x w, W x w ≤ 9) (hN : N ≤ 6) (hT : T ≤ 6) (hk : k + 1 ≤ N) (hm : m < 2 ^ T) (hrow : ∀ k, k ≤ N → ∀ m, m < 2 ^ T → I (108 + (1 + (N - k))) m = nI (sw_mo N T W k m)) (hK : K (match sw_f1 (fun w => m.testBit w && decide (W (N - (k + 1)) w + sw_mo N T W k (sw_cl m w) = sw_mo N T W (k + 1) m)) T 0 with | some w => nI w | none => -9) I L) : ax_CI (d + 2) 48 [ax_vr 3 0 107, ax_vr 7 0 6, ax_vr 1 0 10, ax_vi (nI (N - (k + 1))), ax_vi (nI m)] I L K := by
  have h64 := sw_2le T hT
  apply vc_X3_firstOfMost
  generalize hx : N - (k + 1) = x at hK ⊢
  suffices ∀ (c w : Nat), w + c = T → K (match sw_f1 (fun w => m.testBit w && decide (W x w + sw_mo N T W k (sw_cl m w) = sw_mo N T W (k + 1) m)) c w with | some w => nI w | none => -9) I L → ax_AK ((d + 1)) 48 (3, [some (ax_vr 3 0 107), some (ax_vr 7 0 6), some (ax_vr 1 0 10), some (ax_vi (nI x)), some (ax_vi (nI m)), some (ax_vi (nI w))], [], ax_mm I L) (ax_ki K) from this T 0 (by omega) hK
  intro c
  induction c with
  | zero =>
    intro w hw hK
    apply vc_X3_firstOfMost_3
    rw [hP.2.1]
    simp (disch := omega) only [Bool.not_eq_false, Bool.not_eq_true, decide_eq_true_eq, decide_eq_false_iff_not, Bool.not_eq_true', Bool.not_eq_false', ax_lle, ax_llt, ax_lel, ax_ltl, ax_leq, ax_eql, ax_clampl, ax_inb_iff, nI_clamp, nI_1, nI_leI, nI_ltI, nI_eq, ax_b0, ax_b1, ax_bitb, ax_ui_eq, ax_ui_ne, true_and, and_true]
    exact ⟨fun _ => hK, fun q => by omega⟩
  | succ c ih =>
    intro w hw hK
    unfold sw_f1 at hK
    have hbt := sw_bt64 m (by omega) w (by omega)
    apply vc_X3_firstOfMost_3
    rw [hP.2.1]
    simp (disch := omega) only [Bool.not_eq_false, Bool.not_eq_true, decide_eq_true_eq, decide_eq_false_iff_not, Bool.not_eq_true', Bool.not_eq_false', ax_lle, ax_llt, ax_lel, ax_ltl, ax_leq, ax_eql, ax_clampl, ax_inb_iff, nI_clamp, nI_1, nI_leI, nI_ltI, nI_eq, ax_b0, ax_b1, ax_bitb, ax_ui_eq, ax_ui_ne, true_and, and_true, ax_bt_ask0, hbt]
    refine ⟨fun q => by omega, fun _ => ⟨fun q => ?_, fun q => ?_⟩⟩
    · refine ih _ (by omega) ?_
      rw [if_neg (by rw [q]; simp)] at hK; exact hK
    · have q : m.testBit w = true := by simpa using q
      refine cl_withThing (k := k) hD hk hx.symm hN hT hm (by omega) (hrow k (by omega)) ?_
      have e0 := hrow (k + 1) hk m hm
      rw [hx] at e0
      rw [e0]
      have hv1 : W x w + sw_mo N T W k (sw_cl m w) ≤ 54 := by
        have := hW x w
        have := sw_mo_le (N := N) (T := T) hW k (sw_cl m w)
        omega
      have hv2 : sw_mo N T W (k + 1) m ≤ 54 := by
        have := sw_mo_le (N := N) (T := T) hW (k + 1) m
        omega
      simp (disch := omega) only [Bool.not_eq_false, Bool.not_eq_true, decide_eq_true_eq, decide_eq_false_iff_not, Bool.not_eq_true', Bool.not_eq_false', ax_lle, ax_llt, ax_lel, ax_ltl, ax_leq, ax_eql, ax_clampl, ax_inb_iff, nI_clamp, nI_1, nI_leI, nI_ltI, nI_eq, ax_b0, ax_b1, ax_bitb, ax_ui_eq, ax_ui_ne, true_and, and_true]
      refine ⟨by omega, by omega, fun z => ih _ (by omega) ?_, fun z => ?_⟩
      · rw [if_neg (by rw [decide_eq_false z]; simp)] at hK; exact hK
      · rw [if_pos (by rw [q, decide_eq_true z]; rfl)] at hK; exact hK
theorem cl_giveOut {d r N T m0 : Nat} {kd : Nat → Nat} {tl un : Nat → Int32} {W : Nat → Nat → Nat} {G : sw_G} {I : ax_I} {L : ax_J} {K : Int32 → ax_I → ax_J → Prop} (hP : sw_TP I 6 N T kd tl un) (hD : sw_DA I 10 W G) (hW : ∀ x w, W x w ≤ 9) (hN : N ≤ 6) (hT : T ≤ 6) (hr : r < 6) (hm0 : ax_ms T (fun w => decide (G.2.1 w = -9)) = nI m0) (hm : m0 < 2 ^ T) (hK : ∀ I', I' (4 + (115 + 2 * r)) 1 = nI N → (∀ y, y < N → I' (4 + (115 + 2 * r) + 1) y = sw_mr N T W N m0 y) → (∀ a, a < 109 ∨ 115 < a → ¬ a = 4 + (115 + 2 * r) → ¬ a = 4 + (115 + 2 * r) + 1 → I' a = I a) → K (nI (sw_mo N T W N m0)) I' L) : ax_CI (d + 3) 45 [ax_vr 3 0 107, ax_vr 7 0 6, ax_vr 1 0 10, ax_vr 4 40 (4 + (115 + 2 * r))] I L K := by
  have h64 := sw_2le T hT
  apply vc_X3_giveOut
  refine cl_fillFromLast hP hD hW hN hT (fun I1 g1 f1 => ?_)
  have hP1 : sw_TP I1 6 N T kd tl un := hP.frame (fun a _ _ => f1 a (by omega))
  have hD1 : sw_DA I1 10 W G := hD.frame (fun a _ _ => f1 a (by omega))
  suffices ∀ (c w : Nat) (acc : Int32) (z6 z7 : Option ax_V), w + c = T → ax_it (ax_sb (fun w => decide (G.2.1 w = -9))) c w acc = nI m0 → ax_AK ((d + 2)) 45 (12, [some (ax_vr 3 0 107), some (ax_vr 7 0 6), some (ax_vr 1 0 10), some (ax_vr 4 40 (4 + (115 + 2 * r))), some (ax_vi acc), some (ax_vi (nI w)), z6, z7], [], ax_mm I1 L) (ax_ki K) from this T 0 0 none none (by omega) hm0
  intro c
  induction c with
  | succ c ih =>
    intro w acc z6 z7 hw hfin
    have hfin : ax_it (ax_sb (fun w => decide (G.2.1 w = -9))) c (w + 1) (ax_sb (fun w => decide (G.2.1 w = -9)) w acc) = nI m0 := hfin
    apply vc_X3_giveOut_12
    rw [hP1.2.1]
    have e := hD1.2.2.1 w (by omega)
    simp (disch := omega) only [Bool.not_eq_false, Bool.not_eq_true, decide_eq_true_eq, decide_eq_false_iff_not, Bool.not_eq_true', Bool.not_eq_false', ax_lle, ax_llt, ax_lel, ax_ltl, ax_leq, ax_eql, ax_clampl, ax_inb_iff, nI_clamp, nI_1, nI_leI, nI_ltI, nI_eq, ax_b0, ax_b1, ax_bitb, ax_ui_eq, ax_ui_ne, true_and, and_true, e]
    refine ⟨fun q => by omega, fun _ => ⟨by omega, fun q => ih _ _ _ _ (by omega) ?_, fun q => ih _ _ _ _ (by omega) ?_⟩⟩
    · rw [ax_sb_0 (decide_eq_false q)] at hfin; exact hfin
    · rw [ax_sb_t (decide_eq_true q)] at hfin; exact hfin
  | zero =>
    intro w acc z6 z7 hw hfin
    have hfin : acc = nI m0 := hfin
    subst hfin
    apply vc_X3_giveOut_12
    rw [hP1.2.1, hP1.1]
    simp (disch := omega) only [Bool.not_eq_false, Bool.not_eq_true, decide_eq_true_eq, decide_eq_false_iff_not, Bool.not_eq_true', Bool.not_eq_false', ax_lle, ax_llt, ax_lel, ax_ltl, ax_leq, ax_eql, ax_clampl, ax_inb_iff, nI_clamp, nI_1, nI_leI, nI_ltI, nI_eq, ax_b0, ax_b1, ax_bitb, ax_ui_eq, ax_ui_ne, true_and, and_true]
    refine ⟨fun _ => ⟨by decide, by omega, ?_⟩, fun q => by omega⟩
    have e0 := g1 N (Nat.le_refl _) m0 hm
    rw [Nat.sub_self] at e0
    rw [e0]
    refine cl_makeAnew (by omega) (by omega) (fun I2 s2 v2 f2 => ?_)
    suffices ∀ (k m : Nat) (I3 : ax_I) (z7 : Option ax_V), k ≤ N → m < 2 ^ T → I3 (4 + (115 + 2 * r)) 1 = nI N → (∀ y, y < N - k → I3 (4 + (115 + 2 * r) + 1) y = sw_mr N T W N m0 y) → (∀ y, N - k ≤ y → sw_mr N T W N m0 y = sw_mr N T W k m y) → (∀ a, ¬ a = 4 + (115 + 2 * r) → ¬ a = 4 + (115 + 2 * r) + 1 → I3 a = I1 a) → ax_AK ((d + 2)) 45 (72, [some (ax_vr 3 0 107), some (ax_vr 7 0 6), some (ax_vr 1 0 10), some (ax_vr 4 40 (4 + (115 + 2 * r))), some (ax_vi (nI m)), some (ax_vi (nI (sw_mo N T W N m0))), some (ax_vi (nI (N - k))), z7], [], ax_mm I3 L) (ax_ki K) by
      have := this N m0 I2 none (Nat.le_refl _) hm s2 (fun y hy => by omega) (fun y _ => rfl) (fun a z1 z2 => f2 a (by omega))
      rw [Nat.sub_self] at this
      exact this
    intro k
    induction k with
    | zero =>
      intro m I3 z7 hk hm3 h1 h2 h3 h4
      apply vc_X3_giveOut_72
      rw [h1]
      simp (disch := omega) only [Bool.not_eq_false, Bool.not_eq_true, decide_eq_true_eq, decide_eq_false_iff_not, Bool.not_eq_true', Bool.not_eq_false', ax_lle, ax_llt, ax_lel, ax_ltl, ax_leq, ax_eql, ax_clampl, ax_inb_iff, nI_clamp, nI_1, nI_leI, nI_ltI, nI_eq, ax_b0, ax_b1, ax_bitb, ax_ui_eq, ax_ui_ne, true_and, and_true]
      refine ⟨fun _ => hK I3 h1 (fun y hy => h2 y (by omega)) (fun a z1 z2 z3 => by rw [h4 a z2 z3, f1 a z1]), fun q => by omega⟩
    | succ k ihk =>
      intro m I3 z7 hk hm3 h1 h2 h3 h4
      apply vc_X3_giveOut_72
      rw [h1]
      simp (disch := omega) only [Bool.not_eq_false, Bool.not_eq_true, decide_eq_true_eq, decide_eq_false_iff_not, Bool.not_eq_true', Bool.not_eq_false', ax_lle, ax_llt, ax_lel, ax_ltl, ax_leq, ax_eql, ax_clampl, ax_inb_iff, nI_clamp, nI_1, nI_leI, nI_ltI, nI_eq, ax_b0, ax_b1, ax_bitb, ax_ui_eq, ax_ui_ne, true_and, and_true]
      refine ⟨fun q => by omega, fun _ => ?_⟩
      refine cl_firstOfMost (hP1.frame (fun a _ _ => h4 a (by omega) (by omega))) (hD1.frame (fun a _ _ => h4 a (by omega) (by omega))) hW hN hT hk hm3 (fun k' hk' m' hm' => by rw [h4 _ (by omega) (by omega)]; exact g1 k' hk' m' hm') ?_
      have hstep : ∀ y, sw_mr N T W (k + 1) m y = (match sw_f1 (fun w => m.testBit w && decide (W (N - (k + 1)) w + sw_mo N T W k (sw_cl m w) = sw_mo N T W (k + 1) m)) T 0 with
        | some w => fun y => if y = N - (k + 1) then nI w else sw_mr N T W k (sw_cl m w) y
        | none => fun y => if y = N - (k + 1) then -9 else sw_mr N T W k m y) y := fun y => rfl
      cases hf : sw_f1 (fun w => m.testBit w && decide (W (N - (k + 1)) w + sw_mo N T W k (sw_cl m w) = sw_mo N T W (k + 1) m)) T 0 with
      | some w =>
        rw [hf] at hstep
        have hw := sw_f1_lt T 0 hf
        have hcl := sw_cl_le (m := m) (w := w)
        dsimp only at hstep ⊢
        rw [sw_cl64 m (by omega) w (by omega)]
        refine ⟨by omega, fun q => absurd q (ax_ne9 (by omega)), fun _ => ?_⟩
        rw [show N - (k + 1) + 1 = N - k by omega]
        refine ihk (sw_cl m w) _ _ (by omega) (by omega) ?_ ?_ ?_ ?_
        · rw [ax_ui_ne (by omega)]; exact h1
        · intro y hy
          by_cases e : y = N - (k + 1)
          · rw [e, ax_ui_eq, h3 _ (Nat.le_refl _), hstep, if_pos rfl]
          · rw [ax_ui_ne (by omega)]; exact h2 y (by omega)
        · intro y hy
          rw [h3 y (by omega), hstep, if_neg (by omega)]
        · intro a z1 z2
          rw [ax_ui_row z2]; exact h4 a z1 z2
      | none =>
        rw [hf] at hstep
        dsimp only at hstep ⊢
        refine ⟨by omega, fun _ => ?_, fun q => absurd rfl q⟩
        rw [show N - (k + 1) + 1 = N - k by omega]
        refine ihk m _ _ (by omega) (by omega) ?_ ?_ ?_ ?_
        · rw [ax_ui_ne (by omega)]; exact h1
        · intro y hy
          by_cases e : y = N - (k + 1)
          · rw [e, ax_ui_eq, h3 _ (Nat.le_refl _), hstep, if_pos rfl]
          · rw [ax_ui_ne (by omega)]; exact h2 y (by omega)
        · intro y hy
          rw [h3 y (by omega), hstep, if_neg (by omega)]
        · intro a z1 z2
          rw [ax_ui_row z2]; exact h4 a z1 z2
