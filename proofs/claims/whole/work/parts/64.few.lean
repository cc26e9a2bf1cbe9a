/-- frames up to k, what was tried below k, all other cells are as they were -/
def sw_LT (k : Nat) (I I' : ax_I) : Prop := sw_LO k I I' ∧ (∀ b, b < k → I' 210 b = I 210 b) ∧ (∀ a, ¬ a = 199 → ¬ a = 210 → I' a = I a)
theorem sw_LT.refl {k : Nat} {I : ax_I} : sw_LT k I I := ⟨sw_LO.refl, fun _ _ => rfl, fun _ _ _ => rfl⟩
theorem sw_LT.trans {k : Nat} {I I1 I2 : ax_I} (h1 : sw_LT k I I1) (h2 : sw_LT k I1 I2) : sw_LT k I I2 := ⟨h1.1.trans h2.1, fun b h => (h2.2.1 b h).trans (h1.2.1 b h), fun a q1 q2 => (h2.2.2 a q1 q2).trans (h1.2.2 a q1 q2)⟩
theorem sw_LT.low {k k' : Nat} {I I' : ax_I} (h : sw_LT k I I') (hk : k' ≤ k) : sw_LT k' I I' := ⟨h.1.low hk, fun b q => h.2.1 b (by omega), h.2.2⟩
theorem sw_LT.of {k : Nat} {I I' : ax_I} (h : sw_LO k I I') (hf : ax_FR 199 199 I I') : sw_LT k I I' := ⟨h, fun b _ => by rw [hf 210 (by omega)], fun a q1 _ => hf a (by omega)⟩
theorem sw_RA.lt {I I' : ax_I} {N T k : Nat} {kd : Nat → Nat} {tl un : Nat → Int32} {W : Nat → Nat → Nat} {G : sw_G} (h : sw_RA I N T kd tl un W k G) (hl : sw_LT k I I') : sw_RA I' N T kd tl un W k G := by
  obtain ⟨l1, l2, l4⟩ := hl
  exact ⟨h.1.frame (by rw [l4 _ (by omega) (by omega)]) (by rw [l4 _ (by omega) (by omega)]) (l4 _ (by omega) (by omega)) (l4 _ (by omega) (by omega)) (l4 _ (by omega) (by omega)) (l4 _ (by omega) (by omega)), h.2.same (fun j hj => l1 _ (by omega))⟩
theorem sw_RA.u210 {I : ax_I} {N T k j : Nat} {v : Int32} {kd : Nat → Nat} {tl un : Nat → Int32} {W : Nat → Nat → Nat} {G : sw_G} (h : sw_RA I N T kd tl un W k G) : sw_RA (ax_ui I 210 j v) N T kd tl un W k G :=
  ⟨h.1.frame (ax_ui_ne (by omega)) (ax_ui_ne (by omega)) (ax_ui_row (by omega)) (ax_ui_row (by omega)) (ax_ui_row (by omega)) (ax_ui_row (by omega)), h.2.same (fun j hj => ax_ui_ne (by omega))⟩
theorem rf_brings {N T x w : Nat} {kd : Nat → Nat} {tl un : Nat → Int32} {W : Nat → Nat → Nat} (hg : sw_TG N T kd tl un) (hx : x < 6) (hw : w < T) {L : ax_J} : ∀ (m : Nat) {d k : Nat} {G : sw_G} {I : ax_I} {K : Int32 → ax_I → ax_J → Prop}, k + m ≤ 3 → sw_RA I N T kd tl un W k G → sw_GI N T G → (sw_br N T kd un x w m G = none → ∀ I', sw_LT k I I' → K 0 I' L) → (∀ l, sw_br N T kd un x w m G = some l → ∀ I', sw_LT k I I' → (∀ i, i < m → I' 210 (k + i) = nI (sw_nth l i)) → K 1 I' L) → ax_CI (d + m + 5) 221 [ax_vr 9 0 184, ax_vi (nI k), ax_vi (nI (k + m)), ax_vi (nI x), ax_vi (nI w)] I L K := by
  have hT := hg.2.1
  have hN := hg.1
  intro m
  induction m with
  | zero =>
    intro d k G I K hk hR hG h0 h1
    apply vc_X9_brings
    simp (disch := omega) only [Bool.not_eq_false, Bool.not_eq_true, decide_eq_true_eq, decide_eq_false_iff_not, Bool.not_eq_true', Bool.not_eq_false', ax_lle, ax_llt, ax_lel, ax_ltl, ax_leq, ax_eql, ax_clampl, ax_inb_iff, nI_clamp, nI_1, nI_leI, nI_ltI, nI_eq, ax_b0, ax_b1, ax_bitb, ax_ui_eq, ax_ui_ne, true_and, and_true]
    refine ⟨fun h => absurd rfl h, fun _ => ?_⟩
    refine rf_v (a := 6) (by omega) (by omega) ?_
    rw [hR.2.2.1 w (by omega)]
    refine ⟨fun q => ⟨by decide, ?_⟩, fun q => ?_⟩
    · exact h0 (if_neg (fun z => q z.1)) I sw_LT.refl
    · refine rf_holds hR.1 hT hR.2 hG (by omega) ?_
      refine rf_has (by omega) ?_
      simp (disch := omega) only [Bool.not_eq_false, Bool.not_eq_true, decide_eq_true_eq, decide_eq_false_iff_not, Bool.not_eq_true', Bool.not_eq_false', ax_lle, ax_llt, ax_lel, ax_ltl, ax_leq, ax_eql, ax_clampl, ax_inb_iff, nI_clamp, nI_1, nI_leI, nI_ltI, nI_eq, ax_b0, ax_b1, ax_bitb, ax_ui_eq, ax_ui_ne, true_and, and_true]
      refine ⟨fun q2 => ⟨by decide, ?_⟩, fun q2 => ⟨by decide, ?_⟩⟩
      · exact h0 (if_neg (fun z => by rw [z.2] at q2; cases q2)) I sw_LT.refl
      · exact h1 [] (if_pos ⟨q, q2⟩) I sw_LT.refl (fun i hi => by omega)
  | succ m ih0 =>
    intro d k G I K hk hR hG h0 h1
    apply vc_X9_brings
    simp (disch := omega) only [Bool.not_eq_false, Bool.not_eq_true, decide_eq_true_eq, decide_eq_false_iff_not, Bool.not_eq_true', Bool.not_eq_false', ax_lle, ax_llt, ax_lel, ax_ltl, ax_leq, ax_eql, ax_clampl, ax_inb_iff, nI_clamp, nI_1, nI_leI, nI_ltI, nI_eq, ax_b0, ax_b1, ax_bitb, ax_ui_eq, ax_ui_ne, true_and, and_true]
    refine ⟨fun _ => ?_, fun h => by omega⟩
    have hres : sw_br N T kd un x w (m + 1) G = sw_fs (fun y => sw_fs (fun t => (sw_br N T kd un x w m (sw_ws kd G y t)).map (fun l => (10 * y + t) :: l)) T 0) N 0 := rfl
    generalize sw_br N T kd un x w (m + 1) G = res at h0 h1 hres
    suffices ∀ (j y : Nat) (I1 : ax_I) (z6 : Option ax_V), y + j = N → res = sw_fs (fun y => sw_fs (fun t => (sw_br N T kd un x w m (sw_ws kd G y t)).map (fun l => (10 * y + t) :: l)) T 0) j y → sw_LT k I I1 → ax_AK ((d + m + 5)) 221 (40, [some (ax_vr 9 0 184), some (ax_vi (nI k)), some (ax_vi (nI (k + (m + 1)))), some (ax_vi (nI x)), some (ax_vi (nI w)), some (ax_vi (nI y)), z6], [], ax_mm I1 L) (ax_ki K) from
      this N 0 I none (by omega) hres sw_LT.refl
    intro j
    induction j with
    | zero =>
      intro y I1 z6 hy hr hl
      apply vc_X9_brings_40
      rw [(hR.lt hl).1.1]
      simp (disch := omega) only [Bool.not_eq_false, Bool.not_eq_true, decide_eq_true_eq, decide_eq_false_iff_not, Bool.not_eq_true', Bool.not_eq_false', ax_lle, ax_llt, ax_lel, ax_ltl, ax_leq, ax_eql, ax_clampl, ax_inb_iff, nI_clamp, nI_1, nI_leI, nI_ltI, nI_eq, ax_b0, ax_b1, ax_bitb, ax_ui_eq, ax_ui_ne, true_and, and_true]
      exact ⟨fun _ => ⟨by decide, h0 hr I1 hl⟩, fun h => by omega⟩
    | succ j ihj =>
      intro y I1 z6 hy hr hl
      apply vc_X9_brings_40
      rw [(hR.lt hl).1.1]
      simp (disch := omega) only [Bool.not_eq_false, Bool.not_eq_true, decide_eq_true_eq, decide_eq_false_iff_not, Bool.not_eq_true', Bool.not_eq_false', ax_lle, ax_llt, ax_lel, ax_ltl, ax_leq, ax_eql, ax_clampl, ax_inb_iff, nI_clamp, nI_1, nI_leI, nI_ltI, nI_eq, ax_b0, ax_b1, ax_bitb, ax_ui_eq, ax_ui_ne, true_and, and_true]
      refine ⟨fun h => by omega, fun _ => ?_⟩
      suffices ∀ (i t : Nat) (I1 : ax_I), t + i = T → res = (match sw_fs (fun t => (sw_br N T kd un x w m (sw_ws kd G y t)).map (fun l => (10 * y + t) :: l)) i t with | some l => some l | none => sw_fs (fun y => sw_fs (fun t => (sw_br N T kd un x w m (sw_ws kd G y t)).map (fun l => (10 * y + t) :: l)) T 0) j (y + 1)) → sw_LT k I I1 → ax_AK ((d + m + 5)) 221 (52, [some (ax_vr 9 0 184), some (ax_vi (nI k)), some (ax_vi (nI (k + (m + 1)))), some (ax_vi (nI x)), some (ax_vi (nI w)), some (ax_vi (nI y)), some (ax_vi (nI t))], [], ax_mm I1 L) (ax_ki K) from
        this T 0 I1 (by omega) hr hl
      clear hr hl I1
      intro i
      induction i with
      | zero =>
        intro t I1 ht hr hl
        apply vc_X9_brings_52
        rw [(hR.lt hl).1.2.1]
        simp (disch := omega) only [Bool.not_eq_false, Bool.not_eq_true, decide_eq_true_eq, decide_eq_false_iff_not, Bool.not_eq_true', Bool.not_eq_false', ax_lle, ax_llt, ax_lel, ax_ltl, ax_leq, ax_eql, ax_clampl, ax_inb_iff, nI_clamp, nI_1, nI_leI, nI_ltI, nI_eq, ax_b0, ax_b1, ax_bitb, ax_ui_eq, ax_ui_ne, true_and, and_true]
        exact ⟨fun _ => ihj _ I1 _ (by omega) hr hl, fun h => by omega⟩
      | succ i ihi =>
        intro t I1 ht hr hl
        have hR1 := hR.lt hl
        apply vc_X9_brings_52
        rw [hR1.1.2.1]
        simp (disch := omega) only [Bool.not_eq_false, Bool.not_eq_true, decide_eq_true_eq, decide_eq_false_iff_not, Bool.not_eq_true', Bool.not_eq_false', ax_lle, ax_llt, ax_lel, ax_ltl, ax_leq, ax_eql, ax_clampl, ax_inb_iff, nI_clamp, nI_1, nI_leI, nI_ltI, nI_eq, ax_b0, ax_b1, ax_bitb, ax_ui_eq, ax_ui_ne, true_and, and_true, ax_lmul, nI_add]
        refine ⟨fun h => by omega, fun _ => ?_⟩
        have hG1 := hG.wish hN hT (kd := kd) (show y < N by omega) (show t < T by omega)
        refine ra_tries hR1 hg (by omega) (by omega) (by omega) (fun I2 r2 l2 f2 => ?_)
        refine ⟨by omega, ?_⟩
        rw [show k + (m + 1) = (k + 1) + m by omega]
        have r3 := r2.u210 (j := k) (v := nI (10 * y + t))
        have l3 : sw_LT k I (ax_ui I2 210 k (nI (10 * y + t))) := (hl.trans (sw_LT.of l2 f2)).trans ⟨fun b _ => ax_ui_ne (by omega), fun b hb => ax_ui_ne (by omega), fun a _ q => ax_ui_row q⟩
        refine ih0 (by omega) r3 hG1 (fun hn I3 l4 => ?_) (fun l hl' I3 l4 v4 => ?_)
        · rw [sw_fs_n (by rw [hn]; rfl)] at hr
          refine ⟨fun _ => ?_, fun z => absurd rfl z⟩
          rw [show (k + 1) + m = k + (m + 1) by omega]
          exact ihi _ I3 (by omega) hr (l3.trans (l4.low (by omega)))
        · rw [sw_fs_s (l := (10 * y + t) :: l) (by rw [hl']; rfl)] at hr
          refine ⟨fun z => absurd z (by decide), fun _ => ⟨by decide, ?_⟩⟩
          refine h1 _ hr I3 (l3.trans (l4.low (by omega))) (fun i hi => ?_)
          match i with
          | 0 => rw [Nat.add_zero, l4.2.1 k (by omega), ax_ui_eq]; rfl
          | i + 1 =>
            rw [show k + (i + 1) = k + 1 + i by omega, v4 i (by omega)]
            rfl
/-- the first number of SAYINGS that brings it -/
theorem cl_fewestSteps {d x w r N T : Nat} {kd : Nat → Nat} {tl un : Nat → Int32} {W : Nat → Nat → Nat} {G : sw_G} {I : ax_I} {L : ax_J} {K : Int32 → ax_I → ax_J → Prop} (hg : sw_TG N T kd tl un) (hx : x < 6) (hw : w < T) (hr : r < 6) (hC : sw_CA I N T kd tl un W G) (hG : sw_GI N T G)
    (h0 : (∀ m, m < 4 → sw_br N T kd un x w m G = none) → ∀ I', ax_FR 53 68 I I' → K (-9) I' L)
    (h1 : ∀ m l, m < 4 → (∀ j, j < m → sw_br N T kd un x w j G = none) → sw_br N T kd un x w m G = some l → ∀ I', I' (4 + (115 + 2 * r)) 1 = nI m → (∀ i, i < m → I' (4 + (115 + 2 * r) + 1) i = nI (sw_nth l i)) → (∀ a, a < 53 ∨ 68 < a → ¬ a = 4 + (115 + 2 * r) → ¬ a = 4 + (115 + 2 * r) + 1 → I' a = I a) → K (nI m) I' L) :
    ax_CI (d + 10) 37 [ax_vr 2 0 48, ax_vi (nI x), ax_vi (nI w), ax_vr 4 40 (4 + (115 + 2 * r))] I L K := by
  apply vc_X2_fewestSteps
  suffices ∀ (j m : Nat) (I1 : ax_I), m + j = 4 → (∀ i, i < m → sw_br N T kd un x w i G = none) → sw_CA I1 N T kd tl un W G → ax_FR 53 68 I I1 → ax_AK ((d + 9)) 37 (3, [some (ax_vr 2 0 48), some (ax_vi (nI x)), some (ax_vi (nI w)), some (ax_vr 4 40 (4 + (115 + 2 * r))), some (ax_vi (nI m))], [], ax_mm I1 L) (ax_ki K) from this 4 0 I (by omega) (fun i hi => by omega) hC ax_FR.refl
  intro j
  induction j with
  | zero =>
    intro m I1 hm hb hC1 hf
    apply vc_X2_fewestSteps_3
    simp (disch := omega) only [Bool.not_eq_false, Bool.not_eq_true, decide_eq_true_eq, decide_eq_false_iff_not, Bool.not_eq_true', Bool.not_eq_false', ax_lle, ax_llt, ax_lel, ax_ltl, ax_leq, ax_eql, ax_clampl, ax_inb_iff, nI_clamp, nI_1, nI_leI, nI_ltI, nI_eq, ax_b0, ax_b1, ax_bitb, ax_ui_eq, ax_ui_ne, true_and, and_true]
    exact ⟨fun _ => h0 (fun i hi => hb i (by omega)) I1 hf, fun q => by omega⟩
  | succ j ih =>
    intro m I1 hm hb hC1 hf
    apply vc_X2_fewestSteps_3
    simp (disch := omega) only [Bool.not_eq_false, Bool.not_eq_true, decide_eq_true_eq, decide_eq_false_iff_not, Bool.not_eq_true', Bool.not_eq_false', ax_lle, ax_llt, ax_lel, ax_ltl, ax_leq, ax_eql, ax_clampl, ax_inb_iff, nI_clamp, nI_1, nI_leI, nI_ltI, nI_eq, ax_b0, ax_b1, ax_bitb, ax_ui_eq, ax_ui_ne, true_and, and_true]
    refine ⟨fun q => by omega, fun _ => ?_⟩
    have ecb := sw_cr_br (N := N) (T := T) (kd := kd) (un := un) (w := w) hx m G hb
    rw [show d + 9 = (d + 5 - m) + m + 4 by omega]
    have key := cl_reaches (W := W) (L := L) hg hx hw m (d := d + 5 - m) (done := 0) (G := G) (I := I1) (K := fun x3 I1 L2 => (x3 = 0 → ax_AK (((d + 5 - m) + m + 4)) 37 (3, [some (ax_vr 2 0 48), some (ax_vi (nI x)), some (ax_vi (nI w)), some (ax_vr 4 40 (4 + (115 + 2 * r))), some (ax_vi (nI (m + 1)))], [], ax_mm I1 L2) (ax_ki K)) ∧ (¬ x3 = 0 → ax_CV ((d + 5 - m) + m + 4) 55 [ax_vr 4 40 (4 + (115 + 2 * r)), ax_vr 10 3 68, ax_vi (nI m)] I1 L2 (fun I4 L5 => K (nI m) I4 L5))) (by omega) hC1 hG (fun hn I2 c2 f2 _ => ?_) (fun l hl I2 c2 f2 _ v2 => ?_)
    · rw [Nat.zero_add] at key; exact key
    · refine ⟨fun _ => ?_, fun q => absurd rfl q⟩
      rw [show (d + 5 - m) + m + 4 = d + 9 by omega]
      refine ih _ I2 (by omega) (fun i hi => ?_) c2 (hf.trans f2)
      by_cases e : i = m
      · rw [e, ← ecb]; exact hn
      · exact hb i (by omega)
    · refine ⟨fun q => absurd q (by decide), fun _ => ?_⟩
      refine cl_makeOf (by omega) (by omega) (by omega) (by omega) (by omega) (fun I3 m3 v3 f3 => ?_)
      refine h1 m l (by omega) hb (by rw [← ecb]; exact hl) I3 m3 (fun i hi => ?_) (fun a z1 z2 z3 => ?_)
      · rw [v3 i hi]
        have := v2 i hi
        rw [Nat.zero_add] at this
        exact this
      · rw [f3 a (by omega), f2 a z1, hf a z1]
theorem rf_fewLoop {d x w r N T : Nat} {kd : Nat → Nat} {tl un : Nat → Int32} {W : Nat → Nat → Nat} {G : sw_G} {I : ax_I} {L : ax_J} {K : Int32 → ax_I → ax_J → Prop} (hg : sw_TG N T kd tl un) (hx : x < 6) (hw : w < T) (hr : r < 6) (hR : sw_RA I N T kd tl un W 0 G) (hG : sw_GI N T G)
    (h0 : (∀ m, m < 4 → sw_br N T kd un x w m G = none) → ∀ I', sw_LT 0 I I' → K (-9) I' L)
    (h1 : ∀ m l, m < 4 → (∀ j, j < m → sw_br N T kd un x w j G = none) → sw_br N T kd un x w m G = some l → ∀ I', I' 186 r = nI m → (∀ b, ¬ b = r → I' 186 b = I 186 b) → (∀ i, i < m → I' 187 (40 * r + i) = nI (sw_nth l i)) → (∀ b, b < 40 * r ∨ 40 * r + 40 ≤ b → I' 187 b = I 187 b) → (∀ b, b < 31 → I' 199 b = I 199 b) → (∀ a, ¬ a = 186 → ¬ a = 187 → ¬ a = 199 → ¬ a = 210 → I' a = I a) → K (nI m) I' L) :
    ax_AK ((d + 10)) 222 (28, [some (ax_vr 9 0 184), some (ax_vi (nI x)), some (ax_vi (nI w)), some (ax_vi (nI r)), some (ax_vi 0)], [], ax_mm I L) (ax_ki K) := by
  suffices ∀ (j m : Nat) (I1 : ax_I), m + j = 4 → (∀ i, i < m → sw_br N T kd un x w i G = none) → sw_LT 0 I I1 → ax_AK ((d + 10)) 222 (28, [some (ax_vr 9 0 184), some (ax_vi (nI x)), some (ax_vi (nI w)), some (ax_vi (nI r)), some (ax_vi (nI m))], [], ax_mm I1 L) (ax_ki K) from this 4 0 I (by omega) (fun i hi => by omega) sw_LT.refl
  intro j
  induction j with
  | zero =>
    intro m I1 hm hb hl
    apply vc_X9_fewest_28
    simp (disch := omega) only [Bool.not_eq_false, Bool.not_eq_true, decide_eq_true_eq, decide_eq_false_iff_not, Bool.not_eq_true', Bool.not_eq_false', ax_lle, ax_llt, ax_lel, ax_ltl, ax_leq, ax_eql, ax_clampl, ax_inb_iff, nI_clamp, nI_1, nI_leI, nI_ltI, nI_eq, ax_b0, ax_b1, ax_bitb, ax_ui_eq, ax_ui_ne, true_and, and_true]
    exact ⟨fun _ => h0 (fun i hi => hb i (by omega)) I1 hl, fun q => by omega⟩
  | succ j ih =>
    intro m I1 hm hb hl
    apply vc_X9_fewest_28
    simp (disch := omega) only [Bool.not_eq_false, Bool.not_eq_true, decide_eq_true_eq, decide_eq_false_iff_not, Bool.not_eq_true', Bool.not_eq_false', ax_lle, ax_llt, ax_lel, ax_ltl, ax_leq, ax_eql, ax_clampl, ax_inb_iff, nI_clamp, nI_1, nI_leI, nI_ltI, nI_eq, ax_b0, ax_b1, ax_bitb, ax_ui_eq, ax_ui_ne, true_and, and_true]
    refine ⟨fun q => by omega, fun _ => ?_⟩
    rw [show d + 10 = (d + 5 - m) + m + 5 by omega]
    have key := rf_brings (W := W) (L := L) hg hx hw m (d := d + 5 - m) (k := 0) (G := G) (I := I1) (K := fun x3 I1 L2 => (x3 = 0 → ax_AK (((d + 5 - m) + m + 5)) 222 (28, [some (ax_vr 9 0 184), some (ax_vi (nI x)), some (ax_vi (nI w)), some (ax_vi (nI r)), some (ax_vi (nI (m + 1)))], [], ax_mm I1 L2) (ax_ki K)) ∧ (¬ x3 = 0 → ax_CV ((d + 5 - m) + m + 5) 172 [ax_vr 9 0 184, ax_vi (nI r), ax_vr 10 6 210, ax_vi (nI m)] I1 L2 (fun I4 L5 => K (nI m) I4 L5))) (by omega) (hR.lt hl) hG (fun hn I2 l2 => ?_) (fun l hl' I2 l2 v2 => ?_)
    · rw [Nat.zero_add] at key; exact key
    · refine ⟨fun _ => ?_, fun q => absurd rfl q⟩
      rw [show (d + 5 - m) + m + 5 = d + 10 by omega]
      refine ih _ I2 (by omega) (fun i hi => ?_) (hl.trans l2)
      by_cases e : i = m
      · rw [e]; exact hn
      · exact hb i (by omega)
    · refine ⟨fun q => absurd q (by decide), fun _ => ?_⟩
      have hl2 := hl.trans l2
      refine rf_layRow hr (by omega) (by omega) (by omega) (by omega) (fun I3 m1 m2 m3 m4 m5 => ?_)
      refine h1 m l (by omega) hb hl' I3 m1 (fun b hb => ?_) (fun i hi => ?_) (fun b hb => ?_) (fun b hb => ?_) (fun a z1 z2 z3 z4 => ?_)
      · rw [m2 b hb, hl2.2.2 _ (by omega) (by omega)]
      · rw [m3 i hi]
        have := v2 i hi
        rw [Nat.zero_add] at this
        exact this
      · rw [m4 b hb, hl2.2.2 _ (by omega) (by omega)]
      · rw [m5 199 (by omega) (by omega), hl2.1 b (by omega)]
      · rw [m5 a z1 z2, hl2.2.2 a z3 z4]
theorem op_fewest {I : ax_I} {L : ax_J} (h : sw_RR I L) (a b c : Int32) : sw_OP 115 222 [ax_vi a, ax_vi b, ax_vi c] I L := by
  intro d
  have h0 := h
  obtain ⟨N, T, kd, tl, un, W, es, h1, h2, h3, h4⟩ := h
  have hG := h1.GI
  have h1' := h1
  obtain ⟨q1, q2, q3, q4, q5, q6, q7, q8, q9, q10⟩ := h1
  have hN := q1.1
  have hT := q1.2.1
  apply vc_X8_fewest
  rcases sw_dich (n := N) (by omega) a with ⟨x, hx, rfl⟩ | ha
  case inr =>
    refine cl_hasOne_no q5.1 ha ?_
    refine ⟨fun _ => ?_, (fun q => absurd q (by decide))⟩
    apply vc_X9_fewest
    refine rf_isOne_no q7.1 hN ha ?_
    exact ⟨fun _ => ⟨rfl, h0⟩, (fun q => absurd q (by decide))⟩
  refine cl_hasOne_k q5.1 (by omega) hx ?_
  refine ⟨(fun q => absurd q (by decide)), fun _ => ?_⟩
  rcases sw_dich (n := T) (by omega) b with ⟨w, hw, rfl⟩ | hb
  case inr =>
    refine cl_hasThing_no q5.2.1 hb ?_
    refine ⟨fun _ => ?_, (fun q => absurd q (by decide))⟩
    apply vc_X9_fewest
    refine rf_isOne_k q7.1 hN hx ?_
    refine ⟨(fun q => absurd q (by decide)), fun _ => ?_⟩
    refine rf_isThing_no q7.2.1 hT hb ?_
    exact ⟨fun _ => ⟨rfl, h0⟩, (fun q => absurd q (by decide))⟩
  refine cl_hasThing_k q5.2.1 (by omega) hw ?_
  refine ⟨(fun q => absurd q (by decide)), fun _ => ?_⟩
  rcases sw_dich (n := 6) (by omega) c with ⟨r, hr, rfl⟩ | hc
  case inr =>
    refine cl_isRow_no hc ?_
    refine ⟨(fun q => absurd q (by decide)), fun _ => ?_⟩
    apply vc_X9_fewest
    refine rf_isOne_k q7.1 hN hx ?_
    refine ⟨(fun q => absurd q (by decide)), fun _ => ?_⟩
    refine rf_isThing_k q7.2.1 hT hw ?_
    refine ⟨(fun q => absurd q (by decide)), fun _ => ?_⟩
    refine rf_isRow_no hc ?_
    exact ⟨(fun q => absurd q (by decide)), fun _ => ⟨rfl, h0⟩⟩
  refine cl_isRow_k hr ?_
  refine ⟨fun _ => ?_, (fun q => absurd q (by decide))⟩
  refine cl_begin q5 hN q6.1 hG.len (fun I1 t1 d1 f1 => ?_)
  rw [nI_clamp (by omega)]
  refine ⟨ax_inb_nI hr (by omega), ?_⟩
  have ref : ∀ (I2 : ax_I) (K0 : Int32 → ax_I → ax_J → Prop), (∀ a, (a < 49 ∨ 68 < a) → ¬ a = 4 + (115 + 2 * r) → ¬ a = 4 + (115 + 2 * r) + 1 → I2 a = I a) → ax_AK ((d + 29)) 222 (28, [some (ax_vr 9 0 184), some (ax_vi (nI x)), some (ax_vi (nI w)), some (ax_vi (nI r)), some (ax_vi 0)], [], ax_mm I2 L) (ax_ki K0) → ax_CI (d + 30) 222 [ax_vr 9 0 184, ax_vi (nI x), ax_vi (nI w), ax_vi (nI r)] I2 L K0 := by
    intro I2 K0 fc z
    apply vc_X9_fewest
    refine rf_isOne_k (by rw [fc _ (by omega) (by omega) (by omega)]; exact q7.1) hN hx ?_
    refine ⟨(fun q => absurd q (by decide)), fun _ => ?_⟩
    refine rf_isThing_k (by rw [fc _ (by omega) (by omega) (by omega)]; exact q7.2.1) hT hw ?_
    refine ⟨(fun q => absurd q (by decide)), fun _ => ?_⟩
    refine rf_isRow_k hr ?_
    exact ⟨fun _ => z, (fun q => absurd q (by decide))⟩
  refine cl_fewestSteps (d := d + 19) q1 (by omega) hw hr (h1'.ca t1 d1 f1) hG (fun hnone I2 f2 => ?_) (fun m l hm hlt hsome I2 s2 v2 f2 => ?_)
  · have fc : ∀ a, (a < 49 ∨ 68 < a) → ¬ a = 4 + (115 + 2 * r) → ¬ a = 4 + (115 + 2 * r) + 1 → I2 a = I a := fun a z1 z2 z3 => by rw [f2 a (by omega), f1 a (by omega)]
    have fc' : ∀ a, (a < 49 ∨ 68 < a) → I2 a = I a := fun a z1 => by rw [f2 a (by omega), f1 a (by omega)]
    have h1c : sw_TW I2 N T kd tl un W es := h1'.aside (fun a q => fc a (by omega) (by omega) (by omega))
    refine ref I2 _ fc ?_
    refine rf_fewLoop (d := d + 19) q1 (by omega) hw hr (h1c.ra (by omega)) hG (fun _ I3 l3 => ⟨rfl, ?_⟩) (fun m l hm _ hs => by rw [hnone m hm] at hs; cases hs)
    refine h0.aside (fun a q => ?_) ?_ (h4.frame ?_ ?_ ?_ ?_ ?_ ?_)
    · rw [l3.2.2 a (by omega) (by omega), fc' a (by omega)]
    · exact ⟨fun b hb => by rw [l3.1 b (by omega), fc' _ (by omega)], by rw [l3.2.2 _ (by omega) (by omega), fc' _ (by omega)], by rw [l3.2.2 _ (by omega) (by omega), fc' _ (by omega)], by rw [l3.2.2 _ (by omega) (by omega), fc' _ (by omega)]⟩
    · rw [l3.2.2 _ (by omega) (by omega), fc' _ (by omega)]
    · rw [l3.2.2 _ (by omega) (by omega), fc' _ (by omega)]
    · rw [l3.2.2 _ (by omega) (by omega), fc' _ (by omega)]
    · rw [l3.2.2 _ (by omega) (by omega), fc' _ (by omega)]
    · rw [l3.2.2 _ (by omega) (by omega), fc' _ (by omega)]
    · rw [l3.2.2 _ (by omega) (by omega), fc' _ (by omega)]
  · have fc : ∀ a, (a < 49 ∨ 68 < a) → ¬ a = 4 + (115 + 2 * r) → ¬ a = 4 + (115 + 2 * r) + 1 → I2 a = I a := fun a z1 z2 z3 => by rw [f2 a (by omega) z2 z3, f1 a (by omega)]
    have h1c : sw_TW I2 N T kd tl un W es := h1'.aside (fun a q => fc a (by omega) (by omega) (by omega))
    refine ref I2 _ fc ?_
    refine rf_fewLoop (d := d + 19) q1 (by omega) hw hr (h1c.ra (by omega)) hG (fun hn => by rw [hn m hm] at hsome; cases hsome) (fun m' l' hm' hlt' hs' I3 m1 m2 m3 m4 m5 m6 => ?_)
    have em : m' = m := by
      rcases Nat.lt_trichotomy m' m with z | z | z
      · rw [hlt m' z] at hs'; cases hs'
      · exact z
      · rw [hlt' m z] at hsome; cases hsome
    subst em
    have el : l' = l := by rw [hsome] at hs'; exact (Option.some.inj hs').symm
    subst el
    refine ⟨rfl, ?_⟩
    have fe : ∀ a, ¬ a = 186 → ¬ a = 187 → ¬ a = 199 → ¬ a = 210 → (a < 49 ∨ 68 < a) → ¬ a = 4 + (115 + 2 * r) → ¬ a = 4 + (115 + 2 * r) + 1 → I3 a = I a := fun a z1 z2 z3 z4 z5 z6 z7 => by rw [m6 a z1 z2 z3 z4, fc a z5 z6 z7]
    refine h0.line hr ⟨?_, .inr ⟨m', by omega, ?_, fun i hi => ?_⟩⟩ (fun a z1 z2 z3 => fe a (by omega) (by omega) (by omega) (by omega) (by omega) z2 z3) ⟨fun b hb => ?_, ?_, ?_, ?_⟩ (fun b hb => by rw [m2 b hb, fc _ (by omega) (by omega) (by omega)]) (fun b hb => by rw [m4 b hb, fc _ (by omega) (by omega) (by omega)]) (h4.frame ?_ ?_ ?_ ?_ ?_ ?_)
    · rw [m1, m6 _ (by omega) (by omega) (by omega) (by omega), s2]
    · rw [m6 _ (by omega) (by omega) (by omega) (by omega), s2]
    · rw [m3 i hi, m6 _ (by omega) (by omega) (by omega) (by omega), v2 i hi]
    · rw [m5 b hb, fc _ (by omega) (by omega) (by omega)]
    · rw [fe _ (by omega) (by omega) (by omega) (by omega) (by omega) (by omega) (by omega)]
    · rw [fe _ (by omega) (by omega) (by omega) (by omega) (by omega) (by omega) (by omega)]
    · rw [fe _ (by omega) (by omega) (by omega) (by omega) (by omega) (by omega) (by omega)]
    · rw [fe _ (by omega) (by omega) (by omega) (by omega) (by omega) (by omega) (by omega)]
    · rw [fe _ (by omega) (by omega) (by omega) (by omega) (by omega) (by omega) (by omega)]
    · rw [fe _ (by omega) (by omega) (by omega) (by omega) (by omega) (by omega) (by omega)]
    · rw [fe _ (by omega) (by omega) (by omega) (by omega) (by omega) (by omega) (by omega)]
    · rw [fe _ (by omega) (by omega) (by omega) (by omega) (by omega) (by omega) (by omega)]
    · rw [fe _ (by omega) (by omega) (by omega) (by omega) (by omega) (by omega) (by omega)]
