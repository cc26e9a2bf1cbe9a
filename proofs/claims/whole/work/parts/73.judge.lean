def sw_vs (N T : Nat) (c : Int32) : Bool := decide (0 ≤ c) && decide (c.toNatClampNeg / 10 < N) && (decide (c.toNatClampNeg % 10 < T) || decide (c.toNatClampNeg % 10 = 9))
theorem ax_10d {m : Nat} (hm : m < 2 ^ 31) : nI m / 10 = nI (m / 10) := by rw [show (10 : Int32) = nI 10 from rfl, ax_nI_div hm (by omega)]
theorem ax_10r {m : Nat} (hm : m < 2 ^ 31) : nI m - nI m / 10 * 10 = nI (m % 10) := ax_nI_mod (b := 10) hm (by omega)
theorem sw_nk {n k : Nat} (hn : n < 2 ^ 31) (hk : k < 2 ^ 31) (h : ¬ k < n) : nI k < 0 ∨ nI n ≤ nI k := .inr ((nI_leI hn hk).mpr (by omega))
theorem cl_hasSaying {d N T : Nat} {kd : Nat → Nat} {tl un : Nat → Int32} {c : Int32} {I : ax_I} {L : ax_J} {K : Int32 → ax_I → ax_J → Prop} (hP : sw_TP I 6 N T kd tl un) (hN : N ≤ 6) (hT : T ≤ 6) (hK : K (ax_b (sw_vs N T c)) I L) : ax_CI (d + 2) 82 [ax_vr 7 0 6, ax_vi c] I L K := by
  apply vc_X7_hasSaying
  unfold sw_vs at hK
  refine ax_if (fun h0 => ⟨by decide, by decide, ?_⟩) (fun h0 => ⟨by decide, ?_⟩)
  case refine_2 => rw [decide_eq_false h0] at hK; exact hK
  obtain ⟨m, hm, rfl⟩ := nI_of (x := c) (by rw [Int32.not_lt]; exact h0)
  rw [nI_clamp hm, decide_eq_true h0, Bool.true_and] at hK
  rw [ax_10r hm, ax_10d hm]
  by_cases h1 : m / 10 < N
  · refine cl_hasOne_k hP.1 (by omega) h1 ?_
    refine ax_cf (by decide) ?_
    rw [decide_eq_true h1, Bool.true_and] at hK
    by_cases h2 : m % 10 < T
    · refine cl_hasThing_k hP.2.1 (by omega) h2 ?_
      refine ax_nt (by decide) ⟨by decide, ?_⟩
      rw [decide_eq_true h2, Bool.true_or] at hK; exact hK
    · refine cl_hasThing_no hP.2.1 (sw_nk (by omega) (by omega) h2) ?_
      refine ax_nf rfl ?_
      rw [decide_eq_false h2, Bool.false_or] at hK
      by_cases h3 : m % 10 = 9
      · refine ax_nf (by rw [h3]; rfl) ⟨by decide, ?_⟩
        rw [decide_eq_true h3] at hK; exact hK
      · refine ax_nt (fun z => h3 ((nI_eq (b := 9) (by omega) (by omega)).mp z)) ⟨by decide, ?_⟩
        rw [decide_eq_false h3] at hK; exact hK
  · refine cl_hasOne_no hP.1 (sw_nk (by omega) (by omega) h1) ?_
    refine ax_ct rfl ⟨by decide, ?_⟩
    rw [decide_eq_false h1, Bool.false_and] at hK; exact hK
/-- one SAYING judged -/
def sw_js (kd : Nat → Nat) (f : Nat → Int32) (i : Nat) (a : sw_G × Nat × Int32) : sw_G × Nat × Int32 :=
  if (f i).toNatClampNeg % 10 = 9 then (a.1, a.2.1, if a.2.2 = -9 then nI i else a.2.2)
  else (sw_ws kd a.1 ((f i).toNatClampNeg / 10) ((f i).toNatClampNeg % 10), (if sw_out kd a.1 ((f i).toNatClampNeg / 10) ((f i).toNatClampNeg % 10) = 2 then a.2.1 + 1 else a.2.1), (if sw_out kd a.1 ((f i).toNatClampNeg / 10) ((f i).toNatClampNeg % 10) = 0 ∧ a.2.2 = -9 then nI i else a.2.2))
theorem sw_vs_nat {N T : Nat} {c : Int32} (h : sw_vs N T c = true) : ∃ m, m < 2 ^ 31 ∧ c = nI m ∧ m / 10 < N ∧ (m % 10 < T ∨ m % 10 = 9) := by
  unfold sw_vs at h
  rw [Bool.and_eq_true, Bool.and_eq_true, Bool.or_eq_true, decide_eq_true_eq, decide_eq_true_eq, decide_eq_true_eq, decide_eq_true_eq] at h
  obtain ⟨m, hm, rfl⟩ := nI_of (x := c) (by rw [Int32.not_lt]; exact h.1.1)
  rw [nI_clamp hm] at h
  exact ⟨m, hm, rfl, h.1.2, h.2⟩
theorem cl_judgeAll {d n o N T : Nat} {kd : Nat → Nat} {tl un : Nat → Int32} {W : Nat → Nat → Nat} {G : sw_G} {I : ax_I} {L : ax_J} {K : Int32 → ax_I → ax_J → Prop} (hC : sw_CA I N T kd tl un W G) (hg : sw_TG N T kd tl un) (hG : sw_GI N T G) (ho : 100 ≤ o) (hn : n ≤ 20) (hs : I o 1 = nI n) (hv : ∀ i, i < n → sw_vs N T (I (o + 1) i) = true) (hK : ∀ I', I' 48 4 = (ax_it (sw_js kd (I (o + 1))) n 0 (G, 0, -9)).2.2 → ax_FR 48 67 I I' → K (nI (ax_it (sw_js kd (I (o + 1))) n 0 (G, 0, -9)).2.1) I' L) : ax_CI (d + 4) 40 [ax_vr 2 0 48, ax_vr 4 40 o] I L K := by
  have hT := hg.2.1
  have hN := hg.1
  apply vc_X2_judgeAll
  suffices ∀ (c i : Nat) (a : sw_G × Nat × Int32) (I1 : ax_I) (z4 z5 : Option ax_V), i + c = n → sw_CA I1 N T kd tl un W a.1 → sw_GI N T a.1 → I1 48 4 = a.2.2 → ax_FR 48 67 I I1 → ax_it (sw_js kd (I (o + 1))) c i a = ax_it (sw_js kd (I (o + 1))) n 0 (G, 0, -9) → ax_AK ((d + 3)) 40 (10, [some (ax_vr 2 0 48), some (ax_vr 4 40 o), some (ax_vi (nI a.2.1)), some (ax_vi (nI i)), z4, z5], [], ax_mm I1 L) (ax_ki K) from
    this n 0 (G, 0, -9) _ none none (by omega) ⟨hC.1.frame (ax_ui_row (by omega)) (ax_ui_row (by omega)), hC.2.1.frame (fun a _ _ => ax_ui_row (by omega)), hC.2.2.frame (fun a _ _ => ax_ui_row (by omega))⟩ hG ax_ui_eq (ax_FR.refl.ui (by omega) (by omega)) rfl
  intro c
  induction c with
  | zero =>
    intro i a I1 z4 z5 hi hC1 hG1 h48 hf ha
    have ha : a = ax_it (sw_js kd (I (o + 1))) n 0 (G, 0, -9) := ha
    apply vc_X2_judgeAll_10
    rw [hf o (by omega), hs]
    refine ax_ct ((nI_leI (by omega) (by omega)).mpr (by omega)) ?_
    rw [ha]
    refine hK I1 ?_ hf
    rw [h48, ha]
  | succ c ih =>
    intro i a I1 z4 z5 hi hC1 hG1 h48 hf ha
    have ha : ax_it (sw_js kd (I (o + 1))) c (i + 1) (sw_js kd (I (o + 1)) i a) = ax_it (sw_js kd (I (o + 1))) n 0 (G, 0, -9) := ha
    obtain ⟨m, hm, em, hx, hw⟩ := sw_vs_nat (hv i (by omega))
    apply vc_X2_judgeAll_10
    rw [hf o (by omega), hs, nI_clamp (by omega), hf (o + 1) (by omega), em, ax_10r hm, ax_10d hm, nI_1]
    unfold sw_js at ha
    rw [em, nI_clamp hm] at ha
    refine ax_cf (fun z => by have := (nI_leI (by omega) (by omega)).mp z; omega) ⟨ax_inb_nI (by omega) (by omega), by decide, ?_⟩
    by_cases h9 : m % 10 = 9
    · refine ax_nf (by rw [h9]; rfl) ?_
      rw [if_pos h9] at ha
      refine ax_nt (by decide) (ax_nf rfl ?_)
      rw [h48]
      by_cases hf9 : a.2.2 = -9
      · refine ax_nf hf9 ?_
        rw [if_pos hf9] at ha
        refine ih (i + 1) (a.1, a.2.1, nI i) _ _ _ (by omega) ⟨hC1.1.frame (ax_ui_row (by omega)) (ax_ui_row (by omega)), hC1.2.1.frame (fun a _ _ => ax_ui_row (by omega)), hC1.2.2.frame (fun a _ _ => ax_ui_row (by omega))⟩ hG1 ax_ui_eq (hf.ui (by omega) (by omega)) ha
      · refine ax_nt hf9 ?_
        rw [if_neg hf9] at ha
        exact ih (i + 1) (a.1, a.2.1, a.2.2) I1 _ _ (by omega) hC1 hG1 h48 hf ha
    · have hw : m % 10 < T := by omega
      refine ax_nt (fun z => h9 ((nI_eq (b := 9) (by omega) (by omega)).mp z)) ⟨ax_inb_nI (by omega) (by omega), by decide, ?_⟩
      rw [if_neg h9] at ha
      refine ca_wish hC1 hg hG1 hx hw (fun I2 c2 f2 => ?_)
      have hG2 := hG1.wish hN hT (kd := kd) hx hw
      have le := sw_out_le (kd := kd) (G := a.1) (x := m / 10) (w := m % 10)
      have h482 : I2 48 4 = a.2.2 := by rw [f2 48 (by omega)]; exact h48
      have hf2 : ax_FR 48 67 I I2 := hf.trans (f2.wide (by omega) (by omega))
      have o2 : nI (sw_out kd a.1 (m / 10) (m % 10)) = 2 ↔ sw_out kd a.1 (m / 10) (m % 10) = 2 := nI_eq (b := 2) (by omega) (by omega)
      have o0 : nI (sw_out kd a.1 (m / 10) (m % 10)) = 0 ↔ sw_out kd a.1 (m / 10) (m % 10) = 0 := nI_eq (b := 0) (by omega) (by omega)
      rw [h482]
      by_cases e2 : sw_out kd a.1 (m / 10) (m % 10) = 2
      · refine ax_nf (o2.mpr e2) (ax_nt (fun z => by have := o0.mp z; omega) ?_)
        rw [if_pos e2, if_neg (fun z => by omega)] at ha
        rw [nI_1]
        exact ih (i + 1) (sw_ws kd a.1 (m / 10) (m % 10), a.2.1 + 1, a.2.2) I2 _ _ (by omega) c2 hG2 h482 hf2 ha
      · refine ax_nt (fun z => e2 (o2.mp z)) ?_
        rw [if_neg e2] at ha
        by_cases e0 : sw_out kd a.1 (m / 10) (m % 10) = 0
        · refine ax_nf (o0.mpr e0) ?_
          by_cases hf9 : a.2.2 = -9
          · refine ax_nf hf9 ?_
            rw [if_pos ⟨e0, hf9⟩] at ha
            exact ih (i + 1) (sw_ws kd a.1 (m / 10) (m % 10), a.2.1, nI i) _ _ _ (by omega) ⟨c2.1.frame (ax_ui_row (by omega)) (ax_ui_row (by omega)), c2.2.1.frame (fun a _ _ => ax_ui_row (by omega)), c2.2.2.frame (fun a _ _ => ax_ui_row (by omega))⟩ hG2 ax_ui_eq (hf2.ui (by omega) (by omega)) ha
          · refine ax_nt hf9 ?_
            rw [if_neg (fun z => hf9 z.2)] at ha
            exact ih (i + 1) (sw_ws kd a.1 (m / 10) (m % 10), a.2.1, a.2.2) I2 _ _ (by omega) c2 hG2 h482 hf2 ha
        · refine ax_nt (fun z => e0 (o0.mp z)) ?_
          rw [if_neg (fun z => e0 z.1)] at ha
          exact ih (i + 1) (sw_ws kd a.1 (m / 10) (m % 10), a.2.1, a.2.2) I2 _ _ (by omega) c2 hG2 h482 hf2 ha
theorem rf_judgeLoop {d r n N T : Nat} {kd : Nat → Nat} {tl un : Nat → Int32} {W : Nat → Nat → Nat} {G : sw_G} {f : Nat → Int32} {I : ax_I} {L : ax_J} {K : Int32 → ax_I → ax_J → Prop} (hT : sw_RT I N T kd tl un W) (hF : sw_FG (sw_fr I 1) G) (hg : sw_TG N T kd tl un) (hG : sw_GI N T G) (hr : r < 6) (hn : n ≤ 20) (hs : I 186 r = nI n) (hrow : ∀ i, i < n → I 187 (40 * r + i) = f i) (hv : ∀ i, i < n → sw_vs N T (f i) = true) {z2 : Option ax_V} (hK : ∀ I', sw_LO 0 I I' → ax_FR 199 199 I I' → K (nI (ax_it (sw_js kd f) n 0 (G, 0, -9)).2.1) (ax_ui I' 184 2 (ax_it (sw_js kd f) n 0 (G, 0, -9)).2.2) L) : ax_AK ((d + 3)) 234 (153, [some (ax_vr 9 0 184), some (ax_vi (nI r)), z2, some (ax_vi 0), some (ax_vi ((-9))), some (ax_vi 0), none, none], [], ax_mm I L) (ax_ki K) := by
  have hT6 := hg.2.1
  have hN := hg.1
  suffices ∀ (c i : Nat) (a : sw_G × Nat × Int32) (I1 : ax_I) (z2 z6 z7 : Option ax_V), i + c = n → sw_FG (sw_fr I1 1) a.1 → sw_GI N T a.1 → sw_LO 0 I I1 → ax_FR 199 199 I I1 → ax_it (sw_js kd f) c i a = ax_it (sw_js kd f) n 0 (G, 0, -9) → ax_AK ((d + 3)) 234 (153, [some (ax_vr 9 0 184), some (ax_vi (nI r)), z2, some (ax_vi (nI a.2.1)), some (ax_vi (a.2.2)), some (ax_vi (nI i)), z6, z7], [], ax_mm I1 L) (ax_ki K) from
    this n 0 (G, 0, -9) I _ _ _ (by omega) hF hG sw_LO.refl ax_FR.refl rfl
  intro c
  induction c with
  | zero =>
    intro i a I1 z2 z6 z7 hi hF1 hG1 hl hf ha
    have ha : a = ax_it (sw_js kd f) n 0 (G, 0, -9) := ha
    apply vc_X9_judge_153
    rw [nI_clamp (by omega), hf 186 (by omega), hs]
    refine ⟨ax_inb_nI hr (by omega), ax_ct ((nI_leI (by omega) (by omega)).mpr (by omega)) ?_⟩
    apply vc_X9_tells
    rw [ha]
    exact hK I1 hl hf
  | succ c ih =>
    intro i a I1 z2 z6 z7 hi hF1 hG1 hl hf ha
    have ha : ax_it (sw_js kd f) c (i + 1) (sw_js kd f i a) = ax_it (sw_js kd f) n 0 (G, 0, -9) := ha
    obtain ⟨m, hm, em, hx, hw⟩ := sw_vs_nat (hv i (by omega))
    apply vc_X9_judge_153
    rw [nI_clamp (by omega), hf 186 (by omega), hs]
    refine ⟨ax_inb_nI hr (by omega), ax_cf (fun z => by have := (nI_leI (by omega) (by omega)).mp z; omega) ?_⟩
    refine rf_rowAt hr (by omega) ?_
    rw [hf 187 (by omega), hrow i (by omega), em, ax_10r hm, ax_10d hm, nI_1, Int32.add_zero, nI_1]
    unfold sw_js at ha
    rw [em, nI_clamp hm] at ha
    refine ⟨by decide, ?_⟩
    by_cases h9 : m % 10 = 9
    · refine ax_nf (by rw [h9]; rfl) ?_
      rw [if_pos h9] at ha
      refine ax_nt (by decide) (ax_nf rfl ?_)
      by_cases hf9 : a.2.2 = -9
      · refine ax_nf hf9 ?_
        rw [if_pos hf9] at ha
        exact ih (i + 1) (a.1, a.2.1, nI i) I1 _ _ _ (by omega) hF1 hG1 hl hf ha
      · refine ax_nt hf9 ?_
        rw [if_neg hf9] at ha
        exact ih (i + 1) (a.1, a.2.1, a.2.2) I1 _ _ _ (by omega) hF1 hG1 hl hf ha
    · have hw : m % 10 < T := by omega
      refine ax_nt (fun z => h9 ((nI_eq (b := 9) (by omega) (by omega)).mp z)) ⟨by decide, by decide, ?_⟩
      rw [if_neg h9] at ha
      refine rf_says (k := 1) (hT.f199 hf) hg hF1 (by omega) hx (by omega) (fun I2 c2 o2 f2 => ?_)
      have hF2 := hF1.wish hN (show m % 10 < 6 by omega) c2
      have hG2 := hG1.wish hN hT6 (kd := kd) hx hw
      have hl2 : sw_LO 0 I I2 := hl.trans (sw_FO.lo (k := 0) o2)
      have hf2 : ax_FR 199 199 I I2 := hf.trans f2
      have le := sw_out_le (kd := kd) (G := a.1) (x := m / 10) (w := m % 10)
      unfold sw_sa
      by_cases e2 : sw_out kd a.1 (m / 10) (m % 10) = 2
      · rw [if_pos e2]
        refine ax_nf rfl (ax_nt (by decide) ?_)
        rw [if_pos e2, if_neg (fun z => by omega)] at ha
        exact ih (i + 1) (sw_ws kd a.1 (m / 10) (m % 10), a.2.1 + 1, a.2.2) I2 _ _ _ (by omega) hF2 hG2 hl2 hf2 ha
      · rw [if_neg e2]
        rw [if_neg e2] at ha
        by_cases e1 : sw_out kd a.1 (m / 10) (m % 10) = 1
        · rw [if_pos e1]
          refine ax_nt (by decide) (ax_nt (by decide) ?_)
          rw [if_neg (fun z => by omega)] at ha
          exact ih (i + 1) (sw_ws kd a.1 (m / 10) (m % 10), a.2.1, a.2.2) I2 _ _ _ (by omega) hF2 hG2 hl2 hf2 ha
        · rw [if_neg e1]
          refine ax_nt (by decide) (ax_nf rfl ?_)
          by_cases hf9 : a.2.2 = -9
          · refine ax_nf hf9 ?_
            rw [if_pos ⟨by omega, hf9⟩] at ha
            exact ih (i + 1) (sw_ws kd a.1 (m / 10) (m % 10), a.2.1, nI i) I2 _ _ _ (by omega) hF2 hG2 hl2 hf2 ha
          · refine ax_nt hf9 ?_
            rw [if_neg (fun z => hf9 z.2)] at ha
            exact ih (i + 1) (sw_ws kd a.1 (m / 10) (m % 10), a.2.1, a.2.2) I2 _ _ _ (by omega) hF2 hG2 hl2 hf2 ha
theorem op_judge {I : ax_I} {L : ax_J} (h : sw_RR I L) (a : Int32) : sw_OP 122 234 [ax_vi a] I L := by
  intro d
  have h0 := h
  obtain ⟨N, T, kd, tl, un, W, es, h1, h2, h3, h4⟩ := h
  have hG := h1.GI
  have h1' := h1
  obtain ⟨q1, q2, q3, q4, q5, q6, q7, q8, q9, q10⟩ := h1
  have hN := q1.1
  have hT := q1.2.1
  apply vc_X8_judge
  rcases sw_dich (n := 6) (by omega) a with ⟨r, hr, rfl⟩ | ha
  case inr =>
    refine cl_isRow_no ha ?_
    refine ⟨(fun q => absurd q (by decide)), fun _ => ?_⟩
    apply vc_X9_judge
    refine rf_isRow_no ha ?_
    exact ⟨(fun q => absurd q (by decide)), fun _ => ⟨rfl, h0⟩⟩
  refine cl_isRow_k hr ?_
  refine ⟨fun _ => ?_, (fun q => absurd q (by decide))⟩
  rw [q5.1, nI_clamp (by omega)]
  by_cases hN0 : N = 0
  · refine ax_nf (by rw [hN0]; rfl) ?_
    apply vc_X9_judge
    refine rf_isRow_k hr ?_
    refine ⟨fun _ => ?_, (fun q => absurd q (by decide))⟩
    rw [q7.1]
    exact ax_nf (by rw [hN0]; rfl) ⟨rfl, h0⟩
  have hNn : ¬ nI N = 0 := fun z => hN0 ((nI_eq (b := 0) (by omega) (by omega)).mp z)
  refine ax_nt hNn ⟨ax_inb_nI hr (by omega), ?_⟩
  obtain ⟨l1, l2⟩ := h3.1 r hr
  have cz : ∀ f b, sw_fC I f 186 b = I 186 b := fun f b => by unfold sw_fC; rw [ax_ui_ne (by omega), ax_ui_ne (by omega)]
  have cz2 : ∀ f a b, ¬ a = 3 → ¬ a = 118 → sw_fC I f a b = I a b := fun f a b z1 z2 => by unfold sw_fC; rw [ax_ui_ne (by omega), ax_ui_ne (by omega)]
  rcases l2 with l2 | ⟨n, hn, l2, l3⟩
  · refine cl_missing l2 ?_
    refine ax_cf (by decide) ?_
    refine cl_find (f := 1) (by omega) ?_
    apply vc_X9_judge
    refine rf_isRow_k hr ?_
    refine ⟨fun _ => ?_, (fun q => absurd q (by decide))⟩
    rw [cz2 _ _ _ (by omega) (by omega), q7.1, nI_clamp (by omega), cz, l1, l2]
    refine ax_nt hNn ⟨ax_inb_nI hr (by omega), ax_cf (by decide) ?_⟩
    exact rf_meets (f := 1) (by omega) ⟨rfl, h0.find (by omega)⟩
  refine cl_there l2 (by omega) ?_
  refine ax_ct rfl ?_
  rw [l2]
  by_cases h20 : n ≤ 20
  case neg =>
    refine ax_cf (fun z => h20 ((nI_leI (b := 20) (by omega) (by omega)).mp z)) ?_
    refine cl_find (f := 5) (by omega) ?_
    apply vc_X9_judge
    refine rf_isRow_k hr ?_
    refine ⟨fun _ => ?_, (fun q => absurd q (by decide))⟩
    rw [cz2 _ _ _ (by omega) (by omega), q7.1, nI_clamp (by omega), cz, l1, l2]
    refine ax_nt hNn ⟨ax_inb_nI hr (by omega), ax_ct (nI_pos' (by omega)) ⟨ax_inb_nI hr (by omega), ax_cf (fun z => h20 ((nI_leI (b := 20) (by omega) (by omega)).mp z)) ?_⟩⟩
    exact rf_meets (f := 5) (by omega) ⟨rfl, h0.find (by omega)⟩
  refine ax_ct ((nI_leI (b := 20) (by omega) (by omega)).mpr h20) ?_
  generalize ho : 4 + (115 + 2 * r) = o at l1 l2 l3 ⊢
  /- the reference's test of all -/
  have ref : ∀ (I0 : ax_I) (K0 : Int32 → ax_I → ax_J → Prop), I0 184 10 = nI N → I0 184 11 = nI T → I0 186 r = nI n → (∀ i, i < n → I0 187 (40 * r + i) = I (o + 1) i) → ((∀ i, i < n → sw_vs N T (I (o + 1) i) = true) → ∀ z, ax_CV (d + 29) 186 [ax_vr 9 0 184, ax_vi 0, ax_vi 1] I0 L (fun I1 L2 => ax_AK ((d + 29)) 234 (153, [some (ax_vr 9 0 184), some (ax_vi (nI r)), z, some (ax_vi 0), some (ax_vi ((-9))), some (ax_vi 0), none, none], [], ax_mm I1 L2) (ax_ki K0))) → ((¬ ∀ i, i < n → sw_vs N T (I (o + 1) i) = true) → ax_CI (d + 29) 152 [ax_vr 9 0 184, ax_vi 3] I0 L (fun x6 I4 L5 => K0 x6 I4 L5)) → ax_CI (d + 30) 234 [ax_vr 9 0 184, ax_vi (nI r)] I0 L K0 := by
    intro I0 K0 e10 e11 e186 e187 k1 k2
    apply vc_X9_judge
    refine rf_isRow_k hr ?_
    refine ⟨fun _ => ?_, (fun q => absurd q (by decide))⟩
    rw [e10, nI_clamp (by omega), e186]
    refine ax_nt hNn ⟨ax_inb_nI hr (by omega), ax_ct (nI_pos' (by omega)) ⟨ax_inb_nI hr (by omega), ax_ct ((nI_leI (b := 20) (by omega) (by omega)).mpr h20) ?_⟩⟩
    suffices ∀ (c i : Nat) (b : Bool) (z4 z5 z6 z7 : Option ax_V), i + c = n → (b = true ↔ ∀ j, j < i → sw_vs N T (I (o + 1) j) = true) → ax_AK ((d + 29)) 234 (55, [some (ax_vr 9 0 184), some (ax_vi (nI r)), some (ax_vi (ax_b b)), some (ax_vi (nI i)), z4, z5, z6, z7], [], ax_mm I0 L) (ax_ki K0) from this n 0 true _ _ _ _ (by omega) ⟨fun _ j hj => by omega, fun _ => rfl⟩
    intro c
    induction c with
    | zero =>
      intro i b z4 z5 z6 z7 hi hb
      apply vc_X9_judge_55
      rw [nI_clamp (by omega), e186]
      refine ⟨ax_inb_nI hr (by omega), ax_ct ((nI_leI (by omega) (by omega)).mpr (by omega)) ?_⟩
      cases b with
      | true => exact ax_nt (by decide) (k1 (fun j hj => hb.mp rfl j (by omega)) _)
      | false => exact ax_nf rfl (k2 (fun z => by have := hb.mpr (fun j hj => z j (by omega)); cases this))
    | succ c ih =>
      intro i b z4 z5 z6 z7 hi hb
      apply vc_X9_judge_55
      rw [nI_clamp (by omega), e186]
      refine ⟨ax_inb_nI hr (by omega), ax_cf (fun z => by have := (nI_leI (by omega) (by omega)).mp z; omega) ?_⟩
      refine rf_rowAt hr (by omega) ?_
      rw [e187 i (by omega), nI_1]
      generalize hc : I (o + 1) i = cc
      have no : ∀ z4, sw_vs N T cc = false ∨ b = false → ax_AK ((d + 29)) 234 (55, [some (ax_vr 9 0 184), some (ax_vi (nI r)), some (ax_vi (ax_b false)), some (ax_vi (nI (i + 1))), z4, none, none, none], [], ax_mm I0 L) (ax_ki K0) := by
        intro z4 hz
        refine ih (i + 1) false _ _ _ _ (by omega) ⟨(fun q => by cases q), fun q => ?_⟩
        rcases hz with hz | hz
        · have := q i (by omega); rw [hc, hz] at this; cases this
        · have := hb.mpr (fun j hj => q j (by omega)); rw [hz] at this; cases this
      have yes : ∀ z4, sw_vs N T cc = true → b = true → ax_AK ((d + 29)) 234 (55, [some (ax_vr 9 0 184), some (ax_vi (nI r)), some (ax_vi (ax_b true)), some (ax_vi (nI (i + 1))), z4, none, none, none], [], ax_mm I0 L) (ax_ki K0) := by
        intro z4 hz hbt
        refine ih (i + 1) true _ _ _ _ (by omega) ⟨fun _ j hj => ?_, fun _ => rfl⟩
        by_cases e : j = i
        · rw [e, hc]; exact hz
        · exact hb.mp hbt j (by omega)
      cases b with
      | false => exact ax_ct rfl (no _ (.inr rfl))
      | true =>
        refine ax_cf (by decide) ?_
        by_cases hneg : cc < 0
        · refine ax_ct hneg (no _ (.inl ?_))
          unfold sw_vs; rw [decide_eq_false (Int32.not_le.mpr hneg)]; rfl
        · refine ax_cf hneg ⟨by decide, ?_⟩
          obtain ⟨m, hm, em⟩ := nI_of hneg
          rw [em, ax_10r hm, ax_10d hm]
          have hvs : sw_vs N T cc = (decide (m / 10 < N) && (decide (m % 10 < T) || decide (m % 10 = 9))) := by
            unfold sw_vs; rw [em, nI_clamp hm, decide_eq_true (nI_pos' hm), Bool.true_and]
          by_cases g1 : m / 10 < N
          · refine rf_isOne_k e10 hN g1 ?_
            refine ax_cf (by decide) ⟨by decide, ?_⟩
            by_cases g2 : m % 10 < T
            · refine rf_isThing_k e11 hT g2 ?_
              exact ax_nt (by decide) (yes _ (by rw [hvs, decide_eq_true g1, decide_eq_true g2]; rfl) rfl)
            · refine rf_isThing_no e11 hT (sw_nk (by omega) (by omega) g2) ?_
              refine ax_nf rfl ⟨by decide, ?_⟩
              by_cases g3 : m % 10 = 9
              · exact ax_nf (by rw [g3]; rfl) (yes _ (by rw [hvs, decide_eq_true g1, decide_eq_true g3, Bool.or_true]; rfl) rfl)
              · exact ax_nt (fun z => g3 ((nI_eq (b := 9) (by omega) (by omega)).mp z)) (no _ (.inl (by rw [hvs, decide_eq_false g2, decide_eq_false g3]; simp)))
          · refine rf_isOne_no e10 hN (sw_nk (by omega) (by omega) g1) ?_
            exact ax_ct rfl (no _ (.inl (by rw [hvs, decide_eq_false g1]; rfl)))
  suffices ∀ (c i : Nat) (z1 : Option ax_V), i + c = n → (∀ j, j < i → sw_vs N T (I (o + 1) j) = true) → ax_AK ((d + 29)) 122 (59, [some (ax_vr 8 0 3), z1, some (ax_vr 4 40 o), some (ax_vi (nI i))], [], ax_mm I L) (ax_ki (fun a I1 L1 => ax_CI (d + 30) 234 [ax_vr 9 0 184, ax_vi (nI r)] I1 L1 (fun b I2 L2 => a = b ∧ sw_RR I2 L2))) from this n 0 _ (by omega) (fun j hj => by omega)
  intro c
  induction c with
  | succ c ih =>
    intro i z1 hi hv
    apply vc_X8_judge_59
    rw [l2, nI_clamp (by omega), nI_1]
    refine ax_cf (fun z => by have := (nI_leI (by omega) (by omega)).mp z; omega) ⟨ax_inb_nI (by omega) (by omega), ?_⟩
    refine cl_hasSaying q5 hN hT ?_
    cases hvi : sw_vs N T (I (o + 1) i) with
    | true =>
      refine ax_nt (by decide) ?_
      refine ih (i + 1) _ (by omega) (fun j hj => ?_)
      by_cases e : j = i
      · rw [e]; exact hvi
      · exact hv j (by omega)
    | false =>
      refine ax_nf rfl ?_
      refine cl_find (f := 3) (by omega) ?_
      refine ref _ _ (by rw [cz2 _ _ _ (by omega) (by omega)]; exact q7.1) (by rw [cz2 _ _ _ (by omega) (by omega)]; exact q7.2.1) (by rw [cz, l1, l2]) (fun j hj => by rw [cz2 _ _ _ (by omega) (by omega)]; exact l3 j hj) (fun z => by have := z i (by omega); rw [hvi] at this; cases this) (fun _ => ?_)
      exact rf_meets (f := 3) (by omega) ⟨rfl, h0.find (by omega)⟩
  | zero =>
    intro i z1 hi hv
    have hv : ∀ j, j < n → sw_vs N T (I (o + 1) j) = true := fun j hj => hv j (by omega)
    apply vc_X8_judge_59
    rw [l2]
    refine ax_ct ((nI_leI (by omega) (by omega)).mpr (by omega)) ?_
    refine cl_begin q5 hN q6.1 hG.len (fun I1 t1 d1 f1 => ?_)
    have eo1 : I1 (o + 1) = I (o + 1) := f1 _ (by omega)
    refine cl_judgeAll (d := d + 25) (h1'.ca t1 d1 f1) q1 hG (by omega) h20 (by rw [f1 o (by omega)]; exact l2) (fun j hj => by rw [eo1]; exact hv j hj) (fun I2 e2 f2 => ?_)
    rw [eo1] at e2 ⊢
    rw [e2]
    generalize hvv : (ax_it (sw_js kd (I (o + 1))) n 0 (sw_rp kd es, 0, -9)).2.2 = v
    have fc : ∀ a, (a < 48 ∨ 67 < a) → ¬ a = 3 → ax_ui I2 3 13 v a = I a := fun a z1 z2 => by rw [ax_ui_row z2, f2 a z1, f1 a (by omega)]
    have h1c : sw_TW (ax_ui I2 3 13 v) N T kd tl un W es := h1'.aside (fun a q => fc a (by omega) (by omega))
    refine ref _ _ h1c.2.2.2.2.2.2.1.1 h1c.2.2.2.2.2.2.1.2.1 (by rw [fc _ (by omega) (by omega), l1, l2]) (fun j hj => by rw [fc _ (by omega) (by omega)]; exact l3 j hj) (fun _ z => ?_) (fun z => absurd hv z)
    have ra := h1c.ra (by omega)
    refine rf_copyTo (k := 0) (k' := 1) (by omega) (by omega) (by omega) (fun I3 c3 o3 f3 => ?_)
    refine rf_judgeLoop (d := d + 26) (f := I (o + 1)) (ra.1.f199 f3) (ra.2.same c3) q1 hG hr h20 (by rw [f3 186 (by omega), fc _ (by omega) (by omega), l1, l2]) (fun j hj => by rw [f3 187 (by omega), fc _ (by omega) (by omega)]; exact l3 j hj) hv (fun I4 l4 f4 => ⟨rfl, ?_⟩)
    rw [hvv]
    have f34 : ax_FR 199 199 (ax_ui I2 3 13 v) I4 := f3.trans f4
    refine h0.aside (fun a q => ?_) ?_ (h4.told ?_ ?_ ?_ ?_ ?_)
    · rw [ax_ui_row (by omega), f34 a (by omega), fc a (by omega) (by omega)]
    · refine sw_SK.ui ?_ (by omega) (by omega)
      exact ⟨fun b hb => by rw [l4 b (by omega), o3 b (by omega), fc _ (by omega) (by omega)], by rw [f34 _ (by omega), fc _ (by omega) (by omega)], by rw [f34 _ (by omega), fc _ (by omega) (by omega)], by rw [f34 _ (by omega), fc _ (by omega) (by omega)]⟩
    · rw [ax_ui_ne (by omega), f34 _ (by omega), ax_ui_ne (by omega), f2 _ (by omega), f1 _ (by omega)]
    · rw [ax_ui_ne (by omega), f34 _ (by omega), fc _ (by omega) (by omega)]
    · rw [ax_ui_row (by omega), f34 _ (by omega), fc _ (by omega) (by omega)]
    · rw [ax_ui_row (by omega), f34 _ (by omega), fc _ (by omega) (by omega)]
    · rw [ax_ui_ne (by omega), f34 _ (by omega), ax_ui_eq, ax_ui_eq]
