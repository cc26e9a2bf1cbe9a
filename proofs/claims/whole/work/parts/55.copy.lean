theorem ax_lNI {n : Nat} (h : n < 2 ^ 62) : (lN n).toInt = (n : Int) := lg_ofNat_toInt (by omega)
theorem ax_lN_lt {a b : Nat} (ha : a < 2 ^ 62) (hb : b < 2 ^ 62) : lN a < lN b ↔ a < b := by
  rw [Int64.lt_iff_toInt_lt, ax_lNI ha, ax_lNI hb]; omega
theorem ax_lN_le {a b : Nat} (ha : a < 2 ^ 62) (hb : b < 2 ^ 62) : lN a ≤ lN b ↔ a ≤ b := by
  rw [Int64.le_iff_toInt_le, ax_lNI ha, ax_lNI hb]; omega
theorem ax_lN_eq {a b : Nat} (ha : a < 2 ^ 62) (hb : b < 2 ^ 62) : lN a = lN b ↔ a = b := by
  rw [← Int64.toInt_inj, ax_lNI ha, ax_lNI hb]; omega
theorem sw_cp_gt {i n s : Nat} (hi : i < 2 ^ 31) (hn : n < 2 ^ 31) (hs : s < 2 ^ 31) : (0 < lg_cmp ((nI i).toInt64 + (nI n).toInt64) (nI s).toInt64) ↔ s < i + n := by
  rw [lg_cmp_gt, nI_l hi, nI_l hn, nI_l hs, lN_add, ax_lN_lt (by omega) (by omega)]
theorem sw_cp_le {i n s : Nat} (hi : i < 2 ^ 31) (hn : n < 2 ^ 31) (hs : s < 2 ^ 31) : (lg_cmp ((nI i).toInt64 + (nI n).toInt64) (nI s).toInt64 ≤ 0) ↔ i + n ≤ s := by
  rw [lg_cmp_le, nI_l hi, nI_l hn, nI_l hs, lN_add, ax_lN_le (by omega) (by omega)]
/-- so many places from there on -/
def sw_rg (s : Nat) (i : Int32) (n : Nat) : Prop := ∃ k, i = nI k ∧ k < 2 ^ 31 ∧ k + n ≤ s
theorem cl_hasRange_k {d o n0 s i n : Nat} {I : ax_I} {L : ax_J} {K : Int32 → ax_I → ax_J → Prop} (h : I o 1 = nI s) (hs : s ≤ 80) (hi : i + n ≤ s) (hK : K 1 I L) : ax_CI (d + 1) 52 [ax_vr 4 n0 o, ax_vi (nI i), ax_vi (nI n)] I L K := by
  apply vc_X4_hasRange
  rw [h, ax_nI_sub (by omega)]
  simp (disch := omega) only [Bool.not_eq_false, Bool.not_eq_true, decide_eq_true_eq, decide_eq_false_iff_not, Bool.not_eq_true', Bool.not_eq_false', ax_lle, ax_llt, ax_lel, ax_ltl, ax_leq, ax_eql, ax_clampl, ax_inb_iff, nI_clamp, nI_1, nI_leI, nI_ltI, nI_eq, ax_b0, ax_b1, ax_bitb, ax_ui_eq, ax_ui_ne, true_and, and_true]
  exact ⟨fun q => by omega, fun _ => ⟨fun q => by omega, fun _ => ⟨fun q => by omega, fun _ => ⟨by decide, hK⟩⟩⟩⟩
theorem cl_hasRange_no {d o n0 s n : Nat} {i : Int32} {I : ax_I} {L : ax_J} {K : Int32 → ax_I → ax_J → Prop} (h : I o 1 = nI s) (hs : s ≤ 80) (hn : n < 2 ^ 31) (hi : ¬ sw_rg s i n) (hK : K 0 I L) : ax_CI (d + 1) 52 [ax_vr 4 n0 o, ax_vi i, ax_vi (nI n)] I L K := by
  apply vc_X4_hasRange
  rw [h]
  refine ax_if (fun _ => ⟨by decide, hK⟩) (fun h0 => ax_if (fun _ => ⟨by decide, hK⟩) (fun h1 => ax_if (fun _ => ⟨by decide, hK⟩) (fun h2 => ?_)))
  exfalso
  obtain ⟨k, hk, rfl⟩ := ax_of_le (Int32.not_lt.mp h0) (Int32.not_lt.mp h1) (by omega)
  apply hi
  refine ⟨k, rfl, by omega, ?_⟩
  rw [ax_nI_sub hk, nI_ltI (by omega) (by omega)] at h2
  omega
theorem op_copy {I : ax_I} {L : ax_J} (h : sw_RR I L) (a i b j n : Int32) : sw_OP 94 166 [ax_vi a, ax_vi i, ax_vi b, ax_vi j, ax_vi n] I L := by
  intro d
  apply vc_X8_copy
  rcases sw_dich (n := 6) (by omega) a with ⟨r, hr, rfl⟩ | ha
  case inr =>
    refine cl_isRow_no ha ?_
    refine ⟨fun _ => ?_, (fun q => absurd q (by decide))⟩
    apply vc_X9_copy
    refine rf_isRow_no ha ?_
    exact ⟨fun _ => ⟨rfl, h⟩, (fun q => absurd q (by decide))⟩
  refine cl_isRow_k hr ?_
  refine ⟨(fun q => absurd q (by decide)), fun _ => ?_⟩
  rcases sw_dich (n := 6) (by omega) b with ⟨t, ht, rfl⟩ | hb
  case inr =>
    refine cl_isRow_no hb ?_
    refine ⟨(fun q => absurd q (by decide)), fun _ => ?_⟩
    apply vc_X9_copy
    refine rf_isRow_k hr ?_
    refine ⟨(fun q => absurd q (by decide)), fun _ => ?_⟩
    refine rf_isRow_no hb ?_
    exact ⟨(fun q => absurd q (by decide)), fun _ => ⟨rfl, h⟩⟩
  refine cl_isRow_k ht ?_
  refine ⟨fun _ => ?_, (fun q => absurd q (by decide))⟩
  obtain ⟨l1, l2⟩ := h.LS.1 r hr
  obtain ⟨m1, m2⟩ := h.LS.1 t ht
  have cz : ∀ f b, sw_fC I f 186 b = I 186 b := fun f b => by unfold sw_fC; rw [ax_ui_ne (by omega), ax_ui_ne (by omega)]
  by_cases hn0 : (0 : Int32) ≤ n
  case neg =>
    refine ⟨fun q => absurd (of_decide_eq_true q) hn0, fun _ => ?_⟩
    refine cl_find (f := 5) (by omega) ?_
    apply vc_X9_copy
    refine rf_isRow_k hr ?_
    refine ⟨(fun q => absurd q (by decide)), fun _ => ?_⟩
    refine rf_isRow_k ht ?_
    refine ⟨fun _ => ?_, (fun q => absurd q (by decide))⟩
    refine ⟨fun q => absurd (of_decide_eq_true q) hn0, fun _ => ?_⟩
    exact rf_meets (f := 5) (by omega) ⟨rfl, h.find (by omega)⟩
  obtain ⟨m, hm, rfl⟩ := nI_of (x := n) (by rw [Int32.not_lt]; exact hn0)
  refine ⟨fun _ => ?_, fun q => absurd hn0 (of_decide_eq_false q)⟩
  /- the reference, once the first tests are through -/
  have ref : ∀ (I0 : ax_I) (K0 : Int32 → ax_I → ax_J → Prop), (ax_inb (nI r) 6 = true ∧
      (decide ((I0 186 (nI r).toNatClampNeg) < 0) = true → ax_CI (d + 29) 152 [ax_vr 9 0 184, ax_vi 1] I0 L (fun x9 I7 L8 => K0 x9 I7 L8)) ∧
      (decide ((I0 186 (nI r).toNatClampNeg) < 0) = false → ax_inb (nI t) 6 = true ∧
        (decide (0 ≤ (I0 186 (nI t).toNatClampNeg)) = true →
                (decide (i < 0) = true →
                  ax_CI (d + 29) 152 [ax_vr 9 0 184, ax_vi 2] I0 L (fun x12 I10 L11 =>
                    K0 x12 I10 L11)) ∧
                (decide (i < 0) = false →
                  (decide (j < 0) = true →
                    ax_CI (d + 29) 152 [ax_vr 9 0 184, ax_vi 2] I0 L (fun x15 I13 L14 =>
                      K0 x15 I13 L14)) ∧
                  (decide (j < 0) = false →
                    ax_inb (nI r) 6 = true ∧
                    (decide (0 < (lg_cmp (i.toInt64 + (nI m).toInt64) ((I0 186 (nI r).toNatClampNeg).toInt64))) = true →
                      ax_CI (d + 29) 152 [ax_vr 9 0 184, ax_vi 2] I0 L (fun x18 I16 L17 =>
                        K0 x18 I16 L17)) ∧
                    (decide (0 < (lg_cmp (i.toInt64 + (nI m).toInt64) ((I0 186 (nI r).toNatClampNeg).toInt64))) = false →
                      ax_inb (nI t) 6 = true ∧
                      (decide ((lg_cmp (j.toInt64 + (nI m).toInt64) ((I0 186 (nI t).toNatClampNeg).toInt64)) ≤ 0) = true →
                        ax_AK ((d + 29)) 166 (104, [some (ax_vr 9 0 184), some (ax_vi (nI r)), some (ax_vi i), some (ax_vi (nI t)), some (ax_vi j), some (ax_vi (nI m)), some (ax_vi 0)], [], ax_mm I0 L) (ax_ki K0)) ∧
                      (decide ((lg_cmp (j.toInt64 + (nI m).toInt64) ((I0 186 (nI t).toNatClampNeg).toInt64)) ≤ 0) = false →
                        ax_CI (d + 29) 152 [ax_vr 9 0 184, ax_vi 2] I0 L (fun x21 I19 L20 =>
                          K0 x21 I19 L20)))))) ∧
              (decide (0 ≤ (I0 186 (nI t).toNatClampNeg)) = false →
                ax_CI (d + 29) 152 [ax_vr 9 0 184, ax_vi 1] I0 L (fun x24 I22 L23 =>
                  K0 x24 I22 L23)))) → ax_CI (d + 30) 166 [ax_vr 9 0 184, ax_vi (nI r), ax_vi i, ax_vi (nI t), ax_vi j, ax_vi (nI m)] I0 L K0 := by
    intro I0 K0 z
    apply vc_X9_copy
    refine rf_isRow_k hr ?_
    refine ⟨(fun q => absurd q (by decide)), fun _ => ?_⟩
    refine rf_isRow_k ht ?_
    refine ⟨fun _ => ?_, (fun q => absurd q (by decide))⟩
    exact ⟨fun _ => z, fun q => absurd hn0 (of_decide_eq_false q)⟩
  have inr : ax_inb (nI r) 6 = true := ax_inb_nI hr (by omega)
  have int : ax_inb (nI t) 6 = true := ax_inb_nI ht (by omega)
  rw [nI_clamp (by omega), nI_clamp (by omega)] at ref
  rw [nI_clamp (show r < 2 ^ 31 by omega), nI_clamp (show t < 2 ^ 31 by omega)]
  refine ⟨inr, ?_⟩
  rcases l2 with l2 | ⟨s, hs, l2, l3⟩
  · refine cl_missing l2 ?_
    refine ⟨fun _ => ?_, (fun q => absurd q (by decide))⟩
    refine cl_find (f := 1) (by omega) ?_
    refine ref _ _ ?_
    rw [cz, l1, l2]
    refine ⟨inr, fun _ => ?_, (fun q => absurd q (by decide))⟩
    exact rf_meets (f := 1) (by omega) ⟨rfl, h.find (by omega)⟩
  refine cl_there l2 (by omega) ?_
  refine ⟨(fun q => absurd q (by decide)), fun _ => ⟨int, ?_⟩⟩
  rcases m2 with m2 | ⟨u, hu, m2, m3⟩
  · refine cl_missing m2 ?_
    refine ⟨(fun q => absurd q (by decide)), fun _ => ?_⟩
    refine cl_find (f := 1) (by omega) ?_
    refine ref _ _ ?_
    rw [cz, cz, l1, l2, m1, m2]
    refine ⟨inr, fun q => absurd (of_decide_eq_true q) (nI_pos (by omega)), fun _ => ⟨int, (fun q => absurd q (by decide)), fun _ => ?_⟩⟩
    exact rf_meets (f := 1) (by omega) ⟨rfl, h.find (by omega)⟩
  refine cl_there m2 (by omega) ?_
  refine ⟨fun _ => ⟨inr, ?_⟩, (fun q => absurd q (by decide))⟩
  /- both are there: beyond, or not -/
  have beyond : (¬ sw_rg s i m ∨ ¬ sw_rg u j m) → ax_CI (d + 29) 135 [ax_vr 8 0 3, ax_vi 2] I L (fun a I1 L1 => ax_CI (d + 30) 166 [ax_vr 9 0 184, ax_vi (nI r), ax_vi i, ax_vi (nI t), ax_vi j, ax_vi (nI m)] I1 L1 (fun b I2 L2 => a = b ∧ sw_RR I2 L2)) := by
    intro hbad
    refine cl_find (f := 2) (by omega) ?_
    refine ref _ _ ?_
    rw [cz, cz, l1, l2, m1, m2]
    have fin : ax_CI (d + 29) 152 [ax_vr 9 0 184, ax_vi 2] (sw_fC I 2) L (fun b I2 L2 => (-3 : Int32) = b ∧ sw_RR I2 L2) := rf_meets (f := 2) (by omega) ⟨rfl, h.find (by omega)⟩
    refine ⟨inr, fun q => absurd (of_decide_eq_true q) (nI_pos (by omega)), fun _ => ⟨int, fun _ => ax_if (fun _ => fin) (fun hi => ax_if (fun _ => fin) (fun hj => ⟨inr, ax_if (fun _ => fin) (fun q1 => ⟨int, ax_if (fun q2 => ?_) (fun _ => fin)⟩)⟩)), fun q => absurd (nI_pos' (by omega)) (of_decide_eq_false q)⟩⟩
    exfalso
    obtain ⟨ii, hii, rfl⟩ := nI_of hi
    obtain ⟨jj, hjj, rfl⟩ := nI_of hj
    rw [sw_cp_gt hii hm (by omega)] at q1
    rw [sw_cp_le hjj hm (by omega)] at q2
    rcases hbad with z | z
    · exact z ⟨ii, rfl, hii, by omega⟩
    · exact z ⟨jj, rfl, hjj, by omega⟩
  by_cases g1 : sw_rg s i m
  case neg =>
    refine cl_hasRange_no l2 (by omega) hm g1 ?_
    exact ⟨fun _ => beyond (.inl g1), (fun q => absurd q (by decide))⟩
  by_cases g2 : sw_rg u j m
  case neg =>
    obtain ⟨ii, rfl, hii, hi2⟩ := g1
    refine cl_hasRange_k l2 (by omega) hi2 ?_
    refine ⟨(fun q => absurd q (by decide)), fun _ => ⟨int, ?_⟩⟩
    refine cl_hasRange_no m2 (by omega) hm g2 ?_
    exact ⟨(fun q => absurd q (by decide)), fun _ => beyond (.inr g2)⟩
  clear beyond
  obtain ⟨ii, rfl, hii, hi2⟩ := g1
  obtain ⟨jj, rfl, hjj, hj2⟩ := g2
  refine cl_hasRange_k l2 (by omega) hi2 ?_
  refine ⟨(fun q => absurd q (by decide)), fun _ => ⟨int, ?_⟩⟩
  refine cl_hasRange_k m2 (by omega) hj2 ?_
  refine ⟨fun _ => ⟨inr, int, ?_, ?_⟩, (fun q => absurd q (by decide))⟩
  · simp (disch := omega) only [Bool.not_eq_false, Bool.not_eq_true, decide_eq_true_eq, decide_eq_false_iff_not, Bool.not_eq_true', Bool.not_eq_false', ax_lle, ax_llt, ax_lel, ax_ltl, ax_leq, ax_eql, ax_clampl, ax_inb_iff, nI_clamp, nI_1, nI_leI, nI_ltI, nI_eq, ax_b0, ax_b1, ax_bitb, ax_ui_eq, ax_ui_ne, true_and, and_true]
    simp only [Bool.and_eq_true, decide_eq_true_eq, Nat.ble_eq]
    omega
  rw [nI_clamp hii, nI_clamp hjj, nI_clamp hm]
  refine ref _ _ ?_
  rw [ax_uc_ne (by omega), ax_uc_ne (by omega), l1, l2, m1, m2]
  refine ⟨inr, fun q => absurd (of_decide_eq_true q) (nI_pos (by omega)), fun _ => ⟨int, fun _ => ⟨fun q => absurd (of_decide_eq_true q) (nI_pos (by omega)), fun _ => ⟨fun q => absurd (of_decide_eq_true q) (nI_pos (by omega)), fun _ => ⟨inr, fun q => absurd ((sw_cp_gt hii hm (by omega)).mp (of_decide_eq_true q)) (by omega), fun _ => ⟨int, fun _ => ?_, fun q => absurd ((sw_cp_le hjj hm (by omega)).mpr hj2) (of_decide_eq_false q)⟩⟩⟩⟩, fun q => absurd (nI_pos' (by omega)) (of_decide_eq_false q)⟩⟩
  generalize hI0 : ax_uc I (4 + (115 + 2 * r) + 1) (4 + (115 + 2 * t) + 1) ii jj m = I0
  have h187 : I0 187 = I 187 := by rw [← hI0, ax_uc_row (by omega)]
  suffices ∀ (e k : Nat) (I1 : ax_I), k + e = m → (∀ c, c < k → I1 188 c = I 187 (40 * r + (ii + c))) → ax_FR 188 188 I0 I1 → ax_AK ((d + 29)) 166 (104, [some (ax_vr 9 0 184), some (ax_vi (nI r)), some (ax_vi (nI ii)), some (ax_vi (nI t)), some (ax_vi (nI jj)), some (ax_vi (nI m)), some (ax_vi (nI k))], [], ax_mm I1 L) (ax_ki (fun b I2 L2 => (1 : Int32) = b ∧ sw_RR I2 L2)) from this m 0 I0 (by omega) (fun c hc => by omega) ax_FR.refl
  intro e
  induction e with
  | zero =>
    intro k I1 hk h1 f1
    apply vc_X9_copy_104
    simp (disch := omega) only [Bool.not_eq_false, Bool.not_eq_true, decide_eq_true_eq, decide_eq_false_iff_not, Bool.not_eq_true', Bool.not_eq_false', ax_lle, ax_llt, ax_lel, ax_ltl, ax_leq, ax_eql, ax_clampl, ax_inb_iff, nI_clamp, nI_1, nI_leI, nI_ltI, nI_eq, ax_b0, ax_b1, ax_bitb, ax_ui_eq, ax_ui_ne, true_and, and_true]
    refine ⟨fun _ => ?_, fun q => by omega⟩
    have hk : k = m := by omega
    subst hk
    suffices ∀ (e c : Nat) (I2 : ax_I) (z1 z2 : Option ax_V), c + e = k → (∀ v, v < c → I2 187 (40 * t + (jj + v)) = I 187 (40 * r + (ii + v))) → (∀ b, b < 40 * t + jj ∨ 40 * t + jj + k ≤ b → I2 187 b = I 187 b) → ax_FR 187 187 I1 I2 → ax_AK ((d + 29)) 166 (136, [some (ax_vr 9 0 184), z1, z2, some (ax_vi (nI t)), some (ax_vi (nI jj)), some (ax_vi (nI k)), some (ax_vi (nI c))], [], ax_mm I2 L) (ax_ki (fun b I2 L2 => (1 : Int32) = b ∧ sw_RR I2 L2)) from this k 0 I1 _ _ (by omega) (fun c hc => by omega) (fun b _ => by rw [f1 _ (by omega), h187]) ax_FR.refl
    intro e
    induction e with
    | zero =>
      intro c I2 z1 z2 hc h2 g2 f2
      have hc : c = k := by omega
      subst hc
      apply vc_X9_copy_136
      simp (disch := omega) only [Bool.not_eq_false, Bool.not_eq_true, decide_eq_true_eq, decide_eq_false_iff_not, Bool.not_eq_true', Bool.not_eq_false', ax_lle, ax_llt, ax_lel, ax_ltl, ax_leq, ax_eql, ax_clampl, ax_inb_iff, nI_clamp, nI_1, nI_leI, nI_ltI, nI_eq, ax_b0, ax_b1, ax_bitb, ax_ui_eq, ax_ui_ne, true_and, and_true]
      refine ⟨fun _ => ?_, fun q => by omega⟩
      have fall : ∀ a, ¬ a = 187 → ¬ a = 188 → ¬ a = 4 + (115 + 2 * t) + 1 → I2 a = I a := fun a q1 q2 q3 => by rw [f2 a (by omega), f1 a (by omega), ← hI0, ax_uc_row q3]
      refine h.line ht ⟨?_, .inr ⟨u, hu, ?_, fun v hv => ?_⟩⟩ (fun a q1 q2 q3 => fall a (by omega) (by omega) q3) ⟨fun b _ => by rw [fall _ (by omega) (by omega) (by omega)], by rw [fall _ (by omega) (by omega) (by omega)], by rw [fall _ (by omega) (by omega) (by omega)], by rw [fall _ (by omega) (by omega) (by omega)]⟩ (fun b hb => ?_) (fun b hb => g2 b (by omega)) (h.MS.frame ?_ ?_ ?_ ?_ ?_ ?_)
      · rw [fall _ (by omega) (by omega) (by omega), fall _ (by omega) (by omega) (by omega)]; exact m1
      · rw [fall _ (by omega) (by omega) (by omega)]; exact m2
      · have e4 : I2 (4 + (115 + 2 * t) + 1) = I0 (4 + (115 + 2 * t) + 1) := by rw [f2 _ (by omega), f1 _ (by omega)]
        rw [e4, ← hI0]
        by_cases q : jj ≤ v ∧ v < jj + c
        · rw [ax_uc_in q]
          have := h2 (v - jj) (by omega)
          rw [show 40 * t + v = 40 * t + (jj + (v - jj)) by omega, this]
          exact l3 _ (by omega)
        · rw [ax_uc_out q, g2 _ (by omega)]; exact m3 v hv
      · rw [fall _ (by omega) (by omega) (by omega)]
      · rw [fall _ (by omega) (by omega) (by omega)]
      · rw [fall _ (by omega) (by omega) (by omega)]
      · rw [fall _ (by omega) (by omega) (by omega)]
      · rw [fall _ (by omega) (by omega) (by omega)]
      · rw [fall _ (by omega) (by omega) (by omega)]
      · rw [fall _ (by omega) (by omega) (by omega)]
    | succ e ih =>
      intro c I2 z1 z2 hc h2 g2 f2
      apply vc_X9_copy_136
      simp (disch := omega) only [Bool.not_eq_false, Bool.not_eq_true, decide_eq_true_eq, decide_eq_false_iff_not, Bool.not_eq_true', Bool.not_eq_false', ax_lle, ax_llt, ax_lel, ax_ltl, ax_leq, ax_eql, ax_clampl, ax_inb_iff, nI_clamp, nI_1, nI_leI, nI_ltI, nI_eq, ax_b0, ax_b1, ax_bitb, ax_ui_eq, ax_ui_ne, true_and, and_true, ax_lmul, nI_add]
      refine ⟨fun q => by omega, fun _ => ⟨by omega, by omega, ih _ _ _ _ (by omega) ?_ ?_ (f2.ui (by omega) (by omega))⟩⟩
      · intro v hv
        by_cases q : v = c
        · subst q
          rw [show 40 * t + (jj + v) = 40 * t + jj + v by omega, ax_ui_eq, f2 188 (by omega)]
          exact h1 v (by omega)
        · rw [ax_ui_ne (by omega)]; exact h2 v (by omega)
      · intro b hb
        rw [ax_ui_ne (by omega)]; exact g2 b hb
  | succ e ih =>
    intro k I1 hk h1 f1
    apply vc_X9_copy_104
    simp (disch := omega) only [Bool.not_eq_false, Bool.not_eq_true, decide_eq_true_eq, decide_eq_false_iff_not, Bool.not_eq_true', Bool.not_eq_false', ax_lle, ax_llt, ax_lel, ax_ltl, ax_leq, ax_eql, ax_clampl, ax_inb_iff, nI_clamp, nI_1, nI_leI, nI_ltI, nI_eq, ax_b0, ax_b1, ax_bitb, ax_ui_eq, ax_ui_ne, true_and, and_true, nI_add]
    refine ⟨fun q => by omega, fun _ => ?_⟩
    refine rf_rowAt hr (by omega) ?_
    refine ⟨by omega, ih _ _ (by omega) ?_ (f1.ui (by omega) (by omega))⟩
    intro c hc
    by_cases q : c = k
    · subst q; rw [ax_ui_eq, f1 187 (by omega), h187]
    · rw [ax_ui_ne (by omega)]; exact h1 c (by omega)
