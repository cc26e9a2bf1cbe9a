theorem sw_TW.ca {I I1 : ax_I} {N T : Nat} {kd : Nat → Nat} {tl un : Nat → Int32} {W : Nat → Nat → Nat} {es : sw_E} (h : sw_TW I N T kd tl un W es) (t1 : sw_TP I1 49 N T kd tl un) (d1 : sw_DA I1 53 W (sw_rp kd es)) (f1 : ax_FR 49 67 I I1) : sw_CA I1 N T kd tl un W (sw_rp kd es) :=
  ⟨h.2.2.2.1.frame (f1 _ (by omega)) (f1 _ (by omega)), t1, d1⟩
theorem sw_TW.aside {I I1 : ax_I} {N T : Nat} {kd : Nat → Nat} {tl un : Nat → Int32} {W : Nat → Nat → Nat} {es : sw_E} (h : sw_TW I N T kd tl un W es) (f1 : ∀ a, a = 1 ∨ a = 2 ∨ (6 ≤ a ∧ a ≤ 24) ∨ 139 ≤ a → I1 a = I a) : sw_TW I1 N T kd tl un W es :=
  h.frame (fun a q => f1 a (by omega)) (by rw [f1 _ (by omega)]) (by rw [f1 _ (by omega)]) (by rw [f1 _ (by omega)]) (fun b _ => by rw [f1 _ (by omega)])
theorem sw_TW.ra {I : ax_I} {N T : Nat} {kd : Nat → Nat} {tl un : Nat → Int32} {W : Nat → Nat → Nat} {es : sw_E} (h : sw_TW I N T kd tl un W es) (hN : 0 < N) : sw_RA I N T kd tl un W 0 (sw_rp kd es) := by
  obtain ⟨q1, q2, q3, q4, q5, q6, q7, q8, q9, q10⟩ := h
  exact ⟨q7, (q8 hN).1⟩
theorem op_best {I : ax_I} {L : ax_J} (h : sw_RR I L) (a : Int32) : sw_OP 112 213 [ax_vi a] I L := by
  intro d
  have h0 := h
  obtain ⟨N, T, kd, tl, un, W, es, h1, h2, h3, h4⟩ := h
  have hG := h1.GI
  have h1' := h1
  obtain ⟨q1, q2, q3, q4, q5, q6, q7, q8, q9, q10⟩ := h1
  have hN := q1.1
  have hT := q1.2.1
  apply vc_X8_best
  rcases sw_dich (n := N) (by omega) a with ⟨x, hx, rfl⟩ | ha
  · refine cl_hasOne_k q5.1 (by omega) hx ?_
    refine ⟨fun _ => ?_, (fun q => absurd q (by decide))⟩
    refine cl_begin q5 hN q6.1 hG.len (fun I1 t1 d1 f1 => ?_)
    refine cl_bestWord (h1'.ca t1 d1 f1) q1 hG q2.1 hx (fun I2 e2 f2 => ?_)
    rw [e2]
    generalize hv : nI (sw_be T kd W un (sw_rp kd es) x).2 = v
    have fc : ∀ a, (a < 48 ∨ 67 < a) → ¬ a = 3 → ax_ui I2 3 13 v a = I a := fun a z1 z2 => by rw [ax_ui_row z2, f2 a z1, f1 a (by omega)]
    have h1c : sw_TW (ax_ui I2 3 13 v) N T kd tl un W es := h1'.aside (fun a q => fc a (by omega) (by omega))
    apply vc_X9_best
    refine rf_isOne_k h1c.2.2.2.2.2.2.1.1 hN hx ?_
    refine ⟨fun _ => ?_, (fun q => absurd q (by decide))⟩
    have ra := h1c.ra (by omega)
    refine rf_gainOf (k := 0) ra.1 hT ra.2 hG (by omega) (by omega) ?_
    refine rf_bestLoop (d := d + 26) ra q1 hG q2.1 hx (fun I3 l3 f3 => ⟨rfl, ?_⟩)
    rw [hv]
    refine h0.aside (fun a q => ?_) ?_ (h4.told ?_ ?_ ?_ ?_ ?_)
    · rw [ax_ui_row (by omega), f3 a (by omega), fc a (by omega) (by omega)]
    · refine sw_SK.ui ?_ (by omega) (by omega)
      exact ⟨fun b hb => by rw [l3 b (by omega), fc _ (by omega) (by omega)], by rw [f3 _ (by omega), fc _ (by omega) (by omega)], by rw [f3 _ (by omega), fc _ (by omega) (by omega)], by rw [f3 _ (by omega), fc _ (by omega) (by omega)]⟩
    · rw [ax_ui_ne (by omega), f3 _ (by omega), ax_ui_ne (by omega), f2 _ (by omega), f1 _ (by omega)]
    · rw [ax_ui_ne (by omega), f3 _ (by omega), fc _ (by omega) (by omega)]
    · rw [ax_ui_row (by omega), f3 _ (by omega), fc _ (by omega) (by omega)]
    · rw [ax_ui_row (by omega), f3 _ (by omega), fc _ (by omega) (by omega)]
    · rw [ax_ui_ne (by omega), f3 _ (by omega), ax_ui_eq, ax_ui_eq]
  · refine cl_hasOne_no q5.1 ha ?_
    refine ⟨(fun q => absurd q (by decide)), fun _ => ?_⟩
    apply vc_X9_best
    refine rf_isOne_no q7.1 hN ha ?_
    exact ⟨(fun q => absurd q (by decide)), fun _ => ⟨rfl, h0⟩⟩
theorem op_sure {I : ax_I} {L : ax_J} (h : sw_RR I L) (a b : Int32) : sw_OP 114 220 [ax_vi a, ax_vi b] I L := by
  intro d
  have h0 := h
  obtain ⟨N, T, kd, tl, un, W, es, h1, h2, h3, h4⟩ := h
  have hG := h1.GI
  have h1' := h1
  obtain ⟨q1, q2, q3, q4, q5, q6, q7, q8, q9, q10⟩ := h1
  have hN := q1.1
  have hT := q1.2.1
  apply vc_X8_sure
  rcases sw_dich (n := N) (by omega) a with ⟨x, hx, rfl⟩ | ha
  case inr =>
    refine cl_hasOne_no q5.1 ha ?_
    refine ⟨fun _ => ?_, (fun q => absurd q (by decide))⟩
    apply vc_X9_sure
    refine rf_isOne_no q7.1 hN ha ?_
    exact ⟨fun _ => ⟨rfl, h0⟩, (fun q => absurd q (by decide))⟩
  refine cl_hasOne_k q5.1 (by omega) hx ?_
  refine ⟨(fun q => absurd q (by decide)), fun _ => ?_⟩
  rcases sw_dich (n := 6) (by omega) b with ⟨n, hn, rfl⟩ | hb
  case inr =>
    have fin : ax_CI (d + 30) 220 [ax_vr 9 0 184, ax_vi (nI x), ax_vi b] I L (fun b I2 L2 => (-1 : Int32) = b ∧ sw_RR I2 L2) := by
      apply vc_X9_sure
      refine rf_isOne_k q7.1 hN hx ?_
      refine ⟨(fun q => absurd q (by decide)), fun _ => ?_⟩
      refine rf_in_no (n := 6) (by omega) (by decide) hb ?_
      exact ⟨fun _ => ⟨rfl, h0⟩, (fun q => absurd q (by decide))⟩
    refine ax_if (fun _ => fin) (fun q0 => ax_if (fun q1 => ?_) (fun _ => fin))
    exfalso
    rcases hb with q | q
    · exact absurd q q0
    · exact absurd (Int32.le_trans q q1) (by decide)
  simp (disch := omega) only [Bool.not_eq_false, Bool.not_eq_true, decide_eq_true_eq, decide_eq_false_iff_not, Bool.not_eq_true', Bool.not_eq_false', ax_lle, ax_llt, ax_lel, ax_ltl, ax_leq, ax_eql, ax_clampl, ax_inb_iff, nI_clamp, nI_1, nI_leI, nI_ltI, nI_eq, ax_b0, ax_b1, ax_bitb, ax_ui_eq, ax_ui_ne, true_and, and_true]
  refine ⟨fun q => by omega, fun _ => ⟨fun _ => ?_, fun q => by omega⟩⟩
  refine cl_begin q5 hN q6.1 hG.len (fun I1 t1 d1 f1 => ?_)
  apply vc_X2_gainAgainstAll
  rw [show d + 28 = (d + 24 - n) + n + 4 by omega]
  refine cl_sureGain q1 q2.1 hx n (by omega) (h1'.ca t1 d1 f1) hG hx (fun I2 c2 f2 => ?_)
  have fc : ∀ a, (a < 48 ∨ 67 < a) → I2 a = I a := fun a z1 => by rw [f2 a (by omega), f1 a (by omega)]
  have h1c : sw_TW I2 N T kd tl un W es := h1'.aside (fun a q => fc a (by omega))
  apply vc_X9_sure
  refine rf_isOne_k h1c.2.2.2.2.2.2.1.1 hN hx ?_
  refine ⟨(fun q => absurd q (by decide)), fun _ => ?_⟩
  refine rf_in_k (n := 6) (by omega) (by decide) hn ?_
  refine ⟨(fun q => absurd q (by decide)), fun _ => ?_⟩
  have ra := h1c.ra (by omega)
  rw [show d + 29 = (d + 24 - n) + n + 5 by omega]
  have key := rf_sureFrom (L := L) q1 q2.1 hx n (d := d + 24 - n) (k := 0) (who := x) (G := sw_rp kd es) (I := I2) (K := fun b I3 L3 => nI (sw_su N T kd W un x n (sw_rp kd es) x) = b ∧ sw_RR I3 L3) (by omega) ra hG hx (fun I3 l3 f3 => ⟨rfl, ?_⟩)
  · rw [Nat.zero_add] at key; exact key
  · refine h0.aside (fun a q => ?_) ?_ (h4.frame ?_ ?_ ?_ ?_ ?_ ?_)
    · rw [f3 a (by omega), fc a (by omega)]
    · exact ⟨fun b hb => by rw [l3 b (by omega), fc _ (by omega)], by rw [f3 _ (by omega), fc _ (by omega)], by rw [f3 _ (by omega), fc _ (by omega)], by rw [f3 _ (by omega), fc _ (by omega)]⟩
    · rw [f3 _ (by omega), fc _ (by omega)]
    · rw [f3 _ (by omega), fc _ (by omega)]
    · rw [f3 _ (by omega), fc _ (by omega)]
    · rw [f3 _ (by omega), fc _ (by omega)]
    · rw [f3 _ (by omega), fc _ (by omega)]
    · rw [f3 _ (by omega), fc _ (by omega)]
theorem rf_layRow {d r n1 o1 m : Nat} {I : ax_I} {L : ax_J} {K : ax_I → ax_J → Prop} (hr : r < 6) (hm : m ≤ n1) (hm40 : m ≤ 40) (hn1 : n1 < 2 ^ 31) (ho : ¬ o1 = 186 ∧ ¬ o1 = 187) (hK : ∀ I', I' 186 r = nI m → (∀ b, ¬ b = r → I' 186 b = I 186 b) → (∀ i, i < m → I' 187 (40 * r + i) = I o1 i) → (∀ b, b < 40 * r ∨ 40 * r + 40 ≤ b → I' 187 b = I 187 b) → (∀ a, ¬ a = 186 → ¬ a = 187 → I' a = I a) → K I' L) : ax_CV (d + 1) 172 [ax_vr 9 0 184, ax_vi (nI r), ax_vr 10 n1 o1, ax_vi (nI m)] I L K := by
  apply vc_X9_layRow
  rw [nI_clamp (by omega)]
  refine ⟨ax_inb_nI hr (by omega), ?_⟩
  suffices ∀ (j i : Nat) (I1 : ax_I), i + j = 40 → (∀ e, e < i → e < m → I1 187 (40 * r + e) = I o1 e) → (∀ b, b < 40 * r ∨ 40 * r + 40 ≤ b → I1 187 b = I 187 b) → ax_FR 187 187 (ax_ui I 186 r (nI m)) I1 → ax_AK d 172 (10, [some (ax_vr 9 0 184), some (ax_vi (nI r)), some (ax_vr 10 n1 o1), some (ax_vi (nI m)), some (ax_vi (nI i))], [], ax_mm I1 L) (ax_kv K) from this 40 0 _ (by omega) (fun e he => by omega) (fun b _ => by rw [ax_ui_ne (by omega)]) ax_FR.refl
  intro j
  induction j with
  | zero =>
    intro i I1 hi h1 h2 f1
    apply vc_X9_layRow_10
    simp (disch := omega) only [Bool.not_eq_false, Bool.not_eq_true, decide_eq_true_eq, decide_eq_false_iff_not, Bool.not_eq_true', Bool.not_eq_false', ax_lle, ax_llt, ax_lel, ax_ltl, ax_leq, ax_eql, ax_clampl, ax_inb_iff, nI_clamp, nI_1, nI_leI, nI_ltI, nI_eq, ax_b0, ax_b1, ax_bitb, ax_ui_eq, ax_ui_ne, true_and, and_true]
    refine ⟨fun _ => hK I1 ?_ ?_ (fun e he => h1 e (by omega) he) h2 ?_, fun q => by omega⟩
    · rw [f1 _ (by omega), ax_ui_eq]
    · intro b hb; rw [f1 _ (by omega), ax_ui_ne (by omega)]
    · intro a z1 z2; rw [f1 a (by omega), ax_ui_row z1]
  | succ j ih =>
    intro i I1 hi h1 h2 f1
    apply vc_X9_layRow_10
    simp (disch := omega) only [Bool.not_eq_false, Bool.not_eq_true, decide_eq_true_eq, decide_eq_false_iff_not, Bool.not_eq_true', Bool.not_eq_false', ax_lle, ax_llt, ax_lel, ax_ltl, ax_leq, ax_eql, ax_clampl, ax_inb_iff, nI_clamp, nI_1, nI_leI, nI_ltI, nI_eq, ax_b0, ax_b1, ax_bitb, ax_ui_eq, ax_ui_ne, true_and, and_true, ax_lmul, nI_add]
    refine ⟨fun q => by omega, fun _ => ⟨fun q => ⟨by omega, ih _ _ (by omega) ?_ ?_ (f1.ui (by omega) (by omega))⟩, fun q => ⟨by omega, by omega, ih _ _ (by omega) ?_ ?_ (f1.ui (by omega) (by omega))⟩⟩⟩
    · intro e he hem
      rw [ax_ui_ne (by omega)]; exact h1 e (by omega) hem
    · intro b hb; rw [ax_ui_ne (by omega)]; exact h2 b hb
    · intro e he hem
      by_cases z : e = i
      · subst z; rw [ax_ui_eq, f1 o1 (by omega), ax_ui_ne (by omega)]
      · rw [ax_ui_ne (by omega)]; exact h1 e (by omega) hem
    · intro b hb; rw [ax_ui_ne (by omega)]; exact h2 b hb
theorem op_plays {I : ax_I} {L : ax_J} (h : sw_RR I L) (a b c : Int32) : sw_OP 113 218 [ax_vi a, ax_vi b, ax_vi c] I L := by
  intro d
  have h0 := h
  obtain ⟨N, T, kd, tl, un, W, es, h1, h2, h3, h4⟩ := h
  have hG := h1.GI
  have h1' := h1
  obtain ⟨q1, q2, q3, q4, q5, q6, q7, q8, q9, q10⟩ := h1
  have hN := q1.1
  have hT := q1.2.1
  apply vc_X8_plays
  rcases sw_dich (n := N) (by omega) a with ⟨x, hx, rfl⟩ | ha
  case inr =>
    refine cl_hasOne_no q5.1 ha ?_
    refine ⟨fun _ => ?_, (fun q => absurd q (by decide))⟩
    apply vc_X9_plays
    refine rf_isOne_no q7.1 hN ha ?_
    exact ⟨fun _ => ⟨rfl, h0⟩, (fun q => absurd q (by decide))⟩
  refine cl_hasOne_k q5.1 (by omega) hx ?_
  refine ⟨(fun q => absurd q (by decide)), fun _ => ?_⟩
  rcases sw_dich (n := 6) (by omega) b with ⟨n, hn, rfl⟩ | hb
  case inr =>
    have fin : ax_CI (d + 30) 218 [ax_vr 9 0 184, ax_vi (nI x), ax_vi b, ax_vi c] I L (fun b I2 L2 => (-1 : Int32) = b ∧ sw_RR I2 L2) := by
      apply vc_X9_plays
      refine rf_isOne_k q7.1 hN hx ?_
      refine ⟨(fun q => absurd q (by decide)), fun _ => ?_⟩
      refine rf_in_no (n := 6) (by omega) (by decide) hb ?_
      exact ⟨fun _ => ⟨rfl, h0⟩, (fun q => absurd q (by decide))⟩
    refine ax_if (fun _ => fin) (fun q0 => ax_if (fun _ => fin) (fun q1 => ?_))
    exfalso
    rcases hb with q | q
    · exact absurd q q0
    · exact absurd (Int32.lt_of_lt_of_le (by decide) q) q1
  have hn5 : ax_CI (d + 30) 218 [ax_vr 9 0 184, ax_vi (nI x), ax_vi (nI n), ax_vi c] I L (fun b I2 L2 => (-1 : Int32) = b ∧ sw_RR I2 L2) ∨ ∃ r, r < 6 ∧ c = nI r := by
    rcases sw_dich (n := 6) (by omega) c with ⟨r, hr, rfl⟩ | hc
    · exact .inr ⟨r, hr, rfl⟩
    · left
      apply vc_X9_plays
      refine rf_isOne_k q7.1 hN hx ?_
      refine ⟨(fun q => absurd q (by decide)), fun _ => ?_⟩
      refine rf_in_k (n := 6) (by omega) (by decide) hn ?_
      refine ⟨(fun q => absurd q (by decide)), fun _ => ?_⟩
      refine rf_isRow_no hc ?_
      exact ⟨(fun q => absurd q (by decide)), fun _ => ⟨rfl, h0⟩⟩
  simp (disch := omega) only [Bool.not_eq_false, Bool.not_eq_true, decide_eq_true_eq, decide_eq_false_iff_not, Bool.not_eq_true', Bool.not_eq_false', ax_lle, ax_llt, ax_lel, ax_ltl, ax_leq, ax_eql, ax_clampl, ax_inb_iff, nI_clamp, nI_1, nI_leI, nI_ltI, nI_eq, ax_b0, ax_b1, ax_bitb, ax_ui_eq, ax_ui_ne, true_and, and_true]
  refine ⟨fun q => by omega, fun _ => ⟨fun q => by omega, fun _ => ?_⟩⟩
  rcases sw_dich (n := 6) (by omega) c with ⟨r, hr, rfl⟩ | hc
  case inr =>
    refine cl_isRow_no hc ?_
    refine ⟨(fun q => absurd q (by decide)), fun _ => ?_⟩
    rcases hn5 with z | ⟨r, hr, rfl⟩
    · exact z
    · exfalso
      rcases hc with q | q
      · exact absurd q (nI_pos (by omega))
      · rw [nI_leI (by omega) (by omega)] at q; omega
  clear hn5
  refine cl_isRow_k hr ?_
  refine ⟨fun _ => ?_, (fun q => absurd q (by decide))⟩
  refine cl_begin q5 hN q6.1 hG.len (fun I1 t1 d1 f1 => ?_)
  rw [nI_clamp (by omega)]
  refine ⟨ax_inb_nI hr (by omega), ?_⟩
  rw [show d + 29 = (d + 24 - n) + n + 5 by omega]
  refine cl_playOut q1 q2.1 (by omega) (h1'.ca t1 d1 f1) hG hx (by omega) (fun I2 s2 v2 f2 => ?_)
  have fc : ∀ a, (a < 49 ∨ 67 < a) → ¬ a = 4 + (115 + 2 * r) → ¬ a = 4 + (115 + 2 * r) + 1 → I2 a = I a := fun a z1 z2 z3 => by rw [f2 a (by omega) z2 z3, f1 a (by omega)]
  have h1c : sw_TW I2 N T kd tl un W es := h1'.aside (fun a q => fc a (by omega) (by omega) (by omega))
  apply vc_X9_plays
  refine rf_isOne_k h1c.2.2.2.2.2.2.1.1 hN hx ?_
  refine ⟨(fun q => absurd q (by decide)), fun _ => ?_⟩
  refine rf_in_k (n := 6) (by omega) (by decide) hn ?_
  refine ⟨(fun q => absurd q (by decide)), fun _ => ?_⟩
  refine rf_isRow_k hr ?_
  refine ⟨fun _ => ?_, (fun q => absurd q (by decide))⟩
  have ra := h1c.ra (by omega)
  suffices hs : ∀ I3, sw_LP I3 N 0 n x (sw_pl N T kd W un n (sw_rp kd es) x) → sw_LB 0 I2 I3 → ax_CV (d + 29) 172 [ax_vr 9 0 184, ax_vi (nI r), ax_vr 10 36 208, ax_vi (nI n)] I3 L (fun I13 L14 => ax_inb (nI x) 42 = true ∧ nI ((sw_pl N T kd W un n (sw_rp kd es) x).1 x) = I13 209 (nI x).toNatClampNeg ∧ sw_RR I13 L14) by
    rw [show d + 29 = (d + 24 - n) + n + 5 by omega] at hs ⊢
    have key := rf_layPlays (L := L) q1 q2.1 n (d := d + 24 - n) (k := 0) (who := x) (G := sw_rp kd es) (I := I2) (K := fun I3 L3 => ax_CV ((d + 24 - n) + n + 5) 172 [ax_vr 9 0 184, ax_vi (nI r), ax_vr 10 36 208, ax_vi (nI n)] I3 L3 (fun I13 L14 => ax_inb (nI x) 42 = true ∧ nI ((sw_pl N T kd W un n (sw_rp kd es) x).1 x) = I13 209 (nI x).toNatClampNeg ∧ sw_RR I13 L14)) (by omega) ra hG hx hs
    rw [Nat.zero_add] at key
    exact key
  intro I3 p3 l3
  refine rf_layRow hr (by omega) (by omega) (by omega) (by omega) (fun I4 m1 m2 m3 m4 m5 => ?_)
  rw [nI_clamp (by omega)]
  refine ⟨ax_inb_nI (by omega) (by omega), ?_, ?_⟩
  · rw [m5 209 (by omega) (by omega)]
    have := p3.2 x hx
    rw [Nat.mul_zero, Nat.zero_add] at this
    exact this.symm
  · have fd : ∀ a, ¬ a = 186 → ¬ a = 187 → ¬ a = 199 → ¬ a = 208 → ¬ a = 209 → I4 a = I2 a := fun a z1 z2 z3 z4 z5 => by rw [m5 a z1 z2, l3.2.2.2 a z3 z4 z5]
    have fe : ∀ a, ¬ a = 186 → ¬ a = 187 → ¬ a = 199 → ¬ a = 208 → ¬ a = 209 → (a < 49 ∨ 67 < a) → ¬ a = 4 + (115 + 2 * r) → ¬ a = 4 + (115 + 2 * r) + 1 → I4 a = I a := fun a z1 z2 z3 z4 z5 z6 z7 z8 => by rw [fd a z1 z2 z3 z4 z5, fc a z6 z7 z8]
    have e186 : ∀ b, I3 186 b = I 186 b := fun b => by rw [l3.2.2.2 _ (by omega) (by omega) (by omega), fc _ (by omega) (by omega) (by omega)]
    have e187 : ∀ b, I3 187 b = I 187 b := fun b => by rw [l3.2.2.2 _ (by omega) (by omega) (by omega), fc _ (by omega) (by omega) (by omega)]
    refine h0.line hr ⟨?_, .inr ⟨n, by omega, ?_, fun i hi => ?_⟩⟩ (fun a z1 z2 z3 => fe a (by omega) (by omega) (by omega) (by omega) (by omega) (by omega) z2 z3) ⟨fun b hb => ?_, ?_, ?_, ?_⟩ (fun b hb => by rw [m2 b hb, e186]) (fun b hb => by rw [m4 b hb, e187]) (h4.frame ?_ ?_ ?_ ?_ ?_ ?_)
    · rw [m1, fd _ (by omega) (by omega) (by omega) (by omega) (by omega), s2]
    · rw [fd _ (by omega) (by omega) (by omega) (by omega) (by omega), s2]
    · have := p3.1 i hi
      rw [Nat.mul_zero, Nat.zero_add] at this
      rw [m3 i hi, this, fd _ (by omega) (by omega) (by omega) (by omega) (by omega), v2 i hi]
    · rw [m5 199 (by omega) (by omega), l3.1 b (by omega), fc _ (by omega) (by omega) (by omega)]
    · rw [fe _ (by omega) (by omega) (by omega) (by omega) (by omega) (by omega) (by omega) (by omega)]
    · rw [fe _ (by omega) (by omega) (by omega) (by omega) (by omega) (by omega) (by omega) (by omega)]
    · rw [fe _ (by omega) (by omega) (by omega) (by omega) (by omega) (by omega) (by omega) (by omega)]
    · rw [fe _ (by omega) (by omega) (by omega) (by omega) (by omega) (by omega) (by omega) (by omega)]
    · rw [fe _ (by omega) (by omega) (by omega) (by omega) (by omega) (by omega) (by omega) (by omega)]
    · rw [fe _ (by omega) (by omega) (by omega) (by omega) (by omega) (by omega) (by omega) (by omega)]
    · rw [fe _ (by omega) (by omega) (by omega) (by omega) (by omega) (by omega) (by omega) (by omega)]
    · rw [fe _ (by omega) (by omega) (by omega) (by omega) (by omega) (by omega) (by omega) (by omega)]
    · rw [fe _ (by omega) (by omega) (by omega) (by omega) (by omega) (by omega) (by omega) (by omega)]
