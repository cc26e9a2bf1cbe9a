def sw_ls (N T : Nat) (kd : Nat → Nat) (tl : Nat → Int32) (a : sw_E × Nat × Nat) : sw_E × Nat × Nat :=
  ((48271 * a.2.2 % 2147483647 % N, 48271 * a.2.2 % 2147483647 / 64 % T, sw_hr N kd tl (48271 * a.2.2 % 2147483647 % N)) :: a.1,
   (if sw_out kd (sw_rp kd a.1) (48271 * a.2.2 % 2147483647 % N) (48271 * a.2.2 % 2147483647 / 64 % T) = 2 then a.2.1 + 1 else a.2.1), 48271 * a.2.2 % 2147483647)
theorem sw_lotn {s : Nat} (hs : s < 2 ^ 31) : (48271 : Int64) * lN s - (48271 : Int64) * lN s / 2147483647 * 2147483647 = lN (48271 * s % 2147483647) := by
  rw [show (48271 : Int64) = lN 48271 from rfl, show (2147483647 : Int64) = lN 2147483647 from rfl, lN_mul, ax_lN_mod (by omega) (by omega)]
theorem sw_inb2 {a lo hi : Int32} : (decide (lo ≤ a) && decide (a ≤ hi)) = decide (lo ≤ a ∧ a ≤ hi) := by
  by_cases h1 : lo ≤ a <;> by_cases h2 : a ≤ hi <;> simp [h1, h2]
theorem op_lots {I : ax_I} {L : ax_J} (h : sw_RR I L) (a b : Int32) : sw_OP 124 237 [ax_vi a, ax_vi b] I L := by
  intro d
  have h0 := h
  obtain ⟨N, T, kd, tl, un, W, es, h1, h2, h3, h4⟩ := h
  obtain ⟨q1, q2, q3, q4, q5, q6, q7, q8, q9, q10⟩ := h1
  have hN := q1.1
  have hT := q1.2.1
  have h40 := q3.1
  have e9 := q6.2.2.2.1
  apply vc_X8_lots
  by_cases ha : (1 : Int32) ≤ a ∧ a ≤ 20
  case neg =>
    have fin : ax_CI (d + 30) 237 [ax_vr 9 0 184, ax_vi a, ax_vi b] I L (fun b I2 L2 => (-1 : Int32) = b ∧ sw_RR I2 L2) := by
      apply vc_X9_lots
      refine rf_in ?_
      rw [sw_inb2, decide_eq_false ha]
      exact ax_ct rfl ⟨rfl, h0⟩
    refine ax_if (fun _ => fin) (fun z1 => ax_if (fun _ => fin) (fun z2 => ?_))
    exact absurd ⟨Int32.not_lt.mp z1, Int32.not_lt.mp z2⟩ ha
  refine ax_cf (Int32.not_lt.mpr ha.1) (ax_cf (Int32.not_lt.mpr ha.2) ?_)
  by_cases hb : (1 : Int32) ≤ b ∧ b ≤ 2147483646
  case neg =>
    have fin : ax_CI (d + 30) 237 [ax_vr 9 0 184, ax_vi a, ax_vi b] I L (fun b I2 L2 => (-1 : Int32) = b ∧ sw_RR I2 L2) := by
      apply vc_X9_lots
      refine rf_in ?_
      rw [sw_inb2, decide_eq_true ha]
      refine ax_cf (by decide) ?_
      refine rf_in ?_
      rw [sw_inb2, decide_eq_false hb]
      exact ax_nf rfl ⟨rfl, h0⟩
    refine ax_if (fun _ => fin) (fun z1 => ax_if (fun z2 => ?_) (fun _ => fin))
    exfalso
    obtain ⟨k, hk, rfl⟩ := nI_of (x := b) (by rw [Int32.not_lt]; exact Int32.le_trans (by decide) (Int32.not_lt.mp z1))
    rw [lg_cmp_lt, nI_l hk, show (2147483647 : Int64) = lN 2147483647 from rfl, ax_lN_lt (by omega) (by omega)] at z2
    exact hb ⟨Int32.not_lt.mp z1, (nI_leI (b := 2147483646) hk (by omega)).mpr (by omega)⟩
  obtain ⟨n, hn, rfl⟩ := ax_of_le (x := a) (n := 20) (Int32.le_trans (by decide) ha.1) ha.2 (by omega)
  obtain ⟨s, hs, rfl⟩ := ax_of_le (x := b) (n := 2147483646) (Int32.le_trans (by decide) hb.1) hb.2 (by omega)
  refine ax_cf (Int32.not_lt.mpr hb.1) ?_
  refine ax_ct (by rw [lg_cmp_lt, nI_l (by omega), show (2147483647 : Int64) = lN 2147483647 from rfl, ax_lN_lt (by omega) (by omega)]; omega) ?_
  rw [q5.1, q5.2.1, e9, nI_add]
  /- the reference, its first tests through -/
  have ref : ∀ (I0 : ax_I) (K0 : Int32 → ax_I → ax_J → Prop), (((!decide ((I0 184 10) = 0)) = true →
            (decide (((I0 184 27) + nI n) ≤ (40 : Int32)) = true →
              ax_AK ((d + 29)) 237 (56, [some (ax_vr 9 0 184), some (ax_vi (nI n)), (some (ax_vi (nI s))), some (ax_vl ((nI s).toInt64)), none, some (ax_vi 0), some (ax_vi 0)], [], ax_mm I0 L) (ax_ki K0)) ∧
            (decide (((I0 184 27) + nI n) ≤ (40 : Int32)) = false → K0 (-2) I0 L)) ∧
          ((!decide ((I0 184 10) = 0)) = false → K0 (-4) I0 L)) → ax_CI (d + 30) 237 [ax_vr 9 0 184, ax_vi (nI n), ax_vi (nI s)] I0 L K0 := by
    intro I0 K0 z
    apply vc_X9_lots
    refine rf_in ?_
    rw [sw_inb2, decide_eq_true ha]
    refine ax_cf (by decide) ?_
    refine rf_in ?_
    rw [sw_inb2, decide_eq_true hb]
    exact ax_nt (by decide) z
  by_cases hN0 : N = 0
  · refine ax_ct (by rw [hN0]; rfl) ?_
    refine ref I _ ?_
    rw [q7.1]
    exact ax_nf (by rw [hN0]; rfl) ⟨rfl, h0⟩
  have hNn : ¬ nI N = 0 := fun z => hN0 ((nI_eq (b := 0) (by omega) (by omega)).mp z)
  have hT0 : ¬ T = 0 := by have := q1.2.2.1; omega
  have hTn : ¬ nI T = 0 := fun z => hT0 ((nI_eq (b := 0) (by omega) (by omega)).mp z)
  refine ax_cf hNn (ax_nt hTn ?_)
  by_cases hl : es.length + n ≤ 40
  case neg =>
    refine ax_cf (fun z => hl ((nI_leI (b := 40) (by omega) (by omega)).mp z)) ?_
    refine ref I _ ?_
    rw [q7.1, q9, nI_add]
    exact ax_nt hNn (ax_cf (fun z => hl ((nI_leI (b := 40) (by omega) (by omega)).mp z)) ⟨rfl, h0⟩)
  refine ax_ct ((nI_leI (b := 40) (by omega) (by omega)).mpr hl) ?_
  rw [nI_l (show s < 2 ^ 31 by omega)]
  rw [nI_l (show s < 2 ^ 31 by omega)] at ref
  have q8 := q8 (by omega)
  have hPn : (!decide ((nI N).toInt64 = 0)) = true := by rw [nI_l (by omega)]; exact ax_lnz (by omega) hN0
  have hPt : (!decide ((nI T).toInt64 = 0)) = true := by rw [nI_l (by omega)]; exact ax_lnz (by omega) hT0
  have hmN : ∀ l, l % N < N := fun l => Nat.mod_lt l (by omega)
  have hmT : ∀ l, l % T < T := fun l => Nat.mod_lt l (by omega)
  have hmP : ∀ l, 48271 * l % 2147483647 < 2147483647 := fun l => Nat.mod_lt _ (by omega)
  suffices ∀ (c i : Nat) (A : sw_E × Nat × Nat) (I1 : ax_I) (z2 z5 z7 z8 : Option ax_V), i + c = n → A.2.2 < 2147483647 → A.1.length = es.length + i → sw_EI N T A.1 → sw_DF I1 10 kd W A.1 → ax_FR 10 24 I I1 → A = ax_it (fun _ a => sw_ls N T kd tl a) i 0 (es, 0, s) → ax_AK ((d + 29)) 124 (76, [some (ax_vr 8 0 3), some (ax_vi (nI n)), z2, some (ax_vi (nI A.2.1)), some (ax_vl (lN A.2.2)), z5, some (ax_vi (nI i)), z7, z8], [], ax_mm I1 L) (ax_ki (fun a I1 L1 => ax_CI (d + 30) 237 [ax_vr 9 0 184, ax_vi (nI n), ax_vi (nI s)] I1 L1 (fun b I2 L2 => a = b ∧ sw_RR I2 L2))) from
    this n 0 (es, 0, s) I _ _ _ _ (by omega) (by show s < 2147483647; omega) rfl q3 q6 ax_FR.refl rfl
  intro c
  induction c with
  | succ c ih =>
    intro i A I1 z2 z5 z7 z8 hi hA2 hAl hAE hAD f1 hA
    have hn2 : ax_it (fun _ a => sw_ls N T kd tl a) (i + 1) 0 (es, 0, s) = sw_ls N T kd tl A := by rw [ax_it_succ, ← hA]
    have hs1 : sw_ST I1 := q4.frame (f1 _ (by omega)) (f1 _ (by omega))
    have hP1 : sw_TP I1 6 N T kd tl un := q5.frame (fun a _ _ => f1 a (by omega))
    have hlp := hmP A.2.2
    apply vc_X8_lots_76
    rw [hP1.1, hP1.2.1, sw_lotn (by omega), nI_1]
    refine ax_cf (fun z => by have := (nI_leI (by omega) (by omega)).mp z; omega) ⟨by decide, hPn, by decide, hPt, ?_⟩
    rw [nI_l (show N < 2 ^ 31 by omega), nI_l (show T < 2 ^ 31 by omega), ax_lN_mod (b := N) (by omega) (by omega), show (64 : Int64) = lN 64 from rfl, ax_lN_div (b := 64) (by omega) (by omega), ax_lN_mod (b := T) (by omega) (by omega), lN_i, lN_i]
    refine cl_speak (d := d + 25) hs1 hP1 q1 hAD hAE (by omega) (hmN _) (hmT _) (fun I2 d2 f2 => ?_)
    have hE2 := hAE.cons (kd := kd) (tl := tl) (show A.1.length < 40 by omega) (hmN (48271 * A.2.2 % 2147483647)) (hmT (48271 * A.2.2 % 2147483647 / 64))
    by_cases e2 : sw_out kd (sw_rp kd A.1) (48271 * A.2.2 % 2147483647 % N) (48271 * A.2.2 % 2147483647 / 64 % T) = 2
    · rw [decide_eq_true e2]
      refine ax_cf (by decide) ?_
      rw [nI_1]
      refine ih (i + 1) (_, A.2.1 + 1, 48271 * A.2.2 % 2147483647) I2 _ _ _ _ (by omega) hlp (by show A.1.length + 1 = _; omega) hE2 d2 (f1.trans f2) ?_
      rw [hn2]; unfold sw_ls; rw [if_pos e2]
    · rw [decide_eq_false e2]
      refine ax_ct rfl ?_
      refine ih (i + 1) (_, A.2.1, 48271 * A.2.2 % 2147483647) I2 _ _ _ _ (by omega) hlp (by show A.1.length + 1 = _; omega) hE2 d2 (f1.trans f2) ?_
      rw [hn2]; unfold sw_ls; rw [if_neg e2]
  | zero =>
    intro i A I1 z2 z5 z7 z8 hi hA2 hAl hAE hAD f1 hA
    have hi : i = n := by omega
    subst hi
    apply vc_X8_lots_76
    refine ax_ct ((nI_leI (by omega) (by omega)).mpr (Nat.le_refl _)) ?_
    refine ref I1 _ ?_
    rw [f1 184 (by omega), q7.1, q9, nI_add]
    refine ax_nt hNn (ax_ct ((nI_leI (b := 40) (by omega) (by omega)).mpr hl) ?_)
    suffices ∀ (c j : Nat) (B : sw_E × Nat × Nat) (I2 : ax_I) (z2 z4 : Option ax_V), j + c = i → B.2.2 < 2147483647 → B.1.length = es.length + j → sw_EI N T B.1 → sw_FF (sw_fr I2 0) kd B.1 → I2 184 27 = nI B.1.length → sw_ry kd (I2 200) (I2 201) B.1 → (∀ a, ¬ a = 184 → ¬ a = 199 → ¬ a = 200 → ¬ a = 201 → I2 a = I1 a) → (∀ b, ¬ b = 27 → I2 184 b = I1 184 b) → B = ax_it (fun _ a => sw_ls N T kd tl a) j 0 (es, 0, s) → ax_AK ((d + 29)) 237 (56, [some (ax_vr 9 0 184), some (ax_vi (nI i)), z2, some (ax_vl (lN B.2.2)), z4, some (ax_vi (nI B.2.1)), some (ax_vi (nI j))], [], ax_mm I2 L) (ax_ki (fun b I2 L2 => nI A.2.1 = b ∧ sw_RR I2 L2)) from
      this i 0 (es, 0, s) I1 _ _ (by omega) (by show s < 2147483647; omega) rfl q3 (q8.same (fun j hj => by unfold sw_fr; rw [f1 199 (by omega)])) (by rw [f1 184 (by omega)]; exact q9) (by rw [f1 200 (by omega), f1 201 (by omega)]; exact q10) (fun _ _ _ _ _ => rfl) (fun _ _ => rfl) rfl
    intro c
    induction c with
    | succ c ih =>
      intro j B I2 z2 z4 hj hB2 hBl hBE F2 m2 y2 a2 b2 hB
      have hn2 : ax_it (fun _ a => sw_ls N T kd tl a) (j + 1) 0 (es, 0, s) = sw_ls N T kd tl B := by rw [ax_it_succ, ← hB]
      have fc : ∀ a, ¬ a = 184 → ¬ a = 199 → ¬ a = 200 → ¬ a = 201 → (a < 10 ∨ 24 < a) → I2 a = I a := fun a z1 z2 z3 z4 z5 => by rw [a2 a z1 z2 z3 z4, f1 a z5]
      have hR2 : sw_RT I2 N T kd tl un W := q7.frame (by rw [b2 _ (by omega), f1 _ (by omega)]) (by rw [b2 _ (by omega), f1 _ (by omega)]) (fc _ (by omega) (by omega) (by omega) (by omega) (by omega)) (fc _ (by omega) (by omega) (by omega) (by omega) (by omega)) (fc _ (by omega) (by omega) (by omega) (by omega) (by omega)) (fc _ (by omega) (by omega) (by omega) (by omega) (by omega))
      have hlp := hmP B.2.2
      apply vc_X9_lots_56
      rw [hR2.1, hR2.2.1, sw_lotn (by omega), nI_1]
      refine ax_cf (fun z => by have := (nI_leI (by omega) (by omega)).mp z; omega) ⟨by decide, hPn, by decide, hPt, ?_⟩
      rw [nI_l (show N < 2 ^ 31 by omega), nI_l (show T < 2 ^ 31 by omega), ax_lN_mod (b := N) (by omega) (by omega), show (64 : Int64) = lN 64 from rfl, ax_lN_div (b := 64) (by omega) (by omega), ax_lN_mod (b := T) (by omega) (by omega), lN_i, lN_i]
      refine rf_takeSaying (d := d + 25) hR2 q1 hBE F2 m2 y2 (by omega) (hmN _) (hmT _) (fun I3 F3 m3 y3 a3 b3 => ?_)
      have hE2 := hBE.cons (kd := kd) (tl := tl) (show B.1.length < 40 by omega) (hmN (48271 * B.2.2 % 2147483647)) (hmT (48271 * B.2.2 % 2147483647 / 64))
      have a3' : ∀ a, ¬ a = 184 → ¬ a = 199 → ¬ a = 200 → ¬ a = 201 → I3 a = I1 a := fun a z1 z2 z3 z4 => (a3 a z1 z2 z3 z4).trans (a2 a z1 z2 z3 z4)
      have b3' : ∀ b, ¬ b = 27 → I3 184 b = I1 184 b := fun b hb => (b3 b hb).trans (b2 b hb)
      by_cases e2 : sw_out kd (sw_rp kd B.1) (48271 * B.2.2 % 2147483647 % N) (48271 * B.2.2 % 2147483647 / 64 % T) = 2
      · rw [if_pos e2, nI_1]
        refine ih (j + 1) (_, B.2.1 + 1, 48271 * B.2.2 % 2147483647) I3 _ _ (by omega) hlp (by show B.1.length + 1 = _; omega) hE2 F3 m3 y3 a3' b3' ?_
        rw [hn2]; unfold sw_ls; rw [if_pos e2]
      · rw [if_neg e2, Int32.add_zero]
        refine ih (j + 1) (_, B.2.1, 48271 * B.2.2 % 2147483647) I3 _ _ (by omega) hlp (by show B.1.length + 1 = _; omega) hE2 F3 m3 y3 a3' b3' ?_
        rw [hn2]; unfold sw_ls; rw [if_neg e2]
    | zero =>
      intro j B I2 z2 z4 hj hB2 hBl hBE F2 m2 y2 a2 b2 hB
      have hj : j = i := by omega
      subst hj
      have eBA : B = A := by rw [hB, hA]
      subst eBA
      apply vc_X9_lots_56
      refine ax_ct ((nI_leI (by omega) (by omega)).mpr (Nat.le_refl _)) ⟨rfl, ?_⟩
      have fc : ∀ a, ¬ a = 184 → ¬ a = 199 → ¬ a = 200 → ¬ a = 201 → (a < 10 ∨ 24 < a) → I2 a = I a := fun a z1 z2 z3 z4 z5 => by rw [a2 a z1 z2 z3 z4, f1 a z5]
      have f184 : ∀ b, ¬ b = 27 → I2 184 b = I 184 b := fun b hb => by rw [b2 b hb, f1 _ (by omega)]
      refine ⟨N, T, kd, tl, un, W, B.1, ⟨q1, q2, hBE, q4.frame (fc _ (by omega) (by omega) (by omega) (by omega) (by omega)) (fc _ (by omega) (by omega) (by omega) (by omega) (by omega)), q5.frame (fun a _ _ => fc _ (by omega) (by omega) (by omega) (by omega) (by omega)), hAD.frame (fun a _ _ => a2 a (by omega) (by omega) (by omega) (by omega)), q7.frame (f184 _ (by omega)) (f184 _ (by omega)) (fc _ (by omega) (by omega) (by omega) (by omega) (by omega)) (fc _ (by omega) (by omega) (by omega) (by omega) (by omega)) (fc _ (by omega) (by omega) (by omega) (by omega) (by omega)) (fc _ (by omega) (by omega) (by omega) (by omega) (by omega)), fun _ => F2, m2, y2⟩, fun k hk => (h2 k hk).frame hk (fun a q => fc a (by omega) (by omega) (by omega) (by omega) (by omega)), h3.frame (fun a q => fc a (by omega) (by omega) (by omega) (by omega) (by omega)), h4.frame (by rw [fc _ (by omega) (by omega) (by omega) (by omega) (by omega)]) (f184 _ (by omega)) (fc _ (by omega) (by omega) (by omega) (by omega) (by omega)) (fc _ (by omega) (by omega) (by omega) (by omega) (by omega)) (by rw [fc _ (by omega) (by omega) (by omega) (by omega) (by omega)]) (f184 _ (by omega))⟩
