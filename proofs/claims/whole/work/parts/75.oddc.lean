theorem sw_pw_le {N T : Nat} (hN : N ≤ 6) (hT : T ≤ 6) : ∀ m, m ≤ 3 → (N * T) ^ m ≤ 46656 := by
  intro m hm
  have h1 : N * T ≤ 36 := Nat.mul_le_mul hN hT
  have h2 : (N * T) ^ m ≤ 36 ^ m := Nat.pow_le_pow_left h1 m
  have h3 : 36 ^ m ≤ 36 ^ 3 := Nat.pow_le_pow_right (by omega) hm
  omega
theorem cl_allWays {d m N T : Nat} {kd : Nat → Nat} {tl un : Nat → Int32} {I : ax_I} {L : ax_J} {K : Int64 → ax_I → ax_J → Prop} (hP : sw_TP I 49 N T kd tl un) (hN : N ≤ 6) (hT : T ≤ 6) (hm : m ≤ 3) (hK : K (lN ((N * T) ^ m)) I L) : ax_CL (d + 1) 41 [ax_vr 2 0 48, ax_vi (nI m)] I L K := by
  apply vc_X2_allWays
  suffices ∀ (c i : Nat) (z3 : Option ax_V), i + c = m → ax_AK d 41 (5, [some (ax_vr 2 0 48), some (ax_vi (nI m)), some (ax_vl (lN ((N * T) ^ i))), z3, some (ax_vi (nI i))], [], ax_mm I L) (ax_kl K) from this m 0 _ (by omega)
  intro c
  induction c with
  | zero =>
    intro i z3 hi
    have hi : i = m := by omega
    subst hi
    apply vc_X2_allWays_5
    exact ax_ct ((nI_leI (by omega) (by omega)).mpr (Nat.le_refl _)) hK
  | succ c ih =>
    intro i z3 hi
    apply vc_X2_allWays_5
    refine ax_cf (fun z => by have := (nI_leI (by omega) (by omega)).mp z; omega) ?_
    rw [hP.1, hP.2.1, nI_l (by omega), nI_l (by omega), lN_mul, lN_mul, nI_1, ← Nat.pow_succ]
    exact ih _ _ (by omega)
theorem cl_goodWays {N T x w : Nat} {kd : Nat → Nat} {tl un : Nat → Int32} {W : Nat → Nat → Nat} (hg : sw_TG N T kd tl un) (hx : x < N) (hw : w < T) {L : ax_J} : ∀ (m : Nat) {d : Nat} {G : sw_G} {I : ax_I} {K : Int64 → ax_I → ax_J → Prop}, m ≤ 3 → sw_CA I N T kd tl un W G → sw_GI N T G → (∀ I', sw_CA I' N T kd tl un W G → ax_FR 53 67 I I' → K (lN (sw_od N T kd x w m G)) I' L) → ax_CL (d + m + 4) 43 [ax_vr 2 0 48, ax_vi (nI x), ax_vi (nI w), ax_vi (nI m)] I L K := by
  have hT := hg.2.1
  have hN := hg.1
  intro m
  induction m with
  | zero =>
    intro d G I K hm hC hG hK
    have e62 : I 62 w = G.2.1 w := hC.2.2.2.2.1 w (by omega)
    apply vc_X2_goodWays
    rw [nI_clamp (by omega), e62]
    refine ⟨ax_inb_nI (by omega) (by omega), ?_⟩
    have hK := hK I hC ax_FR.refl
    by_cases h9 : G.2.1 w = -9
    · refine ax_ct h9 (ax_cf (by decide) ?_)
      have e : sw_od N T kd x w 0 G = 0 := if_neg (fun z => ax_9ne (k := x) (by omega) (h9 ▸ z))
      rw [e] at hK; exact hK
    · refine ax_cf h9 ⟨ax_inb_nI (by omega) (by omega), ?_⟩
      by_cases hO : G.2.1 w = nI x
      · refine ax_nf hO ?_
        refine cl_allWays hC.2.1 hN hT (by omega) ?_
        rw [sw_od_has 0 h9, if_pos hO] at hK; exact hK
      · refine ax_nt hO ?_
        rw [sw_od_has 0 h9, if_neg hO] at hK; exact hK
  | succ m ih0 =>
    intro d G I K hm hC hG hK
    have e62 : I 62 w = G.2.1 w := hC.2.2.2.2.1 w (by omega)
    apply vc_X2_goodWays
    rw [nI_clamp (by omega), e62]
    refine ⟨ax_inb_nI (by omega) (by omega), ?_⟩
    by_cases h9 : G.2.1 w = -9
    · refine ax_ct h9 (ax_ct ((nI_ltI (a := 0) (by omega) (by omega)).mpr (by omega)) ?_)
      rw [nI_pred]
      refine ih0 (by omega) hC hG (fun I1 c1 f1 => ?_)
      have e1 : I 49 0 = nI N := hC.2.1.1
      have e2 : I 49 1 = nI T := hC.2.1.2.1
      rw [e1, e2, ax_nI_s1 (by omega), nI_l (by omega), nI_l (by omega), lN_mul, lN_mul]
      suffices ∀ (c y s : Nat) (I2 : ax_I) (z5 z7 : Option ax_V), y + c = N → sw_CA I2 N T kd tl un W G → ax_FR 53 67 I I2 → ax_it (fun y s => s + sw_od N T kd x w m (sw_ws kd G y w)) c y s = sw_od N T kd x w (m + 1) G → ax_AK ((d + m + 4)) 43 (77, [some (ax_vr 2 0 48), some (ax_vi (nI x)), some (ax_vi (nI w)), some (ax_vi (nI (m + 1))), some (ax_vl (lN s)), z5, some (ax_vi (nI y)), z7], [], ax_mm I2 L) (ax_kl K) from
        this N 0 _ I1 _ _ (by omega) c1 f1 (sw_od_step hw).symm
      intro c
      induction c with
      | zero =>
        intro y s I2 z5 z7 hy c2 f2 hs
        have hs : s = sw_od N T kd x w (m + 1) G := hs
        apply vc_X2_goodWays_77
        rw [c2.2.1.1]
        refine ax_ct ((nI_leI (by omega) (by omega)).mpr (by omega)) ?_
        rw [hs]; exact hK I2 c2 f2
      | succ c ih =>
        intro y s I2 z5 z7 hy c2 f2 hs
        apply vc_X2_goodWays_77
        rw [c2.2.1.1, nI_pred, nI_1]
        refine ax_cf (fun z => by have := (nI_leI (by omega) (by omega)).mp z; omega) ?_
        refine ca_wish c2 hg hG (by omega) hw (fun I3 c3 f3 => ?_)
        have hG3 := hG.wish hN hT (kd := kd) (show y < N by omega) hw
        refine ih0 (by omega) c3 hG3 (fun I4 c4 f4 => ?_)
        refine ca_back c4 (by omega) (fun I5 c5 f5 => ?_)
        rw [lN_add]
        exact ih _ _ I5 _ _ (by omega) c5 (((f2.trans f3).trans f4).trans f5) hs
    · have hK := hK I hC ax_FR.refl
      refine ax_cf h9 ⟨ax_inb_nI (by omega) (by omega), ?_⟩
      by_cases hO : G.2.1 w = nI x
      · refine ax_nf hO ?_
        refine cl_allWays hC.2.1 hN hT (by omega) ?_
        rw [sw_od_has (m + 1) h9, if_pos hO] at hK; exact hK
      · refine ax_nt hO ?_
        rw [sw_od_has (m + 1) h9, if_neg hO] at hK; exact hK
theorem rf_oddsFrom {N T x w : Nat} {kd : Nat → Nat} {tl un : Nat → Int32} {W : Nat → Nat → Nat} (hg : sw_TG N T kd tl un) (hx : x < N) (hw : w < T) {L : ax_J} : ∀ (m : Nat) {d k : Nat} {G : sw_G} {I : ax_I} {K : Int32 → ax_I → ax_J → Prop}, k + m ≤ 3 → sw_RA I N T kd tl un W k G → (∀ I', sw_LO k I I' → ax_FR 199 199 I I' → K (nI (sw_od N T kd x w m G)) I' L) → ax_CI (d + m + 5) 235 [ax_vr 9 0 184, ax_vi (nI k), ax_vi (nI (k + m)), ax_vi (nI x), ax_vi (nI w)] I L K := by
  have hT := hg.2.1
  have hN := hg.1
  intro m
  induction m with
  | zero =>
    intro d k G I K hk hR hK
    apply vc_X9_oddsFrom
    rw [Nat.add_zero]
    refine ax_nf rfl ?_
    refine rf_v (a := 6) (by omega) (by omega) ?_
    rw [hR.2.2.1 w (by omega)]
    have hK := hK I sw_LO.refl ax_FR.refl
    unfold sw_od at hK
    by_cases hO : G.2.1 w = nI x
    · refine ax_nf hO ?_
      rw [if_pos hO] at hK; exact hK
    · refine ax_nt hO ?_
      rw [if_neg hO] at hK; exact hK
  | succ m ih0 =>
    intro d k G I K hk hR hK
    apply vc_X9_oddsFrom
    refine ax_nt (fun z => by have := (nI_eq (by omega) (by omega)).mp z; omega) ?_
    suffices ∀ (c y s : Nat) (I1 : ax_I) (z7 : Option ax_V), y + c = N → sw_LO k I I1 → ax_FR 199 199 I I1 → ax_it (fun y s => ax_it (fun t s => s + sw_od N T kd x w m (sw_ws kd G y t)) T 0 s) c y s = sw_od N T kd x w (m + 1) G → ax_AK ((d + m + 5)) 235 (30, [some (ax_vr 9 0 184), some (ax_vi (nI k)), some (ax_vi (nI (k + (m + 1)))), some (ax_vi (nI x)), some (ax_vi (nI w)), some (ax_vi (nI s)), some (ax_vi (nI y)), z7], [], ax_mm I1 L) (ax_ki K) from
      this N 0 0 I _ (by omega) sw_LO.refl ax_FR.refl rfl
    intro c
    induction c with
    | zero =>
      intro y s I1 z7 hy hl hf hs
      have hs : s = sw_od N T kd x w (m + 1) G := hs
      apply vc_X9_oddsFrom_30
      rw [(hR.keep hl hf).1.1]
      refine ax_ct ((nI_leI (by omega) (by omega)).mpr (by omega)) ?_
      rw [hs]; exact hK I1 hl hf
    | succ c ih =>
      intro y s I1 z7 hy hl hf hs
      apply vc_X9_oddsFrom_30
      rw [(hR.keep hl hf).1.1]
      refine ax_cf (fun z => by have := (nI_leI (by omega) (by omega)).mp z; omega) ?_
      suffices ∀ (e t s : Nat) (I1 : ax_I), t + e = T → sw_LO k I I1 → ax_FR 199 199 I I1 → ax_it (fun y s => ax_it (fun t s => s + sw_od N T kd x w m (sw_ws kd G y t)) T 0 s) c (y + 1) (ax_it (fun t s => s + sw_od N T kd x w m (sw_ws kd G y t)) e t s) = sw_od N T kd x w (m + 1) G → ax_AK ((d + m + 5)) 235 (42, [some (ax_vr 9 0 184), some (ax_vi (nI k)), some (ax_vi (nI (k + (m + 1)))), some (ax_vi (nI x)), some (ax_vi (nI w)), some (ax_vi (nI s)), some (ax_vi (nI y)), some (ax_vi (nI t))], [], ax_mm I1 L) (ax_ki K) from this T 0 s I1 (by omega) hl hf hs
      clear hs hl hf
      intro e
      induction e with
      | zero =>
        intro t s I1 ht hl hf hs
        apply vc_X9_oddsFrom_42
        rw [(hR.keep hl hf).1.2.1, nI_1]
        refine ax_ct ((nI_leI (by omega) (by omega)).mpr (by omega)) ?_
        exact ih _ _ I1 _ (by omega) hl hf hs
      | succ e ihe =>
        intro t s I1 ht hl hf hs
        have hR1 := hR.keep hl hf
        apply vc_X9_oddsFrom_42
        rw [hR1.1.2.1, nI_1, nI_1, nI_1]
        refine ax_cf (fun z => by have := (nI_leI (by omega) (by omega)).mp z; omega) ?_
        refine ra_tries hR1 hg (by omega) (by omega) (by omega) (fun I2 r2 l2 f2 => ?_)
        rw [show k + (m + 1) = (k + 1) + m by omega]
        refine ih0 (by omega) r2 (fun I3 l3 f3 => ?_)
        rw [show (k + 1) + m = k + (m + 1) by omega, nI_add]
        exact ihe _ _ I3 (by omega) ((hl.trans l2).trans (l3.low (by omega))) ((hf.trans f2).trans f3) hs
theorem op_odds {I : ax_I} {L : ax_J} (h : sw_RR I L) (a b c : Int32) : sw_OP 123 236 [ax_vi a, ax_vi b, ax_vi c] I L := by
  intro d
  have h0 := h
  obtain ⟨N, T, kd, tl, un, W, es, h1, h2, h3, h4⟩ := h
  have hG := h1.GI
  have h1' := h1
  obtain ⟨q1, q2, q3, q4, q5, q6, q7, q8, q9, q10⟩ := h1
  have hN := q1.1
  have hT := q1.2.1
  apply vc_X8_odds
  rcases sw_dich (n := N) (by omega) a with ⟨x, hx, rfl⟩ | ha
  case inr =>
    refine cl_hasOne_no q5.1 ha ?_
    refine ax_ct rfl ?_
    apply vc_X9_odds
    refine rf_isOne_no q7.1 hN ha ?_
    exact ax_ct rfl ⟨rfl, h0⟩
  refine cl_hasOne_k q5.1 (by omega) hx ?_
  refine ax_cf (by decide) ?_
  rcases sw_dich (n := T) (by omega) b with ⟨w, hw, rfl⟩ | hb
  case inr =>
    refine cl_hasThing_no q5.2.1 hb ?_
    refine ax_ct rfl ?_
    apply vc_X9_odds
    refine rf_isOne_k q7.1 hN hx ?_
    refine ax_cf (by decide) ?_
    refine rf_isThing_no q7.2.1 hT hb ?_
    exact ax_ct rfl ⟨rfl, h0⟩
  refine cl_hasThing_k q5.2.1 (by omega) hw ?_
  refine ax_cf (by decide) ?_
  rcases sw_dich (n := 4) (by omega) c with ⟨m, hm, rfl⟩ | hc
  case inr =>
    have fin : ax_CI (d + 30) 236 [ax_vr 9 0 184, ax_vi (nI x), ax_vi (nI w), ax_vi c] I L (fun b I2 L2 => (-1 : Int32) = b ∧ sw_RR I2 L2) := by
      apply vc_X9_odds
      refine rf_isOne_k q7.1 hN hx ?_
      refine ax_cf (by decide) ?_
      refine rf_isThing_k q7.2.1 hT hw ?_
      refine ax_cf (by decide) ?_
      refine rf_in_no (n := 4) (by omega) (by decide) hc ?_
      exact ax_nf rfl ⟨rfl, h0⟩
    refine ax_if (fun _ => fin) (fun q0 => ax_if (fun q1 => ?_) (fun _ => fin))
    exfalso
    rcases hc with q | q
    · exact absurd q q0
    · exact absurd (Int32.le_trans q q1) (by decide)
  refine ax_cf (nI_pos (by omega)) (ax_ct ((nI_leI (b := 3) (by omega) (by omega)).mpr (by omega)) ?_)
  have hp := sw_pw_le hN hT m (by omega)
  have hpos : 0 < (N * T) ^ m := Nat.pow_pos (Nat.mul_pos (by omega) (by omega))
  have hle := sw_od_le (N := N) (T := T) (kd := kd) (x := x) (w := w) m (sw_rp kd es)
  refine cl_begin q5 hN q6.1 hG.len (fun I1 t1 d1 f1 => ?_)
  have C1 := h1'.ca t1 d1 f1
  refine cl_allWays C1.2.1 hN hT (by omega) ?_
  apply vc_X2_waysTo
  rw [show d + 28 = (d + 24 - m) + m + 4 by omega]
  refine cl_goodWays q1 hx hw m (by omega) C1 hG (fun I2 c2 f2 => ?_)
  apply vc_X8_greatestShared
  generalize hA : (N * T) ^ m = A at hp hpos hle
  generalize hB : sw_od N T kd x w m (sw_rp kd es) = B at hle
  have hgp : 0 < Nat.gcd A B := Nat.gcd_pos_of_pos_left _ hpos
  have hgle : Nat.gcd A B ≤ A := Nat.gcd_le_left _ hpos
  refine cl_gcd (s := 0) 17 (by omega) (by omega) (by omega) (by omega) ?_
  have hz : ¬ lg_cmp (lN (Nat.gcd A B)) 0 ≤ 0 := by
    rw [lg_cmp_le, show (0 : Int64) = lN 0 from rfl, ax_lN_le (by omega) (by omega)]; omega
  refine ax_cf hz ⟨ax_lnz (by omega) (by omega), ax_lnz (by omega) (by omega), ?_⟩
  rw [ax_lN_div (by omega) (by omega), ax_lN_div (by omega) (by omega)]
  have fc : ∀ a, (a < 49 ∨ 67 < a) → I2 a = I a := fun a z1 => by rw [f2 a (by omega), f1 a (by omega)]
  have h1c : sw_TW I2 N T kd tl un W es := h1'.aside (fun a q => fc a (by omega))
  generalize hL1 : ax_ul (ax_ul L 3 14 (lN (B / Nat.gcd A B))) 3 15 (lN (A / Nat.gcd A B)) = L1
  apply vc_X9_odds
  have r1 := h1c.2.2.2.2.2.2.1.1
  have r2 := h1c.2.2.2.2.2.2.1.2.1
  refine rf_isOne_k r1 hN hx ?_
  refine ax_cf (by decide) ?_
  refine rf_isThing_k r2 hT hw ?_
  refine ax_cf (by decide) ?_
  refine rf_in_k (n := 4) (by omega) (by decide) hm ?_
  refine ax_nt (by decide) ?_
  suffices ∀ (c i : Nat), i + c = m → ax_AK ((d + 29)) 236 (33, [some (ax_vr 9 0 184), some (ax_vi (nI x)), some (ax_vi (nI w)), some (ax_vi (nI m)), some (ax_vi (nI ((N * T) ^ i))), some (ax_vi (nI i))], [], ax_mm I2 L1) (ax_ki (fun b I2 L2 => (1 : Int32) = b ∧ sw_RR I2 L2)) from this m 0 (by omega)
  intro c
  induction c with
  | succ c ih =>
    intro i hi
    apply vc_X9_odds_33
    refine ax_cf (fun z => by have := (nI_leI (by omega) (by omega)).mp z; omega) ?_
    rw [r1, r2, ax_nI_mul, ax_nI_mul, nI_1, ← Nat.pow_succ]
    exact ih _ (by omega)
  | zero =>
    intro i hi
    have hi : i = m := by omega
    subst hi
    apply vc_X9_odds_33
    refine ax_ct ((nI_leI (by omega) (by omega)).mpr (Nat.le_refl _)) ?_
    rw [show d + 29 = (d + 24 - i) + i + 5 by omega]
    have key := rf_oddsFrom (W := W) (L := L1) q1 hx hw i (d := d + 24 - i) (k := 0) (G := sw_rp kd es) (I := I2) (K := fun x3 I1 L2 => ax_CI ((d + 24 - i) + i + 5) 157 [ax_vr 9 0 184, ax_vl x3.toInt64, ax_vl (nI ((N * T) ^ i)).toInt64] I1 L2 (fun x6 I4 L5 => (1 : Int32) = x6 ∧ sw_RR I4 L5)) (by omega) (h1c.ra (by omega)) (fun I3 l3 f3 => ?_)
    · rw [Nat.zero_add] at key; exact key
    · rw [hA, hB, nI_l (by omega), nI_l (by omega)]
      apply vc_X9_part
      refine rf_gcd (by omega) (by omega) A (by omega) (by omega) (Nat.le_refl _) (by rw [Nat.gcd_comm]; exact hgp) ⟨rfl, ?_⟩
      rw [Nat.gcd_comm B A]
      have f3c : ∀ a, ¬ a = 199 → (a < 49 ∨ 67 < a) → I3 a = I a := fun a z1 z2 => by rw [f3 a (by omega), fc a z2]
      refine h0.aside (fun a q => f3c a (by omega) (by omega)) ⟨fun b hb => by rw [l3 b (by omega), fc _ (by omega)], by rw [f3c _ (by omega) (by omega)], by rw [f3c _ (by omega) (by omega)], by rw [f3c _ (by omega) (by omega)]⟩ ?_
      obtain ⟨m1, m2, m3, m4, m5⟩ := h4
      refine ⟨by rw [f3c _ (by omega) (by omega), f3c _ (by omega) (by omega)]; exact m1, fun f hf => by rw [f3c _ (by omega) (by omega), f3c _ (by omega) (by omega)]; exact m2 f hf, by rw [f3c _ (by omega) (by omega), f3c _ (by omega) (by omega)]; exact m3, ?_, ?_⟩
      · rw [ax_ul_ne (by omega), ax_ul_ne (by omega), ax_ul_ne (by omega), ax_ul_eq, ← hL1, ax_ul_ne (by omega), ax_ul_eq]
      · rw [ax_ul_ne (by omega), ax_ul_ne (by omega), ax_ul_eq, ← hL1, ax_ul_eq]
