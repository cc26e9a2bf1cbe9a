theorem sw_FF.wish {N x w : Nat} {kd : Nat → Nat} {tl : Nat → Int32} {es : sw_E} {f g : Nat → Int32} (h : sw_FF f kd es) (hN : N ≤ 6) (hE : ∀ e, e ∈ es → e.1 < 6) (hw : w < 6) (hg : ∀ j, j < 31 → g j = sw_sf N kd tl (sw_rp kd es) x w f j) : sw_FF g kd ((x, w, sw_hr N kd tl x) :: es) := by
  obtain ⟨h1, h2, h3⟩ := h
  refine ⟨h1.wish hN hw hg, fun v hv => ?_, fun y hy => ?_⟩
  · rw [hg _ (by omega)]
    unfold sw_sf
    show _ = (if sw_out kd (sw_rp kd es) x w = 2 then sw_up (sw_by kd es) w (nI x) else sw_by kd es) v
    by_cases e1 : sw_out kd (sw_rp kd es) x w = 1
    · rw [if_pos e1, if_neg (by omega), if_neg (by omega), if_neg (by omega)]; exact h2 v hv
    · rw [if_neg e1]
      by_cases e2 : sw_out kd (sw_rp kd es) x w = 2
      · rw [if_pos e2, if_pos e2, if_neg (by omega), if_neg (by omega)]
        by_cases e : v = w
        · rw [if_pos (by omega), e, sw_up_eq]
        · rw [if_neg (by omega), if_neg (by omega), sw_up_ne e]; exact h2 v hv
      · rw [if_neg e2, if_neg e2]; exact h2 v hv
  · rw [hg _ (by omega)]
    unfold sw_sf
    have e0 : ∀ v, sw_he kd ((x, w, sw_hr N kd tl x) :: es) v = (if sw_out kd (sw_rp kd es) x w = 1 then sw_up (sw_he kd es) w (sw_hr N kd tl x) else sw_he kd es) v := fun v => rfl
    by_cases e1 : sw_out kd (sw_rp kd es) x w = 1
    · have z := sw_he_no (kd := kd) (w := w) hE (sw_ws_1 e1).1
      have key : ax_ms 6 (fun v => ax_bt (sw_he kd ((x, w, sw_hr N kd tl x) :: es) v) y) = ax_ms 6 (fun v => ax_bt (sw_he kd es v) y) ||| (if sw_hp N kd tl x y then (1 : Int32) <<< (nI w &&& 31) else 0) := by
        apply ax_bt_ext
        intro i hi
        rw [ax_bt_or, ax_bt_ms (by omega), ax_bt_ms (by omega), e0, if_pos e1]
        have eb : ax_bt (if sw_hp N kd tl x y then (1 : Int32) <<< (nI w &&& 31) else 0) i = (decide (i = w) && sw_hp N kd tl x y) := by
          cases sw_hp N kd tl x y with
          | true => rw [if_pos rfl, ax_bt_sh (by omega) hi, Bool.and_true]
          | false => rw [if_neg (by decide), ax_bt_0, Bool.and_false]
        rw [eb]
        by_cases e : i = w
        · subst e
          rw [sw_up_eq, z, ax_bt_0, Bool.and_false, Bool.false_or, decide_eq_true (show i < 6 by omega), decide_eq_true rfl]
          unfold sw_hr
          rw [ax_bt_ms (by omega), decide_eq_true hy, Bool.true_and]
        · rw [sw_up_ne e, decide_eq_false e, Bool.false_and, Bool.or_false]
      rw [if_pos e1, if_neg (by omega), key]
      by_cases hyN : y < N
      · rw [if_pos (by omega), h3 y hy, show 24 + y - 24 = y by omega]
      · rw [if_neg (by omega), h3 y hy]
        have : sw_hp N kd tl x y = false := by unfold sw_hp; rw [decide_eq_false hyN, Bool.false_and, Bool.false_and]
        rw [this, if_neg (by decide), Int32.or_zero]
    · have e00 : (fun v => ax_bt (sw_he kd ((x, w, sw_hr N kd tl x) :: es) v) y) = (fun v => ax_bt (sw_he kd es v) y) := by
        funext v
        rw [e0, if_neg e1]
      rw [if_neg e1, e00]
      by_cases e2 : sw_out kd (sw_rp kd es) x w = 2
      · rw [if_pos e2, if_neg (by omega), if_neg (by omega), if_neg (by omega), if_neg (by omega)]; exact h3 y hy
      · rw [if_neg e2]; exact h3 y hy
theorem rf_takeSaying {d x w N T : Nat} {kd : Nat → Nat} {tl un : Nat → Int32} {W : Nat → Nat → Nat} {es : sw_E} {I : ax_I} {L : ax_J} {K : Int32 → ax_I → ax_J → Prop} (hT : sw_RT I N T kd tl un W) (hg : sw_TG N T kd tl un) (hE : sw_EI N T es) (hF : sw_FF (sw_fr I 0) kd es) (h27 : I 184 27 = nI es.length) (hry : sw_ry kd (I 200) (I 201) es) (hl : es.length < 40) (hx : x < N) (hw : w < T) (hK : ∀ I', sw_FF (sw_fr I' 0) kd ((x, w, sw_hr N kd tl x) :: es) → I' 184 27 = nI (es.length + 1) → sw_ry kd (I' 200) (I' 201) ((x, w, sw_hr N kd tl x) :: es) → (∀ a, ¬ a = 184 → ¬ a = 199 → ¬ a = 200 → ¬ a = 201 → I' a = I a) → (∀ b, ¬ b = 27 → I' 184 b = I 184 b) → K (if sw_out kd (sw_rp kd es) x w = 2 then 1 else 0) I' L) : ax_CI (d + 4) 203 [ax_vr 9 0 184, ax_vi (nI x), ax_vi (nI w)] I L K := by
  have hN := hg.1
  have hT6 := hg.2.1
  apply vc_X9_takeSaying
  suffices ∀ (j i : Nat) (I1 : ax_I), i + j = 31 → (∀ b, b < i → I1 201 (31 * es.length + b) = sw_fr I 0 b) → (∀ b, b < 31 * es.length → I1 201 b = I 201 b) → ax_FR 201 201 I I1 → ax_AK ((d + 3)) 203 (2, [some (ax_vr 9 0 184), some (ax_vi (nI x)), some (ax_vi (nI w)), some (ax_vi (nI i))], [], ax_mm I1 L) (ax_ki K) from this 31 0 I (by omega) (fun b hb => by omega) (fun _ _ => rfl) ax_FR.refl
  intro j
  induction j with
  | zero =>
    intro i I1 hi h1 h2 f1
    apply vc_X9_takeSaying_2
    rw [f1 184 (by omega), h27]
    rw [show (10 : Int32) * nI x + nI w = nI (10 * x + w) by rw [show (10 : Int32) = nI 10 from rfl, ax_nI_mul, nI_add]]
    simp (disch := omega) only [Bool.not_eq_false, Bool.not_eq_true, decide_eq_true_eq, decide_eq_false_iff_not, Bool.not_eq_true', Bool.not_eq_false', ax_lle, ax_llt, ax_lel, ax_ltl, ax_leq, ax_eql, ax_clampl, ax_inb_iff, nI_clamp, nI_1, nI_leI, nI_ltI, nI_eq, ax_b0, ax_b1, ax_bitb, ax_ui_eq, ax_ui_ne, true_and, and_true, f1 184 (by omega), h27]
    refine ⟨fun _ => ⟨by omega, ?_⟩, fun q => by omega⟩
    generalize hI2 : ax_ui (ax_ui I1 200 es.length (nI (10 * x + w))) 184 27 (nI (es.length + 1)) = I2
    have fr2 : ∀ a, ¬ a = 184 → ¬ a = 200 → ¬ a = 201 → I2 a = I a := fun a z1 z2 z3 => by rw [← hI2, ax_ui_row z1, ax_ui_row z2, f1 a (by omega)]
    have h184 : ∀ b, ¬ b = 27 → I2 184 b = I 184 b := fun b hb => by rw [← hI2, ax_ui_ne (by omega), ax_ui_ne (by omega), f1 _ (by omega)]
    have hT2 : sw_RT I2 N T kd tl un W := hT.frame (h184 _ (by omega)) (h184 _ (by omega)) (fr2 _ (by omega) (by omega) (by omega)) (fr2 _ (by omega) (by omega) (by omega)) (fr2 _ (by omega) (by omega) (by omega)) (fr2 _ (by omega) (by omega) (by omega))
    have e199 : sw_fr I2 0 = sw_fr I 0 := by unfold sw_fr; rw [fr2 199 (by omega) (by omega) (by omega)]
    have hF2 : sw_FF (sw_fr I2 0) kd es := by rw [e199]; exact hF
    refine rf_says (k := 0) hT2 hg hF2.1 (by omega) hx (by omega) (fun I3 c3 o3 f3 => ?_)
    have hE6 : ∀ e, e ∈ es → e.1 < 6 := fun e q => by have := (hE.2 e q).1; omega
    have hF3 := hF2.wish hN hE6 (show w < 6 by omega) c3
    have h200 : I2 200 = ax_ui I1 200 es.length (nI (10 * x + w)) 200 := by rw [← hI2, ax_ui_row (by omega)]
    have h201 : I2 201 = I1 201 := by rw [← hI2, ax_ui_row (by omega), ax_ui_row (by omega)]
    have fin := hK I3 hF3 (by rw [f3 _ (by omega), ← hI2, ax_ui_eq]) (by
      rw [f3 200 (by omega), f3 201 (by omega), h200, h201]
      refine ⟨ax_ui_eq, hF.same (fun j hj => h1 j (by omega)), sw_ry_up (k := es.length) ?_ h2 es (Nat.le_refl _) hry⟩
      intro b hb
      rw [ax_ui_ne (by omega), f1 _ (by omega)]) (fun a z1 z2 z3 z4 => by rw [f3 a (by omega), fr2 a z1 z3 z4]) (fun b hb => by rw [f3 _ (by omega), h184 b hb])
    unfold sw_sa
    by_cases e2 : sw_out kd (sw_rp kd es) x w = 2
    · rw [if_pos e2] at fin ⊢
      exact ⟨fun q => absurd rfl q, fun _ => fin⟩
    · rw [if_neg e2] at fin ⊢
      by_cases e1 : sw_out kd (sw_rp kd es) x w = 1
      · rw [if_pos e1]; exact ⟨fun _ => fin, fun q => absurd q (by decide)⟩
      · rw [if_neg e1]; exact ⟨fun _ => fin, fun q => absurd q (by decide)⟩
  | succ j ih =>
    intro i I1 hi h1 h2 f1
    apply vc_X9_takeSaying_2
    rw [f1 184 (by omega), h27]
    simp (disch := omega) only [Bool.not_eq_false, Bool.not_eq_true, decide_eq_true_eq, decide_eq_false_iff_not, Bool.not_eq_true', Bool.not_eq_false', ax_lle, ax_llt, ax_lel, ax_ltl, ax_leq, ax_eql, ax_clampl, ax_inb_iff, nI_clamp, nI_1, nI_leI, nI_ltI, nI_eq, ax_b0, ax_b1, ax_bitb, ax_ui_eq, ax_ui_ne, true_and, and_true, ax_lmul, nI_add]
    refine ⟨fun q => by omega, fun _ => ?_⟩
    refine rf_v (k := 0) (i := 0) (by omega) (by omega) ?_
    refine ⟨by omega, ih _ _ (by omega) ?_ ?_ (f1.ui (by omega) (by omega))⟩
    · intro b hb
      by_cases q : b = i
      · subst q; rw [ax_ui_eq]; unfold sw_fr; rw [f1 199 (by omega)]; rfl
      · rw [ax_ui_ne (by omega)]; exact h1 b (by omega)
    · intro b hb
      rw [ax_ui_ne (by omega)]; exact h2 b hb
theorem sw_hr_bt {N x i : Nat} {kd : Nat → Nat} {tl : Nat → Int32} (h : ax_bt (sw_hr N kd tl x) i = true) : i < N := by
  unfold sw_hr at h
  rw [ax_bt_ms (by omega), Bool.and_eq_true] at h
  have h2 := h.2
  unfold sw_hp at h2
  rw [Bool.and_eq_true, Bool.and_eq_true] at h2
  exact of_decide_eq_true h2.1.1
theorem sw_EI.cons {N T x w : Nat} {kd : Nat → Nat} {tl : Nat → Int32} {es : sw_E} (h : sw_EI N T es) (hl : es.length < 40) (hx : x < N) (hw : w < T) : sw_EI N T ((x, w, sw_hr N kd tl x) :: es) := by
  refine ⟨by show es.length + 1 ≤ 40; omega, fun e q => ?_⟩
  rcases List.mem_cons.mp q with e' | e'
  · rw [e']; exact ⟨hx, hw, fun i _ hb => sw_hr_bt hb⟩
  · exact h.2 e e'
theorem op_say {I : ax_I} {L : ax_J} (h : sw_RR I L) (a b : Int32) : sw_OP 105 204 [ax_vi a, ax_vi b] I L := by
  intro d
  have h0 := h
  obtain ⟨N, T, kd, tl, un, W, es, h1, h2, h3, h4⟩ := h
  have hN := h1.1.1
  have hT := h1.1.2.1
  have c1 := h1.2.2.2.2.1.1
  have c2 := h1.2.2.2.2.1.2.1
  have r1 := h1.2.2.2.2.2.2.1.1
  have r2 := h1.2.2.2.2.2.2.1.2.1
  apply vc_X8_say
  rcases sw_dich (n := N) (by omega) a with ⟨x, hx, rfl⟩ | ha
  case inr =>
    refine cl_hasOne_no c1 ha ?_
    refine ⟨fun _ => ?_, (fun q => absurd q (by decide))⟩
    apply vc_X9_say
    refine rf_isOne_no r1 hN ha ?_
    exact ⟨fun _ => ⟨rfl, h0⟩, (fun q => absurd q (by decide))⟩
  refine cl_hasOne_k c1 (by omega) hx ?_
  refine ⟨(fun q => absurd q (by decide)), fun _ => ?_⟩
  rcases sw_dich (n := T) (by omega) b with ⟨w, hw, rfl⟩ | hb
  case inr =>
    refine cl_hasThing_no c2 hb ?_
    refine ⟨(fun q => absurd q (by decide)), fun _ => ?_⟩
    apply vc_X9_say
    refine rf_isOne_k r1 hN hx ?_
    refine ⟨(fun q => absurd q (by decide)), fun _ => ?_⟩
    refine rf_isThing_no r2 hT hb ?_
    exact ⟨(fun q => absurd q (by decide)), fun _ => ⟨rfl, h0⟩⟩
  refine cl_hasThing_k c2 (by omega) hw ?_
  refine ⟨fun _ => ?_, (fun q => absurd q (by decide))⟩
  have hE40 := h1.2.2.1.1
  have e9 : I 10 9 = nI es.length := h1.2.2.2.2.2.1.2.2.2.1
  have e27 : I 184 27 = nI es.length := h1.2.2.2.2.2.2.2.2.1
  rw [e9]
  simp (disch := omega) only [Bool.not_eq_false, Bool.not_eq_true, decide_eq_true_eq, decide_eq_false_iff_not, Bool.not_eq_true', Bool.not_eq_false', ax_lle, ax_llt, ax_lel, ax_ltl, ax_leq, ax_eql, ax_clampl, ax_inb_iff, nI_clamp, nI_1, nI_leI, nI_ltI, nI_eq, ax_b0, ax_b1, ax_bitb, ax_ui_eq, ax_ui_ne, true_and, and_true]
  refine ⟨fun hl => ?_, fun hl => ?_⟩
  · obtain ⟨q1, q2, q3, q4, q5, q6, q7, q8, q9, q10⟩ := h1
    refine cl_speak q4 q5 q1 q6 q3 hl hx hw (fun I1 d1 f1 => ?_)
    have e19 : I1 19 w = (sw_rp kd ((x, w, sw_hr N kd tl x) :: es)).2.1 w := d1.1.2.2.1 w (by omega)
    rw [e19]
    generalize hv : (sw_rp kd ((x, w, sw_hr N kd tl x) :: es)).2.1 w = v
    /- the reference -/
    have ref : ax_CI (d + 30) 204 [ax_vr 9 0 184, ax_vi (nI x), ax_vi (nI w)] (ax_ui I1 3 13 v) L (fun b I2 L2 => (if sw_out kd (sw_rp kd es) x w = 2 then (1 : Int32) else 0) = b ∧ sw_RR I2 L2) := by
      have fc : ∀ a, ¬ a = 3 → (a < 10 ∨ 24 < a) → ax_ui I1 3 13 v a = I a := fun a z1 z2 => by rw [ax_ui_row z1, f1 a z2]
      apply vc_X9_say
      refine rf_isOne_k (by rw [fc _ (by omega) (by omega)]; exact r1) hN hx ?_
      refine ⟨(fun q => absurd q (by decide)), fun _ => ?_⟩
      refine rf_isThing_k (by rw [fc _ (by omega) (by omega)]; exact r2) hT hw ?_
      refine ⟨fun _ => ?_, (fun q => absurd q (by decide))⟩
      rw [fc _ (by omega) (by omega), e27]
      simp (disch := omega) only [Bool.not_eq_false, Bool.not_eq_true, decide_eq_true_eq, decide_eq_false_iff_not, Bool.not_eq_true', Bool.not_eq_false', ax_lle, ax_llt, ax_lel, ax_ltl, ax_leq, ax_eql, ax_clampl, ax_inb_iff, nI_clamp, nI_1, nI_leI, nI_ltI, nI_eq, ax_b0, ax_b1, ax_bitb, ax_ui_eq, ax_ui_ne, true_and, and_true]
      refine ⟨fun _ => ?_, fun q => by omega⟩
      refine rf_takeSaying (q7.frame (by rw [fc _ (by omega) (by omega)]) (by rw [fc _ (by omega) (by omega)]) (fc _ (by omega) (by omega)) (fc _ (by omega) (by omega)) (fc _ (by omega) (by omega)) (fc _ (by omega) (by omega))) q1 q3 ((q8 (by omega)).same (fun j hj => by unfold sw_fr; rw [fc _ (by omega) (by omega)])) (by rw [fc _ (by omega) (by omega)]; exact q9) (by rw [fc _ (by omega) (by omega), fc _ (by omega) (by omega)]; exact q10) hl hx hw (fun I2 F2 m2 y2 a2 b2 => ?_)
      refine rf_v (k := 0) (a := 6) (by omega) (by omega) ?_
      rw [F2.1.2.1 w (by omega), hv]
      apply vc_X9_tells
      refine ⟨rfl, N, T, kd, tl, un, W, (x, w, sw_hr N kd tl x) :: es, ?_, fun k hk => (h2 k hk).frame hk (fun a q => ?_), h3.frame (fun a q => ?_), h4.told ?_ ?_ ?_ ?_ ?_⟩
      · have fd : ∀ a, ¬ a = 3 → ¬ a = 184 → ¬ a = 199 → ¬ a = 200 → ¬ a = 201 → ax_ui I2 184 2 v a = I1 a := fun a z0 z1 z2 z3 z4 => by rw [ax_ui_row z1, a2 a z1 z2 z3 z4, ax_ui_row z0]
        have fe : ∀ a, ¬ a = 3 → ¬ a = 184 → ¬ a = 199 → ¬ a = 200 → ¬ a = 201 → (a < 10 ∨ 24 < a) → ax_ui I2 184 2 v a = I a := fun a z0 z1 z2 z3 z4 z5 => by rw [fd a z0 z1 z2 z3 z4, f1 a z5]
        have f184 : ∀ b, ¬ b = 27 → ¬ b = 2 → ax_ui I2 184 2 v 184 b = I 184 b := fun b z1 z2 => by rw [ax_ui_ne (by omega), b2 b z1, fc _ (by omega) (by omega)]
        refine ⟨q1, q2, q3.cons hl hx hw, q4.frame (fe _ (by omega) (by omega) (by omega) (by omega) (by omega) (by omega)) (fe _ (by omega) (by omega) (by omega) (by omega) (by omega) (by omega)), q5.frame (fun a _ _ => fe _ (by omega) (by omega) (by omega) (by omega) (by omega) (by omega)), d1.frame (fun a _ _ => fd _ (by omega) (by omega) (by omega) (by omega) (by omega)), q7.frame (f184 _ (by omega) (by omega)) (f184 _ (by omega) (by omega)) (fe _ (by omega) (by omega) (by omega) (by omega) (by omega) (by omega)) (fe _ (by omega) (by omega) (by omega) (by omega) (by omega) (by omega)) (fe _ (by omega) (by omega) (by omega) (by omega) (by omega) (by omega)) (fe _ (by omega) (by omega) (by omega) (by omega) (by omega) (by omega)), fun _ => F2.same (fun j hj => by unfold sw_fr; rw [ax_ui_ne (by omega)]), by rw [ax_ui_ne (by omega)]; exact m2, by rw [ax_ui_row (by omega), ax_ui_row (by omega)]; exact y2⟩
      · rw [ax_ui_row (by omega), a2 a (by omega) (by omega) (by omega) (by omega), fc a (by omega) (by omega)]
      · rw [ax_ui_row (by omega), a2 a (by omega) (by omega) (by omega) (by omega), fc a (by omega) (by omega)]
      · rw [ax_ui_ne (by omega), a2 3 (by omega) (by omega) (by omega) (by omega), ax_ui_ne (by omega), f1 3 (by omega)]
      · rw [ax_ui_ne (by omega), b2 0 (by omega), fc _ (by omega) (by omega)]
      · rw [ax_ui_row (by omega), a2 _ (by omega) (by omega) (by omega) (by omega), fc _ (by omega) (by omega)]
      · rw [ax_ui_row (by omega), a2 _ (by omega) (by omega) (by omega) (by omega), fc _ (by omega) (by omega)]
      · rw [ax_ui_ne (by omega), a2 3 (by omega) (by omega) (by omega) (by omega), ax_ui_eq, ax_ui_eq]
    simp (disch := omega) only [Bool.not_eq_false, Bool.not_eq_true, decide_eq_true_eq, decide_eq_false_iff_not, Bool.not_eq_true', Bool.not_eq_false', ax_lle, ax_llt, ax_lel, ax_ltl, ax_leq, ax_eql, ax_clampl, ax_inb_iff, nI_clamp, nI_1, nI_leI, nI_ltI, nI_eq, ax_b0, ax_b1, ax_bitb, ax_ui_eq, ax_ui_ne, true_and, and_true]
    refine ⟨by omega, fun q => ?_, fun q => ?_⟩
    · rw [if_neg q] at ref; exact ref
    · rw [if_pos (Decidable.not_not.mp q)] at ref; exact ref
  · apply vc_X9_say
    refine rf_isOne_k r1 hN hx ?_
    refine ⟨(fun q => absurd q (by decide)), fun _ => ?_⟩
    refine rf_isThing_k r2 hT hw ?_
    refine ⟨fun _ => ?_, (fun q => absurd q (by decide))⟩
    rw [e27]
    simp (disch := omega) only [Bool.not_eq_false, Bool.not_eq_true, decide_eq_true_eq, decide_eq_false_iff_not, Bool.not_eq_true', Bool.not_eq_false', ax_lle, ax_llt, ax_lel, ax_ltl, ax_leq, ax_eql, ax_clampl, ax_inb_iff, nI_clamp, nI_1, nI_leI, nI_ltI, nI_eq, ax_b0, ax_b1, ax_bitb, ax_ui_eq, ax_ui_ne, true_and, and_true]
    exact ⟨fun q => by omega, fun _ => h0⟩
