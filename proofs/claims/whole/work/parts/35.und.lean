/-! needs: 21a 21b 21c 21e 21f 30 31 32 33 34 -/
theorem ax_nI_div {a b : Nat} (ha : a < 2 ^ 31) (hb : b < 2 ^ 31) : nI a / nI b = nI (a / b) := by
  apply Int32.toInt_inj.mp
  have h1 : a / b < 2 ^ 31 := Nat.lt_of_le_of_lt (Nat.div_le_self a b) ha
  rw [Int32.toInt_div, nI_toInt ha, nI_toInt hb, nI_toInt h1, Int.tdiv_eq_ediv_of_nonneg (by omega)]
  have : ((a : Int) / (b : Int)) = ((a / b : Nat) : Int) := (Int.natCast_ediv a b).symm
  rw [this]
  generalize a / b = q at h1
  apply Int.bmod_eq_of_le <;> omega
theorem ax_10x {x w : Nat} (hx : x < 1000) (hw : w < 10) : nI (10 * x + w) / 10 = nI x := by
  rw [show (10 : Int32) = nI 10 from rfl, ax_nI_div (by omega) (by omega)]
  congr 1; omega
theorem ax_10w {x w : Nat} (hx : x < 1000) (hw : w < 10) : nI (10 * x + w) - nI (10 * x + w) / 10 * 10 = nI w := by
  rw [ax_10x hx hw, show (10 : Int32) = nI 10 from rfl, ax_nI_mul, ax_nI_sub (by omega)]
  congr 1; omega
theorem sw_tI_row {I : ax_I} {o w out n a : Nat} (h : o + 11 < a) : sw_tI I o w out n a = I a := by
  match out with
  | 0 => rfl
  | 1 =>
    show ax_ui (ax_ui I (o + 8) w (-9)) (o + 11) w 0 a = I a
    rw [ax_ui_row (by omega), ax_ui_row (by omega)]
  | 2 =>
    show ax_ui (ax_ui (ax_ui I (o + 9) w (-9)) (o + 10) w (-9)) o 6 (nI n) a = I a
    rw [ax_ui_row (by omega), ax_ui_row (by omega), ax_ui_row (by omega)]
  | k + 3 => rfl
theorem cl_forgetFrom {d o n N T : Nat} {kd : Nat → Nat} {W : Nat → Nat → Nat} {es : sw_E} {I : ax_I} {L : ax_J} {K : ax_I → ax_J → Prop} (hN : N ≤ 6) (hT : T ≤ 6) (hD : sw_DF I o kd W es) (hE : sw_EI N T es) (hn : n ≤ es.length) (hK : ∀ I', sw_DF I' o kd W (es.drop (es.length - n)) → ax_FR o (o + 14) I I' → K I' L) : ax_CV (d + 2) 12 [ax_vr 1 0 o, ax_vi (nI n)] I L K := by
  apply vc_X1_forgetFrom
  rw [hD.2.2.2.1]
  suffices ∀ (es : sw_E) (I1 : ax_I), sw_DF I1 o kd W es → sw_EI N T es → n ≤ es.length → (∀ I', sw_DF I' o kd W (es.drop (es.length - n)) → ax_FR o (o + 14) I1 I' → K I' L) → ax_AK ((d + 1)) 12 (7, [some (ax_vr 1 0 o), some (ax_vi (nI n)), some (ax_vi (nI es.length - 1))], [], ax_mm I1 L) (ax_kv K) from this es I hD hE hn hK
  intro es
  induction es with
  | nil =>
    intro I1 hD hE hn hK
    have hn : n ≤ 0 := hn
    have : n = 0 := by omega
    subst this
    apply vc_X1_forgetFrom_7
    have : (nI ([] : sw_E).length - 1 : Int32) < nI 0 := by decide
    exact ⟨fun _ => hK I1 hD ax_FR.refl, fun q => absurd this (of_decide_eq_false q)⟩
  | cons e es ih =>
    intro I1 hD hE hn hK
    have hl : es.length + 1 ≤ 40 := hE.1
    have hn : n ≤ es.length + 1 := hn
    have e1 : nI (e :: es).length - 1 = nI es.length := nI_pred es.length
    apply vc_X1_forgetFrom_7
    rw [e1, ← Int32.sub_eq_add_neg]
    obtain ⟨q1, q2, q3, q4, q5⟩ := hD
    obtain ⟨r1, r2, r3⟩ := q5
    obtain ⟨x, w, h⟩ := e
    have hx : x < N := (hE.2 _ List.mem_cons_self).1
    have hw : w < T := (hE.2 _ List.mem_cons_self).2.1
    have r1 : I1 (o + 13) es.length = nI (10 * x + w) := r1
    have r2 : I1 (o + 14) es.length = nI (sw_out kd (sw_rp kd es) x w) := r2
    have q1 : sw_DA I1 o W (sw_ws kd (sw_rp kd es) x w) := q1
    have hGl := (hE.tail.GI hN hT (kd := kd)).len
    simp (disch := omega) only [Bool.not_eq_false, Bool.not_eq_true, decide_eq_true_eq, decide_eq_false_iff_not, Bool.not_eq_true', Bool.not_eq_false', ax_lle, ax_llt, ax_lel, ax_ltl, ax_leq, ax_eql, ax_clampl, ax_inb_iff, nI_clamp, nI_1, nI_leI, nI_ltI, nI_eq, ax_b0, ax_b1, ax_bitb, ax_ui_eq, ax_ui_ne, true_and, and_true, r1, r2, ax_10w]
    refine ⟨fun z => ?_, fun z => ⟨fun z2 => by omega, fun _ => ⟨by omega, by decide, by omega, ?_⟩⟩⟩
    · have e0 : ((x, w, h) :: es : sw_E).drop (((x, w, h) :: es : sw_E).length - n) = (x, w, h) :: es := by
        have : ((x, w, h) :: es : sw_E).length - n = 0 := by
          show es.length + 1 - n = 0
          omega
        rw [this]; rfl
      rw [e0] at hK
      exact hK I1 ⟨q1, q2, q3, q4, r1, r2, r3⟩ ax_FR.refl
    · refine cl_takeBack (by omega) sw_out_le q1.back6 ?_
      have hB := q1.back (by omega)
      have hF : ax_FR o (o + 14) I1 (ax_ui (sw_tI I1 o w (sw_out kd (sw_rp kd es) x w) (sw_rp kd es).2.2.length) o 9 (nI es.length)) := sw_tI_FR.ui (by omega) (by omega)
      refine ih _ ?_ hE.tail (by omega) ?_
      · have e6 : ∀ e, e ∈ es → e.1 < 6 := fun e q => by have := (hE.2 e (List.mem_cons_of_mem _ q)).1; omega
        have le := sw_out_le (kd := kd) (G := sw_rp kd es) (x := x) (w := w)
        refine ⟨hB.same hGl (fun a ha b hb => ax_ui_ne (by omega)) (fun b hb => ax_ui_ne (by omega)) (fun b hb => ax_ui_ne (by omega)) (ax_ui_ne (by omega)) (fun b hb => ax_ui_ne (by omega)), fun b hb => ?_, fun b hb => ?_, ax_ui_eq, ?_⟩
        · rw [ax_ui_ne (by omega)]
          have q2 := q2 b hb
          unfold sw_by at q2
          have q2 : I1 (o + 10) b = (if sw_out kd (sw_rp kd es) x w = 2 then sw_up (sw_by kd es) w (nI x) else sw_by kd es) b := q2
          have h012 : sw_out kd (sw_rp kd es) x w = 0 ∨ sw_out kd (sw_rp kd es) x w = 1 ∨ sw_out kd (sw_rp kd es) x w = 2 := by omega
          rcases h012 with y | y | y
          · rw [y] at q2 ⊢; exact q2
          · rw [y] at q2 ⊢
            show ax_ui (ax_ui I1 (o + 8) w (-9)) (o + 11) w 0 (o + 10) b = _
            rw [ax_ui_ne (by omega), ax_ui_ne (by omega)]; exact q2
          · have z2 := sw_by_no (kd := kd) (w := w) e6 (sw_ws_2 y).2.1.1
            rw [y] at q2 ⊢
            show ax_ui (ax_ui (ax_ui I1 (o + 9) w (-9)) (o + 10) w (-9)) o 6 _ (o + 10) b = _
            rw [ax_ui_ne (by omega)]
            by_cases u : b = w
            · subst u; rw [ax_ui_eq, z2]
            · rw [ax_ui_ne (by omega), ax_ui_ne (by omega), q2, if_pos rfl, sw_up_ne u]
        · rw [ax_ui_ne (by omega)]
          have q3 := q3 b hb
          unfold sw_he at q3
          have q3 : I1 (o + 11) b = (if sw_out kd (sw_rp kd es) x w = 1 then sw_up (sw_he kd es) w h else sw_he kd es) b := q3
          have h012 : sw_out kd (sw_rp kd es) x w = 0 ∨ sw_out kd (sw_rp kd es) x w = 1 ∨ sw_out kd (sw_rp kd es) x w = 2 := by omega
          rcases h012 with y | y | y
          · rw [y] at q3 ⊢; exact q3
          · have z2 := sw_he_no (kd := kd) (w := w) e6 (sw_ws_1 y).1
            rw [y] at q3 ⊢
            show ax_ui (ax_ui I1 (o + 8) w (-9)) (o + 11) w 0 (o + 11) b = _
            by_cases u : b = w
            · subst u; rw [ax_ui_eq, z2]
            · rw [ax_ui_ne (by omega), ax_ui_ne (by omega), q3, if_pos rfl, sw_up_ne u]
          · rw [y] at q3 ⊢
            show ax_ui (ax_ui (ax_ui I1 (o + 9) w (-9)) (o + 10) w (-9)) o 6 _ (o + 11) b = _
            rw [ax_ui_ne (by omega), ax_ui_ne (by omega), ax_ui_ne (by omega)]; exact q3
        · have e13 : ax_ui (sw_tI I1 o w (sw_out kd (sw_rp kd es) x w) (sw_rp kd es).2.2.length) o 9 (nI es.length) (o + 13) = I1 (o + 13) := by
            rw [ax_ui_row (by omega), sw_tI_row (by omega)]
          have e14 : ax_ui (sw_tI I1 o w (sw_out kd (sw_rp kd es) x w) (sw_rp kd es).2.2.length) o 9 (nI es.length) (o + 14) = I1 (o + 14) := by
            rw [ax_ui_row (by omega), sw_tI_row (by omega)]
          rw [e13, e14]; exact r3
      · intro I' d1 f1
        refine hK I' ?_ (hF.trans f1)
        have e0 : ((x, w, h) :: es : sw_E).drop (((x, w, h) :: es : sw_E).length - n) = es.drop (es.length - n) := by
          have : ((x, w, h) :: es : sw_E).length - n = (es.length - n) + 1 := by
            show es.length + 1 - n = _
            omega
          rw [this]; rfl
        rw [e0]; exact d1
/-- how many bits -/
def sw_pc : Nat → Nat → Nat
  | 0, _ => 0
  | f + 1, m => if m = 0 then 0 else 1 + sw_pc f (m &&& (m - 1))
theorem cl_bitCount {d m : Nat} {I : ax_I} {L : ax_J} {K : Int32 → ax_I → ax_J → Prop} (hm : m < 64) (hK : K (nI (sw_pc 6 m)) I L) : ax_CI (d + 1) 243 [ax_vi (nI m)] I L K := by
  apply vc_J6_bitCount_0f7a4
  refine cast (congrArg (fun z => K z I L) ?_) hK
  clear hK
  revert m
  decide +kernel
theorem cl_hasOne {d o N : Nat} {x : Int32} {I : ax_I} {L : ax_J} {K : Int32 → ax_I → ax_J → Prop} (hN : I o 0 = nI N) (hK : K (ax_b (decide (0 ≤ x) && decide (x < nI N))) I L) : ax_CI (d + 1) 80 [ax_vr 7 0 o, ax_vi x] I L K := by
  apply vc_X7_hasOne
  rw [hN]
  refine ax_if (fun h => ⟨by decide, ?_⟩) (fun h => ax_if (fun h2 => ⟨by decide, ?_⟩) (fun h2 => ⟨by decide, ?_⟩))
  · rw [decide_eq_false (Int32.not_le.mpr h)] at hK; exact hK
  · rw [decide_eq_false (Int32.not_lt.mpr h2), Bool.and_false] at hK; exact hK
  · rw [decide_eq_true (Int32.not_lt.mp h), decide_eq_true (Int32.not_le.mp h2)] at hK; exact hK
theorem cl_hasThing {d o T : Nat} {x : Int32} {I : ax_I} {L : ax_J} {K : Int32 → ax_I → ax_J → Prop} (hN : I o 1 = nI T) (hK : K (ax_b (decide (0 ≤ x) && decide (x < nI T))) I L) : ax_CI (d + 1) 81 [ax_vr 7 0 o, ax_vi x] I L K := by
  apply vc_X7_hasThing
  rw [hN]
  refine ax_if (fun h => ⟨by decide, ?_⟩) (fun h => ax_if (fun h2 => ⟨by decide, ?_⟩) (fun h2 => ⟨by decide, ?_⟩))
  · rw [decide_eq_false (Int32.not_le.mpr h)] at hK; exact hK
  · rw [decide_eq_false (Int32.not_lt.mpr h2), Bool.and_false] at hK; exact hK
  · rw [decide_eq_true (Int32.not_lt.mp h), decide_eq_true (Int32.not_le.mp h2)] at hK; exact hK
def sw_nx (N x : Nat) : Nat := if x + 1 < N then x + 1 else 0
theorem cl_behind {d o N x : Nat} {I : ax_I} {L : ax_J} {K : Int32 → ax_I → ax_J → Prop} (hN : I o 0 = nI N) (hN6 : N ≤ 6) (hx : x < 6) (hK : K (nI (sw_nx N x)) I L) : ax_CI (d + 1) 83 [ax_vr 7 0 o, ax_vi (nI x)] I L K := by
  apply vc_X7_behind
  simp (disch := omega) only [Bool.not_eq_false, Bool.not_eq_true, decide_eq_true_eq, decide_eq_false_iff_not, Bool.not_eq_true', Bool.not_eq_false', ax_lle, ax_llt, ax_lel, ax_ltl, ax_leq, ax_eql, ax_clampl, ax_inb_iff, nI_clamp, nI_1, nI_leI, nI_ltI, nI_eq, ax_b0, ax_b1, ax_bitb, ax_ui_eq, ax_ui_ne, true_and, and_true, hN]
  unfold sw_nx at hK
  refine ⟨fun q => ?_, fun q => ?_⟩
  · rw [if_neg (by omega)] at hK; exact hK
  · rw [if_pos (by omega)] at hK; exact hK
theorem cl_tbecome {d o o0 N T : Nat} {kd : Nat → Nat} {tl un : Nat → Int32} {I : ax_I} {L : ax_J} {K : ax_I → ax_J → Prop} (hT : sw_TP I o0 N T kd tl un) (hN : N ≤ 6) (ho : o + 3 < o0 ∨ o0 + 3 < o) (hK : ∀ I', sw_TP I' o N T kd tl un → ax_FR o (o + 3) I I' → K I' L) : ax_CV (d + 1) 79 [ax_vr 7 0 o, ax_vr 7 0 o0] I L K := by
  apply vc_X7_become
  obtain ⟨q1, q2, q3, q4, q5⟩ := hT
  simp (disch := omega) only [Bool.not_eq_false, Bool.not_eq_true, decide_eq_true_eq, decide_eq_false_iff_not, Bool.not_eq_true', Bool.not_eq_false', ax_lle, ax_llt, ax_lel, ax_ltl, ax_leq, ax_eql, ax_clampl, ax_inb_iff, nI_clamp, nI_1, nI_leI, nI_ltI, nI_eq, ax_b0, ax_b1, ax_bitb, ax_ui_eq, ax_ui_ne, true_and, and_true, q1, q2]
  refine ⟨by decide, by decide, by decide, hK _ ?_ ?_⟩
  · refine ⟨?_, ?_, fun x hx => ?_, fun x hx => ?_, fun w hw => ?_⟩
    · rw [ax_uc_ne (by omega), ax_uc_ne (by omega), ax_uc_ne (by omega), ax_ui_ne (by omega), ax_ui_eq]
    · rw [ax_uc_ne (by omega), ax_uc_ne (by omega), ax_uc_ne (by omega), ax_ui_eq]
    · rw [ax_uc_ne (by omega), ax_uc_ne (by omega), ax_uc_z (by omega), ax_ui_ne (by omega), ax_ui_ne (by omega)]; exact q3 x hx
    · rw [ax_uc_ne (by omega), ax_uc_z (by omega), ax_uc_ne (by omega), ax_ui_ne (by omega), ax_ui_ne (by omega)]; exact q4 x hx
    · rw [ax_uc_z (by omega), ax_uc_ne (by omega), ax_uc_ne (by omega), ax_ui_ne (by omega), ax_ui_ne (by omega)]; exact q5 w hw
  · exact ((((ax_FR.refl.ui (by omega) (by omega)).ui (by omega) (by omega)).uc (by omega) (by omega)).uc (by omega) (by omega)).uc (by omega) (by omega)
theorem cl_tclear {d o : Nat} {I : ax_I} {L : ax_J} {K : ax_I → ax_J → Prop} (hK : ∀ I', I' o 0 = 0 → I' o 1 = 0 → (∀ x, x < 6 → I' (o + 1) x = 0) → (∀ x, x < 6 → I' (o + 2) x = 0) → (∀ x, x < 6 → I' (o + 3) x = 0) → ax_FR o (o + 3) I I' → K I' L) : ax_CV (d + 2) 78 [ax_vr 7 0 o] I L K := by
  apply vc_X7_clear
  refine cl_fill (by omega) (fun I2 g2 f2 => ?_)
  refine cl_fill (by omega) (fun I3 g3 f3 => ?_)
  refine cl_fill (by omega) (fun I4 g4 f4 => ?_)
  refine hK _ ?_ ?_ ?_ ?_ ?_ ?_
  · rw [f4 _ (by omega), f3 _ (by omega), f2 _ (by omega), ax_ui_ne (by omega), ax_ui_eq]
  · rw [f4 _ (by omega), f3 _ (by omega), f2 _ (by omega), ax_ui_eq]
  · intro x hx; rw [f4 _ (by omega), f3 _ (by omega)]; exact g2 x hx
  · intro x hx; rw [f4 _ (by omega)]; exact g3 x hx
  · exact g4
  · exact ((((ax_FR.refl.ui (by omega) (by omega)).ui (by omega) (by omega)).trans (f2.wide (by omega) (by omega))).trans (f3.wide (by omega) (by omega))).trans (f4.wide (by omega) (by omega))
theorem cl_begin {d N T : Nat} {kd : Nat → Nat} {tl un : Nat → Int32} {W : Nat → Nat → Nat} {G : sw_G} {I : ax_I} {L : ax_J} {K : ax_I → ax_J → Prop} (hT : sw_TP I 6 N T kd tl un) (hN : N ≤ 6) (hD : sw_DA I 10 W G) (hl : G.2.2.length ≤ 6) (hK : ∀ I', sw_TP I' 49 N T kd tl un → sw_DA I' 53 W G → ax_FR 49 67 I I' → K I' L) : ax_CV (d + 2) 27 [ax_vr 2 0 48, ax_vr 7 0 6, ax_vr 1 0 10] I L K := by
  apply vc_X2_begin
  refine cl_tbecome hT hN (by omega) (fun I1 t1 f1 => ?_)
  refine cl_becomeAside (hD.frame (fun a _ _ => f1 a (by omega))) hl (by omega) (fun I2 d2 f2 => ?_)
  exact hK I2 (t1.frame (fun a _ _ => f2 a (by omega))) d2 ((f1.wide (by omega) (by omega)).trans (f2.wide (by omega) (by omega)))
