/-! needs: 21a 21b 21c 21d 21e 30 31 32 33 34 35 41 42 43 44 -/
def sw_RA (I : ax_I) (N T : Nat) (kd : Nat → Nat) (tl un : Nat → Int32) (W : Nat → Nat → Nat) (k : Nat) (G : sw_G) : Prop := sw_RT I N T kd tl un W ∧ sw_FG (sw_fr I k) G
/-- frames up to k are as they were -/
def sw_LO (k : Nat) (I I' : ax_I) : Prop := ∀ b, b < 31 * (k + 1) → I' 199 b = I 199 b
theorem sw_LO.refl {k : Nat} {I : ax_I} : sw_LO k I I := fun _ _ => rfl
theorem sw_LO.trans {k : Nat} {I I1 I2 : ax_I} (h1 : sw_LO k I I1) (h2 : sw_LO k I1 I2) : sw_LO k I I2 := fun b h => (h2 b h).trans (h1 b h)
theorem sw_LO.low {k k' : Nat} {I I' : ax_I} (h : sw_LO k I I') (hk : k' ≤ k) : sw_LO k' I I' := fun b hb => h b (by have : 31 * (k' + 1) ≤ 31 * (k + 1) := Nat.mul_le_mul_left _ (by omega); omega)
theorem sw_FO.lo {k : Nat} {I I' : ax_I} (h : sw_FO (k + 1) I I') : sw_LO k I I' := fun b hb => h b (.inl hb)
theorem sw_RA.keep {I I' : ax_I} {N T k : Nat} {kd : Nat → Nat} {tl un : Nat → Int32} {W : Nat → Nat → Nat} {G : sw_G} (h : sw_RA I N T kd tl un W k G) (hl : sw_LO k I I') (hf : ax_FR 199 199 I I') : sw_RA I' N T kd tl un W k G :=
  ⟨h.1.f199 hf, h.2.same (fun j hj => hl _ (by omega))⟩
theorem ra_tries {d k x w N T : Nat} {kd : Nat → Nat} {tl un : Nat → Int32} {W : Nat → Nat → Nat} {G : sw_G} {I : ax_I} {L : ax_J} {K : ax_I → ax_J → Prop} (hR : sw_RA I N T kd tl un W k G) (hg : sw_TG N T kd tl un) (hk : k < 9) (hx : x < N) (hw : w < T) (hK : ∀ I', sw_RA I' N T kd tl un W (k + 1) (sw_ws kd G x w) → sw_LO k I I' → ax_FR 199 199 I I' → K I' L) : ax_CV (d + 4) 215 [ax_vr 9 0 184, ax_vi (nI k), ax_vi (nI x), ax_vi (nI w)] I L K := by
  have hT := hg.2.1
  exact rf_tries hR.1 hg hR.2 hk hx (by omega) (fun I' h1 h2 h3 => hK I' ⟨hR.1.f199 h3, h1⟩ h2.lo h3)
theorem ra_tries9 {d k x N T : Nat} {kd : Nat → Nat} {tl un : Nat → Int32} {W : Nat → Nat → Nat} {G : sw_G} {I : ax_I} {L : ax_J} {K : ax_I → ax_J → Prop} (hR : sw_RA I N T kd tl un W k G) (hk : k < 9) (hK : ∀ I', sw_RA I' N T kd tl un W (k + 1) G → sw_LO k I I' → ax_FR 199 199 I I' → K I' L) : ax_CV (d + 4) 215 [ax_vr 9 0 184, ax_vi (nI k), ax_vi (nI x), ax_vi 9] I L K :=
  rf_tries9 hR.1 hR.2 hk (fun I' h1 h2 h3 => hK I' ⟨hR.1.f199 h3, h1⟩ h2.lo h3)
theorem rf_optionAt {d w N T : Nat} {kd : Nat → Nat} {tl un : Nat → Int32} {W : Nat → Nat → Nat} {I : ax_I} {L : ax_J} {K : Int32 → ax_I → ax_J → Prop} (hT : sw_RT I N T kd tl un W) (hT6 : T ≤ 6) (hw : w ≤ T) (hK : K (nI (if w = T then 9 else w)) I L) : ax_CI (d + 1) 214 [ax_vr 9 0 184, ax_vi (nI w)] I L K := by
  apply vc_X9_optionAt
  rw [hT.2.1]
  simp (disch := omega) only [Bool.not_eq_false, Bool.not_eq_true, decide_eq_true_eq, decide_eq_false_iff_not, Bool.not_eq_true', Bool.not_eq_false', ax_lle, ax_llt, ax_lel, ax_ltl, ax_leq, ax_eql, ax_clampl, ax_inb_iff, nI_clamp, nI_1, nI_leI, nI_ltI, nI_eq, ax_b0, ax_b1, ax_bitb, ax_ui_eq, ax_ui_ne, true_and, and_true]
  refine ⟨fun q => ?_, fun q => ?_⟩
  · rw [if_neg q] at hK; exact hK
  · rw [if_pos q] at hK; exact hK
/-- an option tried: a THING, or SILENCE -/
def sw_op (T : Nat) (kd : Nat → Nat) (G : sw_G) (x w : Nat) : sw_G := if w = T then G else sw_ws kd G x w
theorem sw_GI.op {N T : Nat} {G : sw_G} (h : sw_GI N T G) (hN : N ≤ 6) (hT : T ≤ 6) {kd : Nat → Nat} {x w : Nat} (hx : x < N) (hw : w ≤ T) : sw_GI N T (sw_op T kd G x w) := by
  unfold sw_op
  by_cases e : w = T
  · rw [if_pos e]; exact h
  · rw [if_neg e]; exact h.wish hN hT hx (by omega)
theorem ra_option {d k x w N T : Nat} {kd : Nat → Nat} {tl un : Nat → Int32} {W : Nat → Nat → Nat} {G : sw_G} {I : ax_I} {L : ax_J} {K : ax_I → ax_J → Prop} (hR : sw_RA I N T kd tl un W k G) (hg : sw_TG N T kd tl un) (hk : k < 9) (hx : x < N) (hw : w ≤ T) (hK : ∀ I', sw_RA I' N T kd tl un W (k + 1) (sw_op T kd G x w) → sw_LO k I I' → ax_FR 199 199 I I' → K I' L) : ax_CV (d + 4) 215 [ax_vr 9 0 184, ax_vi (nI k), ax_vi (nI x), ax_vi (nI (if w = T then 9 else w))] I L K := by
  unfold sw_op at hK
  by_cases e : w = T
  · rw [if_pos e] at hK ⊢
    exact ra_tries9 hR hk hK
  · rw [if_neg e] at hK ⊢
    exact ra_tries hR hg hk hx (by omega) hK
theorem rf_sureFrom {N T own : Nat} {kd : Nat → Nat} {tl un : Nat → Int32} {W : Nat → Nat → Nat} (hg : sw_TG N T kd tl un) (hW : ∀ x w, W x w ≤ 9) (hown : own < N) {L : ax_J} : ∀ (n : Nat) {d k who : Nat} {G : sw_G} {I : ax_I} {K : Int32 → ax_I → ax_J → Prop}, k + n ≤ 5 → sw_RA I N T kd tl un W k G → sw_GI N T G → who < N → (∀ I', sw_LO k I I' → ax_FR 199 199 I I' → K (nI (sw_su N T kd W un own n G who)) I' L) → ax_CI (d + n + 5) 219 [ax_vr 9 0 184, ax_vi (nI k), ax_vi (nI who), ax_vi (nI own), ax_vi (nI (k + n))] I L K := by
  have hT := hg.2.1
  have hN := hg.1
  intro n
  induction n with
  | zero =>
    intro d k who G I K hk hR hG hwho hK
    apply vc_X9_sureFrom
    simp (disch := omega) only [Bool.not_eq_false, Bool.not_eq_true, decide_eq_true_eq, decide_eq_false_iff_not, Bool.not_eq_true', Bool.not_eq_false', ax_lle, ax_llt, ax_lel, ax_ltl, ax_leq, ax_eql, ax_clampl, ax_inb_iff, nI_clamp, nI_1, nI_leI, nI_ltI, nI_eq, ax_b0, ax_b1, ax_bitb, ax_ui_eq, ax_ui_ne, true_and, and_true]
    refine ⟨fun h => absurd rfl h, fun _ => ?_⟩
    exact rf_gainOf hR.1 hT hR.2 hG (by omega) (by omega) (hK I sw_LO.refl ax_FR.refl)
  | succ n ih0 =>
    intro d k who G I K hk hR hG hwho hK
    apply vc_X9_sureFrom
    simp (disch := omega) only [Bool.not_eq_false, Bool.not_eq_true, decide_eq_true_eq, decide_eq_false_iff_not, Bool.not_eq_true', Bool.not_eq_false', ax_lle, ax_llt, ax_lel, ax_ltl, ax_leq, ax_eql, ax_clampl, ax_inb_iff, nI_clamp, nI_1, nI_leI, nI_ltI, nI_eq, ax_b0, ax_b1, ax_bitb, ax_ui_eq, ax_ui_ne, true_and, and_true]
    refine ⟨fun _ => ?_, fun h => by omega⟩
    have hsu : ∀ G who, sw_su N T kd W un own n G who ≤ 54 := fun G who => sw_su_le hW n G who
    suffices ∀ (j w : Nat) (b : Int32) (I1 : ax_I) (z7 : Option ax_V), w + j = T + 1 → ((w = 0 ∧ b = -9) ∨ (0 < w ∧ w ≤ T ∧ ∃ a, a ≤ 54 ∧ b = nI a ∧ sw_mm own who a (sw_su N T kd W un own n G (sw_nx N who)) = ax_it (fun w a => sw_mm own who a (sw_su N T kd W un own n (sw_ws kd G who w) (sw_nx N who))) w 0 (sw_su N T kd W un own n G (sw_nx N who))) ∨ (w = T + 1 ∧ b = nI (sw_su N T kd W un own (n + 1) G who))) → sw_LO k I I1 → ax_FR 199 199 I I1 → ax_AK ((d + n + 5)) 219 (20, [some (ax_vr 9 0 184), some (ax_vi (nI k)), some (ax_vi (nI who)), some (ax_vi (nI own)), some (ax_vi (nI (k + (n + 1)))), some (ax_vi b), some (ax_vi (nI w)), z7], [], ax_mm I1 L) (ax_ki K) from
      this (T + 1) 0 (-9) I none (by omega) (.inl ⟨rfl, rfl⟩) sw_LO.refl ax_FR.refl
    intro j
    induction j with
    | zero =>
      intro w b I1 z7 hw hi hl hf
      have hR1 := hR.keep hl hf
      apply vc_X9_sureFrom_20
      rw [hR1.1.2.1]
      simp (disch := omega) only [Bool.not_eq_false, Bool.not_eq_true, decide_eq_true_eq, decide_eq_false_iff_not, Bool.not_eq_true', Bool.not_eq_false', ax_lle, ax_llt, ax_lel, ax_ltl, ax_leq, ax_eql, ax_clampl, ax_inb_iff, nI_clamp, nI_1, nI_leI, nI_ltI, nI_eq, ax_b0, ax_b1, ax_bitb, ax_ui_eq, ax_ui_ne, true_and, and_true]
      refine ⟨fun _ => ?_, fun h => by omega⟩
      rcases hi with ⟨h1, h2⟩ | ⟨h1, h2, h3⟩ | ⟨h1, h2⟩
      · omega
      · omega
      · rw [h2]; exact hK I1 hl hf
    | succ j ih =>
      intro w b I1 z7 hw hi hl hf
      have hR1 := hR.keep hl hf
      apply vc_X9_sureFrom_20
      rw [hR1.1.2.1]
      simp (disch := omega) only [Bool.not_eq_false, Bool.not_eq_true, decide_eq_true_eq, decide_eq_false_iff_not, Bool.not_eq_true', Bool.not_eq_false', ax_lle, ax_llt, ax_lel, ax_ltl, ax_leq, ax_eql, ax_clampl, ax_inb_iff, nI_clamp, nI_1, nI_leI, nI_ltI, nI_eq, ax_b0, ax_b1, ax_bitb, ax_ui_eq, ax_ui_ne, true_and, and_true]
      refine ⟨fun h => by omega, fun _ => ?_⟩
      refine rf_optionAt hR1.1 hT (by omega) ?_
      refine ra_option hR1 hg (by omega) hwho (by omega) (fun I2 r2 l2 f2 => ?_)
      rw [r2.1.1]
      simp (disch := omega) only [Bool.not_eq_false, Bool.not_eq_true, decide_eq_true_eq, decide_eq_false_iff_not, Bool.not_eq_true', Bool.not_eq_false', ax_lle, ax_llt, ax_lel, ax_ltl, ax_leq, ax_eql, ax_clampl, ax_inb_iff, nI_clamp, nI_1, nI_leI, nI_ltI, nI_eq, ax_b0, ax_b1, ax_bitb, ax_ui_eq, ax_ui_ne, true_and, and_true, ax_nI_mod, sw_nx_mod]
      refine ⟨by omega, ?_⟩
      have ek : k + (n + 1) = (k + 1) + n := by omega
      rw [ek]
      refine ih0 (by omega) r2 (hG.op hN hT hwho (by omega)) (sw_nx_lt hwho) (fun I3 l3 f3 => ?_)
      rw [← ek]
      have hl3 : sw_LO k I I3 := (hl.trans l2).trans (l3.low (by omega))
      have hf3 : ax_FR 199 199 I I3 := (hf.trans f2).trans f3
      have hv := hsu (sw_op T kd G who w) (sw_nx N who)
      /- what the next best is -/
      have nxt : ∀ c : Nat, c ≤ 54 → (w = 0 → c = sw_su N T kd W un own n (sw_op T kd G who w) (sw_nx N who)) → (∀ a, b = nI a → a ≤ 54 → c = sw_mm own who a (sw_su N T kd W un own n (sw_op T kd G who w) (sw_nx N who))) → ((w + 1 = 0 ∧ nI c = -9) ∨ (0 < w + 1 ∧ w + 1 ≤ T ∧ ∃ a, a ≤ 54 ∧ nI c = nI a ∧ sw_mm own who a (sw_su N T kd W un own n G (sw_nx N who)) = ax_it (fun w a => sw_mm own who a (sw_su N T kd W un own n (sw_ws kd G who w) (sw_nx N who))) (w + 1) 0 (sw_su N T kd W un own n G (sw_nx N who))) ∨ (w + 1 = T + 1 ∧ nI c = nI (sw_su N T kd W un own (n + 1) G who))) := by
        intro c hc h0 h1
        by_cases e : w = T
        · refine .inr (.inr ⟨by omega, ?_⟩)
          have eop : sw_op T kd G who w = G := by unfold sw_op; rw [if_pos e]
          rw [eop] at h0 h1
          congr 1
          show c = ax_it _ T 0 _
          rcases hi with ⟨q1, q2⟩ | ⟨q1, q2, a, q3, q4, q5⟩ | ⟨q1, q2⟩
          · rw [h0 q1, ← e, q1]; rfl
          · rw [h1 a q4 q3, q5, e]
          · omega
        · have eop : sw_op T kd G who w = sw_ws kd G who w := by unfold sw_op; rw [if_neg e]
          rw [eop] at h0 h1
          refine .inr (.inl ⟨by omega, by omega, c, hc, rfl, ?_⟩)
          rw [ax_it_succ, Nat.zero_add]
          rcases hi with ⟨q1, q2⟩ | ⟨q1, q2, a, q3, q4, q5⟩ | ⟨q1, q2⟩
          · rw [h0 q1, q1, sw_mm_ab]; rfl
          · rw [h1 a q4 q3, sw_mm_abc, q5]
          · omega
      rcases hi with ⟨q1, q2⟩ | ⟨q1, q2, a, q3, q4, q5⟩ | ⟨q1, q2⟩
      · subst q2
        refine ⟨fun _ => ?_, fun h => absurd rfl h⟩
        refine ih _ _ I3 _ (by omega) (nxt _ hv (fun _ => rfl) (fun a ha hb => absurd ha (ax_9ne (by omega)))) hl3 hf3
      · subst q4
        refine ⟨fun h => absurd h (ax_ne9 (by omega)), fun _ => ⟨fun h => ?_, fun h => ?_⟩⟩
        · simp (disch := omega) only [Bool.not_eq_false, Bool.not_eq_true, decide_eq_true_eq, decide_eq_false_iff_not, Bool.not_eq_true', Bool.not_eq_false', ax_lle, ax_llt, ax_lel, ax_ltl, ax_leq, ax_eql, ax_clampl, ax_inb_iff, nI_clamp, nI_1, nI_leI, nI_ltI, nI_eq, ax_b0, ax_b1, ax_bitb, ax_ui_eq, ax_ui_ne, true_and, and_true]
          refine ⟨fun z => ?_, fun z => ?_⟩
          · refine ih _ _ I3 _ (by omega) (nxt a q3 (fun e => by omega) (fun a' ha hb => ?_)) hl3 hf3
            rw [nI_eq (by omega) (by omega)] at ha
            rw [← ha]; unfold sw_mm; rw [if_neg h, if_neg (by omega)]
          · refine ih _ _ I3 _ (by omega) (nxt _ hv (fun e => by omega) (fun a' ha hb => ?_)) hl3 hf3
            rw [nI_eq (by omega) (by omega)] at ha
            rw [← ha]; unfold sw_mm; rw [if_neg h, if_pos (by omega)]
        · simp (disch := omega) only [Bool.not_eq_false, Bool.not_eq_true, decide_eq_true_eq, decide_eq_false_iff_not, Bool.not_eq_true', Bool.not_eq_false', ax_lle, ax_llt, ax_lel, ax_ltl, ax_leq, ax_eql, ax_clampl, ax_inb_iff, nI_clamp, nI_1, nI_leI, nI_ltI, nI_eq, ax_b0, ax_b1, ax_bitb, ax_ui_eq, ax_ui_ne, true_and, and_true]
          refine ⟨fun z => ?_, fun z => ?_⟩
          · refine ih _ _ I3 _ (by omega) (nxt a q3 (fun e => by omega) (fun a' ha hb => ?_)) hl3 hf3
            rw [nI_eq (by omega) (by omega)] at ha
            rw [← ha]; unfold sw_mm; rw [if_pos h, if_neg (by omega)]
          · refine ih _ _ I3 _ (by omega) (nxt _ hv (fun e => by omega) (fun a' ha hb => ?_)) hl3 hf3
            rw [nI_eq (by omega) (by omega)] at ha
            rw [← ha]; unfold sw_mm; rw [if_pos h, if_pos (by omega)]
      · omega
theorem rf_bestLoop {d x N T : Nat} {kd : Nat → Nat} {tl un : Nat → Int32} {W : Nat → Nat → Nat} {G : sw_G} {I : ax_I} {L : ax_J} {K : Int32 → ax_I → ax_J → Prop} (hR : sw_RA I N T kd tl un W 0 G) (hg : sw_TG N T kd tl un) (hG : sw_GI N T G) (hW : ∀ x w, W x w ≤ 9) (hx : x < N) (hK : ∀ I', sw_LO 0 I I' → ax_FR 199 199 I I' → K (nI (sw_be T kd W un G x).1) (ax_ui I' 184 2 (nI (sw_be T kd W un G x).2)) L) : ax_AK ((d + 3)) 213 (23, [some (ax_vr 9 0 184), some (ax_vi (nI x)), some (ax_vi 9), some (ax_vi (nI (sw_gn W un G x))), some (ax_vi 0), none], [], ax_mm I L) (ax_ki K) := by
  have hT := hg.2.1
  have hN := hg.1
  suffices ∀ (n w : Nat) (a : Nat × Nat) (I1 : ax_I) (z5 : Option ax_V), w + n = T → a.2 ≤ 54 → sw_LO 0 I I1 → ax_FR 199 199 I I1 → (∀ I', sw_LO 0 I I' → ax_FR 199 199 I I' → K (nI (ax_it (fun w a => if a.2 < sw_gn W un (sw_ws kd G x w) x then (w, sw_gn W un (sw_ws kd G x w) x) else a) n w a).1) (ax_ui I' 184 2 (nI (ax_it (fun w a => if a.2 < sw_gn W un (sw_ws kd G x w) x then (w, sw_gn W un (sw_ws kd G x w) x) else a) n w a).2)) L) → ax_AK ((d + 3)) 213 (23, [some (ax_vr 9 0 184), some (ax_vi (nI x)), some (ax_vi (nI a.1)), some (ax_vi (nI a.2)), some (ax_vi (nI w)), z5], [], ax_mm I1 L) (ax_ki K) from
    this T 0 (9, sw_gn W un G x) I none (by omega) (sw_gn_le hW) sw_LO.refl ax_FR.refl hK
  intro n
  induction n with
  | zero =>
    intro w a I1 z5 hw ha hl hf hK
    have hR1 := hR.keep hl hf
    apply vc_X9_best_23
    rw [hR1.1.2.1]
    simp (disch := omega) only [Bool.not_eq_false, Bool.not_eq_true, decide_eq_true_eq, decide_eq_false_iff_not, Bool.not_eq_true', Bool.not_eq_false', ax_lle, ax_llt, ax_lel, ax_ltl, ax_leq, ax_eql, ax_clampl, ax_inb_iff, nI_clamp, nI_1, nI_leI, nI_ltI, nI_eq, ax_b0, ax_b1, ax_bitb, ax_ui_eq, ax_ui_ne, true_and, and_true]
    refine ⟨fun _ => ?_, fun h => by omega⟩
    apply vc_X9_tells
    exact hK I1 hl hf
  | succ n ih =>
    intro w a I1 z5 hw ha hl hf hK
    have hR1 := hR.keep hl hf
    apply vc_X9_best_23
    rw [hR1.1.2.1]
    simp (disch := omega) only [Bool.not_eq_false, Bool.not_eq_true, decide_eq_true_eq, decide_eq_false_iff_not, Bool.not_eq_true', Bool.not_eq_false', ax_lle, ax_llt, ax_lel, ax_ltl, ax_leq, ax_eql, ax_clampl, ax_inb_iff, nI_clamp, nI_1, nI_leI, nI_ltI, nI_eq, ax_b0, ax_b1, ax_bitb, ax_ui_eq, ax_ui_ne, true_and, and_true]
    refine ⟨fun h => by omega, fun _ => ?_⟩
    have hG1 := hG.wish hN hT (kd := kd) hx (show w < T by omega)
    refine rf_copyTo (k := 0) (k' := 1) (by omega) (by omega) (by omega) (fun I2 c2 o2 f2 => ?_)
    have hF2 : sw_FG (sw_fr I2 1) G := hR1.2.same c2
    refine rf_says (k := 1) (hR1.1.f199 f2) hg hF2 (by omega) hx (by omega) (fun I3 c3 o3 f3 => ?_)
    have hF3 := hF2.wish hg.1 (show w < 6 by omega) c3
    refine rf_gainOf (k := 1) ((hR1.1.f199 f2).f199 f3) hT hF3 hG1 (by omega) (by omega) ?_
    have hb := sw_gn_le (un := un) (G := sw_ws kd G x w) (x := x) hW
    have hl3 : sw_LO 0 I I3 := (hl.trans (sw_FO.lo (k := 0) o2)).trans (sw_FO.lo (k := 0) o3)
    have hf3 : ax_FR 199 199 I I3 := (hf.trans f2).trans f3
    replace hK : ∀ I', sw_LO 0 I I' → ax_FR 199 199 I I' → K (nI (ax_it (fun w a => if a.2 < sw_gn W un (sw_ws kd G x w) x then (w, sw_gn W un (sw_ws kd G x w) x) else a) n (w + 1) (if a.2 < sw_gn W un (sw_ws kd G x w) x then (w, sw_gn W un (sw_ws kd G x w) x) else a)).1) (ax_ui I' 184 2 (nI (ax_it (fun w a => if a.2 < sw_gn W un (sw_ws kd G x w) x then (w, sw_gn W un (sw_ws kd G x w) x) else a) n (w + 1) (if a.2 < sw_gn W un (sw_ws kd G x w) x then (w, sw_gn W un (sw_ws kd G x w) x) else a)).2)) L := hK
    simp (disch := omega) only [Bool.not_eq_false, Bool.not_eq_true, decide_eq_true_eq, decide_eq_false_iff_not, Bool.not_eq_true', Bool.not_eq_false', ax_lle, ax_llt, ax_lel, ax_ltl, ax_leq, ax_eql, ax_clampl, ax_inb_iff, nI_clamp, nI_1, nI_leI, nI_ltI, nI_eq, ax_b0, ax_b1, ax_bitb, ax_ui_eq, ax_ui_ne, true_and, and_true]
    refine ⟨fun q => ⟨fun _ => ?_, fun q2 => absurd q q2⟩, fun q => ⟨fun q2 => absurd q2 q, fun _ => ?_⟩⟩
    · rw [if_neg (by omega)] at hK
      exact ih _ a I3 _ (by omega) ha hl3 hf3 hK
    · rw [if_pos (by omega)] at hK
      exact ih _ (w, sw_gn W un (sw_ws kd G x w) x) I3 _ (by omega) hb hl3 hf3 hK
