/-! needs: 21a 21b 21c 21d 21e 30 31 32 33 34 35 41 42 43 44 45 46 47 48 -/
/-- the reference's lines and gains of a depth -/
def sw_LP (I : ax_I) (N k n who : Nat) (r : sw_L) : Prop := (∀ i, i < n → I 208 (6 * k + i) = nI (10 * sw_who N who i + sw_nth r.2 i)) ∧ (∀ y, y < N → I 209 (6 * k + y) = nI (r.1 y))
/-- frames up to k, lines and gains below k, all other cells are as they were -/
def sw_LB (k : Nat) (I I' : ax_I) : Prop := sw_LO k I I' ∧ (∀ b, b < 6 * k → I' 208 b = I 208 b) ∧ (∀ b, b < 6 * k → I' 209 b = I 209 b) ∧ (∀ a, ¬ a = 199 → ¬ a = 208 → ¬ a = 209 → I' a = I a)
theorem sw_LB.refl {k : Nat} {I : ax_I} : sw_LB k I I := ⟨sw_LO.refl, fun _ _ => rfl, fun _ _ => rfl, fun _ _ _ _ => rfl⟩
theorem sw_LB.trans {k : Nat} {I I1 I2 : ax_I} (h1 : sw_LB k I I1) (h2 : sw_LB k I1 I2) : sw_LB k I I2 := ⟨h1.1.trans h2.1, fun b h => (h2.2.1 b h).trans (h1.2.1 b h), fun b h => (h2.2.2.1 b h).trans (h1.2.2.1 b h), fun a q1 q2 q3 => (h2.2.2.2 a q1 q2 q3).trans (h1.2.2.2 a q1 q2 q3)⟩
theorem sw_LB.low {k k' : Nat} {I I' : ax_I} (h : sw_LB k I I') (hk : k' ≤ k) : sw_LB k' I I' := ⟨h.1.low hk, fun b q => h.2.1 b (by omega), fun b q => h.2.2.1 b (by omega), h.2.2.2⟩
theorem sw_LO.lb {k : Nat} {I I' : ax_I} (h : sw_LO k I I') (hf : ax_FR 199 199 I I') : sw_LB k I I' := ⟨h, fun b _ => by rw [hf 208 (by omega)], fun b _ => by rw [hf 209 (by omega)], fun a q1 _ _ => hf a (by omega)⟩
theorem sw_RA.lb {I I' : ax_I} {N T k : Nat} {kd : Nat → Nat} {tl un : Nat → Int32} {W : Nat → Nat → Nat} {G : sw_G} (h : sw_RA I N T kd tl un W k G) (hl : sw_LB k I I') : sw_RA I' N T kd tl un W k G := by
  obtain ⟨l1, l2, l3, l4⟩ := hl
  exact ⟨h.1.frame (by rw [l4 _ (by omega) (by omega) (by omega)]) (by rw [l4 _ (by omega) (by omega) (by omega)]) (l4 _ (by omega) (by omega) (by omega)) (l4 _ (by omega) (by omega) (by omega)) (l4 _ (by omega) (by omega) (by omega)) (l4 _ (by omega) (by omega) (by omega)), h.2.same (fun j hj => l1 _ (by omega))⟩
theorem rf_layGains {d k N T : Nat} {kd : Nat → Nat} {tl un : Nat → Int32} {W : Nat → Nat → Nat} {G : sw_G} {I : ax_I} {L : ax_J} {K : ax_I → ax_J → Prop} (hR : sw_RA I N T kd tl un W k G) (hg : sw_TG N T kd tl un) (hG : sw_GI N T G) (hk : k ≤ 5) (hK : ∀ I', (∀ y, y < N → I' 209 (6 * k + y) = nI (sw_gn W un G y)) → sw_LB k I I' → K I' L) : ax_CV (d + 4) 216 [ax_vr 9 0 184, ax_vi (nI k)] I L K := by
  have hT := hg.2.1
  have hN := hg.1
  apply vc_X9_layGains
  suffices ∀ (n w : Nat) (I1 : ax_I), w + n = N → (∀ y, y < w → I1 209 (6 * k + y) = nI (sw_gn W un G y)) → sw_LB k I I1 → ax_AK ((d + 3)) 216 (2, [some (ax_vr 9 0 184), some (ax_vi (nI k)), some (ax_vi (nI w))], [], ax_mm I1 L) (ax_kv K) from this N 0 I (by omega) (fun y hy => by omega) sw_LB.refl
  intro n
  induction n with
  | zero =>
    intro w I1 hw h1 h2
    apply vc_X9_layGains_2
    rw [(hR.lb h2).1.1]
    simp (disch := omega) only [Bool.not_eq_false, Bool.not_eq_true, decide_eq_true_eq, decide_eq_false_iff_not, Bool.not_eq_true', Bool.not_eq_false', ax_lle, ax_llt, ax_lel, ax_ltl, ax_leq, ax_eql, ax_clampl, ax_inb_iff, nI_clamp, nI_1, nI_leI, nI_ltI, nI_eq, ax_b0, ax_b1, ax_bitb, ax_ui_eq, ax_ui_ne, true_and, and_true]
    exact ⟨fun _ => hK I1 (fun y hy => h1 y (by omega)) h2, fun h => by omega⟩
  | succ n ih =>
    intro w I1 hw h1 h2
    have hR1 := hR.lb h2
    apply vc_X9_layGains_2
    rw [hR1.1.1]
    simp (disch := omega) only [Bool.not_eq_false, Bool.not_eq_true, decide_eq_true_eq, decide_eq_false_iff_not, Bool.not_eq_true', Bool.not_eq_false', ax_lle, ax_llt, ax_lel, ax_ltl, ax_leq, ax_eql, ax_clampl, ax_inb_iff, nI_clamp, nI_1, nI_leI, nI_ltI, nI_eq, ax_b0, ax_b1, ax_bitb, ax_ui_eq, ax_ui_ne, true_and, and_true, ax_lmul, nI_add]
    refine ⟨fun h => by omega, fun _ => ?_⟩
    refine rf_gainOf hR1.1 hT hR1.2 hG (by omega) (by omega) ?_
    refine ⟨by omega, ih _ _ (by omega) ?_ (h2.trans ⟨fun b _ => ax_ui_ne (by omega), fun b _ => ax_ui_ne (by omega), fun b _ => ax_ui_ne (by omega), fun a _ _ q => ax_ui_row q⟩)⟩
    intro y hy
    by_cases q : y = w
    · subst q; exact ax_ui_eq
    · rw [ax_ui_ne (by omega)]; exact h1 y (by omega)
theorem rf_layPlays {N T : Nat} {kd : Nat → Nat} {tl un : Nat → Int32} {W : Nat → Nat → Nat} (hg : sw_TG N T kd tl un) (hW : ∀ x w, W x w ≤ 9) {L : ax_J} : ∀ (n : Nat) {d k who : Nat} {G : sw_G} {I : ax_I} {K : ax_I → ax_J → Prop}, k + n ≤ 5 → sw_RA I N T kd tl un W k G → sw_GI N T G → who < N → (∀ I', sw_LP I' N k n who (sw_pl N T kd W un n G who) → sw_LB k I I' → K I' L) → ax_CV (d + n + 5) 217 [ax_vr 9 0 184, ax_vi (nI k), ax_vi (nI who), ax_vi (nI (k + n))] I L K := by
  have hT := hg.2.1
  have hN := hg.1
  intro n
  induction n with
  | zero =>
    intro d k who G I K hk hR hG hwho hK
    apply vc_X9_layPlays
    simp (disch := omega) only [Bool.not_eq_false, Bool.not_eq_true, decide_eq_true_eq, decide_eq_false_iff_not, Bool.not_eq_true', Bool.not_eq_false', ax_lle, ax_llt, ax_lel, ax_ltl, ax_leq, ax_eql, ax_clampl, ax_inb_iff, nI_clamp, nI_1, nI_leI, nI_ltI, nI_eq, ax_b0, ax_b1, ax_bitb, ax_ui_eq, ax_ui_ne, true_and, and_true]
    refine ⟨fun h => absurd rfl h, fun _ => ?_⟩
    exact rf_layGains hR hg hG (by omega) (fun I' h1 h2 => hK I' ⟨fun i hi => by omega, h1⟩ h2)
  | succ n ih0 =>
    intro d k who G I K hk hR hG hwho hK
    have hok := fun G who => sw_pl_ok (N := N) (T := T) (kd := kd) (un := un) hW hT n G who
    apply vc_X9_layPlays
    simp (disch := omega) only [Bool.not_eq_false, Bool.not_eq_true, decide_eq_true_eq, decide_eq_false_iff_not, Bool.not_eq_true', Bool.not_eq_false', ax_lle, ax_llt, ax_lel, ax_ltl, ax_leq, ax_eql, ax_clampl, ax_inb_iff, nI_clamp, nI_1, nI_leI, nI_ltI, nI_eq, ax_b0, ax_b1, ax_bitb, ax_ui_eq, ax_ui_ne, true_and, and_true]
    refine ⟨fun _ => ?_, fun h => by omega⟩
    suffices ∀ (j w : Nat) (a : Nat × sw_L) (b : Int32) (I1 : ax_I) (z6 z7 : Option ax_V), w + j = T + 1 → a.1 ≤ 55 → b = nI a.1 - 1 → (0 < a.1 → sw_LP I1 N k (n + 1) who a.2) → (w = 0 ∨ 0 < a.1) → sw_LB k I I1 → (∀ I', sw_LP I' N k (n + 1) who (ax_it (fun k a => sw_ps who (sw_wd T k) (sw_pl N T kd W un n (sw_op T kd G who k) (sw_nx N who)) a) j w a).2 → sw_LB k I I' → K I' L) → ax_AK ((d + n + 5)) 217 (17, [some (ax_vr 9 0 184), some (ax_vi (nI k)), some (ax_vi (nI who)), some (ax_vi (nI (k + (n + 1)))), some (ax_vi b), some (ax_vi (nI w)), z6, z7], [], ax_mm I1 L) (ax_kv K) from
      this (T + 1) 0 (0, (fun _ => 0), []) (-1) I none none (by omega) (Nat.zero_le _) (by decide) (fun q => by cases q) (.inl rfl) sw_LB.refl hK
    intro j
    induction j with
    | zero =>
      intro w a b I1 z6 z7 hw ha hb hp h0 hl hK
      apply vc_X9_layPlays_17
      rw [(hR.lb hl).1.2.1]
      simp (disch := omega) only [Bool.not_eq_false, Bool.not_eq_true, decide_eq_true_eq, decide_eq_false_iff_not, Bool.not_eq_true', Bool.not_eq_false', ax_lle, ax_llt, ax_lel, ax_ltl, ax_leq, ax_eql, ax_clampl, ax_inb_iff, nI_clamp, nI_1, nI_leI, nI_ltI, nI_eq, ax_b0, ax_b1, ax_bitb, ax_ui_eq, ax_ui_ne, true_and, and_true]
      exact ⟨fun _ => hK I1 (hp (by omega)) hl, fun h => by omega⟩
    | succ j ih =>
      intro w a b I1 z6 z7 hw ha hb hp h0 hl hK
      have hR1 := hR.lb hl
      apply vc_X9_layPlays_17
      rw [hR1.1.2.1, hb]
      simp (disch := omega) only [Bool.not_eq_false, Bool.not_eq_true, decide_eq_true_eq, decide_eq_false_iff_not, Bool.not_eq_true', Bool.not_eq_false', ax_lle, ax_llt, ax_lel, ax_ltl, ax_leq, ax_eql, ax_clampl, ax_inb_iff, nI_clamp, nI_1, nI_leI, nI_ltI, nI_eq, ax_b0, ax_b1, ax_bitb, ax_ui_eq, ax_ui_ne, true_and, and_true]
      refine ⟨fun h => by omega, fun _ => ?_⟩
      refine rf_optionAt hR1.1 hT (by omega) ?_
      refine ra_option hR1 hg (by omega) hwho (by omega) (fun I2 r2 l2 f2 => ?_)
      rw [r2.1.1]
      simp (disch := omega) only [Bool.not_eq_false, Bool.not_eq_true, decide_eq_true_eq, decide_eq_false_iff_not, Bool.not_eq_true', Bool.not_eq_false', ax_lle, ax_llt, ax_lel, ax_ltl, ax_leq, ax_eql, ax_clampl, ax_inb_iff, nI_clamp, nI_1, nI_leI, nI_ltI, nI_eq, ax_b0, ax_b1, ax_bitb, ax_ui_eq, ax_ui_ne, true_and, and_true, ax_nI_mod, sw_nx_mod]
      refine ⟨by omega, ?_⟩
      have ek : k + (n + 1) = (k + 1) + n := by omega
      rw [ek]
      refine ih0 (by omega) r2 (hG.op hN hT hwho (by omega)) (sw_nx_lt hwho) (fun I3 p3 l3 => ?_)
      rw [← ek]
      obtain ⟨hr, hrl⟩ := hok (sw_op T kd G who w) (sw_nx N who)
      have hrw := hr.1 who
      have e209 := p3.2 who hwho
      have hl3 : sw_LB k I I3 := (hl.trans (l2.lb f2)).trans (l3.low (by omega))
      have hw9 : (if w = T then 9 else w) ≤ 9 := by split <;> omega
      simp (disch := omega) only [Bool.not_eq_false, Bool.not_eq_true, decide_eq_true_eq, decide_eq_false_iff_not, Bool.not_eq_true', Bool.not_eq_false', ax_lle, ax_llt, ax_lel, ax_ltl, ax_leq, ax_eql, ax_clampl, ax_inb_iff, nI_clamp, nI_1, nI_leI, nI_ltI, nI_eq, ax_b0, ax_b1, ax_bitb, ax_ui_eq, ax_ui_ne, true_and, and_true, ax_lmul, nI_add, e209]
      rw [ax_le_pred (by omega) (by omega)]
      refine ⟨by omega, fun q => ?_, fun q => ?_⟩
      · /- not better: what stood at this depth stands -/
        have e : sw_ps who (sw_wd T w) (sw_pl N T kd W un n (sw_op T kd G who w) (sw_nx N who)) a = a := if_neg (by omega)
        refine ih _ a _ I3 _ _ (by omega) ha rfl (fun q2 => ?_) (.inr (by omega)) hl3 (fun I' h1 h2 => hK I' ?_ h2)
        · have := hp q2
          refine ⟨fun i hi => ?_, fun y hy => ?_⟩
          · rw [l3.2.1 _ (by omega), f2 208 (by omega)]; exact this.1 i hi
          · rw [l3.2.2.1 _ (by omega), f2 209 (by omega)]; exact this.2 y hy
        · show sw_LP I' N k (n + 1) who (ax_it _ j (w + 1) (sw_ps who (sw_wd T w) (sw_pl N T kd W un n (sw_op T kd G who w) (sw_nx N who)) a)).2
          rw [e]; exact h1
      · have e : sw_ps who (sw_wd T w) (sw_pl N T kd W un n (sw_op T kd G who w) (sw_nx N who)) a = ((sw_pl N T kd W un n (sw_op T kd G who w) (sw_nx N who)).1 who + 1, (sw_pl N T kd W un n (sw_op T kd G who w) (sw_nx N who)).1, sw_wd T w :: (sw_pl N T kd W un n (sw_op T kd G who w) (sw_nx N who)).2) := if_pos (by omega)
        have hR3 := hR.lb hl3
        refine rf_optionAt hR3.1 hT (by omega) ?_
        refine ⟨by omega, ?_⟩
        simp (disch := omega) only [Bool.not_eq_false, Bool.not_eq_true, decide_eq_true_eq, decide_eq_false_iff_not, Bool.not_eq_true', Bool.not_eq_false', ax_lle, ax_llt, ax_lel, ax_ltl, ax_leq, ax_eql, ax_clampl, ax_inb_iff, nI_clamp, nI_1, nI_leI, nI_ltI, nI_eq, ax_b0, ax_b1, ax_bitb, ax_ui_eq, ax_ui_ne, true_and, and_true, nI_add]
        /- the line is copied -/
        suffices ∀ (m i : Nat) (I4 : ax_I) (z6 : Option ax_V), i + m = n + 1 → 1 ≤ i → (∀ c, c < i → I4 208 (6 * k + c) = nI (10 * sw_who N who c + sw_nth (sw_wd T w :: (sw_pl N T kd W un n (sw_op T kd G who w) (sw_nx N who)).2) c)) → (∀ b, b < 6 * k ∨ 6 * (k + 1) ≤ b → I4 208 b = I3 208 b) → ax_FR 208 208 I3 I4 → ax_AK ((d + n + 5)) 217 (103, [some (ax_vr 9 0 184), some (ax_vi (nI k)), some (ax_vi (nI who)), some (ax_vi (nI (k + (n + 1)))), some (ax_vi (nI ((sw_pl N T kd W un n (sw_op T kd G who w) (sw_nx N who)).1 who))), some (ax_vi (nI w)), z6, some (ax_vi (nI i))], [], ax_mm I4 L) (ax_kv K) by
          refine this n 1 _ _ (by omega) (by omega) ?_ ?_ (ax_FR.refl.ui (by omega) (by omega))
          · intro c hc
            have : c = 0 := by omega
            subst this
            rw [Nat.add_zero, ax_ui_eq]; rfl
          · intro b hb2; exact ax_ui_ne (by omega)
        intro m
        induction m with
        | zero =>
          intro i I4 z6 hi hi1 h1 h2 h3
          apply vc_X9_layPlays_103
          rw [ax_nI_sub (by omega)]
          simp (disch := omega) only [Bool.not_eq_false, Bool.not_eq_true, decide_eq_true_eq, decide_eq_false_iff_not, Bool.not_eq_true', Bool.not_eq_false', ax_lle, ax_llt, ax_lel, ax_ltl, ax_leq, ax_eql, ax_clampl, ax_inb_iff, nI_clamp, nI_1, nI_leI, nI_ltI, nI_eq, ax_b0, ax_b1, ax_bitb, ax_ui_eq, ax_ui_ne, true_and, and_true]
          refine ⟨fun _ => ?_, fun h => by omega⟩
          suffices ∀ (m y : Nat) (I5 : ax_I) (z6 : Option ax_V), y + m = N → (∀ c, c < y → I5 209 (6 * k + c) = nI ((sw_pl N T kd W un n (sw_op T kd G who w) (sw_nx N who)).1 c)) → (∀ b, b < 6 * k ∨ 6 * (k + 1) ≤ b → I5 209 b = I3 209 b) → ax_FR 209 209 I4 I5 → ax_AK ((d + n + 5)) 217 (148, [some (ax_vr 9 0 184), some (ax_vi (nI k)), some (ax_vi (nI who)), some (ax_vi (nI (k + (n + 1)))), some (ax_vi (nI ((sw_pl N T kd W un n (sw_op T kd G who w) (sw_nx N who)).1 who))), some (ax_vi (nI w)), z6, some (ax_vi (nI y))], [], ax_mm I5 L) (ax_kv K) from
            this N 0 I4 _ (by omega) (fun c hc => by omega) (fun b _ => by rw [h3 209 (by omega)]) ax_FR.refl
          intro m
          induction m with
          | zero =>
            intro y I5 z6 hy g1 g2 g3
            have hlb : sw_LB k I I5 := by
              refine hl3.trans ⟨fun b _ => ?_, fun b q3 => ?_, fun b q3 => ?_, fun a q1 q2 q3 => ?_⟩
              · rw [g3 199 (by omega), h3 199 (by omega)]
              · rw [g3 208 (by omega)]; exact h2 b (.inl q3)
              · exact g2 b (.inl q3)
              · rw [g3 a (by omega)]; exact h3 a (by omega)
            apply vc_X9_layPlays_148
            rw [(hR.lb hlb).1.1]
            simp (disch := omega) only [Bool.not_eq_false, Bool.not_eq_true, decide_eq_true_eq, decide_eq_false_iff_not, Bool.not_eq_true', Bool.not_eq_false', ax_lle, ax_llt, ax_lel, ax_ltl, ax_leq, ax_eql, ax_clampl, ax_inb_iff, nI_clamp, nI_1, nI_leI, nI_ltI, nI_eq, ax_b0, ax_b1, ax_bitb, ax_ui_eq, ax_ui_ne, true_and, and_true]
            refine ⟨fun _ => ?_, fun h => by omega⟩
            refine ih _ ((sw_pl N T kd W un n (sw_op T kd G who w) (sw_nx N who)).1 who + 1, (sw_pl N T kd W un n (sw_op T kd G who w) (sw_nx N who)).1, sw_wd T w :: (sw_pl N T kd W un n (sw_op T kd G who w) (sw_nx N who)).2) _ I5 _ _ (by omega) (by show (sw_pl N T kd W un n (sw_op T kd G who w) (sw_nx N who)).1 who + 1 ≤ 55; omega) ?_ (fun _ => ⟨fun c hc => ?_, fun c hc => g1 c (by omega)⟩) (.inr (Nat.succ_pos _)) hlb (fun I' h1 h2 => hK I' ?_ h2)
            · rw [nI_pred]
            · rw [g3 208 (by omega)]; exact h1 c (by omega)
            · show sw_LP I' N k (n + 1) who (ax_it _ j (w + 1) (sw_ps who (sw_wd T w) (sw_pl N T kd W un n (sw_op T kd G who w) (sw_nx N who)) a)).2
              rw [e]; exact h1
          | succ m ihm2 =>
            intro y I5 z6 hy g1 g2 g3
            have hlb : sw_LB k I I5 := by
              refine hl3.trans ⟨fun b _ => ?_, fun b q3 => ?_, fun b q3 => ?_, fun a q1 q2 q3 => ?_⟩
              · rw [g3 199 (by omega), h3 199 (by omega)]
              · rw [g3 208 (by omega)]; exact h2 b (.inl q3)
              · exact g2 b (.inl q3)
              · rw [g3 a (by omega)]; exact h3 a (by omega)
            apply vc_X9_layPlays_148
            rw [(hR.lb hlb).1.1]
            simp (disch := omega) only [Bool.not_eq_false, Bool.not_eq_true, decide_eq_true_eq, decide_eq_false_iff_not, Bool.not_eq_true', Bool.not_eq_false', ax_lle, ax_llt, ax_lel, ax_ltl, ax_leq, ax_eql, ax_clampl, ax_inb_iff, nI_clamp, nI_1, nI_leI, nI_ltI, nI_eq, ax_b0, ax_b1, ax_bitb, ax_ui_eq, ax_ui_ne, true_and, and_true, ax_lmul, nI_add]
            refine ⟨fun h => by omega, fun _ => ⟨by omega, by omega, ihm2 _ _ _ (by omega) ?_ ?_ (g3.ui (by omega) (by omega))⟩⟩
            · intro c hc
              by_cases z : c = y
              · subst z
                rw [ax_ui_eq, g2 _ (.inr (by omega))]
                exact p3.2 c (by omega)
              · rw [ax_ui_ne (by omega)]; exact g1 c (by omega)
            · intro b hb2
              rw [ax_ui_ne (by omega)]; exact g2 b hb2
        | succ m ihm =>
          intro i I4 z6 hi hi1 h1 h2 h3
          apply vc_X9_layPlays_103
          rw [ax_nI_sub (by omega)]
          simp (disch := omega) only [Bool.not_eq_false, Bool.not_eq_true, decide_eq_true_eq, decide_eq_false_iff_not, Bool.not_eq_true', Bool.not_eq_false', ax_lle, ax_llt, ax_lel, ax_ltl, ax_leq, ax_eql, ax_clampl, ax_inb_iff, nI_clamp, nI_1, nI_leI, nI_ltI, nI_eq, ax_b0, ax_b1, ax_bitb, ax_ui_eq, ax_ui_ne, true_and, and_true, ax_lmul, nI_add, ax_nI_s1]
          refine ⟨fun h => by omega, fun _ => ⟨by omega, by omega, ihm _ _ _ (by omega) (by omega) ?_ ?_ (h3.ui (by omega) (by omega))⟩⟩
          · intro c hc
            by_cases z : c = i
            · subst z
              rw [ax_ui_eq, h2 _ (.inr (by omega))]
              have := p3.1 (c - 1) (by omega)
              rw [show 6 * (k + 1) + (c - 1) = 6 * (k + 1) + c - 1 by omega] at this
              rw [this, sw_who_s, show c - 1 + 1 = c by omega]
              obtain ⟨c', rfl⟩ : ∃ c', c = c' + 1 := ⟨c - 1, by omega⟩
              rfl
            · rw [ax_ui_ne (by omega)]; exact h1 c (by omega)
          · intro b hb2
            rw [ax_ui_ne (by omega)]; exact h2 b hb2
