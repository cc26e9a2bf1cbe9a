/-! needs: 21a 21b 21c 21d 21e 30 31 32 33 34 35 41 42 43 -/
theorem sw_gn_le {W : Nat → Nat → Nat} {un : Nat → Int32} {G : sw_G} {x : Nat} (hW : ∀ x w, W x w ≤ 9) : sw_gn W un G x ≤ 54 := by
  have : ∀ n w a, ax_it (fun w a => if ax_bt (sw_hd un G.2.2) w && decide (G.2.1 w = nI x) then a + W x w else a) n w a ≤ a + 9 * n := by
    intro n
    induction n with
    | zero => intro w a; exact Nat.le_refl _
    | succ n ih =>
      intro w a
      have h := ih (w + 1) (if ax_bt (sw_hd un G.2.2) w && decide (G.2.1 w = nI x) then a + W x w else a)
      have hw := hW x w
      show ax_it _ n (w + 1) (if ax_bt (sw_hd un G.2.2) w && decide (G.2.1 w = nI x) then a + W x w else a) ≤ _
      split at h
      · rename_i q; rw [if_pos q]; omega
      · rename_i q; rw [if_neg q]; omega
  have := this 6 0 0
  unfold sw_gn; omega
theorem ax_nI_mod {a b : Nat} (ha : a < 2 ^ 31) (hb : b < 2 ^ 31) : nI a - nI a / nI b * nI b = nI (a % b) := by
  rw [ax_nI_div ha hb, ax_nI_mul, ax_nI_sub (Nat.div_mul_le_self a b)]
  congr 1
  have := Nat.div_add_mod a b
  rw [Nat.mul_comm] at this
  omega
theorem ax_ite_lt {a b c d : Nat} (ha : a < 2 ^ 31) (hb : b < 2 ^ 31) : (if nI a < nI b then nI c else nI d) = nI (if a < b then c else d) := by
  by_cases h : a < b
  · rw [if_pos h, if_pos ((nI_ltI ha hb).mpr h)]
  · rw [if_neg h, if_neg (fun q => h ((nI_ltI ha hb).mp q))]
theorem sw_nx_mod {N x : Nat} (hx : x < N) : (x + 1) % N = sw_nx N x := by
  unfold sw_nx
  by_cases h : x + 1 < N
  · rw [if_pos h, Nat.mod_eq_of_lt h]
  · have : x + 1 = N := by omega
    rw [if_neg h, this, Nat.mod_self]
theorem sw_nx_lt {N x : Nat} (hx : x < N) : sw_nx N x < N := by
  unfold sw_nx; split <;> omega
theorem sw_gn_ws1 {W : Nat → Nat → Nat} {un : Nat → Int32} {kd : Nat → Nat} {G : sw_G} {x w y : Nat} (h : ¬ sw_out kd G x w = 2) : sw_gn W un (sw_ws kd G x w) y = sw_gn W un G y := by
  have le := sw_out_le (kd := kd) (G := G) (x := x) (w := w)
  by_cases e : sw_out kd G x w = 1
  · rw [(sw_ws_1 e).2]; rfl
  · rw [sw_ws_0 (by omega)]
/-- thinking aside, in the class -/
def sw_CA (I : ax_I) (N T : Nat) (kd : Nat → Nat) (tl un : Nat → Int32) (W : Nat → Nat → Nat) (G : sw_G) : Prop := sw_ST I ∧ sw_TP I 49 N T kd tl un ∧ sw_DA I 53 W G
theorem sw_CA.st {I I' : ax_I} {N T : Nat} {kd : Nat → Nat} {tl un : Nat → Int32} {W : Nat → Nat → Nat} {G G' : sw_G} (h : sw_CA I N T kd tl un W G) (hf : ax_FR 53 67 I I') (hd : sw_DA I' 53 W G') : sw_CA I' N T kd tl un W G' :=
  ⟨h.1.frame (hf _ (by omega)) (hf _ (by omega)), h.2.1.frame (fun a _ _ => hf a (by omega)), hd⟩
theorem ca_wish {d x w N T : Nat} {kd : Nat → Nat} {tl un : Nat → Int32} {W : Nat → Nat → Nat} {G : sw_G} {I : ax_I} {L : ax_J} {K : Int32 → ax_I → ax_J → Prop} (hC : sw_CA I N T kd tl un W G) (hg : sw_TG N T kd tl un) (hG : sw_GI N T G) (hx : x < N) (hw : w < T) (hK : ∀ I', sw_CA I' N T kd tl un W (sw_ws kd G x w) → ax_FR 53 67 I I' → K (nI (sw_out kd G x w)) I' L) : ax_CI (d + 3) 9 [ax_vr 1 0 53, ax_vr 7 0 49, ax_vi (nI x), ax_vi (nI w)] I L K := by
  have hT := hg.2.1
  refine cl_wish hC.1 hC.2.1 hg hC.2.2 hG hx (by omega) ?_
  exact hK _ (hC.st sw_wI_FR (hC.2.2.wish (by omega))) sw_wI_FR
theorem ca_back {d x w N T : Nat} {kd : Nat → Nat} {tl un : Nat → Int32} {W : Nat → Nat → Nat} {G : sw_G} {I : ax_I} {L : ax_J} {K : ax_I → ax_J → Prop} (hC : sw_CA I N T kd tl un W (sw_ws kd G x w)) (hw : w < 6) (hK : ∀ I', sw_CA I' N T kd tl un W G → ax_FR 53 67 I I' → K I' L) : ax_CV (d + 1) 10 [ax_vr 1 0 53, ax_vi (nI w), ax_vi (nI (sw_out kd G x w))] I L K := by
  refine cl_takeBack hw sw_out_le hC.2.2.back6 ?_
  exact hK _ (hC.st sw_tI_FR (hC.2.2.back hw)) sw_tI_FR
theorem ca_gain {d x N T : Nat} {kd : Nat → Nat} {tl un : Nat → Int32} {W : Nat → Nat → Nat} {G : sw_G} {I : ax_I} {L : ax_J} {K : Int32 → ax_I → ax_J → Prop} (hC : sw_CA I N T kd tl un W G) (hT : T ≤ 6) (hG : sw_GI N T G) (hx : x < 6) (hK : K (nI (sw_gn W un G x)) I L) : ax_CI (d + 3) 25 [ax_vr 1 0 53, ax_vr 7 0 49, ax_vi (nI x)] I L K :=
  cl_gainOf hC.2.1 hC.2.2 (fun v hv => by have := hG.2.2.2.1 v hv; omega) hG.len hx hK
/-- the outcome changes GAINS: not so, and all goes on as with SILENCE -/
theorem cl_changesGains {d o n : Nat} {I : ax_I} {L : ax_J} {K : Int32 → ax_I → ax_J → Prop} (ho : o ≤ 2) (hn : n < 100) (hK : K (ax_b (decide (o = 2) || (decide (o = 1) && decide (1 < n)))) I L) : ax_CI (d + 1) 31 [ax_vi (nI o), ax_vi (nI n)] I L K := by
  apply vc_X2_changesGains
  simp (disch := omega) only [Bool.not_eq_false, Bool.not_eq_true, decide_eq_true_eq, decide_eq_false_iff_not, Bool.not_eq_true', Bool.not_eq_false', ax_lle, ax_llt, ax_lel, ax_ltl, ax_leq, ax_eql, ax_clampl, ax_inb_iff, nI_clamp, nI_1, nI_leI, nI_ltI, nI_eq, ax_b0, ax_b1, ax_bitb, ax_ui_eq, ax_ui_ne, true_and, and_true]
  refine ⟨fun h => ⟨by decide, ?_⟩, fun h => ⟨fun h2 => ⟨by decide, ?_⟩, fun h2 => ⟨fun h3 => ⟨by decide, ?_⟩, fun h3 => ⟨by decide, ?_⟩⟩⟩⟩
  · rw [decide_eq_true h] at hK; exact hK
  · rw [decide_eq_false h, decide_eq_false h2] at hK; exact hK
  · rw [decide_eq_false h, decide_eq_true h2, decide_eq_false (by omega)] at hK; exact hK
  · rw [decide_eq_false h, decide_eq_true h2, decide_eq_true (by omega)] at hK; exact hK
/-! best -/
def sw_be (T : Nat) (kd : Nat → Nat) (W : Nat → Nat → Nat) (un : Nat → Int32) (G : sw_G) (x : Nat) : Nat × Nat := ax_it (fun w a => if a.2 < sw_gn W un (sw_ws kd G x w) x then (w, sw_gn W un (sw_ws kd G x w) x) else a) T 0 (9, sw_gn W un G x)
theorem cl_bestWord {d x N T : Nat} {kd : Nat → Nat} {tl un : Nat → Int32} {W : Nat → Nat → Nat} {G : sw_G} {I : ax_I} {L : ax_J} {K : Int32 → ax_I → ax_J → Prop} (hC : sw_CA I N T kd tl un W G) (hg : sw_TG N T kd tl un) (hG : sw_GI N T G) (hW : ∀ x w, W x w ≤ 9) (hx : x < N) (hK : ∀ I', I' 48 3 = nI (sw_be T kd W un G x).2 → ax_FR 48 67 I I' → K (nI (sw_be T kd W un G x).1) I' L) : ax_CI (d + 4) 28 [ax_vr 2 0 48, ax_vi (nI x)] I L K := by
  have hT := hg.2.1
  have hN := hg.1
  apply vc_X2_bestWord
  refine ca_gain hC hT hG (by omega) ?_
  suffices ∀ (n w : Nat) (a : Nat × Nat) (I1 : ax_I) (z4 z5 : Option ax_V), w + n = T → a.2 ≤ 54 → I1 48 3 = nI a.2 → sw_CA I1 N T kd tl un W G → ax_FR 48 67 I I1 → (∀ I', I' 48 3 = nI (ax_it (fun w a => if a.2 < sw_gn W un (sw_ws kd G x w) x then (w, sw_gn W un (sw_ws kd G x w) x) else a) n w a).2 → ax_FR 48 67 I I' → K (nI (ax_it (fun w a => if a.2 < sw_gn W un (sw_ws kd G x w) x then (w, sw_gn W un (sw_ws kd G x w) x) else a) n w a).1) I' L) → ax_AK ((d + 3)) 28 (21, [some (ax_vr 2 0 48), some (ax_vi (nI x)), some (ax_vi (nI a.1)), some (ax_vi (nI w)), z4, z5], [], ax_mm I1 L) (ax_ki K) from
    this T 0 (9, sw_gn W un G x) _ none none (by omega) (sw_gn_le hW) ax_ui_eq ⟨hC.1.frame (ax_ui_row (by omega)) (ax_ui_row (by omega)), hC.2.1.frame (fun a _ _ => ax_ui_row (by omega)), hC.2.2.frame (fun a _ _ => ax_ui_row (by omega))⟩ (ax_FR.refl.ui (by omega) (by omega)) hK
  intro n
  induction n with
  | zero =>
    intro w a I1 z4 z5 hw ha h48 hC1 hf hK
    apply vc_X2_bestWord_21
    rw [hC1.2.1.2.1]
    simp (disch := omega) only [Bool.not_eq_false, Bool.not_eq_true, decide_eq_true_eq, decide_eq_false_iff_not, Bool.not_eq_true', Bool.not_eq_false', ax_lle, ax_llt, ax_lel, ax_ltl, ax_leq, ax_eql, ax_clampl, ax_inb_iff, nI_clamp, nI_1, nI_leI, nI_ltI, nI_eq, ax_b0, ax_b1, ax_bitb, ax_ui_eq, ax_ui_ne, true_and, and_true]
    exact ⟨fun _ => hK I1 h48 hf, fun h => by omega⟩
  | succ n ih =>
    intro w a I1 z4 z5 hw ha h48 hC1 hf hK
    apply vc_X2_bestWord_21
    rw [hC1.2.1.2.1]
    simp (disch := omega) only [Bool.not_eq_false, Bool.not_eq_true, decide_eq_true_eq, decide_eq_false_iff_not, Bool.not_eq_true', Bool.not_eq_false', ax_lle, ax_llt, ax_lel, ax_ltl, ax_leq, ax_eql, ax_clampl, ax_inb_iff, nI_clamp, nI_1, nI_leI, nI_ltI, nI_eq, ax_b0, ax_b1, ax_bitb, ax_ui_eq, ax_ui_ne, true_and, and_true]
    refine ⟨fun h => by omega, fun _ => ?_⟩
    have hG1 := hG.wish hN hT (kd := kd) hx (show w < T by omega)
    refine ca_wish hC1 hg hG hx (by omega) (fun I2 c2 f2 => ?_)
    refine ca_gain c2 hT hG1 (by omega) ?_
    refine ca_back c2 (by omega) (fun I3 c3 f3 => ?_)
    have hb := sw_gn_le (un := un) (G := sw_ws kd G x w) (x := x) hW
    have h483 : I3 48 3 = nI a.2 := by rw [f3 _ (by omega), f2 _ (by omega)]; exact h48
    have hf3 : ax_FR 48 67 I I3 := (hf.trans (f2.wide (by omega) (by omega))).trans (f3.wide (by omega) (by omega))
    rw [h483]
    simp (disch := omega) only [Bool.not_eq_false, Bool.not_eq_true, decide_eq_true_eq, decide_eq_false_iff_not, Bool.not_eq_true', Bool.not_eq_false', ax_lle, ax_llt, ax_lel, ax_ltl, ax_leq, ax_eql, ax_clampl, ax_inb_iff, nI_clamp, nI_1, nI_leI, nI_ltI, nI_eq, ax_b0, ax_b1, ax_bitb, ax_ui_eq, ax_ui_ne, true_and, and_true]
    replace hK : ∀ I', I' 48 3 = nI (ax_it (fun w a => if a.2 < sw_gn W un (sw_ws kd G x w) x then (w, sw_gn W un (sw_ws kd G x w) x) else a) n (w + 1) (if a.2 < sw_gn W un (sw_ws kd G x w) x then (w, sw_gn W un (sw_ws kd G x w) x) else a)).2 → ax_FR 48 67 I I' → K (nI (ax_it (fun w a => if a.2 < sw_gn W un (sw_ws kd G x w) x then (w, sw_gn W un (sw_ws kd G x w) x) else a) n (w + 1) (if a.2 < sw_gn W un (sw_ws kd G x w) x then (w, sw_gn W un (sw_ws kd G x w) x) else a)).1) I' L := hK
    refine ⟨fun q => ?_, fun q => ?_⟩
    · rw [if_neg (by omega)] at hK
      exact ih _ a I3 _ _ (by omega) ha h483 c3 hf3 hK
    · rw [if_pos (by omega)] at hK
      exact ih _ (w, sw_gn W un (sw_ws kd G x w) x) _ _ _ (by omega) hb ax_ui_eq ⟨c3.1.frame (ax_ui_row (by omega)) (ax_ui_row (by omega)), c3.2.1.frame (fun a _ _ => ax_ui_row (by omega)), c3.2.2.frame (fun a _ _ => ax_ui_row (by omega))⟩ (hf3.ui (by omega) (by omega)) hK
/-! sure -/
def sw_mm (own who a b : Nat) : Nat := if who = own then (if a < b then b else a) else (if b < a then b else a)
def sw_su (N T : Nat) (kd : Nat → Nat) (W : Nat → Nat → Nat) (un : Nat → Int32) (own : Nat) : Nat → sw_G → Nat → Nat
  | 0, G, _ => sw_gn W un G own
  | n + 1, G, who => ax_it (fun w a => sw_mm own who a (sw_su N T kd W un own n (sw_ws kd G who w) (sw_nx N who))) T 0 (sw_su N T kd W un own n G (sw_nx N who))
theorem sw_mm_le {own who a b m : Nat} (ha : a ≤ m) (hb : b ≤ m) : sw_mm own who a b ≤ m := by
  unfold sw_mm; split <;> split <;> omega
theorem sw_mm_aa {own who a : Nat} : sw_mm own who a a = a := by
  unfold sw_mm; split <;> split <;> omega
theorem sw_mm_ab {own who a b : Nat} : sw_mm own who a b = sw_mm own who b a := by
  unfold sw_mm; split <;> split <;> split <;> omega
theorem sw_mm_abc {own who a b c : Nat} : sw_mm own who (sw_mm own who a b) c = sw_mm own who (sw_mm own who a c) b := by
  unfold sw_mm
  by_cases h : who = own
  · simp only [if_pos h]
    by_cases h1 : a < b <;> by_cases h2 : a < c <;> by_cases h3 : b < c <;> by_cases h4 : c < b <;> simp only [h1, h2, h3, h4, if_true, if_false] <;> omega
  · simp only [if_neg h]
    by_cases h1 : b < a <;> by_cases h2 : c < a <;> by_cases h3 : b < c <;> by_cases h4 : c < b <;> simp only [h1, h2, h3, h4, if_true, if_false] <;> omega
theorem sw_su_le {N T : Nat} {kd : Nat → Nat} {W : Nat → Nat → Nat} {un : Nat → Int32} {own : Nat} (hW : ∀ x w, W x w ≤ 9) : ∀ (n : Nat) (G : sw_G) (who : Nat), sw_su N T kd W un own n G who ≤ 54
  | 0, G, who => sw_gn_le hW
  | n + 1, G, who => by
    have : ∀ k w a, a ≤ 54 → ax_it (fun w a => sw_mm own who a (sw_su N T kd W un own n (sw_ws kd G who w) (sw_nx N who))) k w a ≤ 54 := by
      intro k
      induction k with
      | zero => intro w a ha; exact ha
      | succ k ih => intro w a ha; exact ih _ _ (sw_mm_le ha (sw_su_le hW n _ _))
    exact this T 0 _ (sw_su_le hW n _ _)
theorem sw_su_no {N T : Nat} {kd : Nat → Nat} {W : Nat → Nat → Nat} {un : Nat → Int32} {own : Nat} {n x w y : Nat} {G : sw_G} (h : (decide (sw_out kd G x w = 2) || (decide (sw_out kd G x w = 1) && decide (1 < n + 1))) = false) : sw_su N T kd W un own n (sw_ws kd G x w) y = sw_su N T kd W un own n G y := by
  rw [Bool.or_eq_false_iff, Bool.and_eq_false_iff] at h
  simp only [decide_eq_false_iff_not] at h
  have le := sw_out_le (kd := kd) (G := G) (x := x) (w := w)
  by_cases e : sw_out kd G x w = 0
  · rw [sw_ws_0 e]
  · have hn : n = 0 := by omega
    subst hn
    exact sw_gn_ws1 h.1
theorem cl_sureGain {N T own : Nat} {kd : Nat → Nat} {tl un : Nat → Int32} {W : Nat → Nat → Nat} (hg : sw_TG N T kd tl un) (hW : ∀ x w, W x w ≤ 9) (hown : own < N) {L : ax_J} : ∀ (n : Nat) {d who : Nat} {G : sw_G} {I : ax_I} {K : Int32 → ax_I → ax_J → Prop}, n ≤ 5 → sw_CA I N T kd tl un W G → sw_GI N T G → who < N → (∀ I', sw_CA I' N T kd tl un W G → ax_FR 53 67 I I' → K (nI (sw_su N T kd W un own n G who)) I' L) → ax_CI (d + n + 4) 36 [ax_vr 2 0 48, ax_vi (nI own), ax_vi (nI who), ax_vi (nI n)] I L K := by
  have hT := hg.2.1
  have hN := hg.1
  intro n
  induction n with
  | zero =>
    intro d who G I K _ hC hG hwho hK
    apply vc_X2_sureGain
    simp (disch := omega) only [Bool.not_eq_false, Bool.not_eq_true, decide_eq_true_eq, decide_eq_false_iff_not, Bool.not_eq_true', Bool.not_eq_false', ax_lle, ax_llt, ax_lel, ax_ltl, ax_leq, ax_eql, ax_clampl, ax_inb_iff, nI_clamp, nI_1, nI_leI, nI_ltI, nI_eq, ax_b0, ax_b1, ax_bitb, ax_ui_eq, ax_ui_ne, true_and, and_true]
    refine ⟨fun h => by omega, fun _ => ?_⟩
    exact ca_gain hC hT hG (by omega) (hK I hC ax_FR.refl)
  | succ n ih0 =>
    intro d who G I K hn hC hG hwho hK
    apply vc_X2_sureGain
    rw [nI_pred]
    simp (disch := omega) only [Bool.not_eq_false, Bool.not_eq_true, decide_eq_true_eq, decide_eq_false_iff_not, Bool.not_eq_true', Bool.not_eq_false', ax_lle, ax_llt, ax_lel, ax_ltl, ax_leq, ax_eql, ax_clampl, ax_inb_iff, nI_clamp, nI_1, nI_leI, nI_ltI, nI_eq, ax_b0, ax_b1, ax_bitb, ax_ui_eq, ax_ui_ne, true_and, and_true]
    refine ⟨fun _ => ?_, fun h => by omega⟩
    refine cl_behind hC.2.1.1 hN (by omega) ?_
    refine ih0 (by omega) hC hG (sw_nx_lt hwho) (fun I1 c1 f1 => ?_)
    suffices ∀ (k w a : Nat) (I1 : ax_I) (z7 z8 : Option ax_V), w + k = T → a ≤ 54 → sw_mm own who a (sw_su N T kd W un own n G (sw_nx N who)) = a → sw_CA I1 N T kd tl un W G → ax_FR 53 67 I I1 → (∀ I', sw_CA I' N T kd tl un W G → ax_FR 53 67 I I' → K (nI (ax_it (fun w a => sw_mm own who a (sw_su N T kd W un own n (sw_ws kd G who w) (sw_nx N who))) k w a)) I' L) → ax_AK ((d + n + 4)) 36 (42, [some (ax_vr 2 0 48), some (ax_vi (nI own)), some (ax_vi (nI who)), some (ax_vi (nI (n + 1))), some (ax_vi (nI (sw_nx N who))), some (ax_vi (nI a)), some (ax_vi (nI w)), z7, z8], [], ax_mm I1 L) (ax_ki K) from
      this T 0 _ I1 none none (by omega) (sw_su_le hW n _ _) sw_mm_aa c1 f1 hK
    intro k
    induction k with
    | zero =>
      intro w a I1 z7 z8 hw ha hs hC1 hf hK
      apply vc_X2_sureGain_42
      rw [hC1.2.1.2.1]
      simp (disch := omega) only [Bool.not_eq_false, Bool.not_eq_true, decide_eq_true_eq, decide_eq_false_iff_not, Bool.not_eq_true', Bool.not_eq_false', ax_lle, ax_llt, ax_lel, ax_ltl, ax_leq, ax_eql, ax_clampl, ax_inb_iff, nI_clamp, nI_1, nI_leI, nI_ltI, nI_eq, ax_b0, ax_b1, ax_bitb, ax_ui_eq, ax_ui_ne, true_and, and_true]
      exact ⟨fun _ => hK I1 hC1 hf, fun h => by omega⟩
    | succ k ih =>
      intro w a I1 z7 z8 hw ha hs hC1 hf hK
      apply vc_X2_sureGain_42
      rw [hC1.2.1.2.1, nI_pred]
      simp (disch := omega) only [Bool.not_eq_false, Bool.not_eq_true, decide_eq_true_eq, decide_eq_false_iff_not, Bool.not_eq_true', Bool.not_eq_false', ax_lle, ax_llt, ax_lel, ax_ltl, ax_leq, ax_eql, ax_clampl, ax_inb_iff, nI_clamp, nI_1, nI_leI, nI_ltI, nI_eq, ax_b0, ax_b1, ax_bitb, ax_ui_eq, ax_ui_ne, true_and, and_true]
      refine ⟨fun h => by omega, fun _ => ?_⟩
      have hG1 := hG.wish hN hT (kd := kd) hwho (show w < T by omega)
      refine ca_wish hC1 hg hG hwho (by omega) (fun I2 c2 f2 => ?_)
      refine cl_changesGains sw_out_le (by omega) ?_
      replace hK : ∀ I', sw_CA I' N T kd tl un W G → ax_FR 53 67 I I' → K (nI (ax_it (fun w a => sw_mm own who a (sw_su N T kd W un own n (sw_ws kd G who w) (sw_nx N who))) k (w + 1) (sw_mm own who a (sw_su N T kd W un own n (sw_ws kd G who w) (sw_nx N who))))) I' L := hK
      simp (disch := omega) only [Bool.not_eq_false, Bool.not_eq_true, decide_eq_true_eq, decide_eq_false_iff_not, Bool.not_eq_true', Bool.not_eq_false', ax_lle, ax_llt, ax_lel, ax_ltl, ax_leq, ax_eql, ax_clampl, ax_inb_iff, nI_clamp, nI_1, nI_leI, nI_ltI, nI_eq, ax_b0, ax_b1, ax_bitb, ax_ui_eq, ax_ui_ne, true_and, and_true]
      refine ⟨fun q => ?_, fun q => ?_⟩
      · rw [sw_su_no q, hs] at hK
        refine ca_back c2 (by omega) (fun I3 c3 f3 => ?_)
        exact ih _ a I3 _ _ (by omega) ha hs c3 ((hf.trans f2).trans f3) hK
      · have hb := sw_su_le (N := N) (T := T) (kd := kd) (un := un) (own := own) hW n (sw_ws kd G who w) (sw_nx N who)
        refine ih0 (by omega) c2 hG1 (sw_nx_lt hwho) (fun I3 c3 f3 => ?_)
        have hs2 : sw_mm own who (sw_mm own who a (sw_su N T kd W un own n (sw_ws kd G who w) (sw_nx N who))) (sw_su N T kd W un own n G (sw_nx N who)) = sw_mm own who a (sw_su N T kd W un own n (sw_ws kd G who w) (sw_nx N who)) := by
          rw [sw_mm_abc, hs]
        refine ⟨fun e => ?_, fun e => ?_⟩
        · refine ca_back c3 (by omega) (fun I4 c4 f4 => ?_)
          rw [ax_ite_lt (by omega) (by omega), show (if sw_su N T kd W un own n (sw_ws kd G who w) (sw_nx N who) < a then sw_su N T kd W un own n (sw_ws kd G who w) (sw_nx N who) else a) = sw_mm own who a (sw_su N T kd W un own n (sw_ws kd G who w) (sw_nx N who)) by unfold sw_mm; rw [if_neg e]]
          exact ih _ _ I4 _ _ (by omega) (sw_mm_le ha hb) hs2 c4 (((hf.trans f2).trans f3).trans f4) hK
        · refine ca_back c3 (by omega) (fun I4 c4 f4 => ?_)
          rw [ax_ite_lt (by omega) (by omega), show (if a < sw_su N T kd W un own n (sw_ws kd G who w) (sw_nx N who) then sw_su N T kd W un own n (sw_ws kd G who w) (sw_nx N who) else a) = sw_mm own who a (sw_su N T kd W un own n (sw_ws kd G who w) (sw_nx N who)) by unfold sw_mm; rw [if_pos e]]
          exact ih _ _ I4 _ _ (by omega) (sw_mm_le ha hb) hs2 c4 (((hf.trans f2).trans f3).trans f4) hK
