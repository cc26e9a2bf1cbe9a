/-! needs: 21a 21b 21c 21d 21e 30 31 32 33 34 35 41 42 43 44 45 46 -/
abbrev sw_L : Type := (Nat → Nat) × List Nat
def sw_ps (who wd : Nat) (r : sw_L) (a : Nat × sw_L) : Nat × sw_L := if a.1 ≤ r.1 who then (r.1 who + 1, r.1, wd :: r.2) else a
def sw_wd (T k : Nat) : Nat := if k = T then 9 else k
def sw_pl (N T : Nat) (kd : Nat → Nat) (W : Nat → Nat → Nat) (un : Nat → Int32) : Nat → sw_G → Nat → sw_L
  | 0, G, _ => (fun x => sw_gn W un G x, [])
  | n + 1, G, who => (ax_it (fun k a => sw_ps who (sw_wd T k) (sw_pl N T kd W un n (sw_op T kd G who k) (sw_nx N who)) a) (T + 1) 0 (0, (fun _ => 0), [])).2
def sw_ok (n : Nat) (r : sw_L) : Prop := (∀ x, r.1 x ≤ 54) ∧ (∀ w, w ∈ r.2 → w < 7 ∨ w = 9) ∧ r.2.length ≤ n
theorem sw_ok.ps {n who wd : Nat} {r : sw_L} {a : Nat × sw_L} (hr : sw_ok n r) (ha : sw_ok (n + 1) a.2) (hw : wd < 7 ∨ wd = 9) : sw_ok (n + 1) (sw_ps who wd r a).2 := by
  unfold sw_ps
  split
  · refine ⟨hr.1, fun w q => ?_, by show r.2.length + 1 ≤ n + 1; have := hr.2.2; omega⟩
    rcases List.mem_cons.mp q with e | e
    · rw [e]; exact hw
    · exact hr.2.1 w e
  · exact ha
theorem sw_ps_1 {n who wd : Nat} {r : sw_L} {a : Nat × sw_L} (hr : sw_ok n r) (ha : a.1 ≤ 55) : (sw_ps who wd r a).1 ≤ 55 := by
  unfold sw_ps
  have := hr.1 who
  split
  · show r.1 who + 1 ≤ 55; omega
  · exact ha
theorem sw_pl_ok {N T : Nat} {kd : Nat → Nat} {W : Nat → Nat → Nat} {un : Nat → Int32} (hW : ∀ x w, W x w ≤ 9) (hT : T ≤ 6) : ∀ (n : Nat) (G : sw_G) (who : Nat), sw_ok n (sw_pl N T kd W un n G who) ∧ (sw_pl N T kd W un n G who).2.length = n
  | 0, G, who => ⟨⟨fun x => sw_gn_le hW, (fun w q => by cases q), Nat.le_refl _⟩, rfl⟩
  | n + 1, G, who => by
    have ih := sw_pl_ok (N := N) (kd := kd) (un := un) hW hT n
    have key : ∀ j k (a : Nat × sw_L), k + j = T + 1 → sw_ok (n + 1) a.2 → (0 < a.1 → a.2.2.length = n + 1) → (0 < j ∨ 0 < a.1) → sw_ok (n + 1) (ax_it (fun k a => sw_ps who (sw_wd T k) (sw_pl N T kd W un n (sw_op T kd G who k) (sw_nx N who)) a) j k a).2 ∧ (ax_it (fun k a => sw_ps who (sw_wd T k) (sw_pl N T kd W un n (sw_op T kd G who k) (sw_nx N who)) a) j k a).2.2.length = n + 1 := by
      intro j
      induction j with
      | zero => intro k a hk h1 h2 h3; exact ⟨h1, h2 (by omega)⟩
      | succ j ihj =>
        intro k a hk h1 h2 h3
        have hr := ih (sw_op T kd G who k) (sw_nx N who)
        refine ihj _ _ (by omega) (hr.1.ps h1 ?_) ?_ ?_
        · unfold sw_wd; split <;> omega
        · dsimp only
          unfold sw_ps
          split
          · intro _; show (sw_pl N T kd W un n (sw_op T kd G who k) (sw_nx N who)).2.length + 1 = n + 1; rw [hr.2]
          · exact h2
        · right
          dsimp only
          unfold sw_ps
          split
          · exact Nat.succ_pos _
          · rename_i q; omega
    exact key (T + 1) 0 (0, (fun _ => 0), []) (by omega) ⟨fun _ => Nat.zero_le _, (fun w q => by cases q), Nat.zero_le _⟩ (fun q => by cases q) (.inl (by omega))
theorem sw_pl_no {N T : Nat} {kd : Nat → Nat} {W : Nat → Nat → Nat} {un : Nat → Int32} {n x w y : Nat} {G : sw_G} (h : (decide (sw_out kd G x w = 2) || (decide (sw_out kd G x w = 1) && decide (1 < n + 1))) = false) : sw_pl N T kd W un n (sw_ws kd G x w) y = sw_pl N T kd W un n G y := by
  rw [Bool.or_eq_false_iff, Bool.and_eq_false_iff] at h
  simp only [decide_eq_false_iff_not] at h
  have le := sw_out_le (kd := kd) (G := G) (x := x) (w := w)
  by_cases e : sw_out kd G x w = 0
  · rw [sw_ws_0 e]
  · have hn : n = 0 := by omega
    subst hn
    show ((fun z => sw_gn W un (sw_ws kd G x w) z, []) : sw_L) = (fun z => sw_gn W un G z, [])
    congr 1
    funext z
    exact sw_gn_ws1 h.1
theorem sw_pl_succ {N T : Nat} {kd : Nat → Nat} {W : Nat → Nat → Nat} {un : Nat → Int32} {n who : Nat} {G : sw_G} : sw_pl N T kd W un (n + 1) G who = (sw_ps who 9 (sw_pl N T kd W un n G (sw_nx N who)) (ax_it (fun k a => sw_ps who k (sw_pl N T kd W un n (sw_ws kd G who k) (sw_nx N who)) a) T 0 (0, (fun _ => 0), []))).2 := by
  show (ax_it (fun k a => sw_ps who (sw_wd T k) (sw_pl N T kd W un n (sw_op T kd G who k) (sw_nx N who)) a) (T + 1) 0 (0, (fun _ => 0), [])).2 = _
  rw [ax_it_succ, Nat.zero_add]
  have e1 : sw_wd T T = 9 := if_pos rfl
  have e2 : sw_op T kd G who T = G := if_pos rfl
  rw [e1, e2]
  congr 2
  refine ax_it_congr T 0 _ (fun i a h1 h2 => ?_)
  have e3 : sw_wd T i = i := if_neg (by omega)
  have e4 : sw_op T kd G who i = sw_ws kd G who i := if_neg (by omega)
  rw [e3, e4]
theorem cl_gainIn {d n x : Nat} {r : sw_L} {I : ax_I} {L : ax_J} {K : Int32 → ax_I → ax_J → Prop} (hr : sw_ok n r) (hn : n ≤ 5) (hx : x < 6) (hK : K (nI (r.1 x)) I L) : ax_CI (d + 1) 33 [ax_vl (lN (sw_en r)), ax_vi (nI x)] I L K := by
  apply vc_X2_gainIn
  have h3 := hr.2.2
  rw [sw_gain_i (g := r.1) (ws := r.2) (fun x _ => by have := hr.1 x; omega) (fun w q => by have := hr.2.1 w q; omega) (by omega) hx]
  exact hK
theorem cl_withWord {d n w c : Nat} {r : sw_L} {I : ax_I} {L : ax_J} {K : Int64 → ax_I → ax_J → Prop} (hr : sw_ok n r) (hn : n ≤ 4) (hc : c = sw_wc w) (hc8 : c < 8) (hK : K (lN (sw_en (r.1, w :: r.2))) I L) : ax_CL (d + 1) 34 [ax_vl (lN (sw_en r)), ax_vi (nI c)] I L K := by
  apply vc_X2_withWord
  have h3 := hr.2.2
  rw [sw_with_l (g := r.1) (ws := r.2) (fun x _ => by have := hr.1 x; omega) (fun w q => by have := hr.2.1 w q; omega) (by omega) hc hc8]
  exact hK
theorem sw_gN_add {g h : Nat → Nat} {o v : Nat} (ho : o < 6) (hh : ∀ x, x < 6 → h x = if o = x then g x + v else g x) : sw_gN h = sw_gN g + v * 2 ^ (6 * o) := by
  unfold sw_gN
  rw [hh 0 (by omega), hh 1 (by omega), hh 2 (by omega), hh 3 (by omega), hh 4 (by omega), hh 5 (by omega)]
  match o, ho with
  | 0, _ => simp only [if_true]; simp; omega
  | 1, _ => simp only [if_true]; simp; omega
  | 2, _ => simp only [if_true]; simp; omega
  | 3, _ => simp only [if_true]; simp; omega
  | 4, _ => simp only [if_true]; simp; omega
  | 5, _ => simp only [if_true]; simp; omega
theorem cl_allGains {d N T : Nat} {kd : Nat → Nat} {tl un : Nat → Int32} {W : Nat → Nat → Nat} {G : sw_G} {I : ax_I} {L : ax_J} {K : Int64 → ax_I → ax_J → Prop} (hC : sw_CA I N T kd tl un W G) (hg : sw_TG N T kd tl un) (hG : sw_GI N T G) (hW : ∀ x w, W x w ≤ 9) (hK : K (lN (sw_en (fun x => sw_gn W un G x, []))) I L) : ax_CL (d + 2) 32 [ax_vr 2 0 48] I L K := by
  have hT := hg.2.1
  have hN := hg.1
  have h6 : ∀ v, v ∈ G.2.2 → v < 6 := fun v hv => by have := hG.2.2.2.1 v hv; omega
  apply vc_X2_allGains
  refine cl_holding hC.2.1 hC.2.2 h6 hG.len ?_
  suffices ∀ (n w : Nat) (b2 : Int64) (z3 z5 : Option ax_V), w + n = T → b2 = lN (sw_gN (fun x => ax_it (fun w a => if ax_bt (sw_hd un G.2.2) w && decide (G.2.1 w = nI x) then a + W x w else a) w 0 0)) → ax_AK ((d + 1)) 32 (17, [some (ax_vr 2 0 48), some (ax_vi (sw_hd un G.2.2)), some (ax_vl b2), z3, some (ax_vi (nI w)), z5], [], ax_mm I L) (ax_kl K) from this T 0 0 none none (by omega) rfl
  intro n
  induction n with
  | zero =>
    intro w b2 z3 z5 hw hb
    apply vc_X2_allGains_17
    rw [hC.2.1.2.1]
    simp (disch := omega) only [Bool.not_eq_false, Bool.not_eq_true, decide_eq_true_eq, decide_eq_false_iff_not, Bool.not_eq_true', Bool.not_eq_false', ax_lle, ax_llt, ax_lel, ax_ltl, ax_leq, ax_eql, ax_clampl, ax_inb_iff, nI_clamp, nI_1, nI_leI, nI_ltI, nI_eq, ax_b0, ax_b1, ax_bitb, ax_ui_eq, ax_ui_ne, true_and, and_true]
    refine ⟨fun _ => ?_, fun h => by omega⟩
    have hw : w = T := by omega
    subst hw
    have e : sw_en (fun x => sw_gn W un G x, []) = sw_gN (fun x => ax_it (fun w a => if ax_bt (sw_hd un G.2.2) w && decide (G.2.1 w = nI x) then a + W x w else a) w 0 0) := by
      unfold sw_en
      show sw_gN (fun x => sw_gn W un G x) + 2 ^ 36 * 0 = _
      rw [Nat.mul_zero, Nat.add_zero]
      congr 1
      funext x
      exact sw_gn_T hT hG
    rw [hb, ← e]; exact hK
  | succ n ih =>
    intro w b2 z3 z5 hw hb
    apply vc_X2_allGains_17
    rw [hC.2.1.2.1]
    simp (disch := omega) only [Bool.not_eq_false, Bool.not_eq_true, decide_eq_true_eq, decide_eq_false_iff_not, Bool.not_eq_true', Bool.not_eq_false', ax_lle, ax_llt, ax_lel, ax_ltl, ax_leq, ax_eql, ax_clampl, ax_inb_iff, nI_clamp, nI_1, nI_leI, nI_ltI, nI_eq, ax_b0, ax_b1, ax_bitb, ax_ui_eq, ax_ui_ne, true_and, and_true, ax_bt_ask0]
    refine ⟨fun h => by omega, fun _ => ⟨fun q => ?_, fun q => ?_⟩⟩
    · refine ih _ _ _ _ (by omega) ?_
      rw [hb]
      congr 2
      funext x
      rw [ax_it_succ, Nat.zero_add, if_neg (by rw [q]; simp)]
    · have hm := sw_hd_bt (show w < 32 by omega) (fun v hv => by have := h6 v hv; omega) q
      have ho := (hG.2.2.1 w (by omega)).mp hm
      rcases hG.2.2.2.2.2.1 w (by omega) with z | ⟨k, hk, ek⟩
      · exact absurd z ho
      · have e62 : I 62 w = nI k := (hC.2.2.2.2.1 w (by omega)).trans ek
        have eW := hC.2.2.1 k (by omega) w (by omega)
        have hWk := hW k w
        simp (disch := omega) only [Bool.not_eq_false, Bool.not_eq_true, decide_eq_true_eq, decide_eq_false_iff_not, Bool.not_eq_true', Bool.not_eq_false', ax_lle, ax_llt, ax_lel, ax_ltl, ax_leq, ax_eql, ax_clampl, ax_inb_iff, nI_clamp, nI_1, nI_leI, nI_ltI, nI_eq, ax_b0, ax_b1, ax_bitb, ax_ui_eq, ax_ui_ne, true_and, and_true, e62]
        refine ⟨by omega, by omega, by omega, ih _ _ _ _ (by omega) ?_⟩
        rw [show (54 + (1 + k)) = 53 + 1 + (1 + k) by omega, eW, nI_l (by omega), show (6 : Int32) * nI k = nI (6 * k) from ax_nI_mul 6 k, ax_lN_shl (by omega), hb, ax_lN_add]
        congr 1
        symm
        refine sw_gN_add (o := k) (by omega) (fun x hx => ?_)
        rw [ax_it_succ, Nat.zero_add, q, ek]
        by_cases e : k = x
        · subst e; simp
        · have : ¬ nI k = nI x := fun z => e ((nI_eq (by omega) (by omega)).mp z)
          simp [e, this]
theorem ax_le_pred {g a : Nat} (hg : g < 1000) (ha : a < 1000) : (nI g ≤ nI a - 1) ↔ g < a := by
  match a, ha with
  | 0, _ =>
    refine ⟨fun h => ?_, fun h => by omega⟩
    have h2 : nI g < 0 := Int32.lt_of_le_of_lt h (by decide)
    exact absurd h2 (nI_pos (by omega))
  | a + 1, ha => rw [nI_pred, nI_leI (by omega) (by omega)]; omega
theorem cl_thinkAhead {N T : Nat} {kd : Nat → Nat} {tl un : Nat → Int32} {W : Nat → Nat → Nat} (hg : sw_TG N T kd tl un) (hW : ∀ x w, W x w ≤ 9) {L : ax_J} : ∀ (n : Nat) {d who : Nat} {G : sw_G} {I : ax_I} {K : Int64 → ax_I → ax_J → Prop}, n ≤ 5 → sw_CA I N T kd tl un W G → sw_GI N T G → who < N → (∀ I', sw_CA I' N T kd tl un W G → ax_FR 53 67 I I' → K (lN (sw_en (sw_pl N T kd W un n G who))) I' L) → ax_CL (d + n + 4) 30 [ax_vr 2 0 48, ax_vi (nI who), ax_vi (nI n)] I L K := by
  have hT := hg.2.1
  have hN := hg.1
  intro n
  induction n with
  | zero =>
    intro d who G I K _ hC hG hwho hK
    apply vc_X2_thinkAhead
    simp (disch := omega) only [Bool.not_eq_false, Bool.not_eq_true, decide_eq_true_eq, decide_eq_false_iff_not, Bool.not_eq_true', Bool.not_eq_false', ax_lle, ax_llt, ax_lel, ax_ltl, ax_leq, ax_eql, ax_clampl, ax_inb_iff, nI_clamp, nI_1, nI_leI, nI_ltI, nI_eq, ax_b0, ax_b1, ax_bitb, ax_ui_eq, ax_ui_ne, true_and, and_true]
    refine ⟨fun h => by omega, fun _ => ?_⟩
    exact cl_allGains hC hg hG hW (hK I hC ax_FR.refl)
  | succ n ih0 =>
    intro d who G I K hn hC hG hwho hK
    have hok := fun G who => (sw_pl_ok (N := N) (T := T) (kd := kd) (un := un) hW hT n G who).1
    have hq := hok G (sw_nx N who)
    have hqw := hq.1 who
    rw [sw_pl_succ] at hK
    apply vc_X2_thinkAhead
    rw [nI_pred]
    simp (disch := omega) only [Bool.not_eq_false, Bool.not_eq_true, decide_eq_true_eq, decide_eq_false_iff_not, Bool.not_eq_true', Bool.not_eq_false', ax_lle, ax_llt, ax_lel, ax_ltl, ax_leq, ax_eql, ax_clampl, ax_inb_iff, nI_clamp, nI_1, nI_leI, nI_ltI, nI_eq, ax_b0, ax_b1, ax_bitb, ax_ui_eq, ax_ui_ne, true_and, and_true]
    refine ⟨fun _ => ?_, fun h => by omega⟩
    refine cl_behind hC.2.1.1 hN (by omega) ?_
    refine ih0 (by omega) hC hG (sw_nx_lt hwho) (fun I1 c1 f1 => ?_)
    suffices ∀ (k w : Nat) (a : Nat × sw_L) (b8 : Int32) (b6 : Int64) (I1 : ax_I) (z5 z7 z10 z11 z12 : Option ax_V), w + k = T → sw_ok (n + 1) a.2 → a.1 ≤ 55 → b8 = nI a.1 - 1 → b6 = lN (sw_en a.2) → sw_CA I1 N T kd tl un W G → ax_FR 53 67 I I1 → (∀ I', sw_CA I' N T kd tl un W G → ax_FR 53 67 I I' → K (lN (sw_en (sw_ps who 9 (sw_pl N T kd W un n G (sw_nx N who)) (ax_it (fun k a => sw_ps who k (sw_pl N T kd W un n (sw_ws kd G who k) (sw_nx N who)) a) k w a)).2)) I' L) → ax_AK ((d + n + 4)) 30 (37, [some (ax_vr 2 0 48), some (ax_vi (nI who)), some (ax_vi (nI (n + 1))), some (ax_vi (nI (sw_nx N who))), some (ax_vl (lN (sw_en (sw_pl N T kd W un n G (sw_nx N who))))), z5, some (ax_vl b6), z7, some (ax_vi b8), some (ax_vi (nI w)), z10, z11, z12], [], ax_mm I1 L) (ax_kl K) from
      this T 0 (0, (fun _ => 0), []) (-1) 0 I1 none none none none none (by omega) ⟨fun _ => Nat.zero_le _, (fun w q => by cases q), Nat.zero_le _⟩ (Nat.zero_le _) (by decide) rfl c1 f1 hK
    intro k
    induction k with
    | zero =>
      intro w a b8 b6 I1 z5 z7 z10 z11 z12 hw ha ha1 h8 h6 hC1 hf hK
      apply vc_X2_thinkAhead_37
      rw [hC1.2.1.2.1, h8, h6]
      simp (disch := omega) only [Bool.not_eq_false, Bool.not_eq_true, decide_eq_true_eq, decide_eq_false_iff_not, Bool.not_eq_true', Bool.not_eq_false', ax_lle, ax_llt, ax_lel, ax_ltl, ax_leq, ax_eql, ax_clampl, ax_inb_iff, nI_clamp, nI_1, nI_leI, nI_ltI, nI_eq, ax_b0, ax_b1, ax_bitb, ax_ui_eq, ax_ui_ne, true_and, and_true]
      refine ⟨fun _ => ?_, fun h => by omega⟩
      refine cl_gainIn hq (by omega) (by omega) ?_
      rw [ax_le_pred (by omega) (by omega)]
      have hK := hK I1 hC1 hf
      replace hK : K (lN (sw_en (sw_ps who 9 (sw_pl N T kd W un n G (sw_nx N who)) a).2)) I1 L := hK
      unfold sw_ps at hK
      refine ⟨fun q => ?_, fun q => ?_⟩
      · rw [if_neg (by omega)] at hK; exact hK
      · rw [if_pos (by omega)] at hK
        exact cl_withWord (w := 9) (c := 7) hq (by omega) rfl (by omega) hK
    | succ k ih =>
      intro w a b8 b6 I1 z5 z7 z10 z11 z12 hw ha ha1 h8 h6 hC1 hf hK
      apply vc_X2_thinkAhead_37
      rw [hC1.2.1.2.1, h8, h6, nI_pred]
      simp (disch := omega) only [Bool.not_eq_false, Bool.not_eq_true, decide_eq_true_eq, decide_eq_false_iff_not, Bool.not_eq_true', Bool.not_eq_false', ax_lle, ax_llt, ax_lel, ax_ltl, ax_leq, ax_eql, ax_clampl, ax_inb_iff, nI_clamp, nI_1, nI_leI, nI_ltI, nI_eq, ax_b0, ax_b1, ax_bitb, ax_ui_eq, ax_ui_ne, true_and, and_true]
      refine ⟨fun h => by omega, fun _ => ?_⟩
      have hG1 := hG.wish hN hT (kd := kd) hwho (show w < T by omega)
      have hr := hok (sw_ws kd G who w) (sw_nx N who)
      have hrw := hr.1 who
      refine ca_wish hC1 hg hG hwho (by omega) (fun I2 c2 f2 => ?_)
      refine cl_changesGains sw_out_le (by omega) ?_
      replace hK : ∀ I', sw_CA I' N T kd tl un W G → ax_FR 53 67 I I' → K (lN (sw_en (sw_ps who 9 (sw_pl N T kd W un n G (sw_nx N who)) (ax_it (fun k a => sw_ps who k (sw_pl N T kd W un n (sw_ws kd G who k) (sw_nx N who)) a) k (w + 1) (sw_ps who w (sw_pl N T kd W un n (sw_ws kd G who w) (sw_nx N who)) a))).2)) I' L := hK
      have hps := hr.ps (who := who) (wd := w) ha (.inl (by omega))
      have hps1 := sw_ps_1 (who := who) (wd := w) hr ha1
      /- the rest, whichever way the line came -/
      have fin : ∀ (I3 : ax_I) (z10 z11 z12 : Option ax_V), sw_CA I3 N T kd tl un W G → ax_FR 53 67 I I3 → ax_CI (d + n + 4) 33 [ax_vl (lN (sw_en (sw_pl N T kd W un n (sw_ws kd G who w) (sw_nx N who)))), ax_vi (nI who)] I3 L (fun x18 I16 L17 => (x18 ≤ nI a.1 - 1 → ax_AK (d + n + 4) 30 (37, [some (ax_vr 2 0 48), some (ax_vi (nI who)), some (ax_vi (nI (n + 1))), some (ax_vi (nI (sw_nx N who))), some (ax_vl (lN (sw_en (sw_pl N T kd W un n G (sw_nx N who))))), none, some (ax_vl (lN (sw_en a.2))), none, some (ax_vi (nI a.1 - 1)), some (ax_vi (nI (w + 1))), z10, z11, z12], [], ax_mm I16 L17) (ax_kl K)) ∧ (¬ x18 ≤ nI a.1 - 1 → ax_CI (d + n + 4) 33 [ax_vl (lN (sw_en (sw_pl N T kd W un n (sw_ws kd G who w) (sw_nx N who)))), ax_vi (nI who)] I16 L17 (fun x21 I19 L20 => ax_CL (d + n + 4) 34 [ax_vl (lN (sw_en (sw_pl N T kd W un n (sw_ws kd G who w) (sw_nx N who)))), ax_vi (nI w)] I19 L20 (fun x24 I22 L23 => ax_AK (d + n + 4) 30 (37, [some (ax_vr 2 0 48), some (ax_vi (nI who)), some (ax_vi (nI (n + 1))), some (ax_vi (nI (sw_nx N who))), some (ax_vl (lN (sw_en (sw_pl N T kd W un n G (sw_nx N who))))), none, some (ax_vl x24), none, some (ax_vi x21), some (ax_vi (nI (w + 1))), z10, z11, z12], [], ax_mm I22 L23) (ax_kl K))))) := by
        intro I3 z10 z11 z12 c3 f3
        refine cl_gainIn hr (by omega) (by omega) ?_
        rw [ax_le_pred (by omega) (by omega)]
        refine ⟨fun q => ?_, fun q => ?_⟩
        · have e : sw_ps who w (sw_pl N T kd W un n (sw_ws kd G who w) (sw_nx N who)) a = a := if_neg (by omega)
          rw [e] at hK
          exact ih _ a _ _ I3 _ _ _ _ _ (by omega) ha ha1 rfl rfl c3 f3 hK
        · have e : sw_ps who w (sw_pl N T kd W un n (sw_ws kd G who w) (sw_nx N who)) a = ((sw_pl N T kd W un n (sw_ws kd G who w) (sw_nx N who)).1 who + 1, (sw_pl N T kd W un n (sw_ws kd G who w) (sw_nx N who)).1, w :: (sw_pl N T kd W un n (sw_ws kd G who w) (sw_nx N who)).2) := if_pos (by omega)
          rw [e] at hK hps hps1
          refine cl_gainIn hr (by omega) (by omega) ?_
          refine cl_withWord (w := w) (c := w) hr (by omega) (by unfold sw_wc; rw [if_neg (by omega)]) (by omega) ?_
          exact ih _ _ _ _ I3 _ _ _ _ _ (by omega) hps hps1 (by rw [nI_pred]) rfl c3 f3 hK
      simp (disch := omega) only [Bool.not_eq_false, Bool.not_eq_true, decide_eq_true_eq, decide_eq_false_iff_not, Bool.not_eq_true', Bool.not_eq_false', ax_lle, ax_llt, ax_lel, ax_ltl, ax_leq, ax_eql, ax_clampl, ax_inb_iff, nI_clamp, nI_1, nI_leI, nI_ltI, nI_eq, ax_b0, ax_b1, ax_bitb, ax_ui_eq, ax_ui_ne, true_and, and_true]
      refine ⟨fun q => ?_, fun q => ?_⟩
      · refine ca_back c2 (by omega) (fun I3 c3 f3 => ?_)
        have := fin I3 (some (ax_vi (nI (sw_out kd G who w)))) (some (ax_vl (lN (sw_en (sw_pl N T kd W un n G (sw_nx N who)))))) none c3 ((hf.trans f2).trans f3)
        rw [sw_pl_no q] at this
        exact this
      · refine ih0 (by omega) c2 hG1 (sw_nx_lt hwho) (fun I3 c3 f3 => ?_)
        refine ca_back c3 (by omega) (fun I4 c4 f4 => ?_)
        exact fin I4 _ _ _ c4 (((hf.trans f2).trans f3).trans f4)
