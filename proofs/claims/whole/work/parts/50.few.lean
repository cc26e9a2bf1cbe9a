/-! needs: 21a 21b 21c 21d 21e 30 31 32 33 34 35 41 42 43 44 45 46 47 48 49 -/
/-! fewest: the first row of SAYINGS behind which it is so -/
def sw_fs (f : Nat → Option (List Nat)) : Nat → Nat → Option (List Nat)
  | 0, _ => none
  | n + 1, w => match f w with
    | some l => some l
    | none => sw_fs f n (w + 1)
theorem sw_fs_n {f : Nat → Option (List Nat)} {n w : Nat} (h : f w = none) : sw_fs f (n + 1) w = sw_fs f n (w + 1) := by
  conv => lhs; unfold sw_fs
  rw [h]
theorem sw_fs_s {f : Nat → Option (List Nat)} {n w : Nat} {l : List Nat} (h : f w = some l) : sw_fs f (n + 1) w = some l := by
  unfold sw_fs
  rw [h]
theorem sw_fs_no {f : Nat → Option (List Nat)} : ∀ (n w : Nat), sw_fs f n w = none → ∀ i, w ≤ i → i < w + n → f i = none
  | 0, w, _, i, h1, h2 => by omega
  | n + 1, w, h, i, h1, h2 => by
    unfold sw_fs at h
    cases hf : f w with
    | some l => rw [hf] at h; cases h
    | none =>
      rw [hf] at h
      by_cases e : i = w
      · rw [e]; exact hf
      · exact sw_fs_no n (w + 1) h i (by omega) (by omega)
theorem sw_fs_all {f : Nat → Option (List Nat)} : ∀ (n w : Nat), (∀ i, w ≤ i → i < w + n → f i = none) → sw_fs f n w = none
  | 0, w, _ => rfl
  | n + 1, w, h => by
    unfold sw_fs
    rw [h w (Nat.le_refl _) (by omega)]
    exact sw_fs_all n (w + 1) (fun i h1 h2 => h i (by omega) (by omega))
theorem sw_fs_congr {f g : Nat → Option (List Nat)} : ∀ (n w : Nat), (∀ i, w ≤ i → i < w + n → f i = g i) → sw_fs f n w = sw_fs g n w
  | 0, w, _ => rfl
  | n + 1, w, h => by
    unfold sw_fs
    rw [h w (Nat.le_refl _) (by omega), sw_fs_congr n (w + 1) (fun i h1 h2 => h i (by omega) (by omega))]
def sw_br (N T : Nat) (kd : Nat → Nat) (un : Nat → Int32) (x w : Nat) : Nat → sw_G → Option (List Nat)
  | 0, G => if G.2.1 w = nI x ∧ ax_bt (sw_hd un G.2.2) w = true then some [] else none
  | m + 1, G => sw_fs (fun y => sw_fs (fun t => (sw_br N T kd un x w m (sw_ws kd G y t)).map (fun l => (10 * y + t) :: l)) T 0) N 0
def sw_oo (x w m : Nat) (G : sw_G) : Bool := if G.2.1 w = -9 then (if G.1 w = -9 then decide (m < 2) else decide (m < 1)) else !decide (G.2.1 w = nI x)
def sw_cr (N T : Nat) (kd : Nat → Nat) (un : Nat → Int32) (x w : Nat) : Nat → sw_G → Option (List Nat)
  | 0, G => if sw_oo x w 0 G = true then none else if ax_bt (sw_hd un G.2.2) w = true then some [] else none
  | m + 1, G => if sw_oo x w (m + 1) G = true then none else sw_fs (fun y => sw_fs (fun t => if sw_out kd G y t = 0 then none else (sw_cr N T kd un x w m (sw_ws kd G y t)).map (fun l => (10 * y + t) :: l)) T 0) N 0
theorem sw_ws_O {kd : Nat → Nat} {G : sw_G} {y t w : Nat} (h : ¬ G.2.1 w = -9) : (sw_ws kd G y t).2.1 w = G.2.1 w := by
  have le := sw_out_le (kd := kd) (G := G) (x := y) (w := t)
  have h012 : sw_out kd G y t = 0 ∨ sw_out kd G y t = 1 ∨ sw_out kd G y t = 2 := by omega
  rcases h012 with e | e | e
  · rw [sw_ws_0 e]
  · rw [(sw_ws_1 e).2]
  · have q := sw_ws_2 e
    rw [q.2.2]
    exact sw_up_ne (fun z => h (by rw [z]; exact q.2.1.1))
theorem sw_ws_F {kd : Nat → Nat} {G : sw_G} {y t w : Nat} (h : ¬ G.1 w = -9) : (sw_ws kd G y t).1 w = G.1 w := by
  have le := sw_out_le (kd := kd) (G := G) (x := y) (w := t)
  have h012 : sw_out kd G y t = 0 ∨ sw_out kd G y t = 1 ∨ sw_out kd G y t = 2 := by omega
  rcases h012 with e | e | e
  · rw [sw_ws_0 e]
  · have q := sw_ws_1 e
    rw [q.2]
    exact sw_up_ne (fun z => h (by rw [z]; exact q.1))
  · rw [(sw_ws_2 e).2.2]
theorem sw_ws_OF {kd : Nat → Nat} {G : sw_G} {y t w : Nat} (h : G.1 w = -9) (h2 : G.2.1 w = -9) : (sw_ws kd G y t).2.1 w = -9 := by
  have le := sw_out_le (kd := kd) (G := G) (x := y) (w := t)
  have h012 : sw_out kd G y t = 0 ∨ sw_out kd G y t = 1 ∨ sw_out kd G y t = 2 := by omega
  rcases h012 with e | e | e
  · rw [sw_ws_0 e]; exact h2
  · rw [(sw_ws_1 e).2]; exact h2
  · have q := sw_ws_2 e
    rw [q.2.2]
    show sw_up _ _ _ _ = _
    rw [sw_up_ne (fun z => q.1 (by rw [← z]; exact h))]; exact h2
theorem sw_br_kids {N T : Nat} {kd : Nat → Nat} {un : Nat → Int32} {x w m y t : Nat} {G : sw_G} (h : sw_br N T kd un x w (m + 1) G = none) (hy : y < N) (ht : t < T) : sw_br N T kd un x w m (sw_ws kd G y t) = none := by
  have h1 := sw_fs_no N 0 h y (by omega) (by omega)
  have h2 := sw_fs_no T 0 h1 t (by omega) (by omega)
  cases e : sw_br N T kd un x w m (sw_ws kd G y t) with
  | none => rfl
  | some l => rw [e] at h2; cases h2
theorem sw_br_all {N T : Nat} {kd : Nat → Nat} {un : Nat → Int32} {x w m : Nat} {G : sw_G} (h : ∀ y t, y < N → t < T → sw_br N T kd un x w m (sw_ws kd G y t) = none) : sw_br N T kd un x w (m + 1) G = none := by
  refine sw_fs_all N 0 (fun y h1 h2 => ?_)
  refine sw_fs_all T 0 (fun t h3 h4 => ?_)
  rw [h y t (by omega) (by omega)]; rfl
theorem sw_br_oth {N T : Nat} {kd : Nat → Nat} {un : Nat → Int32} {x w : Nat} : ∀ (m : Nat) (G : sw_G), ¬ G.2.1 w = -9 → ¬ G.2.1 w = nI x → sw_br N T kd un x w m G = none
  | 0, G, h1, h2 => if_neg (fun q => h2 q.1)
  | m + 1, G, h1, h2 => sw_br_all (fun y t _ _ => sw_br_oth m _ (by rw [sw_ws_O h1]; exact h1) (by rw [sw_ws_O h1]; exact h2))
theorem sw_br_0 {N T : Nat} {kd : Nat → Nat} {un : Nat → Int32} {x w : Nat} {G : sw_G} (hx : x < 6) (h : G.2.1 w = -9) : sw_br N T kd un x w 0 G = none :=
  if_neg (fun q => ax_9ne (k := x) (by omega) (h ▸ q.1))
theorem sw_br_oo {N T : Nat} {kd : Nat → Nat} {un : Nat → Int32} {x w m : Nat} {G : sw_G} (hx : x < 6) (h : sw_oo x w m G = true) : sw_br N T kd un x w m G = none := by
  unfold sw_oo at h
  by_cases h1 : G.2.1 w = -9
  · rw [if_pos h1] at h
    by_cases h2 : G.1 w = -9
    · rw [if_pos h2, decide_eq_true_eq] at h
      match m, h with
      | 0, _ => exact sw_br_0 hx h1
      | 1, _ => exact sw_br_all (fun y t _ _ => sw_br_0 hx (sw_ws_OF h2 h1))
    · rw [if_neg h2, decide_eq_true_eq] at h
      have : m = 0 := by omega
      subst this
      exact sw_br_0 hx h1
  · rw [if_neg h1] at h
    refine sw_br_oth m G h1 ?_
    intro e
    rw [decide_eq_true e] at h
    cases h
theorem sw_cr_br {N T : Nat} {kd : Nat → Nat} {un : Nat → Int32} {x w : Nat} (hx : x < 6) : ∀ (m : Nat) (G : sw_G), (∀ k, k < m → sw_br N T kd un x w k G = none) → sw_cr N T kd un x w m G = sw_br N T kd un x w m G
  | 0, G, _ => by
    unfold sw_cr
    by_cases h : sw_oo x w 0 G = true
    · rw [if_pos h, sw_br_oo hx h]
    · rw [if_neg h]
      unfold sw_br
      have h1 : ¬ G.2.1 w = -9 := by
        intro e
        apply h
        unfold sw_oo
        rw [if_pos e]
        by_cases e2 : G.1 w = -9
        · rw [if_pos e2]; decide
        · rw [if_neg e2]; decide
      have h2 : G.2.1 w = nI x := by
        apply Decidable.byContradiction
        intro e
        apply h
        unfold sw_oo
        rw [if_neg h1, decide_eq_false e]; rfl
      by_cases h3 : ax_bt (sw_hd un G.2.2) w = true
      · rw [if_pos h3, if_pos ⟨h2, h3⟩]
      · rw [if_neg h3, if_neg (fun q => h3 q.2)]
  | m + 1, G, hm => by
    unfold sw_cr
    by_cases h : sw_oo x w (m + 1) G = true
    · rw [if_pos h, sw_br_oo hx h]
    · rw [if_neg h]
      unfold sw_br
      refine sw_fs_congr N 0 (fun y h1 h2 => ?_)
      refine sw_fs_congr T 0 (fun t h3 h4 => ?_)
      by_cases e : sw_out kd G y t = 0
      · rw [if_pos e, sw_ws_0 e, hm m (by omega)]; rfl
      · rw [if_neg e, sw_cr_br hx m (sw_ws kd G y t) (fun k hk => sw_br_kids (hm (k + 1) (by omega)) (by omega) (by omega))]
theorem cl_isOutOfReach {d x w m N T : Nat} {kd : Nat → Nat} {tl un : Nat → Int32} {W : Nat → Nat → Nat} {G : sw_G} {I : ax_I} {L : ax_J} {K : Int32 → ax_I → ax_J → Prop} (hC : sw_CA I N T kd tl un W G) (hx : x < 6) (hw : w < 6) (hm : m < 100) (hK : K (ax_b (sw_oo x w m G)) I L) : ax_CI (d + 1) 39 [ax_vr 2 0 48, ax_vi (nI x), ax_vi (nI w), ax_vi (nI m)] I L K := by
  have e1 : I 61 w = G.1 w := hC.2.2.2.1 w hw
  have e2 : I 62 w = G.2.1 w := hC.2.2.2.2.1 w hw
  apply vc_X2_isOutOfReach
  unfold sw_oo at hK
  simp (disch := omega) only [Bool.not_eq_false, Bool.not_eq_true, decide_eq_true_eq, decide_eq_false_iff_not, Bool.not_eq_true', Bool.not_eq_false', ax_lle, ax_llt, ax_lel, ax_ltl, ax_leq, ax_eql, ax_clampl, ax_inb_iff, nI_clamp, nI_1, nI_leI, nI_ltI, nI_eq, ax_b0, ax_b1, ax_bitb, ax_ui_eq, ax_ui_ne, true_and, and_true, e1, e2]
  refine ⟨hw, fun h => ⟨hw, fun h2 => ⟨fun h3 => ⟨by decide, ?_⟩, fun h3 => ⟨by decide, ?_⟩⟩, fun h2 => ⟨fun h3 => ⟨by decide, ?_⟩, fun h3 => ⟨by decide, ?_⟩⟩⟩, fun h => ⟨hw, fun h2 => ⟨by decide, ?_⟩, fun h2 => ⟨by decide, ?_⟩⟩⟩
  · rw [if_pos h, if_neg h2, decide_eq_false (by omega)] at hK; exact hK
  · rw [if_pos h, if_neg h2, decide_eq_true (by omega)] at hK; exact hK
  · rw [if_pos h, if_pos h2, decide_eq_false (by omega)] at hK; exact hK
  · rw [if_pos h, if_pos h2, decide_eq_true (by omega)] at hK; exact hK
  · rw [if_neg h, decide_eq_true h2] at hK; exact hK
  · rw [if_neg h, decide_eq_false h2] at hK; exact hK
theorem sw_CA.s68 {I : ax_I} {N T : Nat} {kd : Nat → Nat} {tl un : Nat → Int32} {W : Nat → Nat → Nat} {G : sw_G} {k : Nat} {v : Int32} (h : sw_CA I N T kd tl un W G) : sw_CA (ax_ui I 68 k v) N T kd tl un W G :=
  ⟨h.1.frame (ax_ui_row (by omega)) (ax_ui_row (by omega)), h.2.1.frame (fun a _ _ => ax_ui_row (by omega)), h.2.2.frame (fun a _ _ => ax_ui_row (by omega))⟩
theorem cl_reaches {N T x w : Nat} {kd : Nat → Nat} {tl un : Nat → Int32} {W : Nat → Nat → Nat} (hg : sw_TG N T kd tl un) (hx : x < 6) (hw : w < T) {L : ax_J} : ∀ (m : Nat) {d done : Nat} {G : sw_G} {I : ax_I} {K : Int32 → ax_I → ax_J → Prop}, done + m ≤ 3 → sw_CA I N T kd tl un W G → sw_GI N T G → (sw_cr N T kd un x w m G = none → ∀ I', sw_CA I' N T kd tl un W G → ax_FR 53 68 I I' → (∀ i, i < done → I' 68 i = I 68 i) → K 0 I' L) → (∀ l, sw_cr N T kd un x w m G = some l → ∀ I', sw_CA I' N T kd tl un W G → ax_FR 53 68 I I' → (∀ i, i < done → I' 68 i = I 68 i) → (∀ i, i < m → I' 68 (done + i) = nI (sw_nth l i)) → K 1 I' L) → ax_CI (d + m + 4) 38 [ax_vr 2 0 48, ax_vi (nI x), ax_vi (nI w), ax_vi (nI done), ax_vi (nI (done + m))] I L K := by
  have hT := hg.2.1
  have hN := hg.1
  intro m
  induction m with
  | zero =>
    intro d done G I K hdm hC hG h0 h1
    apply vc_X2_reaches
    rw [ax_nI_sub (by omega)]
    refine cl_isOutOfReach hC hx (by omega) (by omega) ?_
    rw [show done + 0 - done = 0 by omega]
    simp (disch := omega) only [Bool.not_eq_false, Bool.not_eq_true, decide_eq_true_eq, decide_eq_false_iff_not, Bool.not_eq_true', Bool.not_eq_false', ax_lle, ax_llt, ax_lel, ax_ltl, ax_leq, ax_eql, ax_clampl, ax_inb_iff, nI_clamp, nI_1, nI_leI, nI_ltI, nI_eq, ax_b0, ax_b1, ax_bitb, ax_ui_eq, ax_ui_ne, true_and, and_true, ax_bt_ask0]
    refine ⟨fun q => ⟨fun h => by omega, fun _ => ?_⟩, fun q => ⟨by decide, ?_⟩⟩
    · refine cl_holding hC.2.1 hC.2.2 (fun v hv => by have := hG.2.2.2.1 v hv; omega) hG.len ?_
      refine ⟨fun q2 => ⟨by decide, ?_⟩, fun q2 => ⟨by decide, ?_⟩⟩
      · refine h0 ?_ I hC ax_FR.refl (fun _ _ => rfl)
        unfold sw_cr; rw [if_neg (by rw [q]; decide), if_neg (by rw [q2]; decide)]
      · refine h1 [] ?_ I hC ax_FR.refl (fun _ _ => rfl) (fun i hi => by omega)
        unfold sw_cr; rw [if_neg (by rw [q]; decide), if_pos q2]
    · refine h0 ?_ I hC ax_FR.refl (fun _ _ => rfl)
      unfold sw_cr; rw [if_pos q]
  | succ m ih0 =>
    intro d done G I K hdm hC hG h0 h1
    apply vc_X2_reaches
    rw [ax_nI_sub (by omega)]
    refine cl_isOutOfReach hC hx (by omega) (by omega) ?_
    rw [show done + (m + 1) - done = m + 1 by omega]
    simp (disch := omega) only [Bool.not_eq_false, Bool.not_eq_true, decide_eq_true_eq, decide_eq_false_iff_not, Bool.not_eq_true', Bool.not_eq_false', ax_lle, ax_llt, ax_lel, ax_ltl, ax_leq, ax_eql, ax_clampl, ax_inb_iff, nI_clamp, nI_1, nI_leI, nI_ltI, nI_eq, ax_b0, ax_b1, ax_bitb, ax_ui_eq, ax_ui_ne, true_and, and_true]
    refine ⟨fun q => ⟨fun _ => ?_, fun h => by omega⟩, fun q => ⟨by decide, ?_⟩⟩
    · have hres : sw_cr N T kd un x w (m + 1) G = sw_fs (fun y => sw_fs (fun t => if sw_out kd G y t = 0 then none else (sw_cr N T kd un x w m (sw_ws kd G y t)).map (fun l => (10 * y + t) :: l)) T 0) N 0 := by
        conv => lhs; unfold sw_cr
        rw [if_neg (by rw [q]; decide)]
      generalize sw_cr N T kd un x w (m + 1) G = res at h0 h1 hres
      suffices ∀ (j y : Nat) (I1 : ax_I) (z6 z7 z8 : Option ax_V), y + j = N → res = sw_fs (fun y => sw_fs (fun t => if sw_out kd G y t = 0 then none else (sw_cr N T kd un x w m (sw_ws kd G y t)).map (fun l => (10 * y + t) :: l)) T 0) j y → sw_CA I1 N T kd tl un W G → ax_FR 53 68 I I1 → (∀ i, i < done → I1 68 i = I 68 i) → ax_AK ((d + m + 4)) 38 (48, [some (ax_vr 2 0 48), some (ax_vi (nI x)), some (ax_vi (nI w)), some (ax_vi (nI done)), some (ax_vi (nI (done + (m + 1)))), some (ax_vi (nI y)), z6, z7, z8], [], ax_mm I1 L) (ax_ki K) from
        this N 0 I none none none (by omega) hres hC ax_FR.refl (fun _ _ => rfl)
      intro j
      induction j with
      | zero =>
        intro y I1 z6 z7 z8 hy hr hC1 hf hlo
        apply vc_X2_reaches_48
        rw [hC1.2.1.1]
        simp (disch := omega) only [Bool.not_eq_false, Bool.not_eq_true, decide_eq_true_eq, decide_eq_false_iff_not, Bool.not_eq_true', Bool.not_eq_false', ax_lle, ax_llt, ax_lel, ax_ltl, ax_leq, ax_eql, ax_clampl, ax_inb_iff, nI_clamp, nI_1, nI_leI, nI_ltI, nI_eq, ax_b0, ax_b1, ax_bitb, ax_ui_eq, ax_ui_ne, true_and, and_true]
        exact ⟨fun _ => ⟨by decide, h0 hr I1 hC1 hf hlo⟩, fun h => by omega⟩
      | succ j ihj =>
        intro y I1 z6 z7 z8 hy hr hC1 hf hlo
        apply vc_X2_reaches_48
        rw [hC1.2.1.1]
        simp (disch := omega) only [Bool.not_eq_false, Bool.not_eq_true, decide_eq_true_eq, decide_eq_false_iff_not, Bool.not_eq_true', Bool.not_eq_false', ax_lle, ax_llt, ax_lel, ax_ltl, ax_leq, ax_eql, ax_clampl, ax_inb_iff, nI_clamp, nI_1, nI_leI, nI_ltI, nI_eq, ax_b0, ax_b1, ax_bitb, ax_ui_eq, ax_ui_ne, true_and, and_true]
        refine ⟨fun h => by omega, fun _ => ?_⟩
        suffices ∀ (i t : Nat) (I1 : ax_I) (z7 z8 : Option ax_V), t + i = T → res = (match sw_fs (fun t => if sw_out kd G y t = 0 then none else (sw_cr N T kd un x w m (sw_ws kd G y t)).map (fun l => (10 * y + t) :: l)) i t with | some l => some l | none => sw_fs (fun y => sw_fs (fun t => if sw_out kd G y t = 0 then none else (sw_cr N T kd un x w m (sw_ws kd G y t)).map (fun l => (10 * y + t) :: l)) T 0) j (y + 1)) → sw_CA I1 N T kd tl un W G → ax_FR 53 68 I I1 → (∀ i, i < done → I1 68 i = I 68 i) → ax_AK ((d + m + 4)) 38 (63, [some (ax_vr 2 0 48), some (ax_vi (nI x)), some (ax_vi (nI w)), some (ax_vi (nI done)), some (ax_vi (nI (done + (m + 1)))), some (ax_vi (nI y)), some (ax_vi (nI t)), z7, z8], [], ax_mm I1 L) (ax_ki K) from
          this T 0 I1 _ _ (by omega) hr hC1 hf hlo
        clear hr hC1 hf hlo I1
        intro i
        induction i with
        | zero =>
          intro t I1 z7 z8 ht hr hC1 hf hlo
          apply vc_X2_reaches_63
          rw [hC1.2.1.2.1]
          simp (disch := omega) only [Bool.not_eq_false, Bool.not_eq_true, decide_eq_true_eq, decide_eq_false_iff_not, Bool.not_eq_true', Bool.not_eq_false', ax_lle, ax_llt, ax_lel, ax_ltl, ax_leq, ax_eql, ax_clampl, ax_inb_iff, nI_clamp, nI_1, nI_leI, nI_ltI, nI_eq, ax_b0, ax_b1, ax_bitb, ax_ui_eq, ax_ui_ne, true_and, and_true]
          exact ⟨fun _ => ihj _ I1 _ _ _ (by omega) hr hC1 hf hlo, fun h => by omega⟩
        | succ i ihi =>
          intro t I1 z7 z8 ht hr hC1 hf hlo
          apply vc_X2_reaches_63
          rw [hC1.2.1.2.1]
          simp (disch := omega) only [Bool.not_eq_false, Bool.not_eq_true, decide_eq_true_eq, decide_eq_false_iff_not, Bool.not_eq_true', Bool.not_eq_false', ax_lle, ax_llt, ax_lel, ax_ltl, ax_leq, ax_eql, ax_clampl, ax_inb_iff, nI_clamp, nI_1, nI_leI, nI_ltI, nI_eq, ax_b0, ax_b1, ax_bitb, ax_ui_eq, ax_ui_ne, true_and, and_true]
          refine ⟨fun h => by omega, fun _ => ?_⟩
          have hG1 := hG.wish hN hT (kd := kd) (show y < N by omega) (show t < T by omega)
          refine ca_wish hC1 hg hG (by omega) (by omega) (fun I2 c2 f2 => ?_)
          have le := sw_out_le (kd := kd) (G := G) (x := y) (w := t)
          simp (disch := omega) only [Bool.not_eq_false, Bool.not_eq_true, decide_eq_true_eq, decide_eq_false_iff_not, Bool.not_eq_true', Bool.not_eq_false', ax_lle, ax_llt, ax_lel, ax_ltl, ax_leq, ax_eql, ax_clampl, ax_inb_iff, nI_clamp, nI_1, nI_leI, nI_ltI, nI_eq, ax_b0, ax_b1, ax_bitb, ax_ui_eq, ax_ui_ne, true_and, and_true]
          refine ⟨fun e => ?_, fun e => ?_⟩
          · refine ca_back c2 (by omega) (fun I3 c3 f3 => ?_)
            refine ⟨fun _ => ?_, fun z => absurd trivial z⟩
            rw [sw_fs_n (if_pos e)] at hr
            refine ihi _ I3 _ _ (by omega) hr c3 ((hf.trans (f2.wide (by omega) (by omega))).trans (f3.wide (by omega) (by omega))) (fun i hi => ?_)
            rw [f3 68 (by omega), f2 68 (by omega)]; exact hlo i hi
          · rw [show done + (m + 1) = (done + 1) + m by omega]
            refine ih0 (by omega) c2 hG1 (fun hn I3 c3 f3 l3 => ?_) (fun l hl I3 c3 f3 l3 v3 => ?_)
            · rw [sw_fs_n (by rw [if_neg e, hn]; rfl)] at hr
              refine ⟨fun _ => ?_, fun z => absurd rfl z⟩
              refine ca_back c3 (by omega) (fun I4 c4 f4 => ?_)
              refine ⟨fun _ => ?_, fun z => absurd trivial z⟩
              rw [show (done + 1) + m = done + (m + 1) by omega]
              refine ihi _ I4 _ _ (by omega) hr c4 (((hf.trans (f2.wide (by omega) (by omega))).trans f3).trans (f4.wide (by omega) (by omega))) (fun i hi => ?_)
              rw [f4 68 (by omega), l3 i (by omega), f2 68 (by omega)]; exact hlo i hi
            · rw [sw_fs_s (l := (10 * y + t) :: l) (by rw [if_neg e, hl]; rfl)] at hr
              refine ⟨fun z => absurd z (by decide), fun _ => ?_⟩
              refine ca_back c3 (by omega) (fun I4 c4 f4 => ?_)
              refine ⟨fun z => absurd z (by decide), fun _ => ⟨by omega, by decide, ?_⟩⟩
              simp (disch := omega) only [Bool.not_eq_false, Bool.not_eq_true, decide_eq_true_eq, decide_eq_false_iff_not, Bool.not_eq_true', Bool.not_eq_false', ax_lle, ax_llt, ax_lel, ax_ltl, ax_leq, ax_eql, ax_clampl, ax_inb_iff, nI_clamp, nI_1, nI_leI, nI_ltI, nI_eq, ax_b0, ax_b1, ax_bitb, ax_ui_eq, ax_ui_ne, true_and, and_true, ax_lmul, nI_add]
              refine h1 _ hr _ c4.s68 ((((hf.trans (f2.wide (by omega) (by omega))).trans f3).trans (f4.wide (by omega) (by omega))).ui (by omega) (by omega)) (fun i hi => ?_) (fun i hi => ?_)
              · rw [ax_ui_ne (by omega), f4 68 (by omega), l3 i (by omega), f2 68 (by omega)]; exact hlo i hi
              · match i with
                | 0 => exact ax_ui_eq
                | i + 1 =>
                  rw [ax_ui_ne (by omega), f4 68 (by omega), show done + (i + 1) = done + 1 + i by omega, v3 i (by omega)]
                  rfl
    · refine h0 ?_ I hC ax_FR.refl (fun _ _ => rfl)
      unfold sw_cr; rw [if_pos q]
