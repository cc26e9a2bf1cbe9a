/-! the reference's reader -/
def sw_RG (I : ax_I) (t n : Nat) (f : Nat → Int32) : Prop := I 189 t = nI n ∧ ∀ i, i < n → I 190 (80 * t + i) = f i
def sw_RD (I : ax_I) (t n : Nat) (f : Nat → Int32) (p Th M Wn Un : Nat) (kd : Nat → Nat) (tl : Nat → Int32) (W : Nat → Nat → Nat) (un : Nat → Int32) : Prop :=
  sw_RG I t n f ∧ I 184 16 = nI p ∧ I 184 17 = nI Th ∧ I 184 18 = nI M ∧ I 184 19 = nI Wn ∧ I 184 20 = nI Un ∧ (∀ x, x < M → I 195 x = nI (kd x)) ∧ (∀ x, x < M → I 196 x = tl x) ∧ (∀ x, x < 6 → ∀ w, w < 6 → I 197 (6 * x + w) = nI (W x w)) ∧ (∀ w, w < 6 → I 198 w = un w)
def sw_RF (I I' : ax_I) : Prop := (∀ a, ¬ a = 184 → a < 195 ∨ 198 < a → I' a = I a) ∧ ∀ b, b < 16 ∨ 21 < b → I' 184 b = I 184 b
theorem sw_RF.refl {I : ax_I} : sw_RF I I := ⟨fun _ _ _ => rfl, fun _ _ => rfl⟩
theorem sw_RF.ui {I I' : ax_I} {a b : Nat} {v : Int32} (h : sw_RF I I') (hc : (a = 184 ∧ 16 ≤ b ∧ b ≤ 21) ∨ (195 ≤ a ∧ a ≤ 198)) : sw_RF I (ax_ui I' a b v) :=
  ⟨fun x h1 h2 => by rw [ax_ui_row (by omega)]; exact h.1 x h1 h2, fun x hx => by rw [ax_ui_ne (by omega)]; exact h.2 x hx⟩
theorem sw_RF.trans {I J K : ax_I} (h : sw_RF I J) (g : sw_RF J K) : sw_RF I K := ⟨fun a h1 h2 => (g.1 a h1 h2).trans (h.1 a h1 h2), fun b hb => (g.2 b hb).trans (h.2 b hb)⟩
theorem sw_RD.u4 {I : ax_I} {t n p Th M Wn Un q : Nat} {f : Nat → Int32} {kd : Nat → Nat} {tl un : Nat → Int32} {W : Nat → Nat → Nat} (h : sw_RD I t n f p Th M Wn Un kd tl W un) : sw_RD (ax_ui I 184 16 (nI q)) t n f q Th M Wn Un kd tl W un := by
  obtain ⟨⟨h0, h1⟩, h2, h3, h4, h5, h6, h7, h8, h9, h10⟩ := h
  exact ⟨⟨by rw [ax_ui_ne (by omega)]; exact h0, fun i hi => by rw [ax_ui_ne (by omega)]; exact h1 i hi⟩, ax_ui_eq, by rw [ax_ui_ne (by omega)]; exact h3, by rw [ax_ui_ne (by omega)]; exact h4, by rw [ax_ui_ne (by omega)]; exact h5, by rw [ax_ui_ne (by omega)]; exact h6, fun x hx => by rw [ax_ui_ne (by omega)]; exact h7 x hx, fun x hx => by rw [ax_ui_ne (by omega)]; exact h8 x hx, fun x hx w hw => by rw [ax_ui_ne (by omega)]; exact h9 x hx w hw, fun w hw => by rw [ax_ui_ne (by omega)]; exact h10 w hw⟩
theorem sw_RD.u21 {I : ax_I} {t n p Th M Wn Un : Nat} {v : Int32} {f : Nat → Int32} {kd : Nat → Nat} {tl un : Nat → Int32} {W : Nat → Nat → Nat} (h : sw_RD I t n f p Th M Wn Un kd tl W un) : sw_RD (ax_ui I 184 21 v) t n f p Th M Wn Un kd tl W un := by
  obtain ⟨⟨h0, h1⟩, h2, h3, h4, h5, h6, h7, h8, h9, h10⟩ := h
  exact ⟨⟨by rw [ax_ui_ne (by omega)]; exact h0, fun i hi => by rw [ax_ui_ne (by omega)]; exact h1 i hi⟩, by rw [ax_ui_ne (by omega)]; exact h2, by rw [ax_ui_ne (by omega)]; exact h3, by rw [ax_ui_ne (by omega)]; exact h4, by rw [ax_ui_ne (by omega)]; exact h5, by rw [ax_ui_ne (by omega)]; exact h6, fun x hx => by rw [ax_ui_ne (by omega)]; exact h7 x hx, fun x hx => by rw [ax_ui_ne (by omega)]; exact h8 x hx, fun x hx w hw => by rw [ax_ui_ne (by omega)]; exact h9 x hx w hw, fun w hw => by rw [ax_ui_ne (by omega)]; exact h10 w hw⟩
def sw_s00 (n : Nat) (f : Nat → Int32) (p : Nat) : Int32 := if p < n then f p else 0
theorem rf_byteAt {d t n p : Nat} {f : Nat → Int32} {I : ax_I} {L : ax_J} {K : Int32 → ax_I → ax_J → Prop} (hg : sw_RG I t n f) (ht : t < 4) (hn : n ≤ 80) (hp : p ≤ n) (hK : K (sw_s00 n f p) I L) : ax_CI (d + 1) 171 [ax_vr 9 0 184, ax_vi (nI t), ax_vi (nI p)] I L K := by
  apply vc_X9_byteAt
  unfold sw_s00 at hK
  refine ⟨ax_inb_nI (by omega) (by omega), ?_⟩
  rw [nI_clamp (by omega), hg.1]
  by_cases q : p < n
  · rw [if_pos q] at hK
    refine ax_cf (fun z => by have := (nI_leI (by omega) (by omega)).mp z; omega) ?_
    rw [show (80 : Int32) = nI 80 from rfl, ax_nI_mul, nI_add]
    refine ⟨ax_inb_nI (by omega) (by omega), ?_⟩
    rw [nI_clamp (by omega), hg.2 p q]; exact hK
  · rw [if_neg q] at hK
    exact ax_ct ((nI_leI (by omega) (by omega)).mpr (by omega)) hK
theorem rf_figure {d t n p lo hi : Nat} {f : Nat → Int32} {I : ax_I} {L : ax_J} {K : Int32 → ax_I → ax_J → Prop} (hg : sw_RG I t n f) (he : I 184 16 = nI p) (ht : t < 4) (hn : n ≤ 80) (hp : p ≤ n) (hlo : lo < 2 ^ 31) (hhi : hi < 2 ^ 31) (h1 : ∀ v, sw_fg n f p lo hi = some v → K 1 (ax_ui (ax_ui I 184 21 (nI v)) 184 16 (nI (p + 1))) L) (h0 : ∀ j, sw_fg n f p lo hi = none → K 0 (ax_ui (ax_ui I 184 21 j) 184 16 (nI p)) L) : ax_CI (d + 2) 174 [ax_vr 9 0 184, ax_vi (nI t), ax_vi (nI lo), ax_vi (nI hi)] I L K := by
  apply vc_X9_figure
  rw [he]
  refine rf_byteAt hg ht hn hp ?_
  rw [ax_ui_eq]
  refine rf_in ?_
  rw [ax_ui_ne (by omega), he, nI_1]
  cases hf : sw_fg n f p lo hi with
  | some v =>
    obtain ⟨g1, g2, g3, g4⟩ := sw_fg_v hlo hhi hf
    have e : sw_s00 n f p - 48 = nI v := by unfold sw_s00; rw [if_pos g1]; exact g4
    rw [e, decide_eq_true ((nI_leI (by omega) (by omega)).mpr g2), decide_eq_true ((nI_leI (by omega) (by omega)).mpr g3)]
    exact ax_cf (by decide) ⟨by decide, h1 v hf⟩
  | none =>
    have e : (decide (nI lo ≤ sw_s00 n f p - 48) && decide (sw_s00 n f p - 48 ≤ nI hi)) = false := by
      unfold sw_s00
      by_cases q : p < n
      · rw [if_pos q]
        rcases sw_fg_no hf with z | z | z
        · omega
        · rw [decide_eq_false (Int32.not_le.mpr z), Bool.false_and]
        · rw [decide_eq_false (Int32.not_le.mpr z), Bool.and_false]
      · rw [if_neg q, decide_eq_false (Int32.not_le.mpr (Int32.lt_of_lt_of_le (by decide) (nI_pos' hlo))), Bool.false_and]
    rw [e]
    refine ax_ct rfl ⟨by decide, ?_⟩
    rw [Int32.add_zero]
    exact h0 _ hf
theorem rf_kindOf {d : Nat} {c : Int32} {I : ax_I} {L : ax_J} {K : Int32 → ax_I → ax_J → Prop} (hK : K (match sw_kn c with | some k => nI k | none => -9) I L) : ax_CI (d + 1) 173 [ax_vi c] I L K := by
  apply vc_X9_kindOf
  unfold sw_kn at hK
  refine ax_if (fun e => ?_) (fun e3 => ?_)
  · subst e; exact hK
  refine ax_if (fun e => ?_) (fun e2 => ?_)
  · subst e; exact hK
  refine ax_if (fun e => ?_) (fun _ => ?_)
  · subst e; exact hK
  refine ax_if (fun e => ?_) (fun _ => ?_)
  · subst e; exact hK
  refine ax_if (fun e => ?_) (fun _ => ?_)
  · subst e; exact hK
  refine ax_if (fun e => ?_) (fun _ => ?_)
  · subst e; exact hK
  refine ax_if (fun e => ?_) (fun _ => ?_)
  · subst e; exact hK
  refine ax_if (fun e => ?_) (fun _ => ?_)
  · subst e; exact hK
  refine ax_if (fun e => ?_) (fun _ => ?_)
  · subst e; exact hK
  refine ax_if (fun e => ?_) (fun e5 => ?_)
  · subst e; exact hK
  refine ax_if (fun e => ?_) (fun e4 => ?_)
  · subst e; exact hK
  refine ax_if (fun e => ?_) (fun e1 => ?_)
  · subst e; exact hK
  refine ax_if (fun e => ?_) (fun _ => ?_)
  · subst e; exact hK
  refine ax_if (fun e => ?_) (fun e0 => ?_)
  · subst e; exact hK
  rw [if_neg e0, if_neg e1, if_neg e2, if_neg e3, if_neg e4, if_neg e5] at hK
  exact hK
def sw_PB (n p Th M Wn Un : Nat) : Prop := p ≤ n ∧ Th ≤ 6 ∧ M ≤ 6 ∧ Wn ≤ 16 ∧ Un ≤ 6
theorem rf_readsThings {d t n p M Wn Un : Nat} {f : Nat → Int32} {kd : Nat → Nat} {tl un : Nat → Int32} {W : Nat → Nat → Nat} {I : ax_I} {L : ax_J} {K : Int32 → ax_I → ax_J → Prop} (h : sw_RD I t n f p 0 M Wn Un kd tl W un) (ht : t < 4) (hn : n ≤ 80) (hp : p < n) (hB : sw_PB n p 0 M Wn Un) (nb : ¬ f p = 32)
    (h0 : ∀ I' e, sw_R n f (p, 0, M, Wn, Un, kd, tl, W, un) = .inl e → I' 184 16 = nI e → sw_RF I I' → K 0 I' L)
    (h1 : ∀ I' p' v, sw_R n f (p, 0, M, Wn, Un, kd, tl, W, un) = sw_R n f (p', v, M, Wn, Un, kd, tl, W, un) → p < p' → sw_PB n p' v M Wn Un → sw_RD I' t n f p' v M Wn Un kd tl W un → sw_RF I I' → K 1 I' L) : ax_CI (d + 3) 175 [ax_vr 9 0 184, ax_vi (nI t)] I L K := by
  apply vc_X9_readsThings
  have he := h.2.1
  rw [he]
  refine rf_byteAt h.1 ht hn (by omega) ?_
  unfold sw_s00
  rw [if_pos hp, he, nI_1]
  by_cases b : f p = 116
  · refine ax_ct b ?_
    have ns : sw_stp n f (p, 0, M, Wn, Un, kd, tl, W, un) = (match sw_fg n f (p + 1) 1 6 with | some v => .inr (p + 2, v, M, Wn, Un, kd, tl, W, un) | none => .inl (p + 1)) := by
      unfold sw_stp; dsimp only; rw [if_pos rfl, if_pos b]; rfl
    have h2 := h.u4 (q := p + 1)
    have r2 : sw_RF I (ax_ui I 184 16 (nI (p + 1))) := sw_RF.refl.ui (by omega)
    refine rf_figure (lo := 1) (hi := 6) h2.1 h2.2.1 ht hn (by omega) (by omega) (by omega) (fun v hv => ?_) (fun j hv => ?_)
    · obtain ⟨g1, g2, g3, g4⟩ := sw_fg_v (by omega) (by omega) hv
      rw [hv] at ns
      refine ax_cf (by decide) ⟨by decide, ?_⟩
      rw [ax_ui_ne (by omega), ax_ui_eq]
      obtain ⟨⟨k0, k1⟩, k2, k3, k4, k5, k6, k7, k8, k9, k10⟩ := (h2.u21 (v := nI v)).u4 (q := p + 1 + 1)
      refine h1 _ (p + 2) v (sw_R_go hp nb ns) (by omega) ⟨by omega, by omega, hB.2.2.1, hB.2.2.2.1, hB.2.2.2.2⟩ ?_ (((r2.ui (by omega)).ui (by omega)).ui (by omega))
      exact ⟨⟨by rw [ax_ui_ne (by omega)]; exact k0, fun i hi => by rw [ax_ui_ne (by omega)]; exact k1 i hi⟩, by rw [ax_ui_ne (by omega)]; exact k2, ax_ui_eq, by rw [ax_ui_ne (by omega)]; exact k4, by rw [ax_ui_ne (by omega)]; exact k5, by rw [ax_ui_ne (by omega)]; exact k6, fun x hx => by rw [ax_ui_ne (by omega)]; exact k7 x hx, fun x hx => by rw [ax_ui_ne (by omega)]; exact k8 x hx, fun x hx w hw => by rw [ax_ui_ne (by omega)]; exact k9 x hx w hw, fun w hw => by rw [ax_ui_ne (by omega)]; exact k10 w hw⟩
    · rw [hv] at ns
      refine ax_ct rfl ⟨by decide, ?_⟩
      refine h0 _ (p + 1) (sw_R_no hp nb ns) ?_ (((r2.ui (by omega)).ui (by omega)).ui (by omega))
      rw [ax_ui_ne (by omega)]; exact ax_ui_eq
  · refine ax_cf b ⟨by decide, ?_⟩
    refine h0 I p (sw_R_no hp nb ?_) he sw_RF.refl
    unfold sw_stp; dsimp only; rw [if_pos rfl, if_neg b]
theorem rf_figR {d t n p Th M Wn Un lo hi : Nat} {f : Nat → Int32} {kd : Nat → Nat} {tl un : Nat → Int32} {W : Nat → Nat → Nat} {I : ax_I} {L : ax_J} {K : Int32 → ax_I → ax_J → Prop} (h : sw_RD I t n f p Th M Wn Un kd tl W un) (ht : t < 4) (hn : n ≤ 80) (hp : p ≤ n) (hlo : lo < 2 ^ 31) (hhi : hi < 2 ^ 31) (h1 : ∀ I' v, sw_fg n f p lo hi = some v → I' 184 21 = nI v → sw_RD I' t n f (p + 1) Th M Wn Un kd tl W un → sw_RF I I' → K 1 I' L) (h0 : ∀ I', sw_fg n f p lo hi = none → I' 184 16 = nI p → sw_RF I I' → K 0 I' L) : ax_CI (d + 2) 174 [ax_vr 9 0 184, ax_vi (nI t), ax_vi (nI lo), ax_vi (nI hi)] I L K :=
  rf_figure h.1 h.2.1 ht hn hp hlo hhi (fun v hv => h1 _ v hv (by rw [ax_ui_ne (by omega)]; exact ax_ui_eq) h.u21.u4 ((sw_RF.refl.ui (by omega)).ui (by omega))) (fun j hv => h0 _ hv ax_ui_eq ((sw_RF.refl.ui (by omega)).ui (by omega)))
theorem rf_readsWant {d t n p Th M Wn Un : Nat} {f : Nat → Int32} {kd : Nat → Nat} {tl un : Nat → Int32} {W : Nat → Nat → Nat} {I : ax_I} {L : ax_J} {K : Int32 → ax_I → ax_J → Prop} (h : sw_RD I t n f p Th M Wn Un kd tl W un) (ht : t < 4) (hn : n ≤ 80) (hp : p < n) (hB : sw_PB n p Th M Wn Un) (hT : ¬ Th = 0) (b : f p = 119)
    (h0 : ∀ I' e, sw_R n f (p, Th, M, Wn, Un, kd, tl, W, un) = .inl e → I' 184 16 = nI e → sw_RF I I' → K 0 I' L)
    (h1 : ∀ I' p' W', sw_R n f (p, Th, M, Wn, Un, kd, tl, W, un) = sw_R n f (p', Th, M, Wn + 1, Un, kd, tl, W', un) → p < p' → sw_PB n p' Th M (Wn + 1) Un → sw_RD I' t n f p' Th M (Wn + 1) Un kd tl W' un → sw_RF I I' → K 1 I' L) : ax_CI (d + 3) 177 [ax_vr 9 0 184, ax_vi (nI t)] I L K := by
  apply vc_X9_readsWant
  obtain ⟨b1, b2, b3, b4, b5⟩ := hB
  have nb : ¬ f p = 32 := by rw [b]; decide
  have h' := h
  obtain ⟨_, he, e17, e18, e19, e20, _⟩ := h'
  rw [e18, e19, e20, he, nI_1, ax_ui_ne (by omega), e18]
  have no : (M = 0 ∨ Wn = 16 ∨ 0 < Un) → sw_R n f (p, Th, M, Wn, Un, kd, tl, W, un) = .inl p := fun z => by
    refine sw_R_no hp nb ?_
    unfold sw_stp; dsimp only; rw [if_neg hT, if_pos b, if_pos z]
  by_cases z1 : M = 0
  · exact ax_ct (by rw [z1]; rfl) ⟨by decide, h0 I p (no (.inl z1)) he sw_RF.refl⟩
  refine ax_cf (fun z => z1 ((nI_eq (b := 0) (by omega) (by omega)).mp z)) ?_
  by_cases z2 : Wn = 16
  · exact ax_ct (by rw [z2]; rfl) ⟨by decide, h0 I p (no (.inr (.inl z2))) he sw_RF.refl⟩
  refine ax_cf (fun z => z2 ((nI_eq (b := 16) (by omega) (by omega)).mp z)) ?_
  by_cases z3 : 0 < Un
  · exact ax_cf (fun z => by have := (nI_leI (b := 0) (by omega) (by omega)).mp z; omega) ⟨by decide, h0 I p (no (.inr (.inr z3))) he sw_RF.refl⟩
  refine ax_ct ((nI_leI (b := 0) (by omega) (by omega)).mpr (by omega)) ?_
  have ns : sw_stp n f (p, Th, M, Wn, Un, kd, tl, W, un) = (match sw_fg n f (p + 1) 0 (M - 1) with
      | none => .inl (p + 1)
      | some x => match sw_fg n f (p + 2) 0 (Th - 1) with
        | none => .inl (p + 2)
        | some w => match sw_fg n f (p + 3) 1 9 with
          | none => .inl (p + 3)
          | some v => .inr (p + 4, Th, M, Wn + 1, Un, kd, tl, sw_wu W x w v, un)) := by
    unfold sw_stp; dsimp only; rw [if_neg hT, if_pos b, if_neg (by omega)]; rfl
  have h2 := h.u4 (q := p + 1)
  have r2 : sw_RF I (ax_ui I 184 16 (nI (p + 1))) := sw_RF.refl.ui (by omega)
  rw [ax_nI_s1 (by omega)]
  refine rf_figR (lo := 0) (hi := M - 1) h2 ht hn (by omega) (by omega) (by omega) (fun I3 x hx x3 h3 r3 => ?_) (fun I3 hv x3 r3 => ?_)
  case refine_2 =>
    rw [hv] at ns
    exact ax_nf rfl ⟨by decide, h0 _ (p + 1) (sw_R_no hp nb ns) x3 (r2.trans r3)⟩
  obtain ⟨g1, g2, g3, g4⟩ := sw_fg_v (by omega) (by omega) hx
  rw [hx] at ns
  dsimp only at ns
  refine ax_nt (by decide) ?_
  rw [h3.2.2.1, ax_nI_s1 (by omega), x3]
  refine rf_figR (lo := 0) (hi := Th - 1) h3 ht hn (by omega) (by omega) (by omega) (fun I4 w hw x4 h4 r4 => ?_) (fun I4 hv x4 r4 => ?_)
  case refine_2 =>
    rw [hv] at ns
    exact ax_nf rfl ⟨by decide, h0 _ (p + 2) (sw_R_no hp nb ns) x4 ((r2.trans r3).trans r4)⟩
  obtain ⟨i1, i2, i3, i4⟩ := sw_fg_v (by omega) (by omega) hw
  rw [hw] at ns
  dsimp only at ns
  refine ax_nt (by decide) ?_
  rw [x4]
  refine rf_figR (lo := 1) (hi := 9) h4 ht hn (by omega) (by omega) (by omega) (fun I5 v hv x5 h5 r5 => ?_) (fun I5 hv x5 r5 => ?_)
  case refine_2 =>
    rw [hv] at ns
    exact ax_nf rfl ⟨by decide, h0 _ (p + 3) (sw_R_no hp nb ns) x5 (((r2.trans r3).trans r4).trans r5)⟩
  obtain ⟨j1, j2, j3, j4⟩ := sw_fg_v (by omega) (by omega) hv
  rw [hv] at ns
  dsimp only at ns
  rw [show (6 : Int32) = nI 6 from rfl, ax_nI_mul, nI_add]
  refine ax_nt (by decide) ⟨ax_inb_nI (by omega) (by omega), by decide, ?_⟩
  obtain ⟨⟨k0, k1⟩, k2, k3, k4, k5, k6, k7, k8, k9, k10⟩ := h5
  rw [nI_clamp (by omega), x5, ax_ui_ne (by omega), k5, nI_1]
  refine h1 _ (p + 4) (sw_wu W x w v) (sw_R_go hp nb ns) (by omega) ⟨by omega, by omega, by omega, by omega, by omega⟩ ?_ (((((r2.trans r3).trans r4).trans r5).ui (by omega)).ui (by omega))
  refine ⟨⟨by rw [ax_ui_ne (by omega), ax_ui_ne (by omega)]; exact k0, fun i hi => by rw [ax_ui_ne (by omega), ax_ui_ne (by omega)]; exact k1 i hi⟩, by rw [ax_ui_ne (by omega), ax_ui_ne (by omega)]; exact k2, by rw [ax_ui_ne (by omega), ax_ui_ne (by omega)]; exact k3, by rw [ax_ui_ne (by omega), ax_ui_ne (by omega)]; exact k4, ax_ui_eq, by rw [ax_ui_ne (by omega), ax_ui_ne (by omega)]; exact k6, fun x hx => by rw [ax_ui_ne (by omega), ax_ui_ne (by omega)]; exact k7 x hx, fun x hx => by rw [ax_ui_ne (by omega), ax_ui_ne (by omega)]; exact k8 x hx, fun a ha b hb => ?_, fun w hw => by rw [ax_ui_ne (by omega), ax_ui_ne (by omega)]; exact k10 w hw⟩
  rw [ax_ui_ne (by omega)]
  unfold sw_wu
  by_cases z : a = x ∧ b = w
  · obtain ⟨rfl, rfl⟩ := z
    rw [if_pos ⟨rfl, rfl⟩]; exact ax_ui_eq
  · rw [if_neg z, ax_ui_ne (by omega)]; exact k9 a ha b hb
theorem rf_readsUndoing {d t n p Th M Wn Un : Nat} {f : Nat → Int32} {kd : Nat → Nat} {tl un : Nat → Int32} {W : Nat → Nat → Nat} {I : ax_I} {L : ax_J} {K : Int32 → ax_I → ax_J → Prop} (h : sw_RD I t n f p Th M Wn Un kd tl W un) (ht : t < 4) (hn : n ≤ 80) (hp : p < n) (hB : sw_PB n p Th M Wn Un) (hT : ¬ Th = 0) (b : f p = 117)
    (h0 : ∀ I' e, sw_R n f (p, Th, M, Wn, Un, kd, tl, W, un) = .inl e → I' 184 16 = nI e → sw_RF I I' → K 0 I' L)
    (h1 : ∀ I' p' un', sw_R n f (p, Th, M, Wn, Un, kd, tl, W, un) = sw_R n f (p', Th, M, Wn, Un + 1, kd, tl, W, un') → p < p' → sw_PB n p' Th M Wn (Un + 1) → sw_RD I' t n f p' Th M Wn (Un + 1) kd tl W un' → sw_RF I I' → K 1 I' L) : ax_CI (d + 3) 178 [ax_vr 9 0 184, ax_vi (nI t)] I L K := by
  apply vc_X9_readsUndoing
  obtain ⟨b1, b2, b3, b4, b5⟩ := hB
  have nb : ¬ f p = 32 := by rw [b]; decide
  have n119 : ¬ f p = 119 := by rw [b]; decide
  have h' := h
  obtain ⟨_, he, e17, e18, e19, e20, _⟩ := h'
  rw [e18, e20, he, nI_1, ax_ui_ne (by omega), e17]
  have no : (M = 0 ∨ Un = 6) → sw_R n f (p, Th, M, Wn, Un, kd, tl, W, un) = .inl p := fun z => by
    refine sw_R_no hp nb ?_
    unfold sw_stp; dsimp only; rw [if_neg hT, if_neg n119, if_pos b, if_pos z]
  by_cases z1 : M = 0
  · exact ax_ct (by rw [z1]; rfl) ⟨by decide, h0 I p (no (.inl z1)) he sw_RF.refl⟩
  refine ax_cf (fun z => z1 ((nI_eq (b := 0) (by omega) (by omega)).mp z)) ?_
  by_cases z2 : Un = 6
  · exact ax_nf (by rw [z2]; rfl) ⟨by decide, h0 I p (no (.inr z2)) he sw_RF.refl⟩
  refine ax_nt (fun z => z2 ((nI_eq (b := 6) (by omega) (by omega)).mp z)) ?_
  have ns : sw_stp n f (p, Th, M, Wn, Un, kd, tl, W, un) = (match sw_fg n f (p + 1) 0 (Th - 1) with
      | none => .inl (p + 1)
      | some w => match sw_fg n f (p + 2) 0 (Th - 1) with
        | none => .inl (p + 2)
        | some v => if v = w then .inl (p + 2) else .inr (p + 3, Th, M, Wn, Un + 1, kd, tl, W, sw_up un w (un w ||| (1 : Int32) <<< (nI v &&& 31)))) := by
    unfold sw_stp; dsimp only; rw [if_neg hT, if_neg n119, if_pos b, if_neg (by omega)]; rfl
  have h2 := h.u4 (q := p + 1)
  have r2 : sw_RF I (ax_ui I 184 16 (nI (p + 1))) := sw_RF.refl.ui (by omega)
  rw [ax_nI_s1 (by omega)]
  refine rf_figR (lo := 0) (hi := Th - 1) h2 ht hn (by omega) (by omega) (by omega) (fun I3 w hw x3 h3 r3 => ?_) (fun I3 hv x3 r3 => ?_)
  case refine_2 =>
    rw [hv] at ns
    exact ax_nf rfl ⟨by decide, h0 _ (p + 1) (sw_R_no hp nb ns) x3 (r2.trans r3)⟩
  obtain ⟨g1, g2, g3, g4⟩ := sw_fg_v (by omega) (by omega) hw
  rw [hw] at ns
  dsimp only at ns
  refine ax_nt (by decide) ?_
  have rr := r2.trans r3
  obtain ⟨⟨k0, k1⟩, k2, k3, k4, k5, k6, k7, k8, k9, k10⟩ := h3
  rw [k2]
  refine rf_byteAt ⟨k0, k1⟩ ht hn (by omega) ?_
  rw [k3, ax_nI_s1 (by omega), x3]
  refine rf_in ?_
  cases hv : sw_fg n f (p + 2) 0 (Th - 1) with
  | none =>
    have e : (decide (0 ≤ sw_s00 n f (p + 1 + 1) - 48) && decide (sw_s00 n f (p + 1 + 1) - 48 ≤ nI (Th - 1))) = false := by
      unfold sw_s00
      by_cases q : p + 1 + 1 < n
      · rw [if_pos q]
        rcases sw_fg_no hv with z | z | z
        · omega
        · have z : f (p + 1 + 1) - 48 < 0 := z
          rw [decide_eq_false (Int32.not_le.mpr z), Bool.false_and]
        · rw [decide_eq_false (Int32.not_le.mpr z), Bool.and_false]
      · rw [if_neg q, decide_eq_false (by decide), Bool.false_and]
    rw [e]
    rw [hv] at ns
    exact ax_ct rfl ⟨by decide, h0 _ (p + 2) (sw_R_no hp nb ns) k2 rr⟩
  | some v =>
    obtain ⟨i1, i2, i3, i4⟩ := sw_fg_v (by omega) (by omega) hv
    have e : sw_s00 n f (p + 1 + 1) - 48 = nI v := by unfold sw_s00; rw [if_pos i1]; exact i4
    rw [e, decide_eq_true (show (0 : Int32) ≤ nI v from nI_pos' (by omega)), decide_eq_true ((nI_leI (by omega) (by omega)).mpr i3)]
    refine ax_cf (by decide) ?_
    rw [hv] at ns
    dsimp only at ns
    by_cases z : v = w
    · rw [if_pos z] at ns
      exact ax_nf (by rw [z]) ⟨by decide, h0 _ (p + 2) (sw_R_no hp nb ns) k2 rr⟩
    · rw [if_neg z] at ns
      refine ax_nt (fun z2 => z ((nI_eq (by omega) (by omega)).mp z2)) ⟨ax_inb_nI (by omega) (by omega), ax_inb_nI (by omega) (by omega), by decide, ?_⟩
      rw [nI_clamp (by omega), k2, nI_1, ax_ui_ne (a := 184) (b := 20) (by omega), ax_ui_ne (a := 184) (b := 20) (by omega), k6, nI_1, ax_ui_ne (a := 198) (by omega), k10 w (by omega)]
      refine h1 _ (p + 3) _ (sw_R_go hp nb ns) (by omega) ⟨by omega, by omega, by omega, by omega, by omega⟩ ?_ (((rr.ui (by omega)).ui (by omega)).ui (by omega))
      refine ⟨⟨by rw [ax_ui_ne (by omega), ax_ui_ne (by omega), ax_ui_ne (by omega)]; exact k0, fun i hi => by rw [ax_ui_ne (by omega), ax_ui_ne (by omega), ax_ui_ne (by omega)]; exact k1 i hi⟩, by rw [ax_ui_ne (by omega), ax_ui_ne (by omega)]; exact ax_ui_eq, by rw [ax_ui_ne (by omega), ax_ui_ne (by omega), ax_ui_ne (by omega)]; exact k3, by rw [ax_ui_ne (by omega), ax_ui_ne (by omega), ax_ui_ne (by omega)]; exact k4, by rw [ax_ui_ne (by omega), ax_ui_ne (by omega), ax_ui_ne (by omega)]; exact k5, ax_ui_eq, fun x hx => by rw [ax_ui_ne (by omega), ax_ui_ne (by omega), ax_ui_ne (by omega)]; exact k7 x hx, fun x hx => by rw [ax_ui_ne (by omega), ax_ui_ne (by omega), ax_ui_ne (by omega)]; exact k8 x hx, fun a ha b hb => by rw [ax_ui_ne (by omega), ax_ui_ne (by omega), ax_ui_ne (by omega)]; exact k9 a ha b hb, fun a ha => ?_⟩
      rw [ax_ui_ne (by omega)]
      by_cases e : a = w
      · rw [e, ax_ui_eq, sw_up_eq]
      · rw [ax_ui_ne (by omega), ax_ui_ne (by omega), sw_up_ne e]; exact k10 a ha
theorem rf_readsOne {d t n p Th M Wn Un : Nat} {f : Nat → Int32} {kd : Nat → Nat} {tl un : Nat → Int32} {W : Nat → Nat → Nat} {I : ax_I} {L : ax_J} {K : Int32 → ax_I → ax_J → Prop} (h : sw_RD I t n f p Th M Wn Un kd tl W un) (ht : t < 4) (hn : n ≤ 80) (hp : p < n) (hB : sw_PB n p Th M Wn Un) (hT : ¬ Th = 0) (nb : ¬ f p = 32) (n119 : ¬ f p = 119) (n117 : ¬ f p = 117)
    (h0 : ∀ I' e, sw_R n f (p, Th, M, Wn, Un, kd, tl, W, un) = .inl e → I' 184 16 = nI e → sw_RF I I' → K 0 I' L)
    (h1 : ∀ I' p' kd' tl', sw_R n f (p, Th, M, Wn, Un, kd, tl, W, un) = sw_R n f (p', Th, M + 1, Wn, Un, kd', tl', W, un) → p < p' → sw_PB n p' Th (M + 1) Wn Un → sw_RD I' t n f p' Th (M + 1) Wn Un kd' tl' W un → sw_RF I I' → K 1 I' L) : ax_CI (d + 4) 176 [ax_vr 9 0 184, ax_vi (nI t)] I L K := by
  apply vc_X9_readsOne
  obtain ⟨b1, b2, b3, b4, b5⟩ := hB
  have h' := h
  obtain ⟨hg, he, e17, e18, e19, e20, _⟩ := h'
  rw [he]
  refine rf_byteAt hg ht hn (by omega) ?_
  have e0 : sw_s00 n f p = f p := by unfold sw_s00; rw [if_pos hp]
  rw [e0]
  refine rf_kindOf ?_
  rw [e18, e19, e20, he, nI_1, nI_add]
  cases hk : sw_kn (f p) with
  | none =>
    refine ax_ct rfl ⟨by decide, h0 I p (sw_R_no hp nb ?_) he sw_RF.refl⟩
    unfold sw_stp; dsimp only; rw [if_neg hT, if_neg n119, if_neg n117, hk]
  | some k =>
    have hk6 := (sw_kn_ne hk).1
    refine ax_cf (ax_ne9 (by omega)) ?_
    by_cases z1 : M = 6
    · refine ax_ct (by rw [z1]; rfl) ⟨by decide, h0 I p (sw_R_no hp nb ?_) he sw_RF.refl⟩
      unfold sw_stp; dsimp only; rw [if_neg hT, if_neg n119, if_neg n117, hk]; exact if_pos (.inl z1)
    refine ax_cf (fun z => z1 ((nI_eq (b := 6) (by omega) (by omega)).mp z)) ?_
    by_cases z2 : 0 < Wn + Un
    · refine ax_cf (fun z => by have := (nI_leI (b := 0) (by omega) (by omega)).mp z; omega) ⟨by decide, h0 I p (sw_R_no hp nb ?_) he sw_RF.refl⟩
      unfold sw_stp; dsimp only; rw [if_neg hT, if_neg n119, if_neg n117, hk]; exact if_pos (.inr z2)
    refine ax_ct ((nI_leI (b := 0) (by omega) (by omega)).mpr (by omega)) ?_
    have ns : sw_stp n f (p, Th, M, Wn, Un, kd, tl, W, un) = .inr ((sw_ris n f 6 (p + 1) 0 0).1, Th, M + 1, Wn, Un, sw_nu kd M k, sw_up tl M (sw_ris n f 6 (p + 1) 0 0).2, W, un) := by
      unfold sw_stp; dsimp only; rw [if_neg hT, if_neg n119, if_neg n117, hk]; exact if_neg (by omega)
    have hgo := sw_R_go hp nb ns
    have hle := sw_ris_le (n := n) (f := f) 6 (p + 1) 0 0
    suffices ∀ (c lo q : Nat) (b : Int32) (I1 : ax_I), 6 ≤ lo + c → lo ≤ 6 → sw_ris n f c q lo b = sw_ris n f 6 (p + 1) 0 0 → q ≤ n → sw_RD I1 t n f q Th M Wn Un kd tl W un → sw_RF I I1 → ax_AK ((d + 3)) 176 (57, [some (ax_vr 9 0 184), some (ax_vi (nI t)), some (ax_vi (nI k)), some (ax_vi b), some (ax_vi ((nI lo - 1)))], [], ax_mm I1 L) (ax_ki K) from this 6 0 (p + 1) 0 _ (by omega) (by omega) rfl (by omega) (h.u4 (q := p + 1)) (sw_RF.refl.ui (by omega))
    have stuck : ∀ (c lo q : Nat) (b : Int32), sw_fg n f q lo 5 = none → sw_ris n f c q lo b = (q, b) := by
      intro c lo q b hv
      cases c with
      | zero => rfl
      | succ c => unfold sw_ris; rw [hv]
    have step : ∀ (c lo q : Nat) (b : Int32) (I1 : ax_I), lo ≤ 6 → sw_ris n f c q lo b = sw_ris n f 6 (p + 1) 0 0 → q ≤ n → sw_RD I1 t n f q Th M Wn Un kd tl W un → sw_RF I I1 → (∀ (v : Nat) (I2 : ax_I), sw_fg n f q lo 5 = some v → sw_RD I2 t n f (q + 1) Th M Wn Un kd tl W un → sw_RF I I2 → ax_AK ((d + 3)) 176 (57, [some (ax_vr 9 0 184), some (ax_vi (nI t)), some (ax_vi (nI k)), some (ax_vi ((b ||| (1 : Int32) <<< (nI v &&& 31)))), some (ax_vi (nI v))], [], ax_mm I2 L) (ax_ki K)) → ax_AK ((d + 3)) 176 (57, [some (ax_vr 9 0 184), some (ax_vi (nI t)), some (ax_vi (nI k)), some (ax_vi b), some (ax_vi ((nI lo - 1)))], [], ax_mm I1 L) (ax_ki K) := by
      intro c lo q b I1 hlo6 hris hq hR hF hnext
      apply vc_X9_readsOne_57
      rw [hR.2.1]
      refine rf_byteAt hR.1 ht hn hq ?_
      refine rf_in ?_
      rw [Int32.sub_add_cancel]
      by_cases dg : (48 : Int32) ≤ sw_s00 n f q ∧ sw_s00 n f q ≤ 57
      · rw [decide_eq_true dg.1, decide_eq_true dg.2]
        refine ax_cf (by decide) ?_
        refine rf_figR (lo := lo) (hi := 5) hR ht hn hq (by omega) (by omega) (fun I3 v hv x3 h3 r3 => ?_) (fun I3 hv x3 r3 => ?_)
        · refine ax_nt (by decide) ?_
          rw [x3]
          exact hnext v I3 hv h3 (hF.trans r3)
        · refine ax_nf rfl ⟨by decide, ?_⟩
          have hs := (stuck c lo q b hv).symm.trans hris
          rw [← hs] at hgo
          refine h0 I3 q ?_ x3 (hF.trans r3)
          have hqn : q < n := by
            by_cases z : q < n
            · exact z
            · exfalso
              unfold sw_s00 at dg
              rw [if_neg z] at dg
              exact absurd dg.1 (by decide)
          have eq0 : sw_s00 n f q = f q := by unfold sw_s00; rw [if_pos hqn]
          rw [eq0] at dg
          have ne : ∀ c : Int32, ((48 : Int32) ≤ c ∧ c ≤ 57 → False) → ¬ f q = c := fun c hc e => hc (e ▸ dg)
          rw [hgo]
          refine sw_R_no hqn (ne 32 (by decide)) ?_
          unfold sw_stp; dsimp only
          have kn : sw_kn (f q) = none := by
            unfold sw_kn
            rw [if_neg (ne _ (by decide)), if_neg (ne _ (by decide)), if_neg (ne _ (by decide)), if_neg (ne _ (by decide)), if_neg (ne _ (by decide)), if_neg (ne _ (by decide))]
          rw [if_neg hT, if_neg (ne _ (by decide)), if_neg (ne _ (by decide)), kn]
      · have e : (decide ((48 : Int32) ≤ sw_s00 n f q) && decide (sw_s00 n f q ≤ 57)) = false := by
          by_cases z : (48 : Int32) ≤ sw_s00 n f q
          · rw [decide_eq_false (fun z2 => dg ⟨z, z2⟩), Bool.and_false]
          · rw [decide_eq_false z, Bool.false_and]
        rw [e]
        have hv : sw_fg n f q lo 5 = none := by
          cases hv : sw_fg n f q lo 5 with
          | none => rfl
          | some v =>
            exfalso
            obtain ⟨g1, g2, g3, g4⟩ := sw_fg_v (by omega) (by omega) hv
            have eq0 : sw_s00 n f q = nI (v + 48) := by unfold sw_s00; rw [if_pos g1, ← nI_add, ← g4]; exact (Int32.sub_add_cancel _ _).symm
            apply dg
            rw [eq0]
            exact ⟨(nI_leI (a := 48) (by omega) (by omega)).mpr (by omega), (nI_leI (b := 57) (by omega) (by omega)).mpr (by omega)⟩
        have hs := (stuck c lo q b hv).symm.trans hris
        rw [← hs] at hgo hle
        obtain ⟨⟨k0, k1⟩, k2, k3, k4, k5, k6, k7, k8, k9, k10⟩ := hR
        rw [k4, nI_clamp (by omega), ax_ui_ne (a := 184) (b := 18) (by omega), k4, nI_clamp (by omega), ax_ui_ne (a := 184) (b := 18) (by omega), ax_ui_ne (a := 184) (b := 18) (by omega), k4, nI_1]
        refine ax_ct rfl ⟨ax_inb_nI (by omega) (by omega), ax_inb_nI (by omega) (by omega), by decide, ?_⟩
        refine h1 _ q _ _ hgo (by show p < (q, b).1; omega) ⟨hq, b2, by omega, b4, b5⟩ ?_ (((hF.ui (by omega)).ui (by omega)).ui (by omega))
        refine ⟨⟨by rw [ax_ui_ne (by omega), ax_ui_ne (by omega), ax_ui_ne (by omega)]; exact k0, fun i hi => by rw [ax_ui_ne (by omega), ax_ui_ne (by omega), ax_ui_ne (by omega)]; exact k1 i hi⟩, by rw [ax_ui_ne (by omega), ax_ui_ne (by omega), ax_ui_ne (by omega)]; exact k2, by rw [ax_ui_ne (by omega), ax_ui_ne (by omega), ax_ui_ne (by omega)]; exact k3, ax_ui_eq, by rw [ax_ui_ne (by omega), ax_ui_ne (by omega), ax_ui_ne (by omega)]; exact k5, by rw [ax_ui_ne (by omega), ax_ui_ne (by omega), ax_ui_ne (by omega)]; exact k6, fun x hx => ?_, fun x hx => ?_, fun x hx w hw => by rw [ax_ui_ne (by omega), ax_ui_ne (by omega), ax_ui_ne (by omega)]; exact k9 x hx w hw, fun w hw => by rw [ax_ui_ne (by omega), ax_ui_ne (by omega), ax_ui_ne (by omega)]; exact k10 w hw⟩
        · rw [ax_ui_ne (by omega), ax_ui_ne (by omega)]
          unfold sw_nu
          by_cases e : x = M
          · rw [if_pos e, e]; exact ax_ui_eq
          · rw [if_neg e, ax_ui_ne (by omega)]; exact k7 x (by omega)
        · rw [ax_ui_ne (by omega)]
          by_cases e : x = M
          · rw [e, ax_ui_eq, sw_up_eq]
          · rw [ax_ui_ne (by omega), ax_ui_ne (by omega), sw_up_ne e]; exact k8 x (by omega)
    intro c
    induction c with
    | zero =>
      intro lo q b I1 hlo hlo6 hris hq hR hF
      refine step 0 lo q b I1 hlo6 hris hq hR hF (fun v I2 hv => ?_)
      obtain ⟨g1, g2, g3, g4⟩ := sw_fg_v (by omega) (by omega) hv
      omega
    | succ c ih =>
      intro lo q b I1 hlo hlo6 hris hq hR hF
      refine step (c + 1) lo q b I1 hlo6 hris hq hR hF (fun v I2 hv h2 r2 => ?_)
      obtain ⟨g1, g2, g3, g4⟩ := sw_fg_v (by omega) (by omega) hv
      unfold sw_ris at hris
      rw [hv] at hris
      have := ih (v + 1) (q + 1) _ I2 (by omega) (by omega) hris (by omega) h2 r2
      rw [ax_nI_s1 (by omega)] at this
      exact this
theorem rf_faultOf {d t n : Nat} {f : Nat → Int32} {I : ax_I} {L : ax_J} {K : Int32 → ax_I → ax_J → Prop} (hg : sw_RG I t n f) (ht : t < 4) (hn : n ≤ 80)
    (h0 : ∀ I' e, sw_R n f sw_s0 = .inl e → sw_RF I I' → K (nI e) I' L)
    (h1 : ∀ I' p Th M Wn Un kd tl W un, sw_R n f sw_s0 = .inr (p, Th, M, Wn, Un, kd, tl, W, un) → sw_RD I' t n f p Th M Wn Un kd tl W un → sw_RF I I' → K (-9) I' L) : ax_CI (d + 5) 179 [ax_vr 9 0 184, ax_vi (nI t)] I L K := by
  apply vc_X9_faultOf
  have main : ∀ (c p Th M Wn Un : Nat) (kd : Nat → Nat) (tl un : Nat → Int32) (W : Nat → Nat → Nat) (I1 : ax_I) (z2 : Option ax_V), n - p < c → sw_R n f sw_s0 = sw_R n f (p, Th, M, Wn, Un, kd, tl, W, un) → sw_PB n p Th M Wn Un → sw_RD I1 t n f p Th M Wn Un kd tl W un → sw_RF I I1 → ax_AK ((d + 4)) 179 (67, [some (ax_vr 9 0 184), some (ax_vi (nI t)), z2], [], ax_mm I1 L) (ax_ki K) := by
    intro c
    induction c with
    | zero => intro p Th M Wn Un kd tl un W I1 z2 hc; omega
    | succ c ih =>
      intro p Th M Wn Un kd tl un W I1 z2 hc hr hB hR hF
      have hB' := hB
      obtain ⟨b1, b2, b3, b4, b5⟩ := hB'
      apply vc_X9_faultOf_67
      have hR' := hR
      obtain ⟨⟨k0, k1⟩, k2, k3, k4, k5, k6, k7, k8, k9, k10⟩ := hR'
      refine ⟨ax_inb_nI (by omega) (by omega), ?_⟩
      rw [nI_clamp (by omega), k0, k2]
      by_cases hp : p < n
      case neg =>
        refine ax_ct ((nI_leI (by omega) (by omega)).mpr (by omega)) ?_
        rw [k4]
        have he := sw_R_end (n := n) (f := f) (st := (p, Th, M, Wn, Un, kd, tl, W, un)) (by show n ≤ p; omega)
        by_cases z : M = 0
        · refine ax_nf (by rw [z]; rfl) ⟨ax_inb_nI (by omega) (by omega), h0 I1 n ?_ hF⟩
          rw [hr, he]; exact if_pos z
        · refine ax_nt (fun z2 => z ((nI_eq (b := 0) (by omega) (by omega)).mp z2)) (h1 I1 p Th M Wn Un kd tl W un ?_ hR hF)
          rw [hr, he]; exact if_neg z
      refine ax_cf (fun z => by have := (nI_leI (by omega) (by omega)).mp z; omega) ?_
      refine rf_byteAt hR.1 ht hn b1 ?_
      have e0 : sw_s00 n f p = f p := by unfold sw_s00; rw [if_pos hp]
      rw [e0]
      by_cases nb : f p = 32
      · refine ax_nf nb ?_
        rw [k2, nI_1]
        exact ih (p + 1) Th M Wn Un kd tl un W _ _ (by omega) (hr.trans (sw_R_bl (st := (p, Th, M, Wn, Un, kd, tl, W, un)) hp nb)) ⟨by omega, b2, b3, b4, b5⟩ hR.u4 (hF.ui (by omega))
      refine ax_nt nb ?_
      rw [k3]
      by_cases hT : Th = 0
      · subst hT
        refine ax_nf rfl ?_
        refine rf_readsThings hR ht hn hp hB nb (fun I2 e r2 e2 f2 => ?_) (fun I2 p2 v r2 lt2 B2 R2 f2 => ?_)
        · refine ax_ct rfl ?_
          rw [e2]; exact h0 I2 e (hr.trans r2) (hF.trans f2)
        · exact ax_cf (by decide) (ih p2 v M Wn Un kd tl un W I2 _ (by omega) (hr.trans r2) B2 R2 (hF.trans f2))
      refine ax_nt (fun z2 => hT ((nI_eq (b := 0) (by omega) (by omega)).mp z2)) ?_
      by_cases n119 : f p = 119
      · refine ax_nf n119 ?_
        refine rf_readsWant hR ht hn hp hB hT n119 (fun I2 e r2 e2 f2 => ?_) (fun I2 p2 W2 r2 lt2 B2 R2 f2 => ?_)
        · refine ax_ct rfl ?_
          rw [e2]; exact h0 I2 e (hr.trans r2) (hF.trans f2)
        · exact ax_cf (by decide) (ih p2 Th M (Wn + 1) Un kd tl un W2 I2 _ (by omega) (hr.trans r2) B2 R2 (hF.trans f2))
      refine ax_nt n119 ?_
      by_cases n117 : f p = 117
      · refine ax_nf n117 ?_
        refine rf_readsUndoing hR ht hn hp hB hT n117 (fun I2 e r2 e2 f2 => ?_) (fun I2 p2 un2 r2 lt2 B2 R2 f2 => ?_)
        · refine ax_ct rfl ?_
          rw [e2]; exact h0 I2 e (hr.trans r2) (hF.trans f2)
        · exact ax_cf (by decide) (ih p2 Th M Wn (Un + 1) kd tl un2 W I2 _ (by omega) (hr.trans r2) B2 R2 (hF.trans f2))
      refine ax_nt n117 ?_
      refine rf_readsOne hR ht hn hp hB hT nb n119 n117 (fun I2 e r2 e2 f2 => ?_) (fun I2 p2 kd2 tl2 r2 lt2 B2 R2 f2 => ?_)
      · refine ax_nf rfl ?_
        rw [e2]; exact h0 I2 e (hr.trans r2) (hF.trans f2)
      · exact ax_nt (by decide) (ih p2 Th (M + 1) Wn Un kd2 tl2 un W I2 _ (by omega) (hr.trans r2) B2 R2 (hF.trans f2))
  have z48 : ∀ (c i : Nat) (I1 : ax_I), i + c = 6 → sw_RG I1 t n f → I1 184 16 = 0 → I1 184 17 = 0 → I1 184 18 = 0 → I1 184 19 = 0 → I1 184 20 = 0 → (∀ j, j < 36 → I1 197 j = 0) → (∀ j, j < i → I1 198 j = 0) → sw_RF I I1 → ax_AK ((d + 4)) 179 (48, [some (ax_vr 9 0 184), some (ax_vi (nI t)), some (ax_vi (nI i))], [], ax_mm I1 L) (ax_ki K) := by
    intro c
    induction c with
    | zero =>
      intro i I1 hi g z16 z17 z18 z19 z20 z197 z198 hF
      apply vc_X9_faultOf_48
      refine ax_ct ((nI_leI (a := 6) (by omega) (by omega)).mpr (by omega)) ?_
      exact main (n + 1) 0 0 0 0 0 (fun _ => 0) (fun _ => 0) (fun _ => 0) (fun _ _ => 0) I1 _ (by omega) rfl ⟨by omega, by omega, by omega, by omega, by omega⟩ ⟨g, z16, z17, z18, z19, z20, fun x hx => by omega, fun x hx => by omega, fun x hx w hw => z197 _ (by omega), fun w hw => z198 w (by omega)⟩ hF
    | succ c ih =>
      intro i I1 hi g z16 z17 z18 z19 z20 z197 z198 hF
      apply vc_X9_faultOf_48
      refine ax_cf (fun z => by have := (nI_leI (a := 6) (by omega) (by omega)).mp z; omega) ⟨ax_inb_nI (by omega) (by omega), ?_⟩
      rw [nI_clamp (by omega), nI_1]
      refine ih (i + 1) _ (by omega) ⟨by rw [ax_ui_ne (by omega)]; exact g.1, fun i hi => by rw [ax_ui_ne (by omega)]; exact g.2 i hi⟩ (by rw [ax_ui_ne (by omega)]; exact z16) (by rw [ax_ui_ne (by omega)]; exact z17) (by rw [ax_ui_ne (by omega)]; exact z18) (by rw [ax_ui_ne (by omega)]; exact z19) (by rw [ax_ui_ne (by omega)]; exact z20) (fun j hj => by rw [ax_ui_ne (by omega)]; exact z197 j hj) (fun j hj => ?_) (hF.ui (by omega))
      by_cases e : j = i
      · rw [e]; exact ax_ui_eq
      · rw [ax_ui_ne (by omega)]; exact z198 j (by omega)
  have z27 : ∀ (c i : Nat) (I1 : ax_I), i + c = 36 → sw_RG I1 t n f → I1 184 16 = 0 → I1 184 17 = 0 → I1 184 18 = 0 → I1 184 19 = 0 → I1 184 20 = 0 → (∀ j, j < i → I1 197 j = 0) → sw_RF I I1 → ax_AK ((d + 4)) 179 (27, [some (ax_vr 9 0 184), some (ax_vi (nI t)), some (ax_vi (nI i))], [], ax_mm I1 L) (ax_ki K) := by
    intro c
    induction c with
    | zero =>
      intro i I1 hi g z16 z17 z18 z19 z20 z197 hF
      apply vc_X9_faultOf_27
      refine ax_ct ((nI_leI (a := 36) (by omega) (by omega)).mpr (by omega)) ?_
      exact z48 6 0 I1 (by omega) g z16 z17 z18 z19 z20 (fun j hj => z197 j (by omega)) (fun j hj => by omega) hF
    | succ c ih =>
      intro i I1 hi g z16 z17 z18 z19 z20 z197 hF
      apply vc_X9_faultOf_27
      refine ax_cf (fun z => by have := (nI_leI (a := 36) (by omega) (by omega)).mp z; omega) ⟨ax_inb_nI (by omega) (by omega), ?_⟩
      rw [nI_clamp (by omega), nI_1]
      refine ih (i + 1) _ (by omega) ⟨by rw [ax_ui_ne (by omega)]; exact g.1, fun i hi => by rw [ax_ui_ne (by omega)]; exact g.2 i hi⟩ (by rw [ax_ui_ne (by omega)]; exact z16) (by rw [ax_ui_ne (by omega)]; exact z17) (by rw [ax_ui_ne (by omega)]; exact z18) (by rw [ax_ui_ne (by omega)]; exact z19) (by rw [ax_ui_ne (by omega)]; exact z20) (fun j hj => ?_) (hF.ui (by omega))
      by_cases e : j = i
      · rw [e]; exact ax_ui_eq
      · rw [ax_ui_ne (by omega)]; exact z197 j (by omega)
  have fr : sw_RF I (ax_ui (ax_ui (ax_ui (ax_ui (ax_ui I 184 16 0) 184 17 0) 184 18 0) 184 19 0) 184 20 0) := ((((sw_RF.refl.ui (by omega)).ui (by omega)).ui (by omega)).ui (by omega)).ui (by omega)
  refine z27 36 0 _ (by omega) ⟨by rw [fr.1 _ (by omega) (by omega)]; exact hg.1, fun i hi => by rw [fr.1 _ (by omega) (by omega)]; exact hg.2 i hi⟩ ?_ ?_ ?_ ?_ ax_ui_eq (fun j hj => by omega) fr
  · rw [ax_ui_ne (by omega), ax_ui_ne (by omega), ax_ui_ne (by omega), ax_ui_ne (by omega)]; exact ax_ui_eq
  · rw [ax_ui_ne (by omega), ax_ui_ne (by omega), ax_ui_ne (by omega)]; exact ax_ui_eq
  · rw [ax_ui_ne (by omega), ax_ui_ne (by omega)]; exact ax_ui_eq
  · rw [ax_ui_ne (by omega)]; exact ax_ui_eq
