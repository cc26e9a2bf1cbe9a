/-! the class's reader -/
def sw_CR (I : ax_I) (o n : Nat) (f : Nat → Int32) (p Th M : Nat) (kd : Nat → Nat) (tl : Nat → Int32) (W : Nat → Nat → Nat) (un : Nat → Int32) : Prop :=
  sw_ST I ∧ I 27 2 = nI (o + 1) ∧ I 27 3 = nI n ∧ I 27 4 = nI p ∧ (∀ i, i < n → I (o + 1) i = f i) ∧ I 28 0 = nI M ∧ I 28 1 = nI Th ∧ (∀ x, x < M → I 29 x = nI (kd x)) ∧ (∀ x, x < M → I 30 x = tl x) ∧ (∀ w, w < 6 → I 31 w = un w) ∧ sw_DF I 32 kd W []
theorem sw_CR.at {I : ax_I} {o n : Nat} {f : Nat → Int32} {p Th M : Nat} {kd : Nat → Nat} {tl : Nat → Int32} {W : Nat → Nat → Nat} {un : Nat → Int32} (h : sw_CR I o n f p Th M kd tl W un) (ho : 100 ≤ o) (q : Nat) : sw_CR (ax_ui I 27 4 (nI q)) o n f q Th M kd tl W un := by
  obtain ⟨h1, h2, h3, h4, h5, h6, h7, h8, h9, h10, h11⟩ := h
  exact ⟨h1.frame (ax_ui_row (by omega)) (ax_ui_row (by omega)), by rw [ax_ui_ne (by omega)]; exact h2, by rw [ax_ui_ne (by omega)]; exact h3, ax_ui_eq, fun i hi => by rw [ax_ui_ne (by omega)]; exact h5 i hi, by rw [ax_ui_ne (by omega)]; exact h6, by rw [ax_ui_ne (by omega)]; exact h7, fun x hx => by rw [ax_ui_ne (by omega)]; exact h8 x hx, fun x hx => by rw [ax_ui_ne (by omega)]; exact h9 x hx, fun x hx => by rw [ax_ui_ne (by omega)]; exact h10 x hx, h11.frame (fun a _ _ => ax_ui_row (by omega))⟩
def sw_ol (o : Nat) : Prop := ∃ t, t < 4 ∧ o = 5 + (126 + 2 * t)
theorem sw_ol.shp {o : Nat} (h : sw_ol o) : (ax_shp (o + 1)).2 = 80 := by
  obtain ⟨t, ht, rfl⟩ := h
  have : ∀ t, t < 4 → (ax_shp (5 + (126 + 2 * t) + 1)).2 = 80 := by decide +kernel
  exact this t ht
theorem sw_ol.le {o : Nat} (h : sw_ol o) : 131 ≤ o ∧ o ≤ 137 := by
  obtain ⟨t, ht, rfl⟩ := h
  omega
def sw_sg (n : Nat) (f : Nat → Int32) (p : Nat) : Int32 := if p < n then f p else -9
theorem cl_sign {d o n p Th M : Nat} {f : Nat → Int32} {kd : Nat → Nat} {tl un : Nat → Int32} {W : Nat → Nat → Nat} {I : ax_I} {L : ax_J} {K : Int32 → ax_I → ax_J → Prop} (h : sw_CR I o n f p Th M kd tl W un) (ho : sw_ol o) (hn : n ≤ 80) (hp : p ≤ n) (hK : K (sw_sg n f p) I L) : ax_CI (d + 1) 66 [ax_vr 6 0 27] I L K := by
  have hl := ho.le
  obtain ⟨h1, h2, h3, h4, h5, _⟩ := h
  apply vc_X6_sign
  rw [h2, h3, h4, nI_clamp (by omega), ho.shp]
  unfold sw_sg at hK
  refine ax_cf (nI_pos (by omega)) ?_
  by_cases q : p < n
  · rw [if_pos q] at hK
    refine ax_cf (fun z => by have := (nI_leI (by omega) (by omega)).mp z; omega) (ax_cf (fun z => by have := (nI_leI (by omega) (by omega)).mp z; omega) ⟨ax_inb_nI (by omega) (by omega), ?_⟩)
    rw [nI_clamp (by omega), h5 p q]; exact hK
  · rw [if_neg q] at hK
    exact ax_ct ((nI_leI (by omega) (by omega)).mpr (by omega)) hK
theorem cl_skip {d o n p Th M : Nat} {f : Nat → Int32} {kd : Nat → Nat} {tl un : Nat → Int32} {W : Nat → Nat → Nat} {I : ax_I} {L : ax_J} {K : ax_I → ax_J → Prop} (h : sw_CR I o n f p Th M kd tl W un) (ho : sw_ol o) (hn : n ≤ 80) (hp : p ≤ n) (hK : ∀ I' p', p ≤ p' → p' ≤ n → (p' < n → ¬ f p' = 32) → (∀ r, sw_R n f (p, r) = sw_R n f (p', r)) → sw_CR I' o n f p' Th M kd tl W un → ax_FR 27 27 I I' → K I' L) : ax_CV (d + 2) 67 [ax_vr 6 0 27] I L K := by
  have hl := ho.le
  apply vc_X6_skipBlanks
  suffices ∀ (c i p' : Nat) (I1 : ax_I), i + c = n → p' = p + i → p' ≤ n → (∀ r, sw_R n f (p, r) = sw_R n f (p', r)) → sw_CR I1 o n f p' Th M kd tl W un → ax_FR 27 27 I I1 → ax_AK ((d + 1)) 67 (2, [some (ax_vr 6 0 27), some (ax_vi (nI i))], [], ax_mm I1 L) (ax_kv K) from this n 0 p I (by omega) rfl hp (fun _ => rfl) h ax_FR.refl
  intro c
  induction c with
  | zero =>
    intro i p' I1 hi hp' hpn hr hC hf
    apply vc_X6_skipBlanks_2
    rw [hC.2.2.1]
    exact ax_ct ((nI_leI (by omega) (by omega)).mpr (by omega)) (hK I1 p' (by omega) hpn (fun z => by omega) hr hC hf)
  | succ c ih =>
    intro i p' I1 hi hp' hpn hr hC hf
    apply vc_X6_skipBlanks_2
    rw [hC.2.2.1]
    refine ax_cf (fun z => by have := (nI_leI (by omega) (by omega)).mp z; omega) ?_
    refine cl_sign hC ho hn hpn ?_
    unfold sw_sg
    by_cases q : p' < n
    · rw [if_pos q]
      by_cases b : f p' = 32
      · refine ax_nf b ?_
        rw [hC.2.2.2.1, nI_1, nI_1]
        refine ih (i + 1) (p' + 1) _ (by omega) (by omega) (by omega) (fun r => ?_) (hC.at (by omega) (p' + 1)) (hf.ui (by omega) (by omega))
        rw [hr r]; exact sw_R_bl (st := (p', r)) q b
      · exact ax_nt b (hK I1 p' (by omega) hpn (fun _ => b) hr hC hf)
    · rw [if_neg q]
      exact ax_nt (by decide) (hK I1 p' (by omega) hpn (fun z => absurd z q) hr hC hf)
theorem cl_take {d o n p Th M : Nat} {c : Int32} {f : Nat → Int32} {kd : Nat → Nat} {tl un : Nat → Int32} {W : Nat → Nat → Nat} {I : ax_I} {L : ax_J} {K : Int32 → ax_I → ax_J → Prop} (h : sw_CR I o n f p Th M kd tl W un) (ho : sw_ol o) (hn : n ≤ 80) (hp : p ≤ n) (hc : ¬ (-9 : Int32) = c) (h1 : p < n → f p = c → sw_CR (ax_ui I 27 4 (nI (p + 1))) o n f (p + 1) Th M kd tl W un → K 1 (ax_ui I 27 4 (nI (p + 1))) L) (h0 : (p < n → ¬ f p = c) → K 0 I L) : ax_CI (d + 2) 68 [ax_vr 6 0 27, ax_vi c] I L K := by
  have hl := ho.le
  apply vc_X6_take
  refine cl_sign h ho hn hp ?_
  unfold sw_sg
  by_cases q : p < n
  · rw [if_pos q]
    by_cases b : f p = c
    · refine ax_ct b ⟨by decide, ?_⟩
      rw [h.2.2.2.1, nI_1]
      exact h1 q b (h.at (by omega) _)
    · exact ax_cf b ⟨by decide, h0 (fun _ => b)⟩
  · rw [if_neg q]
    exact ax_cf hc ⟨by decide, h0 (fun z => absurd z q)⟩
theorem cl_takeFigure {d o n p Th M lo hi : Nat} {f : Nat → Int32} {kd : Nat → Nat} {tl un : Nat → Int32} {W : Nat → Nat → Nat} {I : ax_I} {L : ax_J} {K : Int32 → ax_I → ax_J → Prop} (h : sw_CR I o n f p Th M kd tl W un) (ho : sw_ol o) (hn : n ≤ 80) (hp : p ≤ n) (hlo : lo < 2 ^ 31) (hhi : hi < 2 ^ 31) (h1 : ∀ v, sw_fg n f p lo hi = some v → sw_CR (ax_ui I 27 4 (nI (p + 1))) o n f (p + 1) Th M kd tl W un → K (nI v) (ax_ui I 27 4 (nI (p + 1))) L) (h0 : sw_fg n f p lo hi = none → K (-9) I L) : ax_CI (d + 2) 69 [ax_vr 6 0 27, ax_vi (nI lo), ax_vi (nI hi)] I L K := by
  have hl := ho.le
  apply vc_X6_takeFigure
  refine cl_sign h ho hn hp ?_
  unfold sw_sg
  by_cases q : p < n
  · rw [if_pos q]
    cases hf : sw_fg n f p lo hi with
    | some v =>
      obtain ⟨g1, g2, g3, g4⟩ := sw_fg_v hlo hhi hf
      rw [g4]
      refine ax_cf (nI_nlt (by omega) (by omega)) (ax_ct ((nI_leI (by omega) (by omega)).mpr g3) ?_)
      rw [h.2.2.2.1, nI_1]
      exact h1 v hf (h.at (by omega) _)
    | none =>
      rcases sw_fg_no hf with z | z | z
      · omega
      · exact ax_ct z (h0 hf)
      · refine ax_if (fun _ => h0 hf) (fun _ => ax_cf (Int32.not_le.mpr z) (h0 hf))
  · rw [if_neg q]
    refine ax_ct (Int32.lt_of_lt_of_le (by decide) (nI_pos' hlo)) (h0 ?_)
    unfold sw_fg; rw [if_neg (fun z => q z.1)]
theorem cl_kindOf {d : Nat} {c : Int32} {I : ax_I} {L : ax_J} {K : Int32 → ax_I → ax_J → Prop} (h : sw_ST I) (hK : K (match sw_kn c with | some k => nI k | none => -9) I L) : ax_CI (d + 1) 72 [ax_vi c] I L K := by
  obtain ⟨_, _, _, _, _, _, s0, s1, s2, s3, s4, s5⟩ := h
  apply vc_X6_kindOf
  unfold sw_kn at hK
  apply vc_X6_kindOf_2
  refine ax_cf (by decide) ⟨by decide, ?_⟩
  rw [show (0 : Int32).toNatClampNeg = 0 from rfl, s0]
  by_cases e0 : c = 111
  · rw [if_pos e0] at hK; exact ax_nf e0.symm hK
  refine ax_nt (fun z => e0 z.symm) ?_
  rw [if_neg e0] at hK
  apply vc_X6_kindOf_2
  refine ax_cf (by decide) ⟨by decide, ?_⟩
  rw [show ((0 : Int32) + 1).toNatClampNeg = 1 by decide, s1]
  by_cases e1 : c = 109
  · rw [if_pos e1] at hK; exact ax_nf e1.symm hK
  refine ax_nt (fun z => e1 z.symm) ?_
  rw [if_neg e1] at hK
  apply vc_X6_kindOf_2
  refine ax_cf (by decide) ⟨by decide, ?_⟩
  rw [show ((0 : Int32) + 1 + 1).toNatClampNeg = 2 by decide, s2]
  by_cases e2 : c = 99
  · rw [if_pos e2] at hK; exact ax_nf e2.symm hK
  refine ax_nt (fun z => e2 z.symm) ?_
  rw [if_neg e2] at hK
  apply vc_X6_kindOf_2
  refine ax_cf (by decide) ⟨by decide, ?_⟩
  rw [show ((0 : Int32) + 1 + 1 + 1).toNatClampNeg = 3 by decide, s3]
  by_cases e3 : c = 98
  · rw [if_pos e3] at hK; exact ax_nf e3.symm hK
  refine ax_nt (fun z => e3 z.symm) ?_
  rw [if_neg e3] at hK
  apply vc_X6_kindOf_2
  refine ax_cf (by decide) ⟨by decide, ?_⟩
  rw [show ((0 : Int32) + 1 + 1 + 1 + 1).toNatClampNeg = 4 by decide, s4]
  by_cases e4 : c = 108
  · rw [if_pos e4] at hK; exact ax_nf e4.symm hK
  refine ax_nt (fun z => e4 z.symm) ?_
  rw [if_neg e4] at hK
  apply vc_X6_kindOf_2
  refine ax_cf (by decide) ⟨by decide, ?_⟩
  rw [show ((0 : Int32) + 1 + 1 + 1 + 1 + 1).toNatClampNeg = 5 by decide, s5]
  by_cases e5 : c = 107
  · rw [if_pos e5] at hK; exact ax_nf e5.symm hK
  refine ax_nt (fun z => e5 z.symm) ?_
  rw [if_neg e5] at hK
  apply vc_X6_kindOf_2
  exact ax_ct (by decide) hK
theorem cl_takeRising {d o n p Th M : Nat} {f : Nat → Int32} {kd : Nat → Nat} {tl un : Nat → Int32} {W : Nat → Nat → Nat} {I : ax_I} {L : ax_J} {K : Int32 → ax_I → ax_J → Prop} (h : sw_CR I o n f p Th M kd tl W un) (ho : sw_ol o) (hn : n ≤ 80) (hp : p ≤ n) (hK : ∀ I', sw_CR I' o n f (sw_ris n f 6 p 0 0).1 Th M kd tl W un → ax_FR 27 27 I I' → K (sw_ris n f 6 p 0 0).2 I' L) : ax_CI (d + 3) 73 [ax_vr 6 0 27] I L K := by
  have hl := ho.le
  apply vc_X6_takeRising
  suffices ∀ (c i q lo : Nat) (b : Int32) (I1 : ax_I) (z4 : Option ax_V), i + c = 6 → lo ≤ 6 → q ≤ n → sw_ris n f c q lo b = sw_ris n f 6 p 0 0 → sw_CR I1 o n f q Th M kd tl W un → ax_FR 27 27 I I1 → ax_AK ((d + 2)) 73 (6, [some (ax_vr 6 0 27), some (ax_vi b), some (ax_vi (nI lo)), some (ax_vi (nI i)), z4], [], ax_mm I1 L) (ax_ki K) from this 6 0 p 0 0 I _ (by omega) (by omega) hp rfl h ax_FR.refl
  intro c
  induction c with
  | zero =>
    intro i q lo b I1 z4 hi hlo hq he hC hf
    have he : (q, b) = sw_ris n f 6 p 0 0 := he
    rw [← he] at hK
    apply vc_X6_takeRising_6
    exact ax_ct ((nI_leI (a := 6) (by omega) (by omega)).mpr (by omega)) (hK I1 hC hf)
  | succ c ih =>
    intro i q lo b I1 z4 hi hlo hq he hC hf
    unfold sw_ris at he
    apply vc_X6_takeRising_6
    refine ax_cf (fun z => by have := (nI_leI (a := 6) (by omega) (by omega)).mp z; omega) ?_
    refine cl_takeFigure (hi := 5) hC ho hn hq (by omega) (by omega) (fun v hv hC2 => ?_) (fun hv => ?_)
    · obtain ⟨g1, g2, g3, g4⟩ := sw_fg_v (by omega) (by omega) hv
      rw [hv] at he
      refine ax_nt (ax_ne9 (by omega)) ?_
      rw [nI_1, nI_1]
      exact ih (i + 1) (q + 1) (v + 1) _ _ _ (by omega) (by omega) (by omega) he hC2 (hf.ui (by omega) (by omega))
    · rw [hv] at he
      have he : (q, b) = sw_ris n f 6 p 0 0 := he
      rw [← he] at hK
      exact ax_nf rfl (hK I1 hC hf)
theorem cl_readThings {d o n : Nat} {f : Nat → Int32} {kd : Nat → Nat} {tl un : Nat → Int32} {W : Nat → Nat → Nat} {I : ax_I} {L : ax_J} {K : Int32 → ax_I → ax_J → Prop} (h : sw_CR I o n f 0 0 0 kd tl W un) (ho : sw_ol o) (hn : n ≤ 80)
    (h0 : ∀ I' e, sw_R n f (0, 0, 0, 0, 0, kd, tl, W, un) = .inl e → e ≤ n → I' 27 4 = nI e → ax_FR 27 31 I I' → K 0 I' L)
    (h1 : ∀ I' p Th, sw_R n f (0, 0, 0, 0, 0, kd, tl, W, un) = sw_R n f (p, Th, 0, 0, 0, kd, tl, W, un) → p ≤ n → (p < n → ¬ f p = 32) → 1 ≤ Th → Th ≤ 6 → sw_CR I' o n f p Th 0 kd tl W un → ax_FR 27 31 I I' → K 1 I' L) : ax_CI (d + 3) 70 [ax_vr 6 0 27] I L K := by
  have hl := ho.le
  apply vc_X6_readThings
  refine cl_skip h ho hn (by omega) (fun I1 p hp1 hp2 hnb hr c1 f1 => ?_)
  have f1' : ax_FR 27 31 I I1 := f1.wide (by omega) (by omega)
  refine cl_take c1 ho hn hp2 (by decide) (fun hlt hb c2 => ?_) (fun hno => ?_)
  · refine ax_nt (by decide) ?_
    have ns : sw_stp n f (p, 0, 0, 0, 0, kd, tl, W, un) = (match sw_fg n f (p + 1) 1 6 with | some v => .inr (p + 2, v, 0, 0, 0, kd, tl, W, un) | none => .inl (p + 1)) := by
      unfold sw_stp; dsimp only; rw [if_pos rfl, if_pos hb]
      cases sw_fg n f (p + 1) 1 6 <;> rfl
    have n32 := hnb hlt
    refine cl_takeFigure (lo := 1) (hi := 6) c2 ho hn (by omega) (by omega) (by omega) (fun v hv c3 => ?_) (fun hv => ?_)
    · obtain ⟨g1, g2, g3, g4⟩ := sw_fg_v (by omega) (by omega) hv
      rw [hv] at ns
      refine ax_nt (ax_ne9 (by omega)) ?_
      have c4 : sw_CR (ax_ui (ax_ui (ax_ui I1 27 4 (nI (p + 1))) 27 4 (nI (p + 1 + 1))) 28 1 (nI v)) o n f (p + 1 + 1) v 0 kd tl W un := by
        obtain ⟨k1, k2, k3, k4, k5, k6, k7, k8, k9, k10, k11⟩ := c3
        exact ⟨k1.frame (ax_ui_row (by omega)) (ax_ui_row (by omega)), by rw [ax_ui_ne (by omega)]; exact k2, by rw [ax_ui_ne (by omega)]; exact k3, by rw [ax_ui_ne (by omega)]; exact k4, fun i hi => by rw [ax_ui_ne (by omega)]; exact k5 i hi, by rw [ax_ui_ne (by omega)]; exact k6, ax_ui_eq, fun x hx => by omega, fun x hx => by omega, fun x hx => by rw [ax_ui_ne (by omega)]; exact k10 x hx, k11.frame (fun a _ _ => ax_ui_row (by omega))⟩
      refine cl_skip c4 ho hn (by omega) (fun I5 p5 hp5 hp6 hnb5 hr5 c5 f5 => ⟨by decide, ?_⟩)
      refine h1 I5 p5 v ?_ hp6 hnb5 g2 g3 c5 ?_
      · rw [hr, sw_R_go hlt n32 ns]; exact hr5 _
      · exact (((f1'.ui (by omega) (by omega)).ui (by omega) (by omega)).ui (by omega) (by omega)).trans (f5.wide (by omega) (by omega))
    · rw [hv] at ns
      refine ax_nf rfl ⟨by decide, ?_⟩
      refine h0 _ (p + 1) ?_ (by omega) ax_ui_eq (f1'.ui (by omega) (by omega))
      rw [hr]; exact sw_R_no hlt n32 ns
  · refine ax_nf rfl ⟨by decide, ?_⟩
    refine h0 I1 p ?_ hp2 c1.2.2.2.1 f1'
    rw [hr]
    by_cases hlt : p < n
    · refine sw_R_no hlt (hnb hlt) ?_
      unfold sw_stp; dsimp only; rw [if_pos rfl, if_neg (hno hlt)]
    · rw [sw_R_end (by show n ≤ p; omega)]
      show (if (0 : Nat) = 0 then (Sum.inl n : Nat ⊕ sw_PS) else _) = _
      rw [if_pos rfl]; congr 1; omega
theorem sw_kn_ne {c : Int32} {k : Nat} (h : sw_kn c = some k) : k < 6 ∧ ¬ c = 119 ∧ ¬ c = 117 ∧ ¬ c = 32 ∧ ¬ c = -9 := by
  unfold sw_kn at h
  split at h
  · rename_i z; cases h; subst z; exact ⟨by omega, by decide, by decide, by decide, by decide⟩
  split at h
  · rename_i z; cases h; subst z; exact ⟨by omega, by decide, by decide, by decide, by decide⟩
  split at h
  · rename_i z; cases h; subst z; exact ⟨by omega, by decide, by decide, by decide, by decide⟩
  split at h
  · rename_i z; cases h; subst z; exact ⟨by omega, by decide, by decide, by decide, by decide⟩
  split at h
  · rename_i z; cases h; subst z; exact ⟨by omega, by decide, by decide, by decide, by decide⟩
  split at h
  · rename_i z; cases h; subst z; exact ⟨by omega, by decide, by decide, by decide, by decide⟩
  · cases h
theorem cl_readPeople {d o n p Th : Nat} {f : Nat → Int32} {kd : Nat → Nat} {tl un : Nat → Int32} {W : Nat → Nat → Nat} {I : ax_I} {L : ax_J} {K : Int32 → ax_I → ax_J → Prop} (h : sw_CR I o n f p Th 0 kd tl W un) (ho : sw_ol o) (hn : n ≤ 80) (hp : p ≤ n) (hnb : p < n → ¬ f p = 32) (hTh : 1 ≤ Th)
    (h0 : ∀ I' e, sw_R n f (p, Th, 0, 0, 0, kd, tl, W, un) = .inl e → e ≤ n → I' 27 4 = nI e → ax_FR 27 31 I I' → K 0 I' L)
    (h1 : ∀ I' p' M kd' tl', sw_R n f (p, Th, 0, 0, 0, kd, tl, W, un) = sw_R n f (p', Th, M, 0, 0, kd', tl', W, un) → p' ≤ n → (p' < n → ¬ f p' = 32) → 1 ≤ M → M ≤ 6 → (∀ x, x < M → kd' x < 6) → (p' < n → sw_kn (f p') = none ∨ M = 6) → sw_CR I' o n f p' Th M kd' tl' W un → ax_FR 27 31 I I' → K 1 I' L) : ax_CI (d + 4) 71 [ax_vr 6 0 27] I L K := by
  have hl := ho.le
  apply vc_X6_readPeople
  suffices ∀ (c M q : Nat) (kd' : Nat → Nat) (tl' : Nat → Int32) (I1 : ax_I) (z2 : Option ax_V), M + c = 6 → sw_R n f (p, Th, 0, 0, 0, kd, tl, W, un) = sw_R n f (q, Th, M, 0, 0, kd', tl', W, un) → q ≤ n → (q < n → ¬ f q = 32) → (∀ x, x < M → kd' x < 6) → sw_CR I1 o n f q Th M kd' tl' W un → ax_FR 27 31 I I1 → ax_AK ((d + 3)) 71 (2, [some (ax_vr 6 0 27), some (ax_vi (nI M)), z2], [], ax_mm I1 L) (ax_ki K) from this 6 0 p kd tl I _ (by omega) rfl hp hnb (fun x hx => by omega) h ax_FR.refl
  intro c
  induction c with
  | zero =>
    intro M q kd' tl' I1 z2 hM hr hq hnq hkd hC hf
    apply vc_X6_readPeople_2
    exact ax_ct ((nI_leI (a := 6) (by omega) (by omega)).mpr (by omega)) ⟨by decide, h1 I1 q M kd' tl' hr hq hnq (by omega) (by omega) hkd (fun _ => .inr (by omega)) hC hf⟩
  | succ c ih =>
    intro M q kd' tl' I1 z2 hM hr hq hnq hkd hC hf
    apply vc_X6_readPeople_2
    refine ax_cf (fun z => by have := (nI_leI (a := 6) (by omega) (by omega)).mp z; omega) ?_
    refine cl_sign hC ho hn hq ?_
    refine cl_kindOf hC.1 ?_
    cases hk : sw_kn (sw_sg n f q) with
    | none =>
      refine ax_nf rfl ?_
      have hk2 : q < n → sw_kn (f q) = none := fun z => by unfold sw_sg at hk; rw [if_pos z] at hk; exact hk
      by_cases hM0 : M = 0
      · subst hM0
        refine ax_ct (by decide) ⟨by decide, ?_⟩
        refine h0 I1 q ?_ hq hC.2.2.2.1 hf
        rw [hr]
        by_cases hlt : q < n
        · refine sw_R_no hlt (hnq hlt) ?_
          unfold sw_stp; dsimp only
          rw [if_neg (by omega)]
          split
          · rw [if_pos (.inl rfl)]
          · split
            · rw [if_pos (.inl rfl)]
            · rw [hk2 hlt]
        · rw [sw_R_end (by show n ≤ q; omega)]
          show (if (0 : Nat) = 0 then (Sum.inl n : Nat ⊕ sw_PS) else _) = _
          rw [if_pos rfl]; congr 1; omega
      · refine ax_cf (fun z => by have := (nI_leI (b := 0) (by omega) (by omega)).mp z; omega) ⟨by decide, ?_⟩
        exact h1 I1 q M kd' tl' hr hq hnq (by omega) (by omega) hkd (fun z => .inl (hk2 z)) hC hf
    | some k =>
      obtain ⟨k6, n119, n117, n32, n9⟩ := sw_kn_ne hk
      have hlt : q < n := by
        by_cases z : q < n
        · exact z
        · unfold sw_sg at n9; rw [if_neg z] at n9; exact absurd rfl n9
      have esg : sw_sg n f q = f q := by unfold sw_sg; rw [if_pos hlt]
      rw [esg] at hk n119 n117 n32
      refine ax_nt (ax_ne9 (by omega)) ⟨ax_inb_nI (by omega) (by omega), ?_⟩
      rw [hC.2.2.2.1, nI_1, nI_1, nI_clamp (by omega)]
      have ns : sw_stp n f (q, Th, M, 0, 0, kd', tl', W, un) = .inr ((sw_ris n f 6 (q + 1) 0 0).1, Th, M + 1, 0, 0, sw_nu kd' M k, sw_up tl' M (sw_ris n f 6 (q + 1) 0 0).2, W, un) := by
        unfold sw_stp; dsimp only
        rw [if_neg (by omega), if_neg n119, if_neg n117, hk]
        exact if_neg (by omega)
      have c2 : sw_CR (ax_ui (ax_ui I1 27 4 (nI (q + 1))) 29 M (nI k)) o n f (q + 1) Th M kd' tl' W un := by
        obtain ⟨k1, k2, k3, k4, k5, k6, k7, k8, k9, k10, k11⟩ := hC.at (by omega) (q + 1)
        exact ⟨k1.frame (ax_ui_row (by omega)) (ax_ui_row (by omega)), by rw [ax_ui_ne (by omega)]; exact k2, by rw [ax_ui_ne (by omega)]; exact k3, by rw [ax_ui_ne (by omega)]; exact k4, fun i hi => by rw [ax_ui_ne (by omega)]; exact k5 i hi, by rw [ax_ui_ne (by omega)]; exact k6, by rw [ax_ui_ne (by omega)]; exact k7, fun x hx => by rw [ax_ui_ne (by omega)]; exact k8 x hx, fun x hx => by rw [ax_ui_ne (by omega)]; exact k9 x hx, fun x hx => by rw [ax_ui_ne (by omega)]; exact k10 x hx, k11.frame (fun a _ _ => ax_ui_row (by omega))⟩
      refine cl_takeRising c2 ho hn (by omega) (fun I3 c3 f3 => ⟨ax_inb_nI (by omega) (by omega), ?_⟩)
      have hrn := sw_ris_n (n := n) (f := f) 6 (q + 1) 0 0 (by omega)
      have e29 : I3 29 M = nI k := by rw [f3 29 (by omega), ax_ui_eq]
      have c4 : sw_CR (ax_ui (ax_ui I3 30 M (sw_ris n f 6 (q + 1) 0 0).2) 28 0 (nI (M + 1))) o n f (sw_ris n f 6 (q + 1) 0 0).1 Th (M + 1) (sw_nu kd' M k) (sw_up tl' M (sw_ris n f 6 (q + 1) 0 0).2) W un := by
        obtain ⟨k1, k2, k3, k4, k5, k6, k7, k8, k9, k10, k11⟩ := c3
        refine ⟨k1.frame (by rw [ax_ui_row (by omega), ax_ui_row (by omega)]) (by rw [ax_ui_row (by omega), ax_ui_row (by omega)]), by rw [ax_ui_ne (by omega), ax_ui_ne (by omega)]; exact k2, by rw [ax_ui_ne (by omega), ax_ui_ne (by omega)]; exact k3, by rw [ax_ui_ne (by omega), ax_ui_ne (by omega)]; exact k4, fun i hi => by rw [ax_ui_ne (by omega), ax_ui_ne (by omega)]; exact k5 i hi, ax_ui_eq, by rw [ax_ui_ne (by omega), ax_ui_ne (by omega)]; exact k7, fun x hx => ?_, fun x hx => ?_, fun x hx => by rw [ax_ui_ne (by omega), ax_ui_ne (by omega)]; exact k10 x hx, ?_⟩
        · rw [ax_ui_ne (by omega), ax_ui_ne (by omega)]
          unfold sw_nu
          by_cases e : x = M
          · rw [if_pos e, e]; exact e29
          · rw [if_neg e]; exact k8 x (by omega)
        · rw [ax_ui_ne (by omega)]
          by_cases e : x = M
          · rw [e, ax_ui_eq, sw_up_eq]
          · rw [ax_ui_ne (by omega), sw_up_ne e]; exact k9 x (by omega)
        · exact k11.frame (fun a _ _ => by rw [ax_ui_row (by omega), ax_ui_row (by omega)])
      refine cl_skip c4 ho hn hrn (fun I5 p5 hp5 hp6 hnb5 hr5 c5 f5 => ?_)
      refine ih (M + 1) p5 _ _ I5 _ (by omega) ?_ hp6 hnb5 (fun x hx => ?_) c5 ?_
      · rw [hr, sw_R_go hlt n32 ns]; exact hr5 _
      · unfold sw_nu
        split
        · exact k6
        · exact hkd x (by omega)
      · exact ((((((hf.ui (by omega) (by omega)).ui (by omega) (by omega)).trans (f3.wide (by omega) (by omega))).ui (by omega) (by omega)).ui (by omega) (by omega)).trans (f5.wide (by omega) (by omega)))
