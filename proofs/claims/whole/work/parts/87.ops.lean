theorem sw_spk.pick {N n : Nat} {f : Nat → Int32} (hN : N ≤ 6) (h : sw_spk N n f) : ∃ sp : Nat → Nat, (∀ j, j < n → sp j < N) ∧ ∀ j, j < n → f j = nI (sp j) := by
  refine ⟨fun j => (f j).toNatClampNeg, fun j hj => ?_, fun j hj => ?_⟩
  · obtain ⟨x, hx, e⟩ := h j hj
    show (f j).toNatClampNeg < N
    rw [e, nI_clamp (by omega)]; exact hx
  · obtain ⟨x, hx, e⟩ := h j hj
    show f j = nI (f j).toNatClampNeg
    rw [e, nI_clamp (by omega)]
theorem op_said {I : ax_I} {L : ax_J} (h : sw_RR I L) (a b : Int32) : sw_OP 120 232 [ax_vi a, ax_vi b] I L := by
  intro d
  have h0 := h
  obtain ⟨N, T, kd, tl, un, W, es, h1, h2, h3, h4⟩ := h
  have hG := h1.GI
  have h1' := h1
  obtain ⟨q1, q2, q3, q4, q5, q6, q7, q8, q9, q10⟩ := h1
  have hN := q1.1
  have hT := q1.2.1
  apply vc_X8_said
  rcases sw_dich (n := 6) (by omega) a with ⟨r, hr, rfl⟩ | ha
  case inr =>
    refine cl_isRow_no ha ?_
    refine ax_ct rfl ?_
    apply vc_X9_said
    rcases sw_dich (n := 6) (by omega) b with ⟨t, ht, rfl⟩ | hb
    · refine rf_isRow_k ht ?_
      refine rf_needR ha ?_
      exact ax_cf (by decide) ⟨rfl, h0⟩
    · refine rf_isRow_no hb ?_
      refine rf_need0 ?_
      exact ax_cf (by decide) ⟨rfl, h0⟩
  refine cl_isRow_k hr ?_
  refine ax_cf (by decide) ?_
  rcases sw_dich (n := 6) (by omega) b with ⟨t, ht, rfl⟩ | hb
  case inr =>
    refine cl_isRow_no hb ?_
    refine ax_nf rfl ?_
    apply vc_X9_said
    refine rf_isRow_no hb ?_
    refine rf_need0 ?_
    exact ax_cf (by decide) ⟨rfl, h0⟩
  refine cl_isRow_k ht ?_
  refine ax_nt (by decide) ?_
  rw [q5.1, nI_clamp (n := r) (by omega), nI_clamp (n := t) (by omega)]
  by_cases hN0 : N = 0
  · refine ax_nf (by rw [hN0]; rfl) ?_
    apply vc_X9_said
    refine rf_isRow_k ht ?_
    refine rf_needN hr (by rw [q7.1, hN0]; rfl) ?_
    exact ax_cf (by decide) ⟨rfl, h0⟩
  have hNn : ¬ nI N = 0 := fun z => hN0 ((nI_eq (b := 0) (by omega) (by omega)).mp z)
  have ibr : ax_inb (nI r) 6 = true := ax_inb_nI hr (by omega)
  have ibt : ax_inb (nI t) 6 = true := ax_inb_nI ht (by omega)
  refine ax_nt hNn ⟨ibr, ?_⟩
  have cz : ∀ f a b, ¬ a = 3 → ¬ a = 118 → sw_fC I f a b = I a b := fun f a b z1 z2 => by unfold sw_fC; rw [ax_ui_ne (by omega), ax_ui_ne (by omega)]
  obtain ⟨l1, l2⟩ := h3.1 r hr
  rcases l2 with l2 | ⟨n, hn, l2, l3⟩
  · apply vc_X8_refuseSpeakers
    refine cl_missing l2 ?_
    refine ax_cf (by decide) ?_
    refine cl_find (f := 1) (by omega) ?_
    refine ax_cf (by decide) ?_
    apply vc_X9_said
    refine rf_isRow_k ht ?_
    refine rf_needM hr (by rw [cz _ _ _ (by omega) (by omega), q7.1]; exact hNn) (by rw [cz _ _ _ (by omega) (by omega), l1, l2]) ?_
    exact ax_cf (by decide) ⟨rfl, h0.find (by omega)⟩
  refine cl_refuse q5.1 hN l2 hn (fun z => ?_) (fun z6 zs => ?_) (fun z6 zs => ?_)
  · refine ax_cf (by decide) ?_
    apply vc_X9_said
    refine rf_isRow_k ht ?_
    refine rf_need hr (by rw [cz _ _ _ (by omega) (by omega)]; exact q7.1) hN hN0 (by rw [cz _ _ _ (by omega) (by omega), l1]; exact l2) hn (fun _ => ?_) (fun y => by omega) (fun y => by omega)
    exact ax_cf (by decide) ⟨rfl, h0.find (by omega)⟩
  case refine_3 =>
    refine ax_cf (by decide) ?_
    apply vc_X9_said
    refine rf_isRow_k ht ?_
    refine rf_need hr (by rw [cz _ _ _ (by omega) (by omega)]; exact q7.1) hN hN0 (by rw [cz _ _ _ (by omega) (by omega), l1]; exact l2) hn (fun _ => by omega) (fun _ y => ?_) (fun _ _ => ?_)
    · exfalso
      refine zs (fun j hj => ?_)
      obtain ⟨x, hx, e⟩ := y j hj
      have e : sw_fC I 3 187 (40 * r + j) = nI x := e
      refine ⟨x, hx, ?_⟩
      show I (4 + (115 + 2 * r) + 1) j = nI x
      rw [← l3 j hj, ← cz 3 187 _ (by omega) (by omega)]; exact e
    · exact ax_cf (by decide) ⟨rfl, h0.find (by omega)⟩
  refine ax_ct rfl ⟨ibr, ?_⟩
  obtain ⟨sp, hsp, esp⟩ := zs.pick hN
  refine cl_pbegin q5 hN q6.1 hG.len (by omega) l2 z6 (fun I1 t1 d1 g1 e6 e8 e9 e10 e104 f1 => ⟨ibt, ?_⟩)
  apply vc_X5_countWays
  refine ⟨by decide, ?_⟩
  have fI1 : ax_FR 69 106 I (ax_ui I1 69 7 1) := f1.ui (by omega) (by omega)
  have P1 : sw_PM (ax_ui I1 69 7 1) N T kd tl un n true 0 sp (fun _ _ => 0) W (sw_rp kd es) (sw_rp kd []) (0, fun _ => 0, 0) := by
    refine ⟨q4.frame (fI1 _ (by omega)) (fI1 _ (by omega)), t1.frame (fun a _ _ => ax_ui_row (by omega)), d1.frame (fun a _ _ => ax_ui_row (by omega)), g1.frame (fun a _ _ => ax_ui_row (by omega)), by rw [ax_ui_ne (by omega)]; exact e6, ax_ui_eq, by rw [ax_ui_ne (by omega)]; exact e8, by rw [ax_ui_ne (by omega)]; exact e9, fun q => absurd q (by decide), fun j hj => ?_, fun q => absurd rfl q⟩
    rw [ax_ui_ne (by omega), e104 j hj]; exact esp j hj
  rw [show d + 28 = (d + 24 - n) + n + 4 by omega]
  refine cl_goThrough q1 z6 (by omega) hsp n _ 0 (sw_rp kd []) (fun _ => 0) (0, fun _ => 0, 0) _ _ (by omega) P1 sw_GI_0 (fun j hj => by omega) (fun I2 P2 t2 f2 => ?_)
  have P2 : sw_PM I2 N T kd tl un n true 0 sp (fun _ _ => 0) W (sw_rp kd es) (sw_rp kd []) (sw_al T true 0 kd (sw_rp kd es) sp n) := P2
  have fI2 : ax_FR 69 106 I I2 := fI1.trans f2
  have p9 : I2 69 9 = (sw_al T true 0 kd (sw_rp kd es) sp n).1 := P2.2.2.2.2.2.2.2.1
  have p11 := P2.2.2.2.2.2.2.2.2.2.2
  rw [p9]
  /- the reference, from a memory like it -/
  have ref : ∀ (J : ax_I) (K : Int32 → ax_I → ax_J → Prop), (∀ a, (a < 69 ∨ 106 < a) → a < 119 ∨ 138 < a → J a = I a) → (∀ I', sw_RV I' n true (sw_al T true 0 kd (sw_rp kd es) sp n) → sw_RN 0 (ax_ui J 184 43 0) I' → (decide (I' 184 43 ≤ 0) = true → K (I' 184 43) I' L) ∧ (decide (I' 184 43 ≤ 0) = false → ax_inb (nI r) 6 = true ∧ ax_CV (d + 29) 172 [ax_vr 9 0 184, ax_vi (nI t), ax_vr 10 6 211, ax_vi (I' 186 r)] I' L (fun I13 L14 => K (I13 184 43) I13 L14))) → ax_CI (d + 30) 232 [ax_vr 9 0 184, ax_vi (nI r), ax_vi (nI t)] J L K := by
    intro J K hJ hK
    have hW : sw_TW J N T kd tl un W es := h1'.aside (fun a q => hJ a (by omega) (by omega))
    have ra := hW.ra (by omega)
    have j186 : J 186 r = nI n := by rw [hJ _ (by omega) (by omega), l1]; exact l2
    have j187 : ∀ j, j < n → J 187 (40 * r + j) = nI (sp j) := fun j hj => by rw [hJ _ (by omega) (by omega), l3 j hj]; exact esp j hj
    apply vc_X9_said
    refine rf_isRow_k ht ?_
    refine rf_need hr hW.2.2.2.2.2.2.1.1 hN hN0 j186 hn (fun z => by omega) (fun _ _ => ?_) (fun _ z => absurd (fun j hj => ⟨sp j, hsp j hj, j187 j hj⟩) z)
    refine ax_ct (by decide) ?_
    rw [nI_clamp (by omega)]
    refine rf_rows (fm := true) (th := 0) (sp := sp) (W := W) (Gn := sw_rp kd es) q1 z6 hr (by omega) hsp (ra.1.frame (ax_ui_ne (by omega)) (ax_ui_ne (by omega)) (ax_ui_row (by omega)) (ax_ui_row (by omega)) (ax_ui_row (by omega)) (ax_ui_row (by omega))) (ra.2.same (fun j hj => by unfold sw_fr; rw [ax_ui_row (by omega)])) (by rw [ax_ui_ne (by omega)]; exact j186) (fun j hj => by rw [ax_ui_ne (by omega)]; exact j187 j hj) ax_ui_eq (fun q => by cases q) hK
  by_cases c0 : (sw_al T true 0 kd (sw_rp kd es) sp n).1 ≤ 0
  · refine ax_ct c0 ?_
    refine ref I2 _ (fun a q _ => fI2 a (by omega)) (fun I3 V3 n3 => ?_)
    rw [V3.1]
    refine ax_ct c0 ⟨rfl, ?_⟩
    have far : ∀ a, (a < 69 ∨ 106 < a) → ¬ a = 184 → ¬ a = 199 → ¬ a = 210 → ¬ a = 211 → I3 a = I a := fun a z1 z2 z3 z4 z5 => by rw [n3.2.2 a z2 z3 z4 z5, ax_ui_row z2]; exact fI2 a (by omega)
    have f184 : ∀ b, ¬ b = 43 → ¬ b = 44 → I3 184 b = I 184 b := fun b b1 b2 => by rw [n3.2.1 b b1 b2, ax_ui_ne (by omega), fI2 184 (by omega)]
    refine h0.aside (fun a q => far a (by omega) (by omega) (by omega) (by omega) (by omega)) ⟨fun b hb => ?_, f184 _ (by omega) (by omega), f184 _ (by omega) (by omega), f184 _ (by omega) (by omega)⟩ (h4.frame ?_ (f184 _ (by omega) (by omega)) (far _ (by omega) (by omega) (by omega) (by omega) (by omega)) (far _ (by omega) (by omega) (by omega) (by omega) (by omega)) ?_ (f184 _ (by omega) (by omega)))
    · rw [n3.1 b (by omega), ax_ui_ne (by omega), fI2 199 (by omega)]
    · rw [far _ (by omega) (by omega) (by omega) (by omega) (by omega)]
    · rw [far _ (by omega) (by omega) (by omega) (by omega) (by omega)]
  · refine ax_cf c0 ?_
    have ne0 : ¬ (sw_al T true 0 kd (sw_rp kd es) sp n).1 = 0 := fun z => c0 (by rw [z]; decide)
    rw [P2.2.2.2.2.1]
    refine cl_makeOf (by omega) (by omega) z6 (by omega) (by omega) (fun I3 m1 m2 f3 => ?_)
    rw [f3 69 (by omega), p9]
    have far3 : ∀ a, (a < 69 ∨ 106 < a) → ¬ a = 4 + (115 + 2 * t) → ¬ a = 4 + (115 + 2 * t) + 1 → I3 a = I a := fun a z1 z2 z3 => by rw [f3 a (by omega), fI2 a (by omega)]
    refine ref I3 _ (fun a q q2 => far3 a q (by omega) (by omega)) (fun I4 V4 n4 => ?_)
    have far4 : ∀ a, (a < 69 ∨ 106 < a) → ¬ a = 184 → ¬ a = 199 → ¬ a = 210 → ¬ a = 211 → ¬ a = 4 + (115 + 2 * t) → ¬ a = 4 + (115 + 2 * t) + 1 → I4 a = I a := fun a z1 z2 z3 z4 z5 z6 z7 => by rw [n4.2.2 a z2 z3 z4 z5, ax_ui_row z2]; exact far3 a z1 z6 z7
    have f184 : ∀ b, ¬ b = 43 → ¬ b = 44 → I4 184 b = I 184 b := fun b b1 b2 => by rw [n4.2.1 b b1 b2, ax_ui_ne (by omega), far3 184 (by omega) (by omega) (by omega)]
    have e186 : I4 186 r = nI n := by rw [far4 _ (by omega) (by omega) (by omega) (by omega) (by omega) (by omega) (by omega), l1]; exact l2
    rw [V4.1, e186]
    refine ax_cf c0 ⟨ibr, ?_⟩
    refine rf_layRow ht z6 (by omega) (by omega) (by omega) (fun I5 y1 y2 y3 y4 y5 => ⟨?_, ?_⟩)
    · rw [y5 184 (by omega) (by omega), V4.1]
    refine h0.line ht ⟨?_, .inr ⟨n, hn, ?_, fun i hi => ?_⟩⟩ (fun a q z1 z2 => by rw [y5 a (by omega) (by omega)]; exact far4 a (by omega) (by omega) (by omega) (by omega) (by omega) z1 z2) ⟨fun b hb => ?_, ?_, ?_, ?_⟩ (fun b hb => ?_) (fun b hb => ?_) (h4.frame ?_ ?_ ?_ ?_ ?_ ?_)
    · rw [y1, y5 _ (by omega) (by omega), n4.2.2 _ (by omega) (by omega) (by omega) (by omega), ax_ui_ne (by omega), m1]
    · rw [y5 _ (by omega) (by omega), n4.2.2 _ (by omega) (by omega) (by omega) (by omega), ax_ui_ne (by omega), m1]
    · rw [y3 i hi, y5 _ (by omega) (by omega), n4.2.2 (4 + (115 + 2 * t) + 1) (by omega) (by omega) (by omega) (by omega), ax_ui_ne (by omega), m2 i hi, p11 ne0 i hi]
      exact V4.2.2 ne0 i hi
    · rw [y5 199 (by omega) (by omega), n4.1 b (by omega), ax_ui_ne (by omega), far3 199 (by omega) (by omega) (by omega)]
    · rw [y5 184 (by omega) (by omega)]; exact f184 _ (by omega) (by omega)
    · rw [y5 184 (by omega) (by omega)]; exact f184 _ (by omega) (by omega)
    · rw [y5 184 (by omega) (by omega)]; exact f184 _ (by omega) (by omega)
    · rw [y2 b hb, far4 186 (by omega) (by omega) (by omega) (by omega) (by omega) (by omega) (by omega)]
    · rw [y4 b hb, far4 187 (by omega) (by omega) (by omega) (by omega) (by omega) (by omega) (by omega)]
    · rw [y5 3 (by omega) (by omega), far4 3 (by omega) (by omega) (by omega) (by omega) (by omega) (by omega) (by omega)]
    · rw [y5 184 (by omega) (by omega)]; exact f184 _ (by omega) (by omega)
    · rw [y5 118 (by omega) (by omega), far4 118 (by omega) (by omega) (by omega) (by omega) (by omega) (by omega) (by omega)]
    · rw [y5 185 (by omega) (by omega), far4 185 (by omega) (by omega) (by omega) (by omega) (by omega) (by omega) (by omega)]
    · rw [y5 3 (by omega) (by omega), far4 3 (by omega) (by omega) (by omega) (by omega) (by omega) (by omega) (by omega)]
    · rw [y5 184 (by omega) (by omega)]; exact f184 _ (by omega) (by omega)
theorem op_firsts {I : ax_I} {L : ax_J} (h : sw_RR I L) (a b : Int32) : sw_OP 121 233 [ax_vi a, ax_vi b] I L := by
  intro d
  have h0 := h
  obtain ⟨N, T, kd, tl, un, W, es, h1, h2, h3, h4⟩ := h
  have hG := h1.GI
  have h1' := h1
  obtain ⟨q1, q2, q3, q4, q5, q6, q7, q8, q9, q10⟩ := h1
  have hN := q1.1
  have hT := q1.2.1
  apply vc_X8_firsts
  rcases sw_dich (n := 6) (by omega) b with ⟨r, hr, rfl⟩ | hb
  case inr =>
    refine cl_isRow_no hb ?_
    refine ax_nf rfl ?_
    apply vc_X9_firsts
    rcases sw_dich (n := T) (by omega) a with ⟨w, hw, rfl⟩ | ha
    · refine rf_isThing_k q7.2.1 hT hw ?_
      refine ax_nt (by decide) ?_
      refine rf_needR hb ?_
      exact ax_cf (by decide) ⟨rfl, h0⟩
    · refine rf_isThing_no q7.2.1 hT ha ?_
      refine ax_nf rfl (ax_ifn (fun _ => ?_) (fun _ => ?_))
      · refine rf_need0 ?_
        exact ax_cf (by decide) ⟨rfl, h0⟩
      · refine rf_needR hb ?_
        exact ax_cf (by decide) ⟨rfl, h0⟩
  refine cl_isRow_k hr ?_
  refine ax_nt (by decide) ?_
  rw [q5.1, nI_clamp (n := r) (by omega)]
  by_cases hN0 : N = 0
  · refine ax_nf (by rw [hN0]; rfl) ?_
    have hT0 : T = 0 := q1.2.2.1.mp hN0
    apply vc_X9_firsts
    refine rf_isThing_no q7.2.1 hT ?_ ?_
    · rw [hT0]
      by_cases z : a < 0
      · exact .inl z
      · exact .inr (Int32.not_lt.mp z)
    · refine ax_nf rfl (ax_nf (by rw [q7.1, hN0]; rfl) ?_)
      refine rf_needN hr (by rw [q7.1, hN0]; rfl) ?_
      exact ax_cf (by decide) ⟨rfl, h0⟩
  have hNn : ¬ nI N = 0 := fun z => hN0 ((nI_eq (b := 0) (by omega) (by omega)).mp z)
  have ibr : ax_inb (nI r) 6 = true := ax_inb_nI hr (by omega)
  refine ax_nt hNn ?_
  rcases sw_dich (n := T) (by omega) a with ⟨w, hw, rfl⟩ | ha
  case inr =>
    refine cl_hasThing_no q5.2.1 ha ?_
    refine ax_nf rfl ?_
    apply vc_X9_firsts
    refine rf_isThing_no q7.2.1 hT ha ?_
    refine ax_nf rfl (ax_nt (by rw [q7.1]; exact hNn) ?_)
    refine rf_need0 ?_
    exact ax_cf (by decide) ⟨rfl, h0⟩
  refine cl_hasThing_k q5.2.1 (by omega) hw ?_
  refine ax_nt (by decide) ⟨ibr, ?_⟩
  have cz : ∀ f a b, ¬ a = 3 → ¬ a = 118 → sw_fC I f a b = I a b := fun f a b z1 z2 => by unfold sw_fC; rw [ax_ui_ne (by omega), ax_ui_ne (by omega)]
  obtain ⟨l1, l2⟩ := h3.1 r hr
  rcases l2 with l2 | ⟨n, hn, l2, l3⟩
  · apply vc_X8_refuseSpeakers
    refine cl_missing l2 ?_
    refine ax_cf (by decide) ?_
    refine cl_find (f := 1) (by omega) ?_
    refine ax_cf (by decide) ?_
    apply vc_X9_firsts
    refine rf_isThing_k (by rw [cz _ _ _ (by omega) (by omega)]; exact q7.2.1) hT hw ?_
    refine ax_nt (by decide) ?_
    refine rf_needM hr (by rw [cz _ _ _ (by omega) (by omega), q7.1]; exact hNn) (by rw [cz _ _ _ (by omega) (by omega), l1, l2]) ?_
    exact ax_cf (by decide) ⟨rfl, h0.find (by omega)⟩
  refine cl_refuse q5.1 hN l2 hn (fun z => ?_) (fun z6 zs => ?_) (fun z6 zs => ?_)
  · refine ax_cf (by decide) ?_
    apply vc_X9_firsts
    refine rf_isThing_k (by rw [cz _ _ _ (by omega) (by omega)]; exact q7.2.1) hT hw ?_
    refine ax_nt (by decide) ?_
    refine rf_need hr (by rw [cz _ _ _ (by omega) (by omega)]; exact q7.1) hN hN0 (by rw [cz _ _ _ (by omega) (by omega), l1]; exact l2) hn (fun _ => ?_) (fun y => by omega) (fun y => by omega)
    exact ax_cf (by decide) ⟨rfl, h0.find (by omega)⟩
  case refine_3 =>
    refine ax_cf (by decide) ?_
    apply vc_X9_firsts
    refine rf_isThing_k (by rw [cz _ _ _ (by omega) (by omega)]; exact q7.2.1) hT hw ?_
    refine ax_nt (by decide) ?_
    refine rf_need hr (by rw [cz _ _ _ (by omega) (by omega)]; exact q7.1) hN hN0 (by rw [cz _ _ _ (by omega) (by omega), l1]; exact l2) hn (fun _ => by omega) (fun _ y => ?_) (fun _ _ => ?_)
    · exfalso
      refine zs (fun j hj => ?_)
      obtain ⟨x, hx, e⟩ := y j hj
      have e : sw_fC I 3 187 (40 * r + j) = nI x := e
      refine ⟨x, hx, ?_⟩
      show I (4 + (115 + 2 * r) + 1) j = nI x
      rw [← l3 j hj, ← cz 3 187 _ (by omega) (by omega)]; exact e
    · exact ax_cf (by decide) ⟨rfl, h0.find (by omega)⟩
  refine ax_ct rfl ⟨ibr, ?_⟩
  obtain ⟨sp, hsp, esp⟩ := zs.pick hN
  refine cl_pbegin q5 hN q6.1 hG.len (by omega) l2 z6 (fun I1 t1 d1 g1 e6 e8 e9 e10 e104 f1 => ?_)
  apply vc_X5_firstsOf
  refine ⟨by decide, ?_⟩
  have fI1 : ax_FR 69 106 I (ax_ui (ax_ui I1 69 7 0) 69 8 (nI w)) := (f1.ui (by omega) (by omega)).ui (by omega) (by omega)
  have P1 : sw_PM (ax_ui (ax_ui I1 69 7 0) 69 8 (nI w)) N T kd tl un n false w sp (fun _ _ => 0) W (sw_rp kd es) (sw_rp kd []) (0, fun _ => 0, 0) := by
    refine ⟨q4.frame (fI1 _ (by omega)) (fI1 _ (by omega)), t1.frame (fun a _ _ => by rw [ax_ui_row (by omega), ax_ui_row (by omega)]), d1.frame (fun a _ _ => by rw [ax_ui_row (by omega), ax_ui_row (by omega)]), g1.frame (fun a _ _ => by rw [ax_ui_row (by omega), ax_ui_row (by omega)]), by rw [ax_ui_ne (by omega), ax_ui_ne (by omega)]; exact e6, by rw [ax_ui_ne (by omega)]; exact ax_ui_eq, ax_ui_eq, by rw [ax_ui_ne (by omega), ax_ui_ne (by omega)]; exact e9, fun q => by rw [ax_ui_ne (by omega), ax_ui_ne (by omega)]; exact e10, fun j hj => ?_, fun q => absurd rfl q⟩
    rw [ax_ui_ne (by omega), ax_ui_ne (by omega), e104 j hj]; exact esp j hj
  rw [show d + 28 = (d + 24 - n) + n + 4 by omega]
  refine cl_goThrough q1 z6 (by omega) hsp n _ 0 (sw_rp kd []) (fun _ => 0) (0, fun _ => 0, 0) _ _ (by omega) P1 sw_GI_0 (fun j hj => by omega) (fun I2 P2 t2 f2 => ?_)
  have P2 : sw_PM I2 N T kd tl un n false w sp (fun _ _ => 0) W (sw_rp kd es) (sw_rp kd []) (sw_al T false w kd (sw_rp kd es) sp n) := P2
  have fI2 : ax_FR 69 106 I I2 := fI1.trans f2
  rw [P2.2.2.2.2.2.2.2.2.1 rfl]
  have hW : sw_TW I2 N T kd tl un W es := h1'.aside (fun a q => fI2 a (by omega))
  have ra := hW.ra (by omega)
  have j186 : I2 186 r = nI n := by rw [fI2 _ (by omega), l1]; exact l2
  have j187 : ∀ j, j < n → I2 187 (40 * r + j) = nI (sp j) := fun j hj => by rw [fI2 _ (by omega), l3 j hj]; exact esp j hj
  apply vc_X9_firsts
  refine rf_isThing_k hW.2.2.2.2.2.2.1.2.1 hT hw ?_
  refine ax_nt (by decide) ?_
  refine rf_need hr hW.2.2.2.2.2.2.1.1 hN hN0 j186 hn (fun z => by omega) (fun _ _ => ?_) (fun _ z => absurd (fun j hj => ⟨sp j, hsp j hj, j187 j hj⟩) z)
  refine ax_ct (by decide) ?_
  have row : ∀ a, ¬ a = 184 → (ax_ui (ax_ui I2 184 43 0) 184 44 0) a = I2 a := fun a z => by rw [ax_ui_row z, ax_ui_row z]
  have cell : ∀ b, ¬ b = 43 → ¬ b = 44 → (ax_ui (ax_ui I2 184 43 0) 184 44 0) 184 b = I2 184 b := fun b z1 z2 => by rw [ax_ui_ne (by omega), ax_ui_ne (by omega)]
  refine rf_rows (fm := false) (th := w) (sp := sp) (W := W) (Gn := sw_rp kd es) q1 z6 hr (by omega) hsp (ra.1.frame (cell _ (by omega) (by omega)) (cell _ (by omega) (by omega)) (row _ (by omega)) (row _ (by omega)) (row _ (by omega)) (row _ (by omega))) (ra.2.same (fun j hj => by unfold sw_fr; rw [row _ (by omega)])) (by rw [row _ (by omega)]; exact j186) (fun j hj => by rw [row _ (by omega)]; exact j187 j hj) (by rw [ax_ui_ne (by omega)]; exact ax_ui_eq) (fun _ => ax_ui_eq) (fun I3 V3 n3 => ⟨?_, ?_⟩)
  · rw [V3.2.1 rfl]
  have far : ∀ a, (a < 69 ∨ 106 < a) → ¬ a = 184 → ¬ a = 199 → ¬ a = 210 → ¬ a = 211 → I3 a = I a := fun a z1 z2 z3 z4 z5 => by rw [n3.2.2 a z2 z3 z4 z5, row a z2]; exact fI2 a (by omega)
  have f184 : ∀ b, ¬ b = 43 → ¬ b = 44 → I3 184 b = I 184 b := fun b b1 b2 => by rw [n3.2.1 b b1 b2, cell b b1 b2, fI2 184 (by omega)]
  refine h0.aside (fun a q => far a (by omega) (by omega) (by omega) (by omega) (by omega)) ⟨fun b hb => ?_, f184 _ (by omega) (by omega), f184 _ (by omega) (by omega), f184 _ (by omega) (by omega)⟩ (h4.frame ?_ (f184 _ (by omega) (by omega)) (far _ (by omega) (by omega) (by omega) (by omega) (by omega)) (far _ (by omega) (by omega) (by omega) (by omega) (by omega)) ?_ (f184 _ (by omega) (by omega)))
  · rw [n3.1 b (by omega), row _ (by omega), fI2 199 (by omega)]
  · rw [far _ (by omega) (by omega) (by omega) (by omega) (by omega)]
  · rw [far _ (by omega) (by omega) (by omega) (by omega) (by omega)]
