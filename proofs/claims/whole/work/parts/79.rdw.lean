theorem sw_CR.wants {I : ax_I} {o n : Nat} {f : Nat → Int32} {p Th M x w v : Nat} {kd : Nat → Nat} {tl : Nat → Int32} {W : Nat → Nat → Nat} {un : Nat → Int32} (h : sw_CR I o n f p Th M kd tl W un) (ho : 100 ≤ o) (hx : x < 6) (hw : w < 6) : sw_CR (ax_ui I (33 + (1 + x)) w (nI v)) o n f p Th M kd tl (sw_wu W x w v) un := by
  obtain ⟨h1, h2, h3, h4, h5, h6, h7, h8, h9, h10, h11⟩ := h
  refine ⟨h1.frame (ax_ui_row (by omega)) (ax_ui_row (by omega)), by rw [ax_ui_ne (by omega)]; exact h2, by rw [ax_ui_ne (by omega)]; exact h3, by rw [ax_ui_ne (by omega)]; exact h4, fun i hi => by rw [ax_ui_ne (by omega)]; exact h5 i hi, by rw [ax_ui_ne (by omega)]; exact h6, by rw [ax_ui_ne (by omega)]; exact h7, fun x hx => by rw [ax_ui_ne (by omega)]; exact h8 x hx, fun x hx => by rw [ax_ui_ne (by omega)]; exact h9 x hx, fun x hx => by rw [ax_ui_ne (by omega)]; exact h10 x hx, ?_⟩
  obtain ⟨⟨g1, g2, g3, g4, g5⟩, g6, g7, g8, g9⟩ := h11
  have fr : ∀ a, ¬ a = 33 + (1 + x) → ax_ui I (33 + (1 + x)) w (nI v) a = I a := fun a z => ax_ui_row z
  refine ⟨⟨fun a ha b hb => ?_, fun b hb => by rw [fr _ (by omega)]; exact g2 b hb, fun b hb => by rw [fr _ (by omega)]; exact g3 b hb, by rw [fr _ (by omega)]; exact g4, by rw [fr _ (by omega)]; exact g5⟩, fun b hb => by rw [fr _ (by omega)]; exact g6 b hb, fun b hb => by rw [fr _ (by omega)]; exact g7 b hb, by rw [fr _ (by omega)]; exact g8, by rw [fr _ (by omega), fr _ (by omega)]; exact g9⟩
  unfold sw_wu
  by_cases z : a = x ∧ b = w
  · obtain ⟨rfl, rfl⟩ := z
    rw [if_pos ⟨rfl, rfl⟩]; exact ax_ui_eq
  · rw [if_neg z, ax_ui_ne (by omega)]; exact g1 a ha b hb
theorem sw_CR.und {I : ax_I} {o n : Nat} {f : Nat → Int32} {p Th M w : Nat} {b : Int32} {kd : Nat → Nat} {tl : Nat → Int32} {W : Nat → Nat → Nat} {un : Nat → Int32} (h : sw_CR I o n f p Th M kd tl W un) (ho : 100 ≤ o) : sw_CR (ax_ui I 31 w b) o n f p Th M kd tl W (sw_up un w b) := by
  obtain ⟨h1, h2, h3, h4, h5, h6, h7, h8, h9, h10, h11⟩ := h
  refine ⟨h1.frame (ax_ui_row (by omega)) (ax_ui_row (by omega)), by rw [ax_ui_ne (by omega)]; exact h2, by rw [ax_ui_ne (by omega)]; exact h3, by rw [ax_ui_ne (by omega)]; exact h4, fun i hi => by rw [ax_ui_ne (by omega)]; exact h5 i hi, by rw [ax_ui_ne (by omega)]; exact h6, by rw [ax_ui_ne (by omega)]; exact h7, fun x hx => by rw [ax_ui_ne (by omega)]; exact h8 x hx, fun x hx => by rw [ax_ui_ne (by omega)]; exact h9 x hx, fun x hx => ?_, h11.frame (fun a _ _ => ax_ui_row (by omega))⟩
  by_cases e : x = w
  · rw [e, ax_ui_eq, sw_up_eq]
  · rw [ax_ui_ne (by omega), sw_up_ne e]; exact h10 x hx
theorem sw_wu_W9 {T x w v : Nat} {W : Nat → Nat → Nat} (h : sw_W9 T W) (hw : w < T) (hv : v ≤ 9) : sw_W9 T (sw_wu W x w v) := by
  refine ⟨fun a b => ?_, fun a b hb => ?_⟩
  · unfold sw_wu
    split
    · omega
    · exact h.1 a b
  · unfold sw_wu
    rw [if_neg (by omega)]
    exact h.2 a b hb
theorem cl_readWants {d o n p Th M : Nat} {f : Nat → Int32} {kd : Nat → Nat} {tl un : Nat → Int32} {W : Nat → Nat → Nat} {I : ax_I} {L : ax_J} {K : Int32 → ax_I → ax_J → Prop} (h : sw_CR I o n f p Th M kd tl W un) (ho : sw_ol o) (hn : n ≤ 80) (hp : p ≤ n) (hnb : p < n → ¬ f p = 32) (hTh : 1 ≤ Th) (hTh6 : Th ≤ 6) (hM : 1 ≤ M) (hM6 : M ≤ 6) (hW : sw_W9 Th W) (hk : p < n → sw_kn (f p) = none ∨ M = 6)
    (h0 : ∀ I' e, sw_R n f (p, Th, M, 0, 0, kd, tl, W, un) = .inl e → e ≤ n → I' 27 4 = nI e → ax_FR 27 46 I I' → K 0 I' L)
    (h1 : ∀ I' p' Wn W', sw_R n f (p, Th, M, 0, 0, kd, tl, W, un) = sw_R n f (p', Th, M, Wn, 0, kd, tl, W', un) → p' ≤ n → (p' < n → ¬ f p' = 32) → sw_W9 Th W' → (p' < n → f p' = 119 → Wn = 16) → (p' < n → sw_kn (f p') = none ∨ M = 6 ∨ 0 < Wn) → sw_CR I' o n f p' Th M kd tl W' un → ax_FR 27 46 I I' → K 1 I' L) : ax_CI (d + 3) 74 [ax_vr 6 0 27] I L K := by
  have hl := ho.le
  apply vc_X6_readWants
  suffices ∀ (c Wn q : Nat) (W' : Nat → Nat → Nat) (I1 : ax_I) (z2 z3 z4 : Option ax_V), Wn + c = 16 → sw_R n f (p, Th, M, 0, 0, kd, tl, W, un) = sw_R n f (q, Th, M, Wn, 0, kd, tl, W', un) → q ≤ n → (q < n → ¬ f q = 32) → sw_W9 Th W' → (q < n → sw_kn (f q) = none ∨ M = 6 ∨ 0 < Wn) → sw_CR I1 o n f q Th M kd tl W' un → ax_FR 27 46 I I1 → ax_AK ((d + 2)) 74 (2, [some (ax_vr 6 0 27), some (ax_vi (nI Wn)), z2, z3, z4], [], ax_mm I1 L) (ax_ki K) from this 16 0 p W I _ _ _ (by omega) rfl hp hnb hW (fun z => (hk z).imp id .inl) h ax_FR.refl
  intro c
  induction c with
  | zero =>
    intro Wn q W' I1 z2 z3 z4 hWn hr hq hnq h9 hkq hC hf
    apply vc_X6_readWants_2
    exact ax_ct ((nI_leI (a := 16) (by omega) (by omega)).mpr (by omega)) ⟨by decide, h1 I1 q Wn W' hr hq hnq h9 (fun _ _ => by omega) hkq hC hf⟩
  | succ c ih =>
    intro Wn q W' I1 z2 z3 z4 hWn hr hq hnq h9 hkq hC hf
    apply vc_X6_readWants_2
    refine ax_cf (fun z => by have := (nI_leI (a := 16) (by omega) (by omega)).mp z; omega) ?_
    refine cl_take hC ho hn hq (by decide) (fun hlt hb c2 => ?_) (fun hno => ?_)
    case refine_2 => exact ax_ct rfl ⟨by decide, h1 I1 q Wn W' hr hq hnq h9 (fun z z2 => absurd z2 (hno z)) hkq hC hf⟩
    have ns : sw_stp n f (q, Th, M, Wn, 0, kd, tl, W', un) = (match sw_fg n f (q + 1) 0 (M - 1) with
      | none => .inl (q + 1)
      | some x => match sw_fg n f (q + 2) 0 (Th - 1) with
        | none => .inl (q + 2)
        | some w => match sw_fg n f (q + 3) 1 9 with
          | none => .inl (q + 3)
          | some v => .inr (q + 4, Th, M, Wn + 1, 0, kd, tl, sw_wu W' x w v, un)) := by
      unfold sw_stp; dsimp only; rw [if_neg (by omega), if_pos hb, if_neg (by omega)]; rfl
    have n32 := hnq hlt
    refine ax_cf (by decide) ?_
    rw [c2.2.2.2.2.2.1, ax_nI_s1 (by omega)]
    refine cl_takeFigure (lo := 0) (hi := M - 1) c2 ho hn (by omega) (by omega) (by omega) (fun x hx c3 => ?_) (fun hv => ?_)
    case refine_2 =>
      rw [hv] at ns
      refine ax_nf rfl ⟨by decide, ?_⟩
      refine h0 _ (q + 1) ?_ (by omega) c2.2.2.2.1 (hf.ui (by omega) (by omega))
      rw [hr]; exact sw_R_no hlt n32 ns
    obtain ⟨g1, g2, g3, g4⟩ := sw_fg_v (by omega) (by omega) hx
    rw [hx] at ns
    dsimp only at ns
    refine ax_nt (ax_ne9 (by omega)) ?_
    rw [c3.2.2.2.2.2.2.1, ax_nI_s1 (by omega)]
    refine cl_takeFigure (lo := 0) (hi := Th - 1) c3 ho hn (by omega) (by omega) (by omega) (fun w hw c4 => ?_) (fun hv => ?_)
    case refine_2 =>
      rw [hv] at ns
      refine ax_nf rfl ⟨by decide, ?_⟩
      refine h0 _ (q + 2) ?_ (by omega) c3.2.2.2.1 ((hf.ui (by omega) (by omega)).ui (by omega) (by omega))
      rw [hr]; exact sw_R_no hlt n32 ns
    obtain ⟨i1, i2, i3, i4⟩ := sw_fg_v (by omega) (by omega) hw
    rw [hw] at ns
    dsimp only at ns
    refine ax_nt (ax_ne9 (by omega)) ?_
    refine cl_takeFigure (lo := 1) (hi := 9) c4 ho hn (by omega) (by omega) (by omega) (fun v hv c5 => ?_) (fun hv => ?_)
    case refine_2 =>
      rw [hv] at ns
      refine ax_nf rfl ⟨by decide, ?_⟩
      refine h0 _ (q + 3) ?_ (by omega) c4.2.2.2.1 (((hf.ui (by omega) (by omega)).ui (by omega) (by omega)).ui (by omega) (by omega))
      rw [hr]; exact sw_R_no hlt n32 ns
    obtain ⟨j1, j2, j3, j4⟩ := sw_fg_v (by omega) (by omega) hv
    rw [hv] at ns
    dsimp only at ns
    refine ax_nt (ax_ne9 (by omega)) ⟨ax_inb_nI (by omega) (by omega), ax_inb_nI (by omega) (by omega), ?_⟩
    rw [nI_clamp (n := x) (by omega), nI_clamp (n := w) (by omega), nI_1]
    refine cl_skip (c5.wants (by omega) (by omega) (by omega)) ho hn (by omega) (fun I6 p6 hp6 hp7 hnb6 hr6 c6 f6 => ?_)
    refine ih (Wn + 1) p6 _ I6 _ _ _ (by omega) ?_ hp7 hnb6 (sw_wu_W9 h9 (by omega) j3) (fun _ => .inr (.inr (by omega))) c6 ?_
    · rw [hr, sw_R_go hlt n32 ns]; exact hr6 _
    · exact (((((hf.ui (by omega) (by omega)).ui (by omega) (by omega)).ui (by omega) (by omega)).ui (by omega) (by omega)).ui (by omega) (by omega)).trans (f6.wide (by omega) (by omega))
def sw_U6 (Th : Nat) (un : Nat → Int32) : Prop := (∀ w, w < 6 → ∀ i, i < 32 → ax_bt (un w) i = true → i < Th) ∧ (∀ w, Th ≤ w → w < 6 → un w = 0)
theorem sw_U6.up {Th w v : Nat} {un : Nat → Int32} (h : sw_U6 Th un) (hw : w < Th) (hv : v < Th) (hT : Th ≤ 6) : sw_U6 Th (sw_up un w (un w ||| (1 : Int32) <<< (nI v &&& 31))) := by
  refine ⟨fun a ha i hi hb => ?_, fun a ha ha6 => ?_⟩
  · by_cases e : a = w
    · rw [e, sw_up_eq, ax_bt_or, ax_bt_sh (by omega) hi, Bool.or_eq_true, decide_eq_true_iff] at hb
      rcases hb with hb | hb
      · exact h.1 w (by omega) i hi hb
      · omega
    · rw [sw_up_ne e] at hb; exact h.1 a ha i hi hb
  · rw [sw_up_ne (by omega)]; exact h.2 a ha ha6
theorem cl_readUndoings {d o n p Th M Wn : Nat} {f : Nat → Int32} {kd : Nat → Nat} {tl un : Nat → Int32} {W : Nat → Nat → Nat} {I : ax_I} {L : ax_J} {K : Int32 → ax_I → ax_J → Prop} (h : sw_CR I o n f p Th M kd tl W un) (ho : sw_ol o) (hn : n ≤ 80) (hp : p ≤ n) (hnb : p < n → ¬ f p = 32) (hTh : 1 ≤ Th) (hTh6 : Th ≤ 6) (hM : 1 ≤ M) (hM6 : M ≤ 6) (hU : sw_U6 Th un) (h119 : p < n → f p = 119 → Wn = 16) (hk : p < n → sw_kn (f p) = none ∨ M = 6 ∨ 0 < Wn)
    (h0 : ∀ I' e, sw_R n f (p, Th, M, Wn, 0, kd, tl, W, un) = .inl e → e ≤ n → I' 27 4 = nI e → ax_FR 27 46 I I' → K 0 I' L)
    (h1 : ∀ I' p' Un un', (sw_R n f (p, Th, M, Wn, 0, kd, tl, W, un) = if n ≤ p' then .inr (p', Th, M, Wn, Un, kd, tl, W, un') else .inl p') → p' ≤ n → sw_U6 Th un' → sw_CR I' o n f p' Th M kd tl W un' → ax_FR 27 46 I I' → K 1 I' L) : ax_CI (d + 3) 75 [ax_vr 6 0 27] I L K := by
  have hl := ho.le
  apply vc_X6_readUndoings
  suffices ∀ (c Un q : Nat) (un' : Nat → Int32) (I1 : ax_I) (z2 z3 : Option ax_V), Un + c = 6 → sw_R n f (p, Th, M, Wn, 0, kd, tl, W, un) = sw_R n f (q, Th, M, Wn, Un, kd, tl, W, un') → q ≤ n → (q < n → ¬ f q = 32) → sw_U6 Th un' → (q < n → f q = 119 → Wn = 16 ∨ 0 < Un) → (q < n → sw_kn (f q) = none ∨ M = 6 ∨ 0 < Wn + Un) → sw_CR I1 o n f q Th M kd tl W un' → ax_FR 27 46 I I1 → ax_AK ((d + 2)) 75 (2, [some (ax_vr 6 0 27), some (ax_vi (nI Un)), z2, z3], [], ax_mm I1 L) (ax_ki K) from this 6 0 p un I _ _ (by omega) rfl hp hnb hU (fun z z2 => .inl (h119 z z2)) hk h ax_FR.refl
  have fin : ∀ (Un q : Nat) (un' : Nat → Int32), (q < n → ¬ f q = 32) → (q < n → f q = 119 → Wn = 16 ∨ 0 < Un) → (q < n → sw_kn (f q) = none ∨ M = 6 ∨ 0 < Wn + Un) → (q < n → f q = 117 → Un = 6) → sw_R n f (q, Th, M, Wn, Un, kd, tl, W, un') = if n ≤ q then .inr (q, Th, M, Wn, Un, kd, tl, W, un') else .inl q := by
    intro Un q un' z1 z2 z3 z4
    by_cases hlt : q < n
    · rw [if_neg (by omega)]
      refine sw_R_no hlt (z1 hlt) ?_
      unfold sw_stp; dsimp only
      rw [if_neg (by omega)]
      split
      · rename_i e; rw [if_pos (.inr (z2 hlt e))]
      · split
        · rename_i e; rw [if_pos (.inr (z4 hlt e))]
        · rcases z3 hlt with e | e
          · rw [e]
          · cases sw_kn (f q) with
            | none => rfl
            | some k => exact if_pos e
    · rw [if_pos (by omega), sw_R_end (by show n ≤ q; omega)]
      exact if_neg (by show ¬ M = 0; omega)
  intro c
  induction c with
  | zero =>
    intro Un q un' I1 z2 z3 hUn hr hq hnq h6 h19 hkq hC hf
    apply vc_X6_readUndoings_2
    exact ax_ct ((nI_leI (a := 6) (by omega) (by omega)).mpr (by omega)) ⟨by decide, h1 I1 q Un un' (by rw [hr]; exact fin Un q un' hnq h19 hkq (fun _ _ => by omega)) hq h6 hC hf⟩
  | succ c ih =>
    intro Un q un' I1 z2 z3 hUn hr hq hnq h6 h19 hkq hC hf
    apply vc_X6_readUndoings_2
    refine ax_cf (fun z => by have := (nI_leI (a := 6) (by omega) (by omega)).mp z; omega) ?_
    refine cl_take hC ho hn hq (by decide) (fun hlt hb c2 => ?_) (fun hno => ?_)
    case refine_2 => exact ax_ct rfl ⟨by decide, h1 I1 q Un un' (by rw [hr]; exact fin Un q un' hnq h19 hkq (fun z z2 => absurd z2 (hno z))) hq h6 hC hf⟩
    have ns : sw_stp n f (q, Th, M, Wn, Un, kd, tl, W, un') = (match sw_fg n f (q + 1) 0 (Th - 1) with
      | none => .inl (q + 1)
      | some w => match sw_fg n f (q + 2) 0 (Th - 1) with
        | none => .inl (q + 2)
        | some v => if v = w then .inl (q + 2) else .inr (q + 3, Th, M, Wn, Un + 1, kd, tl, W, sw_up un' w (un' w ||| (1 : Int32) <<< (nI v &&& 31)))) := by
      unfold sw_stp; dsimp only; rw [if_neg (by omega), if_neg (by rw [hb]; decide), if_pos hb, if_neg (by omega)]; rfl
    have n32 := hnq hlt
    refine ax_cf (by decide) ?_
    rw [c2.2.2.2.2.2.2.1, ax_nI_s1 (by omega)]
    refine cl_takeFigure (lo := 0) (hi := Th - 1) c2 ho hn (by omega) (by omega) (by omega) (fun w hw c3 => ?_) (fun hv => ?_)
    case refine_2 =>
      rw [hv] at ns
      refine ax_ct rfl ⟨by decide, ?_⟩
      refine h0 _ (q + 1) ?_ (by omega) c2.2.2.2.1 (hf.ui (by omega) (by omega))
      rw [hr]; exact sw_R_no hlt n32 ns
    obtain ⟨g1, g2, g3, g4⟩ := sw_fg_v (by omega) (by omega) hw
    rw [hw] at ns
    dsimp only at ns
    refine ax_cf (ax_ne9 (by omega)) ?_
    refine cl_sign c3 ho hn (by omega) ?_
    have f2 := (hf.ui (by omega) (by omega) : ax_FR 27 46 I (ax_ui I1 27 4 (nI (q + 1))))
    have f3 := (f2.ui (by omega) (by omega) : ax_FR 27 46 I (ax_ui (ax_ui I1 27 4 (nI (q + 1))) 27 4 (nI (q + 1 + 1))))
    by_cases same : sw_sg n f (q + 1 + 1) = 48 + nI w
    · refine ax_nf same ⟨by decide, ?_⟩
      refine h0 _ (q + 2) ?_ (by omega) c3.2.2.2.1 f3
      rw [hr]
      refine sw_R_no hlt n32 ?_
      rw [ns]
      cases hv : sw_fg n f (q + 2) 0 (Th - 1) with
      | none => rfl
      | some v =>
        obtain ⟨i1, i2, i3, i4⟩ := sw_fg_v (by omega) (by omega) hv
        unfold sw_sg at same
        rw [if_pos i1] at same
        have e : nI v = nI w := by rw [← i4, show f (q + 2) = 48 + nI w from same, Int32.add_comm, Int32.add_sub_cancel]
        have e := (nI_eq (by omega) (by omega)).mp e
        dsimp only
        rw [if_pos e]
    · refine ax_nt same ?_
      rw [c3.2.2.2.2.2.2.1, ax_nI_s1 (by omega)]
      refine cl_takeFigure (lo := 0) (hi := Th - 1) c3 ho hn (by omega) (by omega) (by omega) (fun v hv c4 => ?_) (fun hv => ?_)
      case refine_2 =>
        rw [hv] at ns
        refine ax_nf rfl ⟨by decide, ?_⟩
        refine h0 _ (q + 2) ?_ (by omega) c3.2.2.2.1 f3
        rw [hr]; exact sw_R_no hlt n32 ns
      obtain ⟨i1, i2, i3, i4⟩ := sw_fg_v (by omega) (by omega) hv
      have ne : ¬ v = w := fun e => by
        unfold sw_sg at same
        rw [if_pos i1] at same
        apply same
        rw [← e, ← i4, Int32.add_comm, Int32.sub_add_cancel]
      rw [hv] at ns
      dsimp only at ns
      rw [if_neg ne] at ns
      refine ax_nt (ax_ne9 (by omega)) ⟨ax_inb_nI (by omega) (by omega), ax_inb_nI (by omega) (by omega), ?_⟩
      rw [nI_clamp (n := w) (by omega), nI_1, c4.2.2.2.2.2.2.2.2.2.1 w (by omega)]
      refine cl_skip (c4.und (by omega)) ho hn (by omega) (fun I6 p6 hp6 hp7 hnb6 hr6 c6 f6 => ?_)
      refine ih (Un + 1) p6 _ I6 _ _ (by omega) ?_ hp7 hnb6 (h6.up (by omega) (by omega) hTh6) (fun _ _ => .inr (by omega)) (fun _ => .inr (.inr (by omega))) c6 ?_
      · rw [hr, sw_R_go hlt n32 ns]; exact hr6 _
      · exact ((f3.ui (by omega) (by omega)).ui (by omega) (by omega)).trans (f6.wide (by omega) (by omega))
