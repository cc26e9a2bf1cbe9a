theorem cl_town78 {d : Nat} {z1 : Option ax_V} {I : ax_I} {L : ax_J} {K : Int32 → ax_I → ax_J → Prop} (hK : ∀ I', (∀ k, k < 3 → I' 26 k = 0) → ax_FR 26 26 I I' → K (I 6 0) I' L) : ax_AK d 99 (78, [some (ax_vr 8 0 3), z1, some (ax_vi 0)], [], ax_mm I L) (ax_ki K) := by
  suffices ∀ (c i : Nat) (I1 : ax_I) (z1 : Option ax_V), i + c = 3 → (∀ k, k < i → I1 26 k = 0) → ax_FR 26 26 I I1 → ax_AK d 99 (78, [some (ax_vr 8 0 3), z1, some (ax_vi (nI i))], [], ax_mm I1 L) (ax_ki K) from this 3 0 I z1 (by omega) (fun k hk => by omega) ax_FR.refl
  intro c
  induction c with
  | zero =>
    intro i I1 z1 hi g f1
    apply vc_X8_town_78
    refine ax_ct ((nI_leI (a := 3) (by omega) (by omega)).mpr (by omega)) ?_
    rw [f1 6 (by omega)]
    exact hK I1 (fun k hk => g k (by omega)) f1
  | succ c ih =>
    intro i I1 z1 hi g f1
    apply vc_X8_town_78
    refine ax_cf (fun z => by have := (nI_leI (a := 3) (by omega) (by omega)).mp z; omega) ⟨by rw [ax_inb_nI (by omega) (by omega)]; decide, ?_⟩
    rw [nI_clamp (by omega), nI_1]
    refine ih (i + 1) _ _ (by omega) (fun k hk => ?_) (f1.ui (by omega) (by omega))
    by_cases e : k = i
    · rw [e]; exact ax_ui_eq
    · rw [ax_ui_ne (by omega)]; exact g k (by omega)
theorem rf_town172 {d : Nat} {z1 : Option ax_V} {I : ax_I} {L : ax_J} {K : Int32 → ax_I → ax_J → Prop} (hK : ∀ I', (∀ k, k < 3 → I' 202 k = 0) → ax_FR 202 202 I I' → K (I 184 10) I' L) : ax_AK d 181 (172, [some (ax_vr 9 0 184), z1, some (ax_vi 0)], [], ax_mm I L) (ax_ki K) := by
  suffices ∀ (c i : Nat) (I1 : ax_I) (z1 : Option ax_V), i + c = 3 → (∀ k, k < i → I1 202 k = 0) → ax_FR 202 202 I I1 → ax_AK d 181 (172, [some (ax_vr 9 0 184), z1, some (ax_vi (nI i))], [], ax_mm I1 L) (ax_ki K) from this 3 0 I z1 (by omega) (fun k hk => by omega) ax_FR.refl
  intro c
  induction c with
  | zero =>
    intro i I1 z1 hi g f1
    apply vc_X9_town_172
    refine ax_ct ((nI_leI (a := 3) (by omega) (by omega)).mpr (by omega)) ?_
    rw [f1 184 (by omega)]
    exact hK I1 (fun k hk => g k (by omega)) f1
  | succ c ih =>
    intro i I1 z1 hi g f1
    apply vc_X9_town_172
    refine ax_cf (fun z => by have := (nI_leI (a := 3) (by omega) (by omega)).mp z; omega) ⟨by rw [ax_inb_nI (by omega) (by omega)]; decide, ?_⟩
    rw [nI_clamp (by omega), nI_1]
    refine ih (i + 1) _ _ (by omega) (fun k hk => ?_) (f1.ui (by omega) (by omega))
    by_cases e : k = i
    · rw [e]; exact ax_ui_eq
    · rw [ax_ui_ne (by omega)]; exact g k (by omega)
theorem rf_town136 {d : Nat} {z1 : Option ax_V} {I : ax_I} {L : ax_J} {K : Int32 → ax_I → ax_J → Prop} (hK : ∀ I', (∀ w, w < 6 → I' 194 w = I 198 w) → (∀ j, j < 31 → sw_fr I' 0 j = if j < 24 then -9 else 0) → I' 184 27 = 0 → (∀ k, k < 3 → I' 202 k = 0) → (∀ b, ¬ b = 27 → I' 184 b = I 184 b) → (∀ a, ¬ a = 184 → ¬ a = 194 → ¬ a = 199 → ¬ a = 202 → I' a = I a) → K (I 184 10) I' L) : ax_AK ((d + 2)) 181 (136, [some (ax_vr 9 0 184), z1, some (ax_vi 0)], [], ax_mm I L) (ax_ki K) := by
  suffices ∀ (c i : Nat) (I1 : ax_I) (z1 : Option ax_V), i + c = 6 → (∀ w, w < i → I1 194 w = I 198 w) → ax_FR 194 194 I I1 → ax_AK ((d + 2)) 181 (136, [some (ax_vr 9 0 184), z1, some (ax_vi (nI i))], [], ax_mm I1 L) (ax_ki K) from this 6 0 I z1 (by omega) (fun k hk => by omega) ax_FR.refl
  intro c
  induction c with
  | zero =>
    intro i I1 z1 hi g f1
    apply vc_X9_town_136
    refine ax_ct ((nI_leI (a := 6) (by omega) (by omega)).mpr (by omega)) ?_
    refine rf_clear (k := 0) (by omega) (fun I2 c2 _ f2 => ?_)
    refine rf_town172 (fun I3 g3 f3 => ?_)
    rw [ax_ui_ne (by omega), f2 184 (by omega), f1 184 (by omega)]
    refine hK I3 (fun w hw => ?_) (fun j hj => ?_) ?_ g3 (fun b hb => ?_) (fun a a1 a2 a3 a4 => ?_)
    · rw [f3 _ (by omega), ax_ui_ne (by omega), f2 _ (by omega)]; exact g w (by omega)
    · unfold sw_fr; rw [f3 _ (by omega), ax_ui_ne (by omega)]; exact c2 j hj
    · rw [f3 _ (by omega)]; exact ax_ui_eq
    · rw [f3 _ (by omega), ax_ui_ne (by omega), f2 _ (by omega), f1 _ (by omega)]
    · rw [f3 _ (by omega), ax_ui_row (by omega), f2 _ (by omega), f1 _ (by omega)]
  | succ c ih =>
    intro i I1 z1 hi g f1
    apply vc_X9_town_136
    refine ax_cf (fun z => by have := (nI_leI (a := 6) (by omega) (by omega)).mp z; omega) ⟨ax_inb_nI (by omega) (by omega), ax_inb_nI (by omega) (by omega), ?_⟩
    rw [nI_clamp (by omega), nI_1]
    refine ih (i + 1) _ _ (by omega) (fun k hk => ?_) (f1.ui (by omega) (by omega))
    by_cases e : k = i
    · rw [e, ax_ui_eq, f1 198 (by omega)]
    · rw [ax_ui_ne (by omega)]; exact g k (by omega)
theorem rf_town110 {d : Nat} {z1 : Option ax_V} {I : ax_I} {L : ax_J} {K : Int32 → ax_I → ax_J → Prop} (hK : ∀ I', (∀ j, j < 36 → I' 193 j = I 197 j) → (∀ w, w < 6 → I' 194 w = I 198 w) → (∀ j, j < 31 → sw_fr I' 0 j = if j < 24 then -9 else 0) → I' 184 27 = 0 → (∀ k, k < 3 → I' 202 k = 0) → (∀ b, ¬ b = 27 → I' 184 b = I 184 b) → (∀ a, ¬ a = 184 → ¬ a = 193 → ¬ a = 194 → ¬ a = 199 → ¬ a = 202 → I' a = I a) → K (I 184 10) I' L) : ax_AK ((d + 2)) 181 (110, [some (ax_vr 9 0 184), z1, some (ax_vi 0)], [], ax_mm I L) (ax_ki K) := by
  suffices ∀ (c i : Nat) (I1 : ax_I) (z1 : Option ax_V), i + c = 36 → (∀ w, w < i → I1 193 w = I 197 w) → ax_FR 193 193 I I1 → ax_AK ((d + 2)) 181 (110, [some (ax_vr 9 0 184), z1, some (ax_vi (nI i))], [], ax_mm I1 L) (ax_ki K) from this 36 0 I z1 (by omega) (fun k hk => by omega) ax_FR.refl
  intro c
  induction c with
  | zero =>
    intro i I1 z1 hi g f1
    apply vc_X9_town_110
    refine ax_ct ((nI_leI (a := 36) (by omega) (by omega)).mpr (by omega)) ?_
    refine rf_town136 (fun I3 g1 g2 g3 g4 g5 g6 => ?_)
    rw [f1 184 (by omega)]
    refine hK I3 (fun j hj => ?_) (fun w hw => ?_) g2 g3 g4 (fun b hb => ?_) (fun a a1 a2 a3 a4 a5 => ?_)
    · rw [g6 _ (by omega) (by omega) (by omega) (by omega)]; exact g j (by omega)
    · rw [g1 w hw, f1 _ (by omega)]
    · rw [g5 b hb, f1 _ (by omega)]
    · rw [g6 a a1 a3 a4 a5, f1 _ (by omega)]
  | succ c ih =>
    intro i I1 z1 hi g f1
    apply vc_X9_town_110
    refine ax_cf (fun z => by have := (nI_leI (a := 36) (by omega) (by omega)).mp z; omega) ⟨ax_inb_nI (by omega) (by omega), ax_inb_nI (by omega) (by omega), ?_⟩
    rw [nI_clamp (by omega), nI_1]
    refine ih (i + 1) _ _ (by omega) (fun k hk => ?_) (f1.ui (by omega) (by omega))
    by_cases e : k = i
    · rw [e, ax_ui_eq, f1 197 (by omega)]
    · rw [ax_ui_ne (by omega)]; exact g k (by omega)
theorem sw_tk_eq {M x : Nat} {t : Int32} (hM : M ≤ 6) (hx : x < 6) : (t &&& ((1 : Int32) <<< (nI M &&& 31) - 1)) &&& ((1 : Int32) <<< (nI x &&& 31) ^^^ (-1)) = t &&& ax_ms 6 (fun y => decide (y < M) && !decide (y = x)) := by
  apply ax_bt_ext
  intro i hi
  rw [ax_bt_and, ax_bt_and, ax_bt_and, ax_bt_xor, ax_bt_m1 hi, ax_bt_low (by omega) hi, ax_bt_sh (by omega) hi, ax_bt_ms (by omega), Bool.xor_true]
  by_cases q : i < M
  · simp [q, show i < 6 by omega]
  · simp [q]
theorem rf_town55 {d M : Nat} {kd : Nat → Nat} {tl : Nat → Int32} {z1 : Option ax_V} {I : ax_I} {L : ax_J} {K : Int32 → ax_I → ax_J → Prop} (hM : M ≤ 6) (h10 : I 184 10 = nI M) (h195 : ∀ x, x < M → I 195 x = nI (kd x)) (h196 : ∀ x, x < M → I 196 x = tl x) (hK : ∀ I', (∀ x, x < M → I' 191 x = nI (kd x)) → (∀ x, x < M → I' 192 x = sw_tk M tl x) → (∀ j, j < 36 → I' 193 j = I 197 j) → (∀ w, w < 6 → I' 194 w = I 198 w) → (∀ j, j < 31 → sw_fr I' 0 j = if j < 24 then -9 else 0) → I' 184 27 = 0 → (∀ k, k < 3 → I' 202 k = 0) → (∀ b, ¬ b = 27 → I' 184 b = I 184 b) → (∀ a, ¬ a = 184 → a < 191 ∨ 194 < a → ¬ a = 199 → ¬ a = 202 → I' a = I a) → K (nI M) I' L) : ax_AK ((d + 2)) 181 (55, [some (ax_vr 9 0 184), z1, some (ax_vi 0)], [], ax_mm I L) (ax_ki K) := by
  suffices ∀ (c i : Nat) (I1 : ax_I) (z1 : Option ax_V), i + c = M → (∀ x, x < i → I1 191 x = nI (kd x)) → (∀ x, x < i → I1 192 x = sw_tk M tl x) → ax_FR 191 192 I I1 → ax_AK ((d + 2)) 181 (55, [some (ax_vr 9 0 184), z1, some (ax_vi (nI i))], [], ax_mm I1 L) (ax_ki K) from this M 0 I z1 (by omega) (fun k hk => by omega) (fun k hk => by omega) ax_FR.refl
  intro c
  induction c with
  | zero =>
    intro i I1 z1 hi q1 q2 f1
    apply vc_X9_town_55
    rw [f1 184 (by omega), h10]
    refine ax_ct ((nI_leI (by omega) (by omega)).mpr (by omega)) ?_
    refine rf_town110 (fun I3 g0 g1 g2 g3 g4 g5 g6 => ?_)
    rw [f1 184 (by omega), h10]
    refine hK I3 (fun x hx => ?_) (fun x hx => ?_) (fun j hj => ?_) (fun w hw => ?_) g2 g3 g4 (fun b hb => ?_) (fun a a1 a2 a3 a4 => ?_)
    · rw [g6 _ (by omega) (by omega) (by omega) (by omega) (by omega)]; exact q1 x (by omega)
    · rw [g6 _ (by omega) (by omega) (by omega) (by omega) (by omega)]; exact q2 x (by omega)
    · rw [g0 j hj, f1 _ (by omega)]
    · rw [g1 w hw, f1 _ (by omega)]
    · rw [g5 b hb, f1 _ (by omega)]
    · rw [g6 a a1 (by omega) (by omega) a3 a4, f1 _ (by omega)]
  | succ c ih =>
    intro i I1 z1 hi q1 q2 f1
    apply vc_X9_town_55
    have e10 : I1 184 10 = nI M := by rw [f1 184 (by omega)]; exact h10
    rw [nI_clamp (by omega), nI_1, ax_ui_ne (a := 196) (by omega), ax_ui_ne (a := 184) (by omega), e10, f1 196 (by omega), h196 i (by omega), f1 195 (by omega), h195 i (by omega), sw_tk_eq hM (by omega)]
    refine ax_cf (fun z => by have := (nI_leI (by omega) (by omega)).mp z; omega) ⟨ax_inb_nI (by omega) (by omega), ax_inb_nI (by omega) (by omega), ax_inb_nI (by omega) (by omega), ax_inb_nI (by omega) (by omega), ?_⟩
    refine ih (i + 1) _ _ (by omega) (fun k hk => ?_) (fun k hk => ?_) ((f1.ui (by omega) (by omega)).ui (by omega) (by omega))
    · rw [ax_ui_ne (by omega)]
      by_cases e : k = i
      · rw [e, ax_ui_eq]
      · rw [ax_ui_ne (by omega)]; exact q1 k (by omega)
    · by_cases e : k = i
      · rw [e, ax_ui_eq]; rfl
      · rw [ax_ui_ne (by omega), ax_ui_ne (by omega)]; exact q2 k (by omega)
theorem op_town {I : ax_I} {L : ax_J} (h : sw_RR I L) (a : Int32) : sw_OP 99 181 [ax_vi a] I L := by
  intro d
  apply vc_X8_town
  rcases sw_dich (n := 4) (by omega) a with ⟨r, hr, rfl⟩ | ha
  case inr =>
    refine cl_isText_no ha ?_
    refine ax_nf rfl ?_
    apply vc_X9_town
    refine rf_isText_no ha ?_
    exact ax_nf rfl ⟨rfl, h⟩
  refine cl_isText_k hr ?_
  refine ax_nt (by decide) ⟨ax_inb_nI (by omega) (by omega), ?_⟩
  rw [nI_clamp (by omega)]
  obtain ⟨l1, l2⟩ := h.LS.2 r hr
  rcases l2 with l2 | ⟨n, hn, l2, l3⟩
  · refine cl_missing l2 ?_
    refine ax_cf (by decide) ?_
    refine cl_find (f := 1) (by omega) ?_
    apply vc_X9_town
    refine rf_isText_k hr ?_
    have e : sw_fC I 1 189 r = -1 := by unfold sw_fC; rw [ax_ui_ne (by omega), ax_ui_ne (by omega), l1, l2]
    refine ax_nt (by decide) ⟨ax_inb_nI (by omega) (by omega), ?_⟩
    rw [nI_clamp (by omega), e]
    refine ax_cf (by decide) ?_
    exact rf_meets (f := 1) (by omega) ⟨rfl, h.find (by omega)⟩
  refine cl_there l2 (by omega) ?_
  refine ax_ct rfl ⟨ax_inb_nI (by omega) (by omega), ?_⟩
  have hst : sw_ST I := by obtain ⟨N, T, kd, tl, un, W, es, h1, _⟩ := h; exact h1.2.2.2.1
  refine cl_read hst ⟨r, hr, rfl⟩ hn l2 (fun i hi => rfl) (fun I1 e r1 le f1 => ?_) (fun I1 p Th M Wn Un kd tl W un r1 a1 a2 a3 a4 a5 a6 a7 a8 a9 f1 => ?_)
  · refine ax_cf (ax_ne9 (by omega)) ?_
    apply vc_X9_town
    refine rf_isText_k hr ?_
    refine ax_nt (by decide) ⟨ax_inb_nI (by omega) (by omega), ?_⟩
    rw [nI_clamp (by omega), f1 189 (by omega), l1, l2]
    refine ax_ct (nI_pos' (by omega)) ?_
    refine rf_faultOf (sw_RR.rg (f1.wide (by omega) (by omega)) (l1.trans l2) l3) hr hn (fun I2 e2 r2 f2 => ?_) (fun I2 p Th M Wn Un kd tl W un r2 R2 f2 => ?_)
    · rw [r1] at r2; cases r2
      exact ax_cf (ax_ne9 (by omega)) ⟨rfl, (h.same (sw_SM.of f1 (by omega) (by omega))).same f2.same⟩
    · rw [r1] at r2; cases r2
  · refine ax_ct rfl ?_
    refine cl_tbecome a8 a4 (by omega) (fun I2 t2 f2 => ?_)
    have d2 := a9.frame (fun a _ _ => f2 a (by omega))
    refine cl_become (N := M) (T := Th) d2 a4 a2 ⟨Nat.zero_le 40, fun e he => by cases he⟩ (by omega) (fun I3 d3 f3 => ?_)
    have t3 := t2.frame (I' := I3) (fun a _ _ => f3 a (by omega))
    refine cl_town78 (fun I4 g4 f4 => ?_)
    have t4 := t3.frame (I' := I4) (fun a _ _ => f4 a (by omega))
    have d4 := d3.frame (I' := I4) (fun a _ _ => f4 a (by omega))
    have fI : ax_FR 6 46 I I4 := (((f1.wide (by omega) (by omega)).trans (f2.wide (by omega) (by omega))).trans (f3.wide (by omega) (by omega))).trans (f4.wide (by omega) (by omega))
    rw [t3.1]
    apply vc_X9_town
    refine rf_isText_k hr ?_
    refine ax_nt (by decide) ⟨ax_inb_nI (by omega) (by omega), ?_⟩
    rw [nI_clamp (by omega), fI 189 (by omega), l1, l2]
    refine ax_ct (nI_pos' (by omega)) ?_
    refine rf_faultOf (sw_RR.rg fI (l1.trans l2) l3) hr hn (fun I5 e2 r2 f5 => ?_) (fun I5 p5 Th5 M5 Wn5 Un5 kd5 tl5 W5 un5 r2 R5 f5 => ?_)
    · rw [r1] at r2; cases r2
    rw [r1] at r2; cases r2
    refine ax_ct rfl ?_
    obtain ⟨⟨k0, k1⟩, k2, k3, k4, k5, k6, k7, k8, k9, k10⟩ := R5
    rw [k4, ax_ui_ne (by omega), k3]
    refine rf_town55 (M := M) (kd := kd) (tl := tl) a4 (by rw [ax_ui_ne (by omega)]; exact ax_ui_eq) (fun x hx => by rw [ax_ui_ne (by omega), ax_ui_ne (by omega)]; exact k7 x hx) (fun x hx => by rw [ax_ui_ne (by omega), ax_ui_ne (by omega)]; exact k8 x hx) (fun I6 q1 q2 q3 q4 q5 q6 q7 q8 q9 => ⟨rfl, ?_⟩)
    have far : ∀ a, ¬ a = 184 → a < 191 ∨ 198 < a → ¬ a = 199 → ¬ a = 202 → I6 a = I4 a := fun a z1 z2 z3 z4 => by rw [q9 a z1 (by omega) z3 z4, ax_ui_row (by omega), ax_ui_row (by omega), f5.1 a z1 (by omega)]
    have far2 : ∀ a, (a < 6 ∨ 46 < a) → ¬ a = 184 → a < 191 ∨ 198 < a → ¬ a = 199 → ¬ a = 202 → I6 a = I a := fun a z0 z1 z2 z3 z4 => by rw [far a z1 z2 z3 z4]; exact fI a (by omega)
    have f184 : ∀ b, b < 10 → I6 184 b = I 184 b := fun b hb => by rw [q8 b (by omega), ax_ui_ne (by omega), ax_ui_ne (by omega), f5.2 b (by omega), fI 184 (by omega)]
    obtain ⟨N0, T0, kd0, tl0, un0, W0, es0, h1, h2, h3, h4⟩ := h
    refine ⟨M, Th, kd, sw_tk M tl, un, W, [], ?_, fun k hk => .inl ⟨?_, q7 k hk⟩, h3.frame (fun a q => far2 a (by omega) (by omega) (by omega) (by omega) (by omega)), h4.frame ?_ (f184 _ (by omega)) (far2 _ (by omega) (by omega) (by omega) (by omega) (by omega)) (far2 _ (by omega) (by omega) (by omega) (by omega) (by omega)) ?_ (f184 _ (by omega))⟩
    · refine ⟨⟨a4, a2, ⟨fun z => by omega, fun z => by omega⟩, a5, fun x hx i hi hb => ?_, a7.1, a7.2⟩, a6, ⟨Nat.zero_le 40, fun e he => by cases he⟩, hst.frame (far2 _ (by omega) (by omega) (by omega) (by omega) (by omega)) (far2 _ (by omega) (by omega) (by omega) (by omega) (by omega)), t4.frame (fun a _ _ => far a (by omega) (by omega) (by omega) (by omega)), d4.frame (fun a _ _ => far a (by omega) (by omega) (by omega) (by omega)), ⟨?_, ?_, q1, q2, fun x hx w hw => ?_, fun w hw => ?_⟩, fun _ => ⟨⟨fun w hw => ?_, fun w hw => ?_, fun w hw => ?_, ?_⟩, fun w hw => ?_, fun w hw => ?_⟩, q6, trivial⟩
      · unfold sw_tk at hb
        rw [ax_bt_and, ax_bt_ms (by omega), Bool.and_eq_true, Bool.and_eq_true, Bool.and_eq_true, decide_eq_true_iff, Bool.not_eq_true', decide_eq_false_iff_not] at hb
        exact ⟨of_decide_eq_true hb.2.2.1, hb.2.2.2⟩
      · rw [q8 _ (by omega), ax_ui_ne (by omega)]; exact ax_ui_eq
      · rw [q8 _ (by omega)]; exact ax_ui_eq
      · rw [q3 _ (by omega), ax_ui_ne (by omega), ax_ui_ne (by omega)]; exact k9 x hx w hw
      · rw [q4 _ (by omega), ax_ui_ne (by omega), ax_ui_ne (by omega)]; exact k10 w hw
      · rw [q5 _ (by omega), if_pos (by omega)]; rfl
      · rw [q5 _ (by omega), if_pos (by omega)]; rfl
      · rw [q5 _ (by omega), if_pos (by omega)]; rfl
      · rw [q5 _ (by omega), if_neg (by omega)]; rfl
      · rw [q5 _ (by omega), if_pos (by omega)]; rfl
      · rw [q5 _ (by omega), if_neg (by omega)]
        apply ax_bt_ext
        intro i hi
        rw [ax_bt_ms (by omega), ax_bt_0]
        show false = (decide (i < 6) && ax_bt 0 w)
        rw [ax_bt_0, Bool.and_false]
    · rw [far _ (by omega) (by omega) (by omega) (by omega)]; exact g4 k hk
    · rw [far2 _ (by omega) (by omega) (by omega) (by omega) (by omega)]
    · rw [far2 _ (by omega) (by omega) (by omega) (by omega) (by omega)]
