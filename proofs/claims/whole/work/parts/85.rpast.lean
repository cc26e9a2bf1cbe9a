theorem rf_isAsNow {d k a T : Nat} {I : ax_I} {L : ax_J} {K : Int32 → ax_I → ax_J → Prop} (hT : I 184 11 = nI T) (hT6 : T ≤ 6) (hk : k < 10) (ha : a ≤ 25) (h1 : (∀ w, w < T → sw_fr I k (a + w) = sw_fr I 0 (a + w)) → K 1 I L) (h0 : ¬ (∀ w, w < T → sw_fr I k (a + w) = sw_fr I 0 (a + w)) → K 0 I L) : ax_CI (d + 2) 230 [ax_vr 9 0 184, ax_vi (nI k), ax_vi (nI a)] I L K := by
  apply vc_X9_isAsNow
  have zero : ∀ (c w : Nat), w + c = T → ¬ (∀ w, w < T → sw_fr I k (a + w) = sw_fr I 0 (a + w)) → ax_AK ((d + 1)) 230 (5, [some (ax_vr 9 0 184), some (ax_vi (nI k)), some (ax_vi (nI a)), some (ax_vi 0), some (ax_vi (nI w))], [], ax_mm I L) (ax_ki K) := by
    intro c
    induction c with
    | zero =>
      intro w hw q
      apply vc_X9_isAsNow_5
      rw [hT]
      exact ax_ct ((nI_leI (by omega) (by omega)).mpr (by omega)) ⟨by decide, h0 q⟩
    | succ c ih =>
      intro w hw q
      apply vc_X9_isAsNow_5
      rw [hT, nI_1]
      exact ax_cf (fun z => by have := (nI_leI (by omega) (by omega)).mp z; omega) (ax_ct rfl (ih (w + 1) (by omega) q))
  suffices ∀ (c w : Nat), w + c = T → (∀ v, v < w → sw_fr I k (a + v) = sw_fr I 0 (a + v)) → ax_AK ((d + 1)) 230 (5, [some (ax_vr 9 0 184), some (ax_vi (nI k)), some (ax_vi (nI a)), some (ax_vi 1), some (ax_vi (nI w))], [], ax_mm I L) (ax_ki K) from this T 0 (by omega) (fun v hv => by omega)
  intro c
  induction c with
  | zero =>
    intro w hw q
    apply vc_X9_isAsNow_5
    rw [hT]
    exact ax_ct ((nI_leI (by omega) (by omega)).mpr (by omega)) ⟨by decide, h1 (fun v hv => q v (by omega))⟩
  | succ c ih =>
    intro w hw q
    apply vc_X9_isAsNow_5
    rw [hT, nI_1]
    refine ax_cf (fun z => by have := (nI_leI (by omega) (by omega)).mp z; omega) (ax_cf (by decide) ?_)
    refine rf_v hk (by omega) ?_
    refine rf_v (k := 0) (by omega) (by omega) ?_
    refine ax_ifn (fun z => zero c (w + 1) (by omega) (fun z2 => z (z2 w (by omega)))) (fun z => ih (w + 1) (by omega) (fun v hv => ?_))
    by_cases e : v = w
    · rw [e]; exact z
    · exact q v (by omega)
def sw_RN (k : Nat) (I I' : ax_I) : Prop := sw_LO k I I' ∧ (∀ b, ¬ b = 43 → ¬ b = 44 → I' 184 b = I 184 b) ∧ (∀ a, ¬ a = 184 → ¬ a = 199 → ¬ a = 210 → ¬ a = 211 → I' a = I a)
theorem sw_RN.refl {k : Nat} {I : ax_I} : sw_RN k I I := ⟨sw_LO.refl, fun _ _ _ => rfl, fun _ _ _ _ _ => rfl⟩
theorem sw_RN.trans {k : Nat} {I J K : ax_I} (h : sw_RN k I J) (g : sw_RN k J K) : sw_RN k I K := ⟨h.1.trans g.1, fun b b1 b2 => (g.2.1 b b1 b2).trans (h.2.1 b b1 b2), fun a a1 a2 a3 a4 => (g.2.2 a a1 a2 a3 a4).trans (h.2.2 a a1 a2 a3 a4)⟩
theorem sw_RN.low {k k' : Nat} {I I' : ax_I} (h : sw_RN k I I') (hk : k' ≤ k) : sw_RN k' I I' := ⟨h.1.low hk, h.2⟩
/-- what stays -/
def sw_RS (I : ax_I) (N T : Nat) (kd : Nat → Nat) (tl un : Nat → Int32) (W : Nat → Nat → Nat) (n r : Nat) (sp : Nat → Nat) (Gn : sw_G) (i : Nat) (G : sw_G) : Prop := sw_RT I N T kd tl un W ∧ sw_FG (sw_fr I 0) Gn ∧ sw_FG (sw_fr I (i + 1)) G ∧ I 186 r = nI n ∧ ∀ j, j < n → I 187 (40 * r + j) = nI (sp j)
theorem sw_RS.frame {I I' : ax_I} {N T : Nat} {kd : Nat → Nat} {tl un : Nat → Int32} {W : Nat → Nat → Nat} {n r : Nat} {sp : Nat → Nat} {Gn G : sw_G} {i : Nat} (h : sw_RS I N T kd tl un W n r sp Gn i G) (hf : sw_RN (i + 1) I I') : sw_RS I' N T kd tl un W n r sp Gn i G := by
  obtain ⟨h1, h2, h3, h4, h5⟩ := h
  refine ⟨h1.frame (hf.2.1 _ (by omega) (by omega)) (hf.2.1 _ (by omega) (by omega)) (hf.2.2 _ (by omega) (by omega) (by omega) (by omega)) (hf.2.2 _ (by omega) (by omega) (by omega) (by omega)) (hf.2.2 _ (by omega) (by omega) (by omega) (by omega)) (hf.2.2 _ (by omega) (by omega) (by omega) (by omega)), h2.same (fun j hj => hf.1 _ (by omega)), h3.same (fun j hj => hf.1 _ (by omega)), by rw [hf.2.2 _ (by omega) (by omega) (by omega) (by omega)]; exact h4, fun j hj => by rw [hf.2.2 _ (by omega) (by omega) (by omega) (by omega)]; exact h5 j hj⟩
/-- what changes -/
def sw_RV (I : ax_I) (n : Nat) (fm : Bool) (s : sw_SG) : Prop := I 184 43 = s.1 ∧ (fm = false → I 184 44 = s.2.2) ∧ (¬ s.1 = 0 → ∀ j, j < n → I 211 j = s.2.1 j)
theorem rf_layTail {d k th : Nat} {fm : Bool} {v : Int32} {J : ax_I} {L : ax_J} {K : ax_I → ax_J → Prop} (hk : k < 10) (hth : th < 6) (hv : sw_fr J k th = v) (hK : ∀ I', I' 184 43 = J 184 43 + 1 → (fm = false → I' 184 44 = if v = -9 then J 184 44 else J 184 44 ||| (1 : Int32) <<< (v &&& 31)) → (∀ a, ¬ a = 184 → I' a = J a) → (∀ b, ¬ b = 43 → ¬ b = 44 → I' 184 b = J 184 b) → K I' L) :
    ((!decide (ax_b fm = 0)) = true → K (ax_ui (ax_ui J 184 43 (J 184 43 + 1)) 184 44 ((ax_ui J 184 43 (J 184 43 + 1)) 184 44 ||| 0)) L) ∧
    ((!decide (ax_b fm = 0)) = false → ax_CI (d + 1) 184 [ax_vr 9 0 184, ax_vi (nI k), ax_vi 0, ax_vi (nI th)] (ax_ui J 184 43 (J 184 43 + 1)) L (fun x6 I4 L5 =>
      (decide (x6 = (-9 : Int32)) = true → K (ax_ui I4 184 44 ((ax_ui J 184 43 (J 184 43 + 1)) 184 44 ||| 0)) L5) ∧
      (decide (x6 = (-9 : Int32)) = false → ax_CI (d + 1) 184 [ax_vr 9 0 184, ax_vi (nI k), ax_vi 0, ax_vi (nI th)] I4 L5 (fun x9 I7 L8 => K (ax_ui I7 184 44 ((ax_ui J 184 43 (J 184 43 + 1)) 184 44 ||| (1 : Int32) <<< (x9 &&& 31))) L8)))) := by
  have e44 : (ax_ui J 184 43 (J 184 43 + 1)) 184 44 = J 184 44 := ax_ui_ne (by omega)
  rw [e44]
  have fr : sw_fr (ax_ui J 184 43 (J 184 43 + 1)) k (0 + th) = v := by rw [Nat.zero_add]; unfold sw_fr; rw [ax_ui_row (by omega)]; exact hv
  have gen : ∀ y, (fm = false → y = if v = -9 then J 184 44 else J 184 44 ||| (1 : Int32) <<< (v &&& 31)) → K (ax_ui (ax_ui J 184 43 (J 184 43 + 1)) 184 44 y) L := fun y hy => hK _ (by rw [ax_ui_ne (by omega)]; exact ax_ui_eq) (fun q => by rw [ax_ui_eq]; exact hy q) (fun a ha => by rw [ax_ui_row ha, ax_ui_row ha]) (fun b b1 b2 => by rw [ax_ui_ne (by omega), ax_ui_ne (by omega)])
  cases fm with
  | true => exact ax_nt (by decide) (gen _ (fun z => by cases z))
  | false =>
    refine ax_nf rfl ?_
    refine rf_v (a := 0) hk (by omega) ?_
    rw [fr]
    by_cases z : v = -9
    · exact ax_ct z (gen _ (fun _ => by rw [if_pos z, Int32.or_zero]))
    · refine ax_cf z ?_
      refine rf_v (a := 0) hk (by omega) ?_
      rw [fr]
      exact gen _ (fun _ => by rw [if_neg z])
theorem rf_layRows {N T n r th : Nat} {kd : Nat → Nat} {tl un : Nat → Int32} {W : Nat → Nat → Nat} {fm : Bool} {sp : Nat → Nat} {Gn : sw_G} {L : ax_J} (hg : sw_TG N T kd tl un) (hn : n ≤ 6) (hr : r < 6) (hth : th < 6) (hsp : ∀ j, j < n → sp j < N) : ∀ (k d i : Nat) (G : sw_G) (ts : Nat → Int32) (s : sw_SG) (I : ax_I) (K : ax_I → ax_J → Prop), i + k = n → sw_RS I N T kd tl un W n r sp Gn i G → sw_RV I n fm s → (∀ j, j < i → I 210 j = ts j) → (∀ I', sw_RV I' n fm (sw_go T fm th kd Gn sp k i G ts s) → (∀ j, j < i → I' 210 j = ts j) → sw_RN (i + 1) I I' → K I' L) → ax_CV (d + k + 5) 231 [ax_vr 9 0 184, ax_vi (nI r), ax_vi (nI i), ax_vi (nI th), ax_vi (ax_b fm)] I L K := by
  have hN := hg.1
  have hT := hg.2.1
  intro k
  induction k with
  | zero =>
    intro d i G ts s I K hi hS hV hts hK
    apply vc_X9_layRows
    have e1 : (1 : Int32) + nI i = nI (i + 1) := by rw [Int32.add_comm]; exact nI_1 i
    rw [e1, nI_clamp (by omega), hS.2.2.2.1]
    refine ⟨ax_inb_nI (by omega) (by omega), ?_⟩
    refine ax_nf (by rw [show i = n by omega]) ?_
    have F0 := hS.2.1
    have F1 := hS.2.2.1
    have e11 := hS.1.2.1
    unfold sw_go sw_lf at hK
    have nope : ¬ sw_asn T fm Gn G → K (ax_ui (ax_ui I 184 43 (I 184 43 + 0)) 184 44 ((ax_ui I 184 43 (I 184 43 + 0)) 184 44 ||| 0)) L := fun z => by
      rw [if_neg z] at hK
      refine hK _ ⟨?_, fun q => ?_, fun q j hj => ?_⟩ (fun j hj => ?_) ⟨fun b hb => by rw [ax_ui_ne (by omega), ax_ui_ne (by omega)], fun b b1 b2 => by rw [ax_ui_ne (by omega), ax_ui_ne (by omega)], fun a a1 _ _ _ => by rw [ax_ui_row a1, ax_ui_row a1]⟩
      · rw [ax_ui_ne (by omega), ax_ui_eq, Int32.add_zero]; exact hV.1
      · rw [ax_ui_eq, ax_ui_ne (by omega), Int32.or_zero]; exact hV.2.1 q
      · rw [ax_ui_ne (by omega), ax_ui_ne (by omega)]; exact hV.2.2 q j hj
      · rw [ax_ui_ne (by omega), ax_ui_ne (by omega)]; exact hts j hj
    have frG : sw_fr I (i + 1) th = G.1 th := F1.1 th hth
    /- all as now, and rows there before -/
    have yes1 : sw_asn T fm Gn G → ¬ s.1 = 0 → ∀ I', I' 184 43 = I 184 43 + 1 → (fm = false → I' 184 44 = if G.1 th = -9 then I 184 44 else I 184 44 ||| (1 : Int32) <<< (G.1 th &&& 31)) → (∀ a, ¬ a = 184 → I' a = I a) → (∀ b, ¬ b = 43 → ¬ b = 44 → I' 184 b = I 184 b) → K I' L := fun z z2 I' y1 y2 y3 y4 => by
      rw [if_pos z, if_neg z2] at hK
      refine hK I' ⟨?_, fun q => ?_, fun q j hj => ?_⟩ (fun j hj => ?_) ⟨fun b hb => by rw [y3 _ (by omega)], y4, fun a a1 _ _ _ => y3 a a1⟩
      · rw [y1, hV.1]
      · rw [y2 q, hV.2.1 q]
      · rw [y3 _ (by omega)]; exact hV.2.2 z2 j hj
      · rw [y3 _ (by omega)]; exact hts j hj
    have yes0 : sw_asn T fm Gn G → s.1 = 0 → ∀ z1, ax_AK ((d + 4)) 231 (63, [some (ax_vr 9 0 184), z1, some (ax_vi (nI i)), some (ax_vi (nI th)), some (ax_vi (ax_b fm)), some (ax_vi (nI (i + 1))), some (ax_vi 1), some (ax_vi 0)], [], ax_mm I L) (ax_kv K) := fun z z2 z1 => by
      rw [if_pos z, if_pos z2] at hK
      suffices ∀ (c j : Nat) (I1 : ax_I) (z1 : Option ax_V), j + c = i → (∀ v, v < j → I1 211 v = ts v) → ax_FR 211 211 I I1 → ax_AK ((d + 4)) 231 (63, [some (ax_vr 9 0 184), z1, some (ax_vi (nI i)), some (ax_vi (nI th)), some (ax_vi (ax_b fm)), some (ax_vi (nI (i + 1))), some (ax_vi 1), some (ax_vi (nI j))], [], ax_mm I1 L) (ax_kv K) from this i 0 I z1 (by omega) (fun v hv => by omega) ax_FR.refl
      intro c
      induction c with
      | zero =>
        intro j I1 z1 hj q f1
        apply vc_X9_layRows_63
        refine ax_ct ((nI_leI (by omega) (by omega)).mpr (by omega)) (ax_cf (by decide) (ax_cf (by decide) ?_))
        refine rf_layTail (k := i + 1) (d := d + 3) (v := G.1 th) (by omega) hth (by unfold sw_fr; rw [f1 199 (by omega)]; exact frG) (fun I' y1 y2 y3 y4 => ?_)
        have e184 : ∀ b, I1 184 b = I 184 b := fun b => by rw [f1 184 (by omega)]
        refine hK I' ⟨?_, fun q => ?_, fun q2 v hv => ?_⟩ (fun v hv => ?_) ⟨fun b hb => by rw [y3 _ (by omega), f1 _ (by omega)], fun b b1 b2 => by rw [y4 b b1 b2, e184], fun a a1 a2 a3 a4 => by rw [y3 a a1, f1 a (by omega)]⟩
        · rw [y1, e184, hV.1]
        · rw [y2 q, e184, hV.2.1 q]
        · rw [y3 _ (by omega)]; exact q v (by omega)
        · rw [y3 _ (by omega), f1 _ (by omega)]; exact hts v hv
      | succ c ih =>
        intro j I1 z1 hj q f1
        apply vc_X9_layRows_63
        have ib : ax_inb (nI j) 6 = true := ax_inb_nI (by omega) (by omega)
        rw [nI_clamp (by omega), nI_1]
        refine ax_cf (fun z => by have := (nI_leI (by omega) (by omega)).mp z; omega) ⟨ib, ib, ih (j + 1) _ _ (by omega) (fun v hv => ?_) (f1.ui (by omega) (by omega))⟩
        by_cases e : v = j
        · rw [e, ax_ui_eq, f1 210 (by omega)]; exact hts j (by omega)
        · rw [ax_ui_ne (by omega)]; exact q v (by omega)
    refine rf_isAsNow (a := 6) e11 hT (by omega) (by omega) (fun y => ?_) (fun y => ?_)
    case refine_2 =>
      refine ax_ct rfl (ax_ct rfl (ax_ct rfl (ax_ct rfl (nope (fun z => y (fun w hw => ?_))))))
      rw [F1.2.1 w (by omega), F0.2.1 w (by omega)]; exact (z w hw).1
    refine ax_cf (by decide) ?_
    have y' : ∀ w, w < T → G.2.1 w = Gn.2.1 w := fun w hw => by have := y w hw; rw [F1.2.1 w (by omega), F0.2.1 w (by omega)] at this; exact this
    have last : sw_asn T fm Gn G → ((!decide (I 184 43 = 0)) = true →
        (decide ((1 : Int32) = 0) = true → (decide ((1 : Int32) = 0) = true → K (ax_ui (ax_ui I 184 43 (I 184 43 + 0)) 184 44 ((ax_ui I 184 43 (I 184 43 + 0)) 184 44 ||| 0)) L) ∧ (decide ((1 : Int32) = 0) = false → ((!decide (ax_b fm = 0)) = true → K (ax_ui (ax_ui I 184 43 (I 184 43 + 0)) 184 44 ((ax_ui I 184 43 (I 184 43 + 0)) 184 44 ||| 0)) L) ∧ ((!decide (ax_b fm = 0)) = false → ax_CI (d + 4) 184 [ax_vr 9 0 184, ax_vi (nI (i + 1)), ax_vi 0, ax_vi (nI th)] (ax_ui I 184 43 (I 184 43 + 0)) L (fun x I16 L17 => (decide (x = (-9 : Int32)) = true → K (ax_ui I16 184 44 ((ax_ui I 184 43 (I 184 43 + 0)) 184 44 ||| 0)) L17) ∧ (decide (x = (-9 : Int32)) = false → ax_CI (d + 4) 184 [ax_vr 9 0 184, ax_vi (nI (i + 1)), ax_vi 0, ax_vi (nI th)] I16 L17 (fun x2 I19 L20 => K (ax_ui I19 184 44 ((ax_ui I 184 43 (I 184 43 + 0)) 184 44 ||| (1 : Int32) <<< (x2 &&& 31))) L20)))))) ∧
        (decide ((1 : Int32) = 0) = false → (decide ((1 : Int32) = 0) = true → K (ax_ui (ax_ui I 184 43 (I 184 43 + 1)) 184 44 ((ax_ui I 184 43 (I 184 43 + 1)) 184 44 ||| 0)) L) ∧ (decide ((1 : Int32) = 0) = false → ((!decide (ax_b fm = 0)) = true → K (ax_ui (ax_ui I 184 43 (I 184 43 + 1)) 184 44 ((ax_ui I 184 43 (I 184 43 + 1)) 184 44 ||| 0)) L) ∧ ((!decide (ax_b fm = 0)) = false → ax_CI (d + 4) 184 [ax_vr 9 0 184, ax_vi (nI (i + 1)), ax_vi 0, ax_vi (nI th)] (ax_ui I 184 43 (I 184 43 + 1)) L (fun x I16 L17 => (decide (x = (-9 : Int32)) = true → K (ax_ui I16 184 44 ((ax_ui I 184 43 (I 184 43 + 1)) 184 44 ||| 0)) L17) ∧ (decide (x = (-9 : Int32)) = false → ax_CI (d + 4) 184 [ax_vr 9 0 184, ax_vi (nI (i + 1)), ax_vi 0, ax_vi (nI th)] I16 L17 (fun x2 I19 L20 => K (ax_ui I19 184 44 ((ax_ui I 184 43 (I 184 43 + 1)) 184 44 ||| (1 : Int32) <<< (x2 &&& 31))) L20))))))) ∧
      ((!decide (I 184 43 = 0)) = false → ax_AK ((d + 4)) 231 (63, [some (ax_vr 9 0 184), ((some (ax_vi (nI r)))), some (ax_vi (nI i)), some (ax_vi (nI th)), some (ax_vi (ax_b fm)), some (ax_vi (nI (i + 1))), some (ax_vi 1), some (ax_vi 0)], [], ax_mm I L) (ax_kv K)) := fun z => by
      rw [hV.1]
      by_cases z2 : s.1 = 0
      · exact ax_nf z2 (yes0 z z2 _)
      · refine ax_nt z2 (ax_cf (by decide) (ax_cf (by decide) ?_))
        have := rf_layTail (k := i + 1) (d := d + 3) (fm := fm) (v := G.1 th) (L := L) (by omega) hth frG (yes1 z z2)
        rw [hV.1] at this
        exact this
    cases fm with
    | false =>
      refine ax_ct rfl (ax_cf (by decide) ?_)
      exact last (fun w hw => ⟨y' w hw, fun z => by cases z⟩)
    | true =>
      refine ax_cf (by decide) ?_
      refine rf_isAsNow (a := 0) e11 hT (by omega) (by omega) (fun x => ?_) (fun x => ?_)
      case refine_2 =>
        refine ax_ct rfl (ax_ct rfl (ax_ct rfl (ax_ct rfl (nope (fun z => x (fun w hw => ?_))))))
        rw [Nat.zero_add, F1.1 w (by omega), F0.1 w (by omega)]; exact (z w hw).2 rfl
      refine ax_cf (by decide) (ax_cf (by decide) ?_)
      exact last (fun w hw => ⟨y' w hw, fun _ => by have := x w hw; rw [Nat.zero_add, F1.1 w (by omega), F0.1 w (by omega)] at this; exact this⟩)
  | succ k ihk =>
    intro d i G ts s I K hi hS hV hts hK
    apply vc_X9_layRows
    have e1 : (1 : Int32) + nI i = nI (i + 1) := by rw [Int32.add_comm]; exact nI_1 i
    rw [e1, nI_clamp (by omega), hS.2.2.2.1]
    refine ⟨ax_inb_nI (by omega) (by omega), ?_⟩
    refine ax_nt (fun z => by have := (nI_eq (by omega) (by omega)).mp z; omega) ?_
    unfold sw_go at hK
    suffices ∀ (c w : Nat) (s1 : sw_SG) (I1 : ax_I) (z7 : Option ax_V), w + c = T → sw_RV I1 n fm s1 → (∀ j, j < i → I1 210 j = ts j) → sw_RN (i + 1) I I1 → (∀ I', sw_RV I' n fm (ax_it (fun w s => sw_go T fm th kd Gn sp k (i + 1) (sw_ws kd G (sp i) w) (sw_up ts i (nI w)) s) c w s1) → (∀ j, j < i → I' 210 j = ts j) → sw_RN (i + 1) I I' → K I' L) → ax_AK ((d + k + 5)) 231 (158, [some (ax_vr 9 0 184), some (ax_vi (nI r)), some (ax_vi (nI i)), some (ax_vi (nI th)), some (ax_vi (ax_b fm)), some (ax_vi (nI (i + 1))), some (ax_vi (nI w)), z7], [], ax_mm I1 L) (ax_kv K) from this T 0 s I _ (by omega) hV hts sw_RN.refl hK
    intro c
    induction c with
    | zero =>
      intro w s1 I1 z7 hw V1 t1 f1 hK1
      apply vc_X9_layRows_158
      have S1 := hS.frame f1
      rw [S1.1.2.1]
      exact ax_ct ((nI_leI (by omega) (by omega)).mpr (by omega)) (hK1 I1 V1 t1 f1)
    | succ c ih =>
      intro w s1 I1 z7 hw V1 t1 f1 hK1
      apply vc_X9_layRows_158
      have S1 := hS.frame f1
      rw [S1.1.2.1, nI_1, nI_1]
      refine ax_cf (fun z => by have := (nI_leI (by omega) (by omega)).mp z; omega) ?_
      refine rf_rowAt hr (by omega) ?_
      rw [S1.2.2.2.2 i (by omega)]
      refine rf_tries S1.1 hg S1.2.2.1 (by omega) (hsp i (by omega)) (by omega) (fun I2 F2 o2 r2 => ?_)
      rw [nI_clamp (by omega)]
      refine ⟨ax_inb_nI (by omega) (by omega), ?_⟩
      have n2 : sw_RN (i + 1) I1 (ax_ui I2 210 i (nI w)) := ⟨fun b hb => by rw [ax_ui_ne (by omega)]; exact o2.lo b hb, fun b b1 b2 => by rw [ax_ui_ne (by omega), r2 184 (by omega)], fun a a1 a2 a3 a4 => by rw [ax_ui_row a3, r2 a (by omega)]⟩
      have S2 : sw_RS (ax_ui I2 210 i (nI w)) N T kd tl un W n r sp Gn (i + 1) (sw_ws kd G (sp i) w) := by
        obtain ⟨k1, k2, k3, k4, k5⟩ := S1.frame n2
        exact ⟨k1, k2, F2.same (fun j hj => by unfold sw_fr; rw [ax_ui_ne (by omega)]), k4, k5⟩
      have V2 : sw_RV (ax_ui I2 210 i (nI w)) n fm s1 := ⟨by rw [ax_ui_ne (by omega), r2 184 (by omega)]; exact V1.1, fun q => by rw [ax_ui_ne (by omega), r2 184 (by omega)]; exact V1.2.1 q, fun q j hj => by rw [ax_ui_ne (by omega), r2 211 (by omega)]; exact V1.2.2 q j hj⟩
      refine ihk d (i + 1) (sw_ws kd G (sp i) w) (sw_up ts i (nI w)) s1 _ _ (by omega) S2 V2 (fun j hj => ?_) (fun I3 V3 t3 n3 => ?_)
      · by_cases e : j = i
        · rw [e, ax_ui_eq, sw_up_eq]
        · rw [ax_ui_ne (by omega), sw_up_ne e, r2 210 (by omega)]; exact t1 j (by omega)
      · refine ih (w + 1) _ I3 _ (by omega) V3 (fun j hj => ?_) ((f1.trans n2).trans (n3.low (by omega))) hK1
        rw [t3 j (by omega), sw_up_ne (by omega)]
