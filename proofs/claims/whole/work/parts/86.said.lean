def sw_spk (N n : Nat) (f : Nat → Int32) : Prop := ∀ j, j < n → ∃ x, x < N ∧ f j = nI x
theorem cl_refuse {d o n N : Nat} {I : ax_I} {L : ax_J} {K : Int32 → ax_I → ax_J → Prop} (hN : I 6 0 = nI N) (hN6 : N ≤ 6) (hsz : I o 1 = nI n) (hn : n ≤ 40) (hb : 6 < n → K (-3) (sw_fC I 5) L) (h0 : n ≤ 6 → sw_spk N n (fun j => I (o + 1) j) → K 0 I L) (h3 : n ≤ 6 → ¬ sw_spk N n (fun j => I (o + 1) j) → K (-3) (sw_fC I 3) L) : ax_CI (d + 2) 138 [ax_vr 8 0 3, ax_vr 4 40 o] I L K := by
  apply vc_X8_refuseSpeakers
  refine cl_there hsz (by omega) ?_
  rw [hsz]
  refine ax_ct rfl ?_
  by_cases z : n ≤ 6
  case neg => exact ax_cf (fun y => by have := (nI_leI (b := 6) (by omega) (by omega)).mp y; omega) (cl_find (f := 5) (by omega) (hb (by omega)))
  refine ax_ct ((nI_leI (b := 6) (by omega) (by omega)).mpr z) ?_
  suffices ∀ (c j : Nat), j + c = n → (∀ i, i < j → ∃ x, x < N ∧ I (o + 1) i = nI x) → ax_AK ((d + 1)) 138 (30, [some (ax_vr 8 0 3), some (ax_vr 4 40 o), some (ax_vi (nI j))], [], ax_mm I L) (ax_ki K) from this n 0 (by omega) (fun i hi => by omega)
  intro c
  induction c with
  | zero =>
    intro j hj q
    apply vc_X8_refuseSpeakers_30
    rw [hsz]
    exact ax_ct ((nI_leI (by omega) (by omega)).mpr (by omega)) (h0 z (fun i hi => q i (by omega)))
  | succ c ih =>
    intro j hj q
    apply vc_X8_refuseSpeakers_30
    rw [hsz, nI_clamp (by omega), nI_1]
    refine ax_cf (fun y => by have := (nI_leI (by omega) (by omega)).mp y; omega) ⟨ax_inb_nI (by omega) (by omega), ?_⟩
    rcases sw_dich (n := N) (by omega) (I (o + 1) j) with ⟨x, hx, e⟩ | e
    · rw [e]
      refine cl_hasOne_k hN (by omega) hx ?_
      refine ax_nt (by decide) (ih (j + 1) (by omega) (fun i hi => ?_))
      by_cases y : i = j
      · rw [y]; exact ⟨x, hx, e⟩
      · exact q i (by omega)
    · refine cl_hasOne_no hN e ?_
      refine ax_nf rfl (cl_find (f := 3) (by omega) (h3 z (fun y => ?_)))
      obtain ⟨x, hx, e2⟩ := y j (by omega)
      have e2 : I (o + 1) j = nI x := e2
      rw [e2] at e
      rcases e with e | e
      · exact nI_pos (by omega) e
      · have := (nI_leI (by omega) (by omega)).mp e; omega
theorem rf_need0 {d : Nat} {a : Int32} {I : ax_I} {L : ax_J} {K : Int32 → ax_I → ax_J → Prop} (hK : K (-1) I L) : ax_CI (d + 1) 229 [ax_vr 9 0 184, ax_vi 0, ax_vi a] I L K := by
  apply vc_X9_needSpoke
  exact ax_ct rfl hK
theorem rf_needR {d : Nat} {a : Int32} {I : ax_I} {L : ax_J} {K : Int32 → ax_I → ax_J → Prop} (ha : a < 0 ∨ nI 6 ≤ a) (hK : K (-1) I L) : ax_CI (d + 3) 229 [ax_vr 9 0 184, ax_vi 1, ax_vi a] I L K := by
  apply vc_X9_needSpoke
  refine ax_cf (by decide) ?_
  refine rf_isRow_no ha ?_
  exact ax_nf rfl hK
theorem rf_needN {d r : Nat} {I : ax_I} {L : ax_J} {K : Int32 → ax_I → ax_J → Prop} (hr : r < 6) (hN : I 184 10 = 0) (hK : K (-4) I L) : ax_CI (d + 3) 229 [ax_vr 9 0 184, ax_vi 1, ax_vi (nI r)] I L K := by
  apply vc_X9_needSpoke
  refine ax_cf (by decide) ?_
  refine rf_isRow_k hr ?_
  exact ax_nt (by decide) (ax_nf hN hK)
theorem rf_needM {d r : Nat} {I : ax_I} {L : ax_J} {K : Int32 → ax_I → ax_J → Prop} (hr : r < 6) (hN : ¬ I 184 10 = 0) (hm : I 186 r = -1) (hK : K (-3) (sw_fR I 1) L) : ax_CI (d + 3) 229 [ax_vr 9 0 184, ax_vi 1, ax_vi (nI r)] I L K := by
  apply vc_X9_needSpoke
  refine ax_cf (by decide) ?_
  refine rf_isRow_k hr ?_
  refine ax_nt (by decide) (ax_nt hN ⟨ax_inb_nI (by omega) (by omega), ?_⟩)
  rw [nI_clamp (by omega), hm]
  exact ax_cf (by decide) (rf_meets (f := 1) (by omega) hK)
theorem rf_need {d r n N : Nat} {I : ax_I} {L : ax_J} {K : Int32 → ax_I → ax_J → Prop} (hr : r < 6) (hN : I 184 10 = nI N) (hN6 : N ≤ 6) (hN0 : ¬ N = 0) (hsz : I 186 r = nI n) (hn : n ≤ 40) (hb : 6 < n → K (-3) (sw_fR I 5) L) (h0 : n ≤ 6 → sw_spk N n (fun j => I 187 (40 * r + j)) → K 0 I L) (h3 : n ≤ 6 → ¬ sw_spk N n (fun j => I 187 (40 * r + j)) → K (-3) (sw_fR I 3) L) : ax_CI (d + 3) 229 [ax_vr 9 0 184, ax_vi 1, ax_vi (nI r)] I L K := by
  apply vc_X9_needSpoke
  refine ax_cf (by decide) ?_
  refine rf_isRow_k hr ?_
  have ib : ax_inb (nI r) 6 = true := ax_inb_nI (by omega) (by omega)
  rw [hN]
  refine ax_nt (by decide) (ax_nt (fun z => hN0 ((nI_eq (b := 0) (by omega) (by omega)).mp z)) ⟨ib, ?_⟩)
  rw [nI_clamp (by omega), hsz]
  refine ax_ct (nI_pos' (by omega)) ⟨ib, ?_⟩
  by_cases z : n ≤ 6
  case neg => exact ax_cf (fun y => by have := (nI_leI (b := 6) (by omega) (by omega)).mp y; omega) (rf_meets (f := 5) (by omega) (hb (by omega)))
  refine ax_ct ((nI_leI (b := 6) (by omega) (by omega)).mpr z) ?_
  have zero : ∀ (c j : Nat) (z1 : Option ax_V), j + c = n → ¬ sw_spk N n (fun j => I 187 (40 * r + j)) → ax_AK ((d + 2)) 229 (60, [some (ax_vr 9 0 184), z1, some (ax_vi (nI r)), some (ax_vi 0), some (ax_vi (nI j))], [], ax_mm I L) (ax_ki K) := by
    intro c
    induction c with
    | zero =>
      intro j z1 hj q
      apply vc_X9_needSpoke_60
      rw [nI_clamp (by omega), hsz]
      exact ⟨ib, ax_ct ((nI_leI (by omega) (by omega)).mpr (by omega)) (ax_ct rfl (rf_meets (f := 3) (by omega) (h3 z q)))⟩
    | succ c ih =>
      intro j z1 hj q
      apply vc_X9_needSpoke_60
      rw [nI_clamp (by omega), hsz, nI_1]
      exact ⟨ib, ax_cf (fun y => by have := (nI_leI (by omega) (by omega)).mp y; omega) (ax_ct rfl (ih (j + 1) _ (by omega) q))⟩
  suffices ∀ (c j : Nat) (z1 : Option ax_V), j + c = n → (∀ i, i < j → ∃ x, x < N ∧ I 187 (40 * r + i) = nI x) → ax_AK ((d + 2)) 229 (60, [some (ax_vr 9 0 184), z1, some (ax_vi (nI r)), some (ax_vi 1), some (ax_vi (nI j))], [], ax_mm I L) (ax_ki K) from this n 0 _ (by omega) (fun i hi => by omega)
  intro c
  induction c with
  | zero =>
    intro j z1 hj q
    apply vc_X9_needSpoke_60
    rw [nI_clamp (by omega), hsz]
    exact ⟨ib, ax_ct ((nI_leI (by omega) (by omega)).mpr (by omega)) (ax_cf (by decide) (h0 z (fun i hi => q i (by omega))))⟩
  | succ c ih =>
    intro j z1 hj q
    apply vc_X9_needSpoke_60
    rw [nI_clamp (by omega), hsz, nI_1]
    refine ⟨ib, ax_cf (fun y => by have := (nI_leI (by omega) (by omega)).mp y; omega) (ax_cf (by decide) ?_)⟩
    refine rf_rowAt hr (by omega) ?_
    rcases sw_dich (n := N) (by omega) (I 187 (40 * r + j)) with ⟨x, hx, e⟩ | e
    · rw [e]
      refine rf_isOne_k hN hN6 hx ?_
      refine ax_cf (by decide) (ih (j + 1) _ (by omega) (fun i hi => ?_))
      by_cases y : i = j
      · rw [y]; exact ⟨x, hx, e⟩
      · exact q i (by omega)
    · refine rf_isOne_no hN hN6 e ?_
      refine ax_ct rfl (zero c (j + 1) _ (by omega) (fun y => ?_))
      obtain ⟨x, hx, e2⟩ := y j (by omega)
      have e2 : I 187 (40 * r + j) = nI x := e2
      rw [e2] at e
      rcases e with e | e
      · exact nI_pos (by omega) e
      · have := (nI_leI (by omega) (by omega)).mp e; omega
theorem sw_mmx {n : Nat} (hn : n ≤ 6) : (if (0 : Int32) < (if (6 : Int32) < nI n then 6 else nI n) then (if (6 : Int32) < nI n then 6 else nI n) else 0) = nI n := by
  have : ∀ n, n < 7 → (if (0 : Int32) < (if (6 : Int32) < nI n then 6 else nI n) then (if (6 : Int32) < nI n then 6 else nI n) else 0) = nI n := by decide +kernel
  exact this n (by omega)
theorem cl_pbegin {d o n N T : Nat} {kd : Nat → Nat} {tl un : Nat → Int32} {W : Nat → Nat → Nat} {G : sw_G} {I : ax_I} {L : ax_J} {K : ax_I → ax_J → Prop} (hT : sw_TP I 6 N T kd tl un) (hN : N ≤ 6) (hD : sw_DA I 10 W G) (hl : G.2.2.length ≤ 6) (ho : 119 ≤ o) (hsz : I o 1 = nI n) (hn : n ≤ 6) (hK : ∀ I', sw_TP I' 70 N T kd tl un → sw_DA I' 74 W G → sw_DA I' 89 (fun _ _ => 0) (sw_rp kd []) → I' 69 6 = nI n → I' 69 8 = 0 → I' 69 9 = 0 → I' 69 10 = 0 → (∀ j, j < n → I' 104 j = I (o + 1) j) → ax_FR 69 106 I I' → K I' L) : ax_CV (d + 3) 58 [ax_vr 5 0 69, ax_vr 7 0 6, ax_vr 1 0 10, ax_vr 4 40 o] I L K := by
  apply vc_X5_begin
  refine cl_tbecome hT hN (by omega) (fun I1 t1 f1 => ?_)
  refine cl_becomeAside (hD.frame (fun a _ _ => f1 a (by omega))) hl (by omega) (fun I2 d2 f2 => ?_)
  refine cl_clear (kd := kd) (fun I3 d3 f3 => ?_)
  have e1 : I3 o 1 = nI n := by rw [f3 _ (by omega), f2 _ (by omega), f1 _ (by omega)]; exact hsz
  have e2 : (if (0 : Int32) < (if (6 : Int32) < I3 o 1 then 6 else I3 o 1) then (if (6 : Int32) < I3 o 1 then 6 else I3 o 1) else 0) = nI n := by
    rw [e1]; exact sw_mmx hn
  rw [e2, ax_ui_eq, nI_clamp (by omega), show (0 : Int32).toNatClampNeg = 0 by decide]
  refine ⟨?_, hK _ ?_ ?_ ?_ ?_ ?_ ?_ ax_ui_eq (fun j hj => ?_) ?_⟩
  · have z1 : Nat.ble (0 + n) 6 = true := Nat.ble_eq_true_of_le (by omega)
    have z2 : Nat.ble (0 + n) 40 = true := Nat.ble_eq_true_of_le (by omega)
    rw [z1, z2, decide_eq_true (show (0 : Int32) ≤ nI n from nI_pos' (by omega))]; rfl
  · exact t1.frame (fun a _ _ => by rw [ax_ui_row (by omega), ax_ui_row (by omega), ax_ui_row (by omega), ax_uc_row (by omega), ax_ui_row (by omega), f3 a (by omega), f2 a (by omega)])
  · exact d2.frame (fun a _ _ => by rw [ax_ui_row (by omega), ax_ui_row (by omega), ax_ui_row (by omega), ax_uc_row (by omega), ax_ui_row (by omega), f3 a (by omega)])
  · exact d3.1.frame (fun a _ _ => by rw [ax_ui_row (by omega), ax_ui_row (by omega), ax_ui_row (by omega), ax_uc_row (by omega), ax_ui_row (by omega)])
  · rw [ax_ui_ne (by omega), ax_ui_ne (by omega), ax_ui_ne (by omega), ax_uc_ne (by omega)]; exact ax_ui_eq
  · rw [ax_ui_ne (by omega), ax_ui_ne (by omega)]; exact ax_ui_eq
  · rw [ax_ui_ne (by omega)]; exact ax_ui_eq
  · rw [ax_ui_ne (by omega), ax_ui_ne (by omega), ax_ui_ne (by omega), ax_uc_z hj, ax_ui_ne (by omega), f3 _ (by omega), f2 _ (by omega), f1 _ (by omega)]
  · exact ((((((f1.wide (by omega) (by omega)).trans (f2.wide (by omega) (by omega))).trans (f3.wide (by omega) (by omega))).ui (by omega) (by omega)).uc (by omega) (by omega)).ui (by omega) (by omega)).ui (by omega) (by omega) |>.ui (by omega) (by omega)
theorem sw_FG_nil {f : Nat → Int32} {kd : Nat → Nat} (h : ∀ j, j < 31 → f j = if j < 24 then -9 else 0) : sw_FG f (sw_rp kd []) := by
  refine ⟨fun w hw => ?_, fun w hw => ?_, fun w hw => ?_, ?_⟩
  · rw [h _ (by omega), if_pos (by omega)]; rfl
  · rw [h _ (by omega), if_pos (by omega)]; rfl
  · rw [h _ (by omega), if_pos (by omega)]; rfl
  · rw [h _ (by omega), if_neg (by omega)]; rfl
/-- all rows, from an empty DAY -/
def sw_al (T : Nat) (fm : Bool) (th : Nat) (kd : Nat → Nat) (Gn : sw_G) (sp : Nat → Nat) (n : Nat) : sw_SG := sw_go T fm th kd Gn sp n 0 (sw_rp kd []) (fun _ => 0) (0, fun _ => 0, 0)
theorem rf_rows {d N T n r th : Nat} {kd : Nat → Nat} {tl un : Nat → Int32} {W : Nat → Nat → Nat} {fm : Bool} {sp : Nat → Nat} {Gn : sw_G} {I : ax_I} {L : ax_J} {K : ax_I → ax_J → Prop} (hg : sw_TG N T kd tl un) (hn : n ≤ 6) (hr : r < 6) (hth : th < 6) (hsp : ∀ j, j < n → sp j < N) (hT : sw_RT I N T kd tl un W) (hF : sw_FG (sw_fr I 0) Gn) (h186 : I 186 r = nI n) (h187 : ∀ j, j < n → I 187 (40 * r + j) = nI (sp j)) (h43 : I 184 43 = 0) (h44 : fm = false → I 184 44 = 0) (hK : ∀ I', sw_RV I' n fm (sw_al T fm th kd Gn sp n) → sw_RN 0 I I' → K I' L) : ax_CV (d + 29) 187 [ax_vr 9 0 184, ax_vi 1] I L (fun I7 L8 => ax_CV (d + 29) 231 [ax_vr 9 0 184, ax_vi (nI r), ax_vi 0, ax_vi (nI th), ax_vi (ax_b fm)] I7 L8 K) := by
  refine rf_clear (k := 1) (by omega) (fun I1 c1 o1 f1 => ?_)
  have n1 : sw_RN 0 I I1 := ⟨fun b hb => o1 b (by omega), fun b _ _ => by rw [f1 184 (by omega)], fun a a1 a2 _ _ => f1 a (by omega)⟩
  rw [show d + 29 = (d + 24 - n) + n + 5 by omega]
  refine rf_layRows (n := n) (sp := sp) (Gn := Gn) (W := W) (i := 0) (ts := fun _ => 0) (s := (0, fun _ => 0, 0)) (G := sw_rp kd []) hg hn hr hth hsp n _ _ _ (by omega) ⟨?_, ?_, sw_FG_nil c1, ?_, fun j hj => ?_⟩ ⟨?_, fun q => ?_, fun q => absurd rfl q⟩ (fun j hj => by omega) (fun I2 V2 t2 n2 => hK I2 V2 (n1.trans (n2.low (by omega))))
  · exact hT.frame (by rw [f1 184 (by omega)]) (by rw [f1 184 (by omega)]) (f1 _ (by omega)) (f1 _ (by omega)) (f1 _ (by omega)) (f1 _ (by omega))
  · exact hF.same (fun j hj => n1.1 _ (by omega))
  · rw [f1 _ (by omega)]; exact h186
  · rw [f1 _ (by omega)]; exact h187 j hj
  · rw [f1 184 (by omega)]; exact h43
  · rw [f1 184 (by omega)]; exact h44 q
