/-! WHO WAS FIRST: all rows of words, and those after which all is as now -/
abbrev sw_SG : Type := Int32 × (Nat → Int32) × Int32
abbrev sw_asn (T : Nat) (fm : Bool) (Gn G : sw_G) : Prop := ∀ w, w < T → (G.2.1 w = Gn.2.1 w ∧ (fm = true → G.1 w = Gn.1 w))
def sw_lf (T : Nat) (fm : Bool) (th : Nat) (Gn G : sw_G) (ts : Nat → Int32) (s : sw_SG) : sw_SG := if sw_asn T fm Gn G then (s.1 + 1, if s.1 = 0 then ts else s.2.1, if G.1 th = -9 then s.2.2 else s.2.2 ||| (1 : Int32) <<< (G.1 th &&& 31)) else s
def sw_go (T : Nat) (fm : Bool) (th : Nat) (kd : Nat → Nat) (Gn : sw_G) (sp : Nat → Nat) : Nat → Nat → sw_G → (Nat → Int32) → sw_SG → sw_SG
  | 0, _, G, ts, s => sw_lf T fm th Gn G ts s
  | k + 1, i, G, ts, s => ax_it (fun w s => sw_go T fm th kd Gn sp k (i + 1) (sw_ws kd G (sp i) w) (sw_up ts i (nI w)) s) T 0 s
def sw_ul (T : Nat) (fm : Bool) (Gn G : sw_G) : Prop := ∃ w, w < T ∧ ((¬ G.2.1 w = -9 ∧ ¬ G.2.1 w = Gn.2.1 w) ∨ (fm = true ∧ ¬ G.1 w = -9 ∧ ¬ G.1 w = Gn.1 w))
theorem sw_ul.ws {T : Nat} {fm : Bool} {Gn G : sw_G} {kd : Nat → Nat} {x v : Nat} (h : sw_ul T fm Gn G) : sw_ul T fm Gn (sw_ws kd G x v) := by
  obtain ⟨w, hw, h⟩ := h
  refine ⟨w, hw, ?_⟩
  rcases h with ⟨h1, h2⟩ | ⟨h0, h1, h2⟩
  · left; rw [sw_ws_O h1]; exact ⟨h1, h2⟩
  · right; rw [sw_ws_F h1]; exact ⟨h0, h1, h2⟩
theorem ax_it_idw {A : Type} {F : Nat → A → A} (h : ∀ w s, F w s = s) : ∀ (n w : Nat) (s : A), ax_it F n w s = s
  | 0, _, _ => rfl
  | n + 1, w, s => by show ax_it F n (w + 1) (F w s) = s; rw [h, ax_it_idw h n]
theorem sw_go_ul {T : Nat} {fm : Bool} {th : Nat} {kd : Nat → Nat} {Gn : sw_G} {sp : Nat → Nat} : ∀ (k i : Nat) (G : sw_G) (ts : Nat → Int32) (s : sw_SG), sw_ul T fm Gn G → sw_go T fm th kd Gn sp k i G ts s = s
  | 0, i, G, ts, s, h => by
    unfold sw_go sw_lf
    rw [if_neg]
    intro q
    obtain ⟨w, hw, h⟩ := h
    rcases h with ⟨h1, h2⟩ | ⟨h0, h1, h2⟩
    · exact h2 (q w hw).1
    · exact h2 ((q w hw).2 h0)
  | k + 1, i, G, ts, s, h => by
    unfold sw_go
    exact ax_it_idw (fun w s => sw_go_ul k (i + 1) _ _ s h.ws) T 0 s
theorem sw_ws_said {kd : Nat → Nat} {G : sw_G} {x w : Nat} (hx : x < 2 ^ 31) : ¬ (sw_ws kd G x w).1 w = -9 := by
  unfold sw_ws
  split
  · show ¬ sw_up G.1 w (nI x) w = -9
    rw [sw_up_eq]; exact ax_ne9 hx
  · rename_i h
    split
    · exact h
    · exact h
/-- the class's memory of it -/
def sw_PM (I : ax_I) (N T : Nat) (kd : Nat → Nat) (tl un : Nat → Int32) (n : Nat) (fm : Bool) (th : Nat) (sp : Nat → Nat) (W Wn : Nat → Nat → Nat) (Gn G : sw_G) (s : sw_SG) : Prop :=
  sw_ST I ∧ sw_TP I 70 N T kd tl un ∧ sw_DA I 74 Wn Gn ∧ sw_DA I 89 W G ∧ I 69 6 = nI n ∧ I 69 7 = ax_b fm ∧ I 69 8 = nI th ∧ I 69 9 = s.1 ∧ (fm = false → I 69 10 = s.2.2) ∧ (∀ j, j < n → I 104 j = nI (sp j)) ∧ (¬ s.1 = 0 → ∀ j, j < n → I 106 j = s.2.1 j)
theorem sw_PM.st {I I' : ax_I} {N T : Nat} {kd : Nat → Nat} {tl un : Nat → Int32} {n : Nat} {fm : Bool} {th : Nat} {sp : Nat → Nat} {W Wn : Nat → Nat → Nat} {Gn G G' : sw_G} {s : sw_SG} (h : sw_PM I N T kd tl un n fm th sp W Wn Gn G s) (hf : ∀ a, (a < 89 ∨ 103 < a) → ¬ a = 105 → I' a = I a) (hd : sw_DA I' 89 W G') : sw_PM I' N T kd tl un n fm th sp W Wn Gn G' s := by
  obtain ⟨h1, h2, h3, h4, h5, h6, h7, h8, h9, h10, h11⟩ := h
  exact ⟨h1.frame (hf _ (by omega) (by omega)) (hf _ (by omega) (by omega)), h2.frame (fun a _ _ => hf a (by omega) (by omega)), h3.frame (fun a _ _ => hf a (by omega) (by omega)), hd, by rw [hf _ (by omega) (by omega)]; exact h5, by rw [hf _ (by omega) (by omega)]; exact h6, by rw [hf _ (by omega) (by omega)]; exact h7, by rw [hf _ (by omega) (by omega)]; exact h8, by rw [hf _ (by omega) (by omega)]; exact h9, by rw [hf _ (by omega) (by omega)]; exact h10, by rw [hf _ (by omega) (by omega)]; exact h11⟩
theorem sw_PM.note {I I' : ax_I} {N T : Nat} {kd : Nat → Nat} {tl un : Nat → Int32} {n : Nat} {fm : Bool} {th : Nat} {sp : Nat → Nat} {W Wn : Nat → Nat → Nat} {Gn G : sw_G} {s s' : sw_SG} (h : sw_PM I N T kd tl un n fm th sp W Wn Gn G s) (hf : ∀ a, ¬ a = 69 → ¬ a = 106 → I' a = I a) (e6 : I' 69 6 = I 69 6) (e7 : I' 69 7 = I 69 7) (e8 : I' 69 8 = I 69 8) (e9 : I' 69 9 = s'.1) (e10 : fm = false → I' 69 10 = s'.2.2) (e11 : ¬ s'.1 = 0 → ∀ j, j < n → I' 106 j = s'.2.1 j) : sw_PM I' N T kd tl un n fm th sp W Wn Gn G s' := by
  obtain ⟨h1, h2, h3, h4, h5, h6, h7, h8, h9, h10, h11⟩ := h
  exact ⟨h1.frame (hf _ (by omega) (by omega)) (hf _ (by omega) (by omega)), h2.frame (fun a _ _ => hf a (by omega) (by omega)), h3.frame (fun a _ _ => hf a (by omega) (by omega)), h4.frame (fun a _ _ => hf a (by omega) (by omega)), e6.trans h5, e7.trans h6, e8.trans h7, e9, e10, by rw [hf _ (by omega) (by omega)]; exact h10, e11⟩
theorem cl_canBecome {d N T n th w : Nat} {kd : Nat → Nat} {tl un : Nat → Int32} {fm : Bool} {sp : Nat → Nat} {W Wn : Nat → Nat → Nat} {Gn G : sw_G} {s : sw_SG} {I : ax_I} {L : ax_J} {K : Int32 → ax_I → ax_J → Prop} (h : sw_PM I N T kd tl un n fm th sp W Wn Gn G s) (hw : w < T) (hT : T ≤ 6) (hs : ¬ G.1 w = -9) (h1 : K 1 I L) (h0 : sw_ul T fm Gn G → K 0 I L) : ax_CI (d + 1) 62 [ax_vr 5 0 69, ax_vi (nI w)] I L K := by
  obtain ⟨_, _, p3, p4, _, p6, _⟩ := h
  apply vc_X5_canBecomeAsNow
  have e97 : I 97 w = G.1 w := p4.2.1 w (by omega)
  have e98 : I 98 w = G.2.1 w := p4.2.2.1 w (by omega)
  have e82 : I 82 w = Gn.1 w := p3.2.1 w (by omega)
  have e83 : I 83 w = Gn.2.1 w := p3.2.2.1 w (by omega)
  have ib : ax_inb (nI w) 6 = true := ax_inb_nI (by omega) (by omega)
  rw [nI_clamp (by omega), e97, e98, e82, e83, p6]
  have rest : (decide (G.2.1 w = -9) = true → ax_bit 1 = true ∧ K 1 I L) ∧ (decide (G.2.1 w = -9) = false → ax_inb (nI w) 6 = true ∧ ax_inb (nI w) 6 = true ∧ ((!decide (G.2.1 w = Gn.2.1 w)) = true → ax_bit 0 = true ∧ K 0 I L) ∧ ((!decide (G.2.1 w = Gn.2.1 w)) = false → ax_bit 1 = true ∧ K 1 I L)) :=
    ax_if (fun _ => ⟨by decide, h1⟩) (fun z => ⟨ib, ib, ax_ifn (fun z2 => ⟨by decide, h0 ⟨w, hw, .inl ⟨z, z2⟩⟩⟩) (fun _ => ⟨by decide, h1⟩)⟩)
  cases fm with
  | false => exact ax_ct rfl ⟨ib, rest⟩
  | true =>
    refine ax_cf (by decide) ⟨ib, ib, ax_if (fun _ => ⟨ib, rest⟩) (fun z => ⟨by decide, h0 ⟨w, hw, .inr ⟨rfl, hs, z⟩⟩⟩)⟩
theorem cl_note {d N T n th : Nat} {kd : Nat → Nat} {tl un : Nat → Int32} {fm : Bool} {sp : Nat → Nat} {W Wn : Nat → Nat → Nat} {Gn G : sw_G} {s : sw_SG} {ts : Nat → Int32} {I : ax_I} {L : ax_J} {K : ax_I → ax_J → Prop} (h : sw_PM I N T kd tl un n fm th sp W Wn Gn G s) (hT : T ≤ 6) (hn : n ≤ 6) (hth : th < 6) (hts : ∀ j, j < n → I 105 j = ts j) (hK : ∀ I', sw_PM I' N T kd tl un n fm th sp W Wn Gn G (sw_lf T fm th Gn G ts s) → (∀ a, ¬ a = 69 → ¬ a = 106 → I' a = I a) → K I' L) : ax_CV (d + 1) 63 [ax_vr 5 0 69] I L K := by
  have h' := h
  obtain ⟨_, p2, p3, p4, p5, p6, p7, p8, p9, p10, p11⟩ := h'
  have e97 : ∀ w, w < 6 → I 97 w = G.1 w := p4.2.1
  have e98 : ∀ w, w < 6 → I 98 w = G.2.1 w := p4.2.2.1
  have e82 : ∀ w, w < 6 → I 82 w = Gn.1 w := p3.2.1
  have e83 : ∀ w, w < 6 → I 83 w = Gn.2.1 w := p3.2.2.1
  apply vc_X5_noteIfAsNow
  suffices ∀ (c w : Nat) (z2 : Option ax_V), w + c = T → (∀ v, v < w → (G.2.1 v = Gn.2.1 v ∧ (fm = true → G.1 v = Gn.1 v))) → ax_AK d 63 (2, [some (ax_vr 5 0 69), some (ax_vi (nI w)), z2], [], ax_mm I L) (ax_kv K) from this T 0 _ (by omega) (fun v hv => by omega)
  intro c
  induction c with
  | zero =>
    intro w z2 hw q
    apply vc_X5_noteIfAsNow_2
    rw [p2.2.1]
    refine ax_ct ((nI_leI (by omega) (by omega)).mpr (by omega)) ?_
    have as : sw_asn T fm Gn G := fun v hv => q v (by omega)
    have el : sw_lf T fm th Gn G ts s = (s.1 + 1, if s.1 = 0 then ts else s.2.1, if G.1 th = -9 then s.2.2 else s.2.2 ||| (1 : Int32) <<< (G.1 th &&& 31)) := if_pos as
    rw [el] at hK
    by_cases z : s.1 = 0
    · refine ax_nf (p8.trans z) ?_
      rw [p5, nI_clamp (by omega), ax_ui_ne (a := 69) (b := 8) (by omega), ax_uc_ne (a := 69) (b := 8) (by omega), p7, nI_clamp (by omega), ax_ui_ne (a := 97) (by omega), ax_uc_ne (a := 97) (by omega), e97 th hth, ax_uc_ne (a := 69) (b := 9) (by omega), p8]
      rw [if_pos z] at hK
      refine ⟨?_, ax_inb_nI (by omega) (by omega), ?_⟩
      · have : Nat.ble (0 + n) 6 = true := Nat.ble_eq_true_of_le (by omega)
        have z0 : ((0 : Int32)).toNatClampNeg = 0 := by decide
        rw [z0, this, decide_eq_true (show (0 : Int32) ≤ nI n from nI_pos' (by omega))]; rfl
      · by_cases y : G.1 th = -9
        · rw [if_pos y] at hK
          refine ax_ct y (hK _ (h.note (fun a a1 a2 => by rw [ax_ui_row a1, ax_uc_row a2]) ?_ ?_ ?_ ax_ui_eq (fun q => ?_) (fun _ j hj => ?_)) (fun a a1 a2 => by rw [ax_ui_row a1, ax_uc_row a2]))
          · rw [ax_ui_ne (by omega), ax_uc_ne (by omega)]
          · rw [ax_ui_ne (by omega), ax_uc_ne (by omega)]
          · rw [ax_ui_ne (by omega), ax_uc_ne (by omega)]
          · rw [ax_ui_ne (by omega), ax_uc_ne (by omega)]; exact p9 q
          · rw [ax_ui_ne (by omega)]; show ax_uc I 105 106 0 0 n 106 j = ts j; rw [ax_uc_z hj]; exact hts j hj
        · rw [if_neg y] at hK
          refine ax_cf y ⟨ax_inb_nI (by omega) (by omega), ?_⟩
          rw [ax_ui_ne (a := 69) (b := 10) (by omega), ax_uc_ne (a := 69) (b := 10) (by omega)]
          refine hK _ (h.note (fun a a1 a2 => by rw [ax_ui_row a1, ax_ui_row a1, ax_uc_row a2]) ?_ ?_ ?_ ?_ (fun q => ?_) (fun _ j hj => ?_)) (fun a a1 a2 => by rw [ax_ui_row a1, ax_ui_row a1, ax_uc_row a2])
          · rw [ax_ui_ne (by omega), ax_ui_ne (by omega), ax_uc_ne (by omega)]
          · rw [ax_ui_ne (by omega), ax_ui_ne (by omega), ax_uc_ne (by omega)]
          · rw [ax_ui_ne (by omega), ax_ui_ne (by omega), ax_uc_ne (by omega)]
          · rw [ax_ui_ne (by omega)]; exact ax_ui_eq
          · rw [ax_ui_eq, p9 q]
          · rw [ax_ui_ne (by omega), ax_ui_ne (by omega)]; show ax_uc I 105 106 0 0 n 106 j = ts j; rw [ax_uc_z hj]; exact hts j hj
    · refine ax_nt (fun z2 => z (p8.symm.trans z2)) ?_
      rw [ax_ui_ne (a := 69) (b := 8) (by omega), p7, nI_clamp (by omega), ax_ui_ne (a := 97) (by omega), e97 th hth, p8]
      rw [if_neg z] at hK
      refine ⟨ax_inb_nI (by omega) (by omega), ?_⟩
      by_cases y : G.1 th = -9
      · rw [if_pos y] at hK
        refine ax_ct y (hK _ (h.note (fun a a1 a2 => by rw [ax_ui_row a1]) ?_ ?_ ?_ ax_ui_eq (fun q => ?_) (fun _ j hj => ?_)) (fun a a1 a2 => by rw [ax_ui_row a1]))
        · rw [ax_ui_ne (by omega)]
        · rw [ax_ui_ne (by omega)]
        · rw [ax_ui_ne (by omega)]
        · rw [ax_ui_ne (by omega)]; exact p9 q
        · rw [ax_ui_ne (by omega)]; exact p11 z j hj
      · rw [if_neg y] at hK
        refine ax_cf y ⟨ax_inb_nI (by omega) (by omega), ?_⟩
        rw [ax_ui_ne (a := 69) (b := 10) (by omega)]
        refine hK _ (h.note (fun a a1 a2 => by rw [ax_ui_row a1, ax_ui_row a1]) ?_ ?_ ?_ ?_ (fun q => ?_) (fun _ j hj => ?_)) (fun a a1 a2 => by rw [ax_ui_row a1, ax_ui_row a1])
        · rw [ax_ui_ne (by omega), ax_ui_ne (by omega)]
        · rw [ax_ui_ne (by omega), ax_ui_ne (by omega)]
        · rw [ax_ui_ne (by omega), ax_ui_ne (by omega)]
        · rw [ax_ui_ne (by omega)]; exact ax_ui_eq
        · rw [ax_ui_eq, p9 q]
        · rw [ax_ui_ne (by omega), ax_ui_ne (by omega)]; exact p11 z j hj
  | succ c ih =>
    intro w z2 hw q
    have ib : ax_inb (nI w) 6 = true := ax_inb_nI (by omega) (by omega)
    have quit : ¬ (G.2.1 w = Gn.2.1 w ∧ (fm = true → G.1 w = Gn.1 w)) → K I L := fun z => by
      have el : sw_lf T fm th Gn G ts s = s := if_neg (fun z2 => z (z2 w (by omega)))
      rw [el] at hK
      exact hK I h (fun _ _ _ => rfl)
    apply vc_X5_noteIfAsNow_2
    rw [p2.2.1, nI_clamp (by omega), nI_1, e97 w (by omega), e98 w (by omega), e82 w (by omega), e83 w (by omega), p6]
    refine ax_cf (fun z => by have := (nI_leI (by omega) (by omega)).mp z; omega) ?_
    have nx : G.2.1 w = Gn.2.1 w → (fm = true → G.1 w = Gn.1 w) → ∀ z2, ax_AK d 63 (2, [some (ax_vr 5 0 69), some (ax_vi (nI (w + 1))), z2], [], ax_mm I L) (ax_kv K) := fun y1 y2 z2 => ih (w + 1) z2 (by omega) (fun v hv => by
      by_cases e : v = w
      · subst e; exact ⟨y1, y2⟩
      · exact q v (by omega))
    cases fm with
    | false => exact ax_ct rfl (ax_nf rfl ⟨ib, ib, ax_if (fun y => nx y (fun z => by cases z) _) (fun y => quit (fun z => y z.1))⟩)
    | true =>
      refine ax_cf (by decide) ⟨ib, ib, ax_if (fun y => ?_) (fun y => ?_)⟩
      · exact ax_nf rfl ⟨ib, ib, ax_if (fun y2 => nx y2 (fun _ => y) _) (fun y => quit (fun z => y z.1))⟩
      · exact ax_nt (by decide) (quit (fun z => y (z.2 rfl)))
theorem cl_goThrough {N T n th : Nat} {kd : Nat → Nat} {tl un : Nat → Int32} {fm : Bool} {sp : Nat → Nat} {W Wn : Nat → Nat → Nat} {Gn : sw_G} {L : ax_J} (hg : sw_TG N T kd tl un) (hn : n ≤ 6) (hth : th < 6) (hsp : ∀ j, j < n → sp j < N) : ∀ (k d i : Nat) (G : sw_G) (ts : Nat → Int32) (s : sw_SG) (I : ax_I) (K : ax_I → ax_J → Prop), i + k = n → sw_PM I N T kd tl un n fm th sp W Wn Gn G s → sw_GI N T G → (∀ j, j < i → I 105 j = ts j) → (∀ I', sw_PM I' N T kd tl un n fm th sp W Wn Gn G (sw_go T fm th kd Gn sp k i G ts s) → (∀ j, j < i → I' 105 j = ts j) → ax_FR 69 106 I I' → K I' L) → ax_CV (d + k + 4) 61 [ax_vr 5 0 69, ax_vi (nI i)] I L K := by
  have hN := hg.1
  have hT := hg.2.1
  intro k
  induction k with
  | zero =>
    intro d i G ts s I K hi hP hG hts hK
    apply vc_X5_goThrough
    rw [hP.2.2.2.2.1]
    refine ax_cf (nI_nlt (by omega) (by omega)) ?_
    refine cl_note hP hT hn hth (fun j hj => hts j (by omega)) (fun I1 P1 f1 => ?_)
    exact hK I1 P1 (fun j hj => by rw [f1 _ (by omega) (by omega)]; exact hts j hj) (fun a ha => f1 a (by omega) (by omega))
  | succ k ihk =>
    intro d i G ts s I K hi hP hG hts hK
    apply vc_X5_goThrough
    rw [hP.2.2.2.2.1]
    refine ax_ct (nI_lt (by omega) (by omega)) ?_
    unfold sw_go at hK
    suffices ∀ (c w : Nat) (s1 : sw_SG) (I1 : ax_I) (z3 : Option ax_V), w + c = T → sw_PM I1 N T kd tl un n fm th sp W Wn Gn G s1 → (∀ j, j < i → I1 105 j = ts j) → ax_FR 69 106 I I1 → (∀ I', sw_PM I' N T kd tl un n fm th sp W Wn Gn G (ax_it (fun w s => sw_go T fm th kd Gn sp k (i + 1) (sw_ws kd G (sp i) w) (sw_up ts i (nI w)) s) c w s1) → (∀ j, j < i → I' 105 j = ts j) → ax_FR 69 106 I I' → K I' L) → ax_AK ((d + k + 4)) 61 (15, [some (ax_vr 5 0 69), some (ax_vi (nI i)), some (ax_vi (nI w)), z3], [], ax_mm I1 L) (ax_kv K) from this T 0 s I _ (by omega) hP hts ax_FR.refl hK
    intro c
    induction c with
    | zero =>
      intro w s1 I1 z3 hw P1 t1 f1 hK1
      apply vc_X5_goThrough_15
      rw [P1.2.1.2.1]
      exact ax_ct ((nI_leI (by omega) (by omega)).mpr (by omega)) (hK1 I1 P1 t1 f1)
    | succ c ih =>
      intro w s1 I1 z3 hw P1 t1 f1 hK1
      apply vc_X5_goThrough_15
      rw [P1.2.1.2.1, nI_clamp (by omega), nI_1, nI_1, P1.2.2.2.2.2.2.2.2.2.1 i (by omega)]
      have ib : ax_inb (nI i) 6 = true := ax_inb_nI (by omega) (by omega)
      refine ax_cf (fun z => by have := (nI_leI (by omega) (by omega)).mp z; omega) ⟨ib, ?_⟩
      refine cl_wish P1.1 P1.2.1 hg P1.2.2.2.1 hG (hsp i (by omega)) (by omega) ⟨ib, ?_⟩
      have d2 : sw_DA (ax_ui (sw_wI I1 89 kd G (sp i) w) 105 i (nI w)) 89 W (sw_ws kd G (sp i) w) := (P1.2.2.2.1.wish (by omega)).frame (fun a _ _ => ax_ui_row (by omega))
      have fr : ∀ a, (a < 89 ∨ 103 < a) → ¬ a = 105 → ax_ui (sw_wI I1 89 kd G (sp i) w) 105 i (nI w) a = I1 a := fun a z1 z2 => by rw [ax_ui_row z2]; exact sw_wI_FR a (by omega)
      have P2 := P1.st fr d2
      have t2 : ∀ j, j < i + 1 → ax_ui (sw_wI I1 89 kd G (sp i) w) 105 i (nI w) 105 j = sw_up ts i (nI w) j := fun j hj => by
        by_cases e : j = i
        · rw [e, ax_ui_eq, sw_up_eq]
        · rw [ax_ui_ne (by omega), sw_up_ne e, sw_wI_FR 105 (by omega)]; exact t1 j (by omega)
      have f2 : ax_FR 69 106 I (ax_ui (sw_wI I1 89 kd G (sp i) w) 105 i (nI w)) := (f1.trans (sw_wI_FR.wide (by omega) (by omega))).ui (by omega) (by omega)
      have G2 := hG.wish hN hT (kd := kd) (hsp i (by omega)) (show w < T by omega)
      have back : ∀ (s2 : sw_SG) (I3 : ax_I), sw_PM I3 N T kd tl un n fm th sp W Wn Gn (sw_ws kd G (sp i) w) s2 → (∀ j, j < i + 1 → I3 105 j = sw_up ts i (nI w) j) → ax_FR 69 106 I I3 → sw_go T fm th kd Gn sp k (i + 1) (sw_ws kd G (sp i) w) (sw_up ts i (nI w)) s1 = s2 → ax_CV (d + k + 4) 10 [ax_vr 1 0 89, ax_vi (nI w), ax_vi (nI (sw_out kd G (sp i) w))] I3 L (fun I13 L14 => ax_AK (d + k + 4) 61 (15, [some (ax_vr 5 0 69), some (ax_vi (nI i)), some (ax_vi (nI (w + 1))), some (ax_vi (nI (sw_out kd G (sp i) w)))], [], ax_mm I13 L14) (ax_kv K)) := by
        intro s2 I3 P3 t3 f3 e3
        refine cl_takeBack (by omega) sw_out_le P3.2.2.2.1.back6 ?_
        refine ih (w + 1) s2 _ _ (by omega) (P3.st (fun a z1 z2 => sw_tI_FR a (by omega)) (P3.2.2.2.1.back (by omega))) (fun j hj => ?_) (f3.trans (sw_tI_FR.wide (by omega) (by omega))) ?_
        · rw [sw_tI_FR 105 (by omega), t3 j (by omega), sw_up_ne (by omega)]
        · rw [← e3]; exact hK1
      refine cl_canBecome P2 (by omega) hT (sw_ws_said (by have := hsp i (by omega); omega)) ?_ (fun hu => ?_)
      · refine ax_cf (by decide) ?_
        refine ihk d (i + 1) (sw_ws kd G (sp i) w) (sw_up ts i (nI w)) s1 _ _ (by omega) P2 G2 t2 (fun I3 P3 t3 f3 => ?_)
        exact back _ I3 P3 t3 (f2.trans f3) rfl
      · refine ax_ct rfl ?_
        exact back s1 _ P2 t2 f2 (sw_go_ul k (i + 1) _ _ s1 hu)
