/-! needs: 21a 21b 21c 21e 21f 30 31 32 33 -/
/-! what was SAID: (who, what, who heard it), the latest first -/
abbrev sw_E : Type := List (Nat × Nat × Int32)
def sw_rp (kd : Nat → Nat) : sw_E → sw_G
  | [] => (fun _ => -9, fun _ => -9, [])
  | e :: es => sw_ws kd (sw_rp kd es) e.1 e.2.1
def sw_by (kd : Nat → Nat) : sw_E → Nat → Int32
  | [] => fun _ => -9
  | e :: es => if sw_out kd (sw_rp kd es) e.1 e.2.1 = 2 then sw_up (sw_by kd es) e.2.1 (nI e.1) else sw_by kd es
def sw_he (kd : Nat → Nat) : sw_E → Nat → Int32
  | [] => fun _ => 0
  | e :: es => if sw_out kd (sw_rp kd es) e.1 e.2.1 = 1 then sw_up (sw_he kd es) e.2.1 e.2.2 else sw_he kd es
def sw_EI (N T : Nat) (es : sw_E) : Prop := es.length ≤ 40 ∧ ∀ e, e ∈ es → e.1 < N ∧ e.2.1 < T ∧ ∀ i, i < 32 → ax_bt e.2.2 i = true → i < N
theorem sw_EI.tail {N T : Nat} {e : Nat × Nat × Int32} {es : sw_E} (h : sw_EI N T (e :: es)) : sw_EI N T es := ⟨by have : es.length + 1 ≤ 40 := h.1; omega, fun a q => h.2 a (List.mem_cons_of_mem _ q)⟩
theorem sw_GI_0 {N T : Nat} : sw_GI N T (fun _ => -9, fun _ => -9, []) := by
  refine ⟨?_, List.nodup_nil, ?_, ?_, ?_, ?_, ?_, ?_⟩
  · have : ∀ n w a, ax_it (fun w a => if (fun _ => (-9 : Int32)) w = -9 then a else a + 1) n w a = a := fun n w a => ax_it_id n w a (fun i a _ _ => rfl)
    exact (this 6 0 0).symm
  · intro w _; exact ⟨(fun q => by cases q), fun q => absurd rfl q⟩
  · intro v q; cases q
  · intro w _; exact .inl rfl
  · intro w _; exact .inl rfl
  · intro w _ _; rfl
  · intro w _ _; rfl
theorem sw_EI.GI {N T : Nat} (hN : N ≤ 6) (hT : T ≤ 6) {kd : Nat → Nat} : ∀ {es : sw_E}, sw_EI N T es → sw_GI N T (sw_rp kd es)
  | [], _ => sw_GI_0
  | e :: es, h => (sw_EI.GI hN hT h.tail).wish hN hT (h.2 e List.mem_cons_self).1 (h.2 e List.mem_cons_self).2.1
theorem sw_by_no {kd : Nat → Nat} {w : Nat} : ∀ {es : sw_E}, (∀ e, e ∈ es → e.1 < 6) → (sw_rp kd es).2.1 w = -9 → sw_by kd es w = -9
  | [], _, _ => rfl
  | e :: es, hE, h => by
    have ih := sw_by_no (kd := kd) (w := w) (es := es) (fun a q => hE a (List.mem_cons_of_mem _ q))
    have hx := hE e List.mem_cons_self
    unfold sw_by
    unfold sw_rp at h
    split
    · rename_i q
      obtain ⟨q1, q2, q3⟩ := sw_ws_2 q
      rw [q3] at h
      have h : sw_up _ _ _ _ = _ := h
      by_cases z : w = e.2.1
      · subst z
        rw [sw_up_eq] at h
        unfold sw_own at h
        split at h
        · exact absurd h q1
        · exact absurd h (ax_ne9 (by omega))
      · rw [sw_up_ne z] at h ⊢
        exact ih h
    · rename_i q
      refine ih ?_
      have le := sw_out_le (kd := kd) (G := sw_rp kd es) (x := e.1) (w := e.2.1)
      by_cases z : sw_out kd (sw_rp kd es) e.1 e.2.1 = 1
      · rw [(sw_ws_1 z).2] at h; exact h
      · rw [sw_ws_0 (by omega)] at h; exact h
theorem sw_he_no {kd : Nat → Nat} {w : Nat} : ∀ {es : sw_E}, (∀ e, e ∈ es → e.1 < 6) → (sw_rp kd es).1 w = -9 → sw_he kd es w = 0
  | [], _, _ => rfl
  | e :: es, hE, h => by
    have ih := sw_he_no (kd := kd) (w := w) (es := es) (fun a q => hE a (List.mem_cons_of_mem _ q))
    have hx := hE e List.mem_cons_self
    unfold sw_he
    unfold sw_rp at h
    split
    · rename_i q
      obtain ⟨q1, q3⟩ := sw_ws_1 q
      rw [q3] at h
      have h : sw_up _ _ _ _ = _ := h
      by_cases z : w = e.2.1
      · subst z
        rw [sw_up_eq] at h
        exact absurd h (ax_ne9 (by omega))
      · rw [sw_up_ne z] at h ⊢
        exact ih h
    · rename_i q
      refine ih ?_
      have le := sw_out_le (kd := kd) (G := sw_rp kd es) (x := e.1) (w := e.2.1)
      by_cases z : sw_out kd (sw_rp kd es) e.1 e.2.1 = 2
      · rw [(sw_ws_2 z).2.2] at h; exact h
      · rw [sw_ws_0 (by omega)] at h; exact h
theorem sw_he_bt {kd : Nat → Nat} {N T w i : Nat} (hi : i < 32) : ∀ {es : sw_E}, sw_EI N T es → ax_bt (sw_he kd es w) i = true → i < N
  | [], _, h => by
    have h : ax_bt 0 i = true := h
    rw [ax_bt_0] at h; cases h
  | e :: es, hE, h => by
    unfold sw_he at h
    split at h
    · by_cases z : w = e.2.1
      · subst z; rw [sw_up_eq] at h; exact (hE.2 e List.mem_cons_self).2.2 i hi h
      · rw [sw_up_ne z] at h; exact sw_he_bt hi hE.tail h
    · exact sw_he_bt hi hE.tail h
def sw_sy (kd : Nat → Nat) (f g : Nat → Int32) : sw_E → Prop
  | [] => True
  | e :: es => f es.length = nI (10 * e.1 + e.2.1) ∧ g es.length = nI (sw_out kd (sw_rp kd es) e.1 e.2.1) ∧ sw_sy kd f g es
theorem sw_sy_up {kd : Nat → Nat} {f g f' g' : Nat → Int32} {k : Nat} (hf : ∀ b, b < k → f' b = f b) (hg : ∀ b, b < k → g' b = g b) : ∀ (es : sw_E), es.length ≤ k → sw_sy kd f g es → sw_sy kd f' g' es
  | [], _, _ => trivial
  | e :: es, h, q => by
    have h : es.length + 1 ≤ k := h
    exact ⟨by rw [hf _ (by omega)]; exact q.1, by rw [hg _ (by omega)]; exact q.2.1, sw_sy_up hf hg es (by omega) q.2.2⟩
/-- a Day with all that it keeps -/
def sw_DF (I : ax_I) (o : Nat) (kd : Nat → Nat) (W : Nat → Nat → Nat) (es : sw_E) : Prop := sw_DA I o W (sw_rp kd es) ∧ (∀ w, w < 6 → I (o + 10) w = sw_by kd es w) ∧ (∀ w, w < 6 → I (o + 11) w = sw_he kd es w) ∧ I o 9 = nI es.length ∧ sw_sy kd (I (o + 13)) (I (o + 14)) es
theorem sw_or_eq {f g : Nat → Int32} : ∀ (R : List Nat), (∀ b, b < R.length → g b = f b) → sw_or f R → sw_or g R
  | [], _, _ => trivial
  | v :: R, h, q => ⟨by rw [h R.length (Nat.lt_succ_self _)]; exact q.1, sw_or_eq R (fun b hb => h b (Nat.lt_succ_of_lt hb)) q.2⟩
/-- only cells and places that count -/
theorem sw_DA.same {I I' : ax_I} {o o' : Nat} {W : Nat → Nat → Nat} {G : sw_G} (h : sw_DA I o W G) (hl : G.2.2.length ≤ 6) (h1 : ∀ x, x < 6 → ∀ w, w < 6 → I' (o' + 1 + (1 + x)) w = I (o + 1 + (1 + x)) w) (h2 : ∀ w, w < 6 → I' (o' + 8) w = I (o + 8) w) (h3 : ∀ w, w < 6 → I' (o' + 9) w = I (o + 9) w) (h4 : I' o' 6 = I o 6) (h5 : ∀ w, w < 6 → I' (o' + 12) w = I (o + 12) w) : sw_DA I' o' W G := by
  obtain ⟨q1, q2, q3, q4, q5⟩ := h
  exact ⟨fun x hx w hw => (h1 x hx w hw).trans (q1 x hx w hw), fun w hw => (h2 w hw).trans (q2 w hw), fun w hw => (h3 w hw).trans (q3 w hw), h4.trans q4, sw_or_eq _ (fun b hb => h5 b (by omega)) q5⟩
theorem sw_DA.frame {I I' : ax_I} {o : Nat} {W : Nat → Nat → Nat} {G : sw_G} (h : sw_DA I o W G) (hf : ∀ a, o ≤ a → a ≤ o + 14 → I' a = I a) : sw_DA I' o W G := by
  obtain ⟨q1, q2, q3, q4, q5⟩ := h
  refine ⟨fun x hx w hw => ?_, fun w hw => ?_, fun w hw => ?_, ?_, ?_⟩
  · rw [hf _ (by omega) (by omega)]; exact q1 x hx w hw
  · rw [hf _ (by omega) (by omega)]; exact q2 w hw
  · rw [hf _ (by omega) (by omega)]; exact q3 w hw
  · rw [hf _ (by omega) (by omega)]; exact q4
  · rw [hf _ (by omega) (by omega)]; exact q5
theorem sw_DF.frame {I I' : ax_I} {o : Nat} {kd : Nat → Nat} {W : Nat → Nat → Nat} {es : sw_E} (h : sw_DF I o kd W es) (hf : ∀ a, o ≤ a → a ≤ o + 14 → I' a = I a) : sw_DF I' o kd W es := by
  obtain ⟨q1, q2, q3, q4, q5⟩ := h
  refine ⟨q1.frame hf, fun w hw => ?_, fun w hw => ?_, ?_, ?_⟩
  · rw [hf _ (by omega) (by omega)]; exact q2 w hw
  · rw [hf _ (by omega) (by omega)]; exact q3 w hw
  · rw [hf _ (by omega) (by omega)]; exact q4
  · rw [hf _ (by omega) (by omega), hf _ (by omega) (by omega)]; exact q5
theorem sw_TP.frame {I I' : ax_I} {t N T : Nat} {kd : Nat → Nat} {tl un : Nat → Int32} (h : sw_TP I t N T kd tl un) (hf : ∀ a, t ≤ a → a ≤ t + 3 → I' a = I a) : sw_TP I' t N T kd tl un := by
  obtain ⟨q1, q2, q3, q4, q5⟩ := h
  refine ⟨?_, ?_, fun w hw => ?_, fun w hw => ?_, fun w hw => ?_⟩
  · rw [hf _ (by omega) (by omega)]; exact q1
  · rw [hf _ (by omega) (by omega)]; exact q2
  · rw [hf _ (by omega) (by omega)]; exact q3 w hw
  · rw [hf _ (by omega) (by omega)]; exact q4 w hw
  · rw [hf _ (by omega) (by omega)]; exact q5 w hw
theorem sw_ST.frame {I I' : ax_I} (h : sw_ST I) (h1 : I' 1 = I 1) (h2 : I' 2 = I 2) : sw_ST I' := by
  unfold sw_ST; rw [h1, h2]; exact h
theorem ax_uc_z {I : ax_I} {o0 o1 n b : Nat} (h : b < n) : ax_uc I o0 o1 0 0 n o1 b = I o0 b := by
  rw [ax_uc_in (by omega), Nat.zero_add, Nat.sub_zero]
theorem ax_uc_ne {I : ax_I} {o0 o1 sp dp n a b : Nat} (h : ¬ a = o1) : ax_uc I o0 o1 sp dp n a b = I a b := by rw [ax_uc_row h]
theorem cl_fill {d n0 o0 : Nat} {v : Int32} {I : ax_I} {L : ax_J} {K : ax_I → ax_J → Prop} (hn : n0 < 2 ^ 31) (hK : ∀ I', (∀ b, b < n0 → I' o0 b = v) → ax_FR o0 o0 I I' → K I' L) : ax_CV (d + 1) 246 [ax_vr 10 n0 o0, ax_vi v] I L K := by
  apply vc_J7_fill_53178
  suffices ∀ (n w : Nat) (I1 : ax_I), w + n = n0 → (∀ b, b < w → I1 o0 b = v) → ax_FR o0 o0 I I1 → ax_AK d 246 (5, [some (ax_vr 10 n0 o0), some (ax_vi v), some (ax_vi (nI w)), some (ax_vi (nI n0))], [], ax_mm I1 L) (ax_kv K) from this n0 0 I (by omega) (fun b hb => by omega) ax_FR.refl
  intro n
  induction n with
  | zero =>
    intro w I1 hw h1 h2
    apply vc_J7_fill_53178_5
    simp (disch := omega) only [Bool.not_eq_false, Bool.not_eq_true, decide_eq_true_eq, decide_eq_false_iff_not, Bool.not_eq_true', Bool.not_eq_false', ax_lle, ax_llt, ax_lel, ax_ltl, ax_leq, ax_eql, ax_clampl, ax_inb_iff, nI_clamp, nI_1, nI_leI, nI_ltI, nI_eq, ax_b0, ax_b1, ax_bitb, ax_ui_eq, ax_ui_ne, true_and, and_true]
    exact ⟨fun _ => hK I1 (fun b hb => h1 b (by omega)) h2, fun h => by omega⟩
  | succ n ih =>
    intro w I1 hw h1 h2
    apply vc_J7_fill_53178_5
    simp (disch := omega) only [Bool.not_eq_false, Bool.not_eq_true, decide_eq_true_eq, decide_eq_false_iff_not, Bool.not_eq_true', Bool.not_eq_false', ax_lle, ax_llt, ax_lel, ax_ltl, ax_leq, ax_eql, ax_clampl, ax_inb_iff, nI_clamp, nI_1, nI_leI, nI_ltI, nI_eq, ax_b0, ax_b1, ax_bitb, ax_ui_eq, ax_ui_ne, true_and, and_true]
    refine ⟨fun h => by omega, fun _ => ⟨by omega, ih _ _ (by omega) ?_ (h2.ui (Nat.le_refl _) (Nat.le_refl _))⟩⟩
    intro b hb
    by_cases q : b = w
    · subst q; exact ax_ui_eq
    · rw [ax_ui_ne (by omega)]; exact h1 b (by omega)
theorem cl_becomeAside {d o o0 : Nat} {W : Nat → Nat → Nat} {G : sw_G} {I : ax_I} {L : ax_J} {K : ax_I → ax_J → Prop} (hD : sw_DA I o0 W G) (hl : G.2.2.length ≤ 6) (ho : o + 14 < o0 ∨ o0 + 14 < o) (hK : ∀ I', sw_DA I' o W G → ax_FR o (o + 14) I I' → K I' L) : ax_CV (d + 1) 6 [ax_vr 1 0 o, ax_vr 1 0 o0] I L K := by
  apply vc_X1_becomeAside
  suffices ∀ (n w : Nat) (I1 : ax_I), w + n = 6 → (∀ x, x < w → ∀ b, b < 6 → I1 (o + 1 + (1 + x)) b = nI (W x b)) → ax_FR o (o + 14) I I1 → ax_AK d 6 (2, [some (ax_vr 1 0 o), some (ax_vr 1 0 o0), some (ax_vi (nI w))], [], ax_mm I1 L) (ax_kv K) from this 6 0 I (by omega) (fun b hb => by omega) ax_FR.refl
  intro n
  induction n with
  | zero =>
    intro w I1 hw h1 h2
    apply vc_X1_becomeAside_2
    simp (disch := omega) only [Bool.not_eq_false, Bool.not_eq_true, decide_eq_true_eq, decide_eq_false_iff_not, Bool.not_eq_true', Bool.not_eq_false', ax_lle, ax_llt, ax_lel, ax_ltl, ax_leq, ax_eql, ax_clampl, ax_inb_iff, nI_clamp, nI_1, nI_leI, nI_ltI, nI_eq, ax_b0, ax_b1, ax_bitb, ax_ui_eq, ax_ui_ne, true_and, and_true]
    refine ⟨fun _ => ⟨by decide, by decide, by decide, ?_⟩, fun h => by omega⟩
    have hD1 : sw_DA I1 o0 W G := hD.frame (fun a q1 q2 => h2 a (by omega))
    refine hK _ ?_ ?_
    · refine ⟨fun x hx b hb => ?_, fun b hb => ?_, fun b hb => ?_, ?_, ?_⟩
      · rw [ax_ui_ne (by omega), ax_uc_ne (by omega), ax_uc_ne (by omega), ax_uc_ne (by omega)]; exact h1 x (by omega) b hb
      · rw [ax_ui_ne (by omega), ax_uc_ne (by omega), ax_uc_ne (by omega), ax_uc_z hb]; exact hD1.2.1 b hb
      · rw [ax_ui_ne (by omega), ax_uc_ne (by omega), ax_uc_z hb, ax_uc_ne (by omega)]; exact hD1.2.2.1 b hb
      · rw [ax_ui_eq, ax_uc_ne (by omega), ax_uc_ne (by omega), ax_uc_ne (by omega)]; exact hD1.2.2.2.1
      · rw [ax_ui_row (by omega)]
        refine sw_or_eq _ (fun b hb => ?_) hD1.2.2.2.2
        rw [ax_uc_z (by omega), ax_uc_ne (by omega), ax_uc_ne (by omega)]
    · exact (((h2.uc (by omega) (by omega)).uc (by omega) (by omega)).uc (by omega) (by omega)).ui (by omega) (by omega)
  | succ n ih =>
    intro w I1 hw h1 h2
    apply vc_X1_becomeAside_2
    simp (disch := omega) only [Bool.not_eq_false, Bool.not_eq_true, decide_eq_true_eq, decide_eq_false_iff_not, Bool.not_eq_true', Bool.not_eq_false', ax_lle, ax_llt, ax_lel, ax_ltl, ax_leq, ax_eql, ax_clampl, ax_inb_iff, nI_clamp, nI_1, nI_leI, nI_ltI, nI_eq, ax_b0, ax_b1, ax_bitb, ax_ui_eq, ax_ui_ne, true_and, and_true]
    refine ⟨fun h => by omega, fun _ => ⟨by omega, by omega, by decide, ih _ _ (by omega) ?_ (h2.uc (by omega) (by omega))⟩⟩
    have hD1 : sw_DA I1 o0 W G := hD.frame (fun a q1 q2 => h2 a (by omega))
    intro x hx b hb
    by_cases q : x = w
    · subst q; rw [ax_uc_z hb]; exact hD1.1 x (by omega) b hb
    · rw [ax_uc_ne (by omega)]; exact h1 x (by omega) b hb
theorem cl_become {d o o0 N T : Nat} {kd : Nat → Nat} {W : Nat → Nat → Nat} {es : sw_E} {I : ax_I} {L : ax_J} {K : ax_I → ax_J → Prop} (hD : sw_DF I o0 kd W es) (hN : N ≤ 6) (hT : T ≤ 6) (hE : sw_EI N T es) (ho : o + 14 < o0 ∨ o0 + 14 < o) (hK : ∀ I', sw_DF I' o kd W es → ax_FR o (o + 14) I I' → K I' L) : ax_CV (d + 2) 5 [ax_vr 1 0 o, ax_vr 1 0 o0] I L K := by
  apply vc_X1_become
  have he := hE.1
  have hl := (hE.GI hN hT (kd := kd)).len
  refine cl_becomeAside hD.1 hl ho (fun I1 d1 f1 => ?_)
  have hD1 : sw_DF I1 o0 kd W es := hD.frame (fun a q1 q2 => f1 a (by omega))
  obtain ⟨q1, q2, q3, q4, q5⟩ := hD1
  simp (disch := omega) only [Bool.not_eq_false, Bool.not_eq_true, decide_eq_true_eq, decide_eq_false_iff_not, Bool.not_eq_true', Bool.not_eq_false', ax_lle, ax_llt, ax_lel, ax_ltl, ax_leq, ax_eql, ax_clampl, ax_inb_iff, nI_clamp, nI_1, nI_leI, nI_ltI, nI_eq, ax_b0, ax_b1, ax_bitb, ax_ui_eq, ax_ui_ne, true_and, and_true, ax_uc_ne, q4]
  refine ⟨by decide, by decide, ?_, ?_, ?_⟩
  · simp only [Bool.and_eq_true, decide_eq_true_eq, Nat.ble_eq]
    exact ⟨⟨⟨⟨by decide, by decide⟩, by omega⟩, by omega⟩, by omega⟩
  · simp only [Bool.and_eq_true, decide_eq_true_eq, Nat.ble_eq]
    exact ⟨⟨⟨⟨by decide, by decide⟩, by omega⟩, by omega⟩, by omega⟩
  · refine hK _ ?_ ?_
    · refine ⟨d1.same hl ?_ ?_ ?_ ?_ ?_, fun w hw => ?_, fun w hw => ?_, ax_ui_eq, ?_⟩
      · intro x hx w hw; rw [ax_ui_ne (by omega), ax_uc_ne (by omega), ax_uc_ne (by omega), ax_uc_ne (by omega), ax_uc_ne (by omega)]
      · intro w hw; rw [ax_ui_ne (by omega), ax_uc_ne (by omega), ax_uc_ne (by omega), ax_uc_ne (by omega), ax_uc_ne (by omega)]
      · intro w hw; rw [ax_ui_ne (by omega), ax_uc_ne (by omega), ax_uc_ne (by omega), ax_uc_ne (by omega), ax_uc_ne (by omega)]
      · rw [ax_ui_ne (by omega), ax_uc_ne (by omega), ax_uc_ne (by omega), ax_uc_ne (by omega), ax_uc_ne (by omega)]
      · intro w hw; rw [ax_ui_ne (by omega), ax_uc_ne (by omega), ax_uc_ne (by omega), ax_uc_ne (by omega), ax_uc_ne (by omega)]
      · rw [ax_ui_ne (by omega), ax_uc_ne (by omega), ax_uc_ne (by omega), ax_uc_ne (by omega), ax_uc_z hw]; exact q2 w hw
      · rw [ax_ui_ne (by omega), ax_uc_ne (by omega), ax_uc_ne (by omega), ax_uc_z hw, ax_uc_ne (by omega)]; exact q3 w hw
      · refine sw_sy_up (k := es.length) ?_ ?_ es (Nat.le_refl _) q5
        · intro b hb; rw [ax_ui_ne (by omega), ax_uc_ne (by omega), ax_uc_z hb, ax_uc_ne (by omega), ax_uc_ne (by omega)]
        · intro b hb; rw [ax_ui_ne (by omega), ax_uc_z hb, ax_uc_ne (by omega), ax_uc_ne (by omega), ax_uc_ne (by omega)]
    · exact ((((f1.uc (by omega) (by omega)).uc (by omega) (by omega)).uc (by omega) (by omega)).uc (by omega) (by omega)).ui (by omega) (by omega)
theorem cl_clear {d o : Nat} {kd : Nat → Nat} {I : ax_I} {L : ax_J} {K : ax_I → ax_J → Prop} (hK : ∀ I', sw_DF I' o kd (fun _ _ => 0) [] → ax_FR o (o + 14) I I' → K I' L) : ax_CV (d + 2) 4 [ax_vr 1 0 o] I L K := by
  apply vc_X1_clear
  suffices ∀ (n w : Nat) (I1 : ax_I), w + n = 6 → (∀ x, x < w → ∀ b, b < 6 → I1 (o + 1 + (1 + x)) b = 0) → ax_FR o (o + 14) I I1 → ax_AK ((d + 1)) 4 (2, [some (ax_vr 1 0 o), some (ax_vi (nI w))], [], ax_mm I1 L) (ax_kv K) from this 6 0 I (by omega) (fun b hb => by omega) ax_FR.refl
  intro n
  induction n with
  | zero =>
    intro w I1 hw h1 h2
    apply vc_X1_clear_2
    simp (disch := omega) only [Bool.not_eq_false, Bool.not_eq_true, decide_eq_true_eq, decide_eq_false_iff_not, Bool.not_eq_true', Bool.not_eq_false', ax_lle, ax_llt, ax_lel, ax_ltl, ax_leq, ax_eql, ax_clampl, ax_inb_iff, nI_clamp, nI_1, nI_leI, nI_ltI, nI_eq, ax_b0, ax_b1, ax_bitb, ax_ui_eq, ax_ui_ne, true_and, and_true]
    refine ⟨fun _ => ?_, fun h => by omega⟩
    refine cl_fill (by omega) (fun I2 g2 f2 => ?_)
    refine cl_fill (by omega) (fun I3 g3 f3 => ?_)
    refine cl_fill (by omega) (fun I4 g4 f4 => ?_)
    refine cl_fill (by omega) (fun I5 g5 f5 => ?_)
    refine hK _ ?_ ?_
    · refine ⟨⟨fun x hx b hb => ?_, fun b hb => ?_, fun b hb => ?_, ?_, trivial⟩, fun b hb => ?_, fun b hb => ?_, ?_, trivial⟩
      · rw [ax_ui_ne (by omega), ax_ui_ne (by omega), f5 _ (by omega), f4 _ (by omega), f3 _ (by omega), f2 _ (by omega)]; exact h1 x (by omega) b hb
      · rw [ax_ui_ne (by omega), ax_ui_ne (by omega), f5 _ (by omega), f4 _ (by omega), f3 _ (by omega)]; exact g2 b hb
      · rw [ax_ui_ne (by omega), ax_ui_ne (by omega), f5 _ (by omega), f4 _ (by omega)]; exact g3 b hb
      · rw [ax_ui_ne (by omega), ax_ui_eq]; rfl
      · rw [ax_ui_ne (by omega), ax_ui_ne (by omega), f5 _ (by omega)]; exact g4 b hb
      · rw [ax_ui_ne (by omega), ax_ui_ne (by omega)]; exact g5 b hb
      · rw [ax_ui_eq]; rfl
    · exact ((((h2.trans (f2.wide (by omega) (by omega))).trans (f3.wide (by omega) (by omega))).trans (f4.wide (by omega) (by omega))).trans (f5.wide (by omega) (by omega))).ui (by omega) (by omega) |>.ui (by omega) (by omega)
  | succ n ih =>
    intro w I1 hw h1 h2
    apply vc_X1_clear_2
    simp (disch := omega) only [Bool.not_eq_false, Bool.not_eq_true, decide_eq_true_eq, decide_eq_false_iff_not, Bool.not_eq_true', Bool.not_eq_false', ax_lle, ax_llt, ax_lel, ax_ltl, ax_leq, ax_eql, ax_clampl, ax_inb_iff, nI_clamp, nI_1, nI_leI, nI_ltI, nI_eq, ax_b0, ax_b1, ax_bitb, ax_ui_eq, ax_ui_ne, true_and, and_true]
    refine ⟨fun h => by omega, fun _ => ⟨by omega, ?_⟩⟩
    refine cl_fill (by omega) (fun I2 g2 f2 => ?_)
    refine ih _ _ (by omega) ?_ (h2.trans (f2.wide (by omega) (by omega)))
    intro x hx b hb
    by_cases q : x = w
    · subst q; exact g2 b hb
    · rw [f2 _ (by omega)]; exact h1 x (by omega) b hb
/-- SAID truly -/
theorem cl_speak {d x w N T : Nat} {kd : Nat → Nat} {tl un : Nat → Int32} {W : Nat → Nat → Nat} {es : sw_E} {I : ax_I} {L : ax_J} {K : Int32 → ax_I → ax_J → Prop} (hs : sw_ST I) (hT : sw_TP I 6 N T kd tl un) (hg : sw_TG N T kd tl un) (hD : sw_DF I 10 kd W es) (hE : sw_EI N T es) (hl : es.length < 40) (hx : x < N) (hw : w < T) (hK : ∀ I', sw_DF I' 10 kd W ((x, w, sw_hr N kd tl x) :: es) → ax_FR 10 24 I I' → K (ax_b (decide (sw_out kd (sw_rp kd es) x w = 2))) I' L) : ax_CI (d + 4) 139 [ax_vr 8 0 3, ax_vi (nI x), ax_vi (nI w)] I L K := by
  have hN := hg.1
  have hT6 := hg.2.1
  have hG := hE.GI hN hT6 (kd := kd)
  apply vc_X8_speak
  refine cl_wish hs hT hg hD.1 hG hx (by omega) ?_
  have hD1 := hD.1.wish (kd := kd) (x := x) (w := w) (by omega)
  have hf1 : ax_FR 10 24 I (sw_wI I 10 kd (sw_rp kd es) x w) := sw_wI_FR
  obtain ⟨q1, q2, q3, q4, q5⟩ := hD
  have le := sw_out_le (kd := kd) (G := sw_rp kd es) (x := x) (w := w)
  have hGl := (hG.wish hN hT6 (kd := kd) hx hw).len
  have rc : ∀ (I1 : ax_I) (K1 : ax_I → ax_J → Prop), I1 10 9 = nI es.length → (K1 (ax_ui (ax_ui (ax_ui I1 23 es.length (nI (10 * x + w))) 24 es.length (nI (sw_out kd (sw_rp kd es) x w))) 10 9 (nI (es.length + 1))) L) → ax_CV (d + 3) 11 [ax_vr 1 0 10, ax_vi (nI x), ax_vi (nI w), ax_vi (nI (sw_out kd (sw_rp kd es) x w))] I1 L K1 := by
    intro I1 K1 h1 h2
    apply vc_X1_record
    simp (disch := omega) only [Bool.not_eq_false, Bool.not_eq_true, decide_eq_true_eq, decide_eq_false_iff_not, Bool.not_eq_true', Bool.not_eq_false', ax_lle, ax_llt, ax_lel, ax_ltl, ax_leq, ax_eql, ax_clampl, ax_inb_iff, nI_clamp, nI_1, nI_leI, nI_ltI, nI_eq, ax_b0, ax_b1, ax_bitb, ax_ui_eq, ax_ui_ne, true_and, and_true, h1]
    refine ⟨fun q => by omega, fun _ => ⟨by omega, by omega, ?_⟩⟩
    rw [show (10 : Int32) * nI x = nI (10 * x) from ax_nI_mul 10 x, nI_add]
    exact h2
  have fin : ∀ (I1 : ax_I), ax_FR 10 24 I I1 → sw_DA I1 10 W (sw_ws kd (sw_rp kd es) x w) → (∀ b, b < 6 → I1 20 b = sw_by kd ((x, w, sw_hr N kd tl x) :: es) b) → (∀ b, b < 6 → I1 21 b = sw_he kd ((x, w, sw_hr N kd tl x) :: es) b) → I1 23 = I 23 → I1 24 = I 24 → sw_DF (ax_ui (ax_ui (ax_ui I1 23 es.length (nI (10 * x + w))) 24 es.length (nI (sw_out kd (sw_rp kd es) x w))) 10 9 (nI (es.length + 1))) 10 kd W ((x, w, sw_hr N kd tl x) :: es) ∧ ax_FR 10 24 I (ax_ui (ax_ui (ax_ui I1 23 es.length (nI (10 * x + w))) 24 es.length (nI (sw_out kd (sw_rp kd es) x w))) 10 9 (nI (es.length + 1))) := by
    intro I1 f1 d1 g1 g2 e1 e2
    refine ⟨⟨d1.same hGl ?_ ?_ ?_ ?_ ?_, fun b hb => ?_, fun b hb => ?_, ax_ui_eq, ?_, ?_, ?_⟩, ((f1.ui (by omega) (by omega)).ui (by omega) (by omega)).ui (by omega) (by omega)⟩
    · intro a ha b hb; rw [ax_ui_ne (by omega), ax_ui_ne (by omega), ax_ui_ne (by omega)]
    · intro b hb; rw [ax_ui_ne (by omega), ax_ui_ne (by omega), ax_ui_ne (by omega)]
    · intro b hb; rw [ax_ui_ne (by omega), ax_ui_ne (by omega), ax_ui_ne (by omega)]
    · rw [ax_ui_ne (by omega), ax_ui_ne (by omega), ax_ui_ne (by omega)]
    · intro b hb; rw [ax_ui_ne (by omega), ax_ui_ne (by omega), ax_ui_ne (by omega)]
    · rw [ax_ui_ne (by omega), ax_ui_ne (by omega), ax_ui_ne (by omega)]; exact g1 b hb
    · rw [ax_ui_ne (by omega), ax_ui_ne (by omega), ax_ui_ne (by omega)]; exact g2 b hb
    · rw [ax_ui_ne (by omega), ax_ui_ne (by omega), ax_ui_eq]
    · rw [ax_ui_ne (by omega), ax_ui_eq]
    · refine sw_sy_up (k := es.length) ?_ ?_ es (Nat.le_refl _) q5
      · intro b hb; rw [ax_ui_ne (by omega), ax_ui_ne (by omega), ax_ui_ne (by omega), e1]
      · intro b hb; rw [ax_ui_ne (by omega), ax_ui_ne (by omega), ax_ui_ne (by omega), e2]
  simp (disch := omega) only [Bool.not_eq_false, Bool.not_eq_true, decide_eq_true_eq, decide_eq_false_iff_not, Bool.not_eq_true', Bool.not_eq_false', ax_lle, ax_llt, ax_lel, ax_ltl, ax_leq, ax_eql, ax_clampl, ax_inb_iff, nI_clamp, nI_1, nI_leI, nI_ltI, nI_eq, ax_b0, ax_b1, ax_bitb, ax_ui_eq, ax_ui_ne, true_and, and_true]
  refine ⟨fun h => ?_, fun h => ?_⟩
  · have h02 : sw_out kd (sw_rp kd es) x w = 0 ∨ sw_out kd (sw_rp kd es) x w = 2 := by omega
    rcases h02 with z | z
    · rw [sw_wI_0 z] at hD1 hf1 ⊢
      refine rc _ _ q4 ?_
      have F := fin I hf1 hD1 (by
        intro b hb
        unfold sw_by
        rw [if_neg (show ¬ sw_out kd (sw_rp kd es) x w = 2 by omega)]; exact q2 b hb) (by
        intro b hb
        unfold sw_he
        rw [if_neg h]; exact q3 b hb) rfl rfl
      have hK := hK _ F.1 F.2
      refine ⟨fun z2 => ⟨by decide, ?_⟩, fun z2 => by omega⟩
      rw [decide_eq_false z2] at hK; exact hK
    · rw [sw_wI_2 z] at hD1 hf1 ⊢
      refine rc _ _ ?_ ?_
      · rw [ax_ui_ne (by omega), ax_ui_ne (by omega), ax_ui_ne (by omega), ax_ui_ne (by omega)]; exact q4
      have F := fin _ hf1 hD1 (by
        intro b hb
        unfold sw_by
        rw [if_pos z, ax_ui_ne (by omega), ax_ui_ne (by omega)]
        by_cases y : b = w
        · subst y; rw [ax_ui_eq]; exact sw_up_eq.symm
        · rw [ax_ui_ne (by omega), ax_ui_ne (by omega), sw_up_ne y]; exact q2 b hb) (by
        intro b hb
        unfold sw_he
        rw [if_neg h, ax_ui_ne (by omega), ax_ui_ne (by omega), ax_ui_ne (by omega), ax_ui_ne (by omega)]; exact q3 b hb) (by rw [ax_ui_row (by omega), ax_ui_row (by omega), ax_ui_row (by omega), ax_ui_row (by omega)]) (by rw [ax_ui_row (by omega), ax_ui_row (by omega), ax_ui_row (by omega), ax_ui_row (by omega)])
      have hK := hK _ F.1 F.2
      refine ⟨fun z2 => by omega, fun z2 => ⟨by decide, ?_⟩⟩
      rw [decide_eq_true z2] at hK; exact hK
  · have e0 : sw_wI I 10 kd (sw_rp kd es) x w = ax_ui I 18 w (nI x) := sw_wI_1 h
    rw [e0] at hD1 hf1 ⊢
    have hT1 : sw_TP (ax_ui I 18 w (nI x)) 6 N T kd tl un := hT.frame (fun a _ _ => ax_ui_row (by omega))
    have hs1 : sw_ST (ax_ui I 18 w (nI x)) := hs.frame (ax_ui_row (by omega)) (ax_ui_row (by omega))
    refine cl_hearersOf hs1 hT1 hg hx ?_
    refine ⟨by omega, ?_⟩
    refine rc _ _ ?_ ?_
    · rw [ax_ui_ne (by omega), ax_ui_ne (by omega)]; exact q4
    have F := fin (ax_ui (ax_ui I 18 w (nI x)) 21 w (sw_hr N kd tl x)) (hf1.ui (by omega) (by omega)) (hD1.same hGl (fun a ha b hb => ax_ui_ne (by omega)) (fun b hb => ax_ui_ne (by omega)) (fun b hb => ax_ui_ne (by omega)) (ax_ui_ne (by omega)) (fun b hb => ax_ui_ne (by omega))) (by
      intro b hb
      rw [ax_ui_ne (by omega), ax_ui_ne (by omega)]
      unfold sw_by
      rw [if_neg (show ¬ sw_out kd (sw_rp kd es) x w = 2 by omega)]; exact q2 b hb) (by
      intro b hb
      unfold sw_he
      rw [if_pos h]
      by_cases z : b = w
      · subst z; rw [ax_ui_eq]; exact sw_up_eq.symm
      · rw [ax_ui_ne (by omega), ax_ui_ne (by omega), sw_up_ne z]; exact q3 b hb) (by rw [ax_ui_row (by omega), ax_ui_row (by omega)]) (by rw [ax_ui_row (by omega), ax_ui_row (by omega)])
    have hK := hK _ F.1 F.2
    refine ⟨fun z => ⟨by decide, ?_⟩, fun z => by omega⟩
    rw [decide_eq_false z] at hK; exact hK
