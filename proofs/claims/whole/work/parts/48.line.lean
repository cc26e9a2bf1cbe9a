/-! needs: 21a 21b 21c 21d 21e 30 31 32 33 34 35 41 42 43 44 45 46 47 -/
theorem cl_makeAnew {d o n m : Nat} {v : Int32} {I : ax_I} {L : ax_J} {K : ax_I → ax_J → Prop} (hm : m ≤ n) (hn : n < 1000) (hK : ∀ I', I' o 1 = nI m → (∀ i, i < m → I' (o + 1) i = v) → ax_FR o (o + 1) I I' → K I' L) : ax_CV (d + 1) 54 [ax_vr 4 n o, ax_vi (nI m), ax_vi v] I L K := by
  apply vc_X4_makeAnew
  have e1 : (if nI n < nI m then nI n else nI m) = nI m := if_neg (nI_nlt (by omega) (by omega))
  rw [e1]
  have e2 : (if 0 < nI m then nI m else 0) = nI m := by
    by_cases h : m = 0
    · subst h; rfl
    · rw [if_pos]; exact (nI_ltI (a := 0) (by omega) (by omega)).mpr (by omega)
  rw [e2]
  suffices ∀ (j i : Nat) (I1 : ax_I) (z : Option ax_V), i + j = m → I1 o 1 = nI m → (∀ e, e < i → I1 (o + 1) e = v) → ax_FR o (o + 1) I I1 → ax_AK d 54 (19, [some (ax_vr 4 n o), z, some (ax_vi v), some (ax_vi (nI i))], [], ax_mm I1 L) (ax_kv K) from this m 0 _ _ (by omega) ax_ui_eq (fun e he => by omega) (ax_FR.refl.ui (by omega) (by omega))
  intro j
  induction j with
  | zero =>
    intro i I1 z hi h1 h2 h3
    apply vc_X4_makeAnew_19
    rw [h1]
    simp (disch := omega) only [Bool.not_eq_false, Bool.not_eq_true, decide_eq_true_eq, decide_eq_false_iff_not, Bool.not_eq_true', Bool.not_eq_false', ax_lle, ax_llt, ax_lel, ax_ltl, ax_leq, ax_eql, ax_clampl, ax_inb_iff, nI_clamp, nI_1, nI_leI, nI_ltI, nI_eq, ax_b0, ax_b1, ax_bitb, ax_ui_eq, ax_ui_ne, true_and, and_true]
    exact ⟨fun _ => hK I1 h1 (fun e he => h2 e (by omega)) h3, fun h => by omega⟩
  | succ j ih =>
    intro i I1 z hi h1 h2 h3
    apply vc_X4_makeAnew_19
    rw [h1]
    simp (disch := omega) only [Bool.not_eq_false, Bool.not_eq_true, decide_eq_true_eq, decide_eq_false_iff_not, Bool.not_eq_true', Bool.not_eq_false', ax_lle, ax_llt, ax_lel, ax_ltl, ax_leq, ax_eql, ax_clampl, ax_inb_iff, nI_clamp, nI_1, nI_leI, nI_ltI, nI_eq, ax_b0, ax_b1, ax_bitb, ax_ui_eq, ax_ui_ne, true_and, and_true]
    refine ⟨fun h => by omega, fun _ => ⟨by omega, ih _ _ _ (by omega) ?_ ?_ (h3.ui (by omega) (by omega))⟩⟩
    · rw [ax_ui_ne (by omega)]; exact h1
    · intro e he
      by_cases q : e = i
      · subst q; exact ax_ui_eq
      · rw [ax_ui_ne (by omega)]; exact h2 e (by omega)
theorem cl_makeOf {d o n n0 o0 m : Nat} {I : ax_I} {L : ax_J} {K : ax_I → ax_J → Prop} (hm : m ≤ n) (hn : n < 1000) (hm0 : m ≤ n0) (hn0 : n0 < 1000) (ho : ¬ o0 = o ∧ ¬ o0 = o + 1) (hK : ∀ I', I' o 1 = nI m → (∀ i, i < m → I' (o + 1) i = I o0 i) → ax_FR o (o + 1) I I' → K I' L) : ax_CV (d + 2) 55 [ax_vr 4 n o, ax_vr 10 n0 o0, ax_vi (nI m)] I L K := by
  apply vc_X4_makeOf
  have e1 : (if nI n0 < nI m then nI n0 else nI m) = nI m := if_neg (nI_nlt (by omega) (by omega))
  rw [e1]
  refine cl_makeAnew hm hn (fun I1 h1 h2 h3 => ?_)
  rw [h1]
  simp (disch := omega) only [Bool.not_eq_false, Bool.not_eq_true, decide_eq_true_eq, decide_eq_false_iff_not, Bool.not_eq_true', Bool.not_eq_false', ax_lle, ax_llt, ax_lel, ax_ltl, ax_leq, ax_eql, ax_clampl, ax_inb_iff, nI_clamp, nI_1, nI_leI, nI_ltI, nI_eq, ax_b0, ax_b1, ax_bitb, ax_ui_eq, ax_ui_ne, true_and, and_true]
  refine ⟨?_, hK _ ?_ ?_ (h3.uc (by omega) (by omega))⟩
  · simp only [Bool.and_eq_true, decide_eq_true_eq, Nat.ble_eq]
    exact ⟨⟨⟨⟨by decide, by decide⟩, by omega⟩, by omega⟩, by omega⟩
  · rw [ax_uc_ne (by omega)]; exact h1
  · intro i hi
    rw [ax_uc_z hi, h3 o0 (by omega)]
def sw_who (N x : Nat) : Nat → Nat
  | 0 => x
  | i + 1 => sw_nx N (sw_who N x i)
theorem sw_who_lt {N x : Nat} (hx : x < N) : ∀ i, sw_who N x i < N
  | 0 => hx
  | i + 1 => sw_nx_lt (sw_who_lt hx i)
theorem sw_who_s {N x : Nat} : ∀ i, sw_who N (sw_nx N x) i = sw_who N x (i + 1)
  | 0 => rfl
  | i + 1 => by
    show sw_nx N (sw_who N (sw_nx N x) i) = sw_nx N (sw_who N x (i + 1))
    rw [sw_who_s i]
theorem sw_nth_ok {n : Nat} {r : sw_L} (hr : sw_ok n r) {i : Nat} : i < r.2.length → sw_nth r.2 i < 7 ∨ sw_nth r.2 i = 9 := by
  have : ∀ (ws : List Nat) (i : Nat), (∀ w, w ∈ ws → w < 7 ∨ w = 9) → i < ws.length → sw_nth ws i < 7 ∨ sw_nth ws i = 9 := by
    intro ws
    induction ws with
    | nil => intro i h hi; cases hi
    | cons w ws ih =>
      intro i h hi
      match i with
      | 0 => exact h w List.mem_cons_self
      | i + 1 => exact ih i (fun u q => h u (List.mem_cons_of_mem _ q)) (by have : i + 1 < ws.length + 1 := hi; omega)
  exact this r.2 i hr.2.1
theorem cl_playOut {d x n o2 N T : Nat} {kd : Nat → Nat} {tl un : Nat → Int32} {W : Nat → Nat → Nat} {G : sw_G} {I : ax_I} {L : ax_J} {K : Int32 → ax_I → ax_J → Prop} (hg : sw_TG N T kd tl un) (hW : ∀ x w, W x w ≤ 9) (hn : n ≤ 5) (hC : sw_CA I N T kd tl un W G) (hG : sw_GI N T G) (hx : x < N) (ho : 68 ≤ o2) (hK : ∀ I', I' o2 1 = nI n → (∀ i, i < n → I' (o2 + 1) i = nI (10 * sw_who N x i + sw_nth (sw_pl N T kd W un n G x).2 i)) → (∀ a, a < 53 ∨ 67 < a → ¬ a = o2 → ¬ a = o2 + 1 → I' a = I a) → K (nI ((sw_pl N T kd W un n G x).1 x)) I' L) : ax_CI (d + n + 5) 29 [ax_vr 2 0 48, ax_vi (nI x), ax_vi (nI n), ax_vr 4 40 o2] I L K := by
  have hT := hg.2.1
  have hN := hg.1
  obtain ⟨hok, hlen⟩ := sw_pl_ok (N := N) (T := T) (kd := kd) (un := un) hW hT n G x
  apply vc_X2_playOut
  refine cl_thinkAhead hg hW n hn hC hG hx (fun I1 c1 f1 => ?_)
  refine cl_makeAnew (by omega) (by omega) (fun I2 m2 v2 f2 => ?_)
  suffices ∀ (j i : Nat) (I1 : ax_I) (z2 z5 z8 : Option ax_V), i + j = n → I1 o2 1 = nI n → (∀ e, e < i → I1 (o2 + 1) e = nI (10 * sw_who N x e + sw_nth (sw_pl N T kd W un n G x).2 e)) → sw_TP I1 49 N T kd tl un → (∀ a, a < 53 ∨ 67 < a → ¬ a = o2 → ¬ a = o2 + 1 → I1 a = I a) → ax_AK ((d + n + 4)) 29 (20, [some (ax_vr 2 0 48), some (ax_vi (nI x)), z2, some (ax_vr 4 40 o2), some (ax_vl (lN (sw_en (sw_pl N T kd W un n G x)))), z5, some (ax_vi (nI (sw_who N x i))), some (ax_vi (nI i)), z8], [], ax_mm I1 L) (ax_ki K) from
    this n 0 I2 _ _ _ (by omega) m2 (fun e he => by omega) (c1.2.1.frame (fun a _ _ => f2 a (by omega))) (fun a h1 h2 h3 => (f2 a (by omega)).trans (f1 a h1))
  intro j
  induction j with
  | zero =>
    intro i I1 z2 z5 z8 hi h1 h2 h3 h4
    apply vc_X2_playOut_20
    rw [h1]
    simp (disch := omega) only [Bool.not_eq_false, Bool.not_eq_true, decide_eq_true_eq, decide_eq_false_iff_not, Bool.not_eq_true', Bool.not_eq_false', ax_lle, ax_llt, ax_lel, ax_ltl, ax_leq, ax_eql, ax_clampl, ax_inb_iff, nI_clamp, nI_1, nI_leI, nI_ltI, nI_eq, ax_b0, ax_b1, ax_bitb, ax_ui_eq, ax_ui_ne, true_and, and_true]
    refine ⟨fun _ => ?_, fun h => by omega⟩
    exact cl_gainIn hok hn (by omega) (hK I1 h1 (fun e he => h2 e (by omega)) h4)
  | succ j ih =>
    intro i I1 z2 z5 z8 hi h1 h2 h3 h4
    apply vc_X2_playOut_20
    have hwi := sw_who_lt hx i
    have hnt := sw_nth_ok hok (i := i) (by omega)
    have ew := sw_word_i (g := (sw_pl N T kd W un n G x).1) (ws := (sw_pl N T kd W un n G x).2) (i := i) (fun x _ => by have := hok.1 x; omega) (fun w q => by have := hok.2.1 w q; omega) (by omega) (by omega)
    rw [show ((sw_pl N T kd W un n G x).1, (sw_pl N T kd W un n G x).2) = sw_pl N T kd W un n G x from rfl] at ew
    rw [h1, ew]
    have hc : sw_wc (sw_nth (sw_pl N T kd W un n G x).2 i) < 8 := by unfold sw_wc; split <;> omega
    simp (disch := omega) only [Bool.not_eq_false, Bool.not_eq_true, decide_eq_true_eq, decide_eq_false_iff_not, Bool.not_eq_true', Bool.not_eq_false', ax_lle, ax_llt, ax_lel, ax_ltl, ax_leq, ax_eql, ax_clampl, ax_inb_iff, nI_clamp, nI_1, nI_leI, nI_ltI, nI_eq, ax_b0, ax_b1, ax_bitb, ax_ui_eq, ax_ui_ne, true_and, and_true, ax_lmul, nI_add, ax_ladd]
    have step : ∀ (v : Nat) (z8 : Option ax_V), v = sw_nth (sw_pl N T kd W un n G x).2 i → ax_CI (d + n + 4) 83 [ax_vr 7 0 49, ax_vi (nI (sw_who N x i))] (ax_ui I1 (o2 + 1) i (nI (10 * sw_who N x i + v))) L (fun x6 I4 L5 => ax_AK (d + n + 4) 29 (20, [some (ax_vr 2 0 48), some (ax_vi (nI x)), none, some (ax_vr 4 40 o2), some (ax_vl (lN (sw_en (sw_pl N T kd W un n G x)))), none, some (ax_vi x6), some (ax_vi (nI (i + 1))), z8], [], ax_mm I4 L5) (ax_ki K)) := by
      intro v z8 hv
      have h3' : sw_TP (ax_ui I1 (o2 + 1) i (nI (10 * sw_who N x i + v))) 49 N T kd tl un := h3.frame (fun a _ _ => ax_ui_row (by omega))
      refine cl_behind h3'.1 hN (by omega) ?_
      refine ih (i + 1) _ _ _ _ (by omega) ?_ ?_ h3' ?_
      · rw [ax_ui_ne (by omega)]; exact h1
      · intro e he
        by_cases q : e = i
        · subst q; rw [ax_ui_eq, hv]
        · rw [ax_ui_ne (by omega)]; exact h2 e (by omega)
      · intro a q1 q2 q3
        rw [ax_ui_row q3]; exact h4 a q1 q2 q3
    refine ⟨fun h => by omega, fun _ => ⟨fun q => ⟨by omega, step _ _ ?_⟩, fun q => ⟨by omega, step 9 _ ?_⟩⟩⟩
    · unfold sw_wc at q ⊢
      by_cases e : sw_nth (sw_pl N T kd W un n G x).2 i = 9
      · rw [if_pos e] at q; exact absurd rfl q
      · rw [if_neg e]
    · unfold sw_wc at q
      by_cases e : sw_nth (sw_pl N T kd W un n G x).2 i = 9
      · exact e.symm
      · rw [if_neg e] at q; omega
