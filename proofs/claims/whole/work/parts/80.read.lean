def sw_tk (M : Nat) (tl : Nat → Int32) : Nat → Int32 := fun x => tl x &&& ax_ms 6 (fun y => decide (y < M) && !decide (y = x))
def sw_s0 : sw_PS := (0, 0, 0, 0, 0, fun _ => 0, fun _ => 0, fun _ _ => 0, fun _ => 0)
theorem cl_read {d o n : Nat} {f : Nat → Int32} {I : ax_I} {L : ax_J} {K : Int32 → ax_I → ax_J → Prop} (hs : sw_ST I) (ho : sw_ol o) (hn : n ≤ 80) (hsz : I o 1 = nI n) (hf : ∀ i, i < n → I (o + 1) i = f i)
    (h0 : ∀ I' e, sw_R n f sw_s0 = .inl e → e ≤ n → ax_FR 27 46 I I' → K (nI e) I' L)
    (h1 : ∀ I' p Th M Wn Un kd tl W un, sw_R n f sw_s0 = .inr (p, Th, M, Wn, Un, kd, tl, W, un) → 1 ≤ Th → Th ≤ 6 → 1 ≤ M → M ≤ 6 → (∀ x, x < M → kd x < 6) → sw_W9 Th W → sw_U6 Th un → sw_TP I' 28 M Th kd (sw_tk M tl) un → sw_DF I' 32 kd W [] → ax_FR 27 46 I I' → K (-9) I' L) : ax_CI (d + 6) 65 [ax_vr 6 0 27, ax_vr 4 80 o] I L K := by
  have hl := ho.le
  apply vc_X6_read
  refine ⟨Nat.ble_eq_true_of_le (by omega), ?_⟩
  rw [ax_ui_ne (by omega), hsz]
  refine cl_tclear (fun I1 a1 a2 a3 a4 a5 f1 => ?_)
  refine cl_clear (kd := fun _ => 0) (fun I2 d2 f2 => ?_)
  have fI : ax_FR 27 46 I I2 := (((((ax_FR.refl).ui (by omega) (by omega)).ui (by omega) (by omega)).ui (by omega) (by omega)).trans (f1.wide (by omega) (by omega))).trans (f2.wide (by omega) (by omega))
  have c2 : sw_CR I2 o n f 0 0 0 (fun _ => 0) (fun _ => 0) (fun _ _ => 0) (fun _ => 0) := by
    refine ⟨hs.frame (fI 1 (by omega)) (fI 2 (by omega)), ?_, ?_, ?_, fun i hi => ?_, ?_, ?_, fun x hx => by omega, fun x hx => by omega, fun w hw => ?_, d2⟩
    · rw [f2 _ (by omega), f1 _ (by omega), ax_ui_ne (by omega), ax_ui_ne (by omega), ax_ui_eq]
    · rw [f2 _ (by omega), f1 _ (by omega), ax_ui_ne (by omega), ax_ui_eq]
    · rw [f2 _ (by omega), f1 _ (by omega), ax_ui_eq]; rfl
    · rw [fI _ (by omega)]; exact hf i hi
    · rw [f2 _ (by omega)]; exact a1
    · rw [f2 _ (by omega)]; exact a2
    · rw [f2 _ (by omega)]; exact a5 w hw
  refine cl_readThings c2 ho hn (fun I3 e r3 le3 e3 f3 => ?_) (fun I3 p3 Th r3 p3n nb3 hTh hTh6 c3 f3 => ?_)
  · refine ax_ct rfl ?_
    rw [e3]
    exact h0 I3 e r3 le3 (fI.trans (f3.wide (by omega) (by omega)))
  refine ax_cf (by decide) ?_
  have fI3 := fI.trans (f3.wide (by omega) (by omega))
  refine cl_readPeople c3 ho hn p3n nb3 hTh (fun I4 e r4 le4 e4 f4 => ?_) (fun I4 p4 M kd tl r4 p4n nb4 hM hM6 hkd hk4 c4 f4 => ?_)
  · refine ax_ct rfl ?_
    rw [e4]
    exact h0 I4 e (r3.trans r4) le4 (fI3.trans (f4.wide (by omega) (by omega)))
  refine ax_cf (by decide) ?_
  have fI4 := fI3.trans (f4.wide (by omega) (by omega))
  refine cl_readWants c4 ho hn p4n nb4 hTh hTh6 hM hM6 ⟨fun _ _ => Nat.zero_le 9, fun _ _ _ => rfl⟩ hk4 (fun I5 e r5 le5 e5 f5 => ?_) (fun I5 p5 Wn W r5 p5n nb5 hW9 h119 hk5 c5 f5 => ?_)
  · refine ax_ct rfl ?_
    rw [e5]
    exact h0 I5 e ((r3.trans r4).trans r5) le5 (fI4.trans f5)
  refine ax_cf (by decide) ?_
  have fI5 := fI4.trans f5
  refine cl_readUndoings c5 ho hn p5n nb5 hTh hTh6 hM hM6 ⟨fun w _ i _ z => absurd ((ax_bt_0 i).symm.trans z) (by decide), fun _ _ _ => rfl⟩ h119 hk5 (fun I6 e r6 le6 e6 f6 => ?_) (fun I6 p6 Un un r6 p6n hU c6 f6 => ?_)
  · refine ax_nf rfl ?_
    rw [e6]
    exact h0 I6 e (((r3.trans r4).trans r5).trans r6) le6 (fI5.trans f6)
  refine ax_nt (by decide) ?_
  have fI6 := fI5.trans f6
  have hr := ((r3.trans r4).trans r5).trans r6
  obtain ⟨k1, k2, k3, k4, k5, k6, k7, k8, k9, k10, k11⟩ := c6
  have t6 : sw_TP I6 28 M Th kd (sw_tk M tl) un := ⟨k6, k7, k8, fun x hx i hi hix => by
    show ax_bt (I6 30 x) i = _
    rw [k9 x hx]
    unfold sw_tk
    rw [ax_bt_and, ax_bt_ms (by omega)]
    simp [hi, hix, show i < 6 by omega], k10⟩
  rw [k3, k4]
  by_cases q : p6 < n
  · refine ax_ct (nI_lt (by omega) (by omega)) (h0 I6 p6 ?_ p6n fI6)
    rw [if_neg (by omega)] at hr; exact hr
  · refine ax_cf (nI_nlt (by omega) (by omega)) (h1 I6 p6 Th M Wn Un kd tl W un ?_ hTh hTh6 hM hM6 hkd hW9 hU t6 k11 fI6)
    rw [if_pos (by omega)] at hr; exact hr
