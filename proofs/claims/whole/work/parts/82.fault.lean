theorem sw_RF.same {I I' : ax_I} (h : sw_RF I I') : sw_SM I I' :=
  ⟨fun a q => h.1 a (by omega) (by omega), fun b _ => by rw [h.1 _ (by omega) (by omega)], by rw [h.1 _ (by omega) (by omega)], by rw [h.1 _ (by omega) (by omega)], h.2 _ (by omega), h.2 _ (by omega), h.2 _ (by omega), h.2 _ (by omega), h.2 _ (by omega)⟩
theorem sw_RR.rg {I I' : ax_I} {n r : Nat} (hf : ax_FR 6 46 I I') (l1 : I 189 r = nI n) (l3 : ∀ i, i < n → I 190 (80 * r + i) = I (5 + (126 + 2 * r) + 1) i) : sw_RG I' r n (fun i => I (5 + (126 + 2 * r) + 1) i) :=
  ⟨by rw [hf _ (by omega)]; exact l1, fun i hi => by rw [hf _ (by omega)]; exact l3 i hi⟩
theorem op_fault {I : ax_I} {L : ax_J} (h : sw_RR I L) (a : Int32) : sw_OP 98 180 [ax_vi a] I L := by
  intro d
  apply vc_X8_fault
  rcases sw_dich (n := 4) (by omega) a with ⟨r, hr, rfl⟩ | ha
  case inr =>
    refine cl_isText_no ha ?_
    refine ax_nf rfl ?_
    apply vc_X9_fault
    refine rf_isText_no ha ?_
    exact ax_nf rfl ⟨rfl, h⟩
  refine cl_isText_k hr ?_
  refine ax_nt (by decide) ⟨ax_inb_nI (by omega) (by omega), ?_⟩
  rw [nI_clamp (by omega)]
  obtain ⟨l1, l2⟩ := h.LS.2 r hr
  rcases l2 with l2 | ⟨n, hn, l2, l3⟩
  · refine cl_missing l2 ?_
    refine ax_cf (by decide) ?_
    refine cl_find (f := 1) (by omega) ?_
    apply vc_X9_fault
    refine rf_isText_k hr ?_
    have e : sw_fC I 1 189 r = -1 := by unfold sw_fC; rw [ax_ui_ne (by omega), ax_ui_ne (by omega), l1, l2]
    refine ax_nt (by decide) ⟨ax_inb_nI (by omega) (by omega), ?_⟩
    rw [nI_clamp (by omega), e]
    refine ax_cf (by decide) ?_
    exact rf_meets (f := 1) (by omega) ⟨rfl, h.find (by omega)⟩
  · refine cl_there l2 (by omega) ?_
    refine ax_ct rfl ⟨ax_inb_nI (by omega) (by omega), ?_⟩
    have hst : sw_ST I := by obtain ⟨N, T, kd, tl, un, W, es, h1, _⟩ := h; exact h1.2.2.2.1
    have fin : ∀ I1, ax_FR 27 46 I I1 → ∀ K : Int32 → ax_I → ax_J → Prop, (∀ I' e, sw_R n (fun i => I (5 + (126 + 2 * r) + 1) i) sw_s0 = .inl e → sw_RR I' L → K (nI e) I' L) → (∀ I' st, sw_R n (fun i => I (5 + (126 + 2 * r) + 1) i) sw_s0 = .inr st → sw_RR I' L → K (-9) I' L) → ax_CI (d + 30) 180 [ax_vr 9 0 184, ax_vi (nI r)] I1 L K := by
      intro I1 f1 K k0 k1
      apply vc_X9_fault
      refine rf_isText_k hr ?_
      refine ax_nt (by decide) ⟨ax_inb_nI (by omega) (by omega), ?_⟩
      rw [nI_clamp (by omega), f1 189 (by omega), l1, l2]
      refine ax_ct (nI_pos' (by omega)) ?_
      refine rf_faultOf (sw_RR.rg (f1.wide (by omega) (by omega)) (l1.trans l2) l3) hr hn (fun I2 e r2 f2 => ?_) (fun I2 p Th M Wn Un kd tl W un r2 R2 f2 => ?_)
      · exact k0 I2 e r2 ((h.same (sw_SM.of f1 (by omega) (by omega))).same f2.same)
      · exact k1 I2 _ r2 ((h.same (sw_SM.of f1 (by omega) (by omega))).same f2.same)
    refine cl_read hst ⟨r, hr, rfl⟩ hn l2 (fun i hi => rfl) (fun I1 e r1 le f1 => ?_) (fun I1 p Th M Wn Un kd tl W un r1 a1 a2 a3 a4 a5 a6 a7 a8 a9 f1 => ?_)
    · refine fin I1 f1 _ (fun I' e' r' R' => ⟨?_, R'⟩) (fun I' st r' R' => ?_)
      · rw [r1] at r'; cases r'; rfl
      · rw [r1] at r'; cases r'
    · refine fin I1 f1 _ (fun I' e' r' R' => ?_) (fun I' st r' R' => ⟨rfl, R'⟩)
      rw [r1] at r'; cases r'
