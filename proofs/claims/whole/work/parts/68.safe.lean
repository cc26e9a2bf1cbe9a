/-! safe, price -/
def sw_so (N T : Nat) (kd : Nat → Nat) (tl : Nat → Int32) (W : Nat → Nat → Nat) (G : sw_G) (x y w : Nat) : Bool := decide (0 < W y w) && decide (G.1 w = -9) && (List.range N).all (fun z => !(sw_hp N kd tl x z && !decide (z = y) && decide (0 < W z w)))
theorem sw_all_i {N : Nat} {p : Nat → Bool} : (List.range N).all p = true ↔ ∀ z, z < N → p z = true := by
  rw [List.all_eq_true]
  exact ⟨fun h z hz => h z (List.mem_range.mpr hz), fun h z hz => h z (List.mem_range.mp hz)⟩
theorem op_safe {I : ax_I} {L : ax_J} (h : sw_RR I L) (a b : Int32) : sw_OP 117 225 [ax_vi a, ax_vi b] I L := by
  intro d
  have h0 := h
  obtain ⟨N, T, kd, tl, un, W, es, h1, h2, h3, h4⟩ := h
  have hG := h1.GI
  obtain ⟨q1, q2, q3, q4, q5, q6, q7, q8, q9, q10⟩ := h1
  have hN := q1.1
  have hT := q1.2.1
  apply vc_X8_safe
  rcases sw_dich (n := N) (by omega) a with ⟨x, hx, rfl⟩ | ha
  case inr =>
    refine cl_hasOne_no q5.1 ha ?_
    refine ⟨fun _ => ?_, (fun q => absurd q (by decide))⟩
    apply vc_X9_safe
    refine rf_isOne_no q7.1 hN ha ?_
    exact ⟨fun _ => ⟨rfl, h0⟩, (fun q => absurd q (by decide))⟩
  refine cl_hasOne_k q5.1 (by omega) hx ?_
  refine ⟨(fun q => absurd q (by decide)), fun _ => ?_⟩
  rcases sw_dich (n := N) (by omega) b with ⟨y, hy, rfl⟩ | hb
  case inr =>
    refine cl_hasOne_no q5.1 hb ?_
    refine ⟨fun _ => ?_, (fun q => absurd q (by decide))⟩
    apply vc_X9_safe
    refine rf_isOne_k q7.1 hN hx ?_
    refine ⟨(fun q => absurd q (by decide)), fun _ => ?_⟩
    refine rf_isOne_no q7.1 hN hb ?_
    exact ⟨fun _ => ⟨rfl, h0⟩, (fun q => absurd q (by decide))⟩
  refine cl_hasOne_k q5.1 (by omega) hy ?_
  refine ⟨(fun q => absurd q (by decide)), fun _ => ?_⟩
  refine ax_ifn (fun hxy => ?_) (fun hxy => ?_)
  case refine_2 =>
    apply vc_X9_safe
    refine rf_isOne_k q7.1 hN hx ?_
    refine ⟨(fun q => absurd q (by decide)), fun _ => ?_⟩
    refine rf_isOne_k q7.1 hN hy ?_
    refine ⟨(fun q => absurd q (by decide)), fun _ => ?_⟩
    exact ax_ifn (fun q => absurd hxy q) (fun _ => ⟨rfl, h0⟩)
  have q8F := q8 (by omega)
  /- the reference, from any start -/
  have hhr : ∀ z, z < 6 → ax_bt (sw_hr N kd tl x) z = sw_hp N kd tl x z := fun z hz => by
    unfold sw_hr; rw [ax_bt_ms (by omega), decide_eq_true hz, Bool.true_and]
  have loop : ∀ (S : Int32) (V : Int32), (∀ i, i < 32 → (ax_bt S i && (decide (i < T) && decide ((sw_rp kd es).1 i = -9)) && (List.range N).all (fun z => !(sw_hp N kd tl x z && !decide (z = y) && (decide (i < T) && decide (0 < W z i))))) = ax_bt V i) → ∀ z1, ax_AK ((d + 29)) 225 (51, [some (ax_vr 9 0 184), z1, some (ax_vi (nI y)), some (ax_vi (sw_hr N kd tl x)), some (ax_vi S), some (ax_vi 0)], [], ax_mm I L) (ax_ki (fun b I2 L2 => V = b ∧ sw_RR I2 L2)) := by
    intro S V hSV z1
    suffices ∀ (c z : Nat) (A : Int32) (z1 : Option ax_V), z + c = N → (∀ i, i < 32 → ax_bt A i = (ax_bt S i && (List.range z).all (fun z => !(sw_hp N kd tl x z && !decide (z = y) && (decide (i < T) && decide (0 < W z i)))))) → ax_AK ((d + 29)) 225 (51, [some (ax_vr 9 0 184), z1, some (ax_vi (nI y)), some (ax_vi (sw_hr N kd tl x)), some (ax_vi A), some (ax_vi (nI z))], [], ax_mm I L) (ax_ki (fun b I2 L2 => V = b ∧ sw_RR I2 L2)) from this N 0 S z1 (by omega) (fun i hi => by simp)
    intro c
    induction c with
    | zero =>
      intro z A z1 hz hA
      have hz : z = N := by omega
      subst hz
      apply vc_X9_safe_51
      rw [q7.1]
      simp (disch := omega) only [Bool.not_eq_false, Bool.not_eq_true, decide_eq_true_eq, decide_eq_false_iff_not, Bool.not_eq_true', Bool.not_eq_false', ax_lle, ax_llt, ax_lel, ax_ltl, ax_leq, ax_eql, ax_clampl, ax_inb_iff, nI_clamp, nI_1, nI_leI, nI_ltI, nI_eq, ax_b0, ax_b1, ax_bitb, ax_ui_eq, ax_ui_ne, true_and, and_true]
      refine ⟨fun _ => ?_, fun q => by omega⟩
      refine rf_thingsBy (a := 0) (q := (sw_rp kd es).1) q7 hT (by omega) (fun w hw => by rw [Nat.zero_add]; exact q8F.1.1 w hw) ?_
      refine ⟨?_, h0⟩
      apply ax_bt_ext
      intro i hi
      rw [ax_bt_and, ax_bt_ms (by omega), hA i hi, ← hSV i hi]
      cases ax_bt S i <;> cases decide (i < T) <;> simp [Bool.and_comm]
    | succ c ih =>
      intro z A z1 hz hA
      have hsucc : ∀ p : Nat → Bool, (List.range (z + 1)).all p = ((List.range z).all p && p z) := fun p => by rw [List.range_succ, List.all_append]; simp
      apply vc_X9_safe_51
      rw [q7.1]
      simp (disch := omega) only [Bool.not_eq_false, Bool.not_eq_true, decide_eq_true_eq, decide_eq_false_iff_not, Bool.not_eq_true', Bool.not_eq_false', ax_lle, ax_llt, ax_lel, ax_ltl, ax_leq, ax_eql, ax_clampl, ax_inb_iff, nI_clamp, nI_1, nI_leI, nI_ltI, nI_eq, ax_b0, ax_b1, ax_bitb, ax_ui_eq, ax_ui_ne, true_and, and_true]
      refine ⟨fun q => by omega, fun _ => ?_⟩
      refine rf_has (by omega) ?_
      rw [hhr z (by omega)]
      have idm : ∀ A : Int32, A &&& (-1) = A := fun A => by
        apply ax_bt_ext; intro i hi; rw [ax_bt_and, ax_bt_m1 hi, Bool.and_true]
      simp (disch := omega) only [Bool.not_eq_false, Bool.not_eq_true, decide_eq_true_eq, decide_eq_false_iff_not, Bool.not_eq_true', Bool.not_eq_false', ax_lle, ax_llt, ax_lel, ax_ltl, ax_leq, ax_eql, ax_clampl, ax_inb_iff, nI_clamp, nI_1, nI_leI, nI_ltI, nI_eq, ax_b0, ax_b1, ax_bitb, ax_ui_eq, ax_ui_ne, true_and, and_true]
      refine ⟨fun q => ?_, fun q => ⟨fun e => ?_, fun e => ?_⟩⟩
      · rw [idm]
        refine ih _ _ _ (by omega) (fun i hi => ?_)
        rw [hsucc, hA i hi, q]; simp
      · rw [idm]
        refine ih _ _ _ (by omega) (fun i hi => ?_)
        rw [hsucc, hA i hi, decide_eq_true e]; simp
      · refine rf_wantSet q7 hT q2.1 (by omega) ?_
        refine ih _ _ _ (by omega) (fun i hi => ?_)
        rw [hsucc, ax_bt_and, hA i hi, ax_bt_xor, ax_bt_m1 hi, ax_bt_ms (by omega), q, decide_eq_false e]
        simp [Bool.and_assoc]
  have ref : ∀ V : Int32, (∀ i, i < 32 → (sw_hp N kd tl x y && decide (i < T) && sw_so N T kd tl W (sw_rp kd es) x y i) = ax_bt V i) → ax_CI (d + 30) 225 [ax_vr 9 0 184, ax_vi (nI x), ax_vi (nI y)] I L (fun b I2 L2 => V = b ∧ sw_RR I2 L2) := by
    intro V hV
    apply vc_X9_safe
    refine rf_isOne_k q7.1 hN hx ?_
    refine ⟨(fun q => absurd q (by decide)), fun _ => ?_⟩
    refine rf_isOne_k q7.1 hN hy ?_
    refine ⟨(fun q => absurd q (by decide)), fun _ => ?_⟩
    refine ax_ifn (fun _ => ?_) (fun q => absurd q hxy)
    refine rf_hearsOf q7 q1 hx ?_
    refine rf_has (by omega) ?_
    rw [hhr y (by omega)]
    simp (disch := omega) only [Bool.not_eq_false, Bool.not_eq_true, decide_eq_true_eq, decide_eq_false_iff_not, Bool.not_eq_true', Bool.not_eq_false', ax_lle, ax_llt, ax_lel, ax_ltl, ax_leq, ax_eql, ax_clampl, ax_inb_iff, nI_clamp, nI_1, nI_leI, nI_ltI, nI_eq, ax_b0, ax_b1, ax_bitb, ax_ui_eq, ax_ui_ne, true_and, and_true]
    refine ⟨fun q => ?_, fun q => ?_⟩
    · refine loop 0 V (fun i hi => ?_) _
      rw [← hV i hi, q, ax_bt_0]; simp
    · refine rf_wantSet q7 hT q2.1 (by omega) ?_
      refine loop _ V (fun i hi => ?_) _
      rw [← hV i hi, q, ax_bt_ms (by omega)]
      unfold sw_so
      by_cases z : i < T
      · simp [z, Bool.and_assoc]
      · simp [z]
  refine cl_hearersOf q4 q5 q1 hx ?_
  simp (disch := omega) only [Bool.not_eq_false, Bool.not_eq_true, decide_eq_true_eq, decide_eq_false_iff_not, Bool.not_eq_true', Bool.not_eq_false', ax_lle, ax_llt, ax_lel, ax_ltl, ax_leq, ax_eql, ax_clampl, ax_inb_iff, nI_clamp, nI_1, nI_leI, nI_ltI, nI_eq, ax_b0, ax_b1, ax_bitb, ax_ui_eq, ax_ui_ne, true_and, and_true, ax_bt_ask0, hhr]
  refine ⟨fun q => ?_, fun q => ?_⟩
  case refine_2 =>
    refine ref 0 (fun i hi => ?_)
    rw [q, ax_bt_0]; simp
  have q : sw_hp N kd tl x y = true := by simpa using q
  refine cl_wantedBy q6.1 q2.1 (by omega) ?_
  suffices ∀ (c w : Nat) (A : Int32) (z1 z6 : Option ax_V), w + c = T → (∀ i, i < 32 → ax_bt A i = (decide (i < 6) && decide (0 < W y i) && (!decide (i < w) || sw_so N T kd tl W (sw_rp kd es) x y i))) → ax_AK ((d + 29)) 117 (61, [some (ax_vr 8 0 3), z1, some (ax_vi (nI y)), some (ax_vi (sw_hr N kd tl x)), some (ax_vi A), some (ax_vi (nI w)), z6], [], ax_mm I L) (ax_ki (fun a I1 L1 => ax_CI (d + 30) 225 [ax_vr 9 0 184, ax_vi (nI x), ax_vi (nI y)] I1 L1 (fun b I2 L2 => a = b ∧ sw_RR I2 L2))) from this T 0 _ _ _ (by omega) (fun i hi => by rw [ax_bt_ms (by omega)]; simp)
  intro c
  induction c with
  | zero =>
    intro w A z1 z6 hw hA
    have hw : w = T := by omega
    subst hw
    apply vc_X8_safe_61
    rw [q5.2.1]
    simp (disch := omega) only [Bool.not_eq_false, Bool.not_eq_true, decide_eq_true_eq, decide_eq_false_iff_not, Bool.not_eq_true', Bool.not_eq_false', ax_lle, ax_llt, ax_lel, ax_ltl, ax_leq, ax_eql, ax_clampl, ax_inb_iff, nI_clamp, nI_1, nI_leI, nI_ltI, nI_eq, ax_b0, ax_b1, ax_bitb, ax_ui_eq, ax_ui_ne, true_and, and_true]
    refine ⟨fun _ => ref A (fun i hi => ?_), fun q => by omega⟩
    rw [hA i hi, q]
    by_cases z : i < w
    · unfold sw_so
      simp [z, show i < 6 by omega, Bool.and_assoc]
    · have : W y i = 0 := q2.2 y i (by omega)
      simp [z, this]
  | succ c ih =>
    intro w A z1 z6 hw hA
    apply vc_X8_safe_61
    rw [q5.2.1]
    simp (disch := omega) only [Bool.not_eq_false, Bool.not_eq_true, decide_eq_true_eq, decide_eq_false_iff_not, Bool.not_eq_true', Bool.not_eq_false', ax_lle, ax_llt, ax_lel, ax_ltl, ax_leq, ax_eql, ax_clampl, ax_inb_iff, nI_clamp, nI_1, nI_leI, nI_ltI, nI_eq, ax_b0, ax_b1, ax_bitb, ax_ui_eq, ax_ui_ne, true_and, and_true]
    refine ⟨fun q => by omega, fun _ => ?_⟩
    refine cl_wantersOf q6.1 q2.1 (by omega) ?_
    have e18 : I 18 w = (sw_rp kd es).1 w := q6.1.2.1 w (by omega)
    have hoth : ((ax_ms 6 (fun x => decide (0 < W x w)) &&& sw_hr N kd tl x) &&& ((1 : Int32) <<< (nI y &&& 31) ^^^ (-1)) = 0) ↔ (List.range N).all (fun z => !(sw_hp N kd tl x z && !decide (z = y) && decide (0 < W z w))) = true := by
      rw [sw_all_i]
      have hb : ∀ z, z < 32 → ax_bt ((ax_ms 6 (fun x => decide (0 < W x w)) &&& sw_hr N kd tl x) &&& ((1 : Int32) <<< (nI y &&& 31) ^^^ (-1))) z = (decide (z < 6) && decide (0 < W z w) && (decide (z < 6) && sw_hp N kd tl x z) && !decide (z = y)) := by
        intro z hz
        unfold sw_hr
        rw [ax_bt_and, ax_bt_and, ax_bt_xor, ax_bt_m1 hz, ax_bt_sh (by omega) hz, ax_bt_ms (by omega), ax_bt_ms (by omega), Bool.xor_true]
      constructor
      · intro e z hz
        have := hb z (by omega)
        rw [e, ax_bt_0, decide_eq_true (show z < 6 by omega)] at this
        revert this
        cases sw_hp N kd tl x z <;> cases decide (z = y) <;> cases decide (0 < W z w) <;> simp
      · intro e
        apply ax_bt_ext
        intro z hz
        rw [hb z hz, ax_bt_0]
        by_cases zN : z < N
        · have := e z zN
          revert this
          cases sw_hp N kd tl x z <;> cases decide (z = y) <;> cases decide (0 < W z w) <;> simp
        · have : sw_hp N kd tl x z = false := by unfold sw_hp; rw [decide_eq_false zN, Bool.false_and, Bool.false_and]
          rw [this]; simp
    have out : ∀ z6, sw_so N T kd tl W (sw_rp kd es) x y w = false ∨ ¬ 0 < W y w → ax_AK ((d + 29)) 117 (61, [some (ax_vr 8 0 3), none, some (ax_vi (nI y)), some (ax_vi (sw_hr N kd tl x)), some (ax_vi (A &&& ((1 : Int32) <<< (nI w &&& 31) ^^^ (-1)))), some (ax_vi (nI (w + 1))), z6], [], ax_mm I L) (ax_ki (fun a I1 L1 => ax_CI (d + 30) 225 [ax_vr 9 0 184, ax_vi (nI x), ax_vi (nI y)] I1 L1 (fun b I2 L2 => a = b ∧ sw_RR I2 L2))) := by
      intro z6 hso
      refine ih _ _ _ _ (by omega) (fun i hi => ?_)
      rw [ax_bt_and, ax_bt_xor, ax_bt_m1 hi, ax_bt_sh (by omega) hi, hA i hi]
      by_cases e : i = w
      · subst e
        rcases hso with z | z
        · rw [z]; simp
        · simp [z]
      · have : decide (i < w + 1) = decide (i < w) := decide_eq_decide.mpr ⟨fun _ => by omega, fun _ => by omega⟩
        rw [this, decide_eq_false e]; simp
    have stay : ∀ z6, (0 < W y w → sw_so N T kd tl W (sw_rp kd es) x y w = true) → ax_AK ((d + 29)) 117 (61, [some (ax_vr 8 0 3), none, some (ax_vi (nI y)), some (ax_vi (sw_hr N kd tl x)), some (ax_vi A), some (ax_vi (nI (w + 1))), z6], [], ax_mm I L) (ax_ki (fun a I1 L1 => ax_CI (d + 30) 225 [ax_vr 9 0 184, ax_vi (nI x), ax_vi (nI y)] I1 L1 (fun b I2 L2 => a = b ∧ sw_RR I2 L2))) := by
      intro z6 hso
      refine ih _ _ _ _ (by omega) (fun i hi => ?_)
      rw [hA i hi]
      by_cases e : i = w
      · subst e
        by_cases z : 0 < W y i
        · rw [hso z]; simp
        · simp [z]
      · have : decide (i < w + 1) = decide (i < w) := decide_eq_decide.mpr ⟨fun _ => by omega, fun _ => by omega⟩
        rw [this]
    simp (disch := omega) only [Bool.not_eq_false, Bool.not_eq_true, decide_eq_true_eq, decide_eq_false_iff_not, Bool.not_eq_true', Bool.not_eq_false', ax_lle, ax_llt, ax_lel, ax_ltl, ax_leq, ax_eql, ax_clampl, ax_inb_iff, nI_clamp, nI_1, nI_leI, nI_ltI, nI_eq, ax_b0, ax_b1, ax_bitb, ax_ui_eq, ax_ui_ne, true_and, and_true, e18]
    refine ⟨fun e => ⟨by omega, fun f => out _ ?_, fun f => ⟨fun _ => stay _ ?_, (fun q => absurd trivial q)⟩⟩, fun e => ⟨by omega, fun f => out _ ?_, fun f => ⟨(fun q => absurd q (by decide)), fun _ => out _ ?_⟩⟩⟩
    · left; unfold sw_so; rw [decide_eq_false f]; simp
    · intro z; unfold sw_so; rw [decide_eq_true f, decide_eq_true z, hoth.mp e]; rfl
    · left; unfold sw_so; rw [decide_eq_false f]; simp
    · left
      unfold sw_so
      have : (List.range N).all (fun z => !(sw_hp N kd tl x z && !decide (z = y) && decide (0 < W z w))) = false := by
        cases z : (List.range N).all (fun z => !(sw_hp N kd tl x z && !decide (z = y) && decide (0 < W z w))) with
        | false => rfl
        | true => exact absurd (hoth.mpr z) e
      rw [this]; simp
def sw_pr (W : Nat → Nat → Nat) (F : Int32) (w x : Nat) (a : Nat × Int32) : Nat × Int32 := if ¬ nI x = F ∧ a.1 < W x w then (W x w, nI x) else a
theorem op_price {I : ax_I} {L : ax_J} (h : sw_RR I L) (a : Int32) : sw_OP 118 226 [ax_vi a] I L := by
  intro d
  have h0 := h
  obtain ⟨N, T, kd, tl, un, W, es, h1, h2, h3, h4⟩ := h
  have hG := h1.GI
  have h1t := fun v => h1.t3 (v := v)
  obtain ⟨q1, q2, q3, q4, q5, q6, q7, q8, q9, q10⟩ := h1
  have hN := q1.1
  have hT := q1.2.1
  apply vc_X8_price
  rcases sw_dich (n := T) (by omega) a with ⟨w, hw, rfl⟩ | ha
  case inr =>
    refine cl_hasThing_no q5.2.1 ha ?_
    refine ⟨(fun q => absurd q (by decide)), fun _ => ?_⟩
    apply vc_X9_price
    refine rf_isThing_no q7.2.1 hT ha ?_
    exact ⟨(fun q => absurd q (by decide)), fun _ => ⟨rfl, h0⟩⟩
  have hN0 : 0 < N := by have := q1.2.2.1; omega
  have q8 := q8 hN0
  refine cl_hasThing_k q5.2.1 (by omega) hw ?_
  refine ⟨fun _ => ?_, (fun q => absurd q (by decide))⟩
  refine cl_isWaiting q6.1 (by omega) ?_
  have e18 : I 18 w = (sw_rp kd es).1 w := q6.1.2.1 w (by omega)
  generalize hF : (sw_rp kd es).1 w = F
  simp (disch := omega) only [Bool.not_eq_false, Bool.not_eq_true, decide_eq_true_eq, decide_eq_false_iff_not, Bool.not_eq_true', Bool.not_eq_false', ax_lle, ax_llt, ax_lel, ax_ltl, ax_leq, ax_eql, ax_clampl, ax_inb_iff, nI_clamp, nI_1, nI_leI, nI_ltI, nI_eq, ax_b0, ax_b1, ax_bitb, ax_ui_eq, ax_ui_ne, true_and, and_true]
  refine ⟨fun hwt => ?_, fun hwt => ?_⟩
  case refine_2 =>
    apply vc_X9_price
    refine rf_isThing_k q7.2.1 hT hw ?_
    refine ⟨fun _ => ?_, (fun q => absurd q (by decide))⟩
    refine rf_v (k := 0) (a := 0) (by omega) (by omega) ?_
    rw [Nat.zero_add, q8.1.1 w (by omega), hF]
    apply vc_X9_price_27
    rw [q7.1]
    simp (disch := omega) only [Bool.not_eq_false, Bool.not_eq_true, decide_eq_true_eq, decide_eq_false_iff_not, Bool.not_eq_true', Bool.not_eq_false', ax_lle, ax_llt, ax_lel, ax_ltl, ax_leq, ax_eql, ax_clampl, ax_inb_iff, nI_clamp, nI_1, nI_leI, nI_ltI, nI_eq, ax_b0, ax_b1, ax_bitb, ax_ui_eq, ax_ui_ne, true_and, and_true]
    refine ⟨fun q => by omega, fun _ => ⟨fun f => ⟨(fun q => absurd trivial q), fun _ => h0⟩, fun f => ?_⟩⟩
    refine rf_v (k := 0) (a := 6) (by omega) (by omega) ?_
    rw [q8.1.2.1 w (by omega)]
    refine ⟨fun _ => ⟨(fun q => absurd trivial q), fun _ => h0⟩, fun g => ?_⟩
    exfalso
    rw [decide_eq_false f, decide_eq_true g] at hwt
    exact absurd hwt (by decide)
  have hwt : (!decide (F = -9) && decide ((sw_rp kd es).2.1 w = -9)) = true := by simpa using hwt
  rw [Bool.and_eq_true, Bool.not_eq_true', decide_eq_false_iff_not, decide_eq_true_eq] at hwt
  suffices ∀ (c x : Nat) (a : Nat × Int32), x + c = N → a.1 ≤ 9 → a = ax_it (sw_pr W F w) x 0 (0, -9) → ax_AK ((d + 29)) 118 (35, [some (ax_vr 8 0 3), some (ax_vi (nI w)), some (ax_vi (nI a.1)), some (ax_vi (a.2)), some (ax_vi (nI x))], [], ax_mm I L) (ax_ki (fun a I1 L1 => ax_CI (d + 30) 226 [ax_vr 9 0 184, ax_vi (nI w)] I1 L1 (fun b I2 L2 => a = b ∧ sw_RR I2 L2))) from this N 0 (0, -9) (by omega) (by omega) rfl
  intro c
  induction c with
  | succ c ih =>
    intro x a hx ha hfin
    have hn : ax_it (sw_pr W F w) (x + 1) 0 (0, -9) = sw_pr W F w x a := by rw [ax_it_succ, Nat.zero_add, ← hfin]
    have eW : I (11 + (1 + x)) w = nI (W x w) := q6.1.1 x (by omega) w (by omega)
    have h9 := q2.1 x w
    apply vc_X8_price_35
    rw [q5.1]
    simp (disch := omega) only [Bool.not_eq_false, Bool.not_eq_true, decide_eq_true_eq, decide_eq_false_iff_not, Bool.not_eq_true', Bool.not_eq_false', ax_lle, ax_llt, ax_lel, ax_ltl, ax_leq, ax_eql, ax_clampl, ax_inb_iff, nI_clamp, nI_1, nI_leI, nI_ltI, nI_eq, ax_b0, ax_b1, ax_bitb, ax_ui_eq, ax_ui_ne, true_and, and_true, e18, eW, hF]
    refine ⟨fun q => by omega, fun _ => ⟨by omega, fun e => ?_, fun e => ⟨by omega, by omega, fun g => ?_, fun g => ⟨by omega, by omega, ?_⟩⟩⟩⟩
    · refine ih (x + 1) a (by omega) ha ?_
      rw [hn]; unfold sw_pr; rw [if_neg (fun z => z.1 e)]
    · refine ih (x + 1) a (by omega) ha ?_
      rw [hn]; unfold sw_pr; rw [if_neg (fun z => by omega)]
    · refine ih (x + 1) (W x w, nI x) (by omega) h9 ?_
      rw [hn]; unfold sw_pr; rw [if_pos ⟨e, by omega⟩]
  | zero =>
    intro x a hx ha hfin
    have hx : x = N := by omega
    subst hx
    /- the reference -/
    have ref : ∀ (I0 : ax_I) (R : sw_TW I0 x T kd tl un W es), ∀ (K0 : Int32 → ax_I → ax_J → Prop), (a.2 = -9 → K0 (-9) I0 L) → (¬ a.2 = -9 → K0 (nI a.1) (ax_ui I0 184 2 a.2) L) → ax_CI (d + 30) 226 [ax_vr 9 0 184, ax_vi (nI w)] I0 L K0 := by
      intro I0 R K0 k1 k2
      obtain ⟨q1', q2', q3', q4', q5', q6', q7', q8', q9', q10'⟩ := R
      have q8' := q8' hN0
      apply vc_X9_price
      refine rf_isThing_k q7'.2.1 hT hw ?_
      refine ⟨fun _ => ?_, (fun q => absurd q (by decide))⟩
      refine rf_v (k := 0) (a := 0) (by omega) (by omega) ?_
      rw [Nat.zero_add, q8'.1.1 w (by omega), hF]
      suffices ∀ (c y : Nat) (b : Nat × Int32) (z6 : Option ax_V), y + c = x → b.1 ≤ 9 → b = ax_it (sw_pr W F w) y 0 (0, -9) → ax_AK ((d + 29)) 226 (27, [some (ax_vr 9 0 184), some (ax_vi (nI w)), some (ax_vi F), some (ax_vi (nI b.1)), some (ax_vi (b.2)), some (ax_vi (nI y)), z6], [], ax_mm I0 L) (ax_ki K0) from this x 0 (0, -9) _ (by omega) (by omega) rfl
      intro c
      induction c with
      | zero =>
        intro y b z6 hy hb hbf
        have hy : y = x := by omega
        subst hy
        have eb : b = a := by rw [hbf, hfin]
        subst eb
        apply vc_X9_price_27
        rw [q7'.1]
        simp (disch := omega) only [Bool.not_eq_false, Bool.not_eq_true, decide_eq_true_eq, decide_eq_false_iff_not, Bool.not_eq_true', Bool.not_eq_false', ax_lle, ax_llt, ax_lel, ax_ltl, ax_leq, ax_eql, ax_clampl, ax_inb_iff, nI_clamp, nI_1, nI_leI, nI_ltI, nI_eq, ax_b0, ax_b1, ax_bitb, ax_ui_eq, ax_ui_ne, true_and, and_true]
        refine ⟨fun _ => ⟨fun e => ?_, fun e => k1 e⟩, fun q => by omega⟩
        apply vc_X9_tells
        exact k2 e
      | succ c ih =>
        intro y b z6 hy hb hbf
        have hn : ax_it (sw_pr W F w) (y + 1) 0 (0, -9) = sw_pr W F w y b := by rw [ax_it_succ, Nat.zero_add, ← hbf]
        have e193 : I0 193 (6 * y + w) = nI (W y w) := q7'.2.2.2.2.1 y (by omega) w (by omega)
        have h9 := q2.1 y w
        apply vc_X9_price_27
        rw [q7'.1]
        simp (disch := omega) only [Bool.not_eq_false, Bool.not_eq_true, decide_eq_true_eq, decide_eq_false_iff_not, Bool.not_eq_true', Bool.not_eq_false', ax_lle, ax_llt, ax_lel, ax_ltl, ax_leq, ax_eql, ax_clampl, ax_inb_iff, nI_clamp, nI_1, nI_leI, nI_ltI, nI_eq, ax_b0, ax_b1, ax_bitb, ax_ui_eq, ax_ui_ne, true_and, and_true, ax_lmul, nI_add, e193]
        refine ⟨fun q => by omega, fun _ => ⟨fun e => absurd e hwt.1, fun _ => ?_⟩⟩
        refine rf_v (k := 0) (a := 6) (by omega) (by omega) ?_
        rw [q8'.1.2.1 w (by omega)]
        simp (disch := omega) only [Bool.not_eq_false, Bool.not_eq_true, decide_eq_true_eq, decide_eq_false_iff_not, Bool.not_eq_true', Bool.not_eq_false', ax_lle, ax_llt, ax_lel, ax_ltl, ax_leq, ax_eql, ax_clampl, ax_inb_iff, nI_clamp, nI_1, nI_leI, nI_ltI, nI_eq, ax_b0, ax_b1, ax_bitb, ax_ui_eq, ax_ui_ne, true_and, and_true, e193]
        refine ⟨fun e => absurd hwt.2 e, fun _ => ⟨fun e => ⟨by omega, fun g => ⟨fun _ => ?_, fun g2 => absurd g g2⟩, fun g => ⟨fun g2 => absurd g2 g, fun _ => ?_⟩⟩, fun e => ⟨fun g => ⟨fun _ => ?_, fun g2 => absurd g g2⟩, fun g => by omega⟩⟩⟩
        · refine ih (y + 1) b _ (by omega) hb ?_
          rw [hn]; unfold sw_pr; rw [if_neg (fun z => by omega)]
        · refine ih (y + 1) (W y w, nI y) _ (by omega) h9 ?_
          rw [hn]; unfold sw_pr; rw [if_pos ⟨e, by omega⟩]
        · refine ih (y + 1) b _ (by omega) hb ?_
          rw [hn]; unfold sw_pr; rw [if_neg (fun z => z.1 e)]
    apply vc_X8_price_35
    rw [q5.1]
    simp (disch := omega) only [Bool.not_eq_false, Bool.not_eq_true, decide_eq_true_eq, decide_eq_false_iff_not, Bool.not_eq_true', Bool.not_eq_false', ax_lle, ax_llt, ax_lel, ax_ltl, ax_leq, ax_eql, ax_clampl, ax_inb_iff, nI_clamp, nI_1, nI_leI, nI_ltI, nI_eq, ax_b0, ax_b1, ax_bitb, ax_ui_eq, ax_ui_ne, true_and, and_true]
    refine ⟨fun _ => ⟨fun e => ?_, fun e => ?_⟩, fun q => by omega⟩
    · exact ref _ (h1t a.2) _ (fun z => absurd z e) (fun _ => ⟨rfl, h0.tell⟩)
    · exact ref _ ⟨q1, q2, q3, q4, q5, q6, q7, q8, q9, q10⟩ _ (fun _ => ⟨rfl, h0⟩) (fun z => absurd e z)
