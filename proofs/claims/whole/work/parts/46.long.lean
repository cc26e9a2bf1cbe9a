/-! needs: 30 -/
/-! longs that are small numbers -/
theorem ax_lN_bv (n : Nat) : (lN n).toBitVec = BitVec.ofNat 64 n := rfl
theorem ax_lN_ext {a b : Nat} (h : a % 2 ^ 64 = b % 2 ^ 64) : lN a = lN b := by
  apply Int64.toBitVec_inj.mp
  rw [ax_lN_bv, ax_lN_bv]
  apply BitVec.eq_of_toNat_eq
  rw [BitVec.toNat_ofNat, BitVec.toNat_ofNat, h]
theorem ax_lN_add (a b : Nat) : lN a + lN b = lN (a + b) := (Int64.ofNat_add a b).symm
theorem ax_lN_mul (a b : Nat) : lN a * lN b = lN (a * b) := (Int64.ofNat_mul a b).symm
theorem ax_lN_or {a b : Nat} (ha : a < 2 ^ 64) (hb : b < 2 ^ 64) : lN a ||| lN b = lN (a ||| b) := by
  apply Int64.toBitVec_inj.mp
  rw [Int64.toBitVec_or, ax_lN_bv, ax_lN_bv, ax_lN_bv]
  apply BitVec.eq_of_toNat_eq
  rw [BitVec.toNat_or, BitVec.toNat_ofNat, BitVec.toNat_ofNat, BitVec.toNat_ofNat, Nat.mod_eq_of_lt ha, Nat.mod_eq_of_lt hb, Nat.mod_eq_of_lt (Nat.or_lt_two_pow ha hb)]
theorem ax_lN_low {a k : Nat} (ha : a < 2 ^ 64) (hk : k ≤ 63) : lN a &&& lN (2 ^ k - 1) = lN (a % 2 ^ k) := by
  have h2 : 2 ^ k ≤ 2 ^ 63 := Nat.pow_le_pow_right (by omega) hk
  apply Int64.toBitVec_inj.mp
  rw [Int64.toBitVec_and, ax_lN_bv, ax_lN_bv, ax_lN_bv]
  apply BitVec.eq_of_toNat_eq
  have h3 : a % 2 ^ k < 2 ^ 64 := Nat.lt_of_le_of_lt (Nat.mod_le _ _) ha
  rw [BitVec.toNat_and, BitVec.toNat_ofNat, BitVec.toNat_ofNat, BitVec.toNat_ofNat, Nat.mod_eq_of_lt ha, Nat.mod_eq_of_lt (show 2 ^ k - 1 < 2 ^ 64 by omega), Nat.mod_eq_of_lt h3, Nat.and_two_pow_sub_one_eq_mod]
theorem ax_lN_shl {a k : Nat} (hk : k < 64) : lN a <<< ((nI k).toInt64 &&& 63) = lN (a * 2 ^ k) := by
  have e : ((nI k).toInt64 &&& 63).toBitVec.smod 64 = BitVec.ofNat 64 k := by
    have : ∀ k : Fin 64, ((nI k.val).toInt64 &&& 63).toBitVec.smod 64 = BitVec.ofNat 64 k.val := by decide +kernel
    exact this ⟨k, hk⟩
  apply Int64.toBitVec_inj.mp
  rw [Int64.toBitVec_shiftLeft, e, ax_lN_bv, ax_lN_bv]
  apply BitVec.eq_of_toNat_eq
  rw [BitVec.shiftLeft_eq', BitVec.toNat_shiftLeft, BitVec.toNat_ofNat, BitVec.toNat_ofNat, BitVec.toNat_ofNat, Nat.mod_eq_of_lt (show k < 2 ^ 64 by omega), Nat.shiftLeft_eq, Nat.mod_mul_mod]
theorem ax_lN_shr {a k : Nat} (ha : a < 2 ^ 63) (hk : k < 64) : ((lN a).toUInt64 >>> ((nI k).toInt64.toUInt64 &&& Int64.toUInt64 63)).toInt64 = lN (a / 2 ^ k) := by
  have e : ((nI k).toInt64.toUInt64 &&& Int64.toUInt64 63) = UInt64.ofNat k := by
    have : ∀ k : Fin 64, ((nI k.val).toInt64.toUInt64 &&& Int64.toUInt64 63) = UInt64.ofNat k.val := by decide +kernel
    exact this ⟨k, hk⟩
  rw [e]
  apply Int64.toBitVec_inj.mp
  show ((lN a).toUInt64 >>> UInt64.ofNat k).toBitVec = _
  apply BitVec.eq_of_toNat_eq
  rw [ax_lN_bv, BitVec.toNat_ofNat]
  show ((lN a).toUInt64 >>> UInt64.ofNat k).toNat = _
  rw [UInt64.toNat_shiftRight]
  have e1 : (lN a).toUInt64.toNat = a := by
    show (BitVec.ofNat 64 a).toNat = a
    rw [BitVec.toNat_ofNat, Nat.mod_eq_of_lt (by omega)]
  have e2 : (UInt64.ofNat k).toNat % 64 = k := by
    rw [UInt64.toNat_ofNat']; omega
  have h3 : a / 2 ^ k < 2 ^ 64 := Nat.lt_of_le_of_lt (Nat.div_le_self _ _) (by omega)
  rw [e1, e2, Nat.shiftRight_eq_div_pow, Nat.mod_eq_of_lt h3]
theorem ax_lN_i (a : Nat) : (lN a).toInt32 = nI a := by
  apply Int32.toBitVec_inj.mp
  rw [Int64.toBitVec_toInt32, ax_lN_bv, BitVec.signExtend_eq_setWidth_of_le _ (by omega)]
  show _ = BitVec.ofNat 32 a
  apply BitVec.eq_of_toNat_eq
  rw [BitVec.toNat_setWidth, BitVec.toNat_ofNat, BitVec.toNat_ofNat]
  omega
theorem ax_nI_low {a k : Nat} (hk : k ≤ 31) : nI a &&& nI (2 ^ k - 1) = nI (a % 2 ^ k) := by
  have h2 : 2 ^ k ≤ 2 ^ 31 := Nat.pow_le_pow_right (by omega) hk
  have h4 : 0 < 2 ^ k := Nat.two_pow_pos k
  have h5 : a % 2 ^ k < 2 ^ k := Nat.mod_lt _ h4
  apply Int32.toBitVec_inj.mp
  rw [Int32.toBitVec_and]
  show BitVec.ofNat 32 a &&& BitVec.ofNat 32 (2 ^ k - 1) = BitVec.ofNat 32 (a % 2 ^ k)
  apply BitVec.eq_of_toNat_eq
  rw [BitVec.toNat_and, BitVec.toNat_ofNat, BitVec.toNat_ofNat, BitVec.toNat_ofNat, Nat.mod_eq_of_lt (show 2 ^ k - 1 < 2 ^ 32 by omega), Nat.mod_eq_of_lt (show a % 2 ^ k < 2 ^ 32 by omega), Nat.and_two_pow_sub_one_eq_mod]
  have : (2 ^ k) ∣ 2 ^ 32 := Nat.pow_dvd_pow 2 (by omega)
  exact Nat.mod_mod_of_dvd a this
/-! a line of play in a long: GAINS, then words -/
def sw_gN (g : Nat → Nat) : Nat := g 0 + 64 * (g 1 + 64 * (g 2 + 64 * (g 3 + 64 * (g 4 + 64 * g 5))))
def sw_wc (w : Nat) : Nat := if w = 9 then 7 else w
def sw_wN : List Nat → Nat
  | [] => 0
  | w :: ws => sw_wc w + 8 * sw_wN ws
def sw_en (r : (Nat → Nat) × List Nat) : Nat := sw_gN r.1 + 2 ^ 36 * sw_wN r.2
theorem sw_gN_lt {g : Nat → Nat} (h : ∀ x, x < 6 → g x ≤ 63) : sw_gN g < 2 ^ 36 := by
  unfold sw_gN
  have := h 0 (by omega); have := h 1 (by omega); have := h 2 (by omega); have := h 3 (by omega); have := h 4 (by omega); have := h 5 (by omega)
  omega
theorem sw_wN_lt : ∀ (ws : List Nat), (∀ w, w ∈ ws → w < 8 ∨ w = 9) → sw_wN ws < 8 ^ ws.length
  | [], _ => by decide
  | w :: ws, h => by
    have ih := sw_wN_lt ws (fun u q => h u (List.mem_cons_of_mem _ q))
    have hw := h w List.mem_cons_self
    have : sw_wc w ≤ 7 := by unfold sw_wc; split <;> omega
    show sw_wc w + 8 * sw_wN ws < 8 ^ (ws.length + 1)
    rw [Nat.pow_succ]; omega
theorem sw_en_lt {g : Nat → Nat} {ws : List Nat} (h : ∀ x, x < 6 → g x ≤ 63) (hw : ∀ w, w ∈ ws → w < 8 ∨ w = 9) (hl : ws.length ≤ 5) : sw_en (g, ws) < 2 ^ 52 := by
  have h1 := sw_gN_lt h
  have h2 := sw_wN_lt ws hw
  have h3 : 8 ^ ws.length ≤ 8 ^ 5 := Nat.pow_le_pow_right (by omega) hl
  unfold sw_en
  show sw_gN g + 2 ^ 36 * sw_wN ws < 2 ^ 52
  omega
theorem sw_en_gain {g : Nat → Nat} {ws : List Nat} {x : Nat} (h : ∀ x, x < 6 → g x ≤ 63) (hx : x < 6) : sw_en (g, ws) / 2 ^ (6 * x) % 64 = g x := by
  unfold sw_en sw_gN
  have := h 0 (by omega); have := h 1 (by omega); have := h 2 (by omega); have := h 3 (by omega); have := h 4 (by omega); have := h 5 (by omega)
  show (g 0 + 64 * (g 1 + 64 * (g 2 + 64 * (g 3 + 64 * (g 4 + 64 * g 5)))) + 2 ^ 36 * sw_wN ws) / 2 ^ (6 * x) % 64 = g x
  match x, hx with
  | 0, _ => omega
  | 1, _ => omega
  | 2, _ => omega
  | 3, _ => omega
  | 4, _ => omega
  | 5, _ => omega
theorem sw_gain_i {g : Nat → Nat} {ws : List Nat} {x : Nat} (h : ∀ x, x < 6 → g x ≤ 63) (hw : ∀ w, w ∈ ws → w < 8 ∨ w = 9) (hl : ws.length ≤ 5) (hx : x < 6) : (((lN (sw_en (g, ws))).toUInt64 >>> (((6 : Int32) * nI x).toInt64.toUInt64 &&& Int64.toUInt64 63)).toInt64).toInt32 &&& 63 = nI (g x) := by
  have h1 := sw_en_lt h hw hl
  rw [show (6 : Int32) * nI x = nI (6 * x) from ax_nI_mul 6 x, ax_lN_shr (by omega) (by omega), ax_lN_i, show (63 : Int32) = nI (2 ^ 6 - 1) from rfl, ax_nI_low (by omega), sw_en_gain h hx]
theorem sw_with_l {g : Nat → Nat} {ws : List Nat} {w c : Nat} (h : ∀ x, x < 6 → g x ≤ 63) (hw : ∀ w, w ∈ ws → w < 8 ∨ w = 9) (hl : ws.length ≤ 4) (hc : c = sw_wc w) (hc8 : c < 8) : (lN (sw_en (g, ws)) &&& 68719476735) ||| ((((((lN (sw_en (g, ws))).toUInt64 >>> ((36 : Int32).toInt64.toUInt64 &&& Int64.toUInt64 63)).toInt64) <<< ((3 : Int32).toInt64 &&& 63)) ||| (nI c).toInt64) <<< ((36 : Int32).toInt64 &&& 63)) = lN (sw_en (g, w :: ws)) := by
  have h1 := sw_en_lt h hw (by omega)
  have h2 := sw_gN_lt h
  have h3 := sw_wN_lt ws hw
  have h4 : 8 ^ ws.length ≤ 8 ^ 4 := Nat.pow_le_pow_right (by omega) hl
  rw [show (68719476735 : Int64) = lN (2 ^ 36 - 1) from rfl, show (36 : Int32) = nI 36 from rfl, show (3 : Int32) = nI 3 from rfl, ax_lN_shr (by omega) (by omega), ax_lN_shl (by omega), ax_lN_low (by omega) (by omega), nI_l (by omega)]
  have e1 : sw_en (g, ws) % 2 ^ 36 = sw_gN g := by
    unfold sw_en
    show (sw_gN g + 2 ^ 36 * sw_wN ws) % 2 ^ 36 = _
    omega
  have e2 : sw_en (g, ws) / 2 ^ 36 = sw_wN ws := by
    unfold sw_en
    show (sw_gN g + 2 ^ 36 * sw_wN ws) / 2 ^ 36 = _
    omega
  rw [e1, e2, ax_lN_or (by omega) (by omega), ax_lN_shl (by omega)]
  have e3 : sw_wN ws * 2 ^ 3 ||| c = sw_wN ws * 2 ^ 3 + c := by
    rw [Nat.mul_comm]; exact (Nat.two_pow_add_eq_or_of_lt (i := 3) hc8 (sw_wN ws)).symm
  rw [e3, ax_lN_or (by omega) (by omega), Nat.or_comm]
  have e4 : (sw_wN ws * 2 ^ 3 + c) * 2 ^ 36 ||| sw_gN g = (sw_wN ws * 2 ^ 3 + c) * 2 ^ 36 + sw_gN g := by
    rw [Nat.mul_comm]; exact (Nat.two_pow_add_eq_or_of_lt (i := 36) h2 _).symm
  rw [e4]
  congr 1
  unfold sw_en
  show _ = sw_gN g + 2 ^ 36 * (sw_wc w + 8 * sw_wN ws)
  rw [← hc]; omega
def sw_nth : List Nat → Nat → Nat
  | [], _ => 0
  | w :: _, 0 => w
  | _ :: ws, i + 1 => sw_nth ws i
theorem sw_wN_nth : ∀ (ws : List Nat) (i : Nat), (∀ w, w ∈ ws → w < 8 ∨ w = 9) → i < ws.length → sw_wN ws / 2 ^ (3 * i) % 8 = sw_wc (sw_nth ws i)
  | [], i, _, h => by cases h
  | w :: ws, 0, h, _ => by
    have hw := h w List.mem_cons_self
    have : sw_wc w ≤ 7 := by unfold sw_wc; split <;> omega
    show (sw_wc w + 8 * sw_wN ws) / 2 ^ 0 % 8 = sw_wc w
    omega
  | w :: ws, i + 1, h, hi => by
    have ih := sw_wN_nth ws i (fun u q => h u (List.mem_cons_of_mem _ q)) (by have : i + 1 < ws.length + 1 := hi; omega)
    have hw := h w List.mem_cons_self
    have : sw_wc w ≤ 7 := by unfold sw_wc; split <;> omega
    show (sw_wc w + 8 * sw_wN ws) / 2 ^ (3 * (i + 1)) % 8 = sw_wc (sw_nth ws i)
    rw [← ih, show 3 * (i + 1) = 3 + 3 * i by omega, Nat.pow_add, ← Nat.div_div_eq_div_mul]
    congr 2
    omega
theorem sw_word_i {g : Nat → Nat} {ws : List Nat} {i : Nat} (h : ∀ x, x < 6 → g x ≤ 63) (hw : ∀ w, w ∈ ws → w < 8 ∨ w = 9) (hl : ws.length ≤ 5) (hi : i < ws.length) : (((lN (sw_en (g, ws))).toUInt64 >>> (((36 : Int32) + (3 : Int32) * nI i).toInt64.toUInt64 &&& Int64.toUInt64 63)).toInt64).toInt32 &&& 7 = nI (sw_wc (sw_nth ws i)) := by
  have h1 := sw_en_lt h hw hl
  have h2 := sw_gN_lt h
  rw [show (3 : Int32) * nI i = nI (3 * i) from ax_nI_mul 3 i, show (36 : Int32) + nI (3 * i) = nI (36 + 3 * i) from nI_add 36 _, ax_lN_shr (by omega) (by omega), ax_lN_i, show (7 : Int32) = nI (2 ^ 3 - 1) from rfl, ax_nI_low (by omega)]
  congr 1
  rw [← sw_wN_nth ws i hw hi, Nat.pow_add, ← Nat.div_div_eq_div_mul]
  have e2 : sw_en (g, ws) / 2 ^ 36 = sw_wN ws := by
    unfold sw_en
    show (sw_gN g + 2 ^ 36 * sw_wN ws) / 2 ^ 36 = _
    omega
  rw [e2]
