/-! PURE LAYER: numbers, bits, loops -/
theorem ax_if {P A B : Prop} [Decidable P] (h1 : P → A) (h2 : ¬ P → B) : (decide P = true → A) ∧ (decide P = false → B) := ⟨fun h => h1 (of_decide_eq_true h), fun h => h2 (of_decide_eq_false h)⟩
theorem ax_ifn {P A B : Prop} [Decidable P] (h1 : ¬ P → A) (h2 : P → B) : ((!decide P) = true → A) ∧ ((!decide P) = false → B) := by
  by_cases h : P
  · simp only [h, decide_true, Bool.not_true]; exact ⟨(fun q => by cases q), fun _ => h2 h⟩
  · simp only [h, decide_false, Bool.not_false]; exact ⟨fun _ => h1 h, fun q => by cases q⟩
theorem ax_lit (n : Nat) : (OfNat.ofNat n : Int32) = nI n := rfl
theorem ax_n0 : (0 : Int32) = nI 0 := rfl
theorem ax_n1 : (1 : Int32) = nI 1 := rfl
theorem ax_n2 : (2 : Int32) = nI 2 := rfl
theorem ax_n3 : (3 : Int32) = nI 3 := rfl
theorem ax_n4 : (4 : Int32) = nI 4 := rfl
theorem ax_n5 : (5 : Int32) = nI 5 := rfl
theorem ax_n6 : (6 : Int32) = nI 6 := rfl
theorem ax_n9 : (9 : Int32) = nI 9 := rfl
theorem ax_n10 : (10 : Int32) = nI 10 := rfl
theorem ax_n40 : (40 : Int32) = nI 40 := rfl
theorem ax_nI_m1 {n : Nat} (h : 0 < n) : nI n + (-1) = nI (n - 1) := by
  obtain ⟨k, rfl⟩ : ∃ k, n = k + 1 := ⟨n - 1, by omega⟩
  rw [Nat.add_sub_cancel, ← nI_pred k, Int32.sub_eq_add_neg]
theorem ax_nI_s1 {n : Nat} (h : 0 < n) : nI n - 1 = nI (n - 1) := by
  obtain ⟨k, rfl⟩ : ∃ k, n = k + 1 := ⟨n - 1, by omega⟩
  rw [Nat.add_sub_cancel, nI_pred k]
theorem ax_nI_mul (a b : Nat) : nI a * nI b = nI (a * b) := (Int32.ofNat_mul a b).symm
theorem ax_nI_sub {a b : Nat} (h : b ≤ a) : nI a - nI b = nI (a - b) := by
  have e : nI a = nI (a - b) + nI b := by rw [nI_add, Nat.sub_add_cancel h]
  rw [e, Int32.add_sub_cancel]
theorem ax_inb_nI {k n : Nat} (h : k < n) (hn : n < 2 ^ 31) : ax_inb (nI k) n = true := by
  unfold ax_inb
  rw [Bool.and_eq_true]
  refine ⟨decide_eq_true (nI_pos' (by omega)), ?_⟩
  rw [nI_clamp (by omega)]
  exact Nat.ble_eq_true_of_le h
theorem ax_ne9 {k : Nat} (h : k < 2 ^ 31) : ¬ nI k = (-9 : Int32) := by
  intro e
  have := congrArg Int32.toInt e
  rw [nI_toInt h] at this
  have e2 : (-9 : Int32).toInt = -9 := by decide +kernel
  omega
theorem ax_9ne {k : Nat} (h : k < 2 ^ 31) : ¬ (-9 : Int32) = nI k := fun e => ax_ne9 h e.symm
theorem ax_nI_toInt {k : Nat} (h : k < 2 ^ 31) : (nI k).toInt = (k : Int) := nI_toInt h
/-- an int within bounds is a small number -/
theorem ax_of_in {x : Int32} {n : Nat} (h0 : (0 : Int32) ≤ x) (h : x < nI n) (hn : n < 2 ^ 31) : ∃ k, k < n ∧ x = nI k := by
  obtain ⟨j, hj, rfl⟩ := nI_of (x := x) (by rw [Int32.not_lt]; exact h0)
  exact ⟨j, (nI_ltI hj hn).mp h, rfl⟩
theorem ax_of_le {x : Int32} {n : Nat} (h0 : (0 : Int32) ≤ x) (h : x ≤ nI n) (hn : n < 2 ^ 31) : ∃ k, k ≤ n ∧ x = nI k := by
  obtain ⟨j, hj, rfl⟩ := nI_of (x := x) (by rw [Int32.not_lt]; exact h0)
  exact ⟨j, (nI_leI hj hn).mp h, rfl⟩
/-! bits -/
def ax_bt (x : Int32) (i : Nat) : Bool := x.toBitVec.getLsbD i
theorem ax_bt_ext {x y : Int32} (h : ∀ i, i < 32 → ax_bt x i = ax_bt y i) : x = y := by
  apply Int32.toBitVec_inj.mp
  apply BitVec.eq_of_getLsbD_eq
  intro i hi
  exact h i hi
theorem ax_bt_or (x y : Int32) (i : Nat) : ax_bt (x ||| y) i = (ax_bt x i || ax_bt y i) := by
  unfold ax_bt; rw [Int32.toBitVec_or, BitVec.getLsbD_or]
theorem ax_bt_and (x y : Int32) (i : Nat) : ax_bt (x &&& y) i = (ax_bt x i && ax_bt y i) := by
  unfold ax_bt; rw [Int32.toBitVec_and, BitVec.getLsbD_and]
theorem ax_bt_xor (x y : Int32) (i : Nat) : ax_bt (x ^^^ y) i = (ax_bt x i ^^ ax_bt y i) := by
  unfold ax_bt; rw [Int32.toBitVec_xor, BitVec.getLsbD_xor]
theorem ax_bt_m1 {i : Nat} (h : i < 32) : ax_bt (-1) i = true := by
  have : ∀ i : Fin 32, ax_bt (-1) i.val = true := by decide +kernel
  exact this ⟨i, h⟩
theorem ax_bt_0 (i : Nat) : ax_bt 0 i = false := by
  unfold ax_bt
  show (0#32).getLsbD i = false
  exact BitVec.getLsbD_zero
theorem ax_bt_sh {k i : Nat} (hk : k < 32) (hi : i < 32) : ax_bt ((1 : Int32) <<< (nI k &&& 31)) i = decide (i = k) := by
  have : ∀ k i : Fin 32, ax_bt ((1 : Int32) <<< (nI k.val &&& 31)) i.val = decide (i.val = k.val) := by decide +kernel
  exact this ⟨k, hk⟩ ⟨i, hi⟩
theorem ax_bt_big {x : Int32} {i : Nat} (h : 32 ≤ i) : ax_bt x i = false := by
  unfold ax_bt; exact BitVec.getLsbD_of_ge _ _ h
theorem ax_bt_1 {i : Nat} : ax_bt 1 i = decide (i = 0) := by
  by_cases h : i < 32
  · have : ∀ i : Fin 32, ax_bt 1 i.val = decide (i.val = 0) := by decide +kernel
    exact this ⟨i, h⟩
  · rw [ax_bt_big (by omega), decide_eq_false (by omega)]
theorem ax_bt_shr {x : Int32} {k i : Nat} (hk : k < 32) (hi : i + k < 32) : ax_bt (x >>> (nI k &&& 31)) i = ax_bt x (i + k) := by
  have e : (nI k &&& 31).toBitVec.smod 32 = BitVec.ofNat 32 k := by
    have : ∀ k : Fin 32, (nI k.val &&& 31).toBitVec.smod 32 = BitVec.ofNat 32 k.val := by decide +kernel
    exact this ⟨k, hk⟩
  unfold ax_bt
  rw [Int32.toBitVec_shiftRight, e, BitVec.sshiftRight_eq', BitVec.getLsbD_sshiftRight]
  have : (BitVec.ofNat 32 k).toNat = k := by rw [BitVec.toNat_ofNat]; omega
  rw [this, Nat.add_comm k i]
  simp only [hi, decide_true, if_true]
  have h2 : ¬ 32 ≤ i := by omega
  simp [h2]
/-- a bit asked for -/
theorem ax_bt_ask {x : Int32} {k : Nat} (hk : k < 32) : (x >>> (nI k &&& 31)) &&& 1 = if ax_bt x k then 1 else 0 := by
  apply ax_bt_ext
  intro i hi
  rw [ax_bt_and, ax_bt_1]
  by_cases h : i = 0
  · subst h
    rw [ax_bt_shr hk (by omega), Nat.zero_add]
    cases ax_bt x k <;> simp [ax_bt_0, ax_bt_1]
  · simp only [h, decide_false, Bool.and_false]
    cases ax_bt x k <;> simp [ax_bt_0, ax_bt_1, h]
theorem ax_bt_ask0 {x : Int32} {k : Nat} (hk : k < 32) : ((x >>> (nI k &&& 31)) &&& 1 = 0) ↔ ax_bt x k = false := by
  rw [ax_bt_ask hk]; cases ax_bt x k <;> decide
theorem ax_bt_ask1 {x : Int32} {k : Nat} (hk : k < 32) : ((x >>> (nI k &&& 31)) &&& 1 = 1) ↔ ax_bt x k = true := by
  rw [ax_bt_ask hk]; cases ax_bt x k <;> decide
theorem ax_bt_low {k i : Nat} (hk : k < 32) (hi : i < 32) : ax_bt ((1 : Int32) <<< (nI k &&& 31) - 1) i = decide (i < k) := by
  have : ∀ k i : Fin 32, ax_bt ((1 : Int32) <<< (nI k.val &&& 31) - 1) i.val = decide (i.val < k.val) := by decide +kernel
  exact this ⟨k, hk⟩ ⟨i, hi⟩
/-! loops -/
def ax_it {α : Type} (f : Nat → α → α) : Nat → Nat → α → α
  | 0, _, a => a
  | n + 1, w, a => ax_it f n (w + 1) (f w a)
theorem ax_it_succ {α : Type} {f : Nat → α → α} : ∀ (n w : Nat) (a : α), ax_it f (n + 1) w a = f (w + n) (ax_it f n w a)
  | 0, w, a => rfl
  | n + 1, w, a => by
    show ax_it f (n + 1) (w + 1) (f w a) = _
    rw [ax_it_succ n (w + 1) (f w a)]
    show f (w + 1 + n) (ax_it f n (w + 1) (f w a)) = f (w + (n + 1)) (ax_it f n (w + 1) (f w a))
    rw [show w + 1 + n = w + (n + 1) by omega]
theorem ax_it_congr {α : Type} {f g : Nat → α → α} : ∀ (n w : Nat) (a : α), (∀ i a, w ≤ i → i < w + n → f i a = g i a) → ax_it f n w a = ax_it g n w a
  | 0, w, a, h => rfl
  | n + 1, w, a, h => by
    show ax_it f n (w + 1) (f w a) = ax_it g n (w + 1) (g w a)
    rw [h w a (Nat.le_refl _) (by omega)]
    exact ax_it_congr n (w + 1) _ (fun i a h1 h2 => h i a (by omega) (by omega))
theorem ax_it_add {α : Type} {f : Nat → α → α} : ∀ (m n w : Nat) (a : α), ax_it f (m + n) w a = ax_it f n (w + m) (ax_it f m w a)
  | 0, n, w, a => by rw [Nat.zero_add]; rfl
  | m + 1, n, w, a => by
    rw [show m + 1 + n = (m + n) + 1 by omega]
    show ax_it f (m + n) (w + 1) (f w a) = ax_it f n (w + (m + 1)) (ax_it f m (w + 1) (f w a))
    rw [ax_it_add m n (w + 1), show w + 1 + m = w + (m + 1) by omega]
theorem ax_it_id {α : Type} {f : Nat → α → α} : ∀ (n w : Nat) (a : α), (∀ i a, w ≤ i → i < w + n → f i a = a) → ax_it f n w a = a
  | 0, w, a, h => rfl
  | n + 1, w, a, h => by
    show ax_it f n (w + 1) (f w a) = a
    rw [h w a (Nat.le_refl _) (by omega)]
    exact ax_it_id n (w + 1) _ (fun i a h1 h2 => h i a (by omega) (by omega))
/-- a set laid bit by bit -/
def ax_sb (p : Nat → Bool) (w : Nat) (a : Int32) : Int32 := if p w then a ||| (1 : Int32) <<< (nI w &&& 31) else a
theorem ax_bt_sb {p : Nat → Bool} {w : Nat} {a : Int32} {i : Nat} (hw : w < 32) (hi : i < 32) : ax_bt (ax_sb p w a) i = (ax_bt a i || (decide (i = w) && p w)) := by
  unfold ax_sb
  cases hp : p w with
  | true => rw [if_pos rfl, ax_bt_or, ax_bt_sh hw hi, Bool.and_true]
  | false => rw [if_neg (by decide), Bool.and_false, Bool.or_false]
theorem ax_bt_it {p : Nat → Bool} {i : Nat} (hi : i < 32) : ∀ (n w : Nat) (a : Int32), w + n ≤ 32 → ax_bt (ax_it (ax_sb p) n w a) i = (ax_bt a i || (decide (w ≤ i) && decide (i < w + n) && p i))
  | 0, w, a, h => by
    show ax_bt a i = _
    have : (decide (w ≤ i) && decide (i < w + 0)) = false := by
      by_cases h1 : w ≤ i
      · rw [decide_eq_false (p := i < w + 0) (by omega), Bool.and_false]
      · rw [decide_eq_false h1, Bool.false_and]
    rw [this, Bool.false_and, Bool.or_false]
  | n + 1, w, a, h => by
    show ax_bt (ax_it (ax_sb p) n (w + 1) (ax_sb p w a)) i = _
    rw [ax_bt_it hi n (w + 1) _ (by omega), ax_bt_sb (by omega) hi]
    by_cases h1 : i = w
    · subst h1
      simp [show ¬ (i + 1 ≤ i) by omega, show i < i + (n + 1) by omega]
    · by_cases h2 : w ≤ i
      · by_cases h3 : i < w + (n + 1)
        · simp [h1, h2, h3, show w + 1 ≤ i by omega, show i < w + 1 + n by omega]
        · simp [h1, h2, h3, show ¬ (i < w + 1 + n) by omega]
      · simp [h1, h2, show ¬ (w + 1 ≤ i) by omega]
/-- the set of those below n that are so -/
def ax_ms (n : Nat) (p : Nat → Bool) : Int32 := ax_it (ax_sb p) n 0 0
theorem ax_bt_ms {n : Nat} {p : Nat → Bool} {i : Nat} (hn : n ≤ 32) : ax_bt (ax_ms n p) i = (decide (i < n) && p i) := by
  by_cases hi : i < 32
  · unfold ax_ms
    rw [ax_bt_it hi n 0 0 (by omega), ax_bt_0]
    simp
  · rw [ax_bt_big (by omega), decide_eq_false (by omega), Bool.false_and]
/-! memory laid anew -/
theorem ax_ui_eq {I : ax_I} {o k : Nat} {x : Int32} : ax_ui I o k x o k = x := if_pos ⟨rfl, rfl⟩
theorem ax_ui_ne {I : ax_I} {o k : Nat} {x : Int32} {a b : Nat} (h : ¬ (a = o ∧ b = k)) : ax_ui I o k x a b = I a b := if_neg h
theorem ax_ui_row {I : ax_I} {o k : Nat} {x : Int32} {a : Nat} (h : ¬ a = o) : ax_ui I o k x a = I a := by
  funext b
  exact if_neg (fun q => h q.1)
theorem ax_uc_row {I : ax_I} {o0 o1 sp dp n : Nat} {a : Nat} (h : ¬ a = o1) : ax_uc I o0 o1 sp dp n a = I a := by
  funext b
  exact if_neg h
theorem ax_uc_in {I : ax_I} {o0 o1 sp dp n b : Nat} (h : dp ≤ b ∧ b < dp + n) : ax_uc I o0 o1 sp dp n o1 b = I o0 (sp + (b - dp)) := by
  unfold ax_uc
  rw [if_pos rfl]
  exact if_pos h
theorem ax_uc_out {I : ax_I} {o0 o1 sp dp n b : Nat} (h : ¬ (dp ≤ b ∧ b < dp + n)) : ax_uc I o0 o1 sp dp n o1 b = I o1 b := by
  unfold ax_uc
  rw [if_pos rfl]
  exact if_neg h
theorem ax_ul_eq {L : ax_J} {o k : Nat} {x : Int64} : ax_ul L o k x o k = x := if_pos ⟨rfl, rfl⟩
theorem ax_ul_ne {L : ax_J} {o k : Nat} {x : Int64} {a b : Nat} (h : ¬ (a = o ∧ b = k)) : ax_ul L o k x a b = L a b := if_neg h
/-- all but the cells of a range is as it was -/
def ax_FR (lo hi : Nat) (I I' : ax_I) : Prop := ∀ a, a < lo ∨ hi < a → I' a = I a
theorem ax_FR.refl {lo hi : Nat} {I : ax_I} : ax_FR lo hi I I := fun _ _ => rfl
theorem ax_FR.trans {lo hi : Nat} {I I1 I2 : ax_I} (h1 : ax_FR lo hi I I1) (h2 : ax_FR lo hi I1 I2) : ax_FR lo hi I I2 := fun a h => (h2 a h).trans (h1 a h)
theorem ax_FR.wide {lo hi lo' hi' : Nat} {I I' : ax_I} (h : ax_FR lo hi I I') (h1 : lo' ≤ lo) (h2 : hi ≤ hi') : ax_FR lo' hi' I I' := fun a q => h a (by omega)
theorem ax_FR.ui {lo hi : Nat} {I I' : ax_I} (h : ax_FR lo hi I I') {o k : Nat} {x : Int32} (h1 : lo ≤ o) (h2 : o ≤ hi) : ax_FR lo hi I (ax_ui I' o k x) := fun a q => (ax_ui_row (by omega)).trans (h a q)
theorem ax_FR.uc {lo hi : Nat} {I I' : ax_I} (h : ax_FR lo hi I I') {o0 o sp dp n : Nat} (h1 : lo ≤ o) (h2 : o ≤ hi) : ax_FR lo hi I (ax_uc I' o0 o sp dp n) := fun a q => (ax_uc_row (by omega)).trans (h a q)
/-! comparisons with constants -/
theorem ax_inb_iff {k n : Nat} (hk : k < 2 ^ 31) (hn : n < 2 ^ 31) : (ax_inb (nI k) n = true) ↔ k < n := by
  constructor
  · intro h
    unfold ax_inb at h
    rw [Bool.and_eq_true, nI_clamp hk] at h
    exact Nat.le_of_ble_eq_true h.2
  · intro h; exact ax_inb_nI h hn
theorem ax_lle {n w : Nat} (hn : (OfNat.ofNat n : Nat) < 2 ^ 31) (hw : w < 2 ^ 31) : ((no_index (OfNat.ofNat n) : Int32) ≤ nI w) ↔ (OfNat.ofNat n : Nat) ≤ w := nI_leI hn hw
theorem ax_llt {n w : Nat} (hn : (OfNat.ofNat n : Nat) < 2 ^ 31) (hw : w < 2 ^ 31) : ((no_index (OfNat.ofNat n) : Int32) < nI w) ↔ (OfNat.ofNat n : Nat) < w := nI_ltI hn hw
theorem ax_lel {n w : Nat} (hn : (OfNat.ofNat n : Nat) < 2 ^ 31) (hw : w < 2 ^ 31) : (nI w ≤ (no_index (OfNat.ofNat n) : Int32)) ↔ w ≤ (OfNat.ofNat n : Nat) := nI_leI hw hn
theorem ax_ltl {n w : Nat} (hn : (OfNat.ofNat n : Nat) < 2 ^ 31) (hw : w < 2 ^ 31) : (nI w < (no_index (OfNat.ofNat n) : Int32)) ↔ w < (OfNat.ofNat n : Nat) := nI_ltI hw hn
theorem ax_leq {n w : Nat} (hn : (OfNat.ofNat n : Nat) < 2 ^ 31) (hw : w < 2 ^ 31) : (nI w = (no_index (OfNat.ofNat n) : Int32)) ↔ w = (OfNat.ofNat n : Nat) := nI_eq hw hn
theorem ax_eql {n w : Nat} (hn : (OfNat.ofNat n : Nat) < 2 ^ 31) (hw : w < 2 ^ 31) : ((no_index (OfNat.ofNat n) : Int32) = nI w) ↔ (OfNat.ofNat n : Nat) = w := nI_eq hn hw
theorem ax_clampl {n : Nat} (hn : (OfNat.ofNat n : Nat) < 2 ^ 31) : ((no_index (OfNat.ofNat n) : Int32)).toNatClampNeg = (OfNat.ofNat n : Nat) := nI_clamp hn
theorem ax_sb_t {p : Nat → Bool} {w : Nat} {a : Int32} (h : p w = true) : ax_sb p w a = a ||| (1 : Int32) <<< (nI w &&& 31) := by unfold ax_sb; rw [if_pos h]
theorem ax_sb_f {p : Nat → Bool} {w : Nat} {a : Int32} (h : ¬ p w = true) : ax_sb p w a = a := by unfold ax_sb; rw [if_neg h]
/-- truth as an int -/
def ax_b (b : Bool) : Int32 := if b then 1 else 0
theorem ax_b0 {b : Bool} : (ax_b b = 0) ↔ b = false := by cases b <;> decide
theorem ax_b1 {b : Bool} : (ax_b b = 1) ↔ b = true := by cases b <;> decide
theorem ax_bitb {b : Bool} : (ax_bit (ax_b b) = true) ↔ True := by cases b <;> decide
theorem ax_bt1 : ax_b true = 1 := rfl
theorem ax_bf0 : ax_b false = 0 := rfl
theorem ax_bit0 : ax_bit 0 = true := rfl
theorem ax_bit1 : ax_bit 1 = true := rfl
/-! a few things about small sets -/
theorem ax_small {x : Int32} (h : ∀ i, 6 ≤ i → i < 32 → ax_bt x i = false) : ∃ m, m < 64 ∧ x = nI m := by
  have key : ∀ b0 b1 b2 b3 b4 b5 : Bool, ∀ i : Fin 32, ax_bt (nI (b0.toNat + 2 * b1.toNat + 4 * b2.toNat + 8 * b3.toNat + 16 * b4.toNat + 32 * b5.toNat)) i.val = (if i.val = 0 then b0 else if i.val = 1 then b1 else if i.val = 2 then b2 else if i.val = 3 then b3 else if i.val = 4 then b4 else if i.val = 5 then b5 else false) := by decide +kernel
  refine ⟨(ax_bt x 0).toNat + 2 * (ax_bt x 1).toNat + 4 * (ax_bt x 2).toNat + 8 * (ax_bt x 3).toNat + 16 * (ax_bt x 4).toNat + 32 * (ax_bt x 5).toNat, ?_, ?_⟩
  · have q : ∀ b : Bool, b.toNat ≤ 1 := by decide
    have := q (ax_bt x 0); have := q (ax_bt x 1); have := q (ax_bt x 2); have := q (ax_bt x 3); have := q (ax_bt x 4); have := q (ax_bt x 5)
    omega
  · apply ax_bt_ext
    intro i hi
    rw [key _ _ _ _ _ _ ⟨i, hi⟩]
    dsimp only
    by_cases h0 : i = 0
    · subst h0; rfl
    by_cases h1 : i = 1
    · subst h1; rfl
    by_cases h2 : i = 2
    · subst h2; rfl
    by_cases h3 : i = 3
    · subst h3; rfl
    by_cases h4 : i = 4
    · subst h4; rfl
    by_cases h5 : i = 5
    · subst h5; rfl
    rw [if_neg h0, if_neg h1, if_neg h2, if_neg h3, if_neg h4, if_neg h5]
    exact h i (by omega) hi
theorem ax_ms_congr {n : Nat} {p q : Nat → Bool} (h : ∀ i, i < n → p i = q i) : ax_ms n p = ax_ms n q := by
  refine ax_it_congr n 0 0 (fun i a h1 h2 => ?_)
  unfold ax_sb
  rw [h i (by omega)]
theorem ax_lmul {n a : Nat} : (no_index (OfNat.ofNat n) : Int32) * nI a = nI ((OfNat.ofNat n : Nat) * a) := ax_nI_mul n a
theorem ax_ladd {n a : Nat} : nI a + (no_index (OfNat.ofNat n) : Int32) = nI (a + (OfNat.ofNat n : Nat)) := nI_add a n
theorem ax_laddl {n a : Nat} : (no_index (OfNat.ofNat n) : Int32) + nI a = nI ((OfNat.ofNat n : Nat) + a) := nI_add n a
