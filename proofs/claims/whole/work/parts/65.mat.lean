/-! WHO SHOULD HAVE WHAT: what the answer is -/
def sw_cl (m w : Nat) : Nat := if m.testBit w then m - 2 ^ w else m
def sw_mo (N T : Nat) (W : Nat → Nat → Nat) : Nat → Nat → Nat
  | 0, _ => 0
  | k + 1, m => ax_it (fun w b => if m.testBit w then (if b < W (N - (k + 1)) w + sw_mo N T W k (sw_cl m w) then W (N - (k + 1)) w + sw_mo N T W k (sw_cl m w) else b) else b) T 0 (sw_mo N T W k m)
def sw_f1 (f : Nat → Bool) : Nat → Nat → Option Nat
  | 0, _ => none
  | n + 1, w => if f w then some w else sw_f1 f n (w + 1)
def sw_mr (N T : Nat) (W : Nat → Nat → Nat) : Nat → Nat → Nat → Int32
  | 0, _ => fun _ => -9
  | k + 1, m => match sw_f1 (fun w => m.testBit w && decide (W (N - (k + 1)) w + sw_mo N T W k (sw_cl m w) = sw_mo N T W (k + 1) m)) T 0 with
    | some w => fun y => if y = N - (k + 1) then nI w else sw_mr N T W k (sw_cl m w) y
    | none => fun y => if y = N - (k + 1) then -9 else sw_mr N T W k m y
def sw_mu (c : Nat) (r : Nat → Int32) (a : Nat × (Nat → Int32)) : Nat × (Nat → Int32) := if a.1 ≤ c then (c + 1, r) else a
/-- the first that is best -/
theorem sw_fold_no {p : Nat → Bool} {c : Nat → Nat} {r : Nat → Nat → Int32} : ∀ (n w : Nat) (a : Nat × (Nat → Int32)), (∀ i, w ≤ i → i < w + n → p i = true → c i < a.1) → ax_it (fun i a => if p i then sw_mu (c i) (r i) a else a) n w a = a
  | 0, w, a, h => rfl
  | n + 1, w, a, h => by
    show ax_it _ n (w + 1) (if p w then sw_mu (c w) (r w) a else a) = a
    have e : (if p w then sw_mu (c w) (r w) a else a) = a := by
      by_cases q : p w = true
      · rw [if_pos q]; unfold sw_mu; rw [if_neg (by have := h w (Nat.le_refl _) (by omega) q; omega)]
      · rw [if_neg q]
    rw [e]
    exact sw_fold_no n (w + 1) a (fun i h1 h2 => h i (by omega) (by omega))
theorem sw_fold {p : Nat → Bool} {c : Nat → Nat} {r : Nat → Nat → Int32} {M : Nat} : ∀ (n w : Nat) (a : Nat × (Nat → Int32)), (∀ i, w ≤ i → i < w + n → p i = true → c i ≤ M) → a.1 ≤ M → match sw_f1 (fun i => p i && decide (c i = M)) n w with
    | some i => ax_it (fun i a => if p i then sw_mu (c i) (r i) a else a) n w a = (M + 1, r i)
    | none => (ax_it (fun i a => if p i then sw_mu (c i) (r i) a else a) n w a).1 ≤ M
  | 0, w, a, h, ha => ha
  | n + 1, w, a, h, ha => by
    unfold sw_f1
    have h' : ∀ i, w + 1 ≤ i → i < w + 1 + n → p i = true → c i ≤ M := fun i h1 h2 => h i (by omega) (by omega)
    by_cases q : (p w && decide (c w = M)) = true
    · rw [if_pos q]
      rw [Bool.and_eq_true, decide_eq_true_eq] at q
      show ax_it _ n (w + 1) (if p w then sw_mu (c w) (r w) a else a) = _
      have e : (if p w then sw_mu (c w) (r w) a else a) = (M + 1, r w) := by
        rw [if_pos q.1]; unfold sw_mu; rw [if_pos (by omega), q.2]
      rw [e]
      exact sw_fold_no n (w + 1) _ (fun i h1 h2 h3 => by have := h' i h1 h2 h3; show c i < M + 1; omega)
    · rw [if_neg q]
      have ha2 : (if p w then sw_mu (c w) (r w) a else a).1 ≤ M := by
        by_cases z : p w = true
        · rw [if_pos z]
          have h1 := h w (Nat.le_refl _) (by omega) z
          have h2 : ¬ c w = M := fun e => q (by rw [z, decide_eq_true e]; rfl)
          unfold sw_mu
          split
          · show c w + 1 ≤ M; omega
          · exact ha
        · rw [if_neg z]; exact ha
      exact sw_fold n (w + 1) (if p w then sw_mu (c w) (r w) a else a) h' ha2
/-- the greatest -/
theorem sw_mx {p : Nat → Bool} {c : Nat → Nat} : ∀ (n w b : Nat), b ≤ ax_it (fun i b => if p i then (if b < c i then c i else b) else b) n w b ∧ (∀ i, w ≤ i → i < w + n → p i = true → c i ≤ ax_it (fun i b => if p i then (if b < c i then c i else b) else b) n w b) ∧ (ax_it (fun i b => if p i then (if b < c i then c i else b) else b) n w b = b ∨ ∃ i, w ≤ i ∧ i < w + n ∧ p i = true ∧ ax_it (fun i b => if p i then (if b < c i then c i else b) else b) n w b = c i)
  | 0, w, b => ⟨Nat.le_refl _, fun i h1 h2 => by omega, .inl rfl⟩
  | n + 1, w, b => by
    obtain ⟨h1, h2, h3⟩ := sw_mx (p := p) (c := c) n (w + 1) (if p w then (if b < c w then c w else b) else b)
    have e : ax_it (fun i b => if p i then (if b < c i then c i else b) else b) (n + 1) w b = ax_it (fun i b => if p i then (if b < c i then c i else b) else b) n (w + 1) (if p w then (if b < c w then c w else b) else b) := rfl
    rw [e]
    generalize ax_it (fun i b => if p i then (if b < c i then c i else b) else b) n (w + 1) (if p w then (if b < c w then c w else b) else b) = R at h1 h2 h3
    by_cases q : p w = true
    · rw [if_pos q] at h1 h3
      by_cases z : b < c w
      · rw [if_pos z] at h1 h3
        refine ⟨by omega, fun i g1 g2 g3 => ?_, ?_⟩
        · by_cases e : i = w
          · rw [e]; exact h1
          · exact h2 i (by omega) (by omega) g3
        · rcases h3 with h3 | ⟨i, g1, g2, g3, g4⟩
          · exact .inr ⟨w, Nat.le_refl _, by omega, q, h3⟩
          · exact .inr ⟨i, by omega, by omega, g3, g4⟩
      · rw [if_neg z] at h1 h3
        refine ⟨h1, fun i g1 g2 g3 => ?_, ?_⟩
        · by_cases e : i = w
          · rw [e]; omega
          · exact h2 i (by omega) (by omega) g3
        · rcases h3 with h3 | ⟨i, g1, g2, g3, g4⟩
          · exact .inl h3
          · exact .inr ⟨i, by omega, by omega, g3, g4⟩
    · rw [if_neg q] at h1 h3
      refine ⟨h1, fun i g1 g2 g3 => ?_, ?_⟩
      · by_cases e : i = w
        · rw [e] at g3; exact absurd g3 q
        · exact h2 i (by omega) (by omega) g3
      · rcases h3 with h3 | ⟨i, g1, g2, g3, g4⟩
        · exact .inl h3
        · exact .inr ⟨i, by omega, by omega, g3, g4⟩
theorem sw_f1_no {f : Nat → Bool} : ∀ (n w : Nat), sw_f1 f n w = none → ∀ i, w ≤ i → i < w + n → f i = false
  | 0, w, _, i, h1, h2 => by omega
  | n + 1, w, h, i, h1, h2 => by
    unfold sw_f1 at h
    by_cases q : f w = true
    · rw [if_pos q] at h; cases h
    · rw [if_neg q] at h
      by_cases e : i = w
      · rw [e]; exact Bool.not_eq_true _ |>.mp q
      · exact sw_f1_no n (w + 1) h i (by omega) (by omega)
theorem sw_f1_lt {f : Nat → Bool} {k : Nat} : ∀ (n w : Nat), sw_f1 f n w = some k → w ≤ k ∧ k < w + n ∧ f k = true
  | 0, w, h => by cases h
  | n + 1, w, h => by
    unfold sw_f1 at h
    by_cases q : f w = true
    · rw [if_pos q] at h
      have : w = k := Option.some.inj h
      subst this
      exact ⟨Nat.le_refl _, by omega, q⟩
    · rw [if_neg q] at h
      have := sw_f1_lt n (w + 1) h
      exact ⟨by omega, by omega, this.2.2⟩
/-- trying all ways from one on, the first best way is kept -/
theorem sw_mu_all {N T : Nat} {W : Nat → Nat → Nat} {k m s : Nat} {q : Nat → Int32} {a : Nat × (Nat → Int32)} (hk : k + 1 ≤ N) :
    sw_mu (s + sw_mo N T W k m) (fun y => if y < N - (k + 1) then q y else if y = N - (k + 1) then -9 else sw_mr N T W k m y) (ax_it (fun w a => if m.testBit w then sw_mu (s + W (N - (k + 1)) w + sw_mo N T W k (sw_cl m w)) (fun y => if y < N - (k + 1) then q y else if y = N - (k + 1) then nI w else sw_mr N T W k (sw_cl m w) y) a else a) T 0 a) = sw_mu (s + sw_mo N T W (k + 1) m) (fun y => if y < N - (k + 1) then q y else sw_mr N T W (k + 1) m y) a := by
  have mx := sw_mx (p := fun w => m.testBit w) (c := fun w => W (N - (k + 1)) w + sw_mo N T W k (sw_cl m w)) T 0 (sw_mo N T W k m)
  have e : ax_it (fun i b => if (fun w => m.testBit w) i then (if b < (fun w => W (N - (k + 1)) w + sw_mo N T W k (sw_cl m w)) i then (fun w => W (N - (k + 1)) w + sw_mo N T W k (sw_cl m w)) i else b) else b) T 0 (sw_mo N T W k m) = sw_mo N T W (k + 1) m := rfl
  rw [e] at mx
  obtain ⟨m1, m2, m3⟩ := mx
  have hrow : ∀ y, sw_mr N T W (k + 1) m y = (match sw_f1 (fun w => m.testBit w && decide (W (N - (k + 1)) w + sw_mo N T W k (sw_cl m w) = sw_mo N T W (k + 1) m)) T 0 with
    | some w => fun y => if y = N - (k + 1) then nI w else sw_mr N T W k (sw_cl m w) y
    | none => fun y => if y = N - (k + 1) then -9 else sw_mr N T W k m y) y := fun y => rfl
  generalize sw_mo N T W (k + 1) m = M at m1 m2 m3 hrow
  by_cases hb : a.1 ≤ s + M
  · have ef : sw_f1 (fun i => m.testBit i && decide (s + W (N - (k + 1)) i + sw_mo N T W k (sw_cl m i) = s + M)) T 0 = sw_f1 (fun w => m.testBit w && decide (W (N - (k + 1)) w + sw_mo N T W k (sw_cl m w) = M)) T 0 := by
      congr 1
      funext i
      congr 1
      exact decide_eq_decide.mpr ⟨fun h => by omega, fun h => by omega⟩
    have fo := sw_fold (p := fun w => m.testBit w) (c := fun w => s + W (N - (k + 1)) w + sw_mo N T W k (sw_cl m w)) (r := fun w y => if y < N - (k + 1) then q y else if y = N - (k + 1) then nI w else sw_mr N T W k (sw_cl m w) y) (M := s + M) T 0 a (fun i h1 h2 h3 => by have := m2 i h1 h2 h3; (try dsimp only at this ⊢); omega) hb
    rw [ef] at fo
    cases hf : sw_f1 (fun w => m.testBit w && decide (W (N - (k + 1)) w + sw_mo N T W k (sw_cl m w) = M)) T 0 with
    | some w =>
      rw [hf] at fo hrow
      dsimp only at fo
      rw [fo]
      have e1 : sw_mu (s + sw_mo N T W k m) (fun y => if y < N - (k + 1) then q y else if y = N - (k + 1) then -9 else sw_mr N T W k m y) (s + M + 1, fun y => if y < N - (k + 1) then q y else if y = N - (k + 1) then nI w else sw_mr N T W k (sw_cl m w) y) = (s + M + 1, fun y => if y < N - (k + 1) then q y else if y = N - (k + 1) then nI w else sw_mr N T W k (sw_cl m w) y) := by
        unfold sw_mu
        exact if_neg (by show ¬ s + M + 1 ≤ _; omega)
      rw [e1]
      have e2 : sw_mu (s + M) (fun y => if y < N - (k + 1) then q y else sw_mr N T W (k + 1) m y) a = (s + M + 1, fun y => if y < N - (k + 1) then q y else sw_mr N T W (k + 1) m y) := by
        unfold sw_mu
        exact if_pos hb
      rw [e2]
      congr 1
      funext y
      rw [hrow y]
    | none =>
      rw [hf] at fo hrow
      dsimp only at fo
      have eM : sw_mo N T W k m = M := by
        rcases m3 with z | ⟨i, z1, z2, z3, z4⟩
        · exact z.symm
        · have := sw_f1_no T 0 hf i z1 z2
          try dsimp only at z3 z4
          rw [z3, decide_eq_true z4.symm] at this
          cases this
      rw [eM]
      unfold sw_mu at fo ⊢
      rw [if_pos fo, if_pos hb]
      congr 1
      funext y
      rw [hrow y]
  · have fo := sw_fold_no (p := fun w => m.testBit w) (c := fun w => s + W (N - (k + 1)) w + sw_mo N T W k (sw_cl m w)) (r := fun w y => if y < N - (k + 1) then q y else if y = N - (k + 1) then nI w else sw_mr N T W k (sw_cl m w) y) T 0 a (fun i h1 h2 h3 => by have := m2 i h1 h2 h3; (try dsimp only at this ⊢); omega)
    rw [fo]
    unfold sw_mu
    rw [if_neg hb, if_neg (by omega)]
theorem sw_mo_le {N T : Nat} {W : Nat → Nat → Nat} (hW : ∀ x w, W x w ≤ 9) : ∀ (k m : Nat), sw_mo N T W k m ≤ 9 * k
  | 0, m => Nat.le_refl _
  | k + 1, m => by
    have mx := sw_mx (p := fun w => m.testBit w) (c := fun w => W (N - (k + 1)) w + sw_mo N T W k (sw_cl m w)) T 0 (sw_mo N T W k m)
    have e : ax_it (fun i b => if (fun w => m.testBit w) i then (if b < (fun w => W (N - (k + 1)) w + sw_mo N T W k (sw_cl m w)) i then (fun w => W (N - (k + 1)) w + sw_mo N T W k (sw_cl m w)) i else b) else b) T 0 (sw_mo N T W k m) = sw_mo N T W (k + 1) m := rfl
    rw [e] at mx
    rcases mx.2.2 with z | ⟨i, _, _, _, z⟩
    · rw [z]; have := sw_mo_le (N := N) (T := T) hW k m; omega
    · rw [z]; have := sw_mo_le (N := N) (T := T) hW k (sw_cl m i); have := hW (N - (k + 1)) i; (try dsimp only); omega
/-! bits of small numbers -/
theorem sw_bt64 : ∀ m, m < 64 → ∀ w, w < 6 → ax_bt (nI m) w = m.testBit w := by decide +kernel
theorem sw_cl64 : ∀ m, m < 64 → ∀ w, w < 6 → nI m &&& ((1 : Int32) <<< (nI w &&& 31) ^^^ (-1)) = nI (sw_cl m w) := by decide +kernel
theorem sw_cl_le {m w : Nat} : sw_cl m w ≤ m := by
  unfold sw_cl
  split
  · exact Nat.sub_le _ _
  · exact Nat.le_refl _
theorem sw_clt : ∀ m, m < 64 → ∀ w, w < 6 → ∀ v, v < 6 → (sw_cl m w).testBit v = (m.testBit v && !decide (v = w)) := by decide +kernel
theorem sw_p2 : ∀ T, T ≤ 6 → (1 : Int32) <<< (nI T &&& 31) = nI (2 ^ T) := by decide +kernel
theorem sw_lt2 : ∀ T, T ≤ 6 → ∀ m, m < 64 → (∀ i, i < 6 → T ≤ i → m.testBit i = false) → m < 2 ^ T := by decide +kernel
theorem sw_2le : ∀ T, T ≤ 6 → 2 ^ T ≤ 64 := by decide +kernel
