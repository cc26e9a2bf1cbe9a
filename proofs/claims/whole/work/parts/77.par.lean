/-! READING A TOWN: what is asked -/
abbrev sw_PS : Type := Nat × Nat × Nat × Nat × Nat × (Nat → Nat) × (Nat → Int32) × (Nat → Nat → Nat) × (Nat → Int32)
def sw_fg (n : Nat) (f : Nat → Int32) (p lo : Nat) (hi : Nat) : Option Nat := if p < n ∧ nI lo ≤ f p - 48 ∧ f p - 48 ≤ nI hi then some (f p - 48).toNatClampNeg else none
def sw_kn (b : Int32) : Option Nat := if b = 111 then some 0 else if b = 109 then some 1 else if b = 99 then some 2 else if b = 98 then some 3 else if b = 108 then some 4 else if b = 107 then some 5 else none
def sw_ris (n : Nat) (f : Nat → Int32) : Nat → Nat → Nat → Int32 → Nat × Int32
  | 0, p, _, b => (p, b)
  | k + 1, p, lo, b => match sw_fg n f p lo 5 with
    | some v => sw_ris n f k (p + 1) (v + 1) (b ||| (1 : Int32) <<< (nI v &&& 31))
    | none => (p, b)
def sw_nu (F : Nat → Nat) (x v : Nat) : Nat → Nat := fun a => if a = x then v else F a
def sw_stp (n : Nat) (f : Nat → Int32) : sw_PS → Nat ⊕ sw_PS
  | (p, Th, M, Wn, Un, kd, tl, W, un) =>
    if Th = 0 then (if f p = 116 then (match sw_fg n f (p + 1) 1 6 with | some v => .inr (p + 2, v, M, Wn, Un, kd, tl, W, un) | none => .inl (p + 1)) else .inl p)
    else if f p = 119 then (if M = 0 ∨ Wn = 16 ∨ 0 < Un then .inl p else match sw_fg n f (p + 1) 0 (M - 1) with
      | none => .inl (p + 1)
      | some x => match sw_fg n f (p + 2) 0 (Th - 1) with
        | none => .inl (p + 2)
        | some w => match sw_fg n f (p + 3) 1 9 with
          | none => .inl (p + 3)
          | some v => .inr (p + 4, Th, M, Wn + 1, Un, kd, tl, sw_wu W x w v, un))
    else if f p = 117 then (if M = 0 ∨ Un = 6 then .inl p else match sw_fg n f (p + 1) 0 (Th - 1) with
      | none => .inl (p + 1)
      | some w => match sw_fg n f (p + 2) 0 (Th - 1) with
        | none => .inl (p + 2)
        | some v => if v = w then .inl (p + 2) else .inr (p + 3, Th, M, Wn, Un + 1, kd, tl, W, sw_up un w (un w ||| (1 : Int32) <<< (nI v &&& 31))))
    else match sw_kn (f p) with
      | none => .inl p
      | some k => if M = 6 ∨ 0 < Wn + Un then .inl p else .inr ((sw_ris n f 6 (p + 1) 0 0).1, Th, M + 1, Wn, Un, sw_nu kd M k, sw_up tl M (sw_ris n f 6 (p + 1) 0 0).2, W, un)
def sw_rn (n : Nat) (f : Nat → Int32) : Nat → sw_PS → Nat ⊕ sw_PS
  | 0, _ => .inl 0
  | k + 1, st => if n ≤ st.1 then (if st.2.2.1 = 0 then .inl n else .inr st) else if f st.1 = 32 then sw_rn n f k (st.1 + 1, st.2) else match sw_stp n f st with
    | .inl e => .inl e
    | .inr st' => sw_rn n f k st'
theorem sw_ris_le {n : Nat} {f : Nat → Int32} : ∀ (k p lo : Nat) (b : Int32), p ≤ (sw_ris n f k p lo b).1
  | 0, p, lo, b => Nat.le_refl _
  | k + 1, p, lo, b => by
    unfold sw_ris
    cases sw_fg n f p lo 5 with
    | none => exact Nat.le_refl _
    | some v => have := sw_ris_le (n := n) (f := f) k (p + 1) (v + 1) (b ||| (1 : Int32) <<< (nI v &&& 31)); dsimp only; omega
theorem sw_ris_n {n : Nat} {f : Nat → Int32} : ∀ (k p lo : Nat) (b : Int32), p ≤ n → (sw_ris n f k p lo b).1 ≤ n
  | 0, p, lo, b, h => h
  | k + 1, p, lo, b, h => by
    unfold sw_ris
    cases hf : sw_fg n f p lo 5 with
    | none => exact h
    | some v =>
      have : p < n := by
        unfold sw_fg at hf
        split at hf
        · rename_i z; exact z.1
        · cases hf
      exact sw_ris_n k (p + 1) (v + 1) _ this
theorem sw_fg_lt {n : Nat} {f : Nat → Int32} {p lo hi v : Nat} (h : sw_fg n f p lo hi = some v) : p < n ∧ nI lo ≤ f p - 48 ∧ f p - 48 ≤ nI hi ∧ v = (f p - 48).toNatClampNeg := by
  unfold sw_fg at h
  split at h
  · rename_i z; exact ⟨z.1, z.2.1, z.2.2, (Option.some.inj h).symm⟩
  · cases h
theorem sw_fg_v {n : Nat} {f : Nat → Int32} {p lo hi v : Nat} (hl : lo < 2 ^ 31) (hh : hi < 2 ^ 31) (h : sw_fg n f p lo hi = some v) : p < n ∧ lo ≤ v ∧ v ≤ hi ∧ f p - 48 = nI v := by
  obtain ⟨h1, h2, h3, h4⟩ := sw_fg_lt h
  obtain ⟨k, hk, e⟩ := ax_of_le (Int32.le_trans (nI_pos' hl) h2) h3 hh
  rw [e] at h2 h4 ⊢
  rw [nI_clamp (by omega)] at h4
  subst h4
  exact ⟨h1, (nI_leI hl (by omega)).mp h2, hk, rfl⟩
theorem sw_fg_no {n : Nat} {f : Nat → Int32} {p lo hi : Nat} (h : sw_fg n f p lo hi = none) : n ≤ p ∨ f p - 48 < nI lo ∨ nI hi < f p - 48 := by
  unfold sw_fg at h
  split at h
  · cases h
  · rename_i z
    by_cases h1 : p < n
    · right
      by_cases h2 : nI lo ≤ f p - 48
      · right
        rw [← Int32.not_le]; exact fun h3 => z ⟨h1, h2, h3⟩
      · left
        rw [← Int32.not_le]; exact h2
    · left; omega
theorem sw_stp_lt {n : Nat} {f : Nat → Int32} {st st' : sw_PS} (hp : st.1 < n) (h : sw_stp n f st = .inr st') : st.1 < st'.1 ∧ st'.1 ≤ n := by
  obtain ⟨p, Th, M, Wn, Un, kd, tl, W, un⟩ := st
  have hp : p < n := hp
  unfold sw_stp at h
  dsimp only at h
  split at h
  · split at h
    · split at h
      · rename_i v hv
        cases h
        have := (sw_fg_lt hv).1
        exact ⟨by show p < p + 2; omega, by show p + 2 ≤ n; omega⟩
      · cases h
    · cases h
  · split at h
    · split at h
      · cases h
      · split at h
        · cases h
        · split at h
          · cases h
          · split at h
            · cases h
            · rename_i v hv
              cases h
              have := (sw_fg_lt hv).1
              exact ⟨by show p < p + 4; omega, by show p + 4 ≤ n; omega⟩
    · split at h
      · split at h
        · cases h
        · split at h
          · cases h
          · split at h
            · cases h
            · rename_i v hv
              split at h
              · cases h
              · cases h
                have := (sw_fg_lt hv).1
                exact ⟨by show p < p + 3; omega, by show p + 3 ≤ n; omega⟩
      · split at h
        · cases h
        · split at h
          · cases h
          · cases h
            have h1 := sw_ris_le (n := n) (f := f) 6 (p + 1) 0 0
            have h2 := sw_ris_n (n := n) (f := f) 6 (p + 1) 0 0 (by omega)
            exact ⟨by show p < (sw_ris n f 6 (p + 1) 0 0).1; omega, h2⟩
theorem sw_rn_fuel {n : Nat} {f : Nat → Int32} : ∀ (k1 k2 : Nat) (st : sw_PS), n - st.1 < k1 → n - st.1 < k2 → sw_rn n f k1 st = sw_rn n f k2 st
  | 0, _, st, h, _ => by omega
  | _ + 1, 0, st, _, h => by omega
  | k1 + 1, k2 + 1, st, h1, h2 => by
    unfold sw_rn
    by_cases hp : n ≤ st.1
    · rw [if_pos hp, if_pos hp]
    · rw [if_neg hp, if_neg hp]
      by_cases hb : f st.1 = 32
      · rw [if_pos hb, if_pos hb]
        exact sw_rn_fuel k1 k2 (st.1 + 1, st.2) (by show n - (st.1 + 1) < k1; omega) (by show n - (st.1 + 1) < k2; omega)
      · rw [if_neg hb, if_neg hb]
        cases hs : sw_stp n f st with
        | inl e => rfl
        | inr st' =>
          have := sw_stp_lt (by omega) hs
          exact sw_rn_fuel k1 k2 st' (by omega) (by omega)
def sw_R (n : Nat) (f : Nat → Int32) (st : sw_PS) : Nat ⊕ sw_PS := sw_rn n f (n + 1) st
theorem sw_R_end {n : Nat} {f : Nat → Int32} {st : sw_PS} (h : n ≤ st.1) : sw_R n f st = if st.2.2.1 = 0 then .inl n else .inr st := by
  unfold sw_R sw_rn; rw [if_pos h]
theorem sw_R_bl {n : Nat} {f : Nat → Int32} {st : sw_PS} (h : st.1 < n) (hb : f st.1 = 32) : sw_R n f st = sw_R n f (st.1 + 1, st.2) := by
  unfold sw_R
  rw [sw_rn_fuel (n + 1) (n + 2) st (by omega) (by omega)]
  show (if n ≤ st.1 then _ else if f st.1 = 32 then sw_rn n f (n + 1) (st.1 + 1, st.2) else _) = _
  rw [if_neg (by omega), if_pos hb]
theorem sw_R_no {n : Nat} {f : Nat → Int32} {st : sw_PS} {e : Nat} (h : st.1 < n) (hb : ¬ f st.1 = 32) (hs : sw_stp n f st = .inl e) : sw_R n f st = .inl e := by
  unfold sw_R sw_rn
  rw [if_neg (by omega), if_neg hb, hs]
theorem sw_R_go {n : Nat} {f : Nat → Int32} {st st' : sw_PS} (h : st.1 < n) (hb : ¬ f st.1 = 32) (hs : sw_stp n f st = .inr st') : sw_R n f st = sw_R n f st' := by
  unfold sw_R
  rw [sw_rn_fuel (n + 1) (n + 2) st (by omega) (by omega)]
  show (if n ≤ st.1 then _ else if f st.1 = 32 then _ else match sw_stp n f st with | Sum.inl e => Sum.inl e | Sum.inr st' => sw_rn n f (n + 1) st') = _
  rw [if_neg (by omega), if_neg hb, hs]
/-- the invariants of what is read -/
def sw_PI (n : Nat) (st : sw_PS) : Prop := st.1 ≤ n ∧ st.2.1 ≤ 6 ∧ st.2.2.1 ≤ 6 ∧ (0 < st.2.2.1 → 0 < st.2.1) ∧ st.2.2.2.1 ≤ 16 ∧ st.2.2.2.2.1 ≤ 6 ∧ (∀ x, x < st.2.2.1 → st.2.2.2.2.2.1 x < 6) ∧ sw_W9 st.2.1 st.2.2.2.2.2.2.2.1 ∧ (∀ w, w < 6 → ∀ i, i < 32 → ax_bt (st.2.2.2.2.2.2.2.2 w) i = true → i < st.2.1) ∧ (∀ w, st.2.1 ≤ w → w < 6 → st.2.2.2.2.2.2.2.2 w = 0)
