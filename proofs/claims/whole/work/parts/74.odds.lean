/-! chances -/
def sw_od (N T : Nat) (kd : Nat → Nat) (x w : Nat) : Nat → sw_G → Nat
  | 0, G => if G.2.1 w = nI x then 1 else 0
  | m + 1, G => ax_it (fun y s => ax_it (fun t s => s + sw_od N T kd x w m (sw_ws kd G y t)) T 0 s) N 0 0
theorem sw_sum_const {A : Nat} : ∀ (n w s : Nat), ax_it (fun _ s => s + A) n w s = s + n * A
  | 0, w, s => by show s = s + 0 * A; rw [Nat.zero_mul]; rfl
  | n + 1, w, s => by
    show ax_it (fun _ s => s + A) n (w + 1) (s + A) = _
    rw [sw_sum_const n (w + 1) (s + A), Nat.succ_mul]; omega
theorem sw_sum_one {A B v : Nat} : ∀ (n w s : Nat), ax_it (fun t s => s + (if t = v then B else A)) n w s = s + (if w ≤ v ∧ v < w + n then (n - 1) * A + B else n * A)
  | 0, w, s => by rw [if_neg (by omega), Nat.zero_mul]; rfl
  | n + 1, w, s => by
    show ax_it (fun t s => s + (if t = v then B else A)) n (w + 1) (s + (if w = v then B else A)) = _
    rw [sw_sum_one n (w + 1)]
    by_cases h : w = v
    · rw [if_pos h, if_neg (by omega), if_pos (by omega), Nat.add_sub_cancel]; omega
    · rw [if_neg h]
      by_cases h2 : w + 1 ≤ v ∧ v < w + 1 + n
      · rw [if_pos h2, if_pos (by omega)]
        obtain ⟨k, rfl⟩ : ∃ k, n = k + 1 := ⟨n - 1, by omega⟩
        rw [Nat.add_sub_cancel, Nat.add_sub_cancel, Nat.succ_mul]; omega
      · rw [if_neg h2, if_neg (by omega), Nat.succ_mul]; omega
theorem sw_ws_at {kd : Nat → Nat} {G G' : sw_G} {y t w : Nat} (h1 : G.1 w = G'.1 w) (h2 : G.2.1 w = G'.2.1 w) : (sw_ws kd G y t).1 w = (sw_ws kd G' y t).1 w ∧ (sw_ws kd G y t).2.1 w = (sw_ws kd G' y t).2.1 w := by
  by_cases e : t = w
  · subst e
    unfold sw_ws
    rw [← h1, ← h2]
    split
    · exact ⟨by show sw_up _ _ _ _ = sw_up _ _ _ _; rw [sw_up_eq, sw_up_eq], h2⟩
    · split
      · refine ⟨h1, ?_⟩
        show sw_up _ _ _ _ = sw_up _ _ _ _
        rw [sw_up_eq, sw_up_eq]
        unfold sw_own
        rw [h1]
      · exact ⟨h1, h2⟩
  · have key : ∀ G : sw_G, (sw_ws kd G y t).1 w = G.1 w ∧ (sw_ws kd G y t).2.1 w = G.2.1 w := by
      intro G
      unfold sw_ws
      split
      · exact ⟨sw_up_ne (fun z => e z.symm), rfl⟩
      · split
        · exact ⟨rfl, sw_up_ne (fun z => e z.symm)⟩
        · exact ⟨rfl, rfl⟩
    rw [(key G).1, (key G).2, (key G').1, (key G').2]
    exact ⟨h1, h2⟩
theorem sw_ws_oth {kd : Nat → Nat} {G : sw_G} {y t w : Nat} (e : ¬ t = w) : (sw_ws kd G y t).1 w = G.1 w ∧ (sw_ws kd G y t).2.1 w = G.2.1 w := by
  unfold sw_ws
  split
  · exact ⟨sw_up_ne (fun z => e z.symm), rfl⟩
  · split
    · exact ⟨rfl, sw_up_ne (fun z => e z.symm)⟩
    · exact ⟨rfl, rfl⟩
theorem sw_od_at {N T : Nat} {kd : Nat → Nat} {x w : Nat} : ∀ (m : Nat) {G G' : sw_G}, G.1 w = G'.1 w → G.2.1 w = G'.2.1 w → sw_od N T kd x w m G = sw_od N T kd x w m G'
  | 0, G, G', _, h2 => by unfold sw_od; rw [h2]
  | m + 1, G, G', h1, h2 => by
    unfold sw_od
    refine ax_it_congr N 0 0 (fun y s _ _ => ?_)
    refine ax_it_congr T 0 s (fun t s _ _ => ?_)
    rw [sw_od_at m (sw_ws_at (kd := kd) (y := y) (t := t) h1 h2).1 (sw_ws_at (kd := kd) (y := y) (t := t) h1 h2).2]
theorem sw_od_has {N T : Nat} {kd : Nat → Nat} {x w : Nat} : ∀ (m : Nat) {G : sw_G}, ¬ G.2.1 w = -9 → sw_od N T kd x w m G = if G.2.1 w = nI x then (N * T) ^ m else 0
  | 0, G, h => by unfold sw_od; rw [Nat.pow_zero]
  | m + 1, G, h => by
    unfold sw_od
    have e : ∀ y t s, s + sw_od N T kd x w m (sw_ws kd G y t) = s + (if G.2.1 w = nI x then (N * T) ^ m else 0) := by
      intro y t s
      rw [sw_od_has m (by rw [sw_ws_O h]; exact h), sw_ws_O h]
    have e2 : ∀ y s, ax_it (fun t s => s + sw_od N T kd x w m (sw_ws kd G y t)) T 0 s = s + T * (if G.2.1 w = nI x then (N * T) ^ m else 0) := by
      intro y s
      rw [← sw_sum_const T 0 s]
      exact ax_it_congr T 0 s (fun t s _ _ => e y t s)
    have e3 : ax_it (fun y s => ax_it (fun t s => s + sw_od N T kd x w m (sw_ws kd G y t)) T 0 s) N 0 0 = 0 + N * (T * (if G.2.1 w = nI x then (N * T) ^ m else 0)) := by
      rw [← sw_sum_const N 0 0]
      exact ax_it_congr N 0 0 (fun y s _ _ => e2 y s)
    rw [e3]
    split
    · rw [Nat.pow_succ, Nat.zero_add, ← Nat.mul_assoc, Nat.mul_comm]
    · rw [Nat.mul_zero, Nat.mul_zero]
theorem sw_od_step {N T : Nat} {kd : Nat → Nat} {x w m : Nat} {G : sw_G} (hw : w < T) : sw_od N T kd x w (m + 1) G = ax_it (fun y s => s + sw_od N T kd x w m (sw_ws kd G y w)) N 0 (N * (T - 1) * sw_od N T kd x w m G) := by
  have e2 : ∀ y s, ax_it (fun t s => s + sw_od N T kd x w m (sw_ws kd G y t)) T 0 s = s + ((T - 1) * sw_od N T kd x w m G + sw_od N T kd x w m (sw_ws kd G y w)) := by
    intro y s
    have := sw_sum_one (A := sw_od N T kd x w m G) (B := sw_od N T kd x w m (sw_ws kd G y w)) (v := w) T 0 s
    rw [if_pos (by omega)] at this
    rw [← this]
    refine ax_it_congr T 0 s (fun t s _ _ => ?_)
    by_cases e : t = w
    · rw [if_pos e, e]
    · rw [if_neg e, sw_od_at m (sw_ws_oth (kd := kd) (y := y) e).1 (sw_ws_oth (kd := kd) (y := y) e).2]
  have e3 : ∀ n y s c, ax_it (fun y s => ax_it (fun t s => s + sw_od N T kd x w m (sw_ws kd G y t)) T 0 s) n y s + (c * ((T - 1) * sw_od N T kd x w m G)) = ax_it (fun y s => s + sw_od N T kd x w m (sw_ws kd G y w)) n y (s + (n + c) * ((T - 1) * sw_od N T kd x w m G)) := by
    intro n
    induction n with
    | zero => intro y s c; rw [Nat.zero_add]; rfl
    | succ n ih =>
      intro y s c
      show ax_it _ n (y + 1) (ax_it (fun t s => s + sw_od N T kd x w m (sw_ws kd G y t)) T 0 s) + _ = ax_it _ n (y + 1) (s + (n + 1 + c) * ((T - 1) * sw_od N T kd x w m G) + sw_od N T kd x w m (sw_ws kd G y w))
      rw [e2, ih]
      congr 1
      rw [show n + 1 + c = (n + c) + 1 by omega, Nat.succ_mul]; omega
  have := e3 N 0 0 0
  rw [Nat.zero_mul, Nat.add_zero, Nat.add_zero, Nat.zero_add] at this
  rw [Nat.mul_assoc]
  exact this
theorem sw_sum_le {f : Nat → Nat} {M : Nat} (hf : ∀ i, f i ≤ M) : ∀ (n w s : Nat), ax_it (fun i s => s + f i) n w s ≤ s + n * M
  | 0, w, s => by rw [Nat.zero_mul]; exact Nat.le_refl _
  | n + 1, w, s => by
    have := sw_sum_le hf n (w + 1) (s + f w)
    have h := hf w
    show ax_it (fun i s => s + f i) n (w + 1) (s + f w) ≤ _
    rw [Nat.succ_mul]; omega
theorem sw_od_le {N T : Nat} {kd : Nat → Nat} {x w : Nat} : ∀ (m : Nat) (G : sw_G), sw_od N T kd x w m G ≤ (N * T) ^ m
  | 0, G => by unfold sw_od; split <;> simp
  | m + 1, G => by
    have ih := sw_od_le (N := N) (T := T) (kd := kd) (x := x) (w := w) m
    have key : ∀ n y s, ax_it (fun y s => ax_it (fun t s => s + sw_od N T kd x w m (sw_ws kd G y t)) T 0 s) n y s ≤ s + n * (T * (N * T) ^ m) := by
      intro n
      induction n with
      | zero => intro y s; rw [Nat.zero_mul]; exact Nat.le_refl _
      | succ n ihn =>
        intro y s
        have h1 := sw_sum_le (f := fun t => sw_od N T kd x w m (sw_ws kd G y t)) (fun t => ih _) T 0 s
        have h2 := ihn (y + 1) (ax_it (fun t s => s + sw_od N T kd x w m (sw_ws kd G y t)) T 0 s)
        show ax_it _ n (y + 1) (ax_it (fun t s => s + sw_od N T kd x w m (sw_ws kd G y t)) T 0 s) ≤ _
        rw [Nat.succ_mul]
        try dsimp only at h1
        omega
    have := key N 0 0
    unfold sw_od
    rw [Nat.pow_succ]
    have e : N * (T * (N * T) ^ m) = (N * T) ^ m * (N * T) := by rw [← Nat.mul_assoc, Nat.mul_comm]
    omega
/-! longs -/
theorem ax_lN_div {a b : Nat} (ha : a < 2 ^ 62) (hb : b < 2 ^ 62) : lN a / lN b = lN (a / b) := by
  apply Int64.toInt_inj.mp
  have h1 : a / b < 2 ^ 62 := Nat.lt_of_le_of_lt (Nat.div_le_self a b) ha
  rw [Int64.toInt_div, ax_lNI ha, ax_lNI hb, ax_lNI h1, Int.tdiv_eq_ediv_of_nonneg (by omega)]
  have : ((a : Int) / (b : Int)) = ((a / b : Nat) : Int) := (Int.natCast_ediv a b).symm
  rw [this]
  generalize a / b = q at h1
  apply Int.bmod_eq_of_le <;> omega
theorem ax_lN_mod {a b : Nat} (ha : a < 2 ^ 62) (hb : b < 2 ^ 62) : lN a - lN a / lN b * lN b = lN (a % b) := by
  rw [ax_lN_div ha hb, lN_mul, lN_sub (Nat.div_mul_le_self a b)]
  congr 1
  have := Nat.div_add_mod a b
  rw [Nat.mul_comm] at this
  omega
theorem ax_lz {b : Nat} (hb : b < 2 ^ 62) : (lg_cmp (lN b) 0 = 0) ↔ b = 0 := by
  rw [lg_cmp_eq, show (0 : Int64) = lN 0 from rfl, ax_lN_eq hb (by omega)]
theorem ax_lnz {b : Nat} (hb : b < 2 ^ 62) (h : ¬ b = 0) : (!decide (lN b = 0)) = true := by
  rw [Bool.not_eq_true', decide_eq_false_iff_not, show (0 : Int64) = lN 0 from rfl, ax_lN_eq hb (by omega)]; exact h
theorem sw_half {b r : Nat} (h1 : r < b) (h0 : 0 < r) : 2 * (b % r) < b := by
  have h2 := Nat.mod_lt b h0
  by_cases h : 2 * r ≤ b
  · omega
  · have : b % r = b - r := by
      rw [Nat.mod_eq_sub_mod (by omega), Nat.mod_eq_of_lt (by omega)]
    omega
theorem cl_gcd {d : Nat} {I : ax_I} {L : ax_J} {K : Int64 → ax_I → ax_J → Prop} : ∀ (k : Nat) {a b s : Nat} {z0 z1 z2 z3 z5 z7 z9 z10 : Option ax_V}, a < 2 ^ 62 → b < 2 ^ 62 → b < 2 ^ k → s + 2 * k ≤ 100 → K (lN (Nat.gcd a b)) I L → ax_AK d 144 (9, [z0, z1, z2, z3, some (ax_vl (lN a)), z5, some (ax_vl (lN b)), z7, some (ax_vi (nI s)), z9, z10], [], ax_mm I L) (ax_kl K) := by
  intro k
  induction k with
  | zero =>
    intro a b s z0 z1 z2 z3 z5 z7 z9 z10 ha hb hk hs hK
    have : b = 0 := by omega
    subst this
    apply vc_X8_greatestShared_9
    rw [Nat.gcd_zero_right] at hK
    exact ax_cf (fun z => by have := (nI_leI (a := 128) (by omega) (by omega)).mp z; omega) (ax_ct ((ax_lz hb).mpr rfl) hK)
  | succ k ih =>
    intro a b s z0 z1 z2 z3 z5 z7 z9 z10 ha hb hk hs hK
    apply vc_X8_greatestShared_9
    refine ax_cf (fun z => by have := (nI_leI (a := 128) (by omega) (by omega)).mp z; omega) ?_
    by_cases h0 : b = 0
    · subst h0
      rw [Nat.gcd_zero_right] at hK
      exact ax_ct ((ax_lz hb).mpr rfl) hK
    refine ax_cf (fun z => h0 ((ax_lz hb).mp z)) ⟨ax_lnz hb h0, ?_⟩
    rw [ax_lN_mod ha hb, nI_1]
    have hr := Nat.mod_lt a (show 0 < b by omega)
    have e1 : Nat.gcd a b = Nat.gcd b (a % b) := by rw [Nat.gcd_comm, Nat.gcd_rec, Nat.gcd_comm]
    rw [e1] at hK
    generalize a % b = r at hr hK
    apply vc_X8_greatestShared_9
    refine ax_cf (fun z => by have := (nI_leI (a := 128) (by omega) (by omega)).mp z; omega) ?_
    by_cases h1 : r = 0
    · subst h1
      rw [Nat.gcd_zero_right] at hK
      exact ax_ct ((ax_lz (by omega)).mpr rfl) hK
    refine ax_cf (fun z => h1 ((ax_lz (by omega)).mp z)) ⟨ax_lnz (by omega) h1, ?_⟩
    rw [ax_lN_mod hb (by omega), nI_1]
    have hh := sw_half hr (by omega)
    have e2 : Nat.gcd b r = Nat.gcd r (b % r) := by rw [Nat.gcd_comm, Nat.gcd_rec, Nat.gcd_comm]
    rw [e2] at hK
    rw [Nat.pow_succ] at hk
    exact ih (by omega) (by omega) (by omega) (by omega) hK
theorem rf_gcd {d u l : Nat} {I : ax_I} {L : ax_J} {K : Int32 → ax_I → ax_J → Prop} (hu : u < 2 ^ 62) (hl : l < 2 ^ 62) : ∀ (k : Nat) {a b : Nat} {z2 z4 z6 z8 z9 z10 : Option ax_V}, a < 2 ^ 62 → b < 2 ^ 62 → b ≤ k → 0 < Nat.gcd a b → K 1 I (ax_ul (ax_ul L 184 3 (lN (u / Nat.gcd a b))) 184 4 (lN (l / Nat.gcd a b))) → ax_AK d 157 (6, [some (ax_vr 9 0 184), some (ax_vl (lN u)), z2, some (ax_vl (lN l)), z4, some (ax_vl (lN a)), z6, some (ax_vl (lN b)), z8, z9, z10], [], ax_mm I L) (ax_ki K) := by
  intro k
  induction k with
  | zero =>
    intro a b z2 z4 z6 z8 z9 z10 ha hb hk h0 hK
    have : b = 0 := by omega
    subst this
    rw [Nat.gcd_zero_right] at hK h0
    apply vc_X9_part_6
    rw [ax_lN_div hu ha, ax_lN_div hl ha]
    exact ax_ct ((ax_lz hb).mpr rfl) ⟨ax_lnz ha (by omega), ax_lnz ha (by omega), hK⟩
  | succ k ih =>
    intro a b z2 z4 z6 z8 z9 z10 ha hb hk h0 hK
    by_cases h1 : b = 0
    · subst h1
      rw [Nat.gcd_zero_right] at hK h0
      apply vc_X9_part_6
      rw [ax_lN_div hu ha, ax_lN_div hl ha]
      exact ax_ct ((ax_lz hb).mpr rfl) ⟨ax_lnz ha (by omega), ax_lnz ha (by omega), hK⟩
    · have hr := Nat.mod_lt a (show 0 < b by omega)
      have e1 : Nat.gcd a b = Nat.gcd b (a % b) := by rw [Nat.gcd_comm, Nat.gcd_rec, Nat.gcd_comm]
      rw [e1] at hK h0
      apply vc_X9_part_6
      refine ax_cf (fun z => h1 ((ax_lz hb).mp z)) ⟨ax_lnz hb h1, ?_⟩
      rw [ax_lN_mod ha hb]
      exact ih hb (by omega) (by omega) h0 hK
