/-! needs: 30 -/
/-! WHAT IS ASKED OF BOTH: a town's game -/
def sw_up (F : Nat → Int32) (w : Nat) (v : Int32) : Nat → Int32 := fun a => if a = w then v else F a
theorem sw_up_eq {F : Nat → Int32} {w : Nat} {v : Int32} : sw_up F w v w = v := if_pos rfl
theorem sw_up_ne {F : Nat → Int32} {w a : Nat} {v : Int32} (h : ¬ a = w) : sw_up F w v a = F a := if_neg h
/-- FIRSTS, to whom GRANTED, what was GRANTED, the latest first -/
abbrev sw_G : Type := (Nat → Int32) × (Nat → Int32) × List Nat
def sw_out (kd : Nat → Nat) (G : sw_G) (x w : Nat) : Nat := if G.1 w = -9 then 1 else if G.2.1 w = -9 ∧ (¬ G.1 w = nI x ∨ kd x = 5) then 2 else 0
def sw_own (kd : Nat → Nat) (G : sw_G) (x w : Nat) : Int32 := if kd x = 4 then G.1 w else nI x
def sw_ws (kd : Nat → Nat) (G : sw_G) (x w : Nat) : sw_G := if G.1 w = -9 then (sw_up G.1 w (nI x), G.2.1, G.2.2) else if G.2.1 w = -9 ∧ (¬ G.1 w = nI x ∨ kd x = 5) then (G.1, sw_up G.2.1 w (sw_own kd G x w), w :: G.2.2) else G
def sw_ko (a k : Nat) : Bool := decide (a = k) || (decide (a = 5) && decide (k = 1)) || (decide (a = 4) && decide (k = 2))
def sw_hu (un : Nat → Int32) : List Nat → Int32 × Int32 → Int32 × Int32
  | [], a => a
  | v :: R, a => sw_hu un R (if ax_bt a.2 v then a else (a.1 ||| (1 : Int32) <<< (nI v &&& 31), a.2 ||| un v))
def sw_hd (un : Nat → Int32) (R : List Nat) : Int32 := (sw_hu un R (0, 0)).1
def sw_gn (W : Nat → Nat → Nat) (un : Nat → Int32) (G : sw_G) (x : Nat) : Nat := ax_it (fun w a => if ax_bt (sw_hd un G.2.2) w && decide (G.2.1 w = nI x) then a + W x w else a) 6 0 0
/-- who HEARS one -/
def sw_hp (N : Nat) (kd : Nat → Nat) (tl : Nat → Int32) (x y : Nat) : Bool := decide (y < N) && !decide (y = x) && (sw_ko (kd x) 2 || (!sw_ko (kd x) 1 && (ax_bt (tl x) y || decide (kd y = 3))))
def sw_hr (N : Nat) (kd : Nat → Nat) (tl : Nat → Int32) (x : Nat) : Int32 := ax_ms 6 (sw_hp N kd tl x)
/-- what holds of every town, of every state of it -/
def sw_TG (N T : Nat) (kd : Nat → Nat) (tl un : Nat → Int32) : Prop := N ≤ 6 ∧ T ≤ 6 ∧ (N = 0 ↔ T = 0) ∧ (∀ x, x < N → kd x < 6) ∧ (∀ x, x < N → ∀ i, i < 32 → ax_bt (tl x) i = true → i < N ∧ ¬ i = x) ∧ (∀ w, w < 6 → ∀ i, i < 32 → ax_bt (un w) i = true → i < T) ∧ (∀ w, T ≤ w → w < 6 → un w = 0)
def sw_cn (O : Nat → Int32) : Nat := ax_it (fun w a => if O w = -9 then a else a + 1) 6 0 0
def sw_GI (N T : Nat) (G : sw_G) : Prop := G.2.2.length = sw_cn G.2.1 ∧ G.2.2.Nodup ∧ (∀ w, w < 6 → (w ∈ G.2.2 ↔ ¬ G.2.1 w = -9)) ∧ (∀ v, v ∈ G.2.2 → v < T) ∧ (∀ w, w < 6 → G.1 w = -9 ∨ ∃ k, k < N ∧ G.1 w = nI k) ∧ (∀ w, w < 6 → G.2.1 w = -9 ∨ ∃ k, k < N ∧ G.2.1 w = nI k) ∧ (∀ w, w < 6 → G.1 w = -9 → G.2.1 w = -9) ∧ (∀ w, w < 6 → T ≤ w → G.1 w = -9)
theorem sw_cn_le {O : Nat → Int32} : ∀ n w a, ax_it (fun w a => if O w = -9 then a else a + 1) n w a ≤ a + n
  | 0, w, a => Nat.le_refl _
  | n + 1, w, a => by
    show ax_it (fun w a => if O w = -9 then a else a + 1) n (w + 1) (if O w = -9 then a else a + 1) ≤ a + (n + 1)
    have := sw_cn_le (O := O) n (w + 1) (if O w = -9 then a else a + 1)
    by_cases h : O w = -9
    · rw [if_pos h] at this ⊢; omega
    · rw [if_neg h] at this ⊢; omega
theorem sw_cn_up {O : Nat → Int32} {v : Nat} {z : Int32} (hz : ¬ z = -9) (hv : O v = -9) : ∀ n w a, ax_it (fun w a => if sw_up O v z w = -9 then a else a + 1) n w a = ax_it (fun w a => if O w = -9 then a else a + 1) n w a + (if w ≤ v ∧ v < w + n then 1 else 0)
  | 0, w, a => by
    rw [if_neg (by omega)]; rfl
  | n + 1, w, a => by
    rw [ax_it_succ, ax_it_succ, sw_cn_up hz hv n w a]
    generalize ax_it (fun w a => if O w = -9 then a else a + 1) n w a = A
    by_cases h : w + n = v
    · rw [h, sw_up_eq, if_neg hz, if_pos hv, if_neg (show ¬ (w ≤ v ∧ v < v) by omega), if_pos (show w ≤ v ∧ v < w + (n + 1) by omega)]
    · rw [sw_up_ne h]
      by_cases h2 : w ≤ v ∧ v < w + n
      · rw [if_pos h2, if_pos (show w ≤ v ∧ v < w + (n + 1) by omega)]; split <;> omega
      · rw [if_neg h2, if_neg (show ¬ (w ≤ v ∧ v < w + (n + 1)) by omega)]; split <;> omega
theorem sw_cn_lt {O : Nat → Int32} {v : Nat} (hv : O v = -9) (h6 : v < 6) : sw_cn O < 6 := by
  have h := sw_cn_up (O := O) (v := v) (z := 0) (by decide) hv 6 0 0
  rw [if_pos (by omega)] at h
  have h2 := sw_cn_le (O := sw_up O v 0) 6 0 0
  unfold sw_cn
  omega
theorem sw_GI.room {N T : Nat} {G : sw_G} (h : sw_GI N T G) {w : Nat} (hw : w < 6) (ho : G.2.1 w = -9) : G.2.2.length < 6 := by
  rw [h.1]; exact sw_cn_lt ho hw
theorem sw_GI.len {N T : Nat} {G : sw_G} (h : sw_GI N T G) : G.2.2.length ≤ 6 := by
  rw [h.1]; have := sw_cn_le (O := G.2.1) 6 0 0; unfold sw_cn; omega
theorem sw_GI.wish {N T : Nat} {G : sw_G} (h : sw_GI N T G) (hN : N ≤ 6) (hT : T ≤ 6) {kd : Nat → Nat} {x w : Nat} (hx : x < N) (hw : w < T) : sw_GI N T (sw_ws kd G x w) := by
  obtain ⟨h1, h2, h3, h4, h5, h6, h7, h8⟩ := h
  unfold sw_ws
  split
  · rename_i hf
    refine ⟨h1, h2, h3, h4, ?_, h6, ?_, ?_⟩
    · intro v hv
      by_cases e : v = w
      · subst e; exact .inr ⟨x, hx, sw_up_eq⟩
      · show sw_up _ _ _ _ = _ ∨ ∃ k, k < N ∧ sw_up _ _ _ _ = _
        rw [sw_up_ne e]; exact h5 v hv
    · intro v hv
      by_cases e : v = w
      · subst e; intro _; exact h7 v hv hf
      · show sw_up _ _ _ _ = _ → _
        rw [sw_up_ne e]; exact h7 v hv
    · intro v hv hT
      show sw_up _ _ _ _ = _
      rw [sw_up_ne (by omega)]; exact h8 v hv hT
  · rename_i hf
    split
    · rename_i hg
      have hz : ¬ sw_own kd G x w = -9 := by
        unfold sw_own
        split
        · exact hf
        · exact ax_ne9 (by omega)
      refine ⟨?_, ?_, ?_, ?_, h5, ?_, ?_, h8⟩
      · show G.2.2.length + 1 = _
        rw [h1]
        unfold sw_cn
        rw [sw_cn_up hz hg.1, if_pos (by omega)]
      · refine List.nodup_cons.mpr ⟨?_, h2⟩
        intro hm
        exact (h3 w (by omega)).mp hm hg.1
      · intro v hv
        show v ∈ w :: G.2.2 ↔ ¬ sw_up _ _ _ _ = _
        by_cases e : v = w
        · subst e; rw [sw_up_eq]; exact ⟨fun _ => hz, fun _ => List.mem_cons_self⟩
        · rw [sw_up_ne e, ← h3 v hv]
          exact ⟨fun q => (List.mem_cons.mp q).resolve_left e, fun q => List.mem_cons_of_mem _ q⟩
      · intro v hv
        rcases List.mem_cons.mp hv with e | e
        · omega
        · exact h4 v e
      · intro v hv
        show sw_up _ _ _ _ = _ ∨ ∃ k, k < N ∧ sw_up _ _ _ _ = _
        by_cases e : v = w
        · subst e; rw [sw_up_eq]
          unfold sw_own
          split
          · exact h5 v hv
          · exact .inr ⟨x, hx, rfl⟩
        · rw [sw_up_ne e]; exact h6 v hv
      · intro v hv hq
        show sw_up _ _ _ _ = _
        by_cases e : v = w
        · subst e; exact absurd hq hf
        · rw [sw_up_ne e]; exact h7 v hv hq
    · exact ⟨h1, h2, h3, h4, h5, h6, h7, h8⟩
theorem sw_out_le {kd : Nat → Nat} {G : sw_G} {x w : Nat} : sw_out kd G x w ≤ 2 := by
  unfold sw_out; split; omega; split <;> omega
theorem sw_ws_1 {kd : Nat → Nat} {G : sw_G} {x w : Nat} (h : sw_out kd G x w = 1) : G.1 w = -9 ∧ sw_ws kd G x w = (sw_up G.1 w (nI x), G.2.1, G.2.2) := by
  unfold sw_out at h
  split at h
  · rename_i q; exact ⟨q, by unfold sw_ws; rw [if_pos q]⟩
  · split at h <;> omega
theorem sw_ws_2 {kd : Nat → Nat} {G : sw_G} {x w : Nat} (h : sw_out kd G x w = 2) : (¬ G.1 w = -9) ∧ (G.2.1 w = -9 ∧ (¬ G.1 w = nI x ∨ kd x = 5)) ∧ sw_ws kd G x w = (G.1, sw_up G.2.1 w (sw_own kd G x w), w :: G.2.2) := by
  unfold sw_out at h
  split at h
  · omega
  · rename_i q
    split at h
    · rename_i q2; exact ⟨q, q2, by unfold sw_ws; rw [if_neg q, if_pos q2]⟩
    · omega
theorem sw_ws_0 {kd : Nat → Nat} {G : sw_G} {x w : Nat} (h : sw_out kd G x w = 0) : sw_ws kd G x w = G := by
  unfold sw_out at h
  split at h
  · omega
  · rename_i q
    split at h
    · omega
    · rename_i q2; unfold sw_ws; rw [if_neg q, if_neg q2]
/-- bits of what holds: only of what was granted -/
theorem sw_hu_bt {un : Nat → Int32} : ∀ (R : List Nat) (a : Int32 × Int32) (i : Nat), i < 32 → (∀ v, v ∈ R → v < 32) → ax_bt (sw_hu un R a).1 i = true → ax_bt a.1 i = true ∨ i ∈ R
  | [], a, i, _, _, h => .inl h
  | v :: R, a, i, hi, hR, h => by
    have hv := hR v List.mem_cons_self
    rcases sw_hu_bt R _ i hi (fun u q => hR u (List.mem_cons_of_mem _ q)) h with q | q
    · split at q
      · exact .inl q
      · have q : ax_bt (a.1 ||| (1 : Int32) <<< (nI v &&& 31)) i = true := q
        rw [ax_bt_or, ax_bt_sh hv hi, Bool.or_eq_true, decide_eq_true_eq] at q
        rcases q with q | q
        · exact .inl q
        · exact .inr (q ▸ List.mem_cons_self)
    · exact .inr (List.mem_cons_of_mem _ q)
theorem sw_hd_bt {un : Nat → Int32} {R : List Nat} {i : Nat} (hi : i < 32) (hR : ∀ v, v ∈ R → v < 32) (h : ax_bt (sw_hd un R) i = true) : i ∈ R := by
  rcases sw_hu_bt R (0, 0) i hi hR h with q | q
  · rw [ax_bt_0] at q; cases q
  · exact q
