theorem ax_met_imp {l : Launch} {y : MethodName} {ws : List Cond} {rm : Room} {P P' : Array Value → State → Prop} {Q Q' : Array Value → State → Outcome → State → Prop} {mc ms : Nat} {free : Addr → Prop} (h : Met l y ws rm P Q mc ms free) (hP : ∀ a s, P' a s → P a s) (hQ : ∀ a s o t, P' a s → Q a s o t → Q' a s o t) : Met l y ws rm P' Q' mc ms free := by
  intro p e h1 h2 h3 s m args below hf ha hp hk
  obtain ⟨n, o, x1, x2, x3, x4, x5⟩ := h p e h1 h2 h3 s m args below hf ha (hP _ _ hp) hk
  exact ⟨n, o, x1, x2, x3, hQ _ _ _ _ hp x4, x5⟩
theorem ax_kd4b : ((List.range 212).all fun o => Nat.ble 10 (ax_shp o).1 || (List.range (ax_N (ax_shp o).1)).all fun k => Nat.ble (ax_kd (ax_shp o).1 k) 4) = true := by decide +kernel
theorem ax_kdle {o k : Nat} (h : o < 212) (ht : (ax_shp o).1 < 10) (hk : k < ax_N (ax_shp o).1) : ax_kd (ax_shp o).1 k ≤ 4 := by
  have e := ax_all ax_kd4b o h
  rw [Bool.or_eq_true] at e
  rcases e with e | e
  · have := Nat.ble_eq.mp e; omega
  · exact Nat.ble_eq.mp (ax_all e k hk)
theorem ax_arrV_eq {cI : ClassId} {N : Nat} {f g : Nat → Value} (h : ∀ k, k < N → f k = g k) : arrV cI N f = arrV cI N g := by
  unfold arrV
  congr 1
  exact congrArg Array.ofFn (funext fun j => h j.val j.isLt)
def ax_rel (o k : Nat) : Bool := (Nat.blt (ax_shp o).1 10 && (Nat.beq (ax_kd (ax_shp o).1 k) 2 || Nat.beq (ax_kd (ax_shp o).1 k) 4)) || (Nat.ble 13 (ax_shp o).1 && Nat.ble (ax_shp o).1 17)
theorem ax_Rep_to {G1 G2 : ax_G} {m m' : ax_M} {H : Heap} (h : ax_Rep G1 m H) (e1 : G2.1 = G1.1) (e3 : G2.2.2.1 = G1.2.2.1) (e4 : G2.2.2.2.1 = G1.2.2.2.1) (e5 : G2.2.2.2.2.1 = G1.2.2.2.2.1) (hc : m'.1 = m.1) (hI : ∀ o, 3 ≤ o → m'.2.1 o = m.2.1 o) (hL : m'.2.2.1 = m.2.2.1) (hS : ∀ o, 3 ≤ o → o < m.1 → ∀ k, k < ax_sz o → ax_rel o k = true → m'.2.2.2 o k = m.2.2.2 o k) (hF : m.1 = 212 ∨ ∀ o k, m.1 ≤ o → m'.2.2.2 o k = false) (h0 : ∀ o j, o < 3 → m'.2.1 o j = G2.2.2.2.2.2.2 o j) : ax_Rep G2 m' H := by
  obtain ⟨h1, h2, h3, h4, h5, h6, h7⟩ := h
  have ad : ∀ o, 3 ≤ o → ax_adr G2 o = ax_adr G1 o := fun o ho => by unfold ax_adr; rw [if_neg (by omega), if_neg (by omega), e1]
  refine ⟨by rw [hc]; exact h1, by rw [hc, e1]; exact h2, by rw [e1]; exact h3, fun o o3 om => ?_, fun o o3 om k hk hs => ?_, ?_, h0⟩
  · rw [hc] at om
    have hc4 := h4 o o3 om
    have ht4 := h5 o o3 om
    have h212 : o < 212 := by omega
    unfold ax_cell at hc4 ⊢
    by_cases ht : (ax_shp o).1 < 10
    · rw [if_pos ht] at hc4 ⊢
      rw [ad o o3, e3, e4]
      refine hc4.to (fun k hk => ?_)
      have hsz : k < ax_sz o := by unfold ax_sz; rw [show Nat.ble 10 (ax_shp o).1 = false from Bool.eq_false_iff.mpr (fun z => by have := Nat.ble_eq.mp z; omega)]; exact hk
      have k4 := ax_kdle h212 ht hk
      unfold ax_fv
      rcases (show ax_kd (ax_shp o).1 k = 0 ∨ ax_kd (ax_shp o).1 k = 1 ∨ ax_kd (ax_shp o).1 k = 2 ∨ ax_kd (ax_shp o).1 k = 3 ∨ ax_kd (ax_shp o).1 k = 4 by omega) with e | e | e | e | e
      · rw [e]; show Value.int (m.2.1 o k) = Value.int (m'.2.1 o k); rw [hI o o3]
      · rw [e]; show Value.long (m.2.2.1 o k) = Value.long (m'.2.2.1 o k); rw [hL]
      · have er : ax_rel o k = true := by unfold ax_rel; rw [e, show Nat.blt (ax_shp o).1 10 = true from Nat.ble_eq.mpr ht]; rfl
        have la := (ax_layok o h212 o3 ht k hk e).2
        rw [e]; show (if m.2.2.2 o k = true then Value.ref (ax_adr G1 (ax_lay (ax_shp o).1 (ax_shp o).2 o k).2.2) else Value.null) = (if m'.2.2.2 o k = true then Value.ref (ax_adr G2 (ax_lay (ax_shp o).1 (ax_shp o).2 o k).2.2) else Value.null)
        rw [hS o o3 om k hsz er, ad _ la]
      · rw [e]; show Value.int (m.2.1 o k) = Value.int (m'.2.1 o k); rw [hI o o3]
      · have er : ax_rel o k = true := by unfold ax_rel; rw [e, show Nat.blt (ax_shp o).1 10 = true from Nat.ble_eq.mpr ht]; rfl
        have tg := ht4 k hsz
        rw [e]; show (if m.2.2.2 o k = true then Value.ref (ax_adr G1 (m.2.1 o k).toNatClampNeg) else Value.null) = (if m'.2.2.2 o k = true then Value.ref (ax_adr G2 (m'.2.1 o k).toNatClampNeg) else Value.null)
        rw [hS o o3 om k hsz er, hI o o3]
        by_cases z : m.2.2.2 o k = true
        · have tg := tg z
          unfold ax_tg at tg
          rw [if_pos ht, if_neg (by omega), if_pos e] at tg
          rw [if_pos z, if_pos z, ad _ tg.1]
        · rw [if_neg z, if_neg z]
    · rw [if_neg ht] at hc4 ⊢
      rw [ad o o3, e5, hc4]
      congr 1
      refine ax_arrV_eq (fun k hk => ?_)
      have hsz : k < ax_sz o := by unfold ax_sz; rw [show Nat.ble 10 (ax_shp o).1 = true from Nat.ble_eq.mpr (by omega)]; exact hk
      unfold ax_av
      by_cases z : 13 ≤ (ax_shp o).1 ∧ (ax_shp o).1 ≤ 17
      · rw [if_pos z, if_pos z]
        have er : ax_rel o k = true := by unfold ax_rel; rw [show Nat.ble 13 (ax_shp o).1 = true from Nat.ble_eq.mpr z.1, show Nat.ble (ax_shp o).1 17 = true from Nat.ble_eq.mpr z.2, Bool.and_true, Bool.or_true]
        rw [hS o o3 om k hsz er, ad _ (ax_elyok o h212 z.1 (by omega) o3 k hk).2]
      · rw [if_neg z, if_neg z, hI o o3]
  · rw [hc] at om
    have tg := h5 o o3 om k hk
    by_cases er : ax_rel o k = true
    · rw [hS o o3 om k hk er] at hs
      have tg := tg hs
      unfold ax_tg at tg ⊢
      rw [hc, hI o o3]; exact tg
    · unfold ax_tg
      unfold ax_rel at er
      by_cases ht : (ax_shp o).1 < 10
      · rw [if_pos ht]
        have hb : Nat.blt (ax_shp o).1 10 = true := Nat.ble_eq.mpr ht
        rw [if_neg, if_neg]
        · trivial
        · intro z; apply er; rw [hb, z]; rfl
        · intro z; apply er; rw [hb, z]; rfl
      · rw [if_neg ht]
        by_cases z : 13 ≤ (ax_shp o).1 ∧ (ax_shp o).1 ≤ 17
        · exfalso; apply er
          rw [show Nat.ble 13 (ax_shp o).1 = true from Nat.ble_eq.mpr z.1, show Nat.ble (ax_shp o).1 17 = true from Nat.ble_eq.mpr z.2, Bool.and_true, Bool.or_true]
        · rw [if_neg z]; trivial
  · rw [hc]
    rcases hF with z | z
    · exact .inl z
    · rcases h6 with y | y
      · exact .inl y
      · exact .inr (fun o k ho => ⟨by rw [hI o (by omega)]; exact (y o k ho).1, by rw [hL]; exact (y o k ho).2.1, z o k ho⟩)
/-- the script's cell stands for the parents' -/
def ax_ga (G : ax_G) : ax_G := (G.1, (fun o => if o = 0 then G.2.1 1 else G.2.1 o), G.2.2.1, G.2.2.2.1, G.2.2.2.2.1, 6, fun o j => if o = 0 then G.2.2.2.2.2.2 1 j else G.2.2.2.2.2.2 o j)
theorem ax_ga_K {G : ax_G} {s : State} (h : ax_K G s) : ax_K (ax_ga G) s := by
  obtain ⟨h1, h2, h3, h4, h5, h6, h7, h8⟩ := h
  exact ⟨h1, h2, h3, h4, h5, h7, h7, h8⟩
theorem ax_met_patch {l : Launch} {d y : Nat} {t o : Nat} {m0 m0' m m' : ax_M} (h : ax_Met l d y [ax_vr t 0 o] m0 none m0') (ho : 3 ≤ o) (hc : m.1 = m0.1) (hI : ∀ o, ¬ o = 0 → m.2.1 o = m0.2.1 o) (h01 : ∀ j, m0.2.1 0 j = m0.2.1 1 j) (hr : m.2.2 = m0.2.2) (hc' : m'.1 = m0'.1) (hI' : ∀ o, ¬ o = 0 → m'.2.1 o = m0'.2.1 o) (h0' : m'.2.1 0 = m.2.1 0) (hL' : m'.2.2.1 = m0'.2.2.1) (hS' : ∀ o, 3 ≤ o → o < m0'.1 → ∀ k, k < ax_sz o → ax_rel o k = true → m'.2.2.2 o k = m0'.2.2.2 o k) (hF : m0'.1 = 212 ∨ ∀ o k, m0'.1 ≤ o → m'.2.2.2 o k = false) : ax_Met l d y [ax_vr t 0 o] m none m' := by
  intro G
  have ad : ax_adr (ax_ga G) o = ax_adr G o := by unfold ax_adr; rw [if_neg (by omega), if_neg (by omega)]; rfl
  have key := h (ax_ga G)
  have e1 : ax_rm d m0 m0' = ax_rm d m m' := by unfold ax_rm; rw [hc, hc']
  rw [e1, ← hc, ← hc'] at key
  refine ax_met_imp key (fun a s hp => ?_) (fun a s oo tt hp hq => ?_)
  · obtain ⟨p1, p2, p3, p4⟩ := hp
    refine ⟨?_, ax_ga_K p2, ?_, fun x hx => ?_⟩
    · rw [p1]
      show #[Value.ref (ax_adr G o)] = #[Value.ref (ax_adr (ax_ga G) o)]
      rw [ad]
    · have g := p3.2.2.2.2.2.2
      have hFf := p3.2.2.2.2.2.1
      refine ax_Rep_to (m' := m0) p3 rfl rfl rfl rfl hc.symm (fun o ho => (hI o (by omega)).symm) (by rw [hr]) (fun o _ _ k _ _ => by rw [hr]) ?_ (fun oo j hoo => ?_)
      · rcases hFf with z | z
        · exact .inl z
        · exact .inr (fun o k ho => by rw [← hr]; exact (z o k ho).2.2)
      · show m0.2.1 oo j = if oo = 0 then G.2.2.2.2.2.2 1 j else G.2.2.2.2.2.2 oo j
        by_cases z : oo = 0
        · rw [if_pos z, z, h01 j, ← hI 1 (by omega)]; exact g 1 j (by omega)
        · rw [if_neg z, ← hI oo z]; exact g oo j hoo
    · have q := p4 x hx
      rcases List.mem_singleton.mp hx with rfl
      rw [← hc]
      refine ⟨q.1, ?_⟩
      have q2 := q.2
      have q2 : ax_sp G o = (t, 0) := q2
      rw [ax_sp3 G ho] at q2
      show ax_sp (ax_ga G) o = (t, 0)
      rw [ax_sp3 _ ho]; exact q2
  · obtain ⟨q1, q2⟩ := hq
    refine ⟨q1, ?_⟩
    have g := hp.2.2.1.2.2.2.2.2.2
    have g2 := q2.2.2.2.2.2.2
    refine ax_Rep_to q2 rfl rfl rfl rfl hc' (fun o ho => hI' o (by omega)) hL' hS' hF (fun oo j hoo => ?_)
    by_cases z : oo = 0
    · rw [z, h0']; exact g 0 j (by omega)
    · rw [hI' oo z]
      have := g2 oo j hoo
      rw [this]
      show (if oo = 0 then _ else G.2.2.2.2.2.2 oo j) = _
      rw [if_neg z]
