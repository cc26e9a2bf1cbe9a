theorem ax_shp_small : ∀ o, o < 212 → (ax_shp o).2 ≤ 10000 := by decide +kernel
theorem ax_shp_sm (o : Nat) : (ax_shp o).2 ≤ 10000 := by
  rcases Nat.lt_or_ge o 212 with q | q
  · exact ax_shp_small o q
  · rw [ax_shp_big q]; omega
set_option maxRecDepth 100000 in
theorem ax_nestw : Cond.fieldLinkNest "SecondWish$Town" 47 "SecondWish" "PARENT" "[I" "SecondWish" ∈ lw_tbl ∧ Cond.fieldLinkNest "SecondWish$Reader" 93 "SecondWish" "LETTER" "[C" "SecondWish" ∈ lw_tbl := ⟨List.mem_of_getElem? (i := 579) rfl, List.mem_of_getElem? (i := 527) rfl⟩
theorem ax_multi_pos : ∀ o, o < 212 → 16 ≤ (ax_shp o).1 → (ax_shp o).1 ≤ 17 → 0 < (ax_shp o).2 := by decide +kernel
section AXE
variable {p : Program} {l : Launch} {e : Env} {R : Room} {s : State} {mt : MethodId} {args : Array Value} {below : List Frame} {meth : Method} {c : Code} {Q : State → Prop} {G : ax_G} {c0 cF d y : Nat} {RT : Option ax_V → ax_M → Prop}
variable {pc len : Nat} {j : Instr} {ls : ax_L} {st : List ax_V} {m : ax_M}
theorem axd_getfield (C : ax_Cx p s mt meth c R G y d c0 cF) {q : Nat} (hd : decode (ax_by y) pc = .ok (j, len)) (hl : ax_lnk y pc j len (.getfield q) = true) : ax_PO p l e R s mt args below meth c Q G c0 cF d y RT (pc, ls, st, m) (ax_eff (ax_rk y) (.getfield q) (pc + len) ls st m) := by
  unfold ax_lnk at hl
  dsimp only at hl
  split at hl
  · rename_i idx
    simp only [Bool.and_eq_true, Nat.beq_eq, decide_eq_true_eq] at hl
    obtain ⟨rfl, hm⟩ := hl
    rcases st with _ | ⟨v1, r⟩
    · exact trivial
    · rcases v1 with w | w | ⟨t, n, o⟩
      · exact trivial
      · exact trivial
      · show ax_PO p l e R s mt args below meth c Q G c0 cF d y RT (pc, ls, ax_vr t n o :: r, m) (bif Nat.beq t (q / 100) then (match ax_kd t (q % 100) with
          | 0 => ax_go (pc + 3, ls, ax_vi (m.2.1 o (q % 100)) :: r, m)
          | 1 => ax_go (pc + 3, ls, ax_vl (m.2.2.1 o (q % 100)) :: r, m)
          | 2 => bif m.2.2.2 o (q % 100) then ax_go (pc + 3, ls, .inr (.inr (ax_lay t n o (q % 100))) :: r, m) else ax_no
          | 3 => ax_go (pc + 3, ls, ax_vi (m.2.1 o (q % 100)) :: r, m)
          | _ => bif m.2.2.2 o (q % 100) then ax_go (pc + 3, ls, ax_vr 10 (ax_shp (m.2.1 o (q % 100)).toNatClampNeg).2 (m.2.1 o (q % 100)).toNatClampNeg :: r, m) else ax_no) else ax_no)
        cases hb : Nat.beq t (q / 100) with
        | false => exact trivial
        | true =>
          have ht : q / 100 = t := (Nat.eq_of_beq_eq_true hb).symm
          obtain ⟨-, h10, hk⟩ := ax_FL_of hm C.2.2.2.2.2.2.2.2.2
          rw [ht] at h10 hk
          have h5 := (ax_kd_ty h10 hk).2.2.2.2.2
          rcases (show ax_kd t (q % 100) = 0 ∨ ax_kd t (q % 100) = 1 ∨ ax_kd t (q % 100) = 2 ∨ ax_kd t (q % 100) = 3 ∨ ax_kd t (q % 100) = 4 by omega) with z | z | z | z | z
          · rw [z]; exact fun _ K => axw_getI C hd hm ht (Or.inl z) K
          · rw [z]; exact fun _ K => axw_getL C hd hm ht z K
          · rw [z]
            cases hS : m.2.2.2 o (q % 100) with
            | false => exact trivial
            | true => exact fun _ K => axw_getR C hd hm ht z hS K
          · rw [z]; exact fun _ K => axw_getI C hd hm ht (Or.inr z) K
          · rw [z]
            cases hS : m.2.2.2 o (q % 100) with
            | false => exact trivial
            | true => exact fun _ K => axw_getQ C hd hm ht z hS K
  · cases hl
theorem axd_putfield (C : ax_Cx p s mt meth c R G y d c0 cF) {q : Nat} (hd : decode (ax_by y) pc = .ok (j, len)) (hl : ax_lnk y pc j len (.putfield q) = true) : ax_PO p l e R s mt args below meth c Q G c0 cF d y RT (pc, ls, st, m) (ax_eff (ax_rk y) (.putfield q) (pc + len) ls st m) := by
  unfold ax_lnk at hl
  dsimp only at hl
  split at hl
  · rename_i idx
    simp only [Bool.and_eq_true, Bool.or_eq_true, Nat.beq_eq, decide_eq_true_eq] at hl
    obtain ⟨⟨rfl, hm⟩, hfin⟩ := hl
    rcases st with _ | ⟨v1, _ | ⟨v2, r⟩⟩
    · exact trivial
    · rcases v1 with w | w | w <;> exact trivial
    · rcases v2 with w2 | w2 | ⟨t, n, o⟩
      · rcases v1 with w | w | w <;> exact trivial
      · rcases v1 with w | w | w <;> exact trivial
      · rcases v1 with x | x | ⟨t', n', o'⟩
        · show ax_PO p l e R s mt args below meth c Q G c0 cF d y RT (pc, ls, ax_vi x :: ax_vr t n o :: r, m) (bif Nat.beq t (q / 100) then (match ax_kd t (q % 100) with
            | 0 => ax_go (pc + 3, ls, r, ax_wi m o (q % 100) x)
            | 3 => ax_gd (ax_bit x) (pc + 3, ls, r, ax_wi m o (q % 100) x)
            | _ => ax_no) else ax_no)
          cases hb : Nat.beq t (q / 100) with
          | false => exact trivial
          | true =>
            have ht : q / 100 = t := (Nat.eq_of_beq_eq_true hb).symm
            obtain ⟨-, h10, hk⟩ := ax_FL_of hm C.2.2.2.2.2.2.2.2.2
            rw [ht] at h10 hk
            have h5 := (ax_kd_ty h10 hk).2.2.2.2.2
            rcases (show ax_kd t (q % 100) = 0 ∨ ax_kd t (q % 100) = 1 ∨ ax_kd t (q % 100) = 2 ∨ ax_kd t (q % 100) = 3 ∨ ax_kd t (q % 100) = 4 by omega) with z | z | z | z | z
            · rw [z]; exact fun _ K => axw_putI C hd hm ht (Or.inl z) K
            · rw [z]; exact trivial
            · rw [z]; exact trivial
            · rw [z]; exact fun hg _ K => axw_putI C hd hm ht (Or.inr ⟨z, hg⟩) K
            · rw [z]; exact trivial
        · show ax_PO p l e R s mt args below meth c Q G c0 cF d y RT (pc, ls, ax_vl x :: ax_vr t n o :: r, m) (bif Nat.beq t (q / 100) then (match ax_kd t (q % 100) with
            | 1 => ax_go (pc + 3, ls, r, ax_wl m o (q % 100) x)
            | _ => ax_no) else ax_no)
          cases hb : Nat.beq t (q / 100) with
          | false => exact trivial
          | true =>
            have ht : q / 100 = t := (Nat.eq_of_beq_eq_true hb).symm
            obtain ⟨-, h10, hk⟩ := ax_FL_of hm C.2.2.2.2.2.2.2.2.2
            rw [ht] at h10 hk
            have h5 := (ax_kd_ty h10 hk).2.2.2.2.2
            rcases (show ax_kd t (q % 100) = 0 ∨ ax_kd t (q % 100) = 1 ∨ ax_kd t (q % 100) = 2 ∨ ax_kd t (q % 100) = 3 ∨ ax_kd t (q % 100) = 4 by omega) with z | z | z | z | z
            · rw [z]; exact trivial
            · rw [z]; exact fun _ K => axw_putL C hd hm ht z K
            · rw [z]; exact trivial
            · rw [z]; exact trivial
            · rw [z]; exact trivial
        · show ax_PO p l e R s mt args below meth c Q G c0 cF d y RT (pc, ls, ax_vr t' n' o' :: ax_vr t n o :: r, m) (bif Nat.beq t (q / 100) then (match ax_kd t (q % 100) with
            | 2 => bif decide ((t', n', o') = ax_lay t n o (q % 100)) then ax_go (pc + 3, ls, r, ax_wr m o (q % 100)) else ax_no
            | 4 => bif Nat.beq t' 10 then ax_gd (Nat.ble o' 1000) (pc + 3, ls, r, ax_wr (ax_wi m o (q % 100) (nI o')) o (q % 100)) else ax_no
            | _ => ax_no) else ax_no)
          cases hb : Nat.beq t (q / 100) with
          | false => exact trivial
          | true =>
            have ht : q / 100 = t := (Nat.eq_of_beq_eq_true hb).symm
            obtain ⟨-, h10, hk⟩ := ax_FL_of hm C.2.2.2.2.2.2.2.2.2
            rw [ht] at h10 hk
            have h5 := (ax_kd_ty h10 hk).2.2.2.2.2
            rcases (show ax_kd t (q % 100) = 0 ∨ ax_kd t (q % 100) = 1 ∨ ax_kd t (q % 100) = 2 ∨ ax_kd t (q % 100) = 3 ∨ ax_kd t (q % 100) = 4 by omega) with z | z | z | z | z
            · rw [z]; exact trivial
            · rw [z]; exact trivial
            · rw [z]
              by_cases hq : (t', n', o') = ax_lay t n o (q % 100)
              · rw [decide_eq_true hq]
                have hf := ((ax_kd_ty h10 hk).2.2.2.1 z).2
                rw [ht] at hfin
                have hfin := hfin.resolve_left (by rw [hf]; decide)
                intro _ K
                have e1 : ax_vr t' n' o' = (.inr (.inr (ax_lay t n o (q % 100))) : ax_V) := by rw [← hq]
                rw [e1]
                exact axw_putR C hd hm ht z hfin.1 hfin.2 K
              · rw [decide_eq_false hq]; exact trivial
            · rw [z]; exact trivial
            · rw [z]
              cases hb2 : Nat.beq t' 10 with
              | false => exact trivial
              | true =>
                have e1 : t' = 10 := Nat.eq_of_beq_eq_true hb2
                subst e1
                exact fun _ _ K => axw_putQ C hd hm ht z K
  · cases hl
theorem axd_getstatic (C : ax_Cx p s mt meth c R G y d c0 cF) {k : Nat} (hd : decode (ax_by y) pc = .ok (j, len)) (hl : ax_lnk y pc j len (.getstatic k) = true) : ax_PO p l e R s mt args below meth c Q G c0 cF d y RT (pc, ls, st, m) (ax_eff (ax_rk y) (.getstatic k) (pc + len) ls st m) := by
  unfold ax_lnk at hl
  dsimp only at hl
  split at hl
  · rename_i idx
    simp only [Bool.and_eq_true, Nat.beq_eq] at hl
    obtain ⟨rfl, hm⟩ := hl
    have ho := C.2.2.2.2.2.2.2.2.2
    match k, hm with
    | 0, hm => exact trivial
    | 1, hm =>
      have hm : (ax_oy y, idx) = (7, 47) := of_decide_eq_true hm
      have h1 := congrArg Prod.fst hm; have h2 := congrArg Prod.snd hm
      dsimp only at h1 h2
      subst h2
      rw [h1] at ho
      exact fun _ K => axw_getstatic (k := 1) C hd (Or.inl ⟨rfl, by rw [← ho]; exact ax_nestw.1⟩) K
    | 2, hm =>
      have hm : (ax_oy y, idx) = (6, 93) := of_decide_eq_true hm
      have h1 := congrArg Prod.fst hm; have h2 := congrArg Prod.snd hm
      dsimp only at h1 h2
      subst h2
      rw [h1] at ho
      exact fun _ K => axw_getstatic (k := 2) C hd (Or.inr ⟨rfl, by rw [← ho]; exact ax_nestw.2⟩) K
    | k + 3, hm => exact trivial
  · cases hl
theorem axd_iaload (C : ax_Cx p s mt meth c R G y d c0 cF)  (hd : decode (ax_by y) pc = .ok (j, len)) (hl : ax_lnk y pc j len (.iaload) = true) : ax_PO p l e R s mt args below meth c Q G c0 cF d y RT (pc, ls, st, m) (ax_eff (ax_rk y) (.iaload) (pc + len) ls st m) := by
  obtain ⟨rfl, rfl⟩ := ax_sm hl
  rcases st with _ | ⟨v1, _ | ⟨v2, r⟩⟩
  · exact trivial
  · rcases v1 with w | w | w <;> exact trivial
  · rcases v1 with jj | w | w
    · rcases v2 with w2 | w2 | ⟨t, n, o⟩
      · exact trivial
      · exact trivial
      · show ax_PO p l e R s mt args below meth c Q G c0 cF d y RT (pc, ls, ax_vi jj :: ax_vr t n o :: r, m) (bif Nat.beq t 10 || Nat.beq t 19 || Nat.beq t 20 then ax_gd (ax_inb jj n) (pc + 1, ls, ax_vi (m.2.1 o jj.toNatClampNeg) :: r, m) else ax_no)
        cases hb : (Nat.beq t 10 || Nat.beq t 19 || Nat.beq t 20) with
        | false => exact trivial
        | true =>
          simp only [Bool.or_eq_true, Nat.beq_eq] at hb
          exact fun hg _ K => axw_iaload C hd (by omega) hg K
    · exact trivial
    · exact trivial
theorem axd_baload (C : ax_Cx p s mt meth c R G y d c0 cF)  (hd : decode (ax_by y) pc = .ok (j, len)) (hl : ax_lnk y pc j len (.baload) = true) : ax_PO p l e R s mt args below meth c Q G c0 cF d y RT (pc, ls, st, m) (ax_eff (ax_rk y) (.baload) (pc + len) ls st m) := by
  obtain ⟨rfl, rfl⟩ := ax_sm hl
  rcases st with _ | ⟨v1, _ | ⟨v2, r⟩⟩
  · exact trivial
  · rcases v1 with w | w | w <;> exact trivial
  · rcases v1 with jj | w | w
    · rcases v2 with w2 | w2 | ⟨t, n, o⟩
      · exact trivial
      · exact trivial
      · show ax_PO p l e R s mt args below meth c Q G c0 cF d y RT (pc, ls, ax_vi jj :: ax_vr t n o :: r, m) (bif Nat.beq t 11 || Nat.beq t 12 then ax_gd (ax_inb jj n) (pc + 1, ls, ax_vi (m.2.1 o jj.toNatClampNeg) :: r, m) else ax_no)
        cases hb : (Nat.beq t 11 || Nat.beq t 12) with
        | false => exact trivial
        | true =>
          simp only [Bool.or_eq_true, Nat.beq_eq] at hb
          exact fun hg _ K => axw_baload C hd hb hg K
    · exact trivial
    · exact trivial
theorem axd_caload (C : ax_Cx p s mt meth c R G y d c0 cF)  (hd : decode (ax_by y) pc = .ok (j, len)) (hl : ax_lnk y pc j len (.caload) = true) : ax_PO p l e R s mt args below meth c Q G c0 cF d y RT (pc, ls, st, m) (ax_eff (ax_rk y) (.caload) (pc + len) ls st m) := by
  obtain ⟨rfl, rfl⟩ := ax_sm hl
  rcases st with _ | ⟨v1, _ | ⟨v2, r⟩⟩
  · exact trivial
  · rcases v1 with w | w | w <;> exact trivial
  · rcases v1 with jj | w | w
    · rcases v2 with w2 | w2 | ⟨t, n, o⟩
      · exact trivial
      · exact trivial
      · show ax_PO p l e R s mt args below meth c Q G c0 cF d y RT (pc, ls, ax_vi jj :: ax_vr t n o :: r, m) (bif Nat.beq t 18 then ax_gd (ax_inb jj n) (pc + 1, ls, ax_vi (m.2.1 o jj.toNatClampNeg) :: r, m) else ax_no)
        cases hb : Nat.beq t 18 with
        | false => exact trivial
        | true =>
          have e1 : t = 18 := Nat.eq_of_beq_eq_true hb
          subst e1
          exact fun hg _ K => axw_caload C hd hg K
    · exact trivial
    · exact trivial
theorem axd_aaload (C : ax_Cx p s mt meth c R G y d c0 cF)  (hd : decode (ax_by y) pc = .ok (j, len)) (hl : ax_lnk y pc j len (.aaload) = true) : ax_PO p l e R s mt args below meth c Q G c0 cF d y RT (pc, ls, st, m) (ax_eff (ax_rk y) (.aaload) (pc + len) ls st m) := by
  obtain ⟨rfl, rfl⟩ := ax_sm hl
  rcases st with _ | ⟨v1, _ | ⟨v2, r⟩⟩
  · exact trivial
  · rcases v1 with w | w | w <;> exact trivial
  · rcases v1 with jj | w | w
    · rcases v2 with w2 | w2 | ⟨t, n, o⟩
      · exact trivial
      · exact trivial
      · show ax_PO p l e R s mt args below meth c Q G c0 cF d y RT (pc, ls, ax_vi jj :: ax_vr t n o :: r, m) (bif Nat.ble 13 t && Nat.ble t 17 && m.2.2.2 o jj.toNatClampNeg then ax_gd (ax_inb jj n) (pc + 1, ls, .inr (.inr (ax_ely t n o jj.toNatClampNeg)) :: r, m) else ax_no)
        cases hb : (Nat.ble 13 t && Nat.ble t 17 && m.2.2.2 o jj.toNatClampNeg) with
        | false => exact trivial
        | true =>
          simp only [Bool.and_eq_true, Nat.ble_eq] at hb
          exact fun hg _ K => axw_aaload C hd hb.1.1 hb.1.2 hb.2 hg K
    · exact trivial
    · exact trivial
theorem axd_iastore (C : ax_Cx p s mt meth c R G y d c0 cF)  (hd : decode (ax_by y) pc = .ok (j, len)) (hl : ax_lnk y pc j len (.iastore) = true) : ax_PO p l e R s mt args below meth c Q G c0 cF d y RT (pc, ls, st, m) (ax_eff (ax_rk y) (.iastore) (pc + len) ls st m) := by
  obtain ⟨rfl, rfl⟩ := ax_sm hl
  rcases st with _ | ⟨v1, _ | ⟨v2, _ | ⟨v3, r⟩⟩⟩
  · exact trivial
  · rcases v1 with w | w | w <;> exact trivial
  · rcases v1 with w | w | w <;> rcases v2 with w2 | w2 | w2 <;> exact trivial
  · rcases v1 with x | w | w
    · rcases v2 with jj | w2 | w2
      · rcases v3 with w3 | w3 | ⟨t, n, o⟩
        · exact trivial
        · exact trivial
        · show ax_PO p l e R s mt args below meth c Q G c0 cF d y RT (pc, ls, ax_vi x :: ax_vi jj :: ax_vr t n o :: r, m) (bif Nat.beq t 10 then ax_gd (ax_inb jj n) (pc + 1, ls, r, ax_wi m o jj.toNatClampNeg x) else ax_no)
          cases hb : Nat.beq t 10 with
          | false => exact trivial
          | true =>
            have e1 : t = 10 := Nat.eq_of_beq_eq_true hb
            subst e1
            exact fun hg _ K => axw_iastore C hd hg K
      · exact trivial
      · exact trivial
    · rcases v2 with w2 | w2 | w2 <;> exact trivial
    · rcases v2 with w2 | w2 | w2 <;> rcases v3 with w3 | w3 | w3 <;> exact trivial
theorem axd_bastore (C : ax_Cx p s mt meth c R G y d c0 cF)  (hd : decode (ax_by y) pc = .ok (j, len)) (hl : ax_lnk y pc j len (.bastore) = true) : ax_PO p l e R s mt args below meth c Q G c0 cF d y RT (pc, ls, st, m) (ax_eff (ax_rk y) (.bastore) (pc + len) ls st m) := by
  obtain ⟨rfl, rfl⟩ := ax_sm hl
  rcases st with _ | ⟨v1, _ | ⟨v2, _ | ⟨v3, r⟩⟩⟩
  · exact trivial
  · rcases v1 with w | w | w <;> exact trivial
  · rcases v1 with w | w | w <;> rcases v2 with w2 | w2 | w2 <;> exact trivial
  · rcases v1 with x | w | w
    · rcases v2 with jj | w2 | w2
      · rcases v3 with w3 | w3 | ⟨t, n, o⟩
        · exact trivial
        · exact trivial
        · show ax_PO p l e R s mt args below meth c Q G c0 cF d y RT (pc, ls, ax_vi x :: ax_vi jj :: ax_vr t n o :: r, m) (bif Nat.beq t 12 then ax_gd (ax_inb jj n) (pc + 1, ls, r, ax_wi m o jj.toNatClampNeg x.toInt8.toInt32) else bif Nat.beq t 11 then ax_gd (ax_inb jj n && ax_bit x) (pc + 1, ls, r, ax_wi m o jj.toNatClampNeg x) else ax_no)
          cases hb : Nat.beq t 12 with
          | true =>
            have e1 : t = 12 := Nat.eq_of_beq_eq_true hb
            subst e1
            exact fun hg _ K => axw_bastoreB C hd hg K
          | false =>
            cases hb2 : Nat.beq t 11 with
            | false => exact trivial
            | true =>
              have e1 : t = 11 := Nat.eq_of_beq_eq_true hb2
              subst e1
              exact fun hg _ K => axw_bastoreZ C hd (Bool.and_eq_true_iff.mp hg).1 (Bool.and_eq_true_iff.mp hg).2 K
      · exact trivial
      · exact trivial
    · rcases v2 with w2 | w2 | w2 <;> exact trivial
    · rcases v2 with w2 | w2 | w2 <;> rcases v3 with w3 | w3 | w3 <;> exact trivial
theorem axd_aastore (C : ax_Cx p s mt meth c R G y d c0 cF)  (hd : decode (ax_by y) pc = .ok (j, len)) (hl : ax_lnk y pc j len (.aastore) = true) : ax_PO p l e R s mt args below meth c Q G c0 cF d y RT (pc, ls, st, m) (ax_eff (ax_rk y) (.aastore) (pc + len) ls st m) := by
  obtain ⟨rfl, rfl⟩ := ax_sm hl
  rcases st with _ | ⟨v1, _ | ⟨v2, _ | ⟨v3, r⟩⟩⟩
  · exact trivial
  · rcases v1 with w | w | w <;> exact trivial
  · rcases v1 with w | w | w <;> rcases v2 with w2 | w2 | w2 <;> exact trivial
  · rcases v1 with w | w | q
    · exact trivial
    · exact trivial
    · rcases v2 with jj | w2 | w2
      · rcases v3 with w3 | w3 | ⟨t, n, o⟩
        · exact trivial
        · exact trivial
        · show ax_PO p l e R s mt args below meth c Q G c0 cF d y RT (pc, ls, .inr (.inr q) :: ax_vi jj :: ax_vr t n o :: r, m) (bif Nat.ble 13 t && Nat.ble t 15 && decide (q = ax_ely t n o jj.toNatClampNeg) then ax_gd (ax_inb jj n) (pc + 1, ls, r, ax_wr m o jj.toNatClampNeg) else ax_no)
          cases hb : (Nat.ble 13 t && Nat.ble t 15 && decide (q = ax_ely t n o jj.toNatClampNeg)) with
          | false => exact trivial
          | true =>
            simp only [Bool.and_eq_true, Nat.ble_eq, decide_eq_true_eq] at hb
            obtain ⟨⟨a1, a2⟩, rfl⟩ := hb
            exact fun hg _ K => axw_aastore C hd a1 a2 hg K
      · exact trivial
      · exact trivial
theorem axd_alen (C : ax_Cx p s mt meth c R G y d c0 cF)  (hd : decode (ax_by y) pc = .ok (j, len)) (hl : ax_lnk y pc j len (.arraylength) = true) : ax_PO p l e R s mt args below meth c Q G c0 cF d y RT (pc, ls, st, m) (ax_eff (ax_rk y) (.arraylength) (pc + len) ls st m) := by
  obtain ⟨rfl, rfl⟩ := ax_sm hl
  rcases st with _ | ⟨v1, r⟩
  · exact trivial
  · rcases v1 with w | w | ⟨t, n, o⟩
    · exact trivial
    · exact trivial
    · show ax_PO p l e R s mt args below meth c Q G c0 cF d y RT (pc, ls, ax_vr t n o :: r, m) (bif Nat.ble 10 t then ax_go (pc + 1, ls, ax_vi (nI n) :: r, m) else ax_no)
      cases hb : Nat.ble 10 t with
      | false => exact trivial
      | true => exact fun _ K => axw_alen C hd (Nat.ble_eq.mp hb) K
theorem axd_new (C : ax_Cx p s mt meth c R G y d c0 cF) {t : Nat} (hd : decode (ax_by y) pc = .ok (j, len)) (hl : ax_lnk y pc j len (.new t) = true) : ax_PO p l e R s mt args below meth c Q G c0 cF d y RT (pc, ls, st, m) (ax_eff (ax_rk y) (.new t) (pc + len) ls st m) := by
  unfold ax_lnk at hl
  dsimp only at hl
  split at hl
  · rename_i idx
    simp only [Bool.and_eq_true, Nat.beq_eq, decide_eq_true_eq, Nat.ble_eq] at hl
    obtain ⟨⟨rfl, hm⟩, h9⟩ := hl
    show ax_PO p l e R s mt args below meth c Q G c0 cF d y RT (pc, ls, st, m) (bif Nat.beq (ax_shp m.1).1 t && Nat.ble t 9 then ax_go (pc + 3, ls, ax_vr t (ax_shp m.1).2 m.1 :: st, (m.1 + 1, m.2)) else ax_no)
    cases hb : (Nat.beq (ax_shp m.1).1 t && Nat.ble t 9) with
    | false => exact trivial
    | true =>
      simp only [Bool.and_eq_true, Nat.beq_eq, Nat.ble_eq] at hb
      exact fun hF K => axw_new C hd hm (by omega) hb.1 hF K
  · cases hl
theorem axd_newarray (C : ax_Cx p s mt meth c R G y d c0 cF) {a : ArrayType} (hd : decode (ax_by y) pc = .ok (j, len)) (hl : ax_lnk y pc j len (.newarray a) = true) : ax_PO p l e R s mt args below meth c Q G c0 cF d y RT (pc, ls, st, m) (ax_eff (ax_rk y) (.newarray a) (pc + len) ls st m) := by
  unfold ax_lnk at hl
  dsimp only at hl
  split at hl
  · simp only [Bool.and_eq_true, Nat.beq_eq, decide_eq_true_eq] at hl
    obtain ⟨rfl, rfl⟩ := hl
    rcases st with _ | ⟨v1, r⟩
    · exact trivial
    · rcases v1 with n | w | w
      · have key : ∀ t : Nat, ((a = .int ∧ t = 10) ∨ (a = .boolean ∧ t = 11) ∨ (a = .byte ∧ t = 12)) → ax_PO p l e R s mt args below meth c Q G c0 cF d y RT (pc, ls, ax_vi n :: r, m) (bif decide (0 ≤ n) && Nat.beq (ax_shp m.1).2 n.toNatClampNeg && Nat.beq (ax_shp m.1).1 t then ax_go (pc + 2, ls, ax_vr (ax_shp m.1).1 (ax_shp m.1).2 m.1 :: r, (m.1 + 1, m.2)) else ax_no) := by
          intro t hta
          cases hb : (decide (0 ≤ n) && Nat.beq (ax_shp m.1).2 n.toNatClampNeg && Nat.beq (ax_shp m.1).1 t) with
          | false => exact trivial
          | true =>
            simp only [Bool.and_eq_true, Nat.beq_eq, decide_eq_true_eq] at hb
            obtain ⟨⟨b1, b2⟩, b3⟩ := hb
            have hs : ax_shp m.1 = (t, n.toNatClampNeg) := Prod.ext b3 b2
            have hsm : n.toNatClampNeg ≤ 10000 := by rw [← b2]; exact ax_shp_sm m.1
            intro hF K
            rw [b2, b3] at K
            exact axw_newarray C hd hta b1 hs hsm hF K
        have bad : ax_PO p l e R s mt args below meth c Q G c0 cF d y RT (pc, ls, ax_vi n :: r, m) (bif decide (0 ≤ n) && Nat.beq (ax_shp m.1).2 n.toNatClampNeg && Nat.beq (ax_shp m.1).1 98 then ax_go (pc + 2, ls, ax_vr (ax_shp m.1).1 (ax_shp m.1).2 m.1 :: r, (m.1 + 1, m.2)) else ax_no) := by
          cases hb : (decide (0 ≤ n) && Nat.beq (ax_shp m.1).2 n.toNatClampNeg && Nat.beq (ax_shp m.1).1 98) with
          | false => exact trivial
          | true =>
            simp only [Bool.and_eq_true, Nat.beq_eq, decide_eq_true_eq] at hb
            have b4 := hb.2
            exfalso
            rcases Nat.lt_or_ge m.1 212 with q | q
            · have := ax_shpok m.1 q; omega
            · rw [ax_shp_big q] at b4; cases b4
        cases a with
        | int => exact key 10 (Or.inl ⟨rfl, rfl⟩)
        | boolean => exact key 11 (Or.inr (Or.inl ⟨rfl, rfl⟩))
        | byte => exact key 12 (Or.inr (Or.inr ⟨rfl, rfl⟩))
        | _ => exact bad
      · exact trivial
      · exact trivial
  · cases hl
theorem axd_anewarray (C : ax_Cx p s mt meth c R G y d c0 cF) {t : Nat} (hd : decode (ax_by y) pc = .ok (j, len)) (hl : ax_lnk y pc j len (.anewarray t) = true) : ax_PO p l e R s mt args below meth c Q G c0 cF d y RT (pc, ls, st, m) (ax_eff (ax_rk y) (.anewarray t) (pc + len) ls st m) := by
  unfold ax_lnk at hl
  dsimp only at hl
  split at hl
  · rename_i idx
    simp only [Bool.and_eq_true, Nat.beq_eq, decide_eq_true_eq] at hl
    obtain ⟨rfl, hm⟩ := hl
    rcases st with _ | ⟨v1, r⟩
    · exact trivial
    · rcases v1 with n | w | w
      · show ax_PO p l e R s mt args below meth c Q G c0 cF d y RT (pc, ls, ax_vi n :: r, m) (bif decide (0 ≤ n) && Nat.beq (ax_shp m.1).2 n.toNatClampNeg && Nat.beq (ax_shp m.1).1 t && Nat.ble 13 t && Nat.ble t 15 then ax_go (pc + 3, ls, ax_vr t (ax_shp m.1).2 m.1 :: r, (m.1 + 1, m.2)) else ax_no)
        cases hb : (decide (0 ≤ n) && Nat.beq (ax_shp m.1).2 n.toNatClampNeg && Nat.beq (ax_shp m.1).1 t && Nat.ble 13 t && Nat.ble t 15) with
        | false => exact trivial
        | true =>
          simp only [Bool.and_eq_true, Nat.beq_eq, decide_eq_true_eq, Nat.ble_eq] at hb
          obtain ⟨⟨⟨⟨b1, b2⟩, b3⟩, b4⟩, b5⟩ := hb
          have hs : ax_shp m.1 = (t, n.toNatClampNeg) := Prod.ext b3 b2
          have hsm : n.toNatClampNeg ≤ 10000 := by rw [← b2]; exact ax_shp_sm m.1
          intro hF K
          rw [b2] at K
          rcases (show t = 13 ∨ t = 14 ∨ t = 15 by omega) with rfl | rfl | rfl
          · exact axw_anewarray C hd (Or.inl ⟨rfl, rfl⟩) hm b1 hs hsm hF K
          · exact axw_anewarray C hd (Or.inr (Or.inl ⟨rfl, rfl⟩)) hm b1 hs hsm hF K
          · exact axw_anewarray C hd (Or.inr (Or.inr ⟨rfl, rfl⟩)) hm b1 hs hsm hF K
      · exact trivial
      · exact trivial
  · cases hl
theorem axd_multi (C : ax_Cx p s mt meth c R G y d c0 cF) {t k2 : Nat} (hd : decode (ax_by y) pc = .ok (j, len)) (hl : ax_lnk y pc j len (.multianewarray t k2) = true) : ax_PO p l e R s mt args below meth c Q G c0 cF d y RT (pc, ls, st, m) (ax_eff (ax_rk y) (.multianewarray t k2) (pc + len) ls st m) := by
  unfold ax_lnk at hl
  dsimp only at hl
  split at hl
  · rename_i idx j2
    simp only [Bool.and_eq_true, Nat.beq_eq, decide_eq_true_eq] at hl
    obtain ⟨⟨⟨rfl, rfl⟩, rfl⟩, hm⟩ := hl
    rcases st with _ | ⟨v1, _ | ⟨v2, r⟩⟩
    · exact trivial
    · rcases v1 with w | w | w <;> exact trivial
    · rcases v1 with k | w | w
      · rcases v2 with n | w2 | w2
        · show ax_PO p l e R s mt args below meth c Q G c0 cF d y RT (pc, ls, ax_vi k :: ax_vi n :: r, m) (bif decide (0 ≤ n) && decide (0 ≤ k) && Nat.beq (ax_shp m.1).2 n.toNatClampNeg && Nat.beq (ax_shp m.1).1 t && Nat.ble 16 t && Nat.ble t 17 && (List.range n.toNatClampNeg).all (fun i => decide (ax_shp (m.1 + 1 + i) = (10, k.toNatClampNeg))) then ax_go (pc + 4, ls, ax_vr t (ax_shp m.1).2 m.1 :: r, (m.1 + 1 + n.toNatClampNeg, m.2.1, m.2.2.1, fun a b => if a = m.1 then Nat.blt b n.toNatClampNeg else m.2.2.2 a b)) else ax_no)
          cases hb : (decide (0 ≤ n) && decide (0 ≤ k) && Nat.beq (ax_shp m.1).2 n.toNatClampNeg && Nat.beq (ax_shp m.1).1 t && Nat.ble 16 t && Nat.ble t 17 && (List.range n.toNatClampNeg).all (fun i => decide (ax_shp (m.1 + 1 + i) = (10, k.toNatClampNeg)))) with
          | false => exact trivial
          | true =>
            simp only [Bool.and_eq_true, Nat.beq_eq, decide_eq_true_eq, Nat.ble_eq] at hb
            obtain ⟨⟨⟨⟨⟨⟨b1, b1'⟩, b2⟩, b3⟩, b4⟩, b5⟩, b6⟩ := hb
            have hs : ax_shp m.1 = (t, n.toNatClampNeg) := Prod.ext b3 b2
            have hsm : n.toNatClampNeg ≤ 10000 := by rw [← b2]; exact ax_shp_sm m.1
            have hin : ∀ i, i < n.toNatClampNeg → ax_shp (m.1 + 1 + i) = (10, k.toNatClampNeg) := fun i hi => of_decide_eq_true (ax_all b6 i hi)
            intro hF K
            rw [b2] at K
            have hk6 : n.toNatClampNeg = 0 ∨ k.toNatClampNeg ≤ 10000 := by
              rcases Nat.eq_zero_or_pos n.toNatClampNeg with z | z
              · exact Or.inl z
              · have := ax_shp_sm (m.1 + 1 + 0)
                rw [hin 0 z] at this
                exact Or.inr this
            rcases hk6 with z | z
            · exfalso
              rw [z] at hs
              have hm2 : m.1 < 212 := by
                rcases Nat.lt_or_ge m.1 212 with q | q
                · exact q
                · rw [ax_shp_big q] at b3; have b3 : 99 = t := b3; omega
              have := ax_multi_pos m.1 hm2 (by rw [b3]; exact b4) (by rw [b3]; exact b5)
              rw [hs] at this
              exact absurd this (Nat.lt_irrefl 0)
            · exact axw_multi C hd (by omega) hm b1 b1' hs hin hsm z hF K
        · exact trivial
        · exact trivial
      · rcases v2 with w2 | w2 | w2 <;> exact trivial
      · rcases v2 with w2 | w2 | w2 <;> exact trivial
  · cases hl
theorem axd_copy (C : ax_Cx p s mt meth c R G y d c0 cF)  (hd : decode (ax_by y) pc = .ok (j, len)) (hl : ax_lnk y pc j len (.monitorenter) = true) : ax_PO p l e R s mt args below meth c Q G c0 cF d y RT (pc, ls, st, m) (ax_eff (ax_rk y) (.monitorenter) (pc + len) ls st m) := by
  unfold ax_lnk at hl
  dsimp only at hl
  split at hl
  · rename_i idx
    simp only [Bool.and_eq_true, Nat.beq_eq, decide_eq_true_eq] at hl
    obtain ⟨rfl, hm⟩ := hl
    rcases st with _ | ⟨v1, _ | ⟨v2, _ | ⟨v3, _ | ⟨v4, _ | ⟨v5, _ | ⟨v6, r⟩⟩⟩⟩⟩⟩
    · exact trivial
    · rcases v1 with w | w | w <;> exact trivial
    · rcases v1 with w | w | w <;> rcases v2 with w2 | w2 | w2 <;> exact trivial
    · rcases v1 with w | w | w <;> rcases v2 with w2 | w2 | w2 <;> rcases v3 with w3 | w3 | w3 <;> exact trivial
    · rcases v1 with w | w | w <;> rcases v2 with w2 | w2 | w2 <;> rcases v3 with w3 | w3 | w3 <;> rcases v4 with w4 | w4 | w4 <;> exact trivial
    · rcases v1 with n | w | w <;> rcases v2 with dp | w2 | w2 <;> rcases v3 with w3 | w3 | ⟨t1, n1, o1⟩ <;> rcases v4 with sp | w4 | w4 <;> rcases v5 with w5 | w5 | ⟨t0, n0, o0⟩ <;> try exact trivial
      show ax_PO p l e R s mt args below meth c Q G c0 cF d y RT (pc, ls, [ax_vi n, ax_vi dp, ax_vr t1 n1 o1, ax_vi sp, ax_vr t0 n0 o0], m) (bif Nat.beq t0 10 && Nat.beq t1 10 then
        ax_gd (decide (0 ≤ sp) && decide (0 ≤ dp) && decide (0 ≤ n) && Nat.ble (sp.toNatClampNeg + n.toNatClampNeg) n0 && Nat.ble (dp.toNatClampNeg + n.toNatClampNeg) n1) (pc + 3, ls, [], ax_wc m o0 o1 sp.toNatClampNeg dp.toNatClampNeg n.toNatClampNeg) else ax_no)
      cases hb : (Nat.beq t0 10 && Nat.beq t1 10) with
      | false => exact trivial
      | true =>
        simp only [Bool.and_eq_true, Nat.beq_eq] at hb
        obtain ⟨rfl, rfl⟩ := hb
        intro hg _ K
        simp only [Bool.and_eq_true, decide_eq_true_eq, Nat.ble_eq] at hg
        obtain ⟨⟨⟨⟨g1, g2⟩, g3⟩, g4⟩, g5⟩ := hg
        exact axw_copy C hd hm g1 g2 g3 g4 g5 K
    · rcases v1 with n | w | w <;> rcases v2 with dp | w2 | w2 <;> rcases v3 with w3 | w3 | w3 <;> rcases v4 with sp | w4 | w4 <;> rcases v5 with w5 | w5 | w5 <;> exact trivial
  · cases hl
theorem axd_objInit (C : ax_Cx p s mt meth c R G y d c0 cF)  (hd : decode (ax_by y) pc = .ok (j, len)) (hl : ax_lnk y pc j len (.monitorexit) = true) : ax_PO p l e R s mt args below meth c Q G c0 cF d y RT (pc, ls, st, m) (ax_eff (ax_rk y) (.monitorexit) (pc + len) ls st m) := by
  unfold ax_lnk at hl
  dsimp only at hl
  split at hl
  · rename_i idx
    simp only [Bool.and_eq_true, Nat.beq_eq, decide_eq_true_eq] at hl
    obtain ⟨rfl, hm⟩ := hl
    rcases st with _ | ⟨v1, _ | ⟨v2, r⟩⟩
    · exact trivial
    · rcases v1 with w | w | q
      · exact trivial
      · exact trivial
      · exact fun _ K => axw_objInit C hd hm K
    · rcases v1 with w | w | w <;> exact trivial
  · cases hl
theorem axd_max (C : ax_Cx p s mt meth c R G y d c0 cF)  (hd : decode (ax_by y) pc = .ok (j, len)) (hl : ax_lnk y pc j len (.swap) = true) : ax_PO p l e R s mt args below meth c Q G c0 cF d y RT (pc, ls, st, m) (ax_eff (ax_rk y) (.swap) (pc + len) ls st m) := by
  unfold ax_lnk at hl
  dsimp only at hl
  split at hl
  · rename_i idx
    simp only [Bool.and_eq_true, Nat.beq_eq, decide_eq_true_eq] at hl
    obtain ⟨rfl, hm⟩ := hl
    rcases st with _ | ⟨v1, _ | ⟨v2, r⟩⟩
    · exact trivial
    · rcases v1 with w | w | w <;> exact trivial
    · rcases v1 with b | w | w <;> rcases v2 with a | w2 | w2 <;> try exact trivial
      show ax_PO p l e R s mt args below meth c Q G c0 cF d y RT (pc, ls, ax_vi b :: ax_vi a :: r, m) (bif Nat.ble (ax_wd r) 8 then ax_go (pc + 3, ls, ax_vi (if a < b then b else a) :: r, m) else ax_no)
      cases hb : Nat.ble (ax_wd r) 8 with
      | false => exact trivial
      | true => exact fun hF K => axw_max C hd hm (Nat.ble_eq.mp hb) hF K
  · cases hl
theorem axd_min (C : ax_Cx p s mt meth c R G y d c0 cF)  (hd : decode (ax_by y) pc = .ok (j, len)) (hl : ax_lnk y pc j len (.nop) = true) : ax_PO p l e R s mt args below meth c Q G c0 cF d y RT (pc, ls, st, m) (ax_eff (ax_rk y) (.nop) (pc + len) ls st m) := by
  unfold ax_lnk at hl
  dsimp only at hl
  split at hl
  · rename_i idx
    simp only [Bool.and_eq_true, Nat.beq_eq, decide_eq_true_eq] at hl
    obtain ⟨rfl, hm⟩ := hl
    rcases st with _ | ⟨v1, _ | ⟨v2, r⟩⟩
    · exact trivial
    · rcases v1 with w | w | w <;> exact trivial
    · rcases v1 with b | w | w <;> rcases v2 with a | w2 | w2 <;> try exact trivial
      show ax_PO p l e R s mt args below meth c Q G c0 cF d y RT (pc, ls, ax_vi b :: ax_vi a :: r, m) (bif Nat.ble (ax_wd r) 8 then ax_go (pc + 3, ls, ax_vi (if b < a then b else a) :: r, m) else ax_no)
      cases hb : Nat.ble (ax_wd r) 8 with
      | false => exact trivial
      | true => exact fun hF K => axw_min C hd hm (Nat.ble_eq.mp hb) hF K
  · cases hl
theorem ax_take_drop {st : List ax_V} {n : Nat} : (st.take n).reverse.reverse ++ st.drop n = st := by rw [List.reverse_reverse, List.take_append_drop]
theorem axd_callS (C : ax_Cx p s mt meth c R G y d c0 cF) {q : Nat} (hd : decode (ax_by y) pc = .ok (j, len)) (hl : ax_lnk y pc j len (.invokestatic q) = true) : ax_PO p l e R s mt args below meth c Q G c0 cF d y RT (pc, ls, st, m) (ax_eff (ax_rk y) (.invokestatic q) (pc + len) ls st m) := by
  unfold ax_lnk at hl
  dsimp only at hl
  split at hl
  · rename_i idx
    simp only [Bool.and_eq_true, Nat.beq_eq, decide_eq_true_eq, Nat.blt_eq] at hl
    obtain ⟨⟨⟨⟨⟨rfl, hm⟩, hy⟩, hk⟩, hn⟩, hs⟩ := hl
    show ax_PO p l e R s mt args below meth c Q G c0 cF d y RT (pc, ls, st, m) (bif Nat.ble (ax_wd (st.drop (q % 10))) 8 && Nat.ble (q % 10) st.length then ax_cl (q / 10) (st.take (q % 10)).reverse (pc + 3, ls, st.drop (q % 10), m) else ax_no)
    cases hb : (Nat.ble (ax_wd (st.drop (q % 10))) 8 && Nat.ble (q % 10) st.length) with
    | false => exact trivial
    | true =>
      simp only [Bool.and_eq_true, Nat.ble_eq] at hb
      intro d' r' m' hM hdd hr _ hm1 hm2 K
      have e1 : q / 10 / 1000 = q / 10000 := by rw [Nat.div_div_eq_div_mul]
      rw [e1] at hM
      have := axw_callS (r := st.drop (q % 10)) (as := (st.take (q % 10)).reverse) C hd hm hy hs (by rw [← hn]; simp; omega) hb.1 hM hdd hr hm1 hm2 K
      rw [ax_take_drop] at this
      exact this
  · cases hl
theorem axd_callV (C : ax_Cx p s mt meth c R G y d c0 cF) {q : Nat} (hd : decode (ax_by y) pc = .ok (j, len)) (hl : ax_lnk y pc j len (.invokevirtual q) = true) : ax_PO p l e R s mt args below meth c Q G c0 cF d y RT (pc, ls, st, m) (ax_eff (ax_rk y) (.invokevirtual q) (pc + len) ls st m) := by
  unfold ax_lnk at hl
  dsimp only at hl
  split at hl
  · rename_i idx
    simp only [Bool.and_eq_true, Nat.beq_eq, decide_eq_true_eq, Nat.blt_eq, Nat.ble_eq] at hl
    obtain ⟨⟨⟨⟨⟨⟨⟨rfl, hm⟩, hy⟩, hk⟩, hn⟩, ho⟩, h9⟩, hs⟩ := hl
    show ax_PO p l e R s mt args below meth c Q G c0 cF d y RT (pc, ls, st, m) (bif Nat.ble (ax_wd (st.drop (q % 10))) 8 && Nat.ble (q % 10) st.length && ax_rcv (q / 100 % 100) (st.take (q % 10)).reverse then ax_cl (q / 10) (st.take (q % 10)).reverse (pc + 3, ls, st.drop (q % 10), m) else ax_no)
    cases hb : (Nat.ble (ax_wd (st.drop (q % 10))) 8 && Nat.ble (q % 10) st.length && ax_rcv (q / 100 % 100) (st.take (q % 10)).reverse) with
    | false => exact trivial
    | true =>
      simp only [Bool.and_eq_true, Nat.ble_eq] at hb
      obtain ⟨⟨hb1, hb2⟩, hb3⟩ := hb
      have htd := @ax_take_drop st (q % 10)
      have hlen : (st.take (q % 10)).reverse.length = q % 10 := by simp; omega
      intro d' r' m' hM hdd hr _ hm1 hm2 K
      have e1 : q / 10 / 1000 = q / 10000 := by rw [Nat.div_div_eq_div_mul]
      rw [e1] at hM
      generalize hA : (st.take (q % 10)).reverse = A at hb3 htd hlen hM
      rcases A with _ | ⟨v, as⟩
      · cases hb3
      · rcases v with w | w | ⟨t, n, o⟩
        · cases hb3
        · cases hb3
        · have ht : t = q / 100 % 100 := Nat.eq_of_beq_eq_true hb3
          have := axw_callV (r := st.drop (q % 10)) (as := as) (t := t) (n := n) (o := o) C hd hm hy hs (by rw [← hn, ← hlen]; rfl) (by rw [ht, ho]) (by omega) hb1 hM hdd hr hm1 hm2 K
          have e2 : as.reverse ++ ax_vr t n o :: st.drop (q % 10) = st := by
            rw [List.reverse_cons, List.append_assoc] at htd
            exact htd
          rw [e2] at this
          exact this
  · cases hl
theorem axd_callI (C : ax_Cx p s mt meth c R G y d c0 cF) {q : Nat} (hd : decode (ax_by y) pc = .ok (j, len)) (hl : ax_lnk y pc j len (.invokespecial q) = true) : ax_PO p l e R s mt args below meth c Q G c0 cF d y RT (pc, ls, st, m) (ax_eff (ax_rk y) (.invokespecial q) (pc + len) ls st m) := by
  unfold ax_lnk at hl
  dsimp only at hl
  split at hl
  · rename_i idx
    simp only [Bool.and_eq_true, Bool.or_eq_true, Nat.beq_eq, decide_eq_true_eq, Nat.blt_eq] at hl
    obtain ⟨⟨⟨⟨⟨rfl, hm⟩, hy⟩, hk⟩, hn⟩, hs⟩ := hl
    show ax_PO p l e R s mt args below meth c Q G c0 cF d y RT (pc, ls, st, m) (bif Nat.ble (ax_wd (st.drop (q % 10))) 8 && Nat.ble (q % 10) st.length && ax_rcv (q / 100 % 100) (st.take (q % 10)).reverse then ax_cl (q / 10) (st.take (q % 10)).reverse (pc + 3, ls, st.drop (q % 10), m) else ax_no)
    cases hb : (Nat.ble (ax_wd (st.drop (q % 10))) 8 && Nat.ble (q % 10) st.length && ax_rcv (q / 100 % 100) (st.take (q % 10)).reverse) with
    | false => exact trivial
    | true =>
      simp only [Bool.and_eq_true, Nat.ble_eq] at hb
      obtain ⟨⟨hb1, hb2⟩, hb3⟩ := hb
      have htd := @ax_take_drop st (q % 10)
      have hlen : (st.take (q % 10)).reverse.length = q % 10 := by simp; omega
      intro d' r' m' hM hdd hr hr0 hm1 hm2 K
      have e1 : q / 10 / 1000 = q / 10000 := by rw [Nat.div_div_eq_div_mul]
      rw [e1] at hM hr0
      have hrk : ax_rk (q / 10000) = 0 := by
        obtain ⟨-, ⟨g1, g2, -⟩, -, -, g0⟩ := ax_mt_of hy
        obtain ⟨-, -, g3, -⟩ := g0 hs
        rw [g3] at g1
        rcases (show ax_rk (q / 10000) = 0 ∨ ax_rk (q / 10000) = 1 ∨ ax_rk (q / 10000) = 2 ∨ ax_rk (q / 10000) = 3 by omega) with z | z | z | z
        · exact z
        · rw [z] at g1; cases g1
        · rw [z] at g1; cases g1
        · rw [z] at g1; cases g1
      have hrn := hr0 hrk
      subst hrn
      generalize hA : (st.take (q % 10)).reverse = A at hM htd hlen hb3
      rcases A with _ | ⟨v, as⟩
      · cases hb3
      · rcases v with w | w | z
        · cases hb3
        · cases hb3
        · have := axw_callI (r := st.drop (q % 10)) (as := as) (q := z) C hd hm hy hs (by rw [← hn, ← hlen]; rfl) hb1 hM hdd hm1 hm2 K
          have e2 : as.reverse ++ (.inr (.inr z) : ax_V) :: st.drop (q % 10) = st := by
            rw [List.reverse_cons, List.append_assoc] at htd
            exact htd
          rw [e2] at this
          exact this
  · cases hl
end AXE
