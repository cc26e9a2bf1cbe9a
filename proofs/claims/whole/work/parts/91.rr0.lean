theorem sw_RR_start {I : ax_I} {L : ax_J} (h : sw_SC I L) : sw_RR I L := by
  obtain ⟨h1, ⟨h2, h3, h4⟩, ⟨g1, g2, g3, g4, g5, g6, g7⟩, ⟨r1, r2, r3, r4, r5⟩, k1, ⟨l1, l2⟩, m1⟩ := h
  refine ⟨0, 0, fun _ => 0, fun _ => 0, fun _ => 0, fun _ _ => 0, [], ⟨⟨by omega, by omega, Iff.rfl, fun x hx => by omega, fun x hx => by omega, fun w _ i _ z => absurd ((ax_bt_0 i).symm.trans z) (by decide), fun _ _ _ => rfl⟩, ⟨fun _ _ => Nat.zero_le 9, fun _ _ _ => rfl⟩, ⟨Nat.zero_le 40, fun e he => by cases he⟩, h1, ⟨h2, h3, fun x hx => by omega, fun x hx => by omega, h4⟩, ⟨⟨g1, g2, g3, g4, trivial⟩, g5, g6, g7, trivial⟩, ⟨r1, r2, fun x hx => by omega, fun x hx => by omega, r3, r4⟩, fun z => by omega, r5, trivial⟩, fun k hk => .inl (k1 k hk), ⟨fun r hr => ⟨(l1 r hr).1.trans (l1 r hr).2.symm, .inl (l1 r hr).2⟩, fun t ht => ⟨(l2 t ht).1.trans (l2 t ht).2.symm, .inl (l2 t ht).2⟩⟩, m1⟩
def sw_set (m : ax_M) : Bool := (List.range 212).all fun o => Nat.ble o 2 || (Nat.ble 10 (ax_shp o).1 && Nat.ble (ax_shp o).1 12) || (List.range (ax_sz o)).all fun k => !ax_rel o k || m.2.2.2 o k
set_option maxRecDepth 100000 in
theorem sw_set2 : sw_set ax_m2 = true := by decide +kernel
