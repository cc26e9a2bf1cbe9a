set_option maxRecDepth 100000 in
set_option maxHeartbeats 8000000 in
theorem vc_X0_all {d : Nat} {o0 : Nat} {I : ax_I} {L : ax_J} {K : Int32 → ax_I → ax_J → Prop} (h :
  (decide ((0 : Int32) ≤ 0) && decide ((0 : Int32) ≤ 0) && decide ((0 : Int32) ≤ 6) && Nat.ble ((0 : Int32).toNatClampNeg + (6 : Int32).toNatClampNeg) 6 && Nat.ble ((0 : Int32).toNatClampNeg + (6 : Int32).toNatClampNeg) 6) = true ∧
  ax_AK d 1 (24, [some (ax_vr 0 0 116), some (ax_vr 7 0 o0), some (ax_vi 0), some (ax_vi 0)], [], ax_mm (ax_ui (ax_uc I (o0 + 3) 117 (0 : Int32).toNatClampNeg (0 : Int32).toNatClampNeg (6 : Int32).toNatClampNeg) 116 1 0) L) (ax_ki K)) : ax_CI (d + 1) 1 [ax_vr 0 0 116, ax_vr 7 0 o0] I L K := ax_vcI ax_c1 1 [some (ax_vr 0 0 116), some (ax_vr 7 0 o0), none, none] (fun pc => Nat.beq pc 24) 17 rfl rfl rfl rfl h
set_option maxRecDepth 100000 in
set_option maxHeartbeats 8000000 in
theorem vc_X0_all_24 {d : Nat} {o0 : Nat} {b2 : Int32} {b3 : Int32} {I : ax_I} {L : ax_J} {K : Int32 → ax_I → ax_J → Prop} (h :
  (decide ((I o0 1) ≤ b3) = true →
    K b2 I L) ∧
  (decide ((I o0 1) ≤ b3) = false →
    ax_CI d 2 [ax_vr 0 0 116, ax_vi b3, ax_vi b3, ax_vi ((1 : Int32) <<< (b3 &&& 31))] I L (fun x3 I1 L2 =>
      ax_AK d 1 (24, [some (ax_vr 0 0 116), some (ax_vr 7 0 o0), some (ax_vi (b2 + x3)), some (ax_vi (b3 + 1))], [], ax_mm I1 L2) (ax_ki K)))) : ax_AK d 1 (24, [some (ax_vr 0 0 116), some (ax_vr 7 0 o0), some (ax_vi b2), some (ax_vi b3)], [], ax_mm I L) (ax_ki K) := ax_vcL ax_c1 1 (fun pc => Nat.beq pc 24) 18 rfl rfl h
set_option maxRecDepth 100000 in
set_option maxHeartbeats 8000000 in
theorem vc_X0_closeFrom {d : Nat} {a0 : Int32} {a1 : Int32} {a2 : Int32} {I : ax_I} {L : ax_J} {K : Int32 → ax_I → ax_J → Prop} (h :
  ax_AK d 2 (6, [some (ax_vr 0 0 116), some (ax_vi a0), some (ax_vi a1), some (ax_vi a2), some (ax_vi 0), some (ax_vi a0)], [], ax_mm I L) (ax_ki K)) : ax_CI (d + 1) 2 [ax_vr 0 0 116, ax_vi a0, ax_vi a1, ax_vi a2] I L K := ax_vcI ax_c2 1 [some (ax_vr 0 0 116), some (ax_vi a0), some (ax_vi a1), some (ax_vi a2), none, none] (fun pc => Nat.beq pc 6) 6 rfl rfl rfl rfl h
set_option maxRecDepth 100000 in
set_option maxHeartbeats 8000000 in
theorem vc_X0_closeFrom_6 {d : Nat} {b1 : Int32} {b2 : Int32} {b3 : Int32} {b4 : Int32} {b5 : Int32} {I : ax_I} {L : ax_J} {K : Int32 → ax_I → ax_J → Prop} (h :
  (decide ((6 : Int32) ≤ b5) = true →
    K b4 I L) ∧
  (decide ((6 : Int32) ≤ b5) = false →
    ax_inb b2 6 = true ∧
    ((!decide ((((I 117 b2.toNatClampNeg) >>> (b5 &&& 31)) &&& 1) = (0 : Int32))) = true →
      ((!decide (b5 = b1)) = true →
        ((!decide (((b3 >>> (b5 &&& 31)) &&& 1) = (0 : Int32))) = true →
          ax_AK d 2 (6, [some (ax_vr 0 0 116), some (ax_vi b1), some (ax_vi b2), some (ax_vi b3), some (ax_vi b4), some (ax_vi (b5 + 1))], [], ax_mm I L) (ax_ki K)) ∧
        ((!decide (((b3 >>> (b5 &&& 31)) &&& 1) = (0 : Int32))) = false →
          ax_CI d 2 [ax_vr 0 0 116, ax_vi b1, ax_vi b5, ax_vi (b3 ||| ((1 : Int32) <<< (b5 &&& 31)))] I L (fun x3 I1 L2 =>
            ax_AK d 2 (6, [some (ax_vr 0 0 116), some (ax_vi b1), some (ax_vi b2), some (ax_vi b3), some (ax_vi (b4 + x3)), some (ax_vi (b5 + 1))], [], ax_mm I1 L2) (ax_ki K)))) ∧
      ((!decide (b5 = b1)) = false →
        ax_AK d 2 (6, [some (ax_vr 0 0 116), some (ax_vi b1), some (ax_vi b2), some (ax_vi b3), some (ax_vi (b4 + 1)), some (ax_vi (b5 + 1))], [], ax_mm (ax_ui I 116 1 ((I 116 1) ||| b3)) L) (ax_ki K))) ∧
    ((!decide ((((I 117 b2.toNatClampNeg) >>> (b5 &&& 31)) &&& 1) = (0 : Int32))) = false →
      ax_AK d 2 (6, [some (ax_vr 0 0 116), some (ax_vi b1), some (ax_vi b2), some (ax_vi b3), some (ax_vi b4), some (ax_vi (b5 + 1))], [], ax_mm I L) (ax_ki K)))) : ax_AK d 2 (6, [some (ax_vr 0 0 116), some (ax_vi b1), some (ax_vi b2), some (ax_vi b3), some (ax_vi b4), some (ax_vi b5)], [], ax_mm I L) (ax_ki K) := ax_vcL ax_c2 1 (fun pc => Nat.beq pc 6) 37 rfl rfl h
set_option maxRecDepth 100000 in
set_option maxHeartbeats 8000000 in
theorem vc_X1_clear {d : Nat} {o : Nat} {I : ax_I} {L : ax_J} {K : ax_I → ax_J → Prop} (h :
  ax_AK d 4 (2, [some (ax_vr 1 0 o), some (ax_vi 0)], [], ax_mm I L) (ax_kv K)) : ax_CV (d + 1) 4 [ax_vr 1 0 o] I L K := ax_vcV ax_c4 0 [some (ax_vr 1 0 o), none] (fun pc => Nat.beq pc 2) 4 rfl rfl rfl rfl h
set_option maxRecDepth 100000 in
set_option maxHeartbeats 8000000 in
theorem vc_X1_clear_2 {d : Nat} {o : Nat} {b1 : Int32} {I : ax_I} {L : ax_J} {K : ax_I → ax_J → Prop} (h :
  (decide ((6 : Int32) ≤ b1) = true →
    ax_CV d 246 [ax_vr 10 6 (o + 8), ax_vi (-9)] I L (fun I1 L2 =>
      ax_CV d 246 [ax_vr 10 6 (o + 9), ax_vi (-9)] I1 L2 (fun I4 L5 =>
        ax_CV d 246 [ax_vr 10 6 (o + 10), ax_vi (-9)] I4 L5 (fun I7 L8 =>
          ax_CV d 246 [ax_vr 10 6 (o + 11), ax_vi 0] I7 L8 (fun I10 L11 =>
            K (ax_ui (ax_ui I10 o 6 0) o 9 0) L11))))) ∧
  (decide ((6 : Int32) ≤ b1) = false →
    ax_inb b1 6 = true ∧
    ax_CV d 246 [ax_vr 10 6 ((o + 1) + (1 + b1.toNatClampNeg)), ax_vi 0] I L (fun I13 L14 =>
      ax_AK d 4 (2, [some (ax_vr 1 0 o), some (ax_vi (b1 + 1))], [], ax_mm I13 L14) (ax_kv K)))) : ax_AK d 4 (2, [some (ax_vr 1 0 o), some (ax_vi b1)], [], ax_mm I L) (ax_kv K) := ax_vcL ax_c4 0 (fun pc => Nat.beq pc 2) 27 rfl rfl h
set_option maxRecDepth 100000 in
set_option maxHeartbeats 8000000 in
theorem vc_X1_become {d : Nat} {o : Nat} {o0 : Nat} {I : ax_I} {L : ax_J} {K : ax_I → ax_J → Prop} (h :
  ax_CV d 6 [ax_vr 1 0 o, ax_vr 1 0 o0] I L (fun I1 L2 =>
    (decide ((0 : Int32) ≤ 0) && decide ((0 : Int32) ≤ 0) && decide ((0 : Int32) ≤ 6) && Nat.ble ((0 : Int32).toNatClampNeg + (6 : Int32).toNatClampNeg) 6 && Nat.ble ((0 : Int32).toNatClampNeg + (6 : Int32).toNatClampNeg) 6) = true ∧
    (decide ((0 : Int32) ≤ 0) && decide ((0 : Int32) ≤ 0) && decide ((0 : Int32) ≤ 6) && Nat.ble ((0 : Int32).toNatClampNeg + (6 : Int32).toNatClampNeg) 6 && Nat.ble ((0 : Int32).toNatClampNeg + (6 : Int32).toNatClampNeg) 6) = true ∧
    (decide ((0 : Int32) ≤ 0) && decide ((0 : Int32) ≤ 0) && decide ((0 : Int32) ≤ (ax_uc (ax_uc I1 (o0 + 10) (o + 10) (0 : Int32).toNatClampNeg (0 : Int32).toNatClampNeg (6 : Int32).toNatClampNeg) (o0 + 11) (o + 11) (0 : Int32).toNatClampNeg (0 : Int32).toNatClampNeg (6 : Int32).toNatClampNeg) o0 9) && Nat.ble ((0 : Int32).toNatClampNeg + ((ax_uc (ax_uc I1 (o0 + 10) (o + 10) (0 : Int32).toNatClampNeg (0 : Int32).toNatClampNeg (6 : Int32).toNatClampNeg) (o0 + 11) (o + 11) (0 : Int32).toNatClampNeg (0 : Int32).toNatClampNeg (6 : Int32).toNatClampNeg) o0 9).toNatClampNeg) 40 && Nat.ble ((0 : Int32).toNatClampNeg + ((ax_uc (ax_uc I1 (o0 + 10) (o + 10) (0 : Int32).toNatClampNeg (0 : Int32).toNatClampNeg (6 : Int32).toNatClampNeg) (o0 + 11) (o + 11) (0 : Int32).toNatClampNeg (0 : Int32).toNatClampNeg (6 : Int32).toNatClampNeg) o0 9).toNatClampNeg) 40) = true ∧
    (decide ((0 : Int32) ≤ 0) && decide ((0 : Int32) ≤ 0) && decide ((0 : Int32) ≤ (ax_uc (ax_uc (ax_uc I1 (o0 + 10) (o + 10) (0 : Int32).toNatClampNeg (0 : Int32).toNatClampNeg (6 : Int32).toNatClampNeg) (o0 + 11) (o + 11) (0 : Int32).toNatClampNeg (0 : Int32).toNatClampNeg (6 : Int32).toNatClampNeg) (o0 + 13) (o + 13) (0 : Int32).toNatClampNeg (0 : Int32).toNatClampNeg ((ax_uc (ax_uc I1 (o0 + 10) (o + 10) (0 : Int32).toNatClampNeg (0 : Int32).toNatClampNeg (6 : Int32).toNatClampNeg) (o0 + 11) (o + 11) (0 : Int32).toNatClampNeg (0 : Int32).toNatClampNeg (6 : Int32).toNatClampNeg) o0 9).toNatClampNeg) o0 9) && Nat.ble ((0 : Int32).toNatClampNeg + ((ax_uc (ax_uc (ax_uc I1 (o0 + 10) (o + 10) (0 : Int32).toNatClampNeg (0 : Int32).toNatClampNeg (6 : Int32).toNatClampNeg) (o0 + 11) (o + 11) (0 : Int32).toNatClampNeg (0 : Int32).toNatClampNeg (6 : Int32).toNatClampNeg) (o0 + 13) (o + 13) (0 : Int32).toNatClampNeg (0 : Int32).toNatClampNeg ((ax_uc (ax_uc I1 (o0 + 10) (o + 10) (0 : Int32).toNatClampNeg (0 : Int32).toNatClampNeg (6 : Int32).toNatClampNeg) (o0 + 11) (o + 11) (0 : Int32).toNatClampNeg (0 : Int32).toNatClampNeg (6 : Int32).toNatClampNeg) o0 9).toNatClampNeg) o0 9).toNatClampNeg) 40 && Nat.ble ((0 : Int32).toNatClampNeg + ((ax_uc (ax_uc (ax_uc I1 (o0 + 10) (o + 10) (0 : Int32).toNatClampNeg (0 : Int32).toNatClampNeg (6 : Int32).toNatClampNeg) (o0 + 11) (o + 11) (0 : Int32).toNatClampNeg (0 : Int32).toNatClampNeg (6 : Int32).toNatClampNeg) (o0 + 13) (o + 13) (0 : Int32).toNatClampNeg (0 : Int32).toNatClampNeg ((ax_uc (ax_uc I1 (o0 + 10) (o + 10) (0 : Int32).toNatClampNeg (0 : Int32).toNatClampNeg (6 : Int32).toNatClampNeg) (o0 + 11) (o + 11) (0 : Int32).toNatClampNeg (0 : Int32).toNatClampNeg (6 : Int32).toNatClampNeg) o0 9).toNatClampNeg) o0 9).toNatClampNeg) 40) = true ∧
    K (ax_ui (ax_uc (ax_uc (ax_uc (ax_uc I1 (o0 + 10) (o + 10) (0 : Int32).toNatClampNeg (0 : Int32).toNatClampNeg (6 : Int32).toNatClampNeg) (o0 + 11) (o + 11) (0 : Int32).toNatClampNeg (0 : Int32).toNatClampNeg (6 : Int32).toNatClampNeg) (o0 + 13) (o + 13) (0 : Int32).toNatClampNeg (0 : Int32).toNatClampNeg ((ax_uc (ax_uc I1 (o0 + 10) (o + 10) (0 : Int32).toNatClampNeg (0 : Int32).toNatClampNeg (6 : Int32).toNatClampNeg) (o0 + 11) (o + 11) (0 : Int32).toNatClampNeg (0 : Int32).toNatClampNeg (6 : Int32).toNatClampNeg) o0 9).toNatClampNeg) (o0 + 14) (o + 14) (0 : Int32).toNatClampNeg (0 : Int32).toNatClampNeg ((ax_uc (ax_uc (ax_uc I1 (o0 + 10) (o + 10) (0 : Int32).toNatClampNeg (0 : Int32).toNatClampNeg (6 : Int32).toNatClampNeg) (o0 + 11) (o + 11) (0 : Int32).toNatClampNeg (0 : Int32).toNatClampNeg (6 : Int32).toNatClampNeg) (o0 + 13) (o + 13) (0 : Int32).toNatClampNeg (0 : Int32).toNatClampNeg ((ax_uc (ax_uc I1 (o0 + 10) (o + 10) (0 : Int32).toNatClampNeg (0 : Int32).toNatClampNeg (6 : Int32).toNatClampNeg) (o0 + 11) (o + 11) (0 : Int32).toNatClampNeg (0 : Int32).toNatClampNeg (6 : Int32).toNatClampNeg) o0 9).toNatClampNeg) o0 9).toNatClampNeg) o 9 ((ax_uc (ax_uc (ax_uc (ax_uc I1 (o0 + 10) (o + 10) (0 : Int32).toNatClampNeg (0 : Int32).toNatClampNeg (6 : Int32).toNatClampNeg) (o0 + 11) (o + 11) (0 : Int32).toNatClampNeg (0 : Int32).toNatClampNeg (6 : Int32).toNatClampNeg) (o0 + 13) (o + 13) (0 : Int32).toNatClampNeg (0 : Int32).toNatClampNeg ((ax_uc (ax_uc I1 (o0 + 10) (o + 10) (0 : Int32).toNatClampNeg (0 : Int32).toNatClampNeg (6 : Int32).toNatClampNeg) (o0 + 11) (o + 11) (0 : Int32).toNatClampNeg (0 : Int32).toNatClampNeg (6 : Int32).toNatClampNeg) o0 9).toNatClampNeg) (o0 + 14) (o + 14) (0 : Int32).toNatClampNeg (0 : Int32).toNatClampNeg ((ax_uc (ax_uc (ax_uc I1 (o0 + 10) (o + 10) (0 : Int32).toNatClampNeg (0 : Int32).toNatClampNeg (6 : Int32).toNatClampNeg) (o0 + 11) (o + 11) (0 : Int32).toNatClampNeg (0 : Int32).toNatClampNeg (6 : Int32).toNatClampNeg) (o0 + 13) (o + 13) (0 : Int32).toNatClampNeg (0 : Int32).toNatClampNeg ((ax_uc (ax_uc I1 (o0 + 10) (o + 10) (0 : Int32).toNatClampNeg (0 : Int32).toNatClampNeg (6 : Int32).toNatClampNeg) (o0 + 11) (o + 11) (0 : Int32).toNatClampNeg (0 : Int32).toNatClampNeg (6 : Int32).toNatClampNeg) o0 9).toNatClampNeg) o0 9).toNatClampNeg) o0 9)) L2)) : ax_CV (d + 1) 5 [ax_vr 1 0 o, ax_vr 1 0 o0] I L K := ax_vcV ax_c5 0 [some (ax_vr 1 0 o), some (ax_vr 1 0 o0)] (fun _ => false) 43 rfl rfl rfl rfl h
set_option maxRecDepth 100000 in
set_option maxHeartbeats 8000000 in
theorem vc_X1_becomeAside {d : Nat} {o : Nat} {o0 : Nat} {I : ax_I} {L : ax_J} {K : ax_I → ax_J → Prop} (h :
  ax_AK d 6 (2, [some (ax_vr 1 0 o), some (ax_vr 1 0 o0), some (ax_vi 0)], [], ax_mm I L) (ax_kv K)) : ax_CV (d + 1) 6 [ax_vr 1 0 o, ax_vr 1 0 o0] I L K := ax_vcV ax_c6 0 [some (ax_vr 1 0 o), some (ax_vr 1 0 o0), none] (fun pc => Nat.beq pc 2) 4 rfl rfl rfl rfl h
set_option maxRecDepth 100000 in
set_option maxHeartbeats 8000000 in
theorem vc_X1_becomeAside_2 {d : Nat} {o : Nat} {o0 : Nat} {b2 : Int32} {I : ax_I} {L : ax_J} {K : ax_I → ax_J → Prop} (h :
  (decide ((6 : Int32) ≤ b2) = true →
    (decide ((0 : Int32) ≤ 0) && decide ((0 : Int32) ≤ 0) && decide ((0 : Int32) ≤ 6) && Nat.ble ((0 : Int32).toNatClampNeg + (6 : Int32).toNatClampNeg) 6 && Nat.ble ((0 : Int32).toNatClampNeg + (6 : Int32).toNatClampNeg) 6) = true ∧
    (decide ((0 : Int32) ≤ 0) && decide ((0 : Int32) ≤ 0) && decide ((0 : Int32) ≤ 6) && Nat.ble ((0 : Int32).toNatClampNeg + (6 : Int32).toNatClampNeg) 6 && Nat.ble ((0 : Int32).toNatClampNeg + (6 : Int32).toNatClampNeg) 6) = true ∧
    (decide ((0 : Int32) ≤ 0) && decide ((0 : Int32) ≤ 0) && decide ((0 : Int32) ≤ 6) && Nat.ble ((0 : Int32).toNatClampNeg + (6 : Int32).toNatClampNeg) 6 && Nat.ble ((0 : Int32).toNatClampNeg + (6 : Int32).toNatClampNeg) 6) = true ∧
    K (ax_ui (ax_uc (ax_uc (ax_uc I (o0 + 8) (o + 8) (0 : Int32).toNatClampNeg (0 : Int32).toNatClampNeg (6 : Int32).toNatClampNeg) (o0 + 9) (o + 9) (0 : Int32).toNatClampNeg (0 : Int32).toNatClampNeg (6 : Int32).toNatClampNeg) (o0 + 12) (o + 12) (0 : Int32).toNatClampNeg (0 : Int32).toNatClampNeg (6 : Int32).toNatClampNeg) o 6 ((ax_uc (ax_uc (ax_uc I (o0 + 8) (o + 8) (0 : Int32).toNatClampNeg (0 : Int32).toNatClampNeg (6 : Int32).toNatClampNeg) (o0 + 9) (o + 9) (0 : Int32).toNatClampNeg (0 : Int32).toNatClampNeg (6 : Int32).toNatClampNeg) (o0 + 12) (o + 12) (0 : Int32).toNatClampNeg (0 : Int32).toNatClampNeg (6 : Int32).toNatClampNeg) o0 6)) L) ∧
  (decide ((6 : Int32) ≤ b2) = false →
    ax_inb b2 6 = true ∧
    ax_inb b2 6 = true ∧
    (decide ((0 : Int32) ≤ 0) && decide ((0 : Int32) ≤ 0) && decide ((0 : Int32) ≤ 6) && Nat.ble ((0 : Int32).toNatClampNeg + (6 : Int32).toNatClampNeg) 6 && Nat.ble ((0 : Int32).toNatClampNeg + (6 : Int32).toNatClampNeg) 6) = true ∧
    ax_AK d 6 (2, [some (ax_vr 1 0 o), some (ax_vr 1 0 o0), some (ax_vi (b2 + 1))], [], ax_mm (ax_uc I ((o0 + 1) + (1 + b2.toNatClampNeg)) ((o + 1) + (1 + b2.toNatClampNeg)) (0 : Int32).toNatClampNeg (0 : Int32).toNatClampNeg (6 : Int32).toNatClampNeg) L) (ax_kv K))) : ax_AK d 6 (2, [some (ax_vr 1 0 o), some (ax_vr 1 0 o0), some (ax_vi b2)], [], ax_mm I L) (ax_kv K) := ax_vcL ax_c6 0 (fun pc => Nat.beq pc 2) 33 rfl rfl h
set_option maxRecDepth 100000 in
set_option maxHeartbeats 8000000 in
theorem vc_X1_isWaiting {d : Nat} {o : Nat} {a0 : Int32} {I : ax_I} {L : ax_J} {K : Int32 → ax_I → ax_J → Prop} (h :
  ax_inb a0 6 = true ∧
  (decide ((I (o + 8) a0.toNatClampNeg) = (-9 : Int32)) = true →
    ax_bit 0 = true ∧ K 0 I L) ∧
  (decide ((I (o + 8) a0.toNatClampNeg) = (-9 : Int32)) = false →
    ax_inb a0 6 = true ∧
    ((!decide ((I (o + 9) a0.toNatClampNeg) = (-9 : Int32))) = true →
      ax_bit 0 = true ∧ K 0 I L) ∧
    ((!decide ((I (o + 9) a0.toNatClampNeg) = (-9 : Int32))) = false →
      ax_bit 1 = true ∧ K 1 I L))) : ax_CI (d + 1) 7 [ax_vr 1 0 o, ax_vi a0] I L K := ax_vcI ax_c7 3 [some (ax_vr 1 0 o), some (ax_vi a0)] (fun _ => false) 16 rfl rfl rfl rfl h
set_option maxRecDepth 100000 in
set_option maxHeartbeats 8000000 in
theorem vc_X1_isGrantable {d : Nat} {o : Nat} {o0 : Nat} {a1 : Int32} {a2 : Int32} {I : ax_I} {L : ax_J} {K : Int32 → ax_I → ax_J → Prop} (h :
  ax_CI d 7 [ax_vr 1 0 o, ax_vi a2] I L (fun x3 I1 L2 =>
    (decide (x3 = (0 : Int32)) = true →
      ax_bit 0 = true ∧ K 0 I1 L2) ∧
    (decide (x3 = (0 : Int32)) = false →
      ax_inb a2 6 = true ∧
      ((!decide ((I1 (o + 8) a2.toNatClampNeg) = a1)) = true →
        ax_bit 1 = true ∧ K 1 I1 L2) ∧
      ((!decide ((I1 (o + 8) a2.toNatClampNeg) = a1)) = false →
        ax_CI d 84 [ax_vr 7 0 o0, ax_vi a1, ax_vi 5] I1 L2 (fun x6 I4 L5 =>
          (decide (x6 = (0 : Int32)) = true →
            ax_bit 0 = true ∧ K 0 I4 L5) ∧
          (decide (x6 = (0 : Int32)) = false →
            ax_bit 1 = true ∧ K 1 I4 L5)))))) : ax_CI (d + 1) 8 [ax_vr 1 0 o, ax_vr 7 0 o0, ax_vi a1, ax_vi a2] I L K := ax_vcI ax_c8 3 [some (ax_vr 1 0 o), some (ax_vr 7 0 o0), some (ax_vi a1), some (ax_vi a2)] (fun _ => false) 19 rfl rfl rfl rfl h
set_option maxRecDepth 100000 in
set_option maxHeartbeats 8000000 in
theorem vc_X1_wish {d : Nat} {o : Nat} {o0 : Nat} {a1 : Int32} {a2 : Int32} {I : ax_I} {L : ax_J} {K : Int32 → ax_I → ax_J → Prop} (h :
  ax_inb a2 6 = true ∧
  ((!decide ((I (o + 8) a2.toNatClampNeg) = (-9 : Int32))) = true →
    (decide ((6 : Int32) ≤ (I o 6)) = true →
      K 0 I L) ∧
    (decide ((6 : Int32) ≤ (I o 6)) = false →
      ax_CI d 8 [ax_vr 1 0 o, ax_vr 7 0 o0, ax_vi a1, ax_vi a2] I L (fun x3 I1 L2 =>
        ((!decide (x3 = (0 : Int32))) = true →
          ax_CI d 84 [ax_vr 7 0 o0, ax_vi a1, ax_vi 4] I1 L2 (fun x6 I4 L5 =>
            (decide (x6 = (0 : Int32)) = true →
              ax_inb a2 6 = true ∧
              ax_inb a2 6 = true ∧
              ax_inb ((ax_ui (ax_ui I4 (o + 9) a2.toNatClampNeg a1) (o + 10) a2.toNatClampNeg a1) o 6) 6 = true ∧
              K 2 (ax_ui (ax_ui (ax_ui (ax_ui I4 (o + 9) a2.toNatClampNeg a1) (o + 10) a2.toNatClampNeg a1) (o + 12) ((ax_ui (ax_ui I4 (o + 9) a2.toNatClampNeg a1) (o + 10) a2.toNatClampNeg a1) o 6).toNatClampNeg a2) o 6 (((ax_ui (ax_ui (ax_ui I4 (o + 9) a2.toNatClampNeg a1) (o + 10) a2.toNatClampNeg a1) (o + 12) ((ax_ui (ax_ui I4 (o + 9) a2.toNatClampNeg a1) (o + 10) a2.toNatClampNeg a1) o 6).toNatClampNeg a2) o 6) + 1)) L5) ∧
            (decide (x6 = (0 : Int32)) = false →
              ax_inb a2 6 = true ∧
              ax_inb a2 6 = true ∧
              ax_inb a2 6 = true ∧
              ax_inb ((ax_ui (ax_ui I4 (o + 9) a2.toNatClampNeg (I4 (o + 8) a2.toNatClampNeg)) (o + 10) a2.toNatClampNeg a1) o 6) 6 = true ∧
              K 2 (ax_ui (ax_ui (ax_ui (ax_ui I4 (o + 9) a2.toNatClampNeg (I4 (o + 8) a2.toNatClampNeg)) (o + 10) a2.toNatClampNeg a1) (o + 12) ((ax_ui (ax_ui I4 (o + 9) a2.toNatClampNeg (I4 (o + 8) a2.toNatClampNeg)) (o + 10) a2.toNatClampNeg a1) o 6).toNatClampNeg a2) o 6 (((ax_ui (ax_ui (ax_ui I4 (o + 9) a2.toNatClampNeg (I4 (o + 8) a2.toNatClampNeg)) (o + 10) a2.toNatClampNeg a1) (o + 12) ((ax_ui (ax_ui I4 (o + 9) a2.toNatClampNeg (I4 (o + 8) a2.toNatClampNeg)) (o + 10) a2.toNatClampNeg a1) o 6).toNatClampNeg a2) o 6) + 1)) L5))) ∧
        ((!decide (x3 = (0 : Int32))) = false →
          K 0 I1 L2)))) ∧
  ((!decide ((I (o + 8) a2.toNatClampNeg) = (-9 : Int32))) = false →
    ax_inb a2 6 = true ∧
    K 1 (ax_ui I (o + 8) a2.toNatClampNeg a1) L)) : ax_CI (d + 1) 9 [ax_vr 1 0 o, ax_vr 7 0 o0, ax_vi a1, ax_vi a2] I L K := ax_vcI ax_c9 1 [some (ax_vr 1 0 o), some (ax_vr 7 0 o0), some (ax_vi a1), some (ax_vi a2)] (fun _ => false) 50 rfl rfl rfl rfl h
set_option maxRecDepth 100000 in
set_option maxHeartbeats 8000000 in
theorem vc_X1_takeBack {d : Nat} {o : Nat} {a0 : Int32} {a1 : Int32} {I : ax_I} {L : ax_J} {K : ax_I → ax_J → Prop} (h :
  ((!decide (a1 = (1 : Int32))) = true →
    ((!decide (a1 = (2 : Int32))) = true →
      K I L) ∧
    ((!decide (a1 = (2 : Int32))) = false →
      ax_inb a0 6 = true ∧
      ax_inb a0 6 = true ∧
      K (ax_ui (ax_ui (ax_ui I (o + 9) a0.toNatClampNeg (-9)) (o + 10) a0.toNatClampNeg (-9)) o 6 (((ax_ui (ax_ui I (o + 9) a0.toNatClampNeg (-9)) (o + 10) a0.toNatClampNeg (-9)) o 6) - 1)) L)) ∧
  ((!decide (a1 = (1 : Int32))) = false →
    ax_inb a0 6 = true ∧
    ax_inb a0 6 = true ∧
    K (ax_ui (ax_ui I (o + 8) a0.toNatClampNeg (-9)) (o + 11) a0.toNatClampNeg 0) L)) : ax_CV (d + 1) 10 [ax_vr 1 0 o, ax_vi a0, ax_vi a1] I L K := ax_vcV ax_c10 0 [some (ax_vr 1 0 o), some (ax_vi a0), some (ax_vi a1)] (fun _ => false) 24 rfl rfl rfl rfl h
set_option maxRecDepth 100000 in
set_option maxHeartbeats 8000000 in
theorem vc_X1_record {d : Nat} {o : Nat} {a0 : Int32} {a1 : Int32} {a2 : Int32} {I : ax_I} {L : ax_J} {K : ax_I → ax_J → Prop} (h :
  (decide ((40 : Int32) ≤ (I o 9)) = true →
    K I L) ∧
  (decide ((40 : Int32) ≤ (I o 9)) = false →
    ax_inb (I o 9) 40 = true ∧
    ax_inb ((ax_ui I (o + 13) (I o 9).toNatClampNeg ((10 * a0) + a1)) o 9) 40 = true ∧
    K (ax_ui (ax_ui (ax_ui I (o + 13) (I o 9).toNatClampNeg ((10 * a0) + a1)) (o + 14) ((ax_ui I (o + 13) (I o 9).toNatClampNeg ((10 * a0) + a1)) o 9).toNatClampNeg a2) o 9 (((ax_ui (ax_ui I (o + 13) (I o 9).toNatClampNeg ((10 * a0) + a1)) (o + 14) ((ax_ui I (o + 13) (I o 9).toNatClampNeg ((10 * a0) + a1)) o 9).toNatClampNeg a2) o 9) + 1)) L)) : ax_CV (d + 1) 11 [ax_vr 1 0 o, ax_vi a0, ax_vi a1, ax_vi a2] I L K := ax_vcV ax_c11 0 [some (ax_vr 1 0 o), some (ax_vi a0), some (ax_vi a1), some (ax_vi a2)] (fun _ => false) 28 rfl rfl rfl rfl h
set_option maxRecDepth 100000 in
set_option maxHeartbeats 8000000 in
theorem vc_X1_forgetFrom {d : Nat} {o : Nat} {a0 : Int32} {I : ax_I} {L : ax_J} {K : ax_I → ax_J → Prop} (h :
  ax_AK d 12 (7, [some (ax_vr 1 0 o), some (ax_vi a0), some (ax_vi ((I o 9) - 1))], [], ax_mm I L) (ax_kv K)) : ax_CV (d + 1) 12 [ax_vr 1 0 o, ax_vi a0] I L K := ax_vcV ax_c12 0 [some (ax_vr 1 0 o), some (ax_vi a0), none] (fun pc => Nat.beq pc 7) 7 rfl rfl rfl rfl h
set_option maxRecDepth 100000 in
set_option maxHeartbeats 8000000 in
theorem vc_X1_forgetFrom_7 {d : Nat} {o : Nat} {b1 : Int32} {b2 : Int32} {I : ax_I} {L : ax_J} {K : ax_I → ax_J → Prop} (h :
  (decide (b2 < b1) = true →
    K I L) ∧
  (decide (b2 < b1) = false →
    (decide (b2 < (0 : Int32)) = true →
      K I L) ∧
    (decide (b2 < (0 : Int32)) = false →
      ax_inb b2 40 = true ∧
      (!decide ((10 : Int32) = 0)) = true ∧
      ax_inb b2 40 = true ∧
      ax_CV d 10 [ax_vr 1 0 o, ax_vi ((I (o + 13) b2.toNatClampNeg) - (I (o + 13) b2.toNatClampNeg) / 10 * 10), ax_vi (I (o + 14) b2.toNatClampNeg)] I L (fun I1 L2 =>
        ax_AK d 12 (7, [some (ax_vr 1 0 o), some (ax_vi b1), some (ax_vi (b2 + (-1)))], [], ax_mm (ax_ui I1 o 9 b2) L2) (ax_kv K))))) : ax_AK d 12 (7, [some (ax_vr 1 0 o), some (ax_vi b1), some (ax_vi b2)], [], ax_mm I L) (ax_kv K) := ax_vcL ax_c12 0 (fun pc => Nat.beq pc 7) 24 rfl rfl h
set_option maxRecDepth 100000 in
set_option maxHeartbeats 8000000 in
theorem vc_X1_waiting {d : Nat} {o : Nat} {I : ax_I} {L : ax_J} {K : Int32 → ax_I → ax_J → Prop} (h :
  ax_AK d 13 (4, [some (ax_vr 1 0 o), some (ax_vi 0), some (ax_vi 0)], [], ax_mm I L) (ax_ki K)) : ax_CI (d + 1) 13 [ax_vr 1 0 o] I L K := ax_vcI ax_c13 1 [some (ax_vr 1 0 o), none, none] (fun pc => Nat.beq pc 4) 6 rfl rfl rfl rfl h
set_option maxRecDepth 100000 in
set_option maxHeartbeats 8000000 in
theorem vc_X1_waiting_4 {d : Nat} {o : Nat} {b1 : Int32} {b2 : Int32} {I : ax_I} {L : ax_J} {K : Int32 → ax_I → ax_J → Prop} (h :
  (decide ((6 : Int32) ≤ b2) = true →
    K b1 I L) ∧
  (decide ((6 : Int32) ≤ b2) = false →
    ax_CI d 7 [ax_vr 1 0 o, ax_vi b2] I L (fun x3 I1 L2 =>
      (decide (x3 = (0 : Int32)) = true →
        ax_AK d 13 (4, [some (ax_vr 1 0 o), some (ax_vi b1), some (ax_vi (b2 + 1))], [], ax_mm I1 L2) (ax_ki K)) ∧
      (decide (x3 = (0 : Int32)) = false →
        ax_AK d 13 (4, [some (ax_vr 1 0 o), some (ax_vi (b1 + 1)), some (ax_vi (b2 + 1))], [], ax_mm I1 L2) (ax_ki K))))) : ax_AK d 13 (4, [some (ax_vr 1 0 o), some (ax_vi b1), some (ax_vi b2)], [], ax_mm I L) (ax_ki K) := ax_vcL ax_c13 1 (fun pc => Nat.beq pc 4) 12 rfl rfl h
set_option maxRecDepth 100000 in
set_option maxHeartbeats 8000000 in
theorem vc_X1_grantableBy {d : Nat} {o : Nat} {o0 : Nat} {a1 : Int32} {I : ax_I} {L : ax_J} {K : Int32 → ax_I → ax_J → Prop} (h :
  ax_AK d 14 (5, [some (ax_vr 1 0 o), some (ax_vr 7 0 o0), some (ax_vi a1), some (ax_vi 0), some (ax_vi 0)], [], ax_mm I L) (ax_ki K)) : ax_CI (d + 1) 14 [ax_vr 1 0 o, ax_vr 7 0 o0, ax_vi a1] I L K := ax_vcI ax_c14 1 [some (ax_vr 1 0 o), some (ax_vr 7 0 o0), some (ax_vi a1), none, none] (fun pc => Nat.beq pc 5) 6 rfl rfl rfl rfl h
set_option maxRecDepth 100000 in
set_option maxHeartbeats 8000000 in
theorem vc_X1_grantableBy_5 {d : Nat} {o : Nat} {o0 : Nat} {b2 : Int32} {b3 : Int32} {b4 : Int32} {I : ax_I} {L : ax_J} {K : Int32 → ax_I → ax_J → Prop} (h :
  (decide ((I o0 1) ≤ b4) = true →
    K b3 I L) ∧
  (decide ((I o0 1) ≤ b4) = false →
    ax_CI d 8 [ax_vr 1 0 o, ax_vr 7 0 o0, ax_vi b2, ax_vi b4] I L (fun x3 I1 L2 =>
      (decide (x3 = (0 : Int32)) = true →
        ax_AK d 14 (5, [some (ax_vr 1 0 o), some (ax_vr 7 0 o0), some (ax_vi b2), some (ax_vi b3), some (ax_vi (b4 + 1))], [], ax_mm I1 L2) (ax_ki K)) ∧
      (decide (x3 = (0 : Int32)) = false →
        ax_AK d 14 (5, [some (ax_vr 1 0 o), some (ax_vr 7 0 o0), some (ax_vi b2), some (ax_vi (b3 ||| ((1 : Int32) <<< (b4 &&& 31)))), some (ax_vi (b4 + 1))], [], ax_mm I1 L2) (ax_ki K))))) : ax_AK d 14 (5, [some (ax_vr 1 0 o), some (ax_vr 7 0 o0), some (ax_vi b2), some (ax_vi b3), some (ax_vi b4)], [], ax_mm I L) (ax_ki K) := ax_vcL ax_c14 1 (fun pc => Nat.beq pc 5) 20 rfl rfl h
set_option maxRecDepth 100000 in
set_option maxHeartbeats 8000000 in
theorem vc_X1_heardOfBy {d : Nat} {o : Nat} {a0 : Int32} {I : ax_I} {L : ax_J} {K : Int32 → ax_I → ax_J → Prop} (h :
  ax_AK d 15 (4, [some (ax_vr 1 0 o), some (ax_vi a0), some (ax_vi 0), some (ax_vi 0)], [], ax_mm I L) (ax_ki K)) : ax_CI (d + 1) 15 [ax_vr 1 0 o, ax_vi a0] I L K := ax_vcI ax_c15 1 [some (ax_vr 1 0 o), some (ax_vi a0), none, none] (fun pc => Nat.beq pc 4) 6 rfl rfl rfl rfl h
set_option maxRecDepth 100000 in
set_option maxHeartbeats 8000000 in
theorem vc_X1_heardOfBy_4 {d : Nat} {o : Nat} {b1 : Int32} {b2 : Int32} {b3 : Int32} {I : ax_I} {L : ax_J} {K : Int32 → ax_I → ax_J → Prop} (h :
  (decide ((6 : Int32) ≤ b3) = true →
    K b2 I L) ∧
  (decide ((6 : Int32) ≤ b3) = false →
    ax_inb b3 6 = true ∧
    ax_AK d 15 (4, [some (ax_vr 1 0 o), some (ax_vi b1), some (ax_vi (b2 ||| ((((I (o + 11) b3.toNatClampNeg) >>> (b1 &&& 31)) &&& 1) <<< (b3 &&& 31)))), some (ax_vi (b3 + 1))], [], ax_mm I L) (ax_ki K))) : ax_AK d 15 (4, [some (ax_vr 1 0 o), some (ax_vi b1), some (ax_vi b2), some (ax_vi b3)], [], ax_mm I L) (ax_ki K) := ax_vcL ax_c15 1 (fun pc => Nat.beq pc 4) 20 rfl rfl h
set_option maxRecDepth 100000 in
set_option maxHeartbeats 8000000 in
theorem vc_X1_wantedBy {d : Nat} {o : Nat} {a0 : Int32} {I : ax_I} {L : ax_J} {K : Int32 → ax_I → ax_J → Prop} (h :
  ax_AK d 16 (4, [some (ax_vr 1 0 o), some (ax_vi a0), some (ax_vi 0), some (ax_vi 0)], [], ax_mm I L) (ax_ki K)) : ax_CI (d + 1) 16 [ax_vr 1 0 o, ax_vi a0] I L K := ax_vcI ax_c16 1 [some (ax_vr 1 0 o), some (ax_vi a0), none, none] (fun pc => Nat.beq pc 4) 6 rfl rfl rfl rfl h
set_option maxRecDepth 100000 in
set_option maxHeartbeats 8000000 in
theorem vc_X1_wantedBy_4 {d : Nat} {o : Nat} {b1 : Int32} {b2 : Int32} {b3 : Int32} {I : ax_I} {L : ax_J} {K : Int32 → ax_I → ax_J → Prop} (h :
  (decide ((6 : Int32) ≤ b3) = true →
    K b2 I L) ∧
  (decide ((6 : Int32) ≤ b3) = false →
    ax_inb b1 6 = true ∧
    ax_inb b3 6 = true ∧
    (decide ((I ((o + 1) + (1 + b1.toNatClampNeg)) b3.toNatClampNeg) ≤ (0 : Int32)) = true →
      ax_AK d 16 (4, [some (ax_vr 1 0 o), some (ax_vi b1), some (ax_vi b2), some (ax_vi (b3 + 1))], [], ax_mm I L) (ax_ki K)) ∧
    (decide ((I ((o + 1) + (1 + b1.toNatClampNeg)) b3.toNatClampNeg) ≤ (0 : Int32)) = false →
      ax_AK d 16 (4, [some (ax_vr 1 0 o), some (ax_vi b1), some (ax_vi (b2 ||| ((1 : Int32) <<< (b3 &&& 31)))), some (ax_vi (b3 + 1))], [], ax_mm I L) (ax_ki K)))) : ax_AK d 16 (4, [some (ax_vr 1 0 o), some (ax_vi b1), some (ax_vi b2), some (ax_vi b3)], [], ax_mm I L) (ax_ki K) := ax_vcL ax_c16 1 (fun pc => Nat.beq pc 4) 20 rfl rfl h
set_option maxRecDepth 100000 in
set_option maxHeartbeats 8000000 in
theorem vc_X1_wantersOf {d : Nat} {o : Nat} {a0 : Int32} {I : ax_I} {L : ax_J} {K : Int32 → ax_I → ax_J → Prop} (h :
  ax_AK d 17 (4, [some (ax_vr 1 0 o), some (ax_vi a0), some (ax_vi 0), some (ax_vi 0)], [], ax_mm I L) (ax_ki K)) : ax_CI (d + 1) 17 [ax_vr 1 0 o, ax_vi a0] I L K := ax_vcI ax_c17 1 [some (ax_vr 1 0 o), some (ax_vi a0), none, none] (fun pc => Nat.beq pc 4) 6 rfl rfl rfl rfl h
set_option maxRecDepth 100000 in
set_option maxHeartbeats 8000000 in
theorem vc_X1_wantersOf_4 {d : Nat} {o : Nat} {b1 : Int32} {b2 : Int32} {b3 : Int32} {I : ax_I} {L : ax_J} {K : Int32 → ax_I → ax_J → Prop} (h :
  (decide ((6 : Int32) ≤ b3) = true →
    K b2 I L) ∧
  (decide ((6 : Int32) ≤ b3) = false →
    ax_inb b3 6 = true ∧
    ax_inb b1 6 = true ∧
    (decide ((I ((o + 1) + (1 + b3.toNatClampNeg)) b1.toNatClampNeg) ≤ (0 : Int32)) = true →
      ax_AK d 17 (4, [some (ax_vr 1 0 o), some (ax_vi b1), some (ax_vi b2), some (ax_vi (b3 + 1))], [], ax_mm I L) (ax_ki K)) ∧
    (decide ((I ((o + 1) + (1 + b3.toNatClampNeg)) b1.toNatClampNeg) ≤ (0 : Int32)) = false →
      ax_AK d 17 (4, [some (ax_vr 1 0 o), some (ax_vi b1), some (ax_vi (b2 ||| ((1 : Int32) <<< (b3 &&& 31)))), some (ax_vi (b3 + 1))], [], ax_mm I L) (ax_ki K)))) : ax_AK d 17 (4, [some (ax_vr 1 0 o), some (ax_vi b1), some (ax_vi b2), some (ax_vi b3)], [], ax_mm I L) (ax_ki K) := ax_vcL ax_c17 1 (fun pc => Nat.beq pc 4) 20 rfl rfl h
set_option maxRecDepth 100000 in
set_option maxHeartbeats 8000000 in
theorem vc_X1_firstOf {d : Nat} {o : Nat} {a0 : Int32} {I : ax_I} {L : ax_J} {K : Int32 → ax_I → ax_J → Prop} (h :
  ax_CI d 21 [ax_vr 10 6 (o + 8), ax_vi a0] I L (fun x3 I1 L2 =>
    K x3 I1 L2)) : ax_CI (d + 1) 18 [ax_vr 1 0 o, ax_vi a0] I L K := ax_vcI ax_c18 1 [some (ax_vr 1 0 o), some (ax_vi a0)] (fun _ => false) 6 rfl rfl rfl rfl h
set_option maxRecDepth 100000 in
set_option maxHeartbeats 8000000 in
theorem vc_X1_hasOf {d : Nat} {o : Nat} {a0 : Int32} {I : ax_I} {L : ax_J} {K : Int32 → ax_I → ax_J → Prop} (h :
  ax_CI d 21 [ax_vr 10 6 (o + 9), ax_vi a0] I L (fun x3 I1 L2 =>
    K x3 I1 L2)) : ax_CI (d + 1) 19 [ax_vr 1 0 o, ax_vi a0] I L K := ax_vcI ax_c19 1 [some (ax_vr 1 0 o), some (ax_vi a0)] (fun _ => false) 6 rfl rfl rfl rfl h
set_option maxRecDepth 100000 in
set_option maxHeartbeats 8000000 in
theorem vc_X1_givenBy {d : Nat} {o : Nat} {a0 : Int32} {I : ax_I} {L : ax_J} {K : Int32 → ax_I → ax_J → Prop} (h :
  ax_CI d 21 [ax_vr 10 6 (o + 10), ax_vi a0] I L (fun x3 I1 L2 =>
    ax_CI d 243 [ax_vi x3] I1 L2 (fun x6 I4 L5 =>
      K x6 I4 L5))) : ax_CI (d + 1) 20 [ax_vr 1 0 o, ax_vi a0] I L K := ax_vcI ax_c20 1 [some (ax_vr 1 0 o), some (ax_vi a0)] (fun _ => false) 7 rfl rfl rfl rfl h
set_option maxRecDepth 100000 in
set_option maxHeartbeats 8000000 in
theorem vc_X1_thingsWith {d : Nat} {n0 o0 : Nat} {a1 : Int32} {I : ax_I} {L : ax_J} {K : Int32 → ax_I → ax_J → Prop} (h :
  ax_AK d 21 (4, [some (ax_vr 10 n0 o0), some (ax_vi a1), some (ax_vi 0), some (ax_vi 0)], [], ax_mm I L) (ax_ki K)) : ax_CI (d + 1) 21 [ax_vr 10 n0 o0, ax_vi a1] I L K := ax_vcI ax_c21 1 [some (ax_vr 10 n0 o0), some (ax_vi a1), none, none] (fun pc => Nat.beq pc 4) 6 rfl rfl rfl rfl h
set_option maxRecDepth 100000 in
set_option maxHeartbeats 8000000 in
theorem vc_X1_thingsWith_4 {d : Nat} {n0 : Nat} {o0 : Nat} {b1 : Int32} {b2 : Int32} {b3 : Int32} {I : ax_I} {L : ax_J} {K : Int32 → ax_I → ax_J → Prop} (h :
  (decide ((6 : Int32) ≤ b3) = true →
    K b2 I L) ∧
  (decide ((6 : Int32) ≤ b3) = false →
    ax_inb b3 n0 = true ∧
    ((!decide ((I o0 b3.toNatClampNeg) = b1)) = true →
      ax_AK d 21 (4, [some (ax_vr 10 n0 o0), some (ax_vi b1), some (ax_vi b2), some (ax_vi (b3 + 1))], [], ax_mm I L) (ax_ki K)) ∧
    ((!decide ((I o0 b3.toNatClampNeg) = b1)) = false →
      ax_AK d 21 (4, [some (ax_vr 10 n0 o0), some (ax_vi b1), some (ax_vi (b2 ||| ((1 : Int32) <<< (b3 &&& 31)))), some (ax_vi (b3 + 1))], [], ax_mm I L) (ax_ki K)))) : ax_AK d 21 (4, [some (ax_vr 10 n0 o0), some (ax_vi b1), some (ax_vi b2), some (ax_vi b3)], [], ax_mm I L) (ax_ki K) := ax_vcL ax_c21 1 (fun pc => Nat.beq pc 4) 18 rfl rfl h
set_option maxRecDepth 100000 in
set_option maxHeartbeats 8000000 in
theorem vc_X1_sayingsBy {d : Nat} {o : Nat} {a0 : Int32} {I : ax_I} {L : ax_J} {K : Int32 → ax_I → ax_J → Prop} (h :
  ax_AK d 22 (4, [some (ax_vr 1 0 o), some (ax_vi a0), some (ax_vi 0), some (ax_vi 0)], [], ax_mm I L) (ax_ki K)) : ax_CI (d + 1) 22 [ax_vr 1 0 o, ax_vi a0] I L K := ax_vcI ax_c22 1 [some (ax_vr 1 0 o), some (ax_vi a0), none, none] (fun pc => Nat.beq pc 4) 6 rfl rfl rfl rfl h
set_option maxRecDepth 100000 in
set_option maxHeartbeats 8000000 in
theorem vc_X1_sayingsBy_4 {d : Nat} {o : Nat} {b1 : Int32} {b2 : Int32} {b3 : Int32} {I : ax_I} {L : ax_J} {K : Int32 → ax_I → ax_J → Prop} (h :
  (decide ((I o 9) ≤ b3) = true →
    K b2 I L) ∧
  (decide ((I o 9) ≤ b3) = false →
    ax_inb b3 40 = true ∧
    (!decide ((10 : Int32) = 0)) = true ∧
    ((!decide (((I (o + 13) b3.toNatClampNeg) / 10) = b1)) = true →
      ax_AK d 22 (4, [some (ax_vr 1 0 o), some (ax_vi b1), some (ax_vi b2), some (ax_vi (b3 + 1))], [], ax_mm I L) (ax_ki K)) ∧
    ((!decide (((I (o + 13) b3.toNatClampNeg) / 10) = b1)) = false →
      ax_AK d 22 (4, [some (ax_vr 1 0 o), some (ax_vi b1), some (ax_vi (b2 + 1)), some (ax_vi (b3 + 1))], [], ax_mm I L) (ax_ki K)))) : ax_AK d 22 (4, [some (ax_vr 1 0 o), some (ax_vi b1), some (ax_vi b2), some (ax_vi b3)], [], ax_mm I L) (ax_ki K) := ax_vcL ax_c22 1 (fun pc => Nat.beq pc 4) 17 rfl rfl h
set_option maxRecDepth 100000 in
set_option maxHeartbeats 8000000 in
theorem vc_X1_holding {d : Nat} {o : Nat} {o0 : Nat} {I : ax_I} {L : ax_J} {K : Int32 → ax_I → ax_J → Prop} (h :
  ax_AK d 23 (12, [some (ax_vr 1 0 o), some (ax_vr 7 0 o0), some (ax_vi 0), some (ax_vi 0), some (ax_vi ((I o 6) - 1)), none], [], ax_mm I L) (ax_ki K)) : ax_CI (d + 1) 23 [ax_vr 1 0 o, ax_vr 7 0 o0] I L K := ax_vcI ax_c23 1 [some (ax_vr 1 0 o), some (ax_vr 7 0 o0), none, none, none, none] (fun pc => Nat.beq pc 12) 11 rfl rfl rfl rfl h
set_option maxRecDepth 100000 in
set_option maxHeartbeats 8000000 in
theorem vc_X1_holding_12 {d : Nat} {o : Nat} {o0 : Nat} {b2 : Int32} {b3 : Int32} {b4 : Int32} {z5 : Option ax_V} {I : ax_I} {L : ax_J} {K : Int32 → ax_I → ax_J → Prop} (h :
  (decide (b4 < (0 : Int32)) = true →
    K b2 I L) ∧
  (decide (b4 < (0 : Int32)) = false →
    ax_inb b4 6 = true ∧
    ((!decide (((b3 >>> ((I (o + 12) b4.toNatClampNeg) &&& 31)) &&& 1) = (0 : Int32))) = true →
      ax_AK d 23 (12, [some (ax_vr 1 0 o), some (ax_vr 7 0 o0), some (ax_vi b2), some (ax_vi b3), some (ax_vi (b4 + (-1))), some (ax_vi (I (o + 12) b4.toNatClampNeg))], [], ax_mm I L) (ax_ki K)) ∧
    ((!decide (((b3 >>> ((I (o + 12) b4.toNatClampNeg) &&& 31)) &&& 1) = (0 : Int32))) = false →
      ax_inb (I (o + 12) b4.toNatClampNeg) 6 = true ∧
      ax_AK d 23 (12, [some (ax_vr 1 0 o), some (ax_vr 7 0 o0), some (ax_vi (b2 ||| ((1 : Int32) <<< ((I (o + 12) b4.toNatClampNeg) &&& 31)))), some (ax_vi (b3 ||| (I (o0 + 3) (I (o + 12) b4.toNatClampNeg).toNatClampNeg))), some (ax_vi (b4 + (-1))), some (ax_vi (I (o + 12) b4.toNatClampNeg))], [], ax_mm I L) (ax_ki K)))) : ax_AK d 23 (12, [some (ax_vr 1 0 o), some (ax_vr 7 0 o0), some (ax_vi b2), some (ax_vi b3), some (ax_vi b4), z5], [], ax_mm I L) (ax_ki K) := ax_vcL ax_c23 1 (fun pc => Nat.beq pc 12) 30 rfl rfl h
set_option maxRecDepth 100000 in
set_option maxHeartbeats 8000000 in
theorem vc_X1_worthOf {d : Nat} {o : Nat} {a0 : Int32} {a1 : Int32} {I : ax_I} {L : ax_J} {K : Int32 → ax_I → ax_J → Prop} (h :
  ax_AK d 24 (5, [some (ax_vr 1 0 o), some (ax_vi a0), some (ax_vi a1), some (ax_vi 0), some (ax_vi 0)], [], ax_mm I L) (ax_ki K)) : ax_CI (d + 1) 24 [ax_vr 1 0 o, ax_vi a0, ax_vi a1] I L K := ax_vcI ax_c24 1 [some (ax_vr 1 0 o), some (ax_vi a0), some (ax_vi a1), none, none] (fun pc => Nat.beq pc 5) 6 rfl rfl rfl rfl h
set_option maxRecDepth 100000 in
set_option maxHeartbeats 8000000 in
theorem vc_X1_worthOf_5 {d : Nat} {o : Nat} {b1 : Int32} {b2 : Int32} {b3 : Int32} {b4 : Int32} {I : ax_I} {L : ax_J} {K : Int32 → ax_I → ax_J → Prop} (h :
  (decide ((6 : Int32) ≤ b4) = true →
    K b3 I L) ∧
  (decide ((6 : Int32) ≤ b4) = false →
    (decide (((b2 >>> (b4 &&& 31)) &&& 1) = (0 : Int32)) = true →
      ax_AK d 24 (5, [some (ax_vr 1 0 o), some (ax_vi b1), some (ax_vi b2), some (ax_vi b3), some (ax_vi (b4 + 1))], [], ax_mm I L) (ax_ki K)) ∧
    (decide (((b2 >>> (b4 &&& 31)) &&& 1) = (0 : Int32)) = false →
      ax_inb b1 6 = true ∧
      ax_inb b4 6 = true ∧
      ax_AK d 24 (5, [some (ax_vr 1 0 o), some (ax_vi b1), some (ax_vi b2), some (ax_vi (b3 + (I ((o + 1) + (1 + b1.toNatClampNeg)) b4.toNatClampNeg))), some (ax_vi (b4 + 1))], [], ax_mm I L) (ax_ki K)))) : ax_AK d 24 (5, [some (ax_vr 1 0 o), some (ax_vi b1), some (ax_vi b2), some (ax_vi b3), some (ax_vi b4)], [], ax_mm I L) (ax_ki K) := ax_vcL ax_c24 1 (fun pc => Nat.beq pc 5) 22 rfl rfl h
set_option maxRecDepth 100000 in
set_option maxHeartbeats 8000000 in
theorem vc_X1_gainOf {d : Nat} {o : Nat} {o0 : Nat} {a1 : Int32} {I : ax_I} {L : ax_J} {K : Int32 → ax_I → ax_J → Prop} (h :
  ax_CI d 19 [ax_vr 1 0 o, ax_vi a1] I L (fun x3 I1 L2 =>
    ax_CI d 23 [ax_vr 1 0 o, ax_vr 7 0 o0] I1 L2 (fun x6 I4 L5 =>
      ax_CI d 24 [ax_vr 1 0 o, ax_vi a1, ax_vi (x3 &&& x6)] I4 L5 (fun x9 I7 L8 =>
        K x9 I7 L8)))) : ax_CI (d + 1) 25 [ax_vr 1 0 o, ax_vr 7 0 o0, ax_vi a1] I L K := ax_vcI ax_c25 1 [some (ax_vr 1 0 o), some (ax_vr 7 0 o0), some (ax_vi a1)] (fun _ => false) 12 rfl rfl rfl rfl h
set_option maxRecDepth 100000 in
set_option maxHeartbeats 8000000 in
theorem vc_X2_begin {d : Nat} {o0 : Nat} {o1 : Nat} {I : ax_I} {L : ax_J} {K : ax_I → ax_J → Prop} (h :
  ax_CV d 79 [ax_vr 7 0 49, ax_vr 7 0 o0] I L (fun I1 L2 =>
    ax_CV d 6 [ax_vr 1 0 53, ax_vr 1 0 o1] I1 L2 (fun I4 L5 =>
      K I4 L5))) : ax_CV (d + 1) 27 [ax_vr 2 0 48, ax_vr 7 0 o0, ax_vr 1 0 o1] I L K := ax_vcV ax_c27 0 [some (ax_vr 2 0 48), some (ax_vr 7 0 o0), some (ax_vr 1 0 o1)] (fun _ => false) 10 rfl rfl rfl rfl h
set_option maxRecDepth 100000 in
set_option maxHeartbeats 8000000 in
theorem vc_X2_bestWord {d : Nat} {a0 : Int32} {I : ax_I} {L : ax_J} {K : Int32 → ax_I → ax_J → Prop} (h :
  ax_CI d 25 [ax_vr 1 0 53, ax_vr 7 0 49, ax_vi a0] I L (fun x3 I1 L2 =>
    ax_AK d 28 (21, [some (ax_vr 2 0 48), some (ax_vi a0), some (ax_vi 9), some (ax_vi 0), none, none], [], ax_mm (ax_ui I1 48 3 x3) L2) (ax_ki K))) : ax_CI (d + 1) 28 [ax_vr 2 0 48, ax_vi a0] I L K := ax_vcI ax_c28 1 [some (ax_vr 2 0 48), some (ax_vi a0), none, none, none, none] (fun pc => Nat.beq pc 21) 14 rfl rfl rfl rfl h
set_option maxRecDepth 100000 in
set_option maxHeartbeats 8000000 in
theorem vc_X2_bestWord_21 {d : Nat} {b1 : Int32} {b2 : Int32} {b3 : Int32} {z4 : Option ax_V} {z5 : Option ax_V} {I : ax_I} {L : ax_J} {K : Int32 → ax_I → ax_J → Prop} (h :
  (decide ((I 49 1) ≤ b3) = true →
    K b2 I L) ∧
  (decide ((I 49 1) ≤ b3) = false →
    ax_CI d 9 [ax_vr 1 0 53, ax_vr 7 0 49, ax_vi b1, ax_vi b3] I L (fun x3 I1 L2 =>
      ax_CI d 25 [ax_vr 1 0 53, ax_vr 7 0 49, ax_vi b1] I1 L2 (fun x6 I4 L5 =>
        ax_CV d 10 [ax_vr 1 0 53, ax_vi b3, ax_vi x3] I4 L5 (fun I7 L8 =>
          (decide (x6 ≤ (I7 48 3)) = true →
            ax_AK d 28 (21, [some (ax_vr 2 0 48), some (ax_vi b1), some (ax_vi b2), some (ax_vi (b3 + 1)), some (ax_vi x3), some (ax_vi x6)], [], ax_mm I7 L8) (ax_ki K)) ∧
          (decide (x6 ≤ (I7 48 3)) = false →
            ax_AK d 28 (21, [some (ax_vr 2 0 48), some (ax_vi b1), some (ax_vi b3), some (ax_vi (b3 + 1)), some (ax_vi x3), some (ax_vi x6)], [], ax_mm (ax_ui I7 48 3 x6) L8) (ax_ki K))))))) : ax_AK d 28 (21, [some (ax_vr 2 0 48), some (ax_vi b1), some (ax_vi b2), some (ax_vi b3), z4, z5], [], ax_mm I L) (ax_ki K) := ax_vcL ax_c28 1 (fun pc => Nat.beq pc 21) 38 rfl rfl h
set_option maxRecDepth 100000 in
set_option maxHeartbeats 8000000 in
theorem vc_X2_playOut {d : Nat} {a0 : Int32} {a1 : Int32} {n2 o2 : Nat} {I : ax_I} {L : ax_J} {K : Int32 → ax_I → ax_J → Prop} (h :
  ax_CL d 30 [ax_vr 2 0 48, ax_vi a0, ax_vi a1] I L (fun x3 I1 L2 =>
    ax_CV d 54 [ax_vr 4 n2 o2, ax_vi a1, ax_vi 0] I1 L2 (fun I4 L5 =>
      ax_AK d 29 (20, [some (ax_vr 2 0 48), some (ax_vi a0), some (ax_vi a1), some (ax_vr 4 n2 o2), some (ax_vl x3), none, some (ax_vi a0), some (ax_vi 0), none], [], ax_mm I4 L5) (ax_ki K)))) : ax_CI (d + 1) 29 [ax_vr 2 0 48, ax_vi a0, ax_vi a1, ax_vr 4 n2 o2] I L K := ax_vcI ax_c29 1 [some (ax_vr 2 0 48), some (ax_vi a0), some (ax_vi a1), some (ax_vr 4 n2 o2), none, none, none, none, none] (fun pc => Nat.beq pc 20) 15 rfl rfl rfl rfl h
set_option maxRecDepth 100000 in
set_option maxHeartbeats 8000000 in
theorem vc_X2_playOut_20 {d : Nat} {n2 : Nat} {o2 : Nat} {b1 : Int32} {b4 : Int64} {b6 : Int32} {b7 : Int32} {z2 : Option ax_V} {z5 : Option ax_V} {z8 : Option ax_V} {I : ax_I} {L : ax_J} {K : Int32 → ax_I → ax_J → Prop} (h :
  (decide ((I o2 1) ≤ b7) = true →
    ax_CI d 33 [ax_vl b4, ax_vi b1] I L (fun x3 I1 L2 =>
      K x3 I1 L2)) ∧
  (decide ((I o2 1) ≤ b7) = false →
    ((!decide (((((b4.toUInt64 >>> ((36 + (3 * b7)).toInt64.toUInt64 &&& Int64.toUInt64 63)).toInt64).toInt32) &&& 7) = (7 : Int32))) = true →
      ax_inb b7 n2 = true ∧
      ax_CI d 83 [ax_vr 7 0 49, ax_vi b6] (ax_ui I (o2 + 1) b7.toNatClampNeg ((10 * b6) + ((((b4.toUInt64 >>> ((36 + (3 * b7)).toInt64.toUInt64 &&& Int64.toUInt64 63)).toInt64).toInt32) &&& 7))) L (fun x6 I4 L5 =>
        ax_AK d 29 (20, [some (ax_vr 2 0 48), some (ax_vi b1), none, some (ax_vr 4 n2 o2), some (ax_vl b4), none, some (ax_vi x6), some (ax_vi (b7 + 1)), some (ax_vi ((((b4.toUInt64 >>> ((36 + (3 * b7)).toInt64.toUInt64 &&& Int64.toUInt64 63)).toInt64).toInt32) &&& 7))], [], ax_mm I4 L5) (ax_ki K))) ∧
    ((!decide (((((b4.toUInt64 >>> ((36 + (3 * b7)).toInt64.toUInt64 &&& Int64.toUInt64 63)).toInt64).toInt32) &&& 7) = (7 : Int32))) = false →
      ax_inb b7 n2 = true ∧
      ax_CI d 83 [ax_vr 7 0 49, ax_vi b6] (ax_ui I (o2 + 1) b7.toNatClampNeg ((10 * b6) + 9)) L (fun x9 I7 L8 =>
        ax_AK d 29 (20, [some (ax_vr 2 0 48), some (ax_vi b1), none, some (ax_vr 4 n2 o2), some (ax_vl b4), none, some (ax_vi x9), some (ax_vi (b7 + 1)), some (ax_vi ((((b4.toUInt64 >>> ((36 + (3 * b7)).toInt64.toUInt64 &&& Int64.toUInt64 63)).toInt64).toInt32) &&& 7))], [], ax_mm I7 L8) (ax_ki K))))) : ax_AK d 29 (20, [some (ax_vr 2 0 48), some (ax_vi b1), z2, some (ax_vr 4 n2 o2), some (ax_vl b4), z5, some (ax_vi b6), some (ax_vi b7), z8], [], ax_mm I L) (ax_ki K) := ax_vcL ax_c29 1 (fun pc => Nat.beq pc 20) 37 rfl rfl h
set_option maxRecDepth 100000 in
set_option maxHeartbeats 8000000 in
theorem vc_X2_thinkAhead {d : Nat} {a0 : Int32} {a1 : Int32} {I : ax_I} {L : ax_J} {K : Int64 → ax_I → ax_J → Prop} (h :
  (decide ((0 : Int32) < a1) = true →
    ax_CI d 83 [ax_vr 7 0 49, ax_vi a0] I L (fun x3 I1 L2 =>
      ax_CL d 30 [ax_vr 2 0 48, ax_vi x3, ax_vi (a1 - 1)] I1 L2 (fun x6 I4 L5 =>
        ax_AK d 30 (37, [some (ax_vr 2 0 48), some (ax_vi a0), some (ax_vi a1), some (ax_vi x3), some (ax_vl x6), none, some (ax_vl 0), none, some (ax_vi (-1)), some (ax_vi 0), none, none, none], [], ax_mm I4 L5) (ax_kl K)))) ∧
  (decide ((0 : Int32) < a1) = false →
    ax_CL d 32 [ax_vr 2 0 48] I L (fun x9 I7 L8 =>
      K x9 I7 L8))) : ax_CL (d + 1) 30 [ax_vr 2 0 48, ax_vi a0, ax_vi a1] I L K := ax_vcJ ax_c30 2 [some (ax_vr 2 0 48), some (ax_vi a0), some (ax_vi a1), none, none, none, none, none, none, none, none, none, none] (fun pc => Nat.beq pc 37) 22 rfl rfl rfl rfl h
set_option maxRecDepth 100000 in
set_option maxHeartbeats 8000000 in
theorem vc_X2_thinkAhead_37 {d : Nat} {b1 : Int32} {b2 : Int32} {b3 : Int32} {b4 : Int64} {b6 : Int64} {b8 : Int32} {b9 : Int32} {z5 : Option ax_V} {z7 : Option ax_V} {z10 : Option ax_V} {z11 : Option ax_V} {z12 : Option ax_V} {I : ax_I} {L : ax_J} {K : Int64 → ax_I → ax_J → Prop} (h :
  (decide ((I 49 1) ≤ b9) = true →
    ax_CI d 33 [ax_vl b4, ax_vi b1] I L (fun x3 I1 L2 =>
      (decide (x3 ≤ b8) = true →
        K b6 I1 L2) ∧
      (decide (x3 ≤ b8) = false →
        ax_CL d 34 [ax_vl b4, ax_vi 7] I1 L2 (fun x6 I4 L5 =>
          K x6 I4 L5)))) ∧
  (decide ((I 49 1) ≤ b9) = false →
    ax_CI d 9 [ax_vr 1 0 53, ax_vr 7 0 49, ax_vi b1, ax_vi b9] I L (fun x9 I7 L8 =>
      ax_CI d 31 [ax_vi x9, ax_vi b2] I7 L8 (fun x12 I10 L11 =>
        (decide (x12 = (0 : Int32)) = true →
          ax_CV d 10 [ax_vr 1 0 53, ax_vi b9, ax_vi x9] I10 L11 (fun I13 L14 =>
            ax_CI d 33 [ax_vl b4, ax_vi b1] I13 L14 (fun x18 I16 L17 =>
              (decide (x18 ≤ b8) = true →
                ax_AK d 30 (37, [some (ax_vr 2 0 48), some (ax_vi b1), some (ax_vi b2), some (ax_vi b3), some (ax_vl b4), none, some (ax_vl b6), none, some (ax_vi b8), some (ax_vi (b9 + 1)), some (ax_vi x9), some (ax_vl b4), none], [], ax_mm I16 L17) (ax_kl K)) ∧
              (decide (x18 ≤ b8) = false →
                ax_CI d 33 [ax_vl b4, ax_vi b1] I16 L17 (fun x21 I19 L20 =>
                  ax_CL d 34 [ax_vl b4, ax_vi b9] I19 L20 (fun x24 I22 L23 =>
                    ax_AK d 30 (37, [some (ax_vr 2 0 48), some (ax_vi b1), some (ax_vi b2), some (ax_vi b3), some (ax_vl b4), none, some (ax_vl x24), none, some (ax_vi x21), some (ax_vi (b9 + 1)), some (ax_vi x9), some (ax_vl b4), none], [], ax_mm I22 L23) (ax_kl K))))))) ∧
        (decide (x12 = (0 : Int32)) = false →
          ax_CL d 30 [ax_vr 2 0 48, ax_vi b3, ax_vi (b2 - 1)] I10 L11 (fun x27 I25 L26 =>
            ax_CV d 10 [ax_vr 1 0 53, ax_vi b9, ax_vi x9] I25 L26 (fun I28 L29 =>
              ax_CI d 33 [ax_vl x27, ax_vi b1] I28 L29 (fun x33 I31 L32 =>
                (decide (x33 ≤ b8) = true →
                  ax_AK d 30 (37, [some (ax_vr 2 0 48), some (ax_vi b1), some (ax_vi b2), some (ax_vi b3), some (ax_vl b4), none, some (ax_vl b6), none, some (ax_vi b8), some (ax_vi (b9 + 1)), some (ax_vi x9), some (ax_vl x27), none], [], ax_mm I31 L32) (ax_kl K)) ∧
                (decide (x33 ≤ b8) = false →
                  ax_CI d 33 [ax_vl x27, ax_vi b1] I31 L32 (fun x36 I34 L35 =>
                    ax_CL d 34 [ax_vl x27, ax_vi b9] I34 L35 (fun x39 I37 L38 =>
                      ax_AK d 30 (37, [some (ax_vr 2 0 48), some (ax_vi b1), some (ax_vi b2), some (ax_vi b3), some (ax_vl b4), none, some (ax_vl x39), none, some (ax_vi x36), some (ax_vi (b9 + 1)), some (ax_vi x9), some (ax_vl x27), none], [], ax_mm I37 L38) (ax_kl K)))))))))))) : ax_AK d 30 (37, [some (ax_vr 2 0 48), some (ax_vi b1), some (ax_vi b2), some (ax_vi b3), some (ax_vl b4), z5, some (ax_vl b6), z7, some (ax_vi b8), some (ax_vi b9), z10, z11, z12], [], ax_mm I L) (ax_kl K) := ax_vcL ax_c30 2 (fun pc => Nat.beq pc 37) 47 rfl rfl h
set_option maxRecDepth 100000 in
set_option maxHeartbeats 8000000 in
theorem vc_X2_changesGains {d : Nat} {a0 : Int32} {a1 : Int32} {I : ax_I} {L : ax_J} {K : Int32 → ax_I → ax_J → Prop} (h :
  (decide (a0 = (2 : Int32)) = true →
    ax_bit 1 = true ∧ K 1 I L) ∧
  (decide (a0 = (2 : Int32)) = false →
    ((!decide (a0 = (1 : Int32))) = true →
      ax_bit 0 = true ∧ K 0 I L) ∧
    ((!decide (a0 = (1 : Int32))) = false →
      (decide (a1 ≤ (1 : Int32)) = true →
        ax_bit 0 = true ∧ K 0 I L) ∧
      (decide (a1 ≤ (1 : Int32)) = false →
        ax_bit 1 = true ∧ K 1 I L)))) : ax_CI (d + 1) 31 [ax_vi a0, ax_vi a1] I L K := ax_vcI ax_c31 3 [some (ax_vi a0), some (ax_vi a1)] (fun _ => false) 13 rfl rfl rfl rfl h
set_option maxRecDepth 100000 in
set_option maxHeartbeats 8000000 in
theorem vc_X2_allGains {d : Nat} {I : ax_I} {L : ax_J} {K : Int64 → ax_I → ax_J → Prop} (h :
  ax_CI d 23 [ax_vr 1 0 53, ax_vr 7 0 49] I L (fun x3 I1 L2 =>
    ax_AK d 32 (17, [some (ax_vr 2 0 48), some (ax_vi x3), some (ax_vl 0), none, some (ax_vi 0), none], [], ax_mm I1 L2) (ax_kl K))) : ax_CL (d + 1) 32 [ax_vr 2 0 48] I L K := ax_vcJ ax_c32 2 [some (ax_vr 2 0 48), none, none, none, none, none] (fun pc => Nat.beq pc 17) 12 rfl rfl rfl rfl h
set_option maxRecDepth 100000 in
set_option maxHeartbeats 8000000 in
theorem vc_X2_allGains_17 {d : Nat} {b1 : Int32} {b2 : Int64} {b4 : Int32} {z3 : Option ax_V} {z5 : Option ax_V} {I : ax_I} {L : ax_J} {K : Int64 → ax_I → ax_J → Prop} (h :
  (decide ((I 49 1) ≤ b4) = true →
    K b2 I L) ∧
  (decide ((I 49 1) ≤ b4) = false →
    (decide (((b1 >>> (b4 &&& 31)) &&& 1) = (0 : Int32)) = true →
      ax_AK d 32 (17, [some (ax_vr 2 0 48), some (ax_vi b1), some (ax_vl b2), none, some (ax_vi (b4 + 1)), none], [], ax_mm I L) (ax_kl K)) ∧
    (decide (((b1 >>> (b4 &&& 31)) &&& 1) = (0 : Int32)) = false →
      ax_inb b4 6 = true ∧
      ax_inb (I 62 b4.toNatClampNeg) 6 = true ∧
      ax_inb b4 6 = true ∧
      ax_AK d 32 (17, [some (ax_vr 2 0 48), some (ax_vi b1), some (ax_vl (b2 + (((I (54 + (1 + (I 62 b4.toNatClampNeg).toNatClampNeg)) b4.toNatClampNeg).toInt64) <<< ((6 * (I 62 b4.toNatClampNeg)).toInt64 &&& 63)))), none, some (ax_vi (b4 + 1)), some (ax_vi (I 62 b4.toNatClampNeg))], [], ax_mm I L) (ax_kl K)))) : ax_AK d 32 (17, [some (ax_vr 2 0 48), some (ax_vi b1), some (ax_vl b2), z3, some (ax_vi b4), z5], [], ax_mm I L) (ax_kl K) := ax_vcL ax_c32 2 (fun pc => Nat.beq pc 17) 36 rfl rfl h
set_option maxRecDepth 100000 in
set_option maxHeartbeats 8000000 in
theorem vc_X2_gainIn {d : Nat} {a0 : Int64} {a1 : Int32} {I : ax_I} {L : ax_J} {K : Int32 → ax_I → ax_J → Prop} (h :
  K ((((a0.toUInt64 >>> ((6 * a1).toInt64.toUInt64 &&& Int64.toUInt64 63)).toInt64).toInt32) &&& 63) I L) : ax_CI (d + 1) 33 [ax_vl a0, ax_vi a1] I L K := ax_vcI ax_c33 1 [some (ax_vl a0), none, some (ax_vi a1)] (fun _ => false) 10 rfl rfl rfl rfl h
set_option maxRecDepth 100000 in
set_option maxHeartbeats 8000000 in
theorem vc_X2_withWord {d : Nat} {a0 : Int64} {a1 : Int32} {I : ax_I} {L : ax_J} {K : Int64 → ax_I → ax_J → Prop} (h :
  K ((a0 &&& 68719476735) ||| (((((a0.toUInt64 >>> ((36 : Int32).toInt64.toUInt64 &&& Int64.toUInt64 63)).toInt64) <<< ((3 : Int32).toInt64 &&& 63)) ||| a1.toInt64) <<< ((36 : Int32).toInt64 &&& 63))) I L) : ax_CL (d + 1) 34 [ax_vl a0, ax_vi a1] I L K := ax_vcJ ax_c34 2 [some (ax_vl a0), none, some (ax_vi a1), none, none] (fun _ => false) 18 rfl rfl rfl rfl h
set_option maxRecDepth 100000 in
set_option maxHeartbeats 8000000 in
theorem vc_X2_gainAgainstAll {d : Nat} {a0 : Int32} {a1 : Int32} {I : ax_I} {L : ax_J} {K : Int32 → ax_I → ax_J → Prop} (h :
  ax_CI d 36 [ax_vr 2 0 48, ax_vi a0, ax_vi a0, ax_vi a1] I L (fun x3 I1 L2 =>
    K x3 I1 L2)) : ax_CI (d + 1) 35 [ax_vr 2 0 48, ax_vi a0, ax_vi a1] I L K := ax_vcI ax_c35 1 [some (ax_vr 2 0 48), some (ax_vi a0), some (ax_vi a1)] (fun _ => false) 7 rfl rfl rfl rfl h
set_option maxRecDepth 100000 in
set_option maxHeartbeats 8000000 in
theorem vc_X2_sureGain {d : Nat} {a0 : Int32} {a1 : Int32} {a2 : Int32} {I : ax_I} {L : ax_J} {K : Int32 → ax_I → ax_J → Prop} (h :
  (decide ((0 : Int32) < a2) = true →
    ax_CI d 83 [ax_vr 7 0 49, ax_vi a1] I L (fun x3 I1 L2 =>
      ax_CI d 36 [ax_vr 2 0 48, ax_vi a0, ax_vi x3, ax_vi (a2 - 1)] I1 L2 (fun x6 I4 L5 =>
        ax_AK d 36 (42, [some (ax_vr 2 0 48), some (ax_vi a0), some (ax_vi a1), some (ax_vi a2), some (ax_vi x3), some (ax_vi x6), some (ax_vi 0), none, none], [], ax_mm I4 L5) (ax_ki K)))) ∧
  (decide ((0 : Int32) < a2) = false →
    ax_CI d 25 [ax_vr 1 0 53, ax_vr 7 0 49, ax_vi a0] I L (fun x9 I7 L8 =>
      K x9 I7 L8))) : ax_CI (d + 1) 36 [ax_vr 2 0 48, ax_vi a0, ax_vi a1, ax_vi a2] I L K := ax_vcI ax_c36 1 [some (ax_vr 2 0 48), some (ax_vi a0), some (ax_vi a1), some (ax_vi a2), none, none, none, none, none] (fun pc => Nat.beq pc 42) 19 rfl rfl rfl rfl h
set_option maxRecDepth 100000 in
set_option maxHeartbeats 8000000 in
theorem vc_X2_sureGain_42 {d : Nat} {b1 : Int32} {b2 : Int32} {b3 : Int32} {b4 : Int32} {b5 : Int32} {b6 : Int32} {z7 : Option ax_V} {z8 : Option ax_V} {I : ax_I} {L : ax_J} {K : Int32 → ax_I → ax_J → Prop} (h :
  (decide ((I 49 1) ≤ b6) = true →
    K b5 I L) ∧
  (decide ((I 49 1) ≤ b6) = false →
    ax_CI d 9 [ax_vr 1 0 53, ax_vr 7 0 49, ax_vi b2, ax_vi b6] I L (fun x3 I1 L2 =>
      ax_CI d 31 [ax_vi x3, ax_vi b3] I1 L2 (fun x6 I4 L5 =>
        (decide (x6 = (0 : Int32)) = true →
          ax_CV d 10 [ax_vr 1 0 53, ax_vi b6, ax_vi x3] I4 L5 (fun I7 L8 =>
            ax_AK d 36 (42, [some (ax_vr 2 0 48), some (ax_vi b1), some (ax_vi b2), some (ax_vi b3), some (ax_vi b4), some (ax_vi b5), some (ax_vi (b6 + 1)), some (ax_vi x3), none], [], ax_mm I7 L8) (ax_ki K))) ∧
        (decide (x6 = (0 : Int32)) = false →
          ax_CI d 36 [ax_vr 2 0 48, ax_vi b1, ax_vi b4, ax_vi (b3 - 1)] I4 L5 (fun x12 I10 L11 =>
            ((!decide (b2 = b1)) = true →
              ax_CV d 10 [ax_vr 1 0 53, ax_vi b6, ax_vi x3] I10 L11 (fun I13 L14 =>
                ax_AK d 36 (42, [some (ax_vr 2 0 48), some (ax_vi b1), some (ax_vi b2), some (ax_vi b3), some (ax_vi b4), some (ax_vi (if x12 < b5 then x12 else b5)), some (ax_vi (b6 + 1)), some (ax_vi x3), some (ax_vi x12)], [], ax_mm I13 L14) (ax_ki K))) ∧
            ((!decide (b2 = b1)) = false →
              ax_CV d 10 [ax_vr 1 0 53, ax_vi b6, ax_vi x3] I10 L11 (fun I16 L17 =>
                ax_AK d 36 (42, [some (ax_vr 2 0 48), some (ax_vi b1), some (ax_vi b2), some (ax_vi b3), some (ax_vi b4), some (ax_vi (if b5 < x12 then x12 else b5)), some (ax_vi (b6 + 1)), some (ax_vi x3), some (ax_vi x12)], [], ax_mm I16 L17) (ax_ki K))))))))) : ax_AK d 36 (42, [some (ax_vr 2 0 48), some (ax_vi b1), some (ax_vi b2), some (ax_vi b3), some (ax_vi b4), some (ax_vi b5), some (ax_vi b6), z7, z8], [], ax_mm I L) (ax_ki K) := ax_vcL ax_c36 1 (fun pc => Nat.beq pc 42) 42 rfl rfl h
set_option maxRecDepth 100000 in
set_option maxHeartbeats 8000000 in
theorem vc_X2_fewestSteps {d : Nat} {a0 : Int32} {a1 : Int32} {n2 o2 : Nat} {I : ax_I} {L : ax_J} {K : Int32 → ax_I → ax_J → Prop} (h :
  ax_AK d 37 (3, [some (ax_vr 2 0 48), some (ax_vi a0), some (ax_vi a1), some (ax_vr 4 n2 o2), some (ax_vi 0)], [], ax_mm I L) (ax_ki K)) : ax_CI (d + 1) 37 [ax_vr 2 0 48, ax_vi a0, ax_vi a1, ax_vr 4 n2 o2] I L K := ax_vcI ax_c37 1 [some (ax_vr 2 0 48), some (ax_vi a0), some (ax_vi a1), some (ax_vr 4 n2 o2), none] (fun pc => Nat.beq pc 3) 4 rfl rfl rfl rfl h
set_option maxRecDepth 100000 in
set_option maxHeartbeats 8000000 in
theorem vc_X2_fewestSteps_3 {d : Nat} {n2 : Nat} {o2 : Nat} {b1 : Int32} {b2 : Int32} {b4 : Int32} {I : ax_I} {L : ax_J} {K : Int32 → ax_I → ax_J → Prop} (h :
  (decide ((3 : Int32) < b4) = true →
    K (-9) I L) ∧
  (decide ((3 : Int32) < b4) = false →
    ax_CI d 38 [ax_vr 2 0 48, ax_vi b1, ax_vi b2, ax_vi 0, ax_vi b4] I L (fun x3 I1 L2 =>
      (decide (x3 = (0 : Int32)) = true →
        ax_AK d 37 (3, [some (ax_vr 2 0 48), some (ax_vi b1), some (ax_vi b2), some (ax_vr 4 n2 o2), some (ax_vi (b4 + 1))], [], ax_mm I1 L2) (ax_ki K)) ∧
      (decide (x3 = (0 : Int32)) = false →
        ax_CV d 55 [ax_vr 4 n2 o2, ax_vr 10 3 68, ax_vi b4] I1 L2 (fun I4 L5 =>
          K b4 I4 L5))))) : ax_AK d 37 (3, [some (ax_vr 2 0 48), some (ax_vi b1), some (ax_vi b2), some (ax_vr 4 n2 o2), some (ax_vi b4)], [], ax_mm I L) (ax_ki K) := ax_vcL ax_c37 1 (fun pc => Nat.beq pc 3) 18 rfl rfl h
set_option maxRecDepth 100000 in
set_option maxHeartbeats 8000000 in
theorem vc_X2_reaches {d : Nat} {a0 : Int32} {a1 : Int32} {a2 : Int32} {a3 : Int32} {I : ax_I} {L : ax_J} {K : Int32 → ax_I → ax_J → Prop} (h :
  ax_CI d 39 [ax_vr 2 0 48, ax_vi a0, ax_vi a1, ax_vi (a3 - a2)] I L (fun x3 I1 L2 =>
    (decide (x3 = (0 : Int32)) = true →
      (decide (a2 < a3) = true →
        ax_AK d 38 (48, [some (ax_vr 2 0 48), some (ax_vi a0), some (ax_vi a1), some (ax_vi a2), some (ax_vi a3), some (ax_vi 0), none, none, none], [], ax_mm I1 L2) (ax_ki K)) ∧
      (decide (a2 < a3) = false →
        ax_CI d 23 [ax_vr 1 0 53, ax_vr 7 0 49] I1 L2 (fun x6 I4 L5 =>
          (decide (((x6 >>> (a1 &&& 31)) &&& 1) = (0 : Int32)) = true →
            ax_bit 0 = true ∧ K 0 I4 L5) ∧
          (decide (((x6 >>> (a1 &&& 31)) &&& 1) = (0 : Int32)) = false →
            ax_bit 1 = true ∧ K 1 I4 L5)))) ∧
    (decide (x3 = (0 : Int32)) = false →
      ax_bit 0 = true ∧ K 0 I1 L2))) : ax_CI (d + 1) 38 [ax_vr 2 0 48, ax_vi a0, ax_vi a1, ax_vi a2, ax_vi a3] I L K := ax_vcI ax_c38 3 [some (ax_vr 2 0 48), some (ax_vi a0), some (ax_vi a1), some (ax_vi a2), some (ax_vi a3), none, none, none, none] (fun pc => Nat.beq pc 48 || Nat.beq pc 63) 25 rfl rfl rfl rfl h
set_option maxRecDepth 100000 in
set_option maxHeartbeats 8000000 in
theorem vc_X2_reaches_48 {d : Nat} {b1 : Int32} {b2 : Int32} {b3 : Int32} {b4 : Int32} {b5 : Int32} {z6 : Option ax_V} {z7 : Option ax_V} {z8 : Option ax_V} {I : ax_I} {L : ax_J} {K : Int32 → ax_I → ax_J → Prop} (h :
  (decide ((I 49 0) ≤ b5) = true →
    ax_bit 0 = true ∧ K 0 I L) ∧
  (decide ((I 49 0) ≤ b5) = false →
    ax_AK d 38 (63, [some (ax_vr 2 0 48), some (ax_vi b1), some (ax_vi b2), some (ax_vi b3), some (ax_vi b4), some (ax_vi b5), some (ax_vi 0), none, none], [], ax_mm I L) (ax_ki K))) : ax_AK d 38 (48, [some (ax_vr 2 0 48), some (ax_vi b1), some (ax_vi b2), some (ax_vi b3), some (ax_vi b4), some (ax_vi b5), z6, z7, z8], [], ax_mm I L) (ax_ki K) := ax_vcL ax_c38 3 (fun pc => Nat.beq pc 48 || Nat.beq pc 63) 9 rfl rfl h
set_option maxRecDepth 100000 in
set_option maxHeartbeats 8000000 in
theorem vc_X2_reaches_63 {d : Nat} {b1 : Int32} {b2 : Int32} {b3 : Int32} {b4 : Int32} {b5 : Int32} {b6 : Int32} {z7 : Option ax_V} {z8 : Option ax_V} {I : ax_I} {L : ax_J} {K : Int32 → ax_I → ax_J → Prop} (h :
  (decide ((I 49 1) ≤ b6) = true →
    ax_AK d 38 (48, [some (ax_vr 2 0 48), some (ax_vi b1), some (ax_vi b2), some (ax_vi b3), some (ax_vi b4), some (ax_vi (b5 + 1)), some (ax_vi b6), none, none], [], ax_mm I L) (ax_ki K)) ∧
  (decide ((I 49 1) ≤ b6) = false →
    ax_CI d 9 [ax_vr 1 0 53, ax_vr 7 0 49, ax_vi b5, ax_vi b6] I L (fun x3 I1 L2 =>
      (decide (x3 = (0 : Int32)) = true →
        ax_CV d 10 [ax_vr 1 0 53, ax_vi b6, ax_vi x3] I1 L2 (fun I4 L5 =>
          (decide ((0 : Int32) = (0 : Int32)) = true →
            ax_AK d 38 (63, [some (ax_vr 2 0 48), some (ax_vi b1), some (ax_vi b2), some (ax_vi b3), some (ax_vi b4), some (ax_vi b5), some (ax_vi (b6 + 1)), some (ax_vi x3), some (ax_vi 0)], [], ax_mm I4 L5) (ax_ki K)) ∧
          (decide ((0 : Int32) = (0 : Int32)) = false →
            ax_inb b3 3 = true ∧
            ax_bit 1 = true ∧ K 1 (ax_ui I4 68 b3.toNatClampNeg ((10 * b5) + b6)) L5))) ∧
      (decide (x3 = (0 : Int32)) = false →
        ax_CI d 38 [ax_vr 2 0 48, ax_vi b1, ax_vi b2, ax_vi (b3 + 1), ax_vi b4] I1 L2 (fun x9 I7 L8 =>
          (decide (x9 = (0 : Int32)) = true →
            ax_CV d 10 [ax_vr 1 0 53, ax_vi b6, ax_vi x3] I7 L8 (fun I10 L11 =>
              (decide ((0 : Int32) = (0 : Int32)) = true →
                ax_AK d 38 (63, [some (ax_vr 2 0 48), some (ax_vi b1), some (ax_vi b2), some (ax_vi b3), some (ax_vi b4), some (ax_vi b5), some (ax_vi (b6 + 1)), some (ax_vi x3), some (ax_vi 0)], [], ax_mm I10 L11) (ax_ki K)) ∧
              (decide ((0 : Int32) = (0 : Int32)) = false →
                ax_inb b3 3 = true ∧
                ax_bit 1 = true ∧ K 1 (ax_ui I10 68 b3.toNatClampNeg ((10 * b5) + b6)) L11))) ∧
          (decide (x9 = (0 : Int32)) = false →
            ax_CV d 10 [ax_vr 1 0 53, ax_vi b6, ax_vi x3] I7 L8 (fun I13 L14 =>
              (decide ((1 : Int32) = (0 : Int32)) = true →
                ax_AK d 38 (63, [some (ax_vr 2 0 48), some (ax_vi b1), some (ax_vi b2), some (ax_vi b3), some (ax_vi b4), some (ax_vi b5), some (ax_vi (b6 + 1)), some (ax_vi x3), some (ax_vi 1)], [], ax_mm I13 L14) (ax_ki K)) ∧
              (decide ((1 : Int32) = (0 : Int32)) = false →
                ax_inb b3 3 = true ∧
                ax_bit 1 = true ∧ K 1 (ax_ui I13 68 b3.toNatClampNeg ((10 * b5) + b6)) L14)))))))) : ax_AK d 38 (63, [some (ax_vr 2 0 48), some (ax_vi b1), some (ax_vi b2), some (ax_vi b3), some (ax_vi b4), some (ax_vi b5), some (ax_vi b6), z7, z8], [], ax_mm I L) (ax_ki K) := ax_vcL ax_c38 3 (fun pc => Nat.beq pc 48 || Nat.beq pc 63) 46 rfl rfl h
set_option maxRecDepth 100000 in
set_option maxHeartbeats 8000000 in
theorem vc_X2_isOutOfReach {d : Nat} {a0 : Int32} {a1 : Int32} {a2 : Int32} {I : ax_I} {L : ax_J} {K : Int32 → ax_I → ax_J → Prop} (h :
  ax_inb a1 6 = true ∧
  (decide ((I 62 a1.toNatClampNeg) = (-9 : Int32)) = true →
    ax_inb a1 6 = true ∧
    ((!decide ((I 61 a1.toNatClampNeg) = (-9 : Int32))) = true →
      (decide ((1 : Int32) ≤ a2) = true →
        ax_bit 0 = true ∧ K 0 I L) ∧
      (decide ((1 : Int32) ≤ a2) = false →
        ax_bit 1 = true ∧ K 1 I L)) ∧
    ((!decide ((I 61 a1.toNatClampNeg) = (-9 : Int32))) = false →
      (decide ((2 : Int32) ≤ a2) = true →
        ax_bit 0 = true ∧ K 0 I L) ∧
      (decide ((2 : Int32) ≤ a2) = false →
        ax_bit 1 = true ∧ K 1 I L))) ∧
  (decide ((I 62 a1.toNatClampNeg) = (-9 : Int32)) = false →
    ax_inb a1 6 = true ∧
    (decide ((I 62 a1.toNatClampNeg) = a0) = true →
      ax_bit 0 = true ∧ K 0 I L) ∧
    (decide ((I 62 a1.toNatClampNeg) = a0) = false →
      ax_bit 1 = true ∧ K 1 I L))) : ax_CI (d + 1) 39 [ax_vr 2 0 48, ax_vi a0, ax_vi a1, ax_vi a2] I L K := ax_vcI ax_c39 3 [some (ax_vr 2 0 48), some (ax_vi a0), some (ax_vi a1), some (ax_vi a2)] (fun _ => false) 22 rfl rfl rfl rfl h
set_option maxRecDepth 100000 in
set_option maxHeartbeats 8000000 in
theorem vc_X2_judgeAll {d : Nat} {n0 o0 : Nat} {I : ax_I} {L : ax_J} {K : Int32 → ax_I → ax_J → Prop} (h :
  ax_AK d 40 (10, [some (ax_vr 2 0 48), some (ax_vr 4 n0 o0), some (ax_vi 0), some (ax_vi 0), none, none], [], ax_mm (ax_ui I 48 4 (-9)) L) (ax_ki K)) : ax_CI (d + 1) 40 [ax_vr 2 0 48, ax_vr 4 n0 o0] I L K := ax_vcI ax_c40 1 [some (ax_vr 2 0 48), some (ax_vr 4 n0 o0), none, none, none, none] (fun pc => Nat.beq pc 10) 9 rfl rfl rfl rfl h
set_option maxRecDepth 100000 in
set_option maxHeartbeats 8000000 in
theorem vc_X2_judgeAll_10 {d : Nat} {n0 : Nat} {o0 : Nat} {b2 : Int32} {b3 : Int32} {z4 : Option ax_V} {z5 : Option ax_V} {I : ax_I} {L : ax_J} {K : Int32 → ax_I → ax_J → Prop} (h :
  (decide ((I o0 1) ≤ b3) = true →
    K b2 I L) ∧
  (decide ((I o0 1) ≤ b3) = false →
    ax_inb b3 n0 = true ∧
    (!decide ((10 : Int32) = 0)) = true ∧
    ((!decide (((I (o0 + 1) b3.toNatClampNeg) - (I (o0 + 1) b3.toNatClampNeg) / 10 * 10) = (9 : Int32))) = true →
      ax_inb b3 n0 = true ∧
      (!decide ((10 : Int32) = 0)) = true ∧
      ax_CI d 9 [ax_vr 1 0 53, ax_vr 7 0 49, ax_vi ((I (o0 + 1) b3.toNatClampNeg) / 10), ax_vi ((I (o0 + 1) b3.toNatClampNeg) - (I (o0 + 1) b3.toNatClampNeg) / 10 * 10)] I L (fun x3 I1 L2 =>
        ((!decide (x3 = (2 : Int32))) = true →
          ((!decide (x3 = (0 : Int32))) = true →
            ax_AK d 40 (10, [some (ax_vr 2 0 48), some (ax_vr 4 n0 o0), some (ax_vi b2), some (ax_vi (b3 + 1)), some (ax_vi ((I (o0 + 1) b3.toNatClampNeg) - (I (o0 + 1) b3.toNatClampNeg) / 10 * 10)), some (ax_vi x3)], [], ax_mm I1 L2) (ax_ki K)) ∧
          ((!decide (x3 = (0 : Int32))) = false →
            ((!decide ((I1 48 4) = (-9 : Int32))) = true →
              ax_AK d 40 (10, [some (ax_vr 2 0 48), some (ax_vr 4 n0 o0), some (ax_vi b2), some (ax_vi (b3 + 1)), some (ax_vi ((I (o0 + 1) b3.toNatClampNeg) - (I (o0 + 1) b3.toNatClampNeg) / 10 * 10)), some (ax_vi x3)], [], ax_mm I1 L2) (ax_ki K)) ∧
            ((!decide ((I1 48 4) = (-9 : Int32))) = false →
              ax_AK d 40 (10, [some (ax_vr 2 0 48), some (ax_vr 4 n0 o0), some (ax_vi b2), some (ax_vi (b3 + 1)), some (ax_vi ((I (o0 + 1) b3.toNatClampNeg) - (I (o0 + 1) b3.toNatClampNeg) / 10 * 10)), some (ax_vi x3)], [], ax_mm (ax_ui I1 48 4 b3) L2) (ax_ki K)))) ∧
        ((!decide (x3 = (2 : Int32))) = false →
          ((!decide (x3 = (0 : Int32))) = true →
            ax_AK d 40 (10, [some (ax_vr 2 0 48), some (ax_vr 4 n0 o0), some (ax_vi (b2 + 1)), some (ax_vi (b3 + 1)), some (ax_vi ((I (o0 + 1) b3.toNatClampNeg) - (I (o0 + 1) b3.toNatClampNeg) / 10 * 10)), some (ax_vi x3)], [], ax_mm I1 L2) (ax_ki K)) ∧
          ((!decide (x3 = (0 : Int32))) = false →
            ((!decide ((I1 48 4) = (-9 : Int32))) = true →
              ax_AK d 40 (10, [some (ax_vr 2 0 48), some (ax_vr 4 n0 o0), some (ax_vi (b2 + 1)), some (ax_vi (b3 + 1)), some (ax_vi ((I (o0 + 1) b3.toNatClampNeg) - (I (o0 + 1) b3.toNatClampNeg) / 10 * 10)), some (ax_vi x3)], [], ax_mm I1 L2) (ax_ki K)) ∧
            ((!decide ((I1 48 4) = (-9 : Int32))) = false →
              ax_AK d 40 (10, [some (ax_vr 2 0 48), some (ax_vr 4 n0 o0), some (ax_vi (b2 + 1)), some (ax_vi (b3 + 1)), some (ax_vi ((I (o0 + 1) b3.toNatClampNeg) - (I (o0 + 1) b3.toNatClampNeg) / 10 * 10)), some (ax_vi x3)], [], ax_mm (ax_ui I1 48 4 b3) L2) (ax_ki K)))))) ∧
    ((!decide (((I (o0 + 1) b3.toNatClampNeg) - (I (o0 + 1) b3.toNatClampNeg) / 10 * 10) = (9 : Int32))) = false →
      ((!decide ((0 : Int32) = (2 : Int32))) = true →
        ((!decide ((0 : Int32) = (0 : Int32))) = true →
          ax_AK d 40 (10, [some (ax_vr 2 0 48), some (ax_vr 4 n0 o0), some (ax_vi b2), some (ax_vi (b3 + 1)), some (ax_vi ((I (o0 + 1) b3.toNatClampNeg) - (I (o0 + 1) b3.toNatClampNeg) / 10 * 10)), some (ax_vi 0)], [], ax_mm I L) (ax_ki K)) ∧
        ((!decide ((0 : Int32) = (0 : Int32))) = false →
          ((!decide ((I 48 4) = (-9 : Int32))) = true →
            ax_AK d 40 (10, [some (ax_vr 2 0 48), some (ax_vr 4 n0 o0), some (ax_vi b2), some (ax_vi (b3 + 1)), some (ax_vi ((I (o0 + 1) b3.toNatClampNeg) - (I (o0 + 1) b3.toNatClampNeg) / 10 * 10)), some (ax_vi 0)], [], ax_mm I L) (ax_ki K)) ∧
          ((!decide ((I 48 4) = (-9 : Int32))) = false →
            ax_AK d 40 (10, [some (ax_vr 2 0 48), some (ax_vr 4 n0 o0), some (ax_vi b2), some (ax_vi (b3 + 1)), some (ax_vi ((I (o0 + 1) b3.toNatClampNeg) - (I (o0 + 1) b3.toNatClampNeg) / 10 * 10)), some (ax_vi 0)], [], ax_mm (ax_ui I 48 4 b3) L) (ax_ki K)))) ∧
      ((!decide ((0 : Int32) = (2 : Int32))) = false →
        ((!decide ((0 : Int32) = (0 : Int32))) = true →
          ax_AK d 40 (10, [some (ax_vr 2 0 48), some (ax_vr 4 n0 o0), some (ax_vi (b2 + 1)), some (ax_vi (b3 + 1)), some (ax_vi ((I (o0 + 1) b3.toNatClampNeg) - (I (o0 + 1) b3.toNatClampNeg) / 10 * 10)), some (ax_vi 0)], [], ax_mm I L) (ax_ki K)) ∧
        ((!decide ((0 : Int32) = (0 : Int32))) = false →
          ((!decide ((I 48 4) = (-9 : Int32))) = true →
            ax_AK d 40 (10, [some (ax_vr 2 0 48), some (ax_vr 4 n0 o0), some (ax_vi (b2 + 1)), some (ax_vi (b3 + 1)), some (ax_vi ((I (o0 + 1) b3.toNatClampNeg) - (I (o0 + 1) b3.toNatClampNeg) / 10 * 10)), some (ax_vi 0)], [], ax_mm I L) (ax_ki K)) ∧
          ((!decide ((I 48 4) = (-9 : Int32))) = false →
            ax_AK d 40 (10, [some (ax_vr 2 0 48), some (ax_vr 4 n0 o0), some (ax_vi (b2 + 1)), some (ax_vi (b3 + 1)), some (ax_vi ((I (o0 + 1) b3.toNatClampNeg) - (I (o0 + 1) b3.toNatClampNeg) / 10 * 10)), some (ax_vi 0)], [], ax_mm (ax_ui I 48 4 b3) L) (ax_ki K))))))) : ax_AK d 40 (10, [some (ax_vr 2 0 48), some (ax_vr 4 n0 o0), some (ax_vi b2), some (ax_vi b3), z4, z5], [], ax_mm I L) (ax_ki K) := ax_vcL ax_c40 1 (fun pc => Nat.beq pc 10) 44 rfl rfl h
set_option maxRecDepth 100000 in
set_option maxHeartbeats 8000000 in
theorem vc_X2_allWays {d : Nat} {a0 : Int32} {I : ax_I} {L : ax_J} {K : Int64 → ax_I → ax_J → Prop} (h :
  ax_AK d 41 (5, [some (ax_vr 2 0 48), some (ax_vi a0), some (ax_vl 1), none, some (ax_vi 0)], [], ax_mm I L) (ax_kl K)) : ax_CL (d + 1) 41 [ax_vr 2 0 48, ax_vi a0] I L K := ax_vcJ ax_c41 2 [some (ax_vr 2 0 48), some (ax_vi a0), none, none, none] (fun pc => Nat.beq pc 5) 6 rfl rfl rfl rfl h
set_option maxRecDepth 100000 in
set_option maxHeartbeats 8000000 in
theorem vc_X2_allWays_5 {d : Nat} {b1 : Int32} {b2 : Int64} {b4 : Int32} {z3 : Option ax_V} {I : ax_I} {L : ax_J} {K : Int64 → ax_I → ax_J → Prop} (h :
  (decide (b1 ≤ b4) = true →
    K b2 I L) ∧
  (decide (b1 ≤ b4) = false →
    ax_AK d 41 (5, [some (ax_vr 2 0 48), some (ax_vi b1), some (ax_vl (b2 * (((I 49 0).toInt64) * ((I 49 1).toInt64)))), none, some (ax_vi (b4 + 1))], [], ax_mm I L) (ax_kl K))) : ax_AK d 41 (5, [some (ax_vr 2 0 48), some (ax_vi b1), some (ax_vl b2), z3, some (ax_vi b4)], [], ax_mm I L) (ax_kl K) := ax_vcL ax_c41 2 (fun pc => Nat.beq pc 5) 19 rfl rfl h
set_option maxRecDepth 100000 in
set_option maxHeartbeats 8000000 in
theorem vc_X2_waysTo {d : Nat} {a0 : Int32} {a1 : Int32} {a2 : Int32} {I : ax_I} {L : ax_J} {K : Int64 → ax_I → ax_J → Prop} (h :
  ax_CL d 43 [ax_vr 2 0 48, ax_vi a0, ax_vi a1, ax_vi a2] I L (fun x3 I1 L2 =>
    K x3 I1 L2)) : ax_CL (d + 1) 42 [ax_vr 2 0 48, ax_vi a0, ax_vi a1, ax_vi a2] I L K := ax_vcJ ax_c42 2 [some (ax_vr 2 0 48), some (ax_vi a0), some (ax_vi a1), some (ax_vi a2)] (fun _ => false) 7 rfl rfl rfl rfl h
set_option maxRecDepth 100000 in
set_option maxHeartbeats 8000000 in
theorem vc_X2_goodWays {d : Nat} {a0 : Int32} {a1 : Int32} {a2 : Int32} {I : ax_I} {L : ax_J} {K : Int64 → ax_I → ax_J → Prop} (h :
  ax_inb a1 6 = true ∧
  (decide ((I 62 a1.toNatClampNeg) = (-9 : Int32)) = true →
    (decide ((0 : Int32) < a2) = true →
      ax_CL d 43 [ax_vr 2 0 48, ax_vi a0, ax_vi a1, ax_vi (a2 - 1)] I L (fun x3 I1 L2 =>
        ax_AK d 43 (77, [some (ax_vr 2 0 48), some (ax_vi a0), some (ax_vi a1), some (ax_vi a2), some (ax_vl ((((I 49 0).toInt64) * (((I 49 1) - 1).toInt64)) * x3)), none, some (ax_vi 0), none], [], ax_mm I1 L2) (ax_kl K))) ∧
    (decide ((0 : Int32) < a2) = false →
      K 0 I L)) ∧
  (decide ((I 62 a1.toNatClampNeg) = (-9 : Int32)) = false →
    ax_inb a1 6 = true ∧
    ((!decide ((I 62 a1.toNatClampNeg) = a0)) = true →
      K 0 I L) ∧
    ((!decide ((I 62 a1.toNatClampNeg) = a0)) = false →
      ax_CL d 41 [ax_vr 2 0 48, ax_vi a2] I L (fun x6 I4 L5 =>
        K x6 I4 L5)))) : ax_CL (d + 1) 43 [ax_vr 2 0 48, ax_vi a0, ax_vi a1, ax_vi a2] I L K := ax_vcJ ax_c43 2 [some (ax_vr 2 0 48), some (ax_vi a0), some (ax_vi a1), some (ax_vi a2), none, none, none, none] (fun pc => Nat.beq pc 77) 33 rfl rfl rfl rfl h
set_option maxRecDepth 100000 in
set_option maxHeartbeats 8000000 in
theorem vc_X2_goodWays_77 {d : Nat} {b1 : Int32} {b2 : Int32} {b3 : Int32} {b4 : Int64} {b6 : Int32} {z5 : Option ax_V} {z7 : Option ax_V} {I : ax_I} {L : ax_J} {K : Int64 → ax_I → ax_J → Prop} (h :
  (decide ((I 49 0) ≤ b6) = true →
    K b4 I L) ∧
  (decide ((I 49 0) ≤ b6) = false →
    ax_CI d 9 [ax_vr 1 0 53, ax_vr 7 0 49, ax_vi b6, ax_vi b2] I L (fun x3 I1 L2 =>
      ax_CL d 43 [ax_vr 2 0 48, ax_vi b1, ax_vi b2, ax_vi (b3 - 1)] I1 L2 (fun x6 I4 L5 =>
        ax_CV d 10 [ax_vr 1 0 53, ax_vi b2, ax_vi x3] I4 L5 (fun I7 L8 =>
          ax_AK d 43 (77, [some (ax_vr 2 0 48), some (ax_vi b1), some (ax_vi b2), some (ax_vi b3), some (ax_vl (b4 + x6)), none, some (ax_vi (b6 + 1)), some (ax_vi x3)], [], ax_mm I7 L8) (ax_kl K)))))) : ax_AK d 43 (77, [some (ax_vr 2 0 48), some (ax_vi b1), some (ax_vi b2), some (ax_vi b3), some (ax_vl b4), z5, some (ax_vi b6), z7], [], ax_mm I L) (ax_kl K) := ax_vcL ax_c43 2 (fun pc => Nat.beq pc 77) 32 rfl rfl h
set_option maxRecDepth 100000 in
set_option maxHeartbeats 8000000 in
theorem vc_X3_giveOut {d : Nat} {o0 : Nat} {o1 : Nat} {n2 o2 : Nat} {I : ax_I} {L : ax_J} {K : Int32 → ax_I → ax_J → Prop} (h :
  ax_CV d 46 [ax_vr 3 0 107, ax_vr 7 0 o0, ax_vr 1 0 o1] I L (fun I1 L2 =>
    ax_AK d 45 (12, [some (ax_vr 3 0 107), some (ax_vr 7 0 o0), some (ax_vr 1 0 o1), some (ax_vr 4 n2 o2), some (ax_vi 0), some (ax_vi 0), none, none], [], ax_mm I1 L2) (ax_ki K))) : ax_CI (d + 1) 45 [ax_vr 3 0 107, ax_vr 7 0 o0, ax_vr 1 0 o1, ax_vr 4 n2 o2] I L K := ax_vcI ax_c45 1 [some (ax_vr 3 0 107), some (ax_vr 7 0 o0), some (ax_vr 1 0 o1), some (ax_vr 4 n2 o2), none, none, none, none] (fun pc => Nat.beq pc 12 || Nat.beq pc 72) 10 rfl rfl rfl rfl h
set_option maxRecDepth 100000 in
set_option maxHeartbeats 8000000 in
theorem vc_X3_giveOut_12 {d : Nat} {n2 : Nat} {o0 : Nat} {o1 : Nat} {o2 : Nat} {b4 : Int32} {b5 : Int32} {z6 : Option ax_V} {z7 : Option ax_V} {I : ax_I} {L : ax_J} {K : Int32 → ax_I → ax_J → Prop} (h :
  (decide ((I o0 1) ≤ b5) = true →
    ax_inb 0 7 = true ∧
    ax_inb b4 64 = true ∧
    ax_CV d 54 [ax_vr 4 n2 o2, ax_vi (I o0 0), ax_vi (-9)] I L (fun I1 L2 =>
      ax_AK d 45 (72, [some (ax_vr 3 0 107), some (ax_vr 7 0 o0), some (ax_vr 1 0 o1), some (ax_vr 4 n2 o2), some (ax_vi b4), some (ax_vi (I (108 + (1 + (0 : Int32).toNatClampNeg)) b4.toNatClampNeg)), some (ax_vi 0), none], [], ax_mm I1 L2) (ax_ki K))) ∧
  (decide ((I o0 1) ≤ b5) = false →
    ax_inb b5 6 = true ∧
    ((!decide ((I (o1 + 9) b5.toNatClampNeg) = (-9 : Int32))) = true →
      ax_AK d 45 (12, [some (ax_vr 3 0 107), some (ax_vr 7 0 o0), some (ax_vr 1 0 o1), some (ax_vr 4 n2 o2), some (ax_vi b4), some (ax_vi (b5 + 1)), none, none], [], ax_mm I L) (ax_ki K)) ∧
    ((!decide ((I (o1 + 9) b5.toNatClampNeg) = (-9 : Int32))) = false →
      ax_AK d 45 (12, [some (ax_vr 3 0 107), some (ax_vr 7 0 o0), some (ax_vr 1 0 o1), some (ax_vr 4 n2 o2), some (ax_vi (b4 ||| ((1 : Int32) <<< (b5 &&& 31)))), some (ax_vi (b5 + 1)), none, none], [], ax_mm I L) (ax_ki K)))) : ax_AK d 45 (12, [some (ax_vr 3 0 107), some (ax_vr 7 0 o0), some (ax_vr 1 0 o1), some (ax_vr 4 n2 o2), some (ax_vi b4), some (ax_vi b5), z6, z7], [], ax_mm I L) (ax_ki K) := ax_vcL ax_c45 1 (fun pc => Nat.beq pc 12 || Nat.beq pc 72) 20 rfl rfl h
set_option maxRecDepth 100000 in
set_option maxHeartbeats 8000000 in
theorem vc_X3_giveOut_72 {d : Nat} {n2 : Nat} {o0 : Nat} {o1 : Nat} {o2 : Nat} {b4 : Int32} {b5 : Int32} {b6 : Int32} {z7 : Option ax_V} {I : ax_I} {L : ax_J} {K : Int32 → ax_I → ax_J → Prop} (h :
  (decide ((I o2 1) ≤ b6) = true →
    K b5 I L) ∧
  (decide ((I o2 1) ≤ b6) = false →
    ax_CI d 48 [ax_vr 3 0 107, ax_vr 7 0 o0, ax_vr 1 0 o1, ax_vi b6, ax_vi b4] I L (fun x3 I1 L2 =>
      ax_inb b6 n2 = true ∧
      (decide (x3 = (-9 : Int32)) = true →
        ax_AK d 45 (72, [some (ax_vr 3 0 107), some (ax_vr 7 0 o0), some (ax_vr 1 0 o1), some (ax_vr 4 n2 o2), some (ax_vi b4), some (ax_vi b5), some (ax_vi (b6 + 1)), some (ax_vi x3)], [], ax_mm (ax_ui I1 (o2 + 1) b6.toNatClampNeg x3) L2) (ax_ki K)) ∧
      (decide (x3 = (-9 : Int32)) = false →
        ax_AK d 45 (72, [some (ax_vr 3 0 107), some (ax_vr 7 0 o0), some (ax_vr 1 0 o1), some (ax_vr 4 n2 o2), some (ax_vi (b4 &&& (((1 : Int32) <<< (x3 &&& 31)) ^^^ (-1)))), some (ax_vi b5), some (ax_vi (b6 + 1)), some (ax_vi x3)], [], ax_mm (ax_ui I1 (o2 + 1) b6.toNatClampNeg x3) L2) (ax_ki K))))) : ax_AK d 45 (72, [some (ax_vr 3 0 107), some (ax_vr 7 0 o0), some (ax_vr 1 0 o1), some (ax_vr 4 n2 o2), some (ax_vi b4), some (ax_vi b5), some (ax_vi b6), z7], [], ax_mm I L) (ax_ki K) := ax_vcL ax_c45 1 (fun pc => Nat.beq pc 12 || Nat.beq pc 72) 31 rfl rfl h
set_option maxRecDepth 100000 in
set_option maxHeartbeats 8000000 in
theorem vc_X3_fillFromLast {d : Nat} {o0 : Nat} {o1 : Nat} {I : ax_I} {L : ax_J} {K : ax_I → ax_J → Prop} (h :
  ax_inb (I o0 0) 7 = true ∧
  ax_CV d 246 [ax_vr 10 64 (108 + (1 + (I o0 0).toNatClampNeg)), ax_vi 0] I L (fun I1 L2 =>
    ax_AK d 46 (20, [some (ax_vr 3 0 107), some (ax_vr 7 0 o0), some (ax_vr 1 0 o1), some (ax_vi ((I1 o0 0) - 1)), none, none, none], [], ax_mm I1 L2) (ax_kv K))) : ax_CV (d + 1) 46 [ax_vr 3 0 107, ax_vr 7 0 o0, ax_vr 1 0 o1] I L K := ax_vcV ax_c46 0 [some (ax_vr 3 0 107), some (ax_vr 7 0 o0), some (ax_vr 1 0 o1), none, none, none, none] (fun pc => Nat.beq pc 20 || Nat.beq pc 27 || Nat.beq pc 54) 14 rfl rfl rfl rfl h
set_option maxRecDepth 100000 in
set_option maxHeartbeats 8000000 in
theorem vc_X3_fillFromLast_20 {d : Nat} {o0 : Nat} {o1 : Nat} {b3 : Int32} {z4 : Option ax_V} {z5 : Option ax_V} {z6 : Option ax_V} {I : ax_I} {L : ax_J} {K : ax_I → ax_J → Prop} (h :
  (decide (b3 < (0 : Int32)) = true →
    K I L) ∧
  (decide (b3 < (0 : Int32)) = false →
    ax_AK d 46 (27, [some (ax_vr 3 0 107), some (ax_vr 7 0 o0), some (ax_vr 1 0 o1), some (ax_vi b3), some (ax_vi 0), none, none], [], ax_mm I L) (ax_kv K))) : ax_AK d 46 (20, [some (ax_vr 3 0 107), some (ax_vr 7 0 o0), some (ax_vr 1 0 o1), some (ax_vi b3), z4, z5, z6], [], ax_mm I L) (ax_kv K) := ax_vcL ax_c46 0 (fun pc => Nat.beq pc 20 || Nat.beq pc 27 || Nat.beq pc 54) 6 rfl rfl h
set_option maxRecDepth 100000 in
set_option maxHeartbeats 8000000 in
theorem vc_X3_fillFromLast_27 {d : Nat} {o0 : Nat} {o1 : Nat} {b3 : Int32} {b4 : Int32} {z5 : Option ax_V} {z6 : Option ax_V} {I : ax_I} {L : ax_J} {K : ax_I → ax_J → Prop} (h :
  (decide (((1 : Int32) <<< ((I o0 1) &&& 31)) ≤ b4) = true →
    ax_AK d 46 (20, [some (ax_vr 3 0 107), some (ax_vr 7 0 o0), some (ax_vr 1 0 o1), some (ax_vi (b3 + (-1))), some (ax_vi b4), none, none], [], ax_mm I L) (ax_kv K)) ∧
  (decide (((1 : Int32) <<< ((I o0 1) &&& 31)) ≤ b4) = false →
    ax_inb (b3 + 1) 7 = true ∧
    ax_inb b4 64 = true ∧
    ax_AK d 46 (54, [some (ax_vr 3 0 107), some (ax_vr 7 0 o0), some (ax_vr 1 0 o1), some (ax_vi b3), some (ax_vi b4), some (ax_vi (I (108 + (1 + (b3 + 1).toNatClampNeg)) b4.toNatClampNeg)), some (ax_vi 0)], [], ax_mm I L) (ax_kv K))) : ax_AK d 46 (27, [some (ax_vr 3 0 107), some (ax_vr 7 0 o0), some (ax_vr 1 0 o1), some (ax_vi b3), some (ax_vi b4), z5, z6], [], ax_mm I L) (ax_kv K) := ax_vcL ax_c46 0 (fun pc => Nat.beq pc 20 || Nat.beq pc 27 || Nat.beq pc 54) 19 rfl rfl h
set_option maxRecDepth 100000 in
set_option maxHeartbeats 8000000 in
theorem vc_X3_fillFromLast_54 {d : Nat} {o0 : Nat} {o1 : Nat} {b3 : Int32} {b4 : Int32} {b5 : Int32} {b6 : Int32} {I : ax_I} {L : ax_J} {K : ax_I → ax_J → Prop} (h :
  (decide ((I o0 1) ≤ b6) = true →
    ax_inb b3 7 = true ∧
    ax_inb b4 64 = true ∧
    ax_AK d 46 (27, [some (ax_vr 3 0 107), some (ax_vr 7 0 o0), some (ax_vr 1 0 o1), some (ax_vi b3), some (ax_vi (b4 + 1)), some (ax_vi b5), some (ax_vi b6)], [], ax_mm (ax_ui I (108 + (1 + b3.toNatClampNeg)) b4.toNatClampNeg b5) L) (ax_kv K)) ∧
  (decide ((I o0 1) ≤ b6) = false →
    (decide (((b4 >>> (b6 &&& 31)) &&& 1) = (0 : Int32)) = true →
      ax_AK d 46 (54, [some (ax_vr 3 0 107), some (ax_vr 7 0 o0), some (ax_vr 1 0 o1), some (ax_vi b3), some (ax_vi b4), some (ax_vi b5), some (ax_vi (b6 + 1))], [], ax_mm I L) (ax_kv K)) ∧
    (decide (((b4 >>> (b6 &&& 31)) &&& 1) = (0 : Int32)) = false →
      ax_CI d 47 [ax_vr 3 0 107, ax_vr 1 0 o1, ax_vi b3, ax_vi b4, ax_vi b6] I L (fun x3 I1 L2 =>
        ax_AK d 46 (54, [some (ax_vr 3 0 107), some (ax_vr 7 0 o0), some (ax_vr 1 0 o1), some (ax_vi b3), some (ax_vi b4), some (ax_vi (if b5 < x3 then x3 else b5)), some (ax_vi (b6 + 1))], [], ax_mm I1 L2) (ax_kv K))))) : ax_AK d 46 (54, [some (ax_vr 3 0 107), some (ax_vr 7 0 o0), some (ax_vr 1 0 o1), some (ax_vi b3), some (ax_vi b4), some (ax_vi b5), some (ax_vi b6)], [], ax_mm I L) (ax_kv K) := ax_vcL ax_c46 0 (fun pc => Nat.beq pc 20 || Nat.beq pc 27 || Nat.beq pc 54) 23 rfl rfl h
set_option maxRecDepth 100000 in
set_option maxHeartbeats 8000000 in
theorem vc_X3_withThing {d : Nat} {o0 : Nat} {a1 : Int32} {a2 : Int32} {a3 : Int32} {I : ax_I} {L : ax_J} {K : Int32 → ax_I → ax_J → Prop} (h :
  ax_inb a1 6 = true ∧
  ax_inb a3 6 = true ∧
  ax_inb (a1 + 1) 7 = true ∧
  ax_inb (a2 &&& (((1 : Int32) <<< (a3 &&& 31)) ^^^ (-1))) 64 = true ∧
  K ((I ((o0 + 1) + (1 + a1.toNatClampNeg)) a3.toNatClampNeg) + (I (108 + (1 + (a1 + 1).toNatClampNeg)) (a2 &&& (((1 : Int32) <<< (a3 &&& 31)) ^^^ (-1))).toNatClampNeg)) I L) : ax_CI (d + 1) 47 [ax_vr 3 0 107, ax_vr 1 0 o0, ax_vi a1, ax_vi a2, ax_vi a3] I L K := ax_vcI ax_c47 1 [some (ax_vr 3 0 107), some (ax_vr 1 0 o0), some (ax_vi a1), some (ax_vi a2), some (ax_vi a3)] (fun _ => false) 23 rfl rfl rfl rfl h
set_option maxRecDepth 100000 in
set_option maxHeartbeats 8000000 in
theorem vc_X3_firstOfMost {d : Nat} {o0 : Nat} {o1 : Nat} {a2 : Int32} {a3 : Int32} {I : ax_I} {L : ax_J} {K : Int32 → ax_I → ax_J → Prop} (h :
  ax_AK d 48 (3, [some (ax_vr 3 0 107), some (ax_vr 7 0 o0), some (ax_vr 1 0 o1), some (ax_vi a2), some (ax_vi a3), some (ax_vi 0)], [], ax_mm I L) (ax_ki K)) : ax_CI (d + 1) 48 [ax_vr 3 0 107, ax_vr 7 0 o0, ax_vr 1 0 o1, ax_vi a2, ax_vi a3] I L K := ax_vcI ax_c48 1 [some (ax_vr 3 0 107), some (ax_vr 7 0 o0), some (ax_vr 1 0 o1), some (ax_vi a2), some (ax_vi a3), none] (fun pc => Nat.beq pc 3) 4 rfl rfl rfl rfl h
set_option maxRecDepth 100000 in
set_option maxHeartbeats 8000000 in
theorem vc_X3_firstOfMost_3 {d : Nat} {o0 : Nat} {o1 : Nat} {b3 : Int32} {b4 : Int32} {b5 : Int32} {I : ax_I} {L : ax_J} {K : Int32 → ax_I → ax_J → Prop} (h :
  (decide ((I o0 1) ≤ b5) = true →
    K (-9) I L) ∧
  (decide ((I o0 1) ≤ b5) = false →
    (decide (((b4 >>> (b5 &&& 31)) &&& 1) = (0 : Int32)) = true →
      ax_AK d 48 (3, [some (ax_vr 3 0 107), some (ax_vr 7 0 o0), some (ax_vr 1 0 o1), some (ax_vi b3), some (ax_vi b4), some (ax_vi (b5 + 1))], [], ax_mm I L) (ax_ki K)) ∧
    (decide (((b4 >>> (b5 &&& 31)) &&& 1) = (0 : Int32)) = false →
      ax_CI d 47 [ax_vr 3 0 107, ax_vr 1 0 o1, ax_vi b3, ax_vi b4, ax_vi b5] I L (fun x3 I1 L2 =>
        ax_inb b3 7 = true ∧
        ax_inb b4 64 = true ∧
        ((!decide (x3 = (I1 (108 + (1 + b3.toNatClampNeg)) b4.toNatClampNeg))) = true →
          ax_AK d 48 (3, [some (ax_vr 3 0 107), some (ax_vr 7 0 o0), some (ax_vr 1 0 o1), some (ax_vi b3), some (ax_vi b4), some (ax_vi (b5 + 1))], [], ax_mm I1 L2) (ax_ki K)) ∧
        ((!decide (x3 = (I1 (108 + (1 + b3.toNatClampNeg)) b4.toNatClampNeg))) = false →
          K b5 I1 L2))))) : ax_AK d 48 (3, [some (ax_vr 3 0 107), some (ax_vr 7 0 o0), some (ax_vr 1 0 o1), some (ax_vi b3), some (ax_vi b4), some (ax_vi b5)], [], ax_mm I L) (ax_ki K) := ax_vcL ax_c48 1 (fun pc => Nat.beq pc 3) 27 rfl rfl h
set_option maxRecDepth 100000 in
set_option maxHeartbeats 8000000 in
theorem vc_X4_isMissing {d : Nat} {o : Nat} {n : Nat} {I : ax_I} {L : ax_J} {K : Int32 → ax_I → ax_J → Prop} (h :
  ((!decide ((I o 1) = (-1 : Int32))) = true →
    ax_bit 0 = true ∧ K 0 I L) ∧
  ((!decide ((I o 1) = (-1 : Int32))) = false →
    ax_bit 1 = true ∧ K 1 I L)) : ax_CI (d + 1) 50 [ax_vr 4 n o] I L K := ax_vcI ax_c50 3 [some (ax_vr 4 n o)] (fun _ => false) 8 rfl rfl rfl rfl h
set_option maxRecDepth 100000 in
set_option maxHeartbeats 8000000 in
theorem vc_X4_hasPlace {d : Nat} {o : Nat} {n : Nat} {a0 : Int32} {I : ax_I} {L : ax_J} {K : Int32 → ax_I → ax_J → Prop} (h :
  (decide (a0 < (0 : Int32)) = true →
    ax_bit 0 = true ∧ K 0 I L) ∧
  (decide (a0 < (0 : Int32)) = false →
    (decide ((I o 1) ≤ a0) = true →
      ax_bit 0 = true ∧ K 0 I L) ∧
    (decide ((I o 1) ≤ a0) = false →
      ax_bit 1 = true ∧ K 1 I L))) : ax_CI (d + 1) 51 [ax_vr 4 n o, ax_vi a0] I L K := ax_vcI ax_c51 3 [some (ax_vr 4 n o), some (ax_vi a0)] (fun _ => false) 10 rfl rfl rfl rfl h
