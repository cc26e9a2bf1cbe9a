set_option maxRecDepth 100000 in
set_option maxHeartbeats 8000000 in
theorem vc_X4_hasRange {d : Nat} {o : Nat} {n : Nat} {a0 : Int32} {a1 : Int32} {I : ax_I} {L : ax_J} {K : Int32 → ax_I → ax_J → Prop} (h :
  (decide (a0 < (0 : Int32)) = true →
    ax_bit 0 = true ∧ K 0 I L) ∧
  (decide (a0 < (0 : Int32)) = false →
    (decide ((I o 1) < a0) = true →
      ax_bit 0 = true ∧ K 0 I L) ∧
    (decide ((I o 1) < a0) = false →
      (decide (((I o 1) - a0) < a1) = true →
        ax_bit 0 = true ∧ K 0 I L) ∧
      (decide (((I o 1) - a0) < a1) = false →
        ax_bit 1 = true ∧ K 1 I L)))) : ax_CI (d + 1) 52 [ax_vr 4 n o, ax_vi a0, ax_vi a1] I L K := ax_vcI ax_c52 3 [some (ax_vr 4 n o), some (ax_vi a0), some (ax_vi a1)] (fun _ => false) 16 rfl rfl rfl rfl h
set_option maxRecDepth 100000 in
set_option maxHeartbeats 8000000 in
theorem vc_X4_lose {d : Nat} {o : Nat} {n : Nat} {I : ax_I} {L : ax_J} {K : ax_I → ax_J → Prop} (h :
  K (ax_ui I o 1 (-1)) L) : ax_CV (d + 1) 53 [ax_vr 4 n o] I L K := ax_vcV ax_c53 0 [some (ax_vr 4 n o)] (fun _ => false) 5 rfl rfl rfl rfl h
set_option maxRecDepth 100000 in
set_option maxHeartbeats 8000000 in
theorem vc_X4_makeAnew {d : Nat} {o : Nat} {n : Nat} {a0 : Int32} {a1 : Int32} {I : ax_I} {L : ax_J} {K : ax_I → ax_J → Prop} (h :
  ax_AK d 54 (19, [some (ax_vr 4 n o), some (ax_vi a0), some (ax_vi a1), some (ax_vi 0)], [], ax_mm (ax_ui I o 1 (if 0 < (if (nI n) < a0 then (nI n) else a0) then (if (nI n) < a0 then (nI n) else a0) else 0)) L) (ax_kv K)) : ax_CV (d + 1) 54 [ax_vr 4 n o, ax_vi a0, ax_vi a1] I L K := ax_vcV ax_c54 0 [some (ax_vr 4 n o), some (ax_vi a0), some (ax_vi a1), none] (fun pc => Nat.beq pc 19) 13 rfl rfl rfl rfl h
set_option maxRecDepth 100000 in
set_option maxHeartbeats 8000000 in
theorem vc_X4_makeAnew_19 {d : Nat} {n : Nat} {o : Nat} {b2 : Int32} {b3 : Int32} {z1 : Option ax_V} {I : ax_I} {L : ax_J} {K : ax_I → ax_J → Prop} (h :
  (decide ((I o 1) ≤ b3) = true →
    K I L) ∧
  (decide ((I o 1) ≤ b3) = false →
    ax_inb b3 n = true ∧
    ax_AK d 54 (19, [some (ax_vr 4 n o), none, some (ax_vi b2), some (ax_vi (b3 + 1))], [], ax_mm (ax_ui I (o + 1) b3.toNatClampNeg b2) L) (ax_kv K))) : ax_AK d 54 (19, [some (ax_vr 4 n o), z1, some (ax_vi b2), some (ax_vi b3)], [], ax_mm I L) (ax_kv K) := ax_vcL ax_c54 0 (fun pc => Nat.beq pc 19) 13 rfl rfl h
set_option maxRecDepth 100000 in
set_option maxHeartbeats 8000000 in
theorem vc_X4_makeOf {d : Nat} {o : Nat} {n : Nat} {n0 o0 : Nat} {a1 : Int32} {I : ax_I} {L : ax_J} {K : ax_I → ax_J → Prop} (h :
  ax_CV d 54 [ax_vr 4 n o, ax_vi (if (nI n0) < a1 then (nI n0) else a1), ax_vi 0] I L (fun I1 L2 =>
    (decide ((0 : Int32) ≤ 0) && decide ((0 : Int32) ≤ 0) && decide ((0 : Int32) ≤ I1 o 1) && Nat.ble ((0 : Int32).toNatClampNeg + (I1 o 1).toNatClampNeg) n0 && Nat.ble ((0 : Int32).toNatClampNeg + (I1 o 1).toNatClampNeg) n) = true ∧
    K (ax_uc I1 o0 (o + 1) (0 : Int32).toNatClampNeg (0 : Int32).toNatClampNeg (I1 o 1).toNatClampNeg) L2)) : ax_CV (d + 1) 55 [ax_vr 4 n o, ax_vr 10 n0 o0, ax_vi a1] I L K := ax_vcV ax_c55 0 [some (ax_vr 4 n o), some (ax_vr 10 n0 o0), some (ax_vi a1)] (fun _ => false) 17 rfl rfl rfl rfl h
set_option maxRecDepth 100000 in
set_option maxHeartbeats 8000000 in
theorem vc_X4_sum {d : Nat} {o : Nat} {n : Nat} {I : ax_I} {L : ax_J} {K : Int64 → ax_I → ax_J → Prop} (h :
  ax_AK d 56 (4, [some (ax_vr 4 n o), some (ax_vl 0), none, some (ax_vi 0)], [], ax_mm I L) (ax_kl K)) : ax_CL (d + 1) 56 [ax_vr 4 n o] I L K := ax_vcJ ax_c56 2 [some (ax_vr 4 n o), none, none, none] (fun pc => Nat.beq pc 4) 6 rfl rfl rfl rfl h
set_option maxRecDepth 100000 in
set_option maxHeartbeats 8000000 in
theorem vc_X4_sum_4 {d : Nat} {n : Nat} {o : Nat} {b1 : Int64} {b3 : Int32} {z2 : Option ax_V} {I : ax_I} {L : ax_J} {K : Int64 → ax_I → ax_J → Prop} (h :
  (decide ((I o 1) ≤ b3) = true →
    K b1 I L) ∧
  (decide ((I o 1) ≤ b3) = false →
    ax_inb b3 n = true ∧
    ax_AK d 56 (4, [some (ax_vr 4 n o), some (ax_vl (b1 + ((I (o + 1) b3.toNatClampNeg).toInt64))), none, some (ax_vi (b3 + 1))], [], ax_mm I L) (ax_kl K))) : ax_AK d 56 (4, [some (ax_vr 4 n o), some (ax_vl b1), z2, some (ax_vi b3)], [], ax_mm I L) (ax_kl K) := ax_vcL ax_c56 2 (fun pc => Nat.beq pc 4) 16 rfl rfl h
set_option maxRecDepth 100000 in
set_option maxHeartbeats 8000000 in
theorem vc_X5_begin {d : Nat} {o0 : Nat} {o1 : Nat} {n2 o2 : Nat} {I : ax_I} {L : ax_J} {K : ax_I → ax_J → Prop} (h :
  ax_CV d 79 [ax_vr 7 0 70, ax_vr 7 0 o0] I L (fun I1 L2 =>
    ax_CV d 6 [ax_vr 1 0 74, ax_vr 1 0 o1] I1 L2 (fun I4 L5 =>
      ax_CV d 4 [ax_vr 1 0 89] I4 L5 (fun I7 L8 =>
        (decide ((0 : Int32) ≤ 0) && decide ((0 : Int32) ≤ 0) && decide ((0 : Int32) ≤ (ax_ui I7 69 6 (if 0 < (if 6 < (I7 o2 1) then 6 else (I7 o2 1)) then (if 6 < (I7 o2 1) then 6 else (I7 o2 1)) else 0)) 69 6) && Nat.ble ((0 : Int32).toNatClampNeg + ((ax_ui I7 69 6 (if 0 < (if 6 < (I7 o2 1) then 6 else (I7 o2 1)) then (if 6 < (I7 o2 1) then 6 else (I7 o2 1)) else 0)) 69 6).toNatClampNeg) n2 && Nat.ble ((0 : Int32).toNatClampNeg + ((ax_ui I7 69 6 (if 0 < (if 6 < (I7 o2 1) then 6 else (I7 o2 1)) then (if 6 < (I7 o2 1) then 6 else (I7 o2 1)) else 0)) 69 6).toNatClampNeg) 6) = true ∧
        K (ax_ui (ax_ui (ax_ui (ax_uc (ax_ui I7 69 6 (if 0 < (if 6 < (I7 o2 1) then 6 else (I7 o2 1)) then (if 6 < (I7 o2 1) then 6 else (I7 o2 1)) else 0)) (o2 + 1) 104 (0 : Int32).toNatClampNeg (0 : Int32).toNatClampNeg ((ax_ui I7 69 6 (if 0 < (if 6 < (I7 o2 1) then 6 else (I7 o2 1)) then (if 6 < (I7 o2 1) then 6 else (I7 o2 1)) else 0)) 69 6).toNatClampNeg) 69 8 0) 69 9 0) 69 10 0) L8)))) : ax_CV (d + 1) 58 [ax_vr 5 0 69, ax_vr 7 0 o0, ax_vr 1 0 o1, ax_vr 4 n2 o2] I L K := ax_vcV ax_c58 0 [some (ax_vr 5 0 69), some (ax_vr 7 0 o0), some (ax_vr 1 0 o1), some (ax_vr 4 n2 o2)] (fun _ => false) 39 rfl rfl rfl rfl h
set_option maxRecDepth 100000 in
set_option maxHeartbeats 8000000 in
theorem vc_X5_countWays {d : Nat} {n0 o0 : Nat} {I : ax_I} {L : ax_J} {K : Int32 → ax_I → ax_J → Prop} (h :
  ax_bit 1 = true ∧
  ax_CV d 61 [ax_vr 5 0 69, ax_vi 0] (ax_ui I 69 7 1) L (fun I1 L2 =>
    (decide ((I1 69 9) ≤ (0 : Int32)) = true →
      K (I1 69 9) I1 L2) ∧
    (decide ((I1 69 9) ≤ (0 : Int32)) = false →
      ax_CV d 55 [ax_vr 4 n0 o0, ax_vr 10 6 106, ax_vi (I1 69 6)] I1 L2 (fun I4 L5 =>
        K (I4 69 9) I4 L5)))) : ax_CI (d + 1) 59 [ax_vr 5 0 69, ax_vr 4 n0 o0] I L K := ax_vcI ax_c59 1 [some (ax_vr 5 0 69), some (ax_vr 4 n0 o0)] (fun _ => false) 19 rfl rfl rfl rfl h
set_option maxRecDepth 100000 in
set_option maxHeartbeats 8000000 in
theorem vc_X5_firstsOf {d : Nat} {a0 : Int32} {I : ax_I} {L : ax_J} {K : Int32 → ax_I → ax_J → Prop} (h :
  ax_bit 0 = true ∧
  ax_CV d 61 [ax_vr 5 0 69, ax_vi 0] (ax_ui (ax_ui I 69 7 0) 69 8 a0) L (fun I1 L2 =>
    K (I1 69 10) I1 L2)) : ax_CI (d + 1) 60 [ax_vr 5 0 69, ax_vi a0] I L K := ax_vcI ax_c60 1 [some (ax_vr 5 0 69), some (ax_vi a0)] (fun _ => false) 13 rfl rfl rfl rfl h
set_option maxRecDepth 100000 in
set_option maxHeartbeats 8000000 in
theorem vc_X5_goThrough {d : Nat} {a0 : Int32} {I : ax_I} {L : ax_J} {K : ax_I → ax_J → Prop} (h :
  (decide (a0 < (I 69 6)) = true →
    ax_AK d 61 (15, [some (ax_vr 5 0 69), some (ax_vi a0), some (ax_vi 0), none], [], ax_mm I L) (ax_kv K)) ∧
  (decide (a0 < (I 69 6)) = false →
    ax_CV d 63 [ax_vr 5 0 69] I L (fun I1 L2 =>
      K I1 L2))) : ax_CV (d + 1) 61 [ax_vr 5 0 69, ax_vi a0] I L K := ax_vcV ax_c61 0 [some (ax_vr 5 0 69), some (ax_vi a0), none, none] (fun pc => Nat.beq pc 15) 8 rfl rfl rfl rfl h
set_option maxRecDepth 100000 in
set_option maxHeartbeats 8000000 in
theorem vc_X5_goThrough_15 {d : Nat} {b1 : Int32} {b2 : Int32} {z3 : Option ax_V} {I : ax_I} {L : ax_J} {K : ax_I → ax_J → Prop} (h :
  (decide ((I 70 1) ≤ b2) = true →
    K I L) ∧
  (decide ((I 70 1) ≤ b2) = false →
    ax_inb b1 6 = true ∧
    ax_CI d 9 [ax_vr 1 0 89, ax_vr 7 0 70, ax_vi (I 104 b1.toNatClampNeg), ax_vi b2] I L (fun x3 I1 L2 =>
      ax_inb b1 6 = true ∧
      ax_CI d 62 [ax_vr 5 0 69, ax_vi b2] (ax_ui I1 105 b1.toNatClampNeg b2) L2 (fun x6 I4 L5 =>
        (decide (x6 = (0 : Int32)) = true →
          ax_CV d 10 [ax_vr 1 0 89, ax_vi b2, ax_vi x3] I4 L5 (fun I7 L8 =>
            ax_AK d 61 (15, [some (ax_vr 5 0 69), some (ax_vi b1), some (ax_vi (b2 + 1)), some (ax_vi x3)], [], ax_mm I7 L8) (ax_kv K))) ∧
        (decide (x6 = (0 : Int32)) = false →
          ax_CV d 61 [ax_vr 5 0 69, ax_vi (b1 + 1)] I4 L5 (fun I10 L11 =>
            ax_CV d 10 [ax_vr 1 0 89, ax_vi b2, ax_vi x3] I10 L11 (fun I13 L14 =>
              ax_AK d 61 (15, [some (ax_vr 5 0 69), some (ax_vi b1), some (ax_vi (b2 + 1)), some (ax_vi x3)], [], ax_mm I13 L14) (ax_kv K)))))))) : ax_AK d 61 (15, [some (ax_vr 5 0 69), some (ax_vi b1), some (ax_vi b2), z3], [], ax_mm I L) (ax_kv K) := ax_vcL ax_c61 0 (fun pc => Nat.beq pc 15) 39 rfl rfl h
set_option maxRecDepth 100000 in
set_option maxHeartbeats 8000000 in
theorem vc_X5_canBecomeAsNow {d : Nat} {a0 : Int32} {I : ax_I} {L : ax_J} {K : Int32 → ax_I → ax_J → Prop} (h :
  (decide ((I 69 7) = (0 : Int32)) = true →
    ax_inb a0 6 = true ∧
    (decide ((I 98 a0.toNatClampNeg) = (-9 : Int32)) = true →
      ax_bit 1 = true ∧ K 1 I L) ∧
    (decide ((I 98 a0.toNatClampNeg) = (-9 : Int32)) = false →
      ax_inb a0 6 = true ∧
      ax_inb a0 6 = true ∧
      ((!decide ((I 98 a0.toNatClampNeg) = (I 83 a0.toNatClampNeg))) = true →
        ax_bit 0 = true ∧ K 0 I L) ∧
      ((!decide ((I 98 a0.toNatClampNeg) = (I 83 a0.toNatClampNeg))) = false →
        ax_bit 1 = true ∧ K 1 I L))) ∧
  (decide ((I 69 7) = (0 : Int32)) = false →
    ax_inb a0 6 = true ∧
    ax_inb a0 6 = true ∧
    (decide ((I 97 a0.toNatClampNeg) = (I 82 a0.toNatClampNeg)) = true →
      ax_inb a0 6 = true ∧
      (decide ((I 98 a0.toNatClampNeg) = (-9 : Int32)) = true →
        ax_bit 1 = true ∧ K 1 I L) ∧
      (decide ((I 98 a0.toNatClampNeg) = (-9 : Int32)) = false →
        ax_inb a0 6 = true ∧
        ax_inb a0 6 = true ∧
        ((!decide ((I 98 a0.toNatClampNeg) = (I 83 a0.toNatClampNeg))) = true →
          ax_bit 0 = true ∧ K 0 I L) ∧
        ((!decide ((I 98 a0.toNatClampNeg) = (I 83 a0.toNatClampNeg))) = false →
          ax_bit 1 = true ∧ K 1 I L))) ∧
    (decide ((I 97 a0.toNatClampNeg) = (I 82 a0.toNatClampNeg)) = false →
      ax_bit 0 = true ∧ K 0 I L))) : ax_CI (d + 1) 62 [ax_vr 5 0 69, ax_vi a0] I L K := ax_vcI ax_c62 3 [some (ax_vr 5 0 69), some (ax_vi a0)] (fun _ => false) 36 rfl rfl rfl rfl h
set_option maxRecDepth 100000 in
set_option maxHeartbeats 8000000 in
theorem vc_X5_noteIfAsNow {d : Nat} {I : ax_I} {L : ax_J} {K : ax_I → ax_J → Prop} (h :
  ax_AK d 63 (2, [some (ax_vr 5 0 69), some (ax_vi 0), none], [], ax_mm I L) (ax_kv K)) : ax_CV (d + 1) 63 [ax_vr 5 0 69] I L K := ax_vcV ax_c63 0 [some (ax_vr 5 0 69), none, none] (fun pc => Nat.beq pc 2) 4 rfl rfl rfl rfl h
set_option maxRecDepth 100000 in
set_option maxHeartbeats 8000000 in
theorem vc_X5_noteIfAsNow_2 {d : Nat} {b1 : Int32} {z2 : Option ax_V} {I : ax_I} {L : ax_J} {K : ax_I → ax_J → Prop} (h :
  (decide ((I 70 1) ≤ b1) = true →
    ((!decide ((I 69 9) = (0 : Int32))) = true →
      ax_inb ((ax_ui I 69 9 ((I 69 9) + 1)) 69 8) 6 = true ∧
      (decide (((ax_ui I 69 9 ((I 69 9) + 1)) 97 ((ax_ui I 69 9 ((I 69 9) + 1)) 69 8).toNatClampNeg) = (-9 : Int32)) = true →
        K (ax_ui I 69 9 ((I 69 9) + 1)) L) ∧
      (decide (((ax_ui I 69 9 ((I 69 9) + 1)) 97 ((ax_ui I 69 9 ((I 69 9) + 1)) 69 8).toNatClampNeg) = (-9 : Int32)) = false →
        ax_inb ((ax_ui I 69 9 ((I 69 9) + 1)) 69 8) 6 = true ∧
        K (ax_ui (ax_ui I 69 9 ((I 69 9) + 1)) 69 10 (((ax_ui I 69 9 ((I 69 9) + 1)) 69 10) ||| ((1 : Int32) <<< (((ax_ui I 69 9 ((I 69 9) + 1)) 97 ((ax_ui I 69 9 ((I 69 9) + 1)) 69 8).toNatClampNeg) &&& 31)))) L)) ∧
    ((!decide ((I 69 9) = (0 : Int32))) = false →
      (decide ((0 : Int32) ≤ 0) && decide ((0 : Int32) ≤ 0) && decide ((0 : Int32) ≤ I 69 6) && Nat.ble ((0 : Int32).toNatClampNeg + (I 69 6).toNatClampNeg) 6 && Nat.ble ((0 : Int32).toNatClampNeg + (I 69 6).toNatClampNeg) 6) = true ∧
      ax_inb ((ax_ui (ax_uc I 105 106 (0 : Int32).toNatClampNeg (0 : Int32).toNatClampNeg (I 69 6).toNatClampNeg) 69 9 (((ax_uc I 105 106 (0 : Int32).toNatClampNeg (0 : Int32).toNatClampNeg (I 69 6).toNatClampNeg) 69 9) + 1)) 69 8) 6 = true ∧
      (decide (((ax_ui (ax_uc I 105 106 (0 : Int32).toNatClampNeg (0 : Int32).toNatClampNeg (I 69 6).toNatClampNeg) 69 9 (((ax_uc I 105 106 (0 : Int32).toNatClampNeg (0 : Int32).toNatClampNeg (I 69 6).toNatClampNeg) 69 9) + 1)) 97 ((ax_ui (ax_uc I 105 106 (0 : Int32).toNatClampNeg (0 : Int32).toNatClampNeg (I 69 6).toNatClampNeg) 69 9 (((ax_uc I 105 106 (0 : Int32).toNatClampNeg (0 : Int32).toNatClampNeg (I 69 6).toNatClampNeg) 69 9) + 1)) 69 8).toNatClampNeg) = (-9 : Int32)) = true →
        K (ax_ui (ax_uc I 105 106 (0 : Int32).toNatClampNeg (0 : Int32).toNatClampNeg (I 69 6).toNatClampNeg) 69 9 (((ax_uc I 105 106 (0 : Int32).toNatClampNeg (0 : Int32).toNatClampNeg (I 69 6).toNatClampNeg) 69 9) + 1)) L) ∧
      (decide (((ax_ui (ax_uc I 105 106 (0 : Int32).toNatClampNeg (0 : Int32).toNatClampNeg (I 69 6).toNatClampNeg) 69 9 (((ax_uc I 105 106 (0 : Int32).toNatClampNeg (0 : Int32).toNatClampNeg (I 69 6).toNatClampNeg) 69 9) + 1)) 97 ((ax_ui (ax_uc I 105 106 (0 : Int32).toNatClampNeg (0 : Int32).toNatClampNeg (I 69 6).toNatClampNeg) 69 9 (((ax_uc I 105 106 (0 : Int32).toNatClampNeg (0 : Int32).toNatClampNeg (I 69 6).toNatClampNeg) 69 9) + 1)) 69 8).toNatClampNeg) = (-9 : Int32)) = false →
        ax_inb ((ax_ui (ax_uc I 105 106 (0 : Int32).toNatClampNeg (0 : Int32).toNatClampNeg (I 69 6).toNatClampNeg) 69 9 (((ax_uc I 105 106 (0 : Int32).toNatClampNeg (0 : Int32).toNatClampNeg (I 69 6).toNatClampNeg) 69 9) + 1)) 69 8) 6 = true ∧
        K (ax_ui (ax_ui (ax_uc I 105 106 (0 : Int32).toNatClampNeg (0 : Int32).toNatClampNeg (I 69 6).toNatClampNeg) 69 9 (((ax_uc I 105 106 (0 : Int32).toNatClampNeg (0 : Int32).toNatClampNeg (I 69 6).toNatClampNeg) 69 9) + 1)) 69 10 (((ax_ui (ax_uc I 105 106 (0 : Int32).toNatClampNeg (0 : Int32).toNatClampNeg (I 69 6).toNatClampNeg) 69 9 (((ax_uc I 105 106 (0 : Int32).toNatClampNeg (0 : Int32).toNatClampNeg (I 69 6).toNatClampNeg) 69 9) + 1)) 69 10) ||| ((1 : Int32) <<< (((ax_ui (ax_uc I 105 106 (0 : Int32).toNatClampNeg (0 : Int32).toNatClampNeg (I 69 6).toNatClampNeg) 69 9 (((ax_uc I 105 106 (0 : Int32).toNatClampNeg (0 : Int32).toNatClampNeg (I 69 6).toNatClampNeg) 69 9) + 1)) 97 ((ax_ui (ax_uc I 105 106 (0 : Int32).toNatClampNeg (0 : Int32).toNatClampNeg (I 69 6).toNatClampNeg) 69 9 (((ax_uc I 105 106 (0 : Int32).toNatClampNeg (0 : Int32).toNatClampNeg (I 69 6).toNatClampNeg) 69 9) + 1)) 69 8).toNatClampNeg) &&& 31)))) L))) ∧
  (decide ((I 70 1) ≤ b1) = false →
    (decide ((I 69 7) = (0 : Int32)) = true →
      ((!decide ((0 : Int32) = (0 : Int32))) = true →
        K I L) ∧
      ((!decide ((0 : Int32) = (0 : Int32))) = false →
        ax_inb b1 6 = true ∧
        ax_inb b1 6 = true ∧
        (decide ((I 98 b1.toNatClampNeg) = (I 83 b1.toNatClampNeg)) = true →
          ax_AK d 63 (2, [some (ax_vr 5 0 69), some (ax_vi (b1 + 1)), some (ax_vi 0)], [], ax_mm I L) (ax_kv K)) ∧
        (decide ((I 98 b1.toNatClampNeg) = (I 83 b1.toNatClampNeg)) = false →
          K I L))) ∧
    (decide ((I 69 7) = (0 : Int32)) = false →
      ax_inb b1 6 = true ∧
      ax_inb b1 6 = true ∧
      (decide ((I 97 b1.toNatClampNeg) = (I 82 b1.toNatClampNeg)) = true →
        ((!decide ((0 : Int32) = (0 : Int32))) = true →
          K I L) ∧
        ((!decide ((0 : Int32) = (0 : Int32))) = false →
          ax_inb b1 6 = true ∧
          ax_inb b1 6 = true ∧
          (decide ((I 98 b1.toNatClampNeg) = (I 83 b1.toNatClampNeg)) = true →
            ax_AK d 63 (2, [some (ax_vr 5 0 69), some (ax_vi (b1 + 1)), some (ax_vi 0)], [], ax_mm I L) (ax_kv K)) ∧
          (decide ((I 98 b1.toNatClampNeg) = (I 83 b1.toNatClampNeg)) = false →
            K I L))) ∧
      (decide ((I 97 b1.toNatClampNeg) = (I 82 b1.toNatClampNeg)) = false →
        ((!decide ((1 : Int32) = (0 : Int32))) = true →
          K I L) ∧
        ((!decide ((1 : Int32) = (0 : Int32))) = false →
          ax_inb b1 6 = true ∧
          ax_inb b1 6 = true ∧
          (decide ((I 98 b1.toNatClampNeg) = (I 83 b1.toNatClampNeg)) = true →
            ax_AK d 63 (2, [some (ax_vr 5 0 69), some (ax_vi (b1 + 1)), some (ax_vi 1)], [], ax_mm I L) (ax_kv K)) ∧
          (decide ((I 98 b1.toNatClampNeg) = (I 83 b1.toNatClampNeg)) = false →
            K I L)))))) : ax_AK d 63 (2, [some (ax_vr 5 0 69), some (ax_vi b1), z2], [], ax_mm I L) (ax_kv K) := ax_vcL ax_c63 0 (fun pc => Nat.beq pc 2) 46 rfl rfl h
set_option maxRecDepth 100000 in
set_option maxHeartbeats 8000000 in
theorem vc_X6_read {d : Nat} {n0 o0 : Nat} {I : ax_I} {L : ax_J} {K : Int32 → ax_I → ax_J → Prop} (h :
  Nat.ble (o0 + 1) 1000 = true ∧
  ax_CV d 78 [ax_vr 7 0 28] (ax_ui (ax_ui (ax_ui I 27 2 (nI (o0 + 1))) 27 3 ((ax_ui I 27 2 (nI (o0 + 1))) o0 1)) 27 4 0) L (fun I1 L2 =>
    ax_CV d 4 [ax_vr 1 0 32] I1 L2 (fun I4 L5 =>
      ax_CI d 70 [ax_vr 6 0 27] I4 L5 (fun x9 I7 L8 =>
        (decide (x9 = (0 : Int32)) = true →
          K (I7 27 4) I7 L8) ∧
        (decide (x9 = (0 : Int32)) = false →
          ax_CI d 71 [ax_vr 6 0 27] I7 L8 (fun x12 I10 L11 =>
            (decide (x12 = (0 : Int32)) = true →
              K (I10 27 4) I10 L11) ∧
            (decide (x12 = (0 : Int32)) = false →
              ax_CI d 74 [ax_vr 6 0 27] I10 L11 (fun x15 I13 L14 =>
                (decide (x15 = (0 : Int32)) = true →
                  K (I13 27 4) I13 L14) ∧
                (decide (x15 = (0 : Int32)) = false →
                  ax_CI d 75 [ax_vr 6 0 27] I13 L14 (fun x18 I16 L17 =>
                    ((!decide (x18 = (0 : Int32))) = true →
                      (decide ((I16 27 4) < (I16 27 3)) = true →
                        K (I16 27 4) I16 L17) ∧
                      (decide ((I16 27 4) < (I16 27 3)) = false →
                        K (-9) I16 L17)) ∧
                    ((!decide (x18 = (0 : Int32))) = false →
                      K (I16 27 4) I16 L17))))))))))) : ax_CI (d + 1) 65 [ax_vr 6 0 27, ax_vr 4 n0 o0] I L K := ax_vcI ax_c65 1 [some (ax_vr 6 0 27), some (ax_vr 4 n0 o0)] (fun _ => false) 38 rfl rfl rfl rfl h
set_option maxRecDepth 100000 in
set_option maxHeartbeats 8000000 in
theorem vc_X6_sign {d : Nat} {I : ax_I} {L : ax_J} {K : Int32 → ax_I → ax_J → Prop} (h :
  (decide ((I 27 4) < (0 : Int32)) = true →
    K (-9) I L) ∧
  (decide ((I 27 4) < (0 : Int32)) = false →
    (decide ((I 27 3) ≤ (I 27 4)) = true →
      K (-9) I L) ∧
    (decide ((I 27 3) ≤ (I 27 4)) = false →
      (decide ((nI ((ax_shp (I 27 2).toNatClampNeg).2)) ≤ (I 27 4)) = true →
        K (-9) I L) ∧
      (decide ((nI ((ax_shp (I 27 2).toNatClampNeg).2)) ≤ (I 27 4)) = false →
        ax_inb (I 27 4) ((ax_shp (I 27 2).toNatClampNeg).2) = true ∧
        K (I ((I 27 2).toNatClampNeg) (I 27 4).toNatClampNeg) I L)))) : ax_CI (d + 1) 66 [ax_vr 6 0 27] I L K := ax_vcI ax_c66 1 [some (ax_vr 6 0 27)] (fun _ => false) 22 rfl rfl rfl rfl h
set_option maxRecDepth 100000 in
set_option maxHeartbeats 8000000 in
theorem vc_X6_skipBlanks {d : Nat} {I : ax_I} {L : ax_J} {K : ax_I → ax_J → Prop} (h :
  ax_AK d 67 (2, [some (ax_vr 6 0 27), some (ax_vi 0)], [], ax_mm I L) (ax_kv K)) : ax_CV (d + 1) 67 [ax_vr 6 0 27] I L K := ax_vcV ax_c67 0 [some (ax_vr 6 0 27), none] (fun pc => Nat.beq pc 2) 4 rfl rfl rfl rfl h
set_option maxRecDepth 100000 in
set_option maxHeartbeats 8000000 in
theorem vc_X6_skipBlanks_2 {d : Nat} {b1 : Int32} {I : ax_I} {L : ax_J} {K : ax_I → ax_J → Prop} (h :
  (decide ((I 27 3) ≤ b1) = true →
    K I L) ∧
  (decide ((I 27 3) ≤ b1) = false →
    ax_CI d 66 [ax_vr 6 0 27] I L (fun x3 I1 L2 =>
      ((!decide (x3 = (32 : Int32))) = true →
        K I1 L2) ∧
      ((!decide (x3 = (32 : Int32))) = false →
        ax_AK d 67 (2, [some (ax_vr 6 0 27), some (ax_vi (b1 + 1))], [], ax_mm (ax_ui I1 27 4 ((I1 27 4) + 1)) L2) (ax_kv K))))) : ax_AK d 67 (2, [some (ax_vr 6 0 27), some (ax_vi b1)], [], ax_mm I L) (ax_kv K) := ax_vcL ax_c67 0 (fun pc => Nat.beq pc 2) 18 rfl rfl h
set_option maxRecDepth 100000 in
set_option maxHeartbeats 8000000 in
theorem vc_X6_take {d : Nat} {a0 : Int32} {I : ax_I} {L : ax_J} {K : Int32 → ax_I → ax_J → Prop} (h :
  ax_CI d 66 [ax_vr 6 0 27] I L (fun x3 I1 L2 =>
    (decide (x3 = a0) = true →
      ax_bit 1 = true ∧ K 1 (ax_ui I1 27 4 ((I1 27 4) + 1)) L2) ∧
    (decide (x3 = a0) = false →
      ax_bit 0 = true ∧ K 0 I1 L2))) : ax_CI (d + 1) 68 [ax_vr 6 0 27, ax_vi a0] I L K := ax_vcI ax_c68 3 [some (ax_vr 6 0 27), some (ax_vi a0)] (fun _ => false) 13 rfl rfl rfl rfl h
set_option maxRecDepth 100000 in
set_option maxHeartbeats 8000000 in
theorem vc_X6_takeFigure {d : Nat} {a0 : Int32} {a1 : Int32} {I : ax_I} {L : ax_J} {K : Int32 → ax_I → ax_J → Prop} (h :
  ax_CI d 66 [ax_vr 6 0 27] I L (fun x3 I1 L2 =>
    (decide ((x3 - 48) < a0) = true →
      K (-9) I1 L2) ∧
    (decide ((x3 - 48) < a0) = false →
      (decide ((x3 - 48) ≤ a1) = true →
        K (x3 - 48) (ax_ui I1 27 4 ((I1 27 4) + 1)) L2) ∧
      (decide ((x3 - 48) ≤ a1) = false →
        K (-9) I1 L2)))) : ax_CI (d + 1) 69 [ax_vr 6 0 27, ax_vi a0, ax_vi a1] I L K := ax_vcI ax_c69 1 [some (ax_vr 6 0 27), some (ax_vi a0), some (ax_vi a1), none] (fun _ => false) 20 rfl rfl rfl rfl h
set_option maxRecDepth 100000 in
set_option maxHeartbeats 8000000 in
theorem vc_X6_readThings {d : Nat} {I : ax_I} {L : ax_J} {K : Int32 → ax_I → ax_J → Prop} (h :
  ax_CV d 67 [ax_vr 6 0 27] I L (fun I1 L2 =>
    ax_CI d 68 [ax_vr 6 0 27, ax_vi 116] I1 L2 (fun x6 I4 L5 =>
      ((!decide (x6 = (0 : Int32))) = true →
        ax_CI d 69 [ax_vr 6 0 27, ax_vi 1, ax_vi 6] I4 L5 (fun x9 I7 L8 =>
          ((!decide (x9 = (-9 : Int32))) = true →
            ax_CV d 67 [ax_vr 6 0 27] (ax_ui I7 28 1 x9) L8 (fun I10 L11 =>
              ax_bit 1 = true ∧ K 1 I10 L11)) ∧
          ((!decide (x9 = (-9 : Int32))) = false →
            ax_bit 0 = true ∧ K 0 I7 L8))) ∧
      ((!decide (x6 = (0 : Int32))) = false →
        ax_bit 0 = true ∧ K 0 I4 L5)))) : ax_CI (d + 1) 70 [ax_vr 6 0 27] I L K := ax_vcI ax_c70 3 [some (ax_vr 6 0 27), none] (fun _ => false) 23 rfl rfl rfl rfl h
set_option maxRecDepth 100000 in
set_option maxHeartbeats 8000000 in
theorem vc_X6_readPeople {d : Nat} {I : ax_I} {L : ax_J} {K : Int32 → ax_I → ax_J → Prop} (h :
  ax_AK d 71 (2, [some (ax_vr 6 0 27), some (ax_vi 0), none], [], ax_mm I L) (ax_ki K)) : ax_CI (d + 1) 71 [ax_vr 6 0 27] I L K := ax_vcI ax_c71 3 [some (ax_vr 6 0 27), none, none] (fun pc => Nat.beq pc 2) 4 rfl rfl rfl rfl h
set_option maxRecDepth 100000 in
set_option maxHeartbeats 8000000 in
theorem vc_X6_readPeople_2 {d : Nat} {b1 : Int32} {z2 : Option ax_V} {I : ax_I} {L : ax_J} {K : Int32 → ax_I → ax_J → Prop} (h :
  (decide ((6 : Int32) ≤ b1) = true →
    ax_bit 1 = true ∧ K 1 I L) ∧
  (decide ((6 : Int32) ≤ b1) = false →
    ax_CI d 66 [ax_vr 6 0 27] I L (fun x3 I1 L2 =>
      ax_CI d 72 [ax_vi x3] I1 L2 (fun x6 I4 L5 =>
        ((!decide (x6 = (-9 : Int32))) = true →
          ax_inb b1 6 = true ∧
          ax_CI d 73 [ax_vr 6 0 27] (ax_ui (ax_ui I4 27 4 ((I4 27 4) + 1)) 29 b1.toNatClampNeg x6) L5 (fun x9 I7 L8 =>
            ax_inb b1 6 = true ∧
            ax_CV d 67 [ax_vr 6 0 27] (ax_ui (ax_ui I7 30 b1.toNatClampNeg x9) 28 0 (b1 + 1)) L8 (fun I10 L11 =>
              ax_AK d 71 (2, [some (ax_vr 6 0 27), some (ax_vi (b1 + 1)), some (ax_vi x6)], [], ax_mm I10 L11) (ax_ki K)))) ∧
        ((!decide (x6 = (-9 : Int32))) = false →
          (decide (b1 ≤ (0 : Int32)) = true →
            ax_bit 0 = true ∧ K 0 I4 L5) ∧
          (decide (b1 ≤ (0 : Int32)) = false →
            ax_bit 1 = true ∧ K 1 I4 L5)))))) : ax_AK d 71 (2, [some (ax_vr 6 0 27), some (ax_vi b1), z2], [], ax_mm I L) (ax_ki K) := ax_vcL ax_c71 3 (fun pc => Nat.beq pc 2) 41 rfl rfl h
set_option maxRecDepth 100000 in
set_option maxHeartbeats 8000000 in
theorem vc_X6_kindOf {d : Nat} {a0 : Int32} {I : ax_I} {L : ax_J} {K : Int32 → ax_I → ax_J → Prop} (h :
  ax_AK d 72 (2, [some (ax_vi a0), some (ax_vi 0)], [], ax_mm I L) (ax_ki K)) : ax_CI (d + 1) 72 [ax_vi a0] I L K := ax_vcI ax_c72 1 [some (ax_vi a0), none] (fun pc => Nat.beq pc 2) 4 rfl rfl rfl rfl h
set_option maxRecDepth 100000 in
set_option maxHeartbeats 8000000 in
theorem vc_X6_kindOf_2 {d : Nat} {b0 : Int32} {b1 : Int32} {I : ax_I} {L : ax_J} {K : Int32 → ax_I → ax_J → Prop} (h :
  (decide ((6 : Int32) ≤ b1) = true →
    K (-9) I L) ∧
  (decide ((6 : Int32) ≤ b1) = false →
    ax_inb b1 6 = true ∧
    ((!decide ((I 2 b1.toNatClampNeg) = b0)) = true →
      ax_AK d 72 (2, [some (ax_vi b0), some (ax_vi (b1 + 1))], [], ax_mm I L) (ax_ki K)) ∧
    ((!decide ((I 2 b1.toNatClampNeg) = b0)) = false →
      K b1 I L))) : ax_AK d 72 (2, [some (ax_vi b0), some (ax_vi b1)], [], ax_mm I L) (ax_ki K) := ax_vcL ax_c72 1 (fun pc => Nat.beq pc 2) 12 rfl rfl h
set_option maxRecDepth 100000 in
set_option maxHeartbeats 8000000 in
theorem vc_X6_takeRising {d : Nat} {I : ax_I} {L : ax_J} {K : Int32 → ax_I → ax_J → Prop} (h :
  ax_AK d 73 (6, [some (ax_vr 6 0 27), some (ax_vi 0), some (ax_vi 0), some (ax_vi 0), none], [], ax_mm I L) (ax_ki K)) : ax_CI (d + 1) 73 [ax_vr 6 0 27] I L K := ax_vcI ax_c73 1 [some (ax_vr 6 0 27), none, none, none, none] (fun pc => Nat.beq pc 6) 8 rfl rfl rfl rfl h
set_option maxRecDepth 100000 in
set_option maxHeartbeats 8000000 in
theorem vc_X6_takeRising_6 {d : Nat} {b1 : Int32} {b2 : Int32} {b3 : Int32} {z4 : Option ax_V} {I : ax_I} {L : ax_J} {K : Int32 → ax_I → ax_J → Prop} (h :
  (decide ((6 : Int32) ≤ b3) = true →
    K b1 I L) ∧
  (decide ((6 : Int32) ≤ b3) = false →
    ax_CI d 69 [ax_vr 6 0 27, ax_vi b2, ax_vi 5] I L (fun x3 I1 L2 =>
      ((!decide (x3 = (-9 : Int32))) = true →
        ax_AK d 73 (6, [some (ax_vr 6 0 27), some (ax_vi (b1 ||| ((1 : Int32) <<< (x3 &&& 31)))), some (ax_vi (x3 + 1)), some (ax_vi (b3 + 1)), some (ax_vi x3)], [], ax_mm I1 L2) (ax_ki K)) ∧
      ((!decide (x3 = (-9 : Int32))) = false →
        K b1 I1 L2)))) : ax_AK d 73 (6, [some (ax_vr 6 0 27), some (ax_vi b1), some (ax_vi b2), some (ax_vi b3), z4], [], ax_mm I L) (ax_ki K) := ax_vcL ax_c73 1 (fun pc => Nat.beq pc 6) 25 rfl rfl h
set_option maxRecDepth 100000 in
set_option maxHeartbeats 8000000 in
theorem vc_X6_readWants {d : Nat} {I : ax_I} {L : ax_J} {K : Int32 → ax_I → ax_J → Prop} (h :
  ax_AK d 74 (2, [some (ax_vr 6 0 27), some (ax_vi 0), none, none, none], [], ax_mm I L) (ax_ki K)) : ax_CI (d + 1) 74 [ax_vr 6 0 27] I L K := ax_vcI ax_c74 3 [some (ax_vr 6 0 27), none, none, none, none] (fun pc => Nat.beq pc 2) 4 rfl rfl rfl rfl h
set_option maxRecDepth 100000 in
set_option maxHeartbeats 8000000 in
theorem vc_X6_readWants_2 {d : Nat} {b1 : Int32} {z2 : Option ax_V} {z3 : Option ax_V} {z4 : Option ax_V} {I : ax_I} {L : ax_J} {K : Int32 → ax_I → ax_J → Prop} (h :
  (decide ((16 : Int32) ≤ b1) = true →
    ax_bit 1 = true ∧ K 1 I L) ∧
  (decide ((16 : Int32) ≤ b1) = false →
    ax_CI d 68 [ax_vr 6 0 27, ax_vi 119] I L (fun x3 I1 L2 =>
      (decide (x3 = (0 : Int32)) = true →
        ax_bit 1 = true ∧ K 1 I1 L2) ∧
      (decide (x3 = (0 : Int32)) = false →
        ax_CI d 69 [ax_vr 6 0 27, ax_vi 0, ax_vi ((I1 28 0) - 1)] I1 L2 (fun x6 I4 L5 =>
          ((!decide (x6 = (-9 : Int32))) = true →
            ax_CI d 69 [ax_vr 6 0 27, ax_vi 0, ax_vi ((I4 28 1) - 1)] I4 L5 (fun x9 I7 L8 =>
              ((!decide (x9 = (-9 : Int32))) = true →
                ax_CI d 69 [ax_vr 6 0 27, ax_vi 1, ax_vi 9] I7 L8 (fun x12 I10 L11 =>
                  ((!decide (x12 = (-9 : Int32))) = true →
                    ax_inb x6 6 = true ∧
                    ax_inb x9 6 = true ∧
                    ax_CV d 67 [ax_vr 6 0 27] (ax_ui I10 (33 + (1 + x6.toNatClampNeg)) x9.toNatClampNeg x12) L11 (fun I13 L14 =>
                      ax_AK d 74 (2, [some (ax_vr 6 0 27), some (ax_vi (b1 + 1)), some (ax_vi x6), some (ax_vi x9), some (ax_vi x12)], [], ax_mm I13 L14) (ax_ki K))) ∧
                  ((!decide (x12 = (-9 : Int32))) = false →
                    ax_bit 0 = true ∧ K 0 I10 L11))) ∧
              ((!decide (x9 = (-9 : Int32))) = false →
                ax_bit 0 = true ∧ K 0 I7 L8))) ∧
          ((!decide (x6 = (-9 : Int32))) = false →
            ax_bit 0 = true ∧ K 0 I4 L5)))))) : ax_AK d 74 (2, [some (ax_vr 6 0 27), some (ax_vi b1), z2, z3, z4], [], ax_mm I L) (ax_ki K) := ax_vcL ax_c74 3 (fun pc => Nat.beq pc 2) 53 rfl rfl h
set_option maxRecDepth 100000 in
set_option maxHeartbeats 8000000 in
theorem vc_X6_readUndoings {d : Nat} {I : ax_I} {L : ax_J} {K : Int32 → ax_I → ax_J → Prop} (h :
  ax_AK d 75 (2, [some (ax_vr 6 0 27), some (ax_vi 0), none, none], [], ax_mm I L) (ax_ki K)) : ax_CI (d + 1) 75 [ax_vr 6 0 27] I L K := ax_vcI ax_c75 3 [some (ax_vr 6 0 27), none, none, none] (fun pc => Nat.beq pc 2) 4 rfl rfl rfl rfl h
set_option maxRecDepth 100000 in
set_option maxHeartbeats 8000000 in
theorem vc_X6_readUndoings_2 {d : Nat} {b1 : Int32} {z2 : Option ax_V} {z3 : Option ax_V} {I : ax_I} {L : ax_J} {K : Int32 → ax_I → ax_J → Prop} (h :
  (decide ((6 : Int32) ≤ b1) = true →
    ax_bit 1 = true ∧ K 1 I L) ∧
  (decide ((6 : Int32) ≤ b1) = false →
    ax_CI d 68 [ax_vr 6 0 27, ax_vi 117] I L (fun x3 I1 L2 =>
      (decide (x3 = (0 : Int32)) = true →
        ax_bit 1 = true ∧ K 1 I1 L2) ∧
      (decide (x3 = (0 : Int32)) = false →
        ax_CI d 69 [ax_vr 6 0 27, ax_vi 0, ax_vi ((I1 28 1) - 1)] I1 L2 (fun x6 I4 L5 =>
          (decide (x6 = (-9 : Int32)) = true →
            ax_bit 0 = true ∧ K 0 I4 L5) ∧
          (decide (x6 = (-9 : Int32)) = false →
            ax_CI d 66 [ax_vr 6 0 27] I4 L5 (fun x9 I7 L8 =>
              ((!decide (x9 = (48 + x6))) = true →
                ax_CI d 69 [ax_vr 6 0 27, ax_vi 0, ax_vi ((I7 28 1) - 1)] I7 L8 (fun x12 I10 L11 =>
                  ((!decide (x12 = (-9 : Int32))) = true →
                    ax_inb x6 6 = true ∧
                    ax_inb x6 6 = true ∧
                    ax_CV d 67 [ax_vr 6 0 27] (ax_ui I10 31 x6.toNatClampNeg ((I10 31 x6.toNatClampNeg) ||| ((1 : Int32) <<< (x12 &&& 31)))) L11 (fun I13 L14 =>
                      ax_AK d 75 (2, [some (ax_vr 6 0 27), some (ax_vi (b1 + 1)), some (ax_vi x6), some (ax_vi x12)], [], ax_mm I13 L14) (ax_ki K))) ∧
                  ((!decide (x12 = (-9 : Int32))) = false →
                    ax_bit 0 = true ∧ K 0 I10 L11))) ∧
              ((!decide (x9 = (48 + x6))) = false →
                ax_bit 0 = true ∧ K 0 I7 L8)))))))) : ax_AK d 75 (2, [some (ax_vr 6 0 27), some (ax_vi b1), z2, z3], [], ax_mm I L) (ax_ki K) := ax_vcL ax_c75 3 (fun pc => Nat.beq pc 2) 54 rfl rfl h
set_option maxRecDepth 100000 in
set_option maxHeartbeats 8000000 in
theorem vc_X7_clear {d : Nat} {o : Nat} {I : ax_I} {L : ax_J} {K : ax_I → ax_J → Prop} (h :
  ax_CV d 246 [ax_vr 10 6 (o + 1), ax_vi 0] (ax_ui (ax_ui I o 0 0) o 1 0) L (fun I1 L2 =>
    ax_CV d 246 [ax_vr 10 6 (o + 2), ax_vi 0] I1 L2 (fun I4 L5 =>
      ax_CV d 246 [ax_vr 10 6 (o + 3), ax_vi 0] I4 L5 (fun I7 L8 =>
        K I7 L8)))) : ax_CV (d + 1) 78 [ax_vr 7 0 o] I L K := ax_vcV ax_c78 0 [some (ax_vr 7 0 o)] (fun _ => false) 20 rfl rfl rfl rfl h
set_option maxRecDepth 100000 in
set_option maxHeartbeats 8000000 in
theorem vc_X7_become {d : Nat} {o : Nat} {o0 : Nat} {I : ax_I} {L : ax_J} {K : ax_I → ax_J → Prop} (h :
  (decide ((0 : Int32) ≤ 0) && decide ((0 : Int32) ≤ 0) && decide ((0 : Int32) ≤ 6) && Nat.ble ((0 : Int32).toNatClampNeg + (6 : Int32).toNatClampNeg) 6 && Nat.ble ((0 : Int32).toNatClampNeg + (6 : Int32).toNatClampNeg) 6) = true ∧
  (decide ((0 : Int32) ≤ 0) && decide ((0 : Int32) ≤ 0) && decide ((0 : Int32) ≤ 6) && Nat.ble ((0 : Int32).toNatClampNeg + (6 : Int32).toNatClampNeg) 6 && Nat.ble ((0 : Int32).toNatClampNeg + (6 : Int32).toNatClampNeg) 6) = true ∧
  (decide ((0 : Int32) ≤ 0) && decide ((0 : Int32) ≤ 0) && decide ((0 : Int32) ≤ 6) && Nat.ble ((0 : Int32).toNatClampNeg + (6 : Int32).toNatClampNeg) 6 && Nat.ble ((0 : Int32).toNatClampNeg + (6 : Int32).toNatClampNeg) 6) = true ∧
  K (ax_uc (ax_uc (ax_uc (ax_ui (ax_ui I o 0 (I o0 0)) o 1 ((ax_ui I o 0 (I o0 0)) o0 1)) (o0 + 1) (o + 1) (0 : Int32).toNatClampNeg (0 : Int32).toNatClampNeg (6 : Int32).toNatClampNeg) (o0 + 2) (o + 2) (0 : Int32).toNatClampNeg (0 : Int32).toNatClampNeg (6 : Int32).toNatClampNeg) (o0 + 3) (o + 3) (0 : Int32).toNatClampNeg (0 : Int32).toNatClampNeg (6 : Int32).toNatClampNeg) L) : ax_CV (d + 1) 79 [ax_vr 7 0 o, ax_vr 7 0 o0] I L K := ax_vcV ax_c79 0 [some (ax_vr 7 0 o), some (ax_vr 7 0 o0)] (fun _ => false) 34 rfl rfl rfl rfl h
set_option maxRecDepth 100000 in
set_option maxHeartbeats 8000000 in
theorem vc_X7_hasOne {d : Nat} {o : Nat} {a0 : Int32} {I : ax_I} {L : ax_J} {K : Int32 → ax_I → ax_J → Prop} (h :
  (decide (a0 < (0 : Int32)) = true →
    ax_bit 0 = true ∧ K 0 I L) ∧
  (decide (a0 < (0 : Int32)) = false →
    (decide ((I o 0) ≤ a0) = true →
      ax_bit 0 = true ∧ K 0 I L) ∧
    (decide ((I o 0) ≤ a0) = false →
      ax_bit 1 = true ∧ K 1 I L))) : ax_CI (d + 1) 80 [ax_vr 7 0 o, ax_vi a0] I L K := ax_vcI ax_c80 3 [some (ax_vr 7 0 o), some (ax_vi a0)] (fun _ => false) 10 rfl rfl rfl rfl h
set_option maxRecDepth 100000 in
set_option maxHeartbeats 8000000 in
theorem vc_X7_hasThing {d : Nat} {o : Nat} {a0 : Int32} {I : ax_I} {L : ax_J} {K : Int32 → ax_I → ax_J → Prop} (h :
  (decide (a0 < (0 : Int32)) = true →
    ax_bit 0 = true ∧ K 0 I L) ∧
  (decide (a0 < (0 : Int32)) = false →
    (decide ((I o 1) ≤ a0) = true →
      ax_bit 0 = true ∧ K 0 I L) ∧
    (decide ((I o 1) ≤ a0) = false →
      ax_bit 1 = true ∧ K 1 I L))) : ax_CI (d + 1) 81 [ax_vr 7 0 o, ax_vi a0] I L K := ax_vcI ax_c81 3 [some (ax_vr 7 0 o), some (ax_vi a0)] (fun _ => false) 10 rfl rfl rfl rfl h
set_option maxRecDepth 100000 in
set_option maxHeartbeats 8000000 in
theorem vc_X7_hasSaying {d : Nat} {o : Nat} {a0 : Int32} {I : ax_I} {L : ax_J} {K : Int32 → ax_I → ax_J → Prop} (h :
  (decide ((0 : Int32) ≤ a0) = true →
    (!decide ((10 : Int32) = 0)) = true ∧
    (!decide ((10 : Int32) = 0)) = true ∧
    ax_CI d 80 [ax_vr 7 0 o, ax_vi (a0 / 10)] I L (fun x3 I1 L2 =>
      (decide (x3 = (0 : Int32)) = true →
        ax_bit 0 = true ∧ K 0 I1 L2) ∧
      (decide (x3 = (0 : Int32)) = false →
        ax_CI d 81 [ax_vr 7 0 o, ax_vi (a0 - a0 / 10 * 10)] I1 L2 (fun x6 I4 L5 =>
          ((!decide (x6 = (0 : Int32))) = true →
            ax_bit 1 = true ∧ K 1 I4 L5) ∧
          ((!decide (x6 = (0 : Int32))) = false →
            ((!decide ((a0 - a0 / 10 * 10) = (9 : Int32))) = true →
              ax_bit 0 = true ∧ K 0 I4 L5) ∧
            ((!decide ((a0 - a0 / 10 * 10) = (9 : Int32))) = false →
              ax_bit 1 = true ∧ K 1 I4 L5)))))) ∧
  (decide ((0 : Int32) ≤ a0) = false →
    ax_bit 0 = true ∧ K 0 I L)) : ax_CI (d + 1) 82 [ax_vr 7 0 o, ax_vi a0] I L K := ax_vcI ax_c82 3 [some (ax_vr 7 0 o), some (ax_vi a0), none] (fun _ => false) 23 rfl rfl rfl rfl h
set_option maxRecDepth 100000 in
set_option maxHeartbeats 8000000 in
theorem vc_X7_behind {d : Nat} {o : Nat} {a0 : Int32} {I : ax_I} {L : ax_J} {K : Int32 → ax_I → ax_J → Prop} (h :
  (decide ((I o 0) ≤ (a0 + 1)) = true →
    K 0 I L) ∧
  (decide ((I o 0) ≤ (a0 + 1)) = false →
    K (a0 + 1) I L)) : ax_CI (d + 1) 83 [ax_vr 7 0 o, ax_vi a0] I L K := ax_vcI ax_c83 1 [some (ax_vr 7 0 o), some (ax_vi a0)] (fun _ => false) 12 rfl rfl rfl rfl h
set_option maxRecDepth 100000 in
set_option maxHeartbeats 8000000 in
theorem vc_X7_isOf {d : Nat} {o : Nat} {a0 : Int32} {a1 : Int32} {I : ax_I} {L : ax_J} {K : Int32 → ax_I → ax_J → Prop} (h :
  ax_inb a0 6 = true ∧
  (decide ((I (o + 1) a0.toNatClampNeg) = a1) = true →
    ax_bit 1 = true ∧ K 1 I L) ∧
  (decide ((I (o + 1) a0.toNatClampNeg) = a1) = false →
    ax_inb (I (o + 1) a0.toNatClampNeg) 6 = true ∧
    (decide ((I 1 (I (o + 1) a0.toNatClampNeg).toNatClampNeg) = a1) = true →
      ax_bit 1 = true ∧ K 1 I L) ∧
    (decide ((I 1 (I (o + 1) a0.toNatClampNeg).toNatClampNeg) = a1) = false →
      ((!decide (a1 = (0 : Int32))) = true →
        ax_bit 0 = true ∧ K 0 I L) ∧
      ((!decide (a1 = (0 : Int32))) = false →
        ax_bit 1 = true ∧ K 1 I L)))) : ax_CI (d + 1) 84 [ax_vr 7 0 o, ax_vi a0, ax_vi a1] I L K := ax_vcI ax_c84 3 [some (ax_vr 7 0 o), some (ax_vi a0), some (ax_vi a1), none] (fun _ => false) 19 rfl rfl rfl rfl h
set_option maxRecDepth 100000 in
set_option maxHeartbeats 8000000 in
theorem vc_X7_allOf {d : Nat} {o : Nat} {a0 : Int32} {I : ax_I} {L : ax_J} {K : Int32 → ax_I → ax_J → Prop} (h :
  ax_AK d 85 (4, [some (ax_vr 7 0 o), some (ax_vi a0), some (ax_vi 0), some (ax_vi 0)], [], ax_mm I L) (ax_ki K)) : ax_CI (d + 1) 85 [ax_vr 7 0 o, ax_vi a0] I L K := ax_vcI ax_c85 1 [some (ax_vr 7 0 o), some (ax_vi a0), none, none] (fun pc => Nat.beq pc 4) 6 rfl rfl rfl rfl h
set_option maxRecDepth 100000 in
set_option maxHeartbeats 8000000 in
theorem vc_X7_allOf_4 {d : Nat} {o : Nat} {b1 : Int32} {b2 : Int32} {b3 : Int32} {I : ax_I} {L : ax_J} {K : Int32 → ax_I → ax_J → Prop} (h :
  (decide ((I o 0) ≤ b3) = true →
    K b2 I L) ∧
  (decide ((I o 0) ≤ b3) = false →
    ax_CI d 84 [ax_vr 7 0 o, ax_vi b3, ax_vi b1] I L (fun x3 I1 L2 =>
      (decide (x3 = (0 : Int32)) = true →
        ax_AK d 85 (4, [some (ax_vr 7 0 o), some (ax_vi b1), some (ax_vi b2), some (ax_vi (b3 + 1))], [], ax_mm I1 L2) (ax_ki K)) ∧
      (decide (x3 = (0 : Int32)) = false →
        ax_AK d 85 (4, [some (ax_vr 7 0 o), some (ax_vi b1), some (ax_vi (b2 ||| ((1 : Int32) <<< (b3 &&& 31)))), some (ax_vi (b3 + 1))], [], ax_mm I1 L2) (ax_ki K))))) : ax_AK d 85 (4, [some (ax_vr 7 0 o), some (ax_vi b1), some (ax_vi b2), some (ax_vi b3)], [], ax_mm I L) (ax_ki K) := ax_vcL ax_c85 1 (fun pc => Nat.beq pc 4) 19 rfl rfl h
set_option maxRecDepth 100000 in
set_option maxHeartbeats 8000000 in
theorem vc_X7_othersThan {d : Nat} {o : Nat} {a0 : Int32} {I : ax_I} {L : ax_J} {K : Int32 → ax_I → ax_J → Prop} (h :
  K ((((1 : Int32) <<< ((I o 0) &&& 31)) - 1) &&& (((1 : Int32) <<< (a0 &&& 31)) ^^^ (-1))) I L) : ax_CI (d + 1) 86 [ax_vr 7 0 o, ax_vi a0] I L K := ax_vcI ax_c86 1 [some (ax_vr 7 0 o), some (ax_vi a0)] (fun _ => false) 14 rfl rfl rfl rfl h
set_option maxRecDepth 100000 in
set_option maxHeartbeats 8000000 in
theorem vc_X7_hearersOf {d : Nat} {o : Nat} {a0 : Int32} {I : ax_I} {L : ax_J} {K : Int32 → ax_I → ax_J → Prop} (h :
  ax_CI d 84 [ax_vr 7 0 o, ax_vi a0, ax_vi 2] I L (fun x3 I1 L2 =>
    (decide (x3 = (0 : Int32)) = true →
      ax_CI d 84 [ax_vr 7 0 o, ax_vi a0, ax_vi 1] I1 L2 (fun x6 I4 L5 =>
        (decide (x6 = (0 : Int32)) = true →
          ax_inb a0 6 = true ∧
          ax_CI d 85 [ax_vr 7 0 o, ax_vi 3] I4 L5 (fun x9 I7 L8 =>
            ax_CI d 86 [ax_vr 7 0 o, ax_vi a0] I7 L8 (fun x12 I10 L11 =>
              K (((I4 (o + 2) a0.toNatClampNeg) ||| x9) &&& x12) I10 L11))) ∧
        (decide (x6 = (0 : Int32)) = false →
          K 0 I4 L5))) ∧
    (decide (x3 = (0 : Int32)) = false →
      ax_CI d 86 [ax_vr 7 0 o, ax_vi a0] I1 L2 (fun x15 I13 L14 =>
        K x15 I13 L14)))) : ax_CI (d + 1) 87 [ax_vr 7 0 o, ax_vi a0] I L K := ax_vcI ax_c87 1 [some (ax_vr 7 0 o), some (ax_vi a0)] (fun _ => false) 24 rfl rfl rfl rfl h
set_option maxRecDepth 100000 in
set_option maxHeartbeats 8000000 in
theorem vc_X7_heardBy {d : Nat} {o : Nat} {a0 : Int32} {I : ax_I} {L : ax_J} {K : Int32 → ax_I → ax_J → Prop} (h :
  ax_AK d 88 (4, [some (ax_vr 7 0 o), some (ax_vi a0), some (ax_vi 0), some (ax_vi 0)], [], ax_mm I L) (ax_ki K)) : ax_CI (d + 1) 88 [ax_vr 7 0 o, ax_vi a0] I L K := ax_vcI ax_c88 1 [some (ax_vr 7 0 o), some (ax_vi a0), none, none] (fun pc => Nat.beq pc 4) 6 rfl rfl rfl rfl h
set_option maxRecDepth 100000 in
set_option maxHeartbeats 8000000 in
theorem vc_X7_heardBy_4 {d : Nat} {o : Nat} {b1 : Int32} {b2 : Int32} {b3 : Int32} {I : ax_I} {L : ax_J} {K : Int32 → ax_I → ax_J → Prop} (h :
  (decide ((I o 0) ≤ b3) = true →
    K b2 I L) ∧
  (decide ((I o 0) ≤ b3) = false →
    ax_CI d 87 [ax_vr 7 0 o, ax_vi b3] I L (fun x3 I1 L2 =>
      ax_AK d 88 (4, [some (ax_vr 7 0 o), some (ax_vi b1), some (ax_vi (b2 + ((x3 >>> (b1 &&& 31)) &&& 1))), some (ax_vi (b3 + 1))], [], ax_mm I1 L2) (ax_ki K)))) : ax_AK d 88 (4, [some (ax_vr 7 0 o), some (ax_vi b1), some (ax_vi b2), some (ax_vi b3)], [], ax_mm I L) (ax_ki K) := ax_vcL ax_c88 1 (fun pc => Nat.beq pc 4) 18 rfl rfl h
set_option maxRecDepth 100000 in
set_option maxHeartbeats 8000000 in
theorem vc_X8_row {d : Nat} {a0 : Int32} {a1 : Int32} {I : ax_I} {L : ax_J} {K : Int32 → ax_I → ax_J → Prop} (h :
  ax_CI d 136 [ax_vr 8 0 3, ax_vr 13 6 4, ax_vi a0, ax_vi a1, ax_vi 0] I L (fun x3 I1 L2 =>
    K x3 I1 L2)) : ax_CI (d + 1) 90 [ax_vr 8 0 3, ax_vi a0, ax_vi a1] I L K := ax_vcI ax_c90 1 [some (ax_vr 8 0 3), some (ax_vi a0), some (ax_vi a1)] (fun _ => false) 9 rfl rfl rfl rfl h
set_option maxRecDepth 100000 in
set_option maxHeartbeats 8000000 in
theorem vc_X8_lay {d : Nat} {a0 : Int32} {a1 : Int32} {a2 : Int32} {I : ax_I} {L : ax_J} {K : Int32 → ax_I → ax_J → Prop} (h :
  ax_CI d 132 [ax_vi a0] I L (fun x3 I1 L2 =>
    ((!decide (x3 = (0 : Int32))) = true →
      ax_inb a0 6 = true ∧
      ax_CI d 137 [ax_vr 8 0 3, ax_vr 4 40 (4 + (115 + 2 * a0.toNatClampNeg)), ax_vi a1] I1 L2 (fun x6 I4 L5 =>
        (decide (x6 = (0 : Int32)) = true →
          ax_inb a0 6 = true ∧
          ax_inb a1 40 = true ∧
          ax_inb a0 6 = true ∧
          ax_inb a1 40 = true ∧
          K 1 (ax_ui (ax_ui I4 3 13 (I4 ((4 + (115 + 2 * a0.toNatClampNeg)) + 1) a1.toNatClampNeg)) ((4 + (115 + 2 * a0.toNatClampNeg)) + 1) a1.toNatClampNeg a2) L5) ∧
        (decide (x6 = (0 : Int32)) = false →
          K x6 I4 L5))) ∧
    ((!decide (x3 = (0 : Int32))) = false →
      K (-1) I1 L2))) : ax_CI (d + 1) 91 [ax_vr 8 0 3, ax_vi a0, ax_vi a1, ax_vi a2] I L K := ax_vcI ax_c91 1 [some (ax_vr 8 0 3), some (ax_vi a0), some (ax_vi a1), some (ax_vi a2), none] (fun _ => false) 33 rfl rfl rfl rfl h
set_option maxRecDepth 100000 in
set_option maxHeartbeats 8000000 in
theorem vc_X8_at {d : Nat} {a0 : Int32} {a1 : Int32} {I : ax_I} {L : ax_J} {K : Int32 → ax_I → ax_J → Prop} (h :
  ax_CI d 132 [ax_vi a0] I L (fun x3 I1 L2 =>
    ((!decide (x3 = (0 : Int32))) = true →
      ax_inb a0 6 = true ∧
      ax_CI d 137 [ax_vr 8 0 3, ax_vr 4 40 (4 + (115 + 2 * a0.toNatClampNeg)), ax_vi a1] I1 L2 (fun x6 I4 L5 =>
        (decide (x6 = (0 : Int32)) = true →
          ax_inb a0 6 = true ∧
          ax_inb a1 40 = true ∧
          K 1 (ax_ui I4 3 13 (I4 ((4 + (115 + 2 * a0.toNatClampNeg)) + 1) a1.toNatClampNeg)) L5) ∧
        (decide (x6 = (0 : Int32)) = false →
          K x6 I4 L5))) ∧
    ((!decide (x3 = (0 : Int32))) = false →
      K (-1) I1 L2))) : ax_CI (d + 1) 92 [ax_vr 8 0 3, ax_vi a0, ax_vi a1] I L K := ax_vcI ax_c92 1 [some (ax_vr 8 0 3), some (ax_vi a0), some (ax_vi a1), none] (fun _ => false) 25 rfl rfl rfl rfl h
set_option maxRecDepth 100000 in
set_option maxHeartbeats 8000000 in
theorem vc_X8_tear {d : Nat} {a0 : Int32} {I : ax_I} {L : ax_J} {K : Int32 → ax_I → ax_J → Prop} (h :
  ax_CI d 132 [ax_vi a0] I L (fun x3 I1 L2 =>
    ((!decide (x3 = (0 : Int32))) = true →
      ax_inb a0 6 = true ∧
      ax_CI d 50 [ax_vr 4 40 (4 + (115 + 2 * a0.toNatClampNeg))] I1 L2 (fun x6 I4 L5 =>
        (decide (x6 = (0 : Int32)) = true →
          ax_inb a0 6 = true ∧
          ax_CV d 53 [ax_vr 4 40 (4 + (115 + 2 * a0.toNatClampNeg))] I4 L5 (fun I7 L8 =>
            K 1 I7 L8)) ∧
        (decide (x6 = (0 : Int32)) = false →
          ax_CI d 135 [ax_vr 8 0 3, ax_vi 1] I4 L5 (fun x12 I10 L11 =>
            K x12 I10 L11)))) ∧
    ((!decide (x3 = (0 : Int32))) = false →
      K (-1) I1 L2))) : ax_CI (d + 1) 93 [ax_vr 8 0 3, ax_vi a0] I L K := ax_vcI ax_c93 1 [some (ax_vr 8 0 3), some (ax_vi a0)] (fun _ => false) 17 rfl rfl rfl rfl h
set_option maxRecDepth 100000 in
set_option maxHeartbeats 8000000 in
theorem vc_X8_copy {d : Nat} {a0 : Int32} {a1 : Int32} {a2 : Int32} {a3 : Int32} {a4 : Int32} {I : ax_I} {L : ax_J} {K : Int32 → ax_I → ax_J → Prop} (h :
  ax_CI d 132 [ax_vi a0] I L (fun x3 I1 L2 =>
    (decide (x3 = (0 : Int32)) = true →
      K (-1) I1 L2) ∧
    (decide (x3 = (0 : Int32)) = false →
      ax_CI d 132 [ax_vi a2] I1 L2 (fun x6 I4 L5 =>
        ((!decide (x6 = (0 : Int32))) = true →
          (decide ((0 : Int32) ≤ a4) = true →
            ax_inb a0 6 = true ∧
            ax_CI d 50 [ax_vr 4 40 (4 + (115 + 2 * a0.toNatClampNeg))] I4 L5 (fun x9 I7 L8 =>
              ((!decide (x9 = (0 : Int32))) = true →
                ax_CI d 135 [ax_vr 8 0 3, ax_vi 1] I7 L8 (fun x12 I10 L11 =>
                  K x12 I10 L11)) ∧
              ((!decide (x9 = (0 : Int32))) = false →
                ax_inb a2 6 = true ∧
                ax_CI d 50 [ax_vr 4 40 (4 + (115 + 2 * a2.toNatClampNeg))] I7 L8 (fun x15 I13 L14 =>
                  (decide (x15 = (0 : Int32)) = true →
                    ax_inb a0 6 = true ∧
                    ax_CI d 52 [ax_vr 4 40 (4 + (115 + 2 * a0.toNatClampNeg)), ax_vi a1, ax_vi a4] I13 L14 (fun x18 I16 L17 =>
                      (decide (x18 = (0 : Int32)) = true →
                        ax_CI d 135 [ax_vr 8 0 3, ax_vi 2] I16 L17 (fun x21 I19 L20 =>
                          K x21 I19 L20)) ∧
                      (decide (x18 = (0 : Int32)) = false →
                        ax_inb a2 6 = true ∧
                        ax_CI d 52 [ax_vr 4 40 (4 + (115 + 2 * a2.toNatClampNeg)), ax_vi a3, ax_vi a4] I16 L17 (fun x24 I22 L23 =>
                          ((!decide (x24 = (0 : Int32))) = true →
                            ax_inb a0 6 = true ∧
                            ax_inb a2 6 = true ∧
                            (decide ((0 : Int32) ≤ a1) && decide ((0 : Int32) ≤ a3) && decide ((0 : Int32) ≤ a4) && Nat.ble (a1.toNatClampNeg + a4.toNatClampNeg) 40 && Nat.ble (a3.toNatClampNeg + a4.toNatClampNeg) 40) = true ∧
                            K 1 (ax_uc I22 ((4 + (115 + 2 * a0.toNatClampNeg)) + 1) ((4 + (115 + 2 * a2.toNatClampNeg)) + 1) a1.toNatClampNeg a3.toNatClampNeg a4.toNatClampNeg) L23) ∧
                          ((!decide (x24 = (0 : Int32))) = false →
                            ax_CI d 135 [ax_vr 8 0 3, ax_vi 2] I22 L23 (fun x27 I25 L26 =>
                              K x27 I25 L26)))))) ∧
                  (decide (x15 = (0 : Int32)) = false →
                    ax_CI d 135 [ax_vr 8 0 3, ax_vi 1] I13 L14 (fun x30 I28 L29 =>
                      K x30 I28 L29)))))) ∧
          (decide ((0 : Int32) ≤ a4) = false →
            ax_CI d 135 [ax_vr 8 0 3, ax_vi 5] I4 L5 (fun x33 I31 L32 =>
              K x33 I31 L32))) ∧
        ((!decide (x6 = (0 : Int32))) = false →
          K (-1) I4 L5))))) : ax_CI (d + 1) 94 [ax_vr 8 0 3, ax_vi a0, ax_vi a1, ax_vi a2, ax_vi a3, ax_vi a4] I L K := ax_vcI ax_c94 1 [some (ax_vr 8 0 3), some (ax_vi a0), some (ax_vi a1), some (ax_vi a2), some (ax_vi a3), some (ax_vi a4)] (fun _ => false) 53 rfl rfl rfl rfl h
set_option maxRecDepth 100000 in
set_option maxHeartbeats 8000000 in
theorem vc_X8_mean {d : Nat} {a0 : Int32} {I : ax_I} {L : ax_J} {K : Int32 → ax_I → ax_J → Prop} (h :
  ax_CI d 132 [ax_vi a0] I L (fun x3 I1 L2 =>
    ((!decide (x3 = (0 : Int32))) = true →
      ax_inb a0 6 = true ∧
      ax_CI d 50 [ax_vr 4 40 (4 + (115 + 2 * a0.toNatClampNeg))] I1 L2 (fun x6 I4 L5 =>
        (decide (x6 = (0 : Int32)) = true →
          ax_inb a0 6 = true ∧
          ((!decide ((I4 (4 + (115 + 2 * a0.toNatClampNeg)) 1) = (0 : Int32))) = true →
            ax_inb a0 6 = true ∧
            ax_CL d 56 [ax_vr 4 40 (4 + (115 + 2 * a0.toNatClampNeg))] I4 L5 (fun x9 I7 L8 =>
              (!decide (((I4 (4 + (115 + 2 * a0.toNatClampNeg)) 1).toInt64 : Int64) = 0)) = true ∧
              K 1 (ax_ui I7 3 13 ((x9 / ((I4 (4 + (115 + 2 * a0.toNatClampNeg)) 1).toInt64)).toInt32)) L8)) ∧
          ((!decide ((I4 (4 + (115 + 2 * a0.toNatClampNeg)) 1) = (0 : Int32))) = false →
            ax_CI d 135 [ax_vr 8 0 3, ax_vi 4] I4 L5 (fun x12 I10 L11 =>
              K x12 I10 L11))) ∧
        (decide (x6 = (0 : Int32)) = false →
          ax_CI d 135 [ax_vr 8 0 3, ax_vi 1] I4 L5 (fun x15 I13 L14 =>
            K x15 I13 L14)))) ∧
    ((!decide (x3 = (0 : Int32))) = false →
      K (-1) I1 L2))) : ax_CI (d + 1) 95 [ax_vr 8 0 3, ax_vi a0] I L K := ax_vcI ax_c95 1 [some (ax_vr 8 0 3), some (ax_vi a0), none] (fun _ => false) 31 rfl rfl rfl rfl h
set_option maxRecDepth 100000 in
set_option maxHeartbeats 8000000 in
theorem vc_X8_text {d : Nat} {a0 : Int32} {a1 : Int32} {I : ax_I} {L : ax_J} {K : Int32 → ax_I → ax_J → Prop} (h :
  ax_CI d 136 [ax_vr 8 0 3, ax_vr 14 4 5, ax_vi a0, ax_vi a1, ax_vi 32] I L (fun x3 I1 L2 =>
    K x3 I1 L2)) : ax_CI (d + 1) 96 [ax_vr 8 0 3, ax_vi a0, ax_vi a1] I L K := ax_vcI ax_c96 1 [some (ax_vr 8 0 3), some (ax_vi a0), some (ax_vi a1)] (fun _ => false) 9 rfl rfl rfl rfl h
set_option maxRecDepth 100000 in
set_option maxHeartbeats 8000000 in
theorem vc_X8_put {d : Nat} {a0 : Int32} {a1 : Int32} {a2 : Int32} {I : ax_I} {L : ax_J} {K : Int32 → ax_I → ax_J → Prop} (h :
  ax_CI d 133 [ax_vi a0] I L (fun x3 I1 L2 =>
    ((!decide (x3 = (0 : Int32))) = true →
      ax_inb a0 4 = true ∧
      ax_CI d 137 [ax_vr 8 0 3, ax_vr 4 80 (5 + (126 + 2 * a0.toNatClampNeg)), ax_vi a1] I1 L2 (fun x6 I4 L5 =>
        (decide (x6 = (0 : Int32)) = true →
          ax_inb a0 4 = true ∧
          ax_inb a1 80 = true ∧
          ax_inb a0 4 = true ∧
          ax_inb a1 80 = true ∧
          K ((I4 ((5 + (126 + 2 * a0.toNatClampNeg)) + 1) a1.toNatClampNeg) + 1000) (ax_ui I4 ((5 + (126 + 2 * a0.toNatClampNeg)) + 1) a1.toNatClampNeg a2.toInt8.toInt32) L5) ∧
        (decide (x6 = (0 : Int32)) = false →
          K x6 I4 L5))) ∧
    ((!decide (x3 = (0 : Int32))) = false →
      K (-1) I1 L2))) : ax_CI (d + 1) 97 [ax_vr 8 0 3, ax_vi a0, ax_vi a1, ax_vi a2] I L K := ax_vcI ax_c97 1 [some (ax_vr 8 0 3), some (ax_vi a0), some (ax_vi a1), some (ax_vi a2), none, none] (fun _ => false) 35 rfl rfl rfl rfl h
set_option maxRecDepth 100000 in
set_option maxHeartbeats 8000000 in
theorem vc_X8_fault {d : Nat} {a0 : Int32} {I : ax_I} {L : ax_J} {K : Int32 → ax_I → ax_J → Prop} (h :
  ax_CI d 133 [ax_vi a0] I L (fun x3 I1 L2 =>
    ((!decide (x3 = (0 : Int32))) = true →
      ax_inb a0 4 = true ∧
      ax_CI d 50 [ax_vr 4 80 (5 + (126 + 2 * a0.toNatClampNeg))] I1 L2 (fun x6 I4 L5 =>
        (decide (x6 = (0 : Int32)) = true →
          ax_inb a0 4 = true ∧
          ax_CI d 65 [ax_vr 6 0 27, ax_vr 4 80 (5 + (126 + 2 * a0.toNatClampNeg))] I4 L5 (fun x9 I7 L8 =>
            K x9 I7 L8)) ∧
        (decide (x6 = (0 : Int32)) = false →
          ax_CI d 135 [ax_vr 8 0 3, ax_vi 1] I4 L5 (fun x12 I10 L11 =>
            K x12 I10 L11)))) ∧
    ((!decide (x3 = (0 : Int32))) = false →
      K (-1) I1 L2))) : ax_CI (d + 1) 98 [ax_vr 8 0 3, ax_vi a0] I L K := ax_vcI ax_c98 1 [some (ax_vr 8 0 3), some (ax_vi a0)] (fun _ => false) 18 rfl rfl rfl rfl h
set_option maxRecDepth 100000 in
set_option maxHeartbeats 8000000 in
theorem vc_X8_town {d : Nat} {a0 : Int32} {I : ax_I} {L : ax_J} {K : Int32 → ax_I → ax_J → Prop} (h :
  ax_CI d 133 [ax_vi a0] I L (fun x3 I1 L2 =>
    ((!decide (x3 = (0 : Int32))) = true →
      ax_inb a0 4 = true ∧
      ax_CI d 50 [ax_vr 4 80 (5 + (126 + 2 * a0.toNatClampNeg))] I1 L2 (fun x6 I4 L5 =>
        (decide (x6 = (0 : Int32)) = true →
          ax_inb a0 4 = true ∧
          ax_CI d 65 [ax_vr 6 0 27, ax_vr 4 80 (5 + (126 + 2 * a0.toNatClampNeg))] I4 L5 (fun x9 I7 L8 =>
            (decide (x9 = (-9 : Int32)) = true →
              ax_CV d 79 [ax_vr 7 0 6, ax_vr 7 0 28] I7 L8 (fun I10 L11 =>
                ax_CV d 5 [ax_vr 1 0 10, ax_vr 1 0 32] I10 L11 (fun I13 L14 =>
                  ax_AK d 99 (78, [some (ax_vr 8 0 3), some (ax_vi a0), some (ax_vi 0)], [], ax_mm I13 L14) (ax_ki K)))) ∧
            (decide (x9 = (-9 : Int32)) = false →
              K (-4) I7 L8))) ∧
        (decide (x6 = (0 : Int32)) = false →
          ax_CI d 135 [ax_vr 8 0 3, ax_vi 1] I4 L5 (fun x18 I16 L17 =>
            K x18 I16 L17)))) ∧
    ((!decide (x3 = (0 : Int32))) = false →
      K (-1) I1 L2))) : ax_CI (d + 1) 99 [ax_vr 8 0 3, ax_vi a0] I L K := ax_vcI ax_c99 1 [some (ax_vr 8 0 3), some (ax_vi a0), none] (fun pc => Nat.beq pc 78) 34 rfl rfl rfl rfl h
set_option maxRecDepth 100000 in
set_option maxHeartbeats 8000000 in
theorem vc_X8_town_78 {d : Nat} {b2 : Int32} {z1 : Option ax_V} {I : ax_I} {L : ax_J} {K : Int32 → ax_I → ax_J → Prop} (h :
  (decide ((3 : Int32) ≤ b2) = true →
    K (I 6 0) I L) ∧
  (decide ((3 : Int32) ≤ b2) = false →
    (ax_inb b2 3 && ax_bit 0) = true ∧
    ax_AK d 99 (78, [some (ax_vr 8 0 3), none, some (ax_vi (b2 + 1))], [], ax_mm (ax_ui I 26 b2.toNatClampNeg 0) L) (ax_ki K))) : ax_AK d 99 (78, [some (ax_vr 8 0 3), z1, some (ax_vi b2)], [], ax_mm I L) (ax_ki K) := ax_vcL ax_c99 1 (fun pc => Nat.beq pc 78) 12 rfl rfl h
set_option maxRecDepth 100000 in
set_option maxHeartbeats 8000000 in
theorem vc_X8_one {d : Nat} {a0 : Int32} {a1 : Int32} {I : ax_I} {L : ax_J} {K : Int32 → ax_I → ax_J → Prop} (h :
  ax_CI d 80 [ax_vr 7 0 6, ax_vi a0] I L (fun x3 I1 L2 =>
    (decide (x3 = (0 : Int32)) = true →
      K (-1) I1 L2) ∧
    (decide (x3 = (0 : Int32)) = false →
      (decide (a1 < (0 : Int32)) = true →
        K (-1) I1 L2) ∧
      (decide (a1 < (0 : Int32)) = false →
        (decide (a1 ≤ (4 : Int32)) = true →
          ax_CI d 140 [ax_vr 8 0 3, ax_vi a0, ax_vi a1] I1 L2 (fun x6 I4 L5 =>
            K 1 (ax_ui I4 3 13 x6) L5)) ∧
        (decide (a1 ≤ (4 : Int32)) = false →
          K (-1) I1 L2))))) : ax_CI (d + 1) 100 [ax_vr 8 0 3, ax_vi a0, ax_vi a1] I L K := ax_vcI ax_c100 1 [some (ax_vr 8 0 3), some (ax_vi a0), some (ax_vi a1)] (fun _ => false) 19 rfl rfl rfl rfl h
set_option maxRecDepth 100000 in
set_option maxHeartbeats 8000000 in
theorem vc_X8_thing {d : Nat} {a0 : Int32} {a1 : Int32} {I : ax_I} {L : ax_J} {K : Int32 → ax_I → ax_J → Prop} (h :
  ax_CI d 81 [ax_vr 7 0 6, ax_vi a0] I L (fun x3 I1 L2 =>
    (decide (x3 = (0 : Int32)) = true →
      K (-1) I1 L2) ∧
    (decide (x3 = (0 : Int32)) = false →
      (decide (a1 < (0 : Int32)) = true →
        K (-1) I1 L2) ∧
      (decide (a1 < (0 : Int32)) = false →
        (decide (a1 ≤ (3 : Int32)) = true →
          ax_CI d 141 [ax_vr 8 0 3, ax_vi a0, ax_vi a1] I1 L2 (fun x6 I4 L5 =>
            K 1 (ax_ui I4 3 13 x6) L5)) ∧
        (decide (a1 ≤ (3 : Int32)) = false →
          K (-1) I1 L2))))) : ax_CI (d + 1) 101 [ax_vr 8 0 3, ax_vi a0, ax_vi a1] I L K := ax_vcI ax_c101 1 [some (ax_vr 8 0 3), some (ax_vi a0), some (ax_vi a1)] (fun _ => false) 19 rfl rfl rfl rfl h
set_option maxRecDepth 100000 in
set_option maxHeartbeats 8000000 in
theorem vc_X8_mark {d : Nat} {a0 : Int32} {a1 : Int32} {I : ax_I} {L : ax_J} {K : Int32 → ax_I → ax_J → Prop} (h :
  ax_CI d 80 [ax_vr 7 0 6, ax_vi a0] I L (fun x3 I1 L2 =>
    (decide (x3 = (0 : Int32)) = true →
      K (-1) I1 L2) ∧
    (decide (x3 = (0 : Int32)) = false →
      (decide (a1 ≤ (0 : Int32)) = true →
        K (-1) I1 L2) ∧
      (decide (a1 ≤ (0 : Int32)) = false →
        (decide (a1 < (6 : Int32)) = true →
          ax_CI d 84 [ax_vr 7 0 6, ax_vi a0, ax_vi a1] I1 L2 (fun x6 I4 L5 =>
            ((!decide (x6 = (0 : Int32))) = true →
              (decide (a1 = 1) = true →
                ax_CI d 18 [ax_vr 1 0 10, ax_vi a0] I4 L5 (fun x9 I7 L8 =>
                  ax_CI d 243 [ax_vi x9] I7 L8 (fun x12 I10 L11 =>
                    K x12 I10 L11))) ∧
              (decide (a1 = 1) = false →
              (decide (a1 = 2) = true →
                ax_CI d 22 [ax_vr 1 0 10, ax_vi a0] I4 L5 (fun x15 I13 L14 =>
                  K x15 I13 L14)) ∧
              (decide (a1 = 2) = false →
              (decide (a1 = 3) = true →
                ax_CI d 88 [ax_vr 7 0 6, ax_vi a0] I4 L5 (fun x18 I16 L17 =>
                  K x18 I16 L17)) ∧
              (decide (a1 = 3) = false →
              (decide (a1 = 4) = true →
                ax_CI d 20 [ax_vr 1 0 10, ax_vi a0] I4 L5 (fun x21 I19 L20 =>
                  K x21 I19 L20)) ∧
              (decide (a1 = 4) = false →
                ax_CI d 18 [ax_vr 1 0 10, ax_vi a0] I4 L5 (fun x24 I22 L23 =>
                  ax_CI d 19 [ax_vr 1 0 10, ax_vi a0] I22 L23 (fun x27 I25 L26 =>
                    ax_CI d 243 [ax_vi (x24 &&& x27)] I25 L26 (fun x30 I28 L29 =>
                      K x30 I28 L29)))))))) ∧
            ((!decide (x6 = (0 : Int32))) = false →
              ax_CI d 135 [ax_vr 8 0 3, ax_vi 3] I4 L5 (fun x33 I31 L32 =>
                K x33 I31 L32)))) ∧
        (decide (a1 < (6 : Int32)) = false →
          K (-1) I1 L2))))) : ax_CI (d + 1) 102 [ax_vr 8 0 3, ax_vi a0, ax_vi a1] I L K := ax_vcI ax_c102 1 [some (ax_vr 8 0 3), some (ax_vi a0), some (ax_vi a1)] (fun _ => false) 30 rfl rfl rfl rfl h
set_option maxRecDepth 100000 in
set_option maxHeartbeats 8000000 in
theorem vc_X8_want {d : Nat} {a0 : Int32} {a1 : Int32} {a2 : Int32} {I : ax_I} {L : ax_J} {K : Int32 → ax_I → ax_J → Prop} (h :
  ax_CI d 80 [ax_vr 7 0 6, ax_vi a0] I L (fun x3 I1 L2 =>
    (decide (x3 = (0 : Int32)) = true →
      K (-1) I1 L2) ∧
    (decide (x3 = (0 : Int32)) = false →
      ax_CI d 81 [ax_vr 7 0 6, ax_vi a1] I1 L2 (fun x6 I4 L5 =>
        (decide (x6 = (0 : Int32)) = true →
          K (-1) I4 L5) ∧
        (decide (x6 = (0 : Int32)) = false →
          (decide (a2 < (0 : Int32)) = true →
            K (-1) I4 L5) ∧
          (decide (a2 < (0 : Int32)) = false →
            (decide (a2 ≤ (9 : Int32)) = true →
              ax_inb a0 6 = true ∧
              ax_inb a1 6 = true ∧
              ax_inb a0 6 = true ∧
              ax_inb a1 6 = true ∧
              K (I4 (11 + (1 + a0.toNatClampNeg)) a1.toNatClampNeg) (ax_ui I4 (11 + (1 + a0.toNatClampNeg)) a1.toNatClampNeg a2) L5) ∧
            (decide (a2 ≤ (9 : Int32)) = false →
              K (-1) I4 L5))))))) : ax_CI (d + 1) 103 [ax_vr 8 0 3, ax_vi a0, ax_vi a1, ax_vi a2] I L K := ax_vcI ax_c103 1 [some (ax_vr 8 0 3), some (ax_vi a0), some (ax_vi a1), some (ax_vi a2), none] (fun _ => false) 34 rfl rfl rfl rfl h
set_option maxRecDepth 100000 in
set_option maxHeartbeats 8000000 in
theorem vc_X8_tell {d : Nat} {a0 : Int32} {a1 : Int32} {a2 : Int32} {I : ax_I} {L : ax_J} {K : Int32 → ax_I → ax_J → Prop} (h :
  ax_CI d 80 [ax_vr 7 0 6, ax_vi a0] I L (fun x3 I1 L2 =>
    (decide (x3 = (0 : Int32)) = true →
      K (-1) I1 L2) ∧
    (decide (x3 = (0 : Int32)) = false →
      ax_CI d 80 [ax_vr 7 0 6, ax_vi a1] I1 L2 (fun x6 I4 L5 =>
        (decide (x6 = (0 : Int32)) = true →
          K (-1) I4 L5) ∧
        (decide (x6 = (0 : Int32)) = false →
          (decide (a0 = a1) = true →
            K (-1) I4 L5) ∧
          (decide (a0 = a1) = false →
            (decide (a2 < (0 : Int32)) = true →
              K (-1) I4 L5) ∧
            (decide (a2 < (0 : Int32)) = false →
              (decide (a2 ≤ (1 : Int32)) = true →
                ax_inb a0 6 = true ∧
                ax_inb a0 6 = true ∧
                ax_inb a0 6 = true ∧
                K (((I4 8 a0.toNatClampNeg) >>> (a1 &&& 31)) &&& 1) (ax_ui I4 8 a0.toNatClampNeg (((I4 8 a0.toNatClampNeg) &&& (((1 : Int32) <<< (a1 &&& 31)) ^^^ (-1))) ||| (a2 <<< (a1 &&& 31)))) L5) ∧
              (decide (a2 ≤ (1 : Int32)) = false →
                K (-1) I4 L5)))))))) : ax_CI (d + 1) 104 [ax_vr 8 0 3, ax_vi a0, ax_vi a1, ax_vi a2] I L K := ax_vcI ax_c104 1 [some (ax_vr 8 0 3), some (ax_vi a0), some (ax_vi a1), some (ax_vi a2), none] (fun _ => false) 51 rfl rfl rfl rfl h
set_option maxRecDepth 100000 in
set_option maxHeartbeats 8000000 in
theorem vc_X8_say {d : Nat} {a0 : Int32} {a1 : Int32} {I : ax_I} {L : ax_J} {K : Int32 → ax_I → ax_J → Prop} (h :
  ax_CI d 80 [ax_vr 7 0 6, ax_vi a0] I L (fun x3 I1 L2 =>
    (decide (x3 = (0 : Int32)) = true →
      K (-1) I1 L2) ∧
    (decide (x3 = (0 : Int32)) = false →
      ax_CI d 81 [ax_vr 7 0 6, ax_vi a1] I1 L2 (fun x6 I4 L5 =>
        ((!decide (x6 = (0 : Int32))) = true →
          (decide ((I4 10 9) < (40 : Int32)) = true →
            ax_CI d 139 [ax_vr 8 0 3, ax_vi a0, ax_vi a1] I4 L5 (fun x9 I7 L8 =>
              ax_inb a1 6 = true ∧
              (decide (x9 = (0 : Int32)) = true →
                K 0 (ax_ui I7 3 13 (I7 19 a1.toNatClampNeg)) L8) ∧
              (decide (x9 = (0 : Int32)) = false →
                K 1 (ax_ui I7 3 13 (I7 19 a1.toNatClampNeg)) L8))) ∧
          (decide ((I4 10 9) < (40 : Int32)) = false →
            K (-2) I4 L5)) ∧
        ((!decide (x6 = (0 : Int32))) = false →
          K (-1) I4 L5))))) : ax_CI (d + 1) 105 [ax_vr 8 0 3, ax_vi a0, ax_vi a1] I L K := ax_vcI ax_c105 1 [some (ax_vr 8 0 3), some (ax_vi a0), some (ax_vi a1), none] (fun _ => false) 33 rfl rfl rfl rfl h
set_option maxRecDepth 100000 in
set_option maxHeartbeats 8000000 in
theorem vc_X8_undo {d : Nat} {a0 : Int32} {I : ax_I} {L : ax_J} {K : Int32 → ax_I → ax_J → Prop} (h :
  (decide (a0 < (0 : Int32)) = true →
    K (-1) I L) ∧
  (decide (a0 < (0 : Int32)) = false →
    (decide (a0 ≤ (I 10 9)) = true →
      ax_CV d 12 [ax_vr 1 0 10, ax_vi a0] I L (fun I1 L2 =>
        K ((I 10 9) - a0) I1 L2)) ∧
    (decide (a0 ≤ (I 10 9)) = false →
      K (-1) I L))) : ax_CI (d + 1) 106 [ax_vr 8 0 3, ax_vi a0] I L K := ax_vcI ax_c106 1 [some (ax_vr 8 0 3), some (ax_vi a0), none] (fun _ => false) 20 rfl rfl rfl rfl h
set_option maxRecDepth 100000 in
set_option maxHeartbeats 8000000 in
theorem vc_X8_can {d : Nat} {a0 : Int32} {I : ax_I} {L : ax_J} {K : Int32 → ax_I → ax_J → Prop} (h :
  ax_CI d 80 [ax_vr 7 0 6, ax_vi a0] I L (fun x3 I1 L2 =>
    (decide (x3 = (0 : Int32)) = true →
      K (-1) I1 L2) ∧
    (decide (x3 = (0 : Int32)) = false →
      ax_CI d 14 [ax_vr 1 0 10, ax_vr 7 0 6, ax_vi a0] I1 L2 (fun x6 I4 L5 =>
        K x6 I4 L5)))) : ax_CI (d + 1) 107 [ax_vr 8 0 3, ax_vi a0] I L K := ax_vcI ax_c107 1 [some (ax_vr 8 0 3), some (ax_vi a0)] (fun _ => false) 14 rfl rfl rfl rfl h
set_option maxRecDepth 100000 in
set_option maxHeartbeats 8000000 in
theorem vc_X8_knows {d : Nat} {a0 : Int32} {I : ax_I} {L : ax_J} {K : Int32 → ax_I → ax_J → Prop} (h :
  ax_CI d 80 [ax_vr 7 0 6, ax_vi a0] I L (fun x3 I1 L2 =>
    ((!decide (x3 = (0 : Int32))) = true →
      ax_CI d 14 [ax_vr 1 0 10, ax_vr 7 0 6, ax_vi a0] I1 L2 (fun x6 I4 L5 =>
        ax_CI d 15 [ax_vr 1 0 10, ax_vi a0] I4 L5 (fun x9 I7 L8 =>
          ax_CI d 16 [ax_vr 1 0 10, ax_vi a0] I7 L8 (fun x12 I10 L11 =>
            K ((x6 &&& x9) &&& x12) I10 L11)))) ∧
    ((!decide (x3 = (0 : Int32))) = false →
      K (-1) I1 L2))) : ax_CI (d + 1) 108 [ax_vr 8 0 3, ax_vi a0] I L K := ax_vcI ax_c108 1 [some (ax_vr 8 0 3), some (ax_vi a0)] (fun _ => false) 23 rfl rfl rfl rfl h
set_option maxRecDepth 100000 in
set_option maxHeartbeats 8000000 in
theorem vc_X8_dusk {d : Nat} {I : ax_I} {L : ax_J} {K : Int32 → ax_I → ax_J → Prop} (h :
  ax_CI d 23 [ax_vr 1 0 10, ax_vr 7 0 6] I L (fun x3 I1 L2 =>
    ax_AK d 109 (16, [some (ax_vr 8 0 3), some (ax_vi x3), some (ax_vi 0), some (ax_vi 0)], [], ax_mm I1 L2) (ax_ki K))) : ax_CI (d + 1) 109 [ax_vr 8 0 3] I L K := ax_vcI ax_c109 1 [some (ax_vr 8 0 3), none, none, none] (fun pc => Nat.beq pc 16) 12 rfl rfl rfl rfl h
set_option maxRecDepth 100000 in
set_option maxHeartbeats 8000000 in
theorem vc_X8_dusk_16 {d : Nat} {b1 : Int32} {b2 : Int32} {b3 : Int32} {I : ax_I} {L : ax_J} {K : Int32 → ax_I → ax_J → Prop} (h :
  (decide ((I 6 0) ≤ b3) = true →
    K b1 (ax_ui I 3 13 b2) L) ∧
  (decide ((I 6 0) ≤ b3) = false →
    ax_CI d 19 [ax_vr 1 0 10, ax_vi b3] I L (fun x3 I1 L2 =>
      ax_CI d 24 [ax_vr 1 0 10, ax_vi b3, ax_vi (b1 &&& x3)] I1 L2 (fun x6 I4 L5 =>
        ax_AK d 109 (16, [some (ax_vr 8 0 3), some (ax_vi b1), some (ax_vi (b2 + x6)), some (ax_vi (b3 + 1))], [], ax_mm I4 L5) (ax_ki K))))) : ax_AK d 109 (16, [some (ax_vr 8 0 3), some (ax_vi b1), some (ax_vi b2), some (ax_vi b3)], [], ax_mm I L) (ax_ki K) := ax_vcL ax_c109 1 (fun pc => Nat.beq pc 16) 22 rfl rfl h
