theorem vc_X1_isWaiting {d : Nat} {o : Nat} {a0 : Int32} {I : ax_I} {L : ax_J} {K : Int32 → ax_I → ax_J → Prop} (h :
  ax_inb a0 6 = true ∧
  (decide ((I (o + 8) a0.toNatClampNeg) = (-9 : Int32)) = true →
    ax_bit 0 = true ∧ K 0 I L) ∧
  (decide ((I (o + 8) a0.toNatClampNeg) = (-9 : Int32)) = false →
    ax_inb a0 6 = true ∧
    ((!decide ((I (o + 9) a0.toNatClampNeg) = (-9 : Int32))) = true →
      ax_bit 0 = true ∧ K 0 I L) ∧
    ((!decide ((I (o + 9) a0.toNatClampNeg) = (-9 : Int32))) = false →
      ax_bit 1 = true ∧ K 1 I L))) : ax_CI (d + 1) 7 [ax_vr 1 0 o, ax_vi a0] I L K := ax_vcI ax_c7 3 [some (ax_vr 1 0 o), some (ax_vi a0)] (fun _ => false) 16 rfl rfl rfl rfl h
theorem vc_X7_isOf {d : Nat} {o : Nat} {a0 : Int32} {a1 : Int32} {I : ax_I} {L : ax_J} {K : Int32 → ax_I → ax_J → Prop} (h :
  ax_inb a0 6 = true ∧
  (decide ((I (o + 1) a0.toNatClampNeg) = a1) = true →
    ax_bit 1 = true ∧ K 1 I L) ∧
  (decide ((I (o + 1) a0.toNatClampNeg) = a1) = false →
    ax_inb (I (o + 1) a0.toNatClampNeg) 6 = true ∧
    (decide ((I 1 (I (o + 1) a0.toNatClampNeg).toNatClampNeg) = a1) = true →
      ax_bit 1 = true ∧ K 1 I L) ∧
    (decide ((I 1 (I (o + 1) a0.toNatClampNeg).toNatClampNeg) = a1) = false →
      ((!decide (a1 = (0 : Int32))) = true →
        ax_bit 0 = true ∧ K 0 I L) ∧
      ((!decide (a1 = (0 : Int32))) = false →
        ax_bit 1 = true ∧ K 1 I L)))) : ax_CI (d + 1) 84 [ax_vr 7 0 o, ax_vi a0, ax_vi a1] I L K := ax_vcI ax_c84 3 [some (ax_vr 7 0 o), some (ax_vi a0), some (ax_vi a1), none] (fun _ => false) 19 rfl rfl rfl rfl h
theorem vc_X1_wish {d : Nat} {o : Nat} {o0 : Nat} {a1 : Int32} {a2 : Int32} {I : ax_I} {L : ax_J} {K : Int32 → ax_I → ax_J → Prop} (h :
  ax_inb a2 6 = true ∧
  ((!decide ((I (o + 8) a2.toNatClampNeg) = (-9 : Int32))) = true →
    (decide ((6 : Int32) ≤ (I o 6)) = true →
      K 0 I L) ∧
    (decide ((6 : Int32) ≤ (I o 6)) = false →
      ax_CI d 8 [ax_vr 1 0 o, ax_vr 7 0 o0, ax_vi a1, ax_vi a2] I L (fun x3 I1 L2 =>
        ((!decide (x3 = (0 : Int32))) = true →
          ax_CI d 84 [ax_vr 7 0 o0, ax_vi a1, ax_vi 4] I1 L2 (fun x6 I4 L5 =>
            (decide (x6 = (0 : Int32)) = true →
              ax_inb a2 6 = true ∧
              ax_inb a2 6 = true ∧
              ax_inb ((ax_ui (ax_ui I4 (o + 9) a2.toNatClampNeg a1) (o + 10) a2.toNatClampNeg a1) o 6) 6 = true ∧
              K 2 (ax_ui (ax_ui (ax_ui (ax_ui I4 (o + 9) a2.toNatClampNeg a1) (o + 10) a2.toNatClampNeg a1) (o + 12) ((ax_ui (ax_ui I4 (o + 9) a2.toNatClampNeg a1) (o + 10) a2.toNatClampNeg a1) o 6).toNatClampNeg a2) o 6 (((ax_ui (ax_ui (ax_ui I4 (o + 9) a2.toNatClampNeg a1) (o + 10) a2.toNatClampNeg a1) (o + 12) ((ax_ui (ax_ui I4 (o + 9) a2.toNatClampNeg a1) (o + 10) a2.toNatClampNeg a1) o 6).toNatClampNeg a2) o 6) + 1)) L5) ∧
            (decide (x6 = (0 : Int32)) = false →
              ax_inb a2 6 = true ∧
              ax_inb a2 6 = true ∧
              ax_inb a2 6 = true ∧
              ax_inb ((ax_ui (ax_ui I4 (o + 9) a2.toNatClampNeg (I4 (o + 8) a2.toNatClampNeg)) (o + 10) a2.toNatClampNeg a1) o 6) 6 = true ∧
              K 2 (ax_ui (ax_ui (ax_ui (ax_ui I4 (o + 9) a2.toNatClampNeg (I4 (o + 8) a2.toNatClampNeg)) (o + 10) a2.toNatClampNeg a1) (o + 12) ((ax_ui (ax_ui I4 (o + 9) a2.toNatClampNeg (I4 (o + 8) a2.toNatClampNeg)) (o + 10) a2.toNatClampNeg a1) o 6).toNatClampNeg a2) o 6 (((ax_ui (ax_ui (ax_ui I4 (o + 9) a2.toNatClampNeg (I4 (o + 8) a2.toNatClampNeg)) (o + 10) a2.toNatClampNeg a1) (o + 12) ((ax_ui (ax_ui I4 (o + 9) a2.toNatClampNeg (I4 (o + 8) a2.toNatClampNeg)) (o + 10) a2.toNatClampNeg a1) o 6).toNatClampNeg a2) o 6) + 1)) L5))) ∧
        ((!decide (x3 = (0 : Int32))) = false →
          K 0 I1 L2)))) ∧
  ((!decide ((I (o + 8) a2.toNatClampNeg) = (-9 : Int32))) = false →
    ax_inb a2 6 = true ∧
    K 1 (ax_ui I (o + 8) a2.toNatClampNeg a1) L)) : ax_CI (d + 1) 9 [ax_vr 1 0 o, ax_vr 7 0 o0, ax_vi a1, ax_vi a2] I L K := ax_vcI ax_c9 1 [some (ax_vr 1 0 o), some (ax_vr 7 0 o0), some (ax_vi a1), some (ax_vi a2)] (fun _ => false) 50 rfl rfl rfl rfl h
theorem vc_X1_thingsWith {d : Nat} {n0 o0 : Nat} {a1 : Int32} {I : ax_I} {L : ax_J} {K : Int32 → ax_I → ax_J → Prop} (h :
  ax_AK d 21 (4, [some (ax_vr 10 n0 o0), some (ax_vi a1), some (ax_vi 0), some (ax_vi 0)], [], ax_mm I L) (ax_ki K)) : ax_CI (d + 1) 21 [ax_vr 10 n0 o0, ax_vi a1] I L K := ax_vcI ax_c21 1 [some (ax_vr 10 n0 o0), some (ax_vi a1), none, none] (fun pc => Nat.beq pc 4) 6 rfl rfl rfl rfl h
theorem vc_X1_thingsWith_4 {d : Nat} {n0 : Nat} {o0 : Nat} {b1 : Int32} {b2 : Int32} {b3 : Int32} {I : ax_I} {L : ax_J} {K : Int32 → ax_I → ax_J → Prop} (h :
  (decide ((6 : Int32) ≤ b3) = true →
    K b2 I L) ∧
  (decide ((6 : Int32) ≤ b3) = false →
    ax_inb b3 n0 = true ∧
    ((!decide ((I o0 b3.toNatClampNeg) = b1)) = true →
      ax_AK d 21 (4, [some (ax_vr 10 n0 o0), some (ax_vi b1), some (ax_vi b2), some (ax_vi (b3 + 1))], [], ax_mm I L) (ax_ki K)) ∧
    ((!decide ((I o0 b3.toNatClampNeg) = b1)) = false →
      ax_AK d 21 (4, [some (ax_vr 10 n0 o0), some (ax_vi b1), some (ax_vi (b2 ||| (1 <<< (b3 &&& 31)))), some (ax_vi (b3 + 1))], [], ax_mm I L) (ax_ki K)))) : ax_AK d 21 (4, [some (ax_vr 10 n0 o0), some (ax_vi b1), some (ax_vi b2), some (ax_vi b3)], [], ax_mm I L) (ax_ki K) := ax_vcL ax_c21 1 (fun pc => Nat.beq pc 4) 18 rfl rfl h
theorem vc_X8_copy {d : Nat} {a0 : Int32} {a1 : Int32} {a2 : Int32} {a3 : Int32} {a4 : Int32} {I : ax_I} {L : ax_J} {K : Int32 → ax_I → ax_J → Prop} (h :
  ax_CI d 132 [ax_vi a0] I L (fun x3 I1 L2 =>
    (decide (x3 = (0 : Int32)) = true →
      K (-1) I1 L2) ∧
    (decide (x3 = (0 : Int32)) = false →
      ax_CI d 132 [ax_vi a2] I1 L2 (fun x6 I4 L5 =>
        ((!decide (x6 = (0 : Int32))) = true →
          (decide ((0 : Int32) ≤ a4) = true →
            ax_inb a0 6 = true ∧
            ax_CI d 50 [ax_vr 4 40 (4 + (115 + 2 * a0.toNatClampNeg))] I4 L5 (fun x9 I7 L8 =>
              ((!decide (x9 = (0 : Int32))) = true →
                ax_CI d 135 [ax_vr 8 0 3, ax_vi 1] I7 L8 (fun x12 I10 L11 =>
                  K x12 I10 L11)) ∧
              ((!decide (x9 = (0 : Int32))) = false →
                ax_inb a2 6 = true ∧
                ax_CI d 50 [ax_vr 4 40 (4 + (115 + 2 * a2.toNatClampNeg))] I7 L8 (fun x15 I13 L14 =>
                  (decide (x15 = (0 : Int32)) = true →
                    ax_inb a0 6 = true ∧
                    ax_CI d 52 [ax_vr 4 40 (4 + (115 + 2 * a0.toNatClampNeg)), ax_vi a1, ax_vi a4] I13 L14 (fun x18 I16 L17 =>
                      (decide (x18 = (0 : Int32)) = true →
                        ax_CI d 135 [ax_vr 8 0 3, ax_vi 2] I16 L17 (fun x21 I19 L20 =>
                          K x21 I19 L20)) ∧
                      (decide (x18 = (0 : Int32)) = false →
                        ax_inb a2 6 = true ∧
                        ax_CI d 52 [ax_vr 4 40 (4 + (115 + 2 * a2.toNatClampNeg)), ax_vi a3, ax_vi a4] I16 L17 (fun x24 I22 L23 =>
                          ((!decide (x24 = (0 : Int32))) = true →
                            ax_inb a0 6 = true ∧
                            ax_inb a2 6 = true ∧
                            (decide ((0 : Int32) ≤ a1) && decide ((0 : Int32) ≤ a3) && decide ((0 : Int32) ≤ a4) && Nat.ble (a1.toNatClampNeg + a4.toNatClampNeg) 40 && Nat.ble (a3.toNatClampNeg + a4.toNatClampNeg) 40) = true ∧
                            K 1 (ax_uc I22 ((4 + (115 + 2 * a0.toNatClampNeg)) + 1) ((4 + (115 + 2 * a2.toNatClampNeg)) + 1) a1.toNatClampNeg a3.toNatClampNeg a4.toNatClampNeg) L23) ∧
                          ((!decide (x24 = (0 : Int32))) = false →
                            ax_CI d 135 [ax_vr 8 0 3, ax_vi 2] I22 L23 (fun x27 I25 L26 =>
                              K x27 I25 L26)))))) ∧
                  (decide (x15 = (0 : Int32)) = false →
                    ax_CI d 135 [ax_vr 8 0 3, ax_vi 1] I13 L14 (fun x30 I28 L29 =>
                      K x30 I28 L29)))))) ∧
          (decide ((0 : Int32) ≤ a4) = false →
            ax_CI d 135 [ax_vr 8 0 3, ax_vi 5] I4 L5 (fun x33 I31 L32 =>
              K x33 I31 L32))) ∧
        ((!decide (x6 = (0 : Int32))) = false →
          K (-1) I4 L5))))) : ax_CI (d + 1) 94 [ax_vr 8 0 3, ax_vi a0, ax_vi a1, ax_vi a2, ax_vi a3, ax_vi a4] I L K := ax_vcI ax_c94 1 [some (ax_vr 8 0 3), some (ax_vi a0), some (ax_vi a1), some (ax_vi a2), some (ax_vi a3), some (ax_vi a4)] (fun _ => false) 53 rfl rfl rfl rfl h
theorem vc_X1_becomeAside {d : Nat} {o : Nat} {o0 : Nat} {I : ax_I} {L : ax_J} {K : ax_I → ax_J → Prop} (h :
  ax_AK d 6 (2, [some (ax_vr 1 0 o), some (ax_vr 1 0 o0), some (ax_vi 0)], [], ax_mm I L) (ax_kv K)) : ax_CV (d + 1) 6 [ax_vr 1 0 o, ax_vr 1 0 o0] I L K := ax_vcV ax_c6 0 [some (ax_vr 1 0 o), some (ax_vr 1 0 o0), none] (fun pc => Nat.beq pc 2) 4 rfl rfl rfl rfl h
theorem vc_X1_becomeAside_2 {d : Nat} {o : Nat} {o0 : Nat} {b2 : Int32} {I : ax_I} {L : ax_J} {K : ax_I → ax_J → Prop} (h :
  (decide ((6 : Int32) ≤ b2) = true →
    (decide ((0 : Int32) ≤ 0) && decide ((0 : Int32) ≤ 0) && decide ((0 : Int32) ≤ 6) && Nat.ble ((0 : Int32).toNatClampNeg + (6 : Int32).toNatClampNeg) 6 && Nat.ble ((0 : Int32).toNatClampNeg + (6 : Int32).toNatClampNeg) 6) = true ∧
    (decide ((0 : Int32) ≤ 0) && decide ((0 : Int32) ≤ 0) && decide ((0 : Int32) ≤ 6) && Nat.ble ((0 : Int32).toNatClampNeg + (6 : Int32).toNatClampNeg) 6 && Nat.ble ((0 : Int32).toNatClampNeg + (6 : Int32).toNatClampNeg) 6) = true ∧
    (decide ((0 : Int32) ≤ 0) && decide ((0 : Int32) ≤ 0) && decide ((0 : Int32) ≤ 6) && Nat.ble ((0 : Int32).toNatClampNeg + (6 : Int32).toNatClampNeg) 6 && Nat.ble ((0 : Int32).toNatClampNeg + (6 : Int32).toNatClampNeg) 6) = true ∧
    K (ax_ui (ax_uc (ax_uc (ax_uc I (o0 + 8) (o + 8) (0 : Int32).toNatClampNeg (0 : Int32).toNatClampNeg (6 : Int32).toNatClampNeg) (o0 + 9) (o + 9) (0 : Int32).toNatClampNeg (0 : Int32).toNatClampNeg (6 : Int32).toNatClampNeg) (o0 + 12) (o + 12) (0 : Int32).toNatClampNeg (0 : Int32).toNatClampNeg (6 : Int32).toNatClampNeg) o 6 ((ax_uc (ax_uc (ax_uc I (o0 + 8) (o + 8) (0 : Int32).toNatClampNeg (0 : Int32).toNatClampNeg (6 : Int32).toNatClampNeg) (o0 + 9) (o + 9) (0 : Int32).toNatClampNeg (0 : Int32).toNatClampNeg (6 : Int32).toNatClampNeg) (o0 + 12) (o + 12) (0 : Int32).toNatClampNeg (0 : Int32).toNatClampNeg (6 : Int32).toNatClampNeg) o0 6)) L) ∧
  (decide ((6 : Int32) ≤ b2) = false →
    ax_inb b2 6 = true ∧
    ax_inb b2 6 = true ∧
    (decide ((0 : Int32) ≤ 0) && decide ((0 : Int32) ≤ 0) && decide ((0 : Int32) ≤ 6) && Nat.ble ((0 : Int32).toNatClampNeg + (6 : Int32).toNatClampNeg) 6 && Nat.ble ((0 : Int32).toNatClampNeg + (6 : Int32).toNatClampNeg) 6) = true ∧
    ax_AK d 6 (2, [some (ax_vr 1 0 o), some (ax_vr 1 0 o0), some (ax_vi (b2 + 1))], [], ax_mm (ax_uc I ((o0 + 1) + (1 + b2.toNatClampNeg)) ((o + 1) + (1 + b2.toNatClampNeg)) (0 : Int32).toNatClampNeg (0 : Int32).toNatClampNeg (6 : Int32).toNatClampNeg) L) (ax_kv K))) : ax_AK d 6 (2, [some (ax_vr 1 0 o), some (ax_vr 1 0 o0), some (ax_vi b2)], [], ax_mm I L) (ax_kv K) := ax_vcL ax_c6 0 (fun pc => Nat.beq pc 2) 33 rfl rfl h
theorem vc_X6_sign {d : Nat} {I : ax_I} {L : ax_J} {K : Int32 → ax_I → ax_J → Prop} (h :
  (decide ((I 27 4) < (0 : Int32)) = true →
    K (-9) I L) ∧
  (decide ((I 27 4) < (0 : Int32)) = false →
    (decide ((I 27 3) ≤ (I 27 4)) = true →
      K (-9) I L) ∧
    (decide ((I 27 3) ≤ (I 27 4)) = false →
      (decide ((nI ((ax_shp (I 27 2).toNatClampNeg).2)) ≤ (I 27 4)) = true →
        K (-9) I L) ∧
      (decide ((nI ((ax_shp (I 27 2).toNatClampNeg).2)) ≤ (I 27 4)) = false →
        ax_inb (I 27 4) ((ax_shp (I 27 2).toNatClampNeg).2) = true ∧
        K (I ((I 27 2).toNatClampNeg) (I 27 4).toNatClampNeg) I L)))) : ax_CI (d + 1) 66 [ax_vr 6 0 27] I L K := ax_vcI ax_c66 1 [some (ax_vr 6 0 27)] (fun _ => false) 22 rfl rfl rfl rfl h
