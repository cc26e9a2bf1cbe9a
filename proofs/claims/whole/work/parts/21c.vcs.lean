set_option maxRecDepth 100000 in
set_option maxHeartbeats 8000000 in
theorem vc_X8_keep {d : Nat} {a0 : Int32} {I : ax_I} {L : ax_J} {K : Int32 → ax_I → ax_J → Prop} (h :
  ax_CI d 134 [ax_vi a0] I L (fun x3 I1 L2 =>
    ((!decide (x3 = (0 : Int32))) = true →
      ((!decide ((I1 6 0) = (0 : Int32))) = true →
        ax_inb a0 3 = true ∧
        ax_CV d 5 [ax_vr 1 0 (25 + (114 + 15 * a0.toNatClampNeg)), ax_vr 1 0 10] I1 L2 (fun I4 L5 =>
          (ax_inb a0 3 && ax_bit 1) = true ∧
          K ((ax_ui I4 26 a0.toNatClampNeg 1) 10 9) (ax_ui I4 26 a0.toNatClampNeg 1) L5)) ∧
      ((!decide ((I1 6 0) = (0 : Int32))) = false →
        K (-4) I1 L2)) ∧
    ((!decide (x3 = (0 : Int32))) = false →
      K (-1) I1 L2))) : ax_CI (d + 1) 110 [ax_vr 8 0 3, ax_vi a0] I L K := ax_vcI ax_c110 1 [some (ax_vr 8 0 3), some (ax_vi a0)] (fun _ => false) 24 rfl rfl rfl rfl h
set_option maxRecDepth 100000 in
set_option maxHeartbeats 8000000 in
theorem vc_X8_on {d : Nat} {a0 : Int32} {I : ax_I} {L : ax_J} {K : Int32 → ax_I → ax_J → Prop} (h :
  ax_CI d 134 [ax_vi a0] I L (fun x3 I1 L2 =>
    ((!decide (x3 = (0 : Int32))) = true →
      ax_inb a0 3 = true ∧
      ((!decide ((I1 26 a0.toNatClampNeg) = (0 : Int32))) = true →
        ax_inb a0 3 = true ∧
        ax_CV d 5 [ax_vr 1 0 10, ax_vr 1 0 (25 + (114 + 15 * a0.toNatClampNeg))] I1 L2 (fun I4 L5 =>
          K (I4 10 9) I4 L5)) ∧
      ((!decide ((I1 26 a0.toNatClampNeg) = (0 : Int32))) = false →
        ax_CI d 135 [ax_vr 8 0 3, ax_vi 1] I1 L2 (fun x9 I7 L8 =>
          K x9 I7 L8))) ∧
    ((!decide (x3 = (0 : Int32))) = false →
      K (-1) I1 L2))) : ax_CI (d + 1) 111 [ax_vr 8 0 3, ax_vi a0] I L K := ax_vcI ax_c111 1 [some (ax_vr 8 0 3), some (ax_vi a0)] (fun _ => false) 20 rfl rfl rfl rfl h
set_option maxRecDepth 100000 in
set_option maxHeartbeats 8000000 in
theorem vc_X8_best {d : Nat} {a0 : Int32} {I : ax_I} {L : ax_J} {K : Int32 → ax_I → ax_J → Prop} (h :
  ax_CI d 80 [ax_vr 7 0 6, ax_vi a0] I L (fun x3 I1 L2 =>
    ((!decide (x3 = (0 : Int32))) = true →
      ax_CV d 27 [ax_vr 2 0 48, ax_vr 7 0 6, ax_vr 1 0 10] I1 L2 (fun I4 L5 =>
        ax_CI d 28 [ax_vr 2 0 48, ax_vi a0] I4 L5 (fun x9 I7 L8 =>
          K x9 (ax_ui I7 3 13 (I7 48 3)) L8))) ∧
    ((!decide (x3 = (0 : Int32))) = false →
      K (-1) I1 L2))) : ax_CI (d + 1) 112 [ax_vr 8 0 3, ax_vi a0] I L K := ax_vcI ax_c112 1 [some (ax_vr 8 0 3), some (ax_vi a0), none] (fun _ => false) 25 rfl rfl rfl rfl h
set_option maxRecDepth 100000 in
set_option maxHeartbeats 8000000 in
theorem vc_X8_plays {d : Nat} {a0 : Int32} {a1 : Int32} {a2 : Int32} {I : ax_I} {L : ax_J} {K : Int32 → ax_I → ax_J → Prop} (h :
  ax_CI d 80 [ax_vr 7 0 6, ax_vi a0] I L (fun x3 I1 L2 =>
    (decide (x3 = (0 : Int32)) = true →
      K (-1) I1 L2) ∧
    (decide (x3 = (0 : Int32)) = false →
      (decide (a1 < (0 : Int32)) = true →
        K (-1) I1 L2) ∧
      (decide (a1 < (0 : Int32)) = false →
        (decide ((5 : Int32) < a1) = true →
          K (-1) I1 L2) ∧
        (decide ((5 : Int32) < a1) = false →
          ax_CI d 132 [ax_vi a2] I1 L2 (fun x6 I4 L5 =>
            ((!decide (x6 = (0 : Int32))) = true →
              ax_CV d 27 [ax_vr 2 0 48, ax_vr 7 0 6, ax_vr 1 0 10] I4 L5 (fun I7 L8 =>
                ax_inb a2 6 = true ∧
                ax_CI d 29 [ax_vr 2 0 48, ax_vi a0, ax_vi a1, ax_vr 4 40 (4 + (115 + 2 * a2.toNatClampNeg))] I7 L8 (fun x12 I10 L11 =>
                  K x12 I10 L11))) ∧
            ((!decide (x6 = (0 : Int32))) = false →
              K (-1) I4 L5))))))) : ax_CI (d + 1) 113 [ax_vr 8 0 3, ax_vi a0, ax_vi a1, ax_vi a2] I L K := ax_vcI ax_c113 1 [some (ax_vr 8 0 3), some (ax_vi a0), some (ax_vi a1), some (ax_vi a2)] (fun _ => false) 31 rfl rfl rfl rfl h
set_option maxRecDepth 100000 in
set_option maxHeartbeats 8000000 in
theorem vc_X8_sure {d : Nat} {a0 : Int32} {a1 : Int32} {I : ax_I} {L : ax_J} {K : Int32 → ax_I → ax_J → Prop} (h :
  ax_CI d 80 [ax_vr 7 0 6, ax_vi a0] I L (fun x3 I1 L2 =>
    (decide (x3 = (0 : Int32)) = true →
      K (-1) I1 L2) ∧
    (decide (x3 = (0 : Int32)) = false →
      (decide (a1 < (0 : Int32)) = true →
        K (-1) I1 L2) ∧
      (decide (a1 < (0 : Int32)) = false →
        (decide (a1 ≤ (5 : Int32)) = true →
          ax_CV d 27 [ax_vr 2 0 48, ax_vr 7 0 6, ax_vr 1 0 10] I1 L2 (fun I4 L5 =>
            ax_CI d 35 [ax_vr 2 0 48, ax_vi a0, ax_vi a1] I4 L5 (fun x9 I7 L8 =>
              K x9 I7 L8))) ∧
        (decide (a1 ≤ (5 : Int32)) = false →
          K (-1) I1 L2))))) : ax_CI (d + 1) 114 [ax_vr 8 0 3, ax_vi a0, ax_vi a1] I L K := ax_vcI ax_c114 1 [some (ax_vr 8 0 3), some (ax_vi a0), some (ax_vi a1)] (fun _ => false) 24 rfl rfl rfl rfl h
set_option maxRecDepth 100000 in
set_option maxHeartbeats 8000000 in
theorem vc_X8_fewest {d : Nat} {a0 : Int32} {a1 : Int32} {a2 : Int32} {I : ax_I} {L : ax_J} {K : Int32 → ax_I → ax_J → Prop} (h :
  ax_CI d 80 [ax_vr 7 0 6, ax_vi a0] I L (fun x3 I1 L2 =>
    (decide (x3 = (0 : Int32)) = true →
      K (-1) I1 L2) ∧
    (decide (x3 = (0 : Int32)) = false →
      ax_CI d 81 [ax_vr 7 0 6, ax_vi a1] I1 L2 (fun x6 I4 L5 =>
        (decide (x6 = (0 : Int32)) = true →
          K (-1) I4 L5) ∧
        (decide (x6 = (0 : Int32)) = false →
          ax_CI d 132 [ax_vi a2] I4 L5 (fun x9 I7 L8 =>
            ((!decide (x9 = (0 : Int32))) = true →
              ax_CV d 27 [ax_vr 2 0 48, ax_vr 7 0 6, ax_vr 1 0 10] I7 L8 (fun I10 L11 =>
                ax_inb a2 6 = true ∧
                ax_CI d 37 [ax_vr 2 0 48, ax_vi a0, ax_vi a1, ax_vr 4 40 (4 + (115 + 2 * a2.toNatClampNeg))] I10 L11 (fun x15 I13 L14 =>
                  K x15 I13 L14))) ∧
            ((!decide (x9 = (0 : Int32))) = false →
              K (-1) I7 L8))))))) : ax_CI (d + 1) 115 [ax_vr 8 0 3, ax_vi a0, ax_vi a1, ax_vi a2] I L K := ax_vcI ax_c115 1 [some (ax_vr 8 0 3), some (ax_vi a0), some (ax_vi a1), some (ax_vi a2)] (fun _ => false) 31 rfl rfl rfl rfl h
set_option maxRecDepth 100000 in
set_option maxHeartbeats 8000000 in
theorem vc_X8_match {d : Nat} {a0 : Int32} {I : ax_I} {L : ax_J} {K : Int32 → ax_I → ax_J → Prop} (h :
  ax_CI d 132 [ax_vi a0] I L (fun x3 I1 L2 =>
    ((!decide (x3 = (0 : Int32))) = true →
      ((!decide ((I1 6 0) = (0 : Int32))) = true →
        ax_inb a0 6 = true ∧
        ax_CI d 45 [ax_vr 3 0 107, ax_vr 7 0 6, ax_vr 1 0 10, ax_vr 4 40 (4 + (115 + 2 * a0.toNatClampNeg))] I1 L2 (fun x6 I4 L5 =>
          K x6 I4 L5)) ∧
      ((!decide ((I1 6 0) = (0 : Int32))) = false →
        K (-4) I1 L2)) ∧
    ((!decide (x3 = (0 : Int32))) = false →
      K (-1) I1 L2))) : ax_CI (d + 1) 116 [ax_vr 8 0 3, ax_vi a0] I L K := ax_vcI ax_c116 1 [some (ax_vr 8 0 3), some (ax_vi a0)] (fun _ => false) 20 rfl rfl rfl rfl h
set_option maxRecDepth 100000 in
set_option maxHeartbeats 8000000 in
theorem vc_X8_safe {d : Nat} {a0 : Int32} {a1 : Int32} {I : ax_I} {L : ax_J} {K : Int32 → ax_I → ax_J → Prop} (h :
  ax_CI d 80 [ax_vr 7 0 6, ax_vi a0] I L (fun x3 I1 L2 =>
    (decide (x3 = (0 : Int32)) = true →
      K (-1) I1 L2) ∧
    (decide (x3 = (0 : Int32)) = false →
      ax_CI d 80 [ax_vr 7 0 6, ax_vi a1] I1 L2 (fun x6 I4 L5 =>
        (decide (x6 = (0 : Int32)) = true →
          K (-1) I4 L5) ∧
        (decide (x6 = (0 : Int32)) = false →
          ((!decide (a0 = a1)) = true →
            ax_CI d 87 [ax_vr 7 0 6, ax_vi a0] I4 L5 (fun x9 I7 L8 =>
              ((!decide (((x9 >>> (a1 &&& 31)) &&& 1) = (0 : Int32))) = true →
                ax_CI d 16 [ax_vr 1 0 10, ax_vi a1] I7 L8 (fun x12 I10 L11 =>
                  ax_AK d 117 (61, [some (ax_vr 8 0 3), some (ax_vi a0), some (ax_vi a1), some (ax_vi x9), some (ax_vi x12), some (ax_vi 0), none], [], ax_mm I10 L11) (ax_ki K))) ∧
              ((!decide (((x9 >>> (a1 &&& 31)) &&& 1) = (0 : Int32))) = false →
                K 0 I7 L8))) ∧
          ((!decide (a0 = a1)) = false →
            K (-1) I4 L5)))))) : ax_CI (d + 1) 117 [ax_vr 8 0 3, ax_vi a0, ax_vi a1] I L K := ax_vcI ax_c117 1 [some (ax_vr 8 0 3), some (ax_vi a0), some (ax_vi a1), none, none, none, none] (fun pc => Nat.beq pc 61) 33 rfl rfl rfl rfl h
set_option maxRecDepth 100000 in
set_option maxHeartbeats 8000000 in
theorem vc_X8_safe_61 {d : Nat} {b2 : Int32} {b3 : Int32} {b4 : Int32} {b5 : Int32} {z1 : Option ax_V} {z6 : Option ax_V} {I : ax_I} {L : ax_J} {K : Int32 → ax_I → ax_J → Prop} (h :
  (decide ((I 6 1) ≤ b5) = true →
    K b4 I L) ∧
  (decide ((I 6 1) ≤ b5) = false →
    ax_CI d 17 [ax_vr 1 0 10, ax_vi b5] I L (fun x3 I1 L2 =>
      (decide (((x3 &&& b3) &&& (((1 : Int32) <<< (b2 &&& 31)) ^^^ (-1))) = (0 : Int32)) = true →
        ax_inb b5 6 = true ∧
        ((!decide ((I1 18 b5.toNatClampNeg) = (-9 : Int32))) = true →
          ax_AK d 117 (61, [some (ax_vr 8 0 3), none, some (ax_vi b2), some (ax_vi b3), some (ax_vi (b4 &&& (((1 : Int32) <<< (b5 &&& 31)) ^^^ (-1)))), some (ax_vi (b5 + 1)), some (ax_vi 0)], [], ax_mm I1 L2) (ax_ki K)) ∧
        ((!decide ((I1 18 b5.toNatClampNeg) = (-9 : Int32))) = false →
          (decide ((0 : Int32) = (0 : Int32)) = true →
            ax_AK d 117 (61, [some (ax_vr 8 0 3), none, some (ax_vi b2), some (ax_vi b3), some (ax_vi b4), some (ax_vi (b5 + 1)), some (ax_vi 0)], [], ax_mm I1 L2) (ax_ki K)) ∧
          (decide ((0 : Int32) = (0 : Int32)) = false →
            ax_AK d 117 (61, [some (ax_vr 8 0 3), none, some (ax_vi b2), some (ax_vi b3), some (ax_vi (b4 &&& (((1 : Int32) <<< (b5 &&& 31)) ^^^ (-1)))), some (ax_vi (b5 + 1)), some (ax_vi 0)], [], ax_mm I1 L2) (ax_ki K)))) ∧
      (decide (((x3 &&& b3) &&& (((1 : Int32) <<< (b2 &&& 31)) ^^^ (-1))) = (0 : Int32)) = false →
        ax_inb b5 6 = true ∧
        ((!decide ((I1 18 b5.toNatClampNeg) = (-9 : Int32))) = true →
          ax_AK d 117 (61, [some (ax_vr 8 0 3), none, some (ax_vi b2), some (ax_vi b3), some (ax_vi (b4 &&& (((1 : Int32) <<< (b5 &&& 31)) ^^^ (-1)))), some (ax_vi (b5 + 1)), some (ax_vi 1)], [], ax_mm I1 L2) (ax_ki K)) ∧
        ((!decide ((I1 18 b5.toNatClampNeg) = (-9 : Int32))) = false →
          (decide ((1 : Int32) = (0 : Int32)) = true →
            ax_AK d 117 (61, [some (ax_vr 8 0 3), none, some (ax_vi b2), some (ax_vi b3), some (ax_vi b4), some (ax_vi (b5 + 1)), some (ax_vi 1)], [], ax_mm I1 L2) (ax_ki K)) ∧
          (decide ((1 : Int32) = (0 : Int32)) = false →
            ax_AK d 117 (61, [some (ax_vr 8 0 3), none, some (ax_vi b2), some (ax_vi b3), some (ax_vi (b4 &&& (((1 : Int32) <<< (b5 &&& 31)) ^^^ (-1)))), some (ax_vi (b5 + 1)), some (ax_vi 1)], [], ax_mm I1 L2) (ax_ki K))))))) : ax_AK d 117 (61, [some (ax_vr 8 0 3), z1, some (ax_vi b2), some (ax_vi b3), some (ax_vi b4), some (ax_vi b5), z6], [], ax_mm I L) (ax_ki K) := ax_vcL ax_c117 1 (fun pc => Nat.beq pc 61) 42 rfl rfl h
set_option maxRecDepth 100000 in
set_option maxHeartbeats 8000000 in
theorem vc_X8_price {d : Nat} {a0 : Int32} {I : ax_I} {L : ax_J} {K : Int32 → ax_I → ax_J → Prop} (h :
  ax_CI d 81 [ax_vr 7 0 6, ax_vi a0] I L (fun x3 I1 L2 =>
    ((!decide (x3 = (0 : Int32))) = true →
      ax_CI d 7 [ax_vr 1 0 10, ax_vi a0] I1 L2 (fun x6 I4 L5 =>
        ((!decide (x6 = (0 : Int32))) = true →
          ax_AK d 118 (35, [some (ax_vr 8 0 3), some (ax_vi a0), some (ax_vi 0), some (ax_vi (-9)), some (ax_vi 0)], [], ax_mm I4 L5) (ax_ki K)) ∧
        ((!decide (x6 = (0 : Int32))) = false →
          K (-9) I4 L5))) ∧
    ((!decide (x3 = (0 : Int32))) = false →
      K (-1) I1 L2))) : ax_CI (d + 1) 118 [ax_vr 8 0 3, ax_vi a0] I L K := ax_vcI ax_c118 1 [some (ax_vr 8 0 3), some (ax_vi a0), none, none, none] (fun pc => Nat.beq pc 35) 18 rfl rfl rfl rfl h
set_option maxRecDepth 100000 in
set_option maxHeartbeats 8000000 in
theorem vc_X8_price_35 {d : Nat} {b1 : Int32} {b2 : Int32} {b3 : Int32} {b4 : Int32} {I : ax_I} {L : ax_J} {K : Int32 → ax_I → ax_J → Prop} (h :
  (decide ((I 6 0) ≤ b4) = true →
    ((!decide (b3 = (-9 : Int32))) = true →
      K b2 (ax_ui I 3 13 b3) L) ∧
    ((!decide (b3 = (-9 : Int32))) = false →
      K (-9) I L)) ∧
  (decide ((I 6 0) ≤ b4) = false →
    ax_inb b1 6 = true ∧
    (decide (b4 = (I 18 b1.toNatClampNeg)) = true →
      ax_AK d 118 (35, [some (ax_vr 8 0 3), some (ax_vi b1), some (ax_vi b2), some (ax_vi b3), some (ax_vi (b4 + 1))], [], ax_mm I L) (ax_ki K)) ∧
    (decide (b4 = (I 18 b1.toNatClampNeg)) = false →
      ax_inb b4 6 = true ∧
      ax_inb b1 6 = true ∧
      (decide ((I (11 + (1 + b4.toNatClampNeg)) b1.toNatClampNeg) ≤ b2) = true →
        ax_AK d 118 (35, [some (ax_vr 8 0 3), some (ax_vi b1), some (ax_vi b2), some (ax_vi b3), some (ax_vi (b4 + 1))], [], ax_mm I L) (ax_ki K)) ∧
      (decide ((I (11 + (1 + b4.toNatClampNeg)) b1.toNatClampNeg) ≤ b2) = false →
        ax_inb b4 6 = true ∧
        ax_inb b1 6 = true ∧
        ax_AK d 118 (35, [some (ax_vr 8 0 3), some (ax_vi b1), some (ax_vi (I (11 + (1 + b4.toNatClampNeg)) b1.toNatClampNeg)), some (ax_vi b4), some (ax_vi (b4 + 1))], [], ax_mm I L) (ax_ki K))))) : ax_AK d 118 (35, [some (ax_vr 8 0 3), some (ax_vi b1), some (ax_vi b2), some (ax_vi b3), some (ax_vi b4)], [], ax_mm I L) (ax_ki K) := ax_vcL ax_c118 1 (fun pc => Nat.beq pc 35) 35 rfl rfl h
set_option maxRecDepth 100000 in
set_option maxHeartbeats 8000000 in
theorem vc_X8_rounds {d : Nat} {I : ax_I} {L : ax_J} {K : Int32 → ax_I → ax_J → Prop} (h :
  ax_CI d 1 [ax_vr 0 0 116, ax_vr 7 0 6] I L (fun x3 I1 L2 =>
    K x3 (ax_ui I1 3 13 ((((1 : Int32) <<< ((I1 6 1) &&& 31)) - 1) &&& ((I1 116 1) ^^^ (-1)))) L2)) : ax_CI (d + 1) 119 [ax_vr 8 0 3] I L K := ax_vcI ax_c119 1 [some (ax_vr 8 0 3), none] (fun _ => false) 24 rfl rfl rfl rfl h
set_option maxRecDepth 100000 in
set_option maxHeartbeats 8000000 in
theorem vc_X8_said {d : Nat} {a0 : Int32} {a1 : Int32} {I : ax_I} {L : ax_J} {K : Int32 → ax_I → ax_J → Prop} (h :
  ax_CI d 132 [ax_vi a0] I L (fun x3 I1 L2 =>
    (decide (x3 = (0 : Int32)) = true →
      K (-1) I1 L2) ∧
    (decide (x3 = (0 : Int32)) = false →
      ax_CI d 132 [ax_vi a1] I1 L2 (fun x6 I4 L5 =>
        ((!decide (x6 = (0 : Int32))) = true →
          ((!decide ((I4 6 0) = (0 : Int32))) = true →
            ax_inb a0 6 = true ∧
            ax_CI d 138 [ax_vr 8 0 3, ax_vr 4 40 (4 + (115 + 2 * a0.toNatClampNeg))] I4 L5 (fun x9 I7 L8 =>
              (decide (x9 = (0 : Int32)) = true →
                ax_inb a0 6 = true ∧
                ax_CV d 58 [ax_vr 5 0 69, ax_vr 7 0 6, ax_vr 1 0 10, ax_vr 4 40 (4 + (115 + 2 * a0.toNatClampNeg))] I7 L8 (fun I10 L11 =>
                  ax_inb a1 6 = true ∧
                  ax_CI d 59 [ax_vr 5 0 69, ax_vr 4 40 (4 + (115 + 2 * a1.toNatClampNeg))] I10 L11 (fun x15 I13 L14 =>
                    K x15 I13 L14))) ∧
              (decide (x9 = (0 : Int32)) = false →
                K x9 I7 L8))) ∧
          ((!decide ((I4 6 0) = (0 : Int32))) = false →
            K (-4) I4 L5)) ∧
        ((!decide (x6 = (0 : Int32))) = false →
          K (-1) I4 L5))))) : ax_CI (d + 1) 120 [ax_vr 8 0 3, ax_vi a0, ax_vi a1] I L K := ax_vcI ax_c120 1 [some (ax_vr 8 0 3), some (ax_vi a0), some (ax_vi a1), none] (fun _ => false) 39 rfl rfl rfl rfl h
set_option maxRecDepth 100000 in
set_option maxHeartbeats 8000000 in
theorem vc_X8_firsts {d : Nat} {a0 : Int32} {a1 : Int32} {I : ax_I} {L : ax_J} {K : Int32 → ax_I → ax_J → Prop} (h :
  ax_CI d 132 [ax_vi a1] I L (fun x3 I1 L2 =>
    ((!decide (x3 = (0 : Int32))) = true →
      ((!decide ((I1 6 0) = (0 : Int32))) = true →
        ax_CI d 81 [ax_vr 7 0 6, ax_vi a0] I1 L2 (fun x6 I4 L5 =>
          ((!decide (x6 = (0 : Int32))) = true →
            ax_inb a1 6 = true ∧
            ax_CI d 138 [ax_vr 8 0 3, ax_vr 4 40 (4 + (115 + 2 * a1.toNatClampNeg))] I4 L5 (fun x9 I7 L8 =>
              (decide (x9 = (0 : Int32)) = true →
                ax_inb a1 6 = true ∧
                ax_CV d 58 [ax_vr 5 0 69, ax_vr 7 0 6, ax_vr 1 0 10, ax_vr 4 40 (4 + (115 + 2 * a1.toNatClampNeg))] I7 L8 (fun I10 L11 =>
                  ax_CI d 60 [ax_vr 5 0 69, ax_vi a0] I10 L11 (fun x15 I13 L14 =>
                    K x15 I13 L14))) ∧
              (decide (x9 = (0 : Int32)) = false →
                K x9 I7 L8))) ∧
          ((!decide (x6 = (0 : Int32))) = false →
            K (-1) I4 L5))) ∧
      ((!decide ((I1 6 0) = (0 : Int32))) = false →
        K (-4) I1 L2)) ∧
    ((!decide (x3 = (0 : Int32))) = false →
      K (-1) I1 L2))) : ax_CI (d + 1) 121 [ax_vr 8 0 3, ax_vi a0, ax_vi a1] I L K := ax_vcI ax_c121 1 [some (ax_vr 8 0 3), some (ax_vi a0), some (ax_vi a1), none] (fun _ => false) 38 rfl rfl rfl rfl h
set_option maxRecDepth 100000 in
set_option maxHeartbeats 8000000 in
theorem vc_X8_judge {d : Nat} {a0 : Int32} {I : ax_I} {L : ax_J} {K : Int32 → ax_I → ax_J → Prop} (h :
  ax_CI d 132 [ax_vi a0] I L (fun x3 I1 L2 =>
    ((!decide (x3 = (0 : Int32))) = true →
      ((!decide ((I1 6 0) = (0 : Int32))) = true →
        ax_inb a0 6 = true ∧
        ax_CI d 50 [ax_vr 4 40 (4 + (115 + 2 * a0.toNatClampNeg))] I1 L2 (fun x6 I4 L5 =>
          (decide (x6 = (0 : Int32)) = true →
            (decide ((I4 (4 + (115 + 2 * a0.toNatClampNeg)) 1) ≤ (20 : Int32)) = true →
              ax_AK d 122 (59, [some (ax_vr 8 0 3), some (ax_vi a0), some (ax_vr 4 40 (4 + (115 + 2 * a0.toNatClampNeg))), some (ax_vi 0)], [], ax_mm I4 L5) (ax_ki K)) ∧
            (decide ((I4 (4 + (115 + 2 * a0.toNatClampNeg)) 1) ≤ (20 : Int32)) = false →
              ax_CI d 135 [ax_vr 8 0 3, ax_vi 5] I4 L5 (fun x9 I7 L8 =>
                K x9 I7 L8))) ∧
          (decide (x6 = (0 : Int32)) = false →
            ax_CI d 135 [ax_vr 8 0 3, ax_vi 1] I4 L5 (fun x12 I10 L11 =>
              K x12 I10 L11)))) ∧
      ((!decide ((I1 6 0) = (0 : Int32))) = false →
        K (-4) I1 L2)) ∧
    ((!decide (x3 = (0 : Int32))) = false →
      K (-1) I1 L2))) : ax_CI (d + 1) 122 [ax_vr 8 0 3, ax_vi a0] I L K := ax_vcI ax_c122 1 [some (ax_vr 8 0 3), some (ax_vi a0), none, none] (fun pc => Nat.beq pc 59) 24 rfl rfl rfl rfl h
set_option maxRecDepth 100000 in
set_option maxHeartbeats 8000000 in
theorem vc_X8_judge_59 {d : Nat} {oo27 : Nat} {b3 : Int32} {z1 : Option ax_V} {I : ax_I} {L : ax_J} {K : Int32 → ax_I → ax_J → Prop} (h :
  (decide ((I oo27 1) ≤ b3) = true →
    ax_CV d 27 [ax_vr 2 0 48, ax_vr 7 0 6, ax_vr 1 0 10] I L (fun I1 L2 =>
      ax_CI d 40 [ax_vr 2 0 48, ax_vr 4 40 oo27] I1 L2 (fun x6 I4 L5 =>
        K x6 (ax_ui I4 3 13 (I4 48 4)) L5))) ∧
  (decide ((I oo27 1) ≤ b3) = false →
    ax_inb b3 40 = true ∧
    ax_CI d 82 [ax_vr 7 0 6, ax_vi (I (oo27 + 1) b3.toNatClampNeg)] I L (fun x9 I7 L8 =>
      ((!decide (x9 = (0 : Int32))) = true →
        ax_AK d 122 (59, [some (ax_vr 8 0 3), none, some (ax_vr 4 40 oo27), some (ax_vi (b3 + 1))], [], ax_mm I7 L8) (ax_ki K)) ∧
      ((!decide (x9 = (0 : Int32))) = false →
        ax_CI d 135 [ax_vr 8 0 3, ax_vi 3] I7 L8 (fun x12 I10 L11 =>
          K x12 I10 L11))))) : ax_AK d 122 (59, [some (ax_vr 8 0 3), z1, some (ax_vr 4 40 oo27), some (ax_vi b3)], [], ax_mm I L) (ax_ki K) := ax_vcL ax_c122 1 (fun pc => Nat.beq pc 59) 24 rfl rfl h
set_option maxRecDepth 100000 in
set_option maxHeartbeats 8000000 in
theorem vc_X8_odds {d : Nat} {a0 : Int32} {a1 : Int32} {a2 : Int32} {I : ax_I} {L : ax_J} {K : Int32 → ax_I → ax_J → Prop} (h :
  ax_CI d 80 [ax_vr 7 0 6, ax_vi a0] I L (fun x3 I1 L2 =>
    (decide (x3 = (0 : Int32)) = true →
      K (-1) I1 L2) ∧
    (decide (x3 = (0 : Int32)) = false →
      ax_CI d 81 [ax_vr 7 0 6, ax_vi a1] I1 L2 (fun x6 I4 L5 =>
        (decide (x6 = (0 : Int32)) = true →
          K (-1) I4 L5) ∧
        (decide (x6 = (0 : Int32)) = false →
          (decide (a2 < (0 : Int32)) = true →
            K (-1) I4 L5) ∧
          (decide (a2 < (0 : Int32)) = false →
            (decide (a2 ≤ (3 : Int32)) = true →
              ax_CV d 27 [ax_vr 2 0 48, ax_vr 7 0 6, ax_vr 1 0 10] I4 L5 (fun I7 L8 =>
                ax_CL d 41 [ax_vr 2 0 48, ax_vi a2] I7 L8 (fun x12 I10 L11 =>
                  ax_CL d 42 [ax_vr 2 0 48, ax_vi a0, ax_vi a1, ax_vi a2] I10 L11 (fun x15 I13 L14 =>
                    ax_CL d 144 [ax_vl x12, ax_vl x15] I13 L14 (fun x18 I16 L17 =>
                      (decide ((lg_cmp x18 0) ≤ (0 : Int32)) = true →
                        K 1 I16 L17) ∧
                      (decide ((lg_cmp x18 0) ≤ (0 : Int32)) = false →
                        (!decide ((x18 : Int64) = 0)) = true ∧
                        (!decide ((x18 : Int64) = 0)) = true ∧
                        K 1 I16 (ax_ul (ax_ul L17 3 14 (x15 / x18)) 3 15 (x12 / x18)))))))) ∧
            (decide (a2 ≤ (3 : Int32)) = false →
              K (-1) I4 L5))))))) : ax_CI (d + 1) 123 [ax_vr 8 0 3, ax_vi a0, ax_vi a1, ax_vi a2] I L K := ax_vcI ax_c123 1 [some (ax_vr 8 0 3), some (ax_vi a0), some (ax_vi a1), some (ax_vi a2), none, none, none, none, none, none] (fun _ => false) 55 rfl rfl rfl rfl h
set_option maxRecDepth 100000 in
set_option maxHeartbeats 8000000 in
theorem vc_X8_lots {d : Nat} {a0 : Int32} {a1 : Int32} {I : ax_I} {L : ax_J} {K : Int32 → ax_I → ax_J → Prop} (h :
  (decide (a0 < (1 : Int32)) = true →
    K (-1) I L) ∧
  (decide (a0 < (1 : Int32)) = false →
    (decide ((20 : Int32) < a0) = true →
      K (-1) I L) ∧
    (decide ((20 : Int32) < a0) = false →
      (decide (a1 < (1 : Int32)) = true →
        K (-1) I L) ∧
      (decide (a1 < (1 : Int32)) = false →
        (decide ((lg_cmp a1.toInt64 2147483647) < (0 : Int32)) = true →
          (decide ((I 6 0) = (0 : Int32)) = true →
            K (-4) I L) ∧
          (decide ((I 6 0) = (0 : Int32)) = false →
            ((!decide ((I 6 1) = (0 : Int32))) = true →
              (decide (((I 10 9) + a0) ≤ (40 : Int32)) = true →
                ax_AK d 124 (76, [some (ax_vr 8 0 3), some (ax_vi a0), some (ax_vi a1), some (ax_vi 0), some (ax_vl a1.toInt64), none, some (ax_vi 0), none, none], [], ax_mm I L) (ax_ki K)) ∧
              (decide (((I 10 9) + a0) ≤ (40 : Int32)) = false →
                K (-2) I L)) ∧
            ((!decide ((I 6 1) = (0 : Int32))) = false →
              K (-4) I L))) ∧
        (decide ((lg_cmp a1.toInt64 2147483647) < (0 : Int32)) = false →
          K (-1) I L))))) : ax_CI (d + 1) 124 [ax_vr 8 0 3, ax_vi a0, ax_vi a1] I L K := ax_vcI ax_c124 1 [some (ax_vr 8 0 3), some (ax_vi a0), some (ax_vi a1), none, none, none, none, none, none] (fun pc => Nat.beq pc 76) 38 rfl rfl rfl rfl h
set_option maxRecDepth 100000 in
set_option maxHeartbeats 8000000 in
theorem vc_X8_lots_76 {d : Nat} {b1 : Int32} {b3 : Int32} {b4 : Int64} {b6 : Int32} {z2 : Option ax_V} {z5 : Option ax_V} {z7 : Option ax_V} {z8 : Option ax_V} {I : ax_I} {L : ax_J} {K : Int32 → ax_I → ax_J → Prop} (h :
  (decide (b1 ≤ b6) = true →
    K b3 I L) ∧
  (decide (b1 ≤ b6) = false →
    (!decide ((2147483647 : Int64) = 0)) = true ∧
    (!decide (((I 6 0).toInt64 : Int64) = 0)) = true ∧
    (!decide ((64 : Int64) = 0)) = true ∧
    (!decide (((I 6 1).toInt64 : Int64) = 0)) = true ∧
    ax_CI d 139 [ax_vr 8 0 3, ax_vi ((((48271 * b4) - (48271 * b4) / 2147483647 * 2147483647) - ((48271 * b4) - (48271 * b4) / 2147483647 * 2147483647) / ((I 6 0).toInt64) * ((I 6 0).toInt64)).toInt32), ax_vi (((((48271 * b4) - (48271 * b4) / 2147483647 * 2147483647) / 64) - (((48271 * b4) - (48271 * b4) / 2147483647 * 2147483647) / 64) / ((I 6 1).toInt64) * ((I 6 1).toInt64)).toInt32)] I L (fun x3 I1 L2 =>
      (decide (x3 = (0 : Int32)) = true →
        ax_AK d 124 (76, [some (ax_vr 8 0 3), some (ax_vi b1), none, some (ax_vi b3), some (ax_vl ((48271 * b4) - (48271 * b4) / 2147483647 * 2147483647)), none, some (ax_vi (b6 + 1)), some (ax_vi ((((48271 * b4) - (48271 * b4) / 2147483647 * 2147483647) - ((48271 * b4) - (48271 * b4) / 2147483647 * 2147483647) / ((I 6 0).toInt64) * ((I 6 0).toInt64)).toInt32)), some (ax_vi (((((48271 * b4) - (48271 * b4) / 2147483647 * 2147483647) / 64) - (((48271 * b4) - (48271 * b4) / 2147483647 * 2147483647) / 64) / ((I 6 1).toInt64) * ((I 6 1).toInt64)).toInt32))], [], ax_mm I1 L2) (ax_ki K)) ∧
      (decide (x3 = (0 : Int32)) = false →
        ax_AK d 124 (76, [some (ax_vr 8 0 3), some (ax_vi b1), none, some (ax_vi (b3 + 1)), some (ax_vl ((48271 * b4) - (48271 * b4) / 2147483647 * 2147483647)), none, some (ax_vi (b6 + 1)), some (ax_vi ((((48271 * b4) - (48271 * b4) / 2147483647 * 2147483647) - ((48271 * b4) - (48271 * b4) / 2147483647 * 2147483647) / ((I 6 0).toInt64) * ((I 6 0).toInt64)).toInt32)), some (ax_vi (((((48271 * b4) - (48271 * b4) / 2147483647 * 2147483647) / 64) - (((48271 * b4) - (48271 * b4) / 2147483647 * 2147483647) / 64) / ((I 6 1).toInt64) * ((I 6 1).toInt64)).toInt32))], [], ax_mm I1 L2) (ax_ki K))))) : ax_AK d 124 (76, [some (ax_vr 8 0 3), some (ax_vi b1), z2, some (ax_vi b3), some (ax_vl b4), z5, some (ax_vi b6), z7, z8], [], ax_mm I L) (ax_ki K) := ax_vcL ax_c124 1 (fun pc => Nat.beq pc 76) 37 rfl rfl h
set_option maxRecDepth 100000 in
set_option maxHeartbeats 8000000 in
theorem vc_X8_asked {d : Nat} {I : ax_I} {L : ax_J} {K : Int32 → ax_I → ax_J → Prop} (h :
  K (I 3 13) I L) : ax_CI (d + 1) 125 [ax_vr 8 0 3] I L K := ax_vcI ax_c125 1 [some (ax_vr 8 0 3)] (fun _ => false) 4 rfl rfl rfl rfl h
set_option maxRecDepth 100000 in
set_option maxHeartbeats 8000000 in
theorem vc_X8_upper {d : Nat} {I : ax_I} {L : ax_J} {K : Int64 → ax_I → ax_J → Prop} (h :
  K (L 3 14) I L) : ax_CL (d + 1) 126 [ax_vr 8 0 3] I L K := ax_vcJ ax_c126 2 [some (ax_vr 8 0 3)] (fun _ => false) 4 rfl rfl rfl rfl h
set_option maxRecDepth 100000 in
set_option maxHeartbeats 8000000 in
theorem vc_X8_lower {d : Nat} {I : ax_I} {L : ax_J} {K : Int64 → ax_I → ax_J → Prop} (h :
  K (L 3 15) I L) : ax_CL (d + 1) 127 [ax_vr 8 0 3] I L K := ax_vcJ ax_c127 2 [some (ax_vr 8 0 3)] (fun _ => false) 4 rfl rfl rfl rfl h
set_option maxRecDepth 100000 in
set_option maxHeartbeats 8000000 in
theorem vc_X8_count {d : Nat} {a0 : Int32} {I : ax_I} {L : ax_J} {K : Int32 → ax_I → ax_J → Prop} (h :
  (decide (a0 = 0) = true →
    K (I 6 0) I L) ∧
  (decide (a0 = 0) = false →
  (decide (a0 = 1) = true →
    K (I 6 1) I L) ∧
  (decide (a0 = 1) = false →
  (decide (a0 = 2) = true →
    K (I 10 9) I L) ∧
  (decide (a0 = 2) = false →
  (decide (a0 = 3) = true →
    K (I 10 6) I L) ∧
  (decide (a0 = 3) = false →
  (decide (a0 = 4) = true →
    ax_CI d 13 [ax_vr 1 0 10] I L (fun x3 I1 L2 =>
      K x3 I1 L2)) ∧
  (decide (a0 = 4) = false →
  (decide (a0 = 5) = true →
    ax_CI d 85 [ax_vr 7 0 6, ax_vi 1] I L (fun x6 I4 L5 =>
      ax_CI d 243 [ax_vi x6] I4 L5 (fun x9 I7 L8 =>
        K x9 I7 L8))) ∧
  (decide (a0 = 5) = false →
  (decide (a0 = 6) = true →
    ax_CI d 142 [ax_vr 13 6 4] I L (fun x12 I10 L11 =>
      K x12 I10 L11)) ∧
  (decide (a0 = 6) = false →
  (decide (a0 = 7) = true →
    ax_CI d 142 [ax_vr 14 4 5] I L (fun x15 I13 L14 =>
      K x15 I13 L14)) ∧
  (decide (a0 = 7) = false →
  (decide (a0 = 8) = true →
    ax_CI d 143 [ax_vr 8 0 3] I L (fun x18 I16 L17 =>
      K x18 I16 L17)) ∧
  (decide (a0 = 8) = false →
    K (-1) I L)))))))))) : ax_CI (d + 1) 128 [ax_vr 8 0 3, ax_vi a0] I L K := ax_vcI ax_c128 1 [some (ax_vr 8 0 3), some (ax_vi a0)] (fun _ => false) 10 rfl rfl rfl rfl h
set_option maxRecDepth 100000 in
set_option maxHeartbeats 8000000 in
theorem vc_X8_finding {d : Nat} {I : ax_I} {L : ax_J} {K : Int32 → ax_I → ax_J → Prop} (h :
  K (I 3 12) I L) : ax_CI (d + 1) 129 [ax_vr 8 0 3] I L K := ax_vcI ax_c129 1 [some (ax_vr 8 0 3)] (fun _ => false) 4 rfl rfl rfl rfl h
set_option maxRecDepth 100000 in
set_option maxHeartbeats 8000000 in
theorem vc_X8_findings {d : Nat} {a0 : Int32} {I : ax_I} {L : ax_J} {K : Int32 → ax_I → ax_J → Prop} (h :
  (decide (a0 < (1 : Int32)) = true →
    K (-1) I L) ∧
  (decide (a0 < (1 : Int32)) = false →
    (decide ((5 : Int32) < a0) = true →
      K (-1) I L) ∧
    (decide ((5 : Int32) < a0) = false →
      ax_inb a0 6 = true ∧
      K (I 118 a0.toNatClampNeg) I L))) : ax_CI (d + 1) 130 [ax_vr 8 0 3, ax_vi a0] I L K := ax_vcI ax_c130 1 [some (ax_vr 8 0 3), some (ax_vi a0)] (fun _ => false) 13 rfl rfl rfl rfl h
set_option maxRecDepth 100000 in
set_option maxHeartbeats 8000000 in
theorem vc_X8_digest {d : Nat} {I : ax_I} {L : ax_J} {K : Int64 → ax_I → ax_J → Prop} (h :
  ax_AK d 131 (6, [some (ax_vr 8 0 3), some (ax_vl 17), none, some (ax_vi 0)], [], ax_mm I L) (ax_kl K)) : ax_CL (d + 1) 131 [ax_vr 8 0 3] I L K := ax_vcJ ax_c131 2 [some (ax_vr 8 0 3), none, none, none] (fun pc => Nat.beq pc 6 || Nat.beq pc 37 || Nat.beq pc 71) 6 rfl rfl rfl rfl h
set_option maxRecDepth 100000 in
set_option maxHeartbeats 8000000 in
theorem vc_X8_digest_6 {d : Nat} {b1 : Int64} {b3 : Int32} {z2 : Option ax_V} {I : ax_I} {L : ax_J} {K : Int64 → ax_I → ax_J → Prop} (h :
  (decide ((8 : Int32) < b3) = true →
    ax_CL d 146 [ax_vr 8 0 3, ax_vl b1] I L (fun x3 I1 L2 =>
      ax_AK d 131 (37, [some (ax_vr 8 0 3), some (ax_vl x3), none, some (ax_vi 0)], [], ax_mm I1 L2) (ax_kl K))) ∧
  (decide ((8 : Int32) < b3) = false →
    ax_CI d 128 [ax_vr 8 0 3, ax_vi b3] I L (fun x6 I4 L5 =>
      ax_CL d 145 [ax_vl b1, ax_vl x6.toInt64] I4 L5 (fun x9 I7 L8 =>
        ax_AK d 131 (6, [some (ax_vr 8 0 3), some (ax_vl x9), none, some (ax_vi (b3 + 1))], [], ax_mm I7 L8) (ax_kl K))))) : ax_AK d 131 (6, [some (ax_vr 8 0 3), some (ax_vl b1), z2, some (ax_vi b3)], [], ax_mm I L) (ax_kl K) := ax_vcL ax_c131 2 (fun pc => Nat.beq pc 6 || Nat.beq pc 37 || Nat.beq pc 71) 14 rfl rfl h
set_option maxRecDepth 100000 in
set_option maxHeartbeats 8000000 in
theorem vc_X8_digest_37 {d : Nat} {b1 : Int64} {b3 : Int32} {z2 : Option ax_V} {I : ax_I} {L : ax_J} {K : Int64 → ax_I → ax_J → Prop} (h :
  (decide ((I 10 9) ≤ b3) = true →
    ax_AK d 131 (71, [some (ax_vr 8 0 3), some (ax_vl b1), none, some (ax_vi 0)], [], ax_mm I L) (ax_kl K)) ∧
  (decide ((I 10 9) ≤ b3) = false →
    ax_inb b3 40 = true ∧
    ax_CL d 145 [ax_vl b1, ax_vl ((I 23 b3.toNatClampNeg).toInt64)] I L (fun x3 I1 L2 =>
      ax_AK d 131 (37, [some (ax_vr 8 0 3), some (ax_vl x3), none, some (ax_vi (b3 + 1))], [], ax_mm I1 L2) (ax_kl K)))) : ax_AK d 131 (37, [some (ax_vr 8 0 3), some (ax_vl b1), z2, some (ax_vi b3)], [], ax_mm I L) (ax_kl K) := ax_vcL ax_c131 2 (fun pc => Nat.beq pc 6 || Nat.beq pc 37 || Nat.beq pc 71) 18 rfl rfl h
set_option maxRecDepth 100000 in
set_option maxHeartbeats 8000000 in
theorem vc_X8_digest_71 {d : Nat} {b1 : Int64} {b3 : Int32} {z2 : Option ax_V} {I : ax_I} {L : ax_J} {K : Int64 → ax_I → ax_J → Prop} (h :
  (decide ((3 : Int32) ≤ b3) = true →
    ax_CL d 147 [ax_vl b1, ax_vr 13 6 4] I L (fun x3 I1 L2 =>
      ax_CL d 147 [ax_vl x3, ax_vr 14 4 5] I1 L2 (fun x6 I4 L5 =>
        K x6 I4 L5))) ∧
  (decide ((3 : Int32) ≤ b3) = false →
    ax_inb b3 3 = true ∧
    (decide ((I 26 b3.toNatClampNeg) = (0 : Int32)) = true →
      ax_CL d 145 [ax_vl b1, ax_vl (-1)] I L (fun x9 I7 L8 =>
        ax_AK d 131 (71, [some (ax_vr 8 0 3), some (ax_vl x9), none, some (ax_vi (b3 + 1))], [], ax_mm I7 L8) (ax_kl K))) ∧
    (decide ((I 26 b3.toNatClampNeg) = (0 : Int32)) = false →
      ax_inb b3 3 = true ∧
      ax_CL d 145 [ax_vl b1, ax_vl ((I (25 + (114 + 15 * b3.toNatClampNeg)) 9).toInt64)] I L (fun x12 I10 L11 =>
        ax_AK d 131 (71, [some (ax_vr 8 0 3), some (ax_vl x12), none, some (ax_vi (b3 + 1))], [], ax_mm I10 L11) (ax_kl K))))) : ax_AK d 131 (71, [some (ax_vr 8 0 3), some (ax_vl b1), z2, some (ax_vi b3)], [], ax_mm I L) (ax_kl K) := ax_vcL ax_c131 2 (fun pc => Nat.beq pc 6 || Nat.beq pc 37 || Nat.beq pc 71) 22 rfl rfl h
set_option maxRecDepth 100000 in
set_option maxHeartbeats 8000000 in
theorem vc_X8_isRow {d : Nat} {a0 : Int32} {I : ax_I} {L : ax_J} {K : Int32 → ax_I → ax_J → Prop} (h :
  (decide (a0 < (0 : Int32)) = true →
    ax_bit 0 = true ∧ K 0 I L) ∧
  (decide (a0 < (0 : Int32)) = false →
    (decide ((6 : Int32) ≤ a0) = true →
      ax_bit 0 = true ∧ K 0 I L) ∧
    (decide ((6 : Int32) ≤ a0) = false →
      ax_bit 1 = true ∧ K 1 I L))) : ax_CI (d + 1) 132 [ax_vi a0] I L K := ax_vcI ax_c132 3 [some (ax_vi a0)] (fun _ => false) 9 rfl rfl rfl rfl h
set_option maxRecDepth 100000 in
set_option maxHeartbeats 8000000 in
theorem vc_X8_isText {d : Nat} {a0 : Int32} {I : ax_I} {L : ax_J} {K : Int32 → ax_I → ax_J → Prop} (h :
  (decide (a0 < (0 : Int32)) = true →
    ax_bit 0 = true ∧ K 0 I L) ∧
  (decide (a0 < (0 : Int32)) = false →
    (decide ((4 : Int32) ≤ a0) = true →
      ax_bit 0 = true ∧ K 0 I L) ∧
    (decide ((4 : Int32) ≤ a0) = false →
      ax_bit 1 = true ∧ K 1 I L))) : ax_CI (d + 1) 133 [ax_vi a0] I L K := ax_vcI ax_c133 3 [some (ax_vi a0)] (fun _ => false) 9 rfl rfl rfl rfl h
set_option maxRecDepth 100000 in
set_option maxHeartbeats 8000000 in
theorem vc_X8_isPlace {d : Nat} {a0 : Int32} {I : ax_I} {L : ax_J} {K : Int32 → ax_I → ax_J → Prop} (h :
  (decide (a0 < (0 : Int32)) = true →
    ax_bit 0 = true ∧ K 0 I L) ∧
  (decide (a0 < (0 : Int32)) = false →
    (decide ((3 : Int32) ≤ a0) = true →
      ax_bit 0 = true ∧ K 0 I L) ∧
    (decide ((3 : Int32) ≤ a0) = false →
      ax_bit 1 = true ∧ K 1 I L))) : ax_CI (d + 1) 134 [ax_vi a0] I L K := ax_vcI ax_c134 3 [some (ax_vi a0)] (fun _ => false) 9 rfl rfl rfl rfl h
set_option maxRecDepth 100000 in
set_option maxHeartbeats 8000000 in
theorem vc_X8_find {d : Nat} {a0 : Int32} {I : ax_I} {L : ax_J} {K : Int32 → ax_I → ax_J → Prop} (h :
  ax_inb a0 6 = true ∧
  ax_inb a0 6 = true ∧
  K (-3) (ax_ui (ax_ui I 3 12 a0) 118 a0.toNatClampNeg (((ax_ui I 3 12 a0) 118 a0.toNatClampNeg) + 1)) L) : ax_CI (d + 1) 135 [ax_vr 8 0 3, ax_vi a0] I L K := ax_vcI ax_c135 1 [some (ax_vr 8 0 3), some (ax_vi a0)] (fun _ => false) 14 rfl rfl rfl rfl h
set_option maxRecDepth 100000 in
set_option maxHeartbeats 8000000 in
theorem vc_X8_lineAnewR {d : Nat} {a1 : Int32} {a2 : Int32} {a3 : Int32} {I : ax_I} {L : ax_J} {K : Int32 → ax_I → ax_J → Prop} (h :
  (decide (a1 < (0 : Int32)) = true →
    K (-1) I L) ∧
  (decide (a1 < (0 : Int32)) = false →
    (decide ((nI 6) ≤ a1) = true →
      K (-1) I L) ∧
    (decide ((nI 6) ≤ a1) = false →
      ax_inb a1 6 = true ∧
      (decide (a2 ≤ (nI 40)) = true →
        (decide ((0 : Int32) ≤ a2) = true →
          ax_inb a1 6 = true ∧
          ax_CV d 54 [ax_vr 4 40 (4 + (115 + 2 * a1.toNatClampNeg)), ax_vi a2, ax_vi a3] I L (fun I1 L2 =>
            K a2 I1 L2)) ∧
        (decide ((0 : Int32) ≤ a2) = false →
          ax_CI d 135 [ax_vr 8 0 3, ax_vi 5] I L (fun x6 I4 L5 =>
            K x6 I4 L5))) ∧
      (decide (a2 ≤ (nI 40)) = false →
        K (-1) I L)))) : ax_CI (d + 1) 136 [ax_vr 8 0 3, ax_vr 13 6 4, ax_vi a1, ax_vi a2, ax_vi a3] I L K := ax_vcI ax_c136 1 [some (ax_vr 8 0 3), some (ax_vr 13 6 4), some (ax_vi a1), some (ax_vi a2), some (ax_vi a3)] (fun _ => false) 24 rfl rfl rfl rfl h
set_option maxRecDepth 100000 in
set_option maxHeartbeats 8000000 in
theorem vc_X8_lineAnewT {d : Nat} {a1 : Int32} {a2 : Int32} {a3 : Int32} {I : ax_I} {L : ax_J} {K : Int32 → ax_I → ax_J → Prop} (h :
  (decide (a1 < (0 : Int32)) = true →
    K (-1) I L) ∧
  (decide (a1 < (0 : Int32)) = false →
    (decide ((nI 4) ≤ a1) = true →
      K (-1) I L) ∧
    (decide ((nI 4) ≤ a1) = false →
      ax_inb a1 4 = true ∧
      (decide (a2 ≤ (nI 80)) = true →
        (decide ((0 : Int32) ≤ a2) = true →
          ax_inb a1 4 = true ∧
          ax_CV d 54 [ax_vr 4 80 (5 + (126 + 2 * a1.toNatClampNeg)), ax_vi a2, ax_vi a3] I L (fun I1 L2 =>
            K a2 I1 L2)) ∧
        (decide ((0 : Int32) ≤ a2) = false →
          ax_CI d 135 [ax_vr 8 0 3, ax_vi 5] I L (fun x6 I4 L5 =>
            K x6 I4 L5))) ∧
      (decide (a2 ≤ (nI 80)) = false →
        K (-1) I L)))) : ax_CI (d + 1) 136 [ax_vr 8 0 3, ax_vr 14 4 5, ax_vi a1, ax_vi a2, ax_vi a3] I L K := ax_vcI ax_c136 1 [some (ax_vr 8 0 3), some (ax_vr 14 4 5), some (ax_vi a1), some (ax_vi a2), some (ax_vi a3)] (fun _ => false) 24 rfl rfl rfl rfl h
set_option maxRecDepth 100000 in
set_option maxHeartbeats 8000000 in
theorem vc_X8_refusePlace {d : Nat} {n0 o0 : Nat} {a1 : Int32} {I : ax_I} {L : ax_J} {K : Int32 → ax_I → ax_J → Prop} (h :
  ax_CI d 50 [ax_vr 4 n0 o0] I L (fun x3 I1 L2 =>
    (decide (x3 = (0 : Int32)) = true →
      ax_CI d 51 [ax_vr 4 n0 o0, ax_vi a1] I1 L2 (fun x6 I4 L5 =>
        (decide (x6 = (0 : Int32)) = true →
          ax_CI d 135 [ax_vr 8 0 3, ax_vi 2] I4 L5 (fun x9 I7 L8 =>
            K x9 I7 L8)) ∧
        (decide (x6 = (0 : Int32)) = false →
          K 0 I4 L5))) ∧
    (decide (x3 = (0 : Int32)) = false →
      ax_CI d 135 [ax_vr 8 0 3, ax_vi 1] I1 L2 (fun x12 I10 L11 =>
        K x12 I10 L11)))) : ax_CI (d + 1) 137 [ax_vr 8 0 3, ax_vr 4 n0 o0, ax_vi a1] I L K := ax_vcI ax_c137 1 [some (ax_vr 8 0 3), some (ax_vr 4 n0 o0), some (ax_vi a1)] (fun _ => false) 12 rfl rfl rfl rfl h
set_option maxRecDepth 100000 in
set_option maxHeartbeats 8000000 in
theorem vc_X8_refuseSpeakers {d : Nat} {n0 o0 : Nat} {I : ax_I} {L : ax_J} {K : Int32 → ax_I → ax_J → Prop} (h :
  ax_CI d 50 [ax_vr 4 n0 o0] I L (fun x3 I1 L2 =>
    (decide (x3 = (0 : Int32)) = true →
      (decide ((I1 o0 1) ≤ (6 : Int32)) = true →
        ax_AK d 138 (30, [some (ax_vr 8 0 3), some (ax_vr 4 n0 o0), some (ax_vi 0)], [], ax_mm I1 L2) (ax_ki K)) ∧
      (decide ((I1 o0 1) ≤ (6 : Int32)) = false →
        ax_CI d 135 [ax_vr 8 0 3, ax_vi 5] I1 L2 (fun x6 I4 L5 =>
          K x6 I4 L5))) ∧
    (decide (x3 = (0 : Int32)) = false →
      ax_CI d 135 [ax_vr 8 0 3, ax_vi 1] I1 L2 (fun x9 I7 L8 =>
        K x9 I7 L8)))) : ax_CI (d + 1) 138 [ax_vr 8 0 3, ax_vr 4 n0 o0] I L K := ax_vcI ax_c138 1 [some (ax_vr 8 0 3), some (ax_vr 4 n0 o0), none] (fun pc => Nat.beq pc 30) 12 rfl rfl rfl rfl h
set_option maxRecDepth 100000 in
set_option maxHeartbeats 8000000 in
theorem vc_X8_refuseSpeakers_30 {d : Nat} {n0 : Nat} {o0 : Nat} {b2 : Int32} {I : ax_I} {L : ax_J} {K : Int32 → ax_I → ax_J → Prop} (h :
  (decide ((I o0 1) ≤ b2) = true →
    K 0 I L) ∧
  (decide ((I o0 1) ≤ b2) = false →
    ax_inb b2 n0 = true ∧
    ax_CI d 80 [ax_vr 7 0 6, ax_vi (I (o0 + 1) b2.toNatClampNeg)] I L (fun x3 I1 L2 =>
      ((!decide (x3 = (0 : Int32))) = true →
        ax_AK d 138 (30, [some (ax_vr 8 0 3), some (ax_vr 4 n0 o0), some (ax_vi (b2 + 1))], [], ax_mm I1 L2) (ax_ki K)) ∧
      ((!decide (x3 = (0 : Int32))) = false →
        ax_CI d 135 [ax_vr 8 0 3, ax_vi 3] I1 L2 (fun x6 I4 L5 =>
          K x6 I4 L5))))) : ax_AK d 138 (30, [some (ax_vr 8 0 3), some (ax_vr 4 n0 o0), some (ax_vi b2)], [], ax_mm I L) (ax_ki K) := ax_vcL ax_c138 1 (fun pc => Nat.beq pc 30) 17 rfl rfl h
set_option maxRecDepth 100000 in
set_option maxHeartbeats 8000000 in
theorem vc_X8_speak {d : Nat} {a0 : Int32} {a1 : Int32} {I : ax_I} {L : ax_J} {K : Int32 → ax_I → ax_J → Prop} (h :
  ax_CI d 9 [ax_vr 1 0 10, ax_vr 7 0 6, ax_vi a0, ax_vi a1] I L (fun x3 I1 L2 =>
    ((!decide (x3 = (1 : Int32))) = true →
      ax_CV d 11 [ax_vr 1 0 10, ax_vi a0, ax_vi a1, ax_vi x3] I1 L2 (fun I4 L5 =>
        ((!decide (x3 = (2 : Int32))) = true →
          ax_bit 0 = true ∧ K 0 I4 L5) ∧
        ((!decide (x3 = (2 : Int32))) = false →
          ax_bit 1 = true ∧ K 1 I4 L5))) ∧
    ((!decide (x3 = (1 : Int32))) = false →
      ax_CI d 87 [ax_vr 7 0 6, ax_vi a0] I1 L2 (fun x9 I7 L8 =>
        ax_inb a1 6 = true ∧
        ax_CV d 11 [ax_vr 1 0 10, ax_vi a0, ax_vi a1, ax_vi x3] (ax_ui I7 21 a1.toNatClampNeg x9) L8 (fun I10 L11 =>
          ((!decide (x3 = (2 : Int32))) = true →
            ax_bit 0 = true ∧ K 0 I10 L11) ∧
          ((!decide (x3 = (2 : Int32))) = false →
            ax_bit 1 = true ∧ K 1 I10 L11)))))) : ax_CI (d + 1) 139 [ax_vr 8 0 3, ax_vi a0, ax_vi a1] I L K := ax_vcI ax_c139 3 [some (ax_vr 8 0 3), some (ax_vi a0), some (ax_vi a1), none] (fun _ => false) 33 rfl rfl rfl rfl h
set_option maxRecDepth 100000 in
set_option maxHeartbeats 8000000 in
theorem vc_X8_ofOne {d : Nat} {a0 : Int32} {a1 : Int32} {I : ax_I} {L : ax_J} {K : Int32 → ax_I → ax_J → Prop} (h :
  (decide (a1 = 0) = true →
    ax_inb a0 6 = true ∧
    K (I 7 a0.toNatClampNeg) I L) ∧
  (decide (a1 = 0) = false →
  (decide (a1 = 1) = true →
    ax_CI d 87 [ax_vr 7 0 6, ax_vi a0] I L (fun x3 I1 L2 =>
      K x3 I1 L2)) ∧
  (decide (a1 = 1) = false →
  (decide (a1 = 2) = true →
    ax_CI d 15 [ax_vr 1 0 10, ax_vi a0] I L (fun x6 I4 L5 =>
      K x6 I4 L5)) ∧
  (decide (a1 = 2) = false →
  (decide (a1 = 3) = true →
    ax_CI d 19 [ax_vr 1 0 10, ax_vi a0] I L (fun x9 I7 L8 =>
      K x9 I7 L8)) ∧
  (decide (a1 = 3) = false →
    ax_CI d 25 [ax_vr 1 0 10, ax_vr 7 0 6, ax_vi a0] I L (fun x12 I10 L11 =>
      K x12 I10 L11)))))) : ax_CI (d + 1) 140 [ax_vr 8 0 3, ax_vi a0, ax_vi a1] I L K := ax_vcI ax_c140 1 [some (ax_vr 8 0 3), some (ax_vi a0), some (ax_vi a1)] (fun _ => false) 10 rfl rfl rfl rfl h
set_option maxRecDepth 100000 in
set_option maxHeartbeats 8000000 in
theorem vc_X8_ofThing {d : Nat} {a0 : Int32} {a1 : Int32} {I : ax_I} {L : ax_J} {K : Int32 → ax_I → ax_J → Prop} (h :
  (decide (a1 = 0) = true →
    ax_inb a0 6 = true ∧
    K (I 18 a0.toNatClampNeg) I L) ∧
  (decide (a1 = 0) = false →
  (decide (a1 = 1) = true →
    ax_inb a0 6 = true ∧
    K (I 19 a0.toNatClampNeg) I L) ∧
  (decide (a1 = 1) = false →
  (decide (a1 = 2) = true →
    ax_inb a0 6 = true ∧
    K (I 9 a0.toNatClampNeg) I L) ∧
  (decide (a1 = 2) = false →
    ax_CI d 23 [ax_vr 1 0 10, ax_vr 7 0 6] I L (fun x3 I1 L2 =>
      K ((x3 >>> (a0 &&& 31)) &&& 1) I1 L2))))) : ax_CI (d + 1) 141 [ax_vr 8 0 3, ax_vi a0, ax_vi a1] I L K := ax_vcI ax_c141 1 [some (ax_vr 8 0 3), some (ax_vi a0), some (ax_vi a1)] (fun _ => false) 13 rfl rfl rfl rfl h
set_option maxRecDepth 100000 in
set_option maxHeartbeats 8000000 in
theorem vc_X8_linesThereR {d : Nat} {I : ax_I} {L : ax_J} {K : Int32 → ax_I → ax_J → Prop} (h :
  ax_AK d 142 (10, [some (ax_vr 13 6 4), some (ax_vi 0), some (ax_vr 13 6 4), some (ax_vi (nI 6)), some (ax_vi 0), none], [], ax_mm I L) (ax_ki K)) : ax_CI (d + 1) 142 [ax_vr 13 6 4] I L K := ax_vcI ax_c142 1 [some (ax_vr 13 6 4), none, none, none, none, none] (fun pc => Nat.beq pc 10) 11 rfl rfl rfl rfl h
set_option maxRecDepth 100000 in
set_option maxHeartbeats 8000000 in
theorem vc_X8_linesThereR_10 {d : Nat} {b1 : Int32} {b3 : Int32} {b4 : Int32} {z0 : Option ax_V} {z5 : Option ax_V} {I : ax_I} {L : ax_J} {K : Int32 → ax_I → ax_J → Prop} (h :
  (decide (b3 ≤ b4) = true →
    K b1 I L) ∧
  (decide (b3 ≤ b4) = false →
    ax_inb b4 6 = true ∧
    ax_CI d 50 [ax_vr 4 40 (4 + (115 + 2 * b4.toNatClampNeg))] I L (fun x3 I1 L2 =>
      ((!decide (x3 = (0 : Int32))) = true →
        ax_AK d 142 (10, [none, some (ax_vi b1), some (ax_vr 13 6 4), some (ax_vi b3), some (ax_vi (b4 + 1)), some (ax_vr 4 40 (4 + (115 + 2 * b4.toNatClampNeg)))], [], ax_mm I1 L2) (ax_ki K)) ∧
      ((!decide (x3 = (0 : Int32))) = false →
        ax_AK d 142 (10, [none, some (ax_vi (b1 + 1)), some (ax_vr 13 6 4), some (ax_vi b3), some (ax_vi (b4 + 1)), some (ax_vr 4 40 (4 + (115 + 2 * b4.toNatClampNeg)))], [], ax_mm I1 L2) (ax_ki K))))) : ax_AK d 142 (10, [z0, some (ax_vi b1), some (ax_vr 13 6 4), some (ax_vi b3), some (ax_vi b4), z5], [], ax_mm I L) (ax_ki K) := ax_vcL ax_c142 1 (fun pc => Nat.beq pc 10) 15 rfl rfl h
set_option maxRecDepth 100000 in
set_option maxHeartbeats 8000000 in
theorem vc_X8_linesThereT {d : Nat} {I : ax_I} {L : ax_J} {K : Int32 → ax_I → ax_J → Prop} (h :
  ax_AK d 142 (10, [some (ax_vr 14 4 5), some (ax_vi 0), some (ax_vr 14 4 5), some (ax_vi (nI 4)), some (ax_vi 0), none], [], ax_mm I L) (ax_ki K)) : ax_CI (d + 1) 142 [ax_vr 14 4 5] I L K := ax_vcI ax_c142 1 [some (ax_vr 14 4 5), none, none, none, none, none] (fun pc => Nat.beq pc 10) 11 rfl rfl rfl rfl h
set_option maxRecDepth 100000 in
set_option maxHeartbeats 8000000 in
theorem vc_X8_linesThereT_10 {d : Nat} {b1 : Int32} {b3 : Int32} {b4 : Int32} {z0 : Option ax_V} {z5 : Option ax_V} {I : ax_I} {L : ax_J} {K : Int32 → ax_I → ax_J → Prop} (h :
  (decide (b3 ≤ b4) = true →
    K b1 I L) ∧
  (decide (b3 ≤ b4) = false →
    ax_inb b4 4 = true ∧
    ax_CI d 50 [ax_vr 4 80 (5 + (126 + 2 * b4.toNatClampNeg))] I L (fun x3 I1 L2 =>
      ((!decide (x3 = (0 : Int32))) = true →
        ax_AK d 142 (10, [none, some (ax_vi b1), some (ax_vr 14 4 5), some (ax_vi b3), some (ax_vi (b4 + 1)), some (ax_vr 4 80 (5 + (126 + 2 * b4.toNatClampNeg)))], [], ax_mm I1 L2) (ax_ki K)) ∧
      ((!decide (x3 = (0 : Int32))) = false →
        ax_AK d 142 (10, [none, some (ax_vi (b1 + 1)), some (ax_vr 14 4 5), some (ax_vi b3), some (ax_vi (b4 + 1)), some (ax_vr 4 80 (5 + (126 + 2 * b4.toNatClampNeg)))], [], ax_mm I1 L2) (ax_ki K))))) : ax_AK d 142 (10, [z0, some (ax_vi b1), some (ax_vr 14 4 5), some (ax_vi b3), some (ax_vi b4), z5], [], ax_mm I L) (ax_ki K) := ax_vcL ax_c142 1 (fun pc => Nat.beq pc 10) 15 rfl rfl h
set_option maxRecDepth 100000 in
set_option maxHeartbeats 8000000 in
theorem vc_X8_daysKept {d : Nat} {I : ax_I} {L : ax_J} {K : Int32 → ax_I → ax_J → Prop} (h :
  ax_AK d 143 (13, [some (ax_vr 8 0 3), some (ax_vi 0), some (ax_vr 11 3 26), some (ax_vi (nI 3)), some (ax_vi 0), none], [], ax_mm I L) (ax_ki K)) : ax_CI (d + 1) 143 [ax_vr 8 0 3] I L K := ax_vcI ax_c143 1 [some (ax_vr 8 0 3), none, none, none, none, none] (fun pc => Nat.beq pc 13) 12 rfl rfl rfl rfl h
set_option maxRecDepth 100000 in
set_option maxHeartbeats 8000000 in
theorem vc_X8_daysKept_13 {d : Nat} {b1 : Int32} {b3 : Int32} {b4 : Int32} {z0 : Option ax_V} {z5 : Option ax_V} {I : ax_I} {L : ax_J} {K : Int32 → ax_I → ax_J → Prop} (h :
  (decide (b3 ≤ b4) = true →
    K b1 I L) ∧
  (decide (b3 ≤ b4) = false →
    ax_inb b4 3 = true ∧
    (decide ((I 26 b4.toNatClampNeg) = (0 : Int32)) = true →
      ax_AK d 143 (13, [none, some (ax_vi b1), some (ax_vr 11 3 26), some (ax_vi b3), some (ax_vi (b4 + 1)), some (ax_vi (I 26 b4.toNatClampNeg))], [], ax_mm I L) (ax_ki K)) ∧
    (decide ((I 26 b4.toNatClampNeg) = (0 : Int32)) = false →
      ax_AK d 143 (13, [none, some (ax_vi (b1 + 1)), some (ax_vr 11 3 26), some (ax_vi b3), some (ax_vi (b4 + 1)), some (ax_vi (I 26 b4.toNatClampNeg))], [], ax_mm I L) (ax_ki K)))) : ax_AK d 143 (13, [z0, some (ax_vi b1), some (ax_vr 11 3 26), some (ax_vi b3), some (ax_vi b4), z5], [], ax_mm I L) (ax_ki K) := ax_vcL ax_c143 1 (fun pc => Nat.beq pc 13) 14 rfl rfl h
set_option maxRecDepth 100000 in
set_option maxHeartbeats 8000000 in
theorem vc_X8_greatestShared {d : Nat} {a0 : Int64} {a1 : Int64} {I : ax_I} {L : ax_J} {K : Int64 → ax_I → ax_J → Prop} (h :
  ax_AK d 144 (9, [some (ax_vl a0), none, some (ax_vl a1), none, some (ax_vl a0), none, some (ax_vl a1), none, some (ax_vi 0), none, none], [], ax_mm I L) (ax_kl K)) : ax_CL (d + 1) 144 [ax_vl a0, ax_vl a1] I L K := ax_vcJ ax_c144 2 [some (ax_vl a0), none, some (ax_vl a1), none, none, none, none, none, none, none, none] (fun pc => Nat.beq pc 9) 8 rfl rfl rfl rfl h
set_option maxRecDepth 100000 in
set_option maxHeartbeats 8000000 in
theorem vc_X8_greatestShared_9 {d : Nat} {b4 : Int64} {b6 : Int64} {b8 : Int32} {z0 : Option ax_V} {z1 : Option ax_V} {z2 : Option ax_V} {z3 : Option ax_V} {z5 : Option ax_V} {z7 : Option ax_V} {z9 : Option ax_V} {z10 : Option ax_V} {I : ax_I} {L : ax_J} {K : Int64 → ax_I → ax_J → Prop} (h :
  (decide ((128 : Int32) ≤ b8) = true →
    K b4 I L) ∧
  (decide ((128 : Int32) ≤ b8) = false →
    (decide ((lg_cmp b6 0) = (0 : Int32)) = true →
      K b4 I L) ∧
    (decide ((lg_cmp b6 0) = (0 : Int32)) = false →
      (!decide ((b6 : Int64) = 0)) = true ∧
      ax_AK d 144 (9, [none, none, none, none, some (ax_vl b6), none, some (ax_vl (b4 - b4 / b6 * b6)), none, some (ax_vi (b8 + 1)), some (ax_vl (b4 - b4 / b6 * b6)), none], [], ax_mm I L) (ax_kl K)))) : ax_AK d 144 (9, [z0, z1, z2, z3, some (ax_vl b4), z5, some (ax_vl b6), z7, some (ax_vi b8), z9, z10], [], ax_mm I L) (ax_kl K) := ax_vcL ax_c144 2 (fun pc => Nat.beq pc 9) 19 rfl rfl h
set_option maxRecDepth 100000 in
set_option maxHeartbeats 8000000 in
theorem vc_X8_mix {d : Nat} {a0 : Int64} {a1 : Int64} {I : ax_I} {L : ax_J} {K : Int64 → ax_I → ax_J → Prop} (h :
  K ((31 * a0) + a1) I L) : ax_CL (d + 1) 145 [ax_vl a0, ax_vl a1] I L K := ax_vcJ ax_c145 2 [some (ax_vl a0), none, some (ax_vl a1), none] (fun _ => false) 7 rfl rfl rfl rfl h
set_option maxRecDepth 100000 in
set_option maxHeartbeats 8000000 in
theorem vc_X8_mixTown {d : Nat} {a0 : Int64} {I : ax_I} {L : ax_J} {K : Int64 → ax_I → ax_J → Prop} (h :
  ax_AK d 146 (5, [some (ax_vr 8 0 3), some (ax_vl a0), none, some (ax_vl a0), none, some (ax_vi 0), none], [], ax_mm I L) (ax_kl K)) : ax_CL (d + 1) 146 [ax_vr 8 0 3, ax_vl a0] I L K := ax_vcJ ax_c146 2 [some (ax_vr 8 0 3), some (ax_vl a0), none, none, none, none, none] (fun pc => Nat.beq pc 5 || Nat.beq pc 20 || Nat.beq pc 49 || Nat.beq pc 95 || Nat.beq pc 110) 6 rfl rfl rfl rfl h
set_option maxRecDepth 100000 in
set_option maxHeartbeats 8000000 in
theorem vc_X8_mixTown_5 {d : Nat} {b3 : Int64} {b5 : Int32} {z1 : Option ax_V} {z2 : Option ax_V} {z4 : Option ax_V} {z6 : Option ax_V} {I : ax_I} {L : ax_J} {K : Int64 → ax_I → ax_J → Prop} (h :
  (decide ((I 6 0) ≤ b5) = true →
    ax_AK d 146 (95, [some (ax_vr 8 0 3), none, none, some (ax_vl b3), none, some (ax_vi 0), none], [], ax_mm I L) (ax_kl K)) ∧
  (decide ((I 6 0) ≤ b5) = false →
    ax_AK d 146 (20, [some (ax_vr 8 0 3), none, none, some (ax_vl b3), none, some (ax_vi b5), some (ax_vi 0)], [], ax_mm I L) (ax_kl K))) : ax_AK d 146 (5, [some (ax_vr 8 0 3), z1, z2, some (ax_vl b3), z4, some (ax_vi b5), z6], [], ax_mm I L) (ax_kl K) := ax_vcL ax_c146 2 (fun pc => Nat.beq pc 5 || Nat.beq pc 20 || Nat.beq pc 49 || Nat.beq pc 95 || Nat.beq pc 110) 9 rfl rfl h
set_option maxRecDepth 100000 in
set_option maxHeartbeats 8000000 in
theorem vc_X8_mixTown_20 {d : Nat} {b3 : Int64} {b5 : Int32} {b6 : Int32} {z1 : Option ax_V} {z2 : Option ax_V} {z4 : Option ax_V} {I : ax_I} {L : ax_J} {K : Int64 → ax_I → ax_J → Prop} (h :
  (decide ((4 : Int32) < b6) = true →
    ax_AK d 146 (49, [some (ax_vr 8 0 3), none, none, some (ax_vl b3), none, some (ax_vi b5), some (ax_vi 0)], [], ax_mm I L) (ax_kl K)) ∧
  (decide ((4 : Int32) < b6) = false →
    ax_CI d 140 [ax_vr 8 0 3, ax_vi b5, ax_vi b6] I L (fun x3 I1 L2 =>
      ax_CL d 145 [ax_vl b3, ax_vl x3.toInt64] I1 L2 (fun x6 I4 L5 =>
        ax_AK d 146 (20, [some (ax_vr 8 0 3), none, none, some (ax_vl x6), none, some (ax_vi b5), some (ax_vi (b6 + 1))], [], ax_mm I4 L5) (ax_kl K))))) : ax_AK d 146 (20, [some (ax_vr 8 0 3), z1, z2, some (ax_vl b3), z4, some (ax_vi b5), some (ax_vi b6)], [], ax_mm I L) (ax_kl K) := ax_vcL ax_c146 2 (fun pc => Nat.beq pc 5 || Nat.beq pc 20 || Nat.beq pc 49 || Nat.beq pc 95 || Nat.beq pc 110) 15 rfl rfl h
set_option maxRecDepth 100000 in
set_option maxHeartbeats 8000000 in
theorem vc_X8_mixTown_49 {d : Nat} {b3 : Int64} {b5 : Int32} {b6 : Int32} {z1 : Option ax_V} {z2 : Option ax_V} {z4 : Option ax_V} {I : ax_I} {L : ax_J} {K : Int64 → ax_I → ax_J → Prop} (h :
  (decide ((I 6 1) ≤ b6) = true →
    ax_AK d 146 (5, [some (ax_vr 8 0 3), none, none, some (ax_vl b3), none, some (ax_vi (b5 + 1)), some (ax_vi b6)], [], ax_mm I L) (ax_kl K)) ∧
  (decide ((I 6 1) ≤ b6) = false →
    ax_inb b5 6 = true ∧
    ax_inb b6 6 = true ∧
    ax_CL d 145 [ax_vl b3, ax_vl ((I (11 + (1 + b5.toNatClampNeg)) b6.toNatClampNeg).toInt64)] I L (fun x3 I1 L2 =>
      ax_AK d 146 (49, [some (ax_vr 8 0 3), none, none, some (ax_vl x3), none, some (ax_vi b5), some (ax_vi (b6 + 1))], [], ax_mm I1 L2) (ax_kl K)))) : ax_AK d 146 (49, [some (ax_vr 8 0 3), z1, z2, some (ax_vl b3), z4, some (ax_vi b5), some (ax_vi b6)], [], ax_mm I L) (ax_kl K) := ax_vcL ax_c146 2 (fun pc => Nat.beq pc 5 || Nat.beq pc 20 || Nat.beq pc 49 || Nat.beq pc 95 || Nat.beq pc 110) 20 rfl rfl h
set_option maxRecDepth 100000 in
set_option maxHeartbeats 8000000 in
theorem vc_X8_mixTown_95 {d : Nat} {b3 : Int64} {b5 : Int32} {z1 : Option ax_V} {z2 : Option ax_V} {z4 : Option ax_V} {z6 : Option ax_V} {I : ax_I} {L : ax_J} {K : Int64 → ax_I → ax_J → Prop} (h :
  (decide ((I 6 1) ≤ b5) = true →
    K b3 I L) ∧
  (decide ((I 6 1) ≤ b5) = false →
    ax_AK d 146 (110, [some (ax_vr 8 0 3), none, none, some (ax_vl b3), none, some (ax_vi b5), some (ax_vi 0)], [], ax_mm I L) (ax_kl K))) : ax_AK d 146 (95, [some (ax_vr 8 0 3), z1, z2, some (ax_vl b3), z4, some (ax_vi b5), z6], [], ax_mm I L) (ax_kl K) := ax_vcL ax_c146 2 (fun pc => Nat.beq pc 5 || Nat.beq pc 20 || Nat.beq pc 49 || Nat.beq pc 95 || Nat.beq pc 110) 9 rfl rfl h
set_option maxRecDepth 100000 in
set_option maxHeartbeats 8000000 in
theorem vc_X8_mixTown_110 {d : Nat} {b3 : Int64} {b5 : Int32} {b6 : Int32} {z1 : Option ax_V} {z2 : Option ax_V} {z4 : Option ax_V} {I : ax_I} {L : ax_J} {K : Int64 → ax_I → ax_J → Prop} (h :
  (decide ((3 : Int32) < b6) = true →
    ax_AK d 146 (95, [some (ax_vr 8 0 3), none, none, some (ax_vl b3), none, some (ax_vi (b5 + 1)), some (ax_vi b6)], [], ax_mm I L) (ax_kl K)) ∧
  (decide ((3 : Int32) < b6) = false →
    ax_CI d 141 [ax_vr 8 0 3, ax_vi b5, ax_vi b6] I L (fun x3 I1 L2 =>
      ax_CL d 145 [ax_vl b3, ax_vl x3.toInt64] I1 L2 (fun x6 I4 L5 =>
        ax_AK d 146 (110, [some (ax_vr 8 0 3), none, none, some (ax_vl x6), none, some (ax_vi b5), some (ax_vi (b6 + 1))], [], ax_mm I4 L5) (ax_kl K))))) : ax_AK d 146 (110, [some (ax_vr 8 0 3), z1, z2, some (ax_vl b3), z4, some (ax_vi b5), some (ax_vi b6)], [], ax_mm I L) (ax_kl K) := ax_vcL ax_c146 2 (fun pc => Nat.beq pc 5 || Nat.beq pc 20 || Nat.beq pc 49 || Nat.beq pc 95 || Nat.beq pc 110) 15 rfl rfl h
set_option maxRecDepth 100000 in
set_option maxHeartbeats 8000000 in
theorem vc_X8_mixLinesR {d : Nat} {a0 : Int64} {I : ax_I} {L : ax_J} {K : Int64 → ax_I → ax_J → Prop} (h :
  ax_AK d 147 (13, [some (ax_vl a0), none, some (ax_vr 13 6 4), some (ax_vl a0), none, some (ax_vr 13 6 4), some (ax_vi (nI 6)), some (ax_vi 0), none, none], [], ax_mm I L) (ax_kl K)) : ax_CL (d + 1) 147 [ax_vl a0, ax_vr 13 6 4] I L K := ax_vcJ ax_c147 2 [some (ax_vl a0), none, some (ax_vr 13 6 4), none, none, none, none, none, none, none] (fun pc => Nat.beq pc 13 || Nat.beq pc 41) 11 rfl rfl rfl rfl h
set_option maxRecDepth 100000 in
set_option maxHeartbeats 8000000 in
theorem vc_X8_mixLinesR_13 {d : Nat} {b3 : Int64} {b6 : Int32} {b7 : Int32} {z0 : Option ax_V} {z1 : Option ax_V} {z2 : Option ax_V} {z4 : Option ax_V} {z8 : Option ax_V} {z9 : Option ax_V} {I : ax_I} {L : ax_J} {K : Int64 → ax_I → ax_J → Prop} (h :
  (decide (b6 ≤ b7) = true →
    K b3 I L) ∧
  (decide (b6 ≤ b7) = false →
    ax_inb b7 6 = true ∧
    ax_CL d 145 [ax_vl b3, ax_vl ((I (4 + (115 + 2 * b7.toNatClampNeg)) 1).toInt64)] I L (fun x3 I1 L2 =>
      ax_AK d 147 (41, [none, none, none, some (ax_vl x3), none, some (ax_vr 13 6 4), some (ax_vi b6), some (ax_vi b7), some (ax_vr 4 40 (4 + (115 + 2 * b7.toNatClampNeg))), some (ax_vi 0)], [], ax_mm I1 L2) (ax_kl K)))) : ax_AK d 147 (13, [z0, z1, z2, some (ax_vl b3), z4, some (ax_vr 13 6 4), some (ax_vi b6), some (ax_vi b7), z8, z9], [], ax_mm I L) (ax_kl K) := ax_vcL ax_c147 2 (fun pc => Nat.beq pc 13 || Nat.beq pc 41) 17 rfl rfl h
set_option maxRecDepth 100000 in
set_option maxHeartbeats 8000000 in
theorem vc_X8_mixLinesR_41 {d : Nat} {oo24 : Nat} {b3 : Int64} {b6 : Int32} {b7 : Int32} {b9 : Int32} {z0 : Option ax_V} {z1 : Option ax_V} {z2 : Option ax_V} {z4 : Option ax_V} {I : ax_I} {L : ax_J} {K : Int64 → ax_I → ax_J → Prop} (h :
  (decide ((I oo24 1) ≤ b9) = true →
    ax_AK d 147 (13, [none, none, none, some (ax_vl b3), none, some (ax_vr 13 6 4), some (ax_vi b6), some (ax_vi (b7 + 1)), some (ax_vr 4 40 oo24), some (ax_vi b9)], [], ax_mm I L) (ax_kl K)) ∧
  (decide ((I oo24 1) ≤ b9) = false →
    ax_inb b9 40 = true ∧
    ax_CL d 145 [ax_vl b3, ax_vl ((I (oo24 + 1) b9.toNatClampNeg).toInt64)] I L (fun x3 I1 L2 =>
      ax_AK d 147 (41, [none, none, none, some (ax_vl x3), none, some (ax_vr 13 6 4), some (ax_vi b6), some (ax_vi b7), some (ax_vr 4 40 oo24), some (ax_vi (b9 + 1))], [], ax_mm I1 L2) (ax_kl K)))) : ax_AK d 147 (41, [z0, z1, z2, some (ax_vl b3), z4, some (ax_vr 13 6 4), some (ax_vi b6), some (ax_vi b7), some (ax_vr 4 40 oo24), some (ax_vi b9)], [], ax_mm I L) (ax_kl K) := ax_vcL ax_c147 2 (fun pc => Nat.beq pc 13 || Nat.beq pc 41) 16 rfl rfl h
set_option maxRecDepth 100000 in
set_option maxHeartbeats 8000000 in
theorem vc_X8_mixLinesT {d : Nat} {a0 : Int64} {I : ax_I} {L : ax_J} {K : Int64 → ax_I → ax_J → Prop} (h :
  ax_AK d 147 (13, [some (ax_vl a0), none, some (ax_vr 14 4 5), some (ax_vl a0), none, some (ax_vr 14 4 5), some (ax_vi (nI 4)), some (ax_vi 0), none, none], [], ax_mm I L) (ax_kl K)) : ax_CL (d + 1) 147 [ax_vl a0, ax_vr 14 4 5] I L K := ax_vcJ ax_c147 2 [some (ax_vl a0), none, some (ax_vr 14 4 5), none, none, none, none, none, none, none] (fun pc => Nat.beq pc 13 || Nat.beq pc 41) 11 rfl rfl rfl rfl h
set_option maxRecDepth 100000 in
set_option maxHeartbeats 8000000 in
theorem vc_X8_mixLinesT_13 {d : Nat} {b3 : Int64} {b6 : Int32} {b7 : Int32} {z0 : Option ax_V} {z1 : Option ax_V} {z2 : Option ax_V} {z4 : Option ax_V} {z8 : Option ax_V} {z9 : Option ax_V} {I : ax_I} {L : ax_J} {K : Int64 → ax_I → ax_J → Prop} (h :
  (decide (b6 ≤ b7) = true →
    K b3 I L) ∧
  (decide (b6 ≤ b7) = false →
    ax_inb b7 4 = true ∧
    ax_CL d 145 [ax_vl b3, ax_vl ((I (5 + (126 + 2 * b7.toNatClampNeg)) 1).toInt64)] I L (fun x3 I1 L2 =>
      ax_AK d 147 (41, [none, none, none, some (ax_vl x3), none, some (ax_vr 14 4 5), some (ax_vi b6), some (ax_vi b7), some (ax_vr 4 80 (5 + (126 + 2 * b7.toNatClampNeg))), some (ax_vi 0)], [], ax_mm I1 L2) (ax_kl K)))) : ax_AK d 147 (13, [z0, z1, z2, some (ax_vl b3), z4, some (ax_vr 14 4 5), some (ax_vi b6), some (ax_vi b7), z8, z9], [], ax_mm I L) (ax_kl K) := ax_vcL ax_c147 2 (fun pc => Nat.beq pc 13 || Nat.beq pc 41) 17 rfl rfl h
set_option maxRecDepth 100000 in
set_option maxHeartbeats 8000000 in
theorem vc_X8_mixLinesT_41 {d : Nat} {oo24 : Nat} {b3 : Int64} {b6 : Int32} {b7 : Int32} {b9 : Int32} {z0 : Option ax_V} {z1 : Option ax_V} {z2 : Option ax_V} {z4 : Option ax_V} {I : ax_I} {L : ax_J} {K : Int64 → ax_I → ax_J → Prop} (h :
  (decide ((I oo24 1) ≤ b9) = true →
    ax_AK d 147 (13, [none, none, none, some (ax_vl b3), none, some (ax_vr 14 4 5), some (ax_vi b6), some (ax_vi (b7 + 1)), some (ax_vr 4 80 oo24), some (ax_vi b9)], [], ax_mm I L) (ax_kl K)) ∧
  (decide ((I oo24 1) ≤ b9) = false →
    ax_inb b9 80 = true ∧
    ax_CL d 145 [ax_vl b3, ax_vl ((I (oo24 + 1) b9.toNatClampNeg).toInt64)] I L (fun x3 I1 L2 =>
      ax_AK d 147 (41, [none, none, none, some (ax_vl x3), none, some (ax_vr 14 4 5), some (ax_vi b6), some (ax_vi b7), some (ax_vr 4 80 oo24), some (ax_vi (b9 + 1))], [], ax_mm I1 L2) (ax_kl K)))) : ax_AK d 147 (41, [z0, z1, z2, some (ax_vl b3), z4, some (ax_vr 14 4 5), some (ax_vi b6), some (ax_vi b7), some (ax_vr 4 80 oo24), some (ax_vi b9)], [], ax_mm I L) (ax_kl K) := ax_vcL ax_c147 2 (fun pc => Nat.beq pc 13 || Nat.beq pc 41) 16 rfl rfl h
set_option maxRecDepth 100000 in
set_option maxHeartbeats 8000000 in
theorem vc_X9_in {d : Nat} {a0 : Int32} {a1 : Int32} {a2 : Int32} {I : ax_I} {L : ax_J} {K : Int32 → ax_I → ax_J → Prop} (h :
  (decide (a0 < a1) = true →
    ax_bit 0 = true ∧ K 0 I L) ∧
  (decide (a0 < a1) = false →
    (decide (a2 < a0) = true →
      ax_bit 0 = true ∧ K 0 I L) ∧
    (decide (a2 < a0) = false →
      ax_bit 1 = true ∧ K 1 I L))) : ax_CI (d + 1) 149 [ax_vi a0, ax_vi a1, ax_vi a2] I L K := ax_vcI ax_c149 3 [some (ax_vi a0), some (ax_vi a1), some (ax_vi a2)] (fun _ => false) 10 rfl rfl rfl rfl h
set_option maxRecDepth 100000 in
set_option maxHeartbeats 8000000 in
theorem vc_X9_has {d : Nat} {a0 : Int32} {a1 : Int32} {I : ax_I} {L : ax_J} {K : Int32 → ax_I → ax_J → Prop} (h :
  ((!decide (((a0 >>> (a1 &&& 31)) &&& 1) = (1 : Int32))) = true →
    ax_bit 0 = true ∧ K 0 I L) ∧
  ((!decide (((a0 >>> (a1 &&& 31)) &&& 1) = (1 : Int32))) = false →
    ax_bit 1 = true ∧ K 1 I L)) : ax_CI (d + 1) 150 [ax_vi a0, ax_vi a1] I L K := ax_vcI ax_c150 3 [some (ax_vi a0), some (ax_vi a1)] (fun _ => false) 11 rfl rfl rfl rfl h
set_option maxRecDepth 100000 in
set_option maxHeartbeats 8000000 in
theorem vc_X9_bits {d : Nat} {a0 : Int32} {I : ax_I} {L : ax_J} {K : Int32 → ax_I → ax_J → Prop} (h :
  ax_AK d 151 (4, [some (ax_vi a0), some (ax_vi 0), some (ax_vi a0)], [], ax_mm I L) (ax_ki K)) : ax_CI (d + 1) 151 [ax_vi a0] I L K := ax_vcI ax_c151 1 [some (ax_vi a0), none, none] (fun pc => Nat.beq pc 4) 6 rfl rfl rfl rfl h
set_option maxRecDepth 100000 in
set_option maxHeartbeats 8000000 in
theorem vc_X9_bits_4 {d : Nat} {b1 : Int32} {b2 : Int32} {z0 : Option ax_V} {I : ax_I} {L : ax_J} {K : Int32 → ax_I → ax_J → Prop} (h :
  (decide (b2 = (0 : Int32)) = true →
    K b1 I L) ∧
  (decide (b2 = (0 : Int32)) = false →
    ax_AK d 151 (4, [none, some (ax_vi (b1 + 1)), some (ax_vi (b2 &&& (b2 - 1)))], [], ax_mm I L) (ax_ki K))) : ax_AK d 151 (4, [z0, some (ax_vi b1), some (ax_vi b2)], [], ax_mm I L) (ax_ki K) := ax_vcL ax_c151 1 (fun pc => Nat.beq pc 4) 12 rfl rfl h
set_option maxRecDepth 100000 in
set_option maxHeartbeats 8000000 in
theorem vc_X9_meets {d : Nat} {a0 : Int32} {I : ax_I} {L : ax_J} {K : Int32 → ax_I → ax_J → Prop} (h :
  ax_inb a0 6 = true ∧
  ax_inb a0 6 = true ∧
  K (-3) (ax_ui (ax_ui I 184 0 a0) 185 a0.toNatClampNeg (((ax_ui I 184 0 a0) 185 a0.toNatClampNeg) + 1)) L) : ax_CI (d + 1) 152 [ax_vr 9 0 184, ax_vi a0] I L K := ax_vcI ax_c152 1 [some (ax_vr 9 0 184), some (ax_vi a0)] (fun _ => false) 14 rfl rfl rfl rfl h
set_option maxRecDepth 100000 in
set_option maxHeartbeats 8000000 in
theorem vc_X9_finding {d : Nat} {I : ax_I} {L : ax_J} {K : Int32 → ax_I → ax_J → Prop} (h :
  K (I 184 0) I L) : ax_CI (d + 1) 153 [ax_vr 9 0 184] I L K := ax_vcI ax_c153 1 [some (ax_vr 9 0 184)] (fun _ => false) 4 rfl rfl rfl rfl h
set_option maxRecDepth 100000 in
set_option maxHeartbeats 8000000 in
theorem vc_X9_findings {d : Nat} {a0 : Int32} {I : ax_I} {L : ax_J} {K : Int32 → ax_I → ax_J → Prop} (h :
  ax_CI d 149 [ax_vi a0, ax_vi 1, ax_vi 5] I L (fun x3 I1 L2 =>
    (decide (x3 = (0 : Int32)) = true →
      K (-1) I1 L2) ∧
    (decide (x3 = (0 : Int32)) = false →
      ax_inb a0 6 = true ∧
      K (I1 185 a0.toNatClampNeg) I1 L2))) : ax_CI (d + 1) 154 [ax_vr 9 0 184, ax_vi a0] I L K := ax_vcI ax_c154 1 [some (ax_vr 9 0 184), some (ax_vi a0)] (fun _ => false) 12 rfl rfl rfl rfl h
set_option maxRecDepth 100000 in
set_option maxHeartbeats 8000000 in
theorem vc_X9_tells {d : Nat} {a0 : Int32} {a1 : Int32} {I : ax_I} {L : ax_J} {K : Int32 → ax_I → ax_J → Prop} (h :
  K a1 (ax_ui I 184 2 a0) L) : ax_CI (d + 1) 155 [ax_vr 9 0 184, ax_vi a0, ax_vi a1] I L K := ax_vcI ax_c155 1 [some (ax_vr 9 0 184), some (ax_vi a0), some (ax_vi a1)] (fun _ => false) 6 rfl rfl rfl rfl h
set_option maxRecDepth 100000 in
set_option maxHeartbeats 8000000 in
theorem vc_X9_asked {d : Nat} {I : ax_I} {L : ax_J} {K : Int32 → ax_I → ax_J → Prop} (h :
  K (I 184 2) I L) : ax_CI (d + 1) 156 [ax_vr 9 0 184] I L K := ax_vcI ax_c156 1 [some (ax_vr 9 0 184)] (fun _ => false) 4 rfl rfl rfl rfl h
set_option maxRecDepth 100000 in
set_option maxHeartbeats 8000000 in
theorem vc_X9_part {d : Nat} {a0 : Int64} {a1 : Int64} {I : ax_I} {L : ax_J} {K : Int32 → ax_I → ax_J → Prop} (h :
  ax_AK d 157 (6, [some (ax_vr 9 0 184), some (ax_vl a0), none, some (ax_vl a1), none, some (ax_vl a0), none, some (ax_vl a1), none, none, none], [], ax_mm I L) (ax_ki K)) : ax_CI (d + 1) 157 [ax_vr 9 0 184, ax_vl a0, ax_vl a1] I L K := ax_vcI ax_c157 1 [some (ax_vr 9 0 184), some (ax_vl a0), none, some (ax_vl a1), none, none, none, none, none, none, none] (fun pc => Nat.beq pc 6) 6 rfl rfl rfl rfl h
set_option maxRecDepth 100000 in
set_option maxHeartbeats 8000000 in
theorem vc_X9_part_6 {d : Nat} {b1 : Int64} {b3 : Int64} {b5 : Int64} {b7 : Int64} {z2 : Option ax_V} {z4 : Option ax_V} {z6 : Option ax_V} {z8 : Option ax_V} {z9 : Option ax_V} {z10 : Option ax_V} {I : ax_I} {L : ax_J} {K : Int32 → ax_I → ax_J → Prop} (h :
  (decide ((lg_cmp b7 0) = (0 : Int32)) = true →
    (!decide ((b5 : Int64) = 0)) = true ∧
    (!decide ((b5 : Int64) = 0)) = true ∧
    K 1 I (ax_ul (ax_ul L 184 3 (b1 / b5)) 184 4 (b3 / b5))) ∧
  (decide ((lg_cmp b7 0) = (0 : Int32)) = false →
    (!decide ((b7 : Int64) = 0)) = true ∧
    ax_AK d 157 (6, [some (ax_vr 9 0 184), some (ax_vl b1), none, some (ax_vl b3), none, some (ax_vl b7), none, some (ax_vl (b5 - b5 / b7 * b7)), none, some (ax_vl (b5 - b5 / b7 * b7)), none], [], ax_mm I L) (ax_ki K))) : ax_AK d 157 (6, [some (ax_vr 9 0 184), some (ax_vl b1), z2, some (ax_vl b3), z4, some (ax_vl b5), z6, some (ax_vl b7), z8, z9, z10], [], ax_mm I L) (ax_ki K) := ax_vcL ax_c157 1 (fun pc => Nat.beq pc 6) 17 rfl rfl h
set_option maxRecDepth 100000 in
set_option maxHeartbeats 8000000 in
theorem vc_X9_upper {d : Nat} {I : ax_I} {L : ax_J} {K : Int64 → ax_I → ax_J → Prop} (h :
  K (L 184 3) I L) : ax_CL (d + 1) 158 [ax_vr 9 0 184] I L K := ax_vcJ ax_c158 2 [some (ax_vr 9 0 184)] (fun _ => false) 4 rfl rfl rfl rfl h
set_option maxRecDepth 100000 in
set_option maxHeartbeats 8000000 in
theorem vc_X9_lower {d : Nat} {I : ax_I} {L : ax_J} {K : Int64 → ax_I → ax_J → Prop} (h :
  K (L 184 4) I L) : ax_CL (d + 1) 159 [ax_vr 9 0 184] I L K := ax_vcJ ax_c159 2 [some (ax_vr 9 0 184)] (fun _ => false) 4 rfl rfl rfl rfl h
set_option maxRecDepth 100000 in
set_option maxHeartbeats 8000000 in
theorem vc_X9_isRow {d : Nat} {a0 : Int32} {I : ax_I} {L : ax_J} {K : Int32 → ax_I → ax_J → Prop} (h :
  ax_CI d 149 [ax_vi a0, ax_vi 0, ax_vi 5] I L (fun x3 I1 L2 =>
    ax_bit x3 = true ∧ K x3 I1 L2)) : ax_CI (d + 1) 160 [ax_vi a0] I L K := ax_vcI ax_c160 3 [some (ax_vi a0)] (fun _ => false) 6 rfl rfl rfl rfl h
set_option maxRecDepth 100000 in
set_option maxHeartbeats 8000000 in
theorem vc_X9_rowAt {d : Nat} {a0 : Int32} {a1 : Int32} {I : ax_I} {L : ax_J} {K : Int32 → ax_I → ax_J → Prop} (h :
  ax_inb ((40 * a0) + a1) 240 = true ∧
  K (I 187 ((40 * a0) + a1).toNatClampNeg) I L) : ax_CI (d + 1) 161 [ax_vr 9 0 184, ax_vi a0, ax_vi a1] I L K := ax_vcI ax_c161 1 [some (ax_vr 9 0 184), some (ax_vi a0), some (ax_vi a1)] (fun _ => false) 10 rfl rfl rfl rfl h
set_option maxRecDepth 100000 in
set_option maxHeartbeats 8000000 in
theorem vc_X9_row {d : Nat} {a0 : Int32} {a1 : Int32} {I : ax_I} {L : ax_J} {K : Int32 → ax_I → ax_J → Prop} (h :
  ax_CI d 160 [ax_vi a0] I L (fun x3 I1 L2 =>
    (decide (x3 = (0 : Int32)) = true →
      K (-1) I1 L2) ∧
    (decide (x3 = (0 : Int32)) = false →
      (decide (a1 ≤ (40 : Int32)) = true →
        (decide ((0 : Int32) ≤ a1) = true →
          ax_inb a0 6 = true ∧
          ax_AK d 162 (34, [some (ax_vr 9 0 184), some (ax_vi a0), some (ax_vi a1), some (ax_vi 0)], [], ax_mm (ax_ui I1 186 a0.toNatClampNeg a1) L2) (ax_ki K)) ∧
        (decide ((0 : Int32) ≤ a1) = false →
          ax_CI d 152 [ax_vr 9 0 184, ax_vi 5] I1 L2 (fun x6 I4 L5 =>
            K x6 I4 L5))) ∧
      (decide (a1 ≤ (40 : Int32)) = false →
        K (-1) I1 L2)))) : ax_CI (d + 1) 162 [ax_vr 9 0 184, ax_vi a0, ax_vi a1] I L K := ax_vcI ax_c162 1 [some (ax_vr 9 0 184), some (ax_vi a0), some (ax_vi a1), none] (fun pc => Nat.beq pc 34) 17 rfl rfl rfl rfl h
set_option maxRecDepth 100000 in
set_option maxHeartbeats 8000000 in
theorem vc_X9_row_34 {d : Nat} {b1 : Int32} {b2 : Int32} {b3 : Int32} {I : ax_I} {L : ax_J} {K : Int32 → ax_I → ax_J → Prop} (h :
  (decide ((40 : Int32) ≤ b3) = true →
    K b2 I L) ∧
  (decide ((40 : Int32) ≤ b3) = false →
    ax_inb ((40 * b1) + b3) 240 = true ∧
    ax_AK d 162 (34, [some (ax_vr 9 0 184), some (ax_vi b1), some (ax_vi b2), some (ax_vi (b3 + 1))], [], ax_mm (ax_ui I 187 ((40 * b1) + b3).toNatClampNeg 0) L) (ax_ki K))) : ax_AK d 162 (34, [some (ax_vr 9 0 184), some (ax_vi b1), some (ax_vi b2), some (ax_vi b3)], [], ax_mm I L) (ax_ki K) := ax_vcL ax_c162 1 (fun pc => Nat.beq pc 34) 16 rfl rfl h
set_option maxRecDepth 100000 in
set_option maxHeartbeats 8000000 in
theorem vc_X9_lay {d : Nat} {a0 : Int32} {a1 : Int32} {a2 : Int32} {I : ax_I} {L : ax_J} {K : Int32 → ax_I → ax_J → Prop} (h :
  ax_CI d 160 [ax_vi a0] I L (fun x3 I1 L2 =>
    ((!decide (x3 = (0 : Int32))) = true →
      ax_inb a0 6 = true ∧
      (decide ((0 : Int32) ≤ (I1 186 a0.toNatClampNeg)) = true →
        ax_inb a0 6 = true ∧
        ax_CI d 149 [ax_vi a1, ax_vi 0, ax_vi ((I1 186 a0.toNatClampNeg) - 1)] I1 L2 (fun x6 I4 L5 =>
          ((!decide (x6 = (0 : Int32))) = true →
            ax_CI d 161 [ax_vr 9 0 184, ax_vi a0, ax_vi a1] I4 L5 (fun x9 I7 L8 =>
              ax_inb ((40 * a0) + a1) 240 = true ∧
              ax_CI d 155 [ax_vr 9 0 184, ax_vi x9, ax_vi 1] (ax_ui I7 187 ((40 * a0) + a1).toNatClampNeg a2) L8 (fun x12 I10 L11 =>
                K x12 I10 L11))) ∧
          ((!decide (x6 = (0 : Int32))) = false →
            ax_CI d 152 [ax_vr 9 0 184, ax_vi 2] I4 L5 (fun x15 I13 L14 =>
              K x15 I13 L14)))) ∧
      (decide ((0 : Int32) ≤ (I1 186 a0.toNatClampNeg)) = false →
        ax_CI d 152 [ax_vr 9 0 184, ax_vi 1] I1 L2 (fun x18 I16 L17 =>
          K x18 I16 L17))) ∧
    ((!decide (x3 = (0 : Int32))) = false →
      K (-1) I1 L2))) : ax_CI (d + 1) 163 [ax_vr 9 0 184, ax_vi a0, ax_vi a1, ax_vi a2] I L K := ax_vcI ax_c163 1 [some (ax_vr 9 0 184), some (ax_vi a0), some (ax_vi a1), some (ax_vi a2), none] (fun _ => false) 38 rfl rfl rfl rfl h
set_option maxRecDepth 100000 in
set_option maxHeartbeats 8000000 in
theorem vc_X9_at {d : Nat} {a0 : Int32} {a1 : Int32} {I : ax_I} {L : ax_J} {K : Int32 → ax_I → ax_J → Prop} (h :
  ax_CI d 160 [ax_vi a0] I L (fun x3 I1 L2 =>
    ((!decide (x3 = (0 : Int32))) = true →
      ax_inb a0 6 = true ∧
      (decide ((0 : Int32) ≤ (I1 186 a0.toNatClampNeg)) = true →
        ax_inb a0 6 = true ∧
        ax_CI d 149 [ax_vi a1, ax_vi 0, ax_vi ((I1 186 a0.toNatClampNeg) - 1)] I1 L2 (fun x6 I4 L5 =>
          (decide (x6 = (0 : Int32)) = true →
            ax_CI d 152 [ax_vr 9 0 184, ax_vi 2] I4 L5 (fun x9 I7 L8 =>
              K x9 I7 L8)) ∧
          (decide (x6 = (0 : Int32)) = false →
            ax_CI d 161 [ax_vr 9 0 184, ax_vi a0, ax_vi a1] I4 L5 (fun x12 I10 L11 =>
              ax_CI d 155 [ax_vr 9 0 184, ax_vi x12, ax_vi 1] I10 L11 (fun x15 I13 L14 =>
                K x15 I13 L14))))) ∧
      (decide ((0 : Int32) ≤ (I1 186 a0.toNatClampNeg)) = false →
        ax_CI d 152 [ax_vr 9 0 184, ax_vi 1] I1 L2 (fun x18 I16 L17 =>
          K x18 I16 L17))) ∧
    ((!decide (x3 = (0 : Int32))) = false →
      K (-1) I1 L2))) : ax_CI (d + 1) 164 [ax_vr 9 0 184, ax_vi a0, ax_vi a1] I L K := ax_vcI ax_c164 1 [some (ax_vr 9 0 184), some (ax_vi a0), some (ax_vi a1)] (fun _ => false) 28 rfl rfl rfl rfl h
