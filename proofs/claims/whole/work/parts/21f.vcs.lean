set_option maxRecDepth 100000 in
set_option maxHeartbeats 8000000 in
theorem vc_X9_judge {d : Nat} {a0 : Int32} {I : ax_I} {L : ax_J} {K : Int32 → ax_I → ax_J → Prop} (h :
  ax_CI d 160 [ax_vi a0] I L (fun x3 I1 L2 =>
    ((!decide (x3 = (0 : Int32))) = true →
      ((!decide ((I1 184 10) = (0 : Int32))) = true →
        ax_inb a0 6 = true ∧
        (decide ((0 : Int32) ≤ (I1 186 a0.toNatClampNeg)) = true →
          ax_inb a0 6 = true ∧
          (decide ((I1 186 a0.toNatClampNeg) ≤ (20 : Int32)) = true →
            ax_AK d 234 (55, [some (ax_vr 9 0 184), some (ax_vi a0), some (ax_vi 1), some (ax_vi 0), none, none, none, none], [], ax_mm I1 L2) (ax_ki K)) ∧
          (decide ((I1 186 a0.toNatClampNeg) ≤ (20 : Int32)) = false →
            ax_CI d 152 [ax_vr 9 0 184, ax_vi 5] I1 L2 (fun x6 I4 L5 =>
              K x6 I4 L5))) ∧
        (decide ((0 : Int32) ≤ (I1 186 a0.toNatClampNeg)) = false →
          ax_CI d 152 [ax_vr 9 0 184, ax_vi 1] I1 L2 (fun x9 I7 L8 =>
            K x9 I7 L8))) ∧
      ((!decide ((I1 184 10) = (0 : Int32))) = false →
        K (-4) I1 L2)) ∧
    ((!decide (x3 = (0 : Int32))) = false →
      K (-1) I1 L2))) : ax_CI (d + 1) 234 [ax_vr 9 0 184, ax_vi a0] I L K := ax_vcI ax_c234 1 [some (ax_vr 9 0 184), some (ax_vi a0), none, none, none, none, none, none] (fun pc => Nat.beq pc 55 || Nat.beq pc 153) 23 rfl rfl rfl rfl h
set_option maxRecDepth 100000 in
set_option maxHeartbeats 8000000 in
theorem vc_X9_judge_55 {d : Nat} {b1 : Int32} {b2 : Int32} {b3 : Int32} {z4 : Option ax_V} {z5 : Option ax_V} {z6 : Option ax_V} {z7 : Option ax_V} {I : ax_I} {L : ax_J} {K : Int32 → ax_I → ax_J → Prop} (h :
  ax_inb b1 6 = true ∧
  (decide ((I 186 b1.toNatClampNeg) ≤ b3) = true →
    ((!decide (b2 = (0 : Int32))) = true →
      ax_CV d 186 [ax_vr 9 0 184, ax_vi 0, ax_vi 1] I L (fun I1 L2 =>
        ax_AK d 234 (153, [some (ax_vr 9 0 184), some (ax_vi b1), some (ax_vi b2), some (ax_vi 0), some (ax_vi (-9)), some (ax_vi 0), none, none], [], ax_mm I1 L2) (ax_ki K))) ∧
    ((!decide (b2 = (0 : Int32))) = false →
      ax_CI d 152 [ax_vr 9 0 184, ax_vi 3] I L (fun x6 I4 L5 =>
        K x6 I4 L5))) ∧
  (decide ((I 186 b1.toNatClampNeg) ≤ b3) = false →
    ax_CI d 161 [ax_vr 9 0 184, ax_vi b1, ax_vi b3] I L (fun x9 I7 L8 =>
      (decide (b2 = (0 : Int32)) = true →
        ax_AK d 234 (55, [some (ax_vr 9 0 184), some (ax_vi b1), some (ax_vi 0), some (ax_vi (b3 + 1)), some (ax_vi x9), none, none, none], [], ax_mm I7 L8) (ax_ki K)) ∧
      (decide (b2 = (0 : Int32)) = false →
        (decide (x9 < (0 : Int32)) = true →
          ax_AK d 234 (55, [some (ax_vr 9 0 184), some (ax_vi b1), some (ax_vi 0), some (ax_vi (b3 + 1)), some (ax_vi x9), none, none, none], [], ax_mm I7 L8) (ax_ki K)) ∧
        (decide (x9 < (0 : Int32)) = false →
          (!decide ((10 : Int32) = 0)) = true ∧
          ax_CI d 182 [ax_vr 9 0 184, ax_vi (x9 / 10)] I7 L8 (fun x12 I10 L11 =>
            (decide (x12 = (0 : Int32)) = true →
              ax_AK d 234 (55, [some (ax_vr 9 0 184), some (ax_vi b1), some (ax_vi 0), some (ax_vi (b3 + 1)), some (ax_vi x9), none, none, none], [], ax_mm I10 L11) (ax_ki K)) ∧
            (decide (x12 = (0 : Int32)) = false →
              (!decide ((10 : Int32) = 0)) = true ∧
              ax_CI d 183 [ax_vr 9 0 184, ax_vi (x9 - x9 / 10 * 10)] I10 L11 (fun x15 I13 L14 =>
                ((!decide (x15 = (0 : Int32))) = true →
                  ax_AK d 234 (55, [some (ax_vr 9 0 184), some (ax_vi b1), some (ax_vi 1), some (ax_vi (b3 + 1)), some (ax_vi x9), none, none, none], [], ax_mm I13 L14) (ax_ki K)) ∧
                ((!decide (x15 = (0 : Int32))) = false →
                  (!decide ((10 : Int32) = 0)) = true ∧
                  ((!decide ((x9 - x9 / 10 * 10) = (9 : Int32))) = true →
                    ax_AK d 234 (55, [some (ax_vr 9 0 184), some (ax_vi b1), some (ax_vi 0), some (ax_vi (b3 + 1)), some (ax_vi x9), none, none, none], [], ax_mm I13 L14) (ax_ki K)) ∧
                  ((!decide ((x9 - x9 / 10 * 10) = (9 : Int32))) = false →
                    ax_AK d 234 (55, [some (ax_vr 9 0 184), some (ax_vi b1), some (ax_vi 1), some (ax_vi (b3 + 1)), some (ax_vi x9), none, none, none], [], ax_mm I13 L14) (ax_ki K))))))))))) : ax_AK d 234 (55, [some (ax_vr 9 0 184), some (ax_vi b1), some (ax_vi b2), some (ax_vi b3), z4, z5, z6, z7], [], ax_mm I L) (ax_ki K) := ax_vcL ax_c234 1 (fun pc => Nat.beq pc 55 || Nat.beq pc 153) 39 rfl rfl h
set_option maxRecDepth 100000 in
set_option maxHeartbeats 8000000 in
theorem vc_X9_judge_153 {d : Nat} {b1 : Int32} {b3 : Int32} {b4 : Int32} {b5 : Int32} {z2 : Option ax_V} {z6 : Option ax_V} {z7 : Option ax_V} {I : ax_I} {L : ax_J} {K : Int32 → ax_I → ax_J → Prop} (h :
  ax_inb b1 6 = true ∧
  (decide ((I 186 b1.toNatClampNeg) ≤ b5) = true →
    ax_CI d 155 [ax_vr 9 0 184, ax_vi b4, ax_vi b3] I L (fun x3 I1 L2 =>
      K x3 I1 L2)) ∧
  (decide ((I 186 b1.toNatClampNeg) ≤ b5) = false →
    ax_CI d 161 [ax_vr 9 0 184, ax_vi b1, ax_vi b5] I L (fun x6 I4 L5 =>
      (!decide ((10 : Int32) = 0)) = true ∧
      ((!decide ((x6 - x6 / 10 * 10) = (9 : Int32))) = true →
        (!decide ((10 : Int32) = 0)) = true ∧
        (!decide ((10 : Int32) = 0)) = true ∧
        ax_CI d 190 [ax_vr 9 0 184, ax_vi 1, ax_vi (x6 / 10), ax_vi (x6 - x6 / 10 * 10)] I4 L5 (fun x9 I7 L8 =>
          ((!decide (x9 = (1 : Int32))) = true →
            ((!decide (x9 = (-9 : Int32))) = true →
              ax_AK d 234 (153, [some (ax_vr 9 0 184), some (ax_vi b1), none, some (ax_vi (b3 + 0)), some (ax_vi b4), some (ax_vi (b5 + 1)), some (ax_vi x6), some (ax_vi x9)], [], ax_mm I7 L8) (ax_ki K)) ∧
            ((!decide (x9 = (-9 : Int32))) = false →
              ((!decide (b4 = (-9 : Int32))) = true →
                ax_AK d 234 (153, [some (ax_vr 9 0 184), some (ax_vi b1), none, some (ax_vi (b3 + 0)), some (ax_vi b4), some (ax_vi (b5 + 1)), some (ax_vi x6), some (ax_vi x9)], [], ax_mm I7 L8) (ax_ki K)) ∧
              ((!decide (b4 = (-9 : Int32))) = false →
                ax_AK d 234 (153, [some (ax_vr 9 0 184), some (ax_vi b1), none, some (ax_vi (b3 + 0)), some (ax_vi b5), some (ax_vi (b5 + 1)), some (ax_vi x6), some (ax_vi x9)], [], ax_mm I7 L8) (ax_ki K)))) ∧
          ((!decide (x9 = (1 : Int32))) = false →
            ((!decide (x9 = (-9 : Int32))) = true →
              ax_AK d 234 (153, [some (ax_vr 9 0 184), some (ax_vi b1), none, some (ax_vi (b3 + 1)), some (ax_vi b4), some (ax_vi (b5 + 1)), some (ax_vi x6), some (ax_vi x9)], [], ax_mm I7 L8) (ax_ki K)) ∧
            ((!decide (x9 = (-9 : Int32))) = false →
              ((!decide (b4 = (-9 : Int32))) = true →
                ax_AK d 234 (153, [some (ax_vr 9 0 184), some (ax_vi b1), none, some (ax_vi (b3 + 1)), some (ax_vi b4), some (ax_vi (b5 + 1)), some (ax_vi x6), some (ax_vi x9)], [], ax_mm I7 L8) (ax_ki K)) ∧
              ((!decide (b4 = (-9 : Int32))) = false →
                ax_AK d 234 (153, [some (ax_vr 9 0 184), some (ax_vi b1), none, some (ax_vi (b3 + 1)), some (ax_vi b5), some (ax_vi (b5 + 1)), some (ax_vi x6), some (ax_vi x9)], [], ax_mm I7 L8) (ax_ki K)))))) ∧
      ((!decide ((x6 - x6 / 10 * 10) = (9 : Int32))) = false →
        ((!decide ((-9 : Int32) = (1 : Int32))) = true →
          ((!decide ((-9 : Int32) = (-9 : Int32))) = true →
            ax_AK d 234 (153, [some (ax_vr 9 0 184), some (ax_vi b1), none, some (ax_vi (b3 + 0)), some (ax_vi b4), some (ax_vi (b5 + 1)), some (ax_vi x6), some (ax_vi (-9))], [], ax_mm I4 L5) (ax_ki K)) ∧
          ((!decide ((-9 : Int32) = (-9 : Int32))) = false →
            ((!decide (b4 = (-9 : Int32))) = true →
              ax_AK d 234 (153, [some (ax_vr 9 0 184), some (ax_vi b1), none, some (ax_vi (b3 + 0)), some (ax_vi b4), some (ax_vi (b5 + 1)), some (ax_vi x6), some (ax_vi (-9))], [], ax_mm I4 L5) (ax_ki K)) ∧
            ((!decide (b4 = (-9 : Int32))) = false →
              ax_AK d 234 (153, [some (ax_vr 9 0 184), some (ax_vi b1), none, some (ax_vi (b3 + 0)), some (ax_vi b5), some (ax_vi (b5 + 1)), some (ax_vi x6), some (ax_vi (-9))], [], ax_mm I4 L5) (ax_ki K)))) ∧
        ((!decide ((-9 : Int32) = (1 : Int32))) = false →
          ((!decide ((-9 : Int32) = (-9 : Int32))) = true →
            ax_AK d 234 (153, [some (ax_vr 9 0 184), some (ax_vi b1), none, some (ax_vi (b3 + 1)), some (ax_vi b4), some (ax_vi (b5 + 1)), some (ax_vi x6), some (ax_vi (-9))], [], ax_mm I4 L5) (ax_ki K)) ∧
          ((!decide ((-9 : Int32) = (-9 : Int32))) = false →
            ((!decide (b4 = (-9 : Int32))) = true →
              ax_AK d 234 (153, [some (ax_vr 9 0 184), some (ax_vi b1), none, some (ax_vi (b3 + 1)), some (ax_vi b4), some (ax_vi (b5 + 1)), some (ax_vi x6), some (ax_vi (-9))], [], ax_mm I4 L5) (ax_ki K)) ∧
            ((!decide (b4 = (-9 : Int32))) = false →
              ax_AK d 234 (153, [some (ax_vr 9 0 184), some (ax_vi b1), none, some (ax_vi (b3 + 1)), some (ax_vi b5), some (ax_vi (b5 + 1)), some (ax_vi x6), some (ax_vi (-9))], [], ax_mm I4 L5) (ax_ki K)))))))) : ax_AK d 234 (153, [some (ax_vr 9 0 184), some (ax_vi b1), z2, some (ax_vi b3), some (ax_vi b4), some (ax_vi b5), z6, z7], [], ax_mm I L) (ax_ki K) := ax_vcL ax_c234 1 (fun pc => Nat.beq pc 55 || Nat.beq pc 153) 47 rfl rfl h
set_option maxRecDepth 100000 in
set_option maxHeartbeats 8000000 in
theorem vc_X9_oddsFrom {d : Nat} {a0 : Int32} {a1 : Int32} {a2 : Int32} {a3 : Int32} {I : ax_I} {L : ax_J} {K : Int32 → ax_I → ax_J → Prop} (h :
  ((!decide (a0 = a1)) = true →
    ax_AK d 235 (30, [some (ax_vr 9 0 184), some (ax_vi a0), some (ax_vi a1), some (ax_vi a2), some (ax_vi a3), some (ax_vi 0), some (ax_vi 0), none], [], ax_mm I L) (ax_ki K)) ∧
  ((!decide (a0 = a1)) = false →
    ax_CI d 184 [ax_vr 9 0 184, ax_vi a0, ax_vi 6, ax_vi a3] I L (fun x3 I1 L2 =>
      ((!decide (x3 = a2)) = true →
        K 0 I1 L2) ∧
      ((!decide (x3 = a2)) = false →
        K 1 I1 L2)))) : ax_CI (d + 1) 235 [ax_vr 9 0 184, ax_vi a0, ax_vi a1, ax_vi a2, ax_vi a3] I L K := ax_vcI ax_c235 1 [some (ax_vr 9 0 184), some (ax_vi a0), some (ax_vi a1), some (ax_vi a2), some (ax_vi a3), none, none, none] (fun pc => Nat.beq pc 30 || Nat.beq pc 42) 14 rfl rfl rfl rfl h
set_option maxRecDepth 100000 in
set_option maxHeartbeats 8000000 in
theorem vc_X9_oddsFrom_30 {d : Nat} {b1 : Int32} {b2 : Int32} {b3 : Int32} {b4 : Int32} {b5 : Int32} {b6 : Int32} {z7 : Option ax_V} {I : ax_I} {L : ax_J} {K : Int32 → ax_I → ax_J → Prop} (h :
  (decide ((I 184 10) ≤ b6) = true →
    K b5 I L) ∧
  (decide ((I 184 10) ≤ b6) = false →
    ax_AK d 235 (42, [some (ax_vr 9 0 184), some (ax_vi b1), some (ax_vi b2), some (ax_vi b3), some (ax_vi b4), some (ax_vi b5), some (ax_vi b6), some (ax_vi 0)], [], ax_mm I L) (ax_ki K))) : ax_AK d 235 (30, [some (ax_vr 9 0 184), some (ax_vi b1), some (ax_vi b2), some (ax_vi b3), some (ax_vi b4), some (ax_vi b5), some (ax_vi b6), z7], [], ax_mm I L) (ax_ki K) := ax_vcL ax_c235 1 (fun pc => Nat.beq pc 30 || Nat.beq pc 42) 8 rfl rfl h
set_option maxRecDepth 100000 in
set_option maxHeartbeats 8000000 in
theorem vc_X9_oddsFrom_42 {d : Nat} {b1 : Int32} {b2 : Int32} {b3 : Int32} {b4 : Int32} {b5 : Int32} {b6 : Int32} {b7 : Int32} {I : ax_I} {L : ax_J} {K : Int32 → ax_I → ax_J → Prop} (h :
  (decide ((I 184 11) ≤ b7) = true →
    ax_AK d 235 (30, [some (ax_vr 9 0 184), some (ax_vi b1), some (ax_vi b2), some (ax_vi b3), some (ax_vi b4), some (ax_vi b5), some (ax_vi (b6 + 1)), some (ax_vi b7)], [], ax_mm I L) (ax_ki K)) ∧
  (decide ((I 184 11) ≤ b7) = false →
    ax_CV d 215 [ax_vr 9 0 184, ax_vi b1, ax_vi b6, ax_vi b7] I L (fun I1 L2 =>
      ax_CI d 235 [ax_vr 9 0 184, ax_vi (b1 + 1), ax_vi b2, ax_vi b3, ax_vi b4] I1 L2 (fun x6 I4 L5 =>
        ax_AK d 235 (42, [some (ax_vr 9 0 184), some (ax_vi b1), some (ax_vi b2), some (ax_vi b3), some (ax_vi b4), some (ax_vi (b5 + x6)), some (ax_vi b6), some (ax_vi (b7 + 1))], [], ax_mm I4 L5) (ax_ki K))))) : ax_AK d 235 (42, [some (ax_vr 9 0 184), some (ax_vi b1), some (ax_vi b2), some (ax_vi b3), some (ax_vi b4), some (ax_vi b5), some (ax_vi b6), some (ax_vi b7)], [], ax_mm I L) (ax_ki K) := ax_vcL ax_c235 1 (fun pc => Nat.beq pc 30 || Nat.beq pc 42) 24 rfl rfl h
set_option maxRecDepth 100000 in
set_option maxHeartbeats 8000000 in
theorem vc_X9_odds {d : Nat} {a0 : Int32} {a1 : Int32} {a2 : Int32} {I : ax_I} {L : ax_J} {K : Int32 → ax_I → ax_J → Prop} (h :
  ax_CI d 182 [ax_vr 9 0 184, ax_vi a0] I L (fun x3 I1 L2 =>
    (decide (x3 = (0 : Int32)) = true →
      K (-1) I1 L2) ∧
    (decide (x3 = (0 : Int32)) = false →
      ax_CI d 183 [ax_vr 9 0 184, ax_vi a1] I1 L2 (fun x6 I4 L5 =>
        (decide (x6 = (0 : Int32)) = true →
          K (-1) I4 L5) ∧
        (decide (x6 = (0 : Int32)) = false →
          ax_CI d 149 [ax_vi a2, ax_vi 0, ax_vi 3] I4 L5 (fun x9 I7 L8 =>
            ((!decide (x9 = (0 : Int32))) = true →
              ax_AK d 236 (33, [some (ax_vr 9 0 184), some (ax_vi a0), some (ax_vi a1), some (ax_vi a2), some (ax_vi 1), some (ax_vi 0)], [], ax_mm I7 L8) (ax_ki K)) ∧
            ((!decide (x9 = (0 : Int32))) = false →
              K (-1) I7 L8))))))) : ax_CI (d + 1) 236 [ax_vr 9 0 184, ax_vi a0, ax_vi a1, ax_vi a2] I L K := ax_vcI ax_c236 1 [some (ax_vr 9 0 184), some (ax_vi a0), some (ax_vi a1), some (ax_vi a2), none, none] (fun pc => Nat.beq pc 33) 19 rfl rfl rfl rfl h
set_option maxRecDepth 100000 in
set_option maxHeartbeats 8000000 in
theorem vc_X9_odds_33 {d : Nat} {b1 : Int32} {b2 : Int32} {b3 : Int32} {b4 : Int32} {b5 : Int32} {I : ax_I} {L : ax_J} {K : Int32 → ax_I → ax_J → Prop} (h :
  (decide (b3 ≤ b5) = true →
    ax_CI d 235 [ax_vr 9 0 184, ax_vi 0, ax_vi b3, ax_vi b1, ax_vi b2] I L (fun x3 I1 L2 =>
      ax_CI d 157 [ax_vr 9 0 184, ax_vl x3.toInt64, ax_vl b4.toInt64] I1 L2 (fun x6 I4 L5 =>
        K x6 I4 L5))) ∧
  (decide (b3 ≤ b5) = false →
    ax_AK d 236 (33, [some (ax_vr 9 0 184), some (ax_vi b1), some (ax_vi b2), some (ax_vi b3), some (ax_vi (b4 * ((I 184 10) * (I 184 11)))), some (ax_vi (b5 + 1))], [], ax_mm I L) (ax_ki K))) : ax_AK d 236 (33, [some (ax_vr 9 0 184), some (ax_vi b1), some (ax_vi b2), some (ax_vi b3), some (ax_vi b4), some (ax_vi b5)], [], ax_mm I L) (ax_ki K) := ax_vcL ax_c236 1 (fun pc => Nat.beq pc 33) 16 rfl rfl h
set_option maxRecDepth 100000 in
set_option maxHeartbeats 8000000 in
theorem vc_X9_lots {d : Nat} {a0 : Int32} {a1 : Int32} {I : ax_I} {L : ax_J} {K : Int32 → ax_I → ax_J → Prop} (h :
  ax_CI d 149 [ax_vi a0, ax_vi 1, ax_vi 20] I L (fun x3 I1 L2 =>
    (decide (x3 = (0 : Int32)) = true →
      K (-1) I1 L2) ∧
    (decide (x3 = (0 : Int32)) = false →
      ax_CI d 149 [ax_vi a1, ax_vi 1, ax_vi 2147483646] I1 L2 (fun x6 I4 L5 =>
        ((!decide (x6 = (0 : Int32))) = true →
          ((!decide ((I4 184 10) = (0 : Int32))) = true →
            (decide (((I4 184 27) + a0) ≤ (40 : Int32)) = true →
              ax_AK d 237 (56, [some (ax_vr 9 0 184), some (ax_vi a0), some (ax_vi a1), some (ax_vl a1.toInt64), none, some (ax_vi 0), some (ax_vi 0)], [], ax_mm I4 L5) (ax_ki K)) ∧
            (decide (((I4 184 27) + a0) ≤ (40 : Int32)) = false →
              K (-2) I4 L5)) ∧
          ((!decide ((I4 184 10) = (0 : Int32))) = false →
            K (-4) I4 L5)) ∧
        ((!decide (x6 = (0 : Int32))) = false →
          K (-1) I4 L5))))) : ax_CI (d + 1) 237 [ax_vr 9 0 184, ax_vi a0, ax_vi a1] I L K := ax_vcI ax_c237 1 [some (ax_vr 9 0 184), some (ax_vi a0), some (ax_vi a1), none, none, none, none] (fun pc => Nat.beq pc 56) 28 rfl rfl rfl rfl h
set_option maxRecDepth 100000 in
set_option maxHeartbeats 8000000 in
theorem vc_X9_lots_56 {d : Nat} {b1 : Int32} {b3 : Int64} {b5 : Int32} {b6 : Int32} {z2 : Option ax_V} {z4 : Option ax_V} {I : ax_I} {L : ax_J} {K : Int32 → ax_I → ax_J → Prop} (h :
  (decide (b1 ≤ b6) = true →
    K b5 I L) ∧
  (decide (b1 ≤ b6) = false →
    (!decide ((2147483647 : Int64) = 0)) = true ∧
    (!decide (((I 184 10).toInt64 : Int64) = 0)) = true ∧
    (!decide ((64 : Int64) = 0)) = true ∧
    (!decide (((I 184 11).toInt64 : Int64) = 0)) = true ∧
    ax_CI d 203 [ax_vr 9 0 184, ax_vi ((((48271 * b3) - (48271 * b3) / 2147483647 * 2147483647) - ((48271 * b3) - (48271 * b3) / 2147483647 * 2147483647) / ((I 184 10).toInt64) * ((I 184 10).toInt64)).toInt32), ax_vi (((((48271 * b3) - (48271 * b3) / 2147483647 * 2147483647) / 64) - (((48271 * b3) - (48271 * b3) / 2147483647 * 2147483647) / 64) / ((I 184 11).toInt64) * ((I 184 11).toInt64)).toInt32)] I L (fun x3 I1 L2 =>
      ax_AK d 237 (56, [some (ax_vr 9 0 184), some (ax_vi b1), none, some (ax_vl ((48271 * b3) - (48271 * b3) / 2147483647 * 2147483647)), none, some (ax_vi (b5 + x3)), some (ax_vi (b6 + 1))], [], ax_mm I1 L2) (ax_ki K)))) : ax_AK d 237 (56, [some (ax_vr 9 0 184), some (ax_vi b1), z2, some (ax_vl b3), z4, some (ax_vi b5), some (ax_vi b6)], [], ax_mm I L) (ax_ki K) := ax_vcL ax_c237 1 (fun pc => Nat.beq pc 56) 32 rfl rfl h
set_option maxRecDepth 100000 in
set_option maxHeartbeats 8000000 in
theorem vc_X9_counted {d : Nat} {a0 : Int32} {I : ax_I} {L : ax_J} {K : Int32 → ax_I → ax_J → Prop} (h :
  ax_AK d 238 (4, [some (ax_vr 9 0 184), some (ax_vi a0), some (ax_vi 0), some (ax_vi 0), none], [], ax_mm I L) (ax_ki K)) : ax_CI (d + 1) 238 [ax_vr 9 0 184, ax_vi a0] I L K := ax_vcI ax_c238 1 [some (ax_vr 9 0 184), some (ax_vi a0), none, none, none] (fun pc => Nat.beq pc 4 || Nat.beq pc 80 || Nat.beq pc 129 || Nat.beq pc 166 || Nat.beq pc 202) 6 rfl rfl rfl rfl h
set_option maxRecDepth 100000 in
set_option maxHeartbeats 8000000 in
theorem vc_X9_counted_4 {d : Nat} {b1 : Int32} {b2 : Int32} {b3 : Int32} {z4 : Option ax_V} {I : ax_I} {L : ax_J} {K : Int32 → ax_I → ax_J → Prop} (h :
  (decide ((I 184 11) ≤ b3) = true →
    ax_AK d 238 (80, [some (ax_vr 9 0 184), some (ax_vi b1), some (ax_vi b2), some (ax_vi 0), none], [], ax_mm I L) (ax_ki K)) ∧
  (decide ((I 184 11) ≤ b3) = false →
    ax_CI d 184 [ax_vr 9 0 184, ax_vi 0, ax_vi 6, ax_vi b3] I L (fun x3 I1 L2 =>
      (decide (x3 = (-9 : Int32)) = true →
        ((!decide (b1 = (3 : Int32))) = true →
          ((!decide (b1 = (4 : Int32))) = true →
            ax_AK d 238 (4, [some (ax_vr 9 0 184), some (ax_vi b1), some (ax_vi (b2 + 0)), some (ax_vi (b3 + 1)), some (ax_vi 0)], [], ax_mm I1 L2) (ax_ki K)) ∧
          ((!decide (b1 = (4 : Int32))) = false →
            ((!decide ((0 : Int32) = (0 : Int32))) = true →
              ax_AK d 238 (4, [some (ax_vr 9 0 184), some (ax_vi b1), some (ax_vi (b2 + 0)), some (ax_vi (b3 + 1)), some (ax_vi 0)], [], ax_mm I1 L2) (ax_ki K)) ∧
            ((!decide ((0 : Int32) = (0 : Int32))) = false →
              ax_CI d 184 [ax_vr 9 0 184, ax_vi 0, ax_vi 0, ax_vi b3] I1 L2 (fun x6 I4 L5 =>
                (decide (x6 = (-9 : Int32)) = true →
                  ax_AK d 238 (4, [some (ax_vr 9 0 184), some (ax_vi b1), some (ax_vi (b2 + 0)), some (ax_vi (b3 + 1)), some (ax_vi 0)], [], ax_mm I4 L5) (ax_ki K)) ∧
                (decide (x6 = (-9 : Int32)) = false →
                  ax_AK d 238 (4, [some (ax_vr 9 0 184), some (ax_vi b1), some (ax_vi (b2 + 1)), some (ax_vi (b3 + 1)), some (ax_vi 0)], [], ax_mm I4 L5) (ax_ki K)))))) ∧
        ((!decide (b1 = (3 : Int32))) = false →
          ((!decide ((0 : Int32) = (0 : Int32))) = true →
            ax_AK d 238 (4, [some (ax_vr 9 0 184), some (ax_vi b1), some (ax_vi (b2 + 1)), some (ax_vi (b3 + 1)), some (ax_vi 0)], [], ax_mm I1 L2) (ax_ki K)) ∧
          ((!decide ((0 : Int32) = (0 : Int32))) = false →
            ((!decide (b1 = (4 : Int32))) = true →
              ax_AK d 238 (4, [some (ax_vr 9 0 184), some (ax_vi b1), some (ax_vi (b2 + 0)), some (ax_vi (b3 + 1)), some (ax_vi 0)], [], ax_mm I1 L2) (ax_ki K)) ∧
            ((!decide (b1 = (4 : Int32))) = false →
              ((!decide ((0 : Int32) = (0 : Int32))) = true →
                ax_AK d 238 (4, [some (ax_vr 9 0 184), some (ax_vi b1), some (ax_vi (b2 + 0)), some (ax_vi (b3 + 1)), some (ax_vi 0)], [], ax_mm I1 L2) (ax_ki K)) ∧
              ((!decide ((0 : Int32) = (0 : Int32))) = false →
                ax_CI d 184 [ax_vr 9 0 184, ax_vi 0, ax_vi 0, ax_vi b3] I1 L2 (fun x9 I7 L8 =>
                  (decide (x9 = (-9 : Int32)) = true →
                    ax_AK d 238 (4, [some (ax_vr 9 0 184), some (ax_vi b1), some (ax_vi (b2 + 0)), some (ax_vi (b3 + 1)), some (ax_vi 0)], [], ax_mm I7 L8) (ax_ki K)) ∧
                  (decide (x9 = (-9 : Int32)) = false →
                    ax_AK d 238 (4, [some (ax_vr 9 0 184), some (ax_vi b1), some (ax_vi (b2 + 1)), some (ax_vi (b3 + 1)), some (ax_vi 0)], [], ax_mm I7 L8) (ax_ki K)))))))) ∧
      (decide (x3 = (-9 : Int32)) = false →
        ((!decide (b1 = (3 : Int32))) = true →
          ((!decide (b1 = (4 : Int32))) = true →
            ax_AK d 238 (4, [some (ax_vr 9 0 184), some (ax_vi b1), some (ax_vi (b2 + 0)), some (ax_vi (b3 + 1)), some (ax_vi 1)], [], ax_mm I1 L2) (ax_ki K)) ∧
          ((!decide (b1 = (4 : Int32))) = false →
            ((!decide ((1 : Int32) = (0 : Int32))) = true →
              ax_AK d 238 (4, [some (ax_vr 9 0 184), some (ax_vi b1), some (ax_vi (b2 + 0)), some (ax_vi (b3 + 1)), some (ax_vi 1)], [], ax_mm I1 L2) (ax_ki K)) ∧
            ((!decide ((1 : Int32) = (0 : Int32))) = false →
              ax_CI d 184 [ax_vr 9 0 184, ax_vi 0, ax_vi 0, ax_vi b3] I1 L2 (fun x12 I10 L11 =>
                (decide (x12 = (-9 : Int32)) = true →
                  ax_AK d 238 (4, [some (ax_vr 9 0 184), some (ax_vi b1), some (ax_vi (b2 + 0)), some (ax_vi (b3 + 1)), some (ax_vi 1)], [], ax_mm I10 L11) (ax_ki K)) ∧
                (decide (x12 = (-9 : Int32)) = false →
                  ax_AK d 238 (4, [some (ax_vr 9 0 184), some (ax_vi b1), some (ax_vi (b2 + 1)), some (ax_vi (b3 + 1)), some (ax_vi 1)], [], ax_mm I10 L11) (ax_ki K)))))) ∧
        ((!decide (b1 = (3 : Int32))) = false →
          ((!decide ((1 : Int32) = (0 : Int32))) = true →
            ax_AK d 238 (4, [some (ax_vr 9 0 184), some (ax_vi b1), some (ax_vi (b2 + 1)), some (ax_vi (b3 + 1)), some (ax_vi 1)], [], ax_mm I1 L2) (ax_ki K)) ∧
          ((!decide ((1 : Int32) = (0 : Int32))) = false →
            ((!decide (b1 = (4 : Int32))) = true →
              ax_AK d 238 (4, [some (ax_vr 9 0 184), some (ax_vi b1), some (ax_vi (b2 + 0)), some (ax_vi (b3 + 1)), some (ax_vi 1)], [], ax_mm I1 L2) (ax_ki K)) ∧
            ((!decide (b1 = (4 : Int32))) = false →
              ((!decide ((1 : Int32) = (0 : Int32))) = true →
                ax_AK d 238 (4, [some (ax_vr 9 0 184), some (ax_vi b1), some (ax_vi (b2 + 0)), some (ax_vi (b3 + 1)), some (ax_vi 1)], [], ax_mm I1 L2) (ax_ki K)) ∧
              ((!decide ((1 : Int32) = (0 : Int32))) = false →
                ax_CI d 184 [ax_vr 9 0 184, ax_vi 0, ax_vi 0, ax_vi b3] I1 L2 (fun x15 I13 L14 =>
                  (decide (x15 = (-9 : Int32)) = true →
                    ax_AK d 238 (4, [some (ax_vr 9 0 184), some (ax_vi b1), some (ax_vi (b2 + 0)), some (ax_vi (b3 + 1)), some (ax_vi 1)], [], ax_mm I13 L14) (ax_ki K)) ∧
                  (decide (x15 = (-9 : Int32)) = false →
                    ax_AK d 238 (4, [some (ax_vr 9 0 184), some (ax_vi b1), some (ax_vi (b2 + 1)), some (ax_vi (b3 + 1)), some (ax_vi 1)], [], ax_mm I13 L14) (ax_ki K))))))))))) : ax_AK d 238 (4, [some (ax_vr 9 0 184), some (ax_vi b1), some (ax_vi b2), some (ax_vi b3), z4], [], ax_mm I L) (ax_ki K) := ax_vcL ax_c238 1 (fun pc => Nat.beq pc 4 || Nat.beq pc 80 || Nat.beq pc 129 || Nat.beq pc 166 || Nat.beq pc 202) 40 rfl rfl h
set_option maxRecDepth 100000 in
set_option maxHeartbeats 8000000 in
theorem vc_X9_counted_80 {d : Nat} {b1 : Int32} {b2 : Int32} {b3 : Int32} {z4 : Option ax_V} {I : ax_I} {L : ax_J} {K : Int32 → ax_I → ax_J → Prop} (h :
  (decide ((I 184 10) ≤ b3) = true →
    ax_AK d 238 (129, [some (ax_vr 9 0 184), some (ax_vi b1), some (ax_vi b2), some (ax_vi 0), none], [], ax_mm I L) (ax_ki K)) ∧
  (decide ((I 184 10) ≤ b3) = false →
    ((!decide (b1 = (5 : Int32))) = true →
      ax_AK d 238 (80, [some (ax_vr 9 0 184), some (ax_vi b1), some (ax_vi (b2 + 0)), some (ax_vi (b3 + 1)), none], [], ax_mm I L) (ax_ki K)) ∧
    ((!decide (b1 = (5 : Int32))) = false →
      ax_inb b3 6 = true ∧
      (decide ((I 191 b3.toNatClampNeg) = (1 : Int32)) = true →
        ax_AK d 238 (80, [some (ax_vr 9 0 184), some (ax_vi b1), some (ax_vi (b2 + 1)), some (ax_vi (b3 + 1)), none], [], ax_mm I L) (ax_ki K)) ∧
      (decide ((I 191 b3.toNatClampNeg) = (1 : Int32)) = false →
        ax_inb b3 6 = true ∧
        ((!decide ((I 191 b3.toNatClampNeg) = (5 : Int32))) = true →
          ax_AK d 238 (80, [some (ax_vr 9 0 184), some (ax_vi b1), some (ax_vi (b2 + 0)), some (ax_vi (b3 + 1)), none], [], ax_mm I L) (ax_ki K)) ∧
        ((!decide ((I 191 b3.toNatClampNeg) = (5 : Int32))) = false →
          ax_AK d 238 (80, [some (ax_vr 9 0 184), some (ax_vi b1), some (ax_vi (b2 + 1)), some (ax_vi (b3 + 1)), none], [], ax_mm I L) (ax_ki K)))))) : ax_AK d 238 (80, [some (ax_vr 9 0 184), some (ax_vi b1), some (ax_vi b2), some (ax_vi b3), z4], [], ax_mm I L) (ax_ki K) := ax_vcL ax_c238 1 (fun pc => Nat.beq pc 4 || Nat.beq pc 80 || Nat.beq pc 129 || Nat.beq pc 166 || Nat.beq pc 202) 28 rfl rfl h
set_option maxRecDepth 100000 in
set_option maxHeartbeats 8000000 in
theorem vc_X9_counted_129 {d : Nat} {b1 : Int32} {b2 : Int32} {b3 : Int32} {z4 : Option ax_V} {I : ax_I} {L : ax_J} {K : Int32 → ax_I → ax_J → Prop} (h :
  (decide ((6 : Int32) ≤ b3) = true →
    ax_AK d 238 (166, [some (ax_vr 9 0 184), some (ax_vi b1), some (ax_vi b2), some (ax_vi 0), none], [], ax_mm I L) (ax_ki K)) ∧
  (decide ((6 : Int32) ≤ b3) = false →
    ((!decide (b1 = (6 : Int32))) = true →
      ax_AK d 238 (129, [some (ax_vr 9 0 184), some (ax_vi b1), some (ax_vi (b2 + 0)), some (ax_vi (b3 + 1)), none], [], ax_mm I L) (ax_ki K)) ∧
    ((!decide (b1 = (6 : Int32))) = false →
      ax_inb b3 6 = true ∧
      (decide ((I 186 b3.toNatClampNeg) < (0 : Int32)) = true →
        ax_AK d 238 (129, [some (ax_vr 9 0 184), some (ax_vi b1), some (ax_vi (b2 + 0)), some (ax_vi (b3 + 1)), none], [], ax_mm I L) (ax_ki K)) ∧
      (decide ((I 186 b3.toNatClampNeg) < (0 : Int32)) = false →
        ax_AK d 238 (129, [some (ax_vr 9 0 184), some (ax_vi b1), some (ax_vi (b2 + 1)), some (ax_vi (b3 + 1)), none], [], ax_mm I L) (ax_ki K))))) : ax_AK d 238 (129, [some (ax_vr 9 0 184), some (ax_vi b1), some (ax_vi b2), some (ax_vi b3), z4], [], ax_mm I L) (ax_ki K) := ax_vcL ax_c238 1 (fun pc => Nat.beq pc 4 || Nat.beq pc 80 || Nat.beq pc 129 || Nat.beq pc 166 || Nat.beq pc 202) 20 rfl rfl h
set_option maxRecDepth 100000 in
set_option maxHeartbeats 8000000 in
theorem vc_X9_counted_166 {d : Nat} {b1 : Int32} {b2 : Int32} {b3 : Int32} {z4 : Option ax_V} {I : ax_I} {L : ax_J} {K : Int32 → ax_I → ax_J → Prop} (h :
  (decide ((4 : Int32) ≤ b3) = true →
    ax_AK d 238 (202, [some (ax_vr 9 0 184), some (ax_vi b1), some (ax_vi b2), some (ax_vi 0), none], [], ax_mm I L) (ax_ki K)) ∧
  (decide ((4 : Int32) ≤ b3) = false →
    ((!decide (b1 = (7 : Int32))) = true →
      ax_AK d 238 (166, [some (ax_vr 9 0 184), some (ax_vi b1), some (ax_vi (b2 + 0)), some (ax_vi (b3 + 1)), none], [], ax_mm I L) (ax_ki K)) ∧
    ((!decide (b1 = (7 : Int32))) = false →
      ax_inb b3 4 = true ∧
      (decide ((I 189 b3.toNatClampNeg) < (0 : Int32)) = true →
        ax_AK d 238 (166, [some (ax_vr 9 0 184), some (ax_vi b1), some (ax_vi (b2 + 0)), some (ax_vi (b3 + 1)), none], [], ax_mm I L) (ax_ki K)) ∧
      (decide ((I 189 b3.toNatClampNeg) < (0 : Int32)) = false →
        ax_AK d 238 (166, [some (ax_vr 9 0 184), some (ax_vi b1), some (ax_vi (b2 + 1)), some (ax_vi (b3 + 1)), none], [], ax_mm I L) (ax_ki K))))) : ax_AK d 238 (166, [some (ax_vr 9 0 184), some (ax_vi b1), some (ax_vi b2), some (ax_vi b3), z4], [], ax_mm I L) (ax_ki K) := ax_vcL ax_c238 1 (fun pc => Nat.beq pc 4 || Nat.beq pc 80 || Nat.beq pc 129 || Nat.beq pc 166 || Nat.beq pc 202) 20 rfl rfl h
set_option maxRecDepth 100000 in
set_option maxHeartbeats 8000000 in
theorem vc_X9_counted_202 {d : Nat} {b1 : Int32} {b2 : Int32} {b3 : Int32} {z4 : Option ax_V} {I : ax_I} {L : ax_J} {K : Int32 → ax_I → ax_J → Prop} (h :
  (decide ((3 : Int32) ≤ b3) = true →
    (decide (b1 = 0) = true →
      K (I 184 10) I L) ∧
    (decide (b1 = 0) = false →
    (decide (b1 = 1) = true →
      K (I 184 11) I L) ∧
    (decide (b1 = 1) = false →
    (decide (b1 = 2) = true →
      K (I 184 27) I L) ∧
    (decide (b1 = 2) = false →
      K b2 I L)))) ∧
  (decide ((3 : Int32) ≤ b3) = false →
    ((!decide (b1 = (8 : Int32))) = true →
      ax_AK d 238 (202, [some (ax_vr 9 0 184), some (ax_vi b1), some (ax_vi (b2 + 0)), some (ax_vi (b3 + 1)), none], [], ax_mm I L) (ax_ki K)) ∧
    ((!decide (b1 = (8 : Int32))) = false →
      ax_inb b3 3 = true ∧
      (decide ((I 202 b3.toNatClampNeg) = (0 : Int32)) = true →
        ax_AK d 238 (202, [some (ax_vr 9 0 184), some (ax_vi b1), some (ax_vi (b2 + 0)), some (ax_vi (b3 + 1)), none], [], ax_mm I L) (ax_ki K)) ∧
      (decide ((I 202 b3.toNatClampNeg) = (0 : Int32)) = false →
        ax_AK d 238 (202, [some (ax_vr 9 0 184), some (ax_vi b1), some (ax_vi (b2 + 1)), some (ax_vi (b3 + 1)), none], [], ax_mm I L) (ax_ki K))))) : ax_AK d 238 (202, [some (ax_vr 9 0 184), some (ax_vi b1), some (ax_vi b2), some (ax_vi b3), z4], [], ax_mm I L) (ax_ki K) := ax_vcL ax_c238 1 (fun pc => Nat.beq pc 4 || Nat.beq pc 80 || Nat.beq pc 129 || Nat.beq pc 166 || Nat.beq pc 202) 20 rfl rfl h
set_option maxRecDepth 100000 in
set_option maxHeartbeats 8000000 in
theorem vc_X9_count {d : Nat} {a0 : Int32} {I : ax_I} {L : ax_J} {K : Int32 → ax_I → ax_J → Prop} (h :
  ax_CI d 149 [ax_vi a0, ax_vi 0, ax_vi 8] I L (fun x3 I1 L2 =>
    (decide (x3 = (0 : Int32)) = true →
      K (-1) I1 L2) ∧
    (decide (x3 = (0 : Int32)) = false →
      ax_CI d 238 [ax_vr 9 0 184, ax_vi a0] I1 L2 (fun x6 I4 L5 =>
        K x6 I4 L5)))) : ax_CI (d + 1) 239 [ax_vr 9 0 184, ax_vi a0] I L K := ax_vcI ax_c239 1 [some (ax_vr 9 0 184), some (ax_vi a0)] (fun _ => false) 11 rfl rfl rfl rfl h
set_option maxRecDepth 100000 in
set_option maxHeartbeats 8000000 in
theorem vc_X9_mix {d : Nat} {a0 : Int64} {I : ax_I} {L : ax_J} {K : ax_I → ax_J → Prop} (h :
  K I (ax_ul L 184 45 ((31 * (L 184 45)) + a0))) : ax_CV (d + 1) 240 [ax_vr 9 0 184, ax_vl a0] I L K := ax_vcV ax_c240 0 [some (ax_vr 9 0 184), some (ax_vl a0), none] (fun _ => false) 10 rfl rfl rfl rfl h
set_option maxRecDepth 100000 in
set_option maxHeartbeats 8000000 in
theorem vc_X9_mixTown {d : Nat} {I : ax_I} {L : ax_J} {K : ax_I → ax_J → Prop} (h :
  ax_AK d 241 (2, [some (ax_vr 9 0 184), some (ax_vi 0), none], [], ax_mm I L) (ax_kv K)) : ax_CV (d + 1) 241 [ax_vr 9 0 184] I L K := ax_vcV ax_c241 0 [some (ax_vr 9 0 184), none, none] (fun pc => Nat.beq pc 2 || Nat.beq pc 12 || Nat.beq pc 36 || Nat.beq pc 74 || Nat.beq pc 84 || Nat.beq pc 114 || Nat.beq pc 141) 4 rfl rfl rfl rfl h
set_option maxRecDepth 100000 in
set_option maxHeartbeats 8000000 in
theorem vc_X9_mixTown_2 {d : Nat} {b1 : Int32} {z2 : Option ax_V} {I : ax_I} {L : ax_J} {K : ax_I → ax_J → Prop} (h :
  (decide ((I 184 10) ≤ b1) = true →
    ax_AK d 241 (74, [some (ax_vr 9 0 184), some (ax_vi 0), none], [], ax_mm I L) (ax_kv K)) ∧
  (decide ((I 184 10) ≤ b1) = false →
    ax_AK d 241 (12, [some (ax_vr 9 0 184), some (ax_vi b1), some (ax_vi 0)], [], ax_mm I L) (ax_kv K))) : ax_AK d 241 (2, [some (ax_vr 9 0 184), some (ax_vi b1), z2], [], ax_mm I L) (ax_kv K) := ax_vcL ax_c241 0 (fun pc => Nat.beq pc 2 || Nat.beq pc 12 || Nat.beq pc 36 || Nat.beq pc 74 || Nat.beq pc 84 || Nat.beq pc 114 || Nat.beq pc 141) 8 rfl rfl h
set_option maxRecDepth 100000 in
set_option maxHeartbeats 8000000 in
theorem vc_X9_mixTown_12 {d : Nat} {b1 : Int32} {b2 : Int32} {I : ax_I} {L : ax_J} {K : ax_I → ax_J → Prop} (h :
  (decide ((5 : Int32) ≤ b2) = true →
    ax_AK d 241 (36, [some (ax_vr 9 0 184), some (ax_vi b1), some (ax_vi 0)], [], ax_mm I L) (ax_kv K)) ∧
  (decide ((5 : Int32) ≤ b2) = false →
    ax_CI d 194 [ax_vr 9 0 184, ax_vi b1, ax_vi b2] I L (fun x3 I1 L2 =>
      ax_CV d 240 [ax_vr 9 0 184, ax_vl x3.toInt64] I1 L2 (fun I4 L5 =>
        ax_AK d 241 (12, [some (ax_vr 9 0 184), some (ax_vi b1), some (ax_vi (b2 + 1))], [], ax_mm I4 L5) (ax_kv K))))) : ax_AK d 241 (12, [some (ax_vr 9 0 184), some (ax_vi b1), some (ax_vi b2)], [], ax_mm I L) (ax_kv K) := ax_vcL ax_c241 0 (fun pc => Nat.beq pc 2 || Nat.beq pc 12 || Nat.beq pc 36 || Nat.beq pc 74 || Nat.beq pc 84 || Nat.beq pc 114 || Nat.beq pc 141) 14 rfl rfl h
set_option maxRecDepth 100000 in
set_option maxHeartbeats 8000000 in
theorem vc_X9_mixTown_36 {d : Nat} {b1 : Int32} {b2 : Int32} {I : ax_I} {L : ax_J} {K : ax_I → ax_J → Prop} (h :
  (decide ((I 184 11) ≤ b2) = true →
    ax_AK d 241 (2, [some (ax_vr 9 0 184), some (ax_vi (b1 + 1)), some (ax_vi b2)], [], ax_mm I L) (ax_kv K)) ∧
  (decide ((I 184 11) ≤ b2) = false →
    ax_inb ((6 * b1) + b2) 36 = true ∧
    ax_CV d 240 [ax_vr 9 0 184, ax_vl ((I 193 ((6 * b1) + b2).toNatClampNeg).toInt64)] I L (fun I1 L2 =>
      ax_AK d 241 (36, [some (ax_vr 9 0 184), some (ax_vi b1), some (ax_vi (b2 + 1))], [], ax_mm I1 L2) (ax_kv K)))) : ax_AK d 241 (36, [some (ax_vr 9 0 184), some (ax_vi b1), some (ax_vi b2)], [], ax_mm I L) (ax_kv K) := ax_vcL ax_c241 0 (fun pc => Nat.beq pc 2 || Nat.beq pc 12 || Nat.beq pc 36 || Nat.beq pc 74 || Nat.beq pc 84 || Nat.beq pc 114 || Nat.beq pc 141) 19 rfl rfl h
set_option maxRecDepth 100000 in
set_option maxHeartbeats 8000000 in
theorem vc_X9_mixTown_74 {d : Nat} {b1 : Int32} {z2 : Option ax_V} {I : ax_I} {L : ax_J} {K : ax_I → ax_J → Prop} (h :
  (decide ((I 184 11) ≤ b1) = true →
    ax_AK d 241 (114, [some (ax_vr 9 0 184), some (ax_vi 0), none], [], ax_mm I L) (ax_kv K)) ∧
  (decide ((I 184 11) ≤ b1) = false →
    ax_AK d 241 (84, [some (ax_vr 9 0 184), some (ax_vi b1), some (ax_vi 0)], [], ax_mm I L) (ax_kv K))) : ax_AK d 241 (74, [some (ax_vr 9 0 184), some (ax_vi b1), z2], [], ax_mm I L) (ax_kv K) := ax_vcL ax_c241 0 (fun pc => Nat.beq pc 2 || Nat.beq pc 12 || Nat.beq pc 36 || Nat.beq pc 74 || Nat.beq pc 84 || Nat.beq pc 114 || Nat.beq pc 141) 8 rfl rfl h
set_option maxRecDepth 100000 in
set_option maxHeartbeats 8000000 in
theorem vc_X9_mixTown_84 {d : Nat} {b1 : Int32} {b2 : Int32} {I : ax_I} {L : ax_J} {K : ax_I → ax_J → Prop} (h :
  (decide ((4 : Int32) ≤ b2) = true →
    ax_AK d 241 (74, [some (ax_vr 9 0 184), some (ax_vi (b1 + 1)), some (ax_vi b2)], [], ax_mm I L) (ax_kv K)) ∧
  (decide ((4 : Int32) ≤ b2) = false →
    ax_CI d 196 [ax_vr 9 0 184, ax_vi b1, ax_vi b2] I L (fun x3 I1 L2 =>
      ax_CV d 240 [ax_vr 9 0 184, ax_vl x3.toInt64] I1 L2 (fun I4 L5 =>
        ax_AK d 241 (84, [some (ax_vr 9 0 184), some (ax_vi b1), some (ax_vi (b2 + 1))], [], ax_mm I4 L5) (ax_kv K))))) : ax_AK d 241 (84, [some (ax_vr 9 0 184), some (ax_vi b1), some (ax_vi b2)], [], ax_mm I L) (ax_kv K) := ax_vcL ax_c241 0 (fun pc => Nat.beq pc 2 || Nat.beq pc 12 || Nat.beq pc 36 || Nat.beq pc 74 || Nat.beq pc 84 || Nat.beq pc 114 || Nat.beq pc 141) 14 rfl rfl h
set_option maxRecDepth 100000 in
set_option maxHeartbeats 8000000 in
theorem vc_X9_mixTown_114 {d : Nat} {b1 : Int32} {z2 : Option ax_V} {I : ax_I} {L : ax_J} {K : ax_I → ax_J → Prop} (h :
  (decide ((I 184 27) ≤ b1) = true →
    ax_AK d 241 (141, [some (ax_vr 9 0 184), some (ax_vi 0), none], [], ax_mm I L) (ax_kv K)) ∧
  (decide ((I 184 27) ≤ b1) = false →
    ax_inb b1 40 = true ∧
    ax_CV d 240 [ax_vr 9 0 184, ax_vl ((I 200 b1.toNatClampNeg).toInt64)] I L (fun I1 L2 =>
      ax_AK d 241 (114, [some (ax_vr 9 0 184), some (ax_vi (b1 + 1)), none], [], ax_mm I1 L2) (ax_kv K)))) : ax_AK d 241 (114, [some (ax_vr 9 0 184), some (ax_vi b1), z2], [], ax_mm I L) (ax_kv K) := ax_vcL ax_c241 0 (fun pc => Nat.beq pc 2 || Nat.beq pc 12 || Nat.beq pc 36 || Nat.beq pc 74 || Nat.beq pc 84 || Nat.beq pc 114 || Nat.beq pc 141) 15 rfl rfl h
set_option maxRecDepth 100000 in
set_option maxHeartbeats 8000000 in
theorem vc_X9_mixTown_141 {d : Nat} {b1 : Int32} {z2 : Option ax_V} {I : ax_I} {L : ax_J} {K : ax_I → ax_J → Prop} (h :
  (decide ((3 : Int32) ≤ b1) = true →
    K I L) ∧
  (decide ((3 : Int32) ≤ b1) = false →
    ax_inb b1 3 = true ∧
    (decide ((I 202 b1.toNatClampNeg) = (0 : Int32)) = true →
      ax_CV d 240 [ax_vr 9 0 184, ax_vl (-1)] I L (fun I1 L2 =>
        ax_AK d 241 (141, [some (ax_vr 9 0 184), some (ax_vi (b1 + 1)), none], [], ax_mm I1 L2) (ax_kv K))) ∧
    (decide ((I 202 b1.toNatClampNeg) = (0 : Int32)) = false →
      ax_inb b1 3 = true ∧
      ax_CV d 240 [ax_vr 9 0 184, ax_vl ((I 203 b1.toNatClampNeg).toInt64)] I L (fun I4 L5 =>
        ax_AK d 241 (141, [some (ax_vr 9 0 184), some (ax_vi (b1 + 1)), none], [], ax_mm I4 L5) (ax_kv K))))) : ax_AK d 241 (141, [some (ax_vr 9 0 184), some (ax_vi b1), z2], [], ax_mm I L) (ax_kv K) := ax_vcL ax_c241 0 (fun pc => Nat.beq pc 2 || Nat.beq pc 12 || Nat.beq pc 36 || Nat.beq pc 74 || Nat.beq pc 84 || Nat.beq pc 114 || Nat.beq pc 141) 20 rfl rfl h
set_option maxRecDepth 100000 in
set_option maxHeartbeats 8000000 in
theorem vc_X9_digest {d : Nat} {I : ax_I} {L : ax_J} {K : Int64 → ax_I → ax_J → Prop} (h :
  ax_AK d 242 (9, [some (ax_vr 9 0 184), some (ax_vi 0), none], [], ax_mm I (ax_ul L 184 45 17)) (ax_kl K)) : ax_CL (d + 1) 242 [ax_vr 9 0 184] I L K := ax_vcJ ax_c242 2 [some (ax_vr 9 0 184), none, none] (fun pc => Nat.beq pc 9 || Nat.beq pc 37 || Nat.beq pc 56 || Nat.beq pc 91 || Nat.beq pc 109) 7 rfl rfl rfl rfl h
set_option maxRecDepth 100000 in
set_option maxHeartbeats 8000000 in
theorem vc_X9_digest_9 {d : Nat} {b1 : Int32} {z2 : Option ax_V} {I : ax_I} {L : ax_J} {K : Int64 → ax_I → ax_J → Prop} (h :
  (decide ((9 : Int32) ≤ b1) = true →
    ax_CV d 241 [ax_vr 9 0 184] I L (fun I1 L2 =>
      ax_AK d 242 (37, [some (ax_vr 9 0 184), some (ax_vi 0), none], [], ax_mm I1 L2) (ax_kl K))) ∧
  (decide ((9 : Int32) ≤ b1) = false →
    ax_CI d 238 [ax_vr 9 0 184, ax_vi b1] I L (fun x6 I4 L5 =>
      ax_CV d 240 [ax_vr 9 0 184, ax_vl x6.toInt64] I4 L5 (fun I7 L8 =>
        ax_AK d 242 (9, [some (ax_vr 9 0 184), some (ax_vi (b1 + 1)), none], [], ax_mm I7 L8) (ax_kl K))))) : ax_AK d 242 (9, [some (ax_vr 9 0 184), some (ax_vi b1), z2], [], ax_mm I L) (ax_kl K) := ax_vcL ax_c242 2 (fun pc => Nat.beq pc 9 || Nat.beq pc 37 || Nat.beq pc 56 || Nat.beq pc 91 || Nat.beq pc 109) 13 rfl rfl h
set_option maxRecDepth 100000 in
set_option maxHeartbeats 8000000 in
theorem vc_X9_digest_37 {d : Nat} {b1 : Int32} {z2 : Option ax_V} {I : ax_I} {L : ax_J} {K : Int64 → ax_I → ax_J → Prop} (h :
  (decide ((6 : Int32) ≤ b1) = true →
    ax_AK d 242 (91, [some (ax_vr 9 0 184), some (ax_vi 0), none], [], ax_mm I L) (ax_kl K)) ∧
  (decide ((6 : Int32) ≤ b1) = false →
    ax_inb b1 6 = true ∧
    ax_CV d 240 [ax_vr 9 0 184, ax_vl ((I 186 b1.toNatClampNeg).toInt64)] I L (fun I1 L2 =>
      ax_AK d 242 (56, [some (ax_vr 9 0 184), some (ax_vi b1), some (ax_vi 0)], [], ax_mm I1 L2) (ax_kl K)))) : ax_AK d 242 (37, [some (ax_vr 9 0 184), some (ax_vi b1), z2], [], ax_mm I L) (ax_kl K) := ax_vcL ax_c242 2 (fun pc => Nat.beq pc 9 || Nat.beq pc 37 || Nat.beq pc 56 || Nat.beq pc 91 || Nat.beq pc 109) 14 rfl rfl h
set_option maxRecDepth 100000 in
set_option maxHeartbeats 8000000 in
theorem vc_X9_digest_56 {d : Nat} {b1 : Int32} {b2 : Int32} {I : ax_I} {L : ax_J} {K : Int64 → ax_I → ax_J → Prop} (h :
  ax_inb b1 6 = true ∧
  (decide ((I 186 b1.toNatClampNeg) ≤ b2) = true →
    ax_AK d 242 (37, [some (ax_vr 9 0 184), some (ax_vi (b1 + 1)), some (ax_vi b2)], [], ax_mm I L) (ax_kl K)) ∧
  (decide ((I 186 b1.toNatClampNeg) ≤ b2) = false →
    ax_CI d 161 [ax_vr 9 0 184, ax_vi b1, ax_vi b2] I L (fun x3 I1 L2 =>
      ax_CV d 240 [ax_vr 9 0 184, ax_vl x3.toInt64] I1 L2 (fun I4 L5 =>
        ax_AK d 242 (56, [some (ax_vr 9 0 184), some (ax_vi b1), some (ax_vi (b2 + 1))], [], ax_mm I4 L5) (ax_kl K))))) : ax_AK d 242 (56, [some (ax_vr 9 0 184), some (ax_vi b1), some (ax_vi b2)], [], ax_mm I L) (ax_kl K) := ax_vcL ax_c242 2 (fun pc => Nat.beq pc 9 || Nat.beq pc 37 || Nat.beq pc 56 || Nat.beq pc 91 || Nat.beq pc 109) 17 rfl rfl h
set_option maxRecDepth 100000 in
set_option maxHeartbeats 8000000 in
theorem vc_X9_digest_91 {d : Nat} {b1 : Int32} {z2 : Option ax_V} {I : ax_I} {L : ax_J} {K : Int64 → ax_I → ax_J → Prop} (h :
  (decide ((4 : Int32) ≤ b1) = true →
    K (L 184 45) I L) ∧
  (decide ((4 : Int32) ≤ b1) = false →
    ax_inb b1 4 = true ∧
    ax_CV d 240 [ax_vr 9 0 184, ax_vl ((I 189 b1.toNatClampNeg).toInt64)] I L (fun I1 L2 =>
      ax_AK d 242 (109, [some (ax_vr 9 0 184), some (ax_vi b1), some (ax_vi 0)], [], ax_mm I1 L2) (ax_kl K)))) : ax_AK d 242 (91, [some (ax_vr 9 0 184), some (ax_vi b1), z2], [], ax_mm I L) (ax_kl K) := ax_vcL ax_c242 2 (fun pc => Nat.beq pc 9 || Nat.beq pc 37 || Nat.beq pc 56 || Nat.beq pc 91 || Nat.beq pc 109) 14 rfl rfl h
set_option maxRecDepth 100000 in
set_option maxHeartbeats 8000000 in
theorem vc_X9_digest_109 {d : Nat} {b1 : Int32} {b2 : Int32} {I : ax_I} {L : ax_J} {K : Int64 → ax_I → ax_J → Prop} (h :
  ax_inb b1 4 = true ∧
  (decide ((I 189 b1.toNatClampNeg) ≤ b2) = true →
    ax_AK d 242 (91, [some (ax_vr 9 0 184), some (ax_vi (b1 + 1)), some (ax_vi b2)], [], ax_mm I L) (ax_kl K)) ∧
  (decide ((I 189 b1.toNatClampNeg) ≤ b2) = false →
    ax_CI d 171 [ax_vr 9 0 184, ax_vi b1, ax_vi b2] I L (fun x3 I1 L2 =>
      ax_CV d 240 [ax_vr 9 0 184, ax_vl x3.toInt64] I1 L2 (fun I4 L5 =>
        ax_AK d 242 (109, [some (ax_vr 9 0 184), some (ax_vi b1), some (ax_vi (b2 + 1))], [], ax_mm I4 L5) (ax_kl K))))) : ax_AK d 242 (109, [some (ax_vr 9 0 184), some (ax_vi b1), some (ax_vi b2)], [], ax_mm I L) (ax_kl K) := ax_vcL ax_c242 2 (fun pc => Nat.beq pc 9 || Nat.beq pc 37 || Nat.beq pc 56 || Nat.beq pc 91 || Nat.beq pc 109) 17 rfl rfl h
set_option maxRecDepth 100000 in
set_option maxHeartbeats 8000000 in
theorem vc_J6_bitCount_0f7a4 {d : Nat} {a0 : Int32} {I : ax_I} {L : ax_J} {K : Int32 → ax_I → ax_J → Prop} (h :
  K ((((((((a0 - (((a0.toUInt32 >>> ((1 : Int32).toUInt32 &&& Int32.toUInt32 31)).toInt32) &&& 1431655765)) &&& 858993459) + ((((a0 - (((a0.toUInt32 >>> ((1 : Int32).toUInt32 &&& Int32.toUInt32 31)).toInt32) &&& 1431655765)).toUInt32 >>> ((2 : Int32).toUInt32 &&& Int32.toUInt32 31)).toInt32) &&& 858993459)) + (((((a0 - (((a0.toUInt32 >>> ((1 : Int32).toUInt32 &&& Int32.toUInt32 31)).toInt32) &&& 1431655765)) &&& 858993459) + ((((a0 - (((a0.toUInt32 >>> ((1 : Int32).toUInt32 &&& Int32.toUInt32 31)).toInt32) &&& 1431655765)).toUInt32 >>> ((2 : Int32).toUInt32 &&& Int32.toUInt32 31)).toInt32) &&& 858993459)).toUInt32 >>> ((4 : Int32).toUInt32 &&& Int32.toUInt32 31)).toInt32)) &&& 252645135) + (((((((a0 - (((a0.toUInt32 >>> ((1 : Int32).toUInt32 &&& Int32.toUInt32 31)).toInt32) &&& 1431655765)) &&& 858993459) + ((((a0 - (((a0.toUInt32 >>> ((1 : Int32).toUInt32 &&& Int32.toUInt32 31)).toInt32) &&& 1431655765)).toUInt32 >>> ((2 : Int32).toUInt32 &&& Int32.toUInt32 31)).toInt32) &&& 858993459)) + (((((a0 - (((a0.toUInt32 >>> ((1 : Int32).toUInt32 &&& Int32.toUInt32 31)).toInt32) &&& 1431655765)) &&& 858993459) + ((((a0 - (((a0.toUInt32 >>> ((1 : Int32).toUInt32 &&& Int32.toUInt32 31)).toInt32) &&& 1431655765)).toUInt32 >>> ((2 : Int32).toUInt32 &&& Int32.toUInt32 31)).toInt32) &&& 858993459)).toUInt32 >>> ((4 : Int32).toUInt32 &&& Int32.toUInt32 31)).toInt32)) &&& 252645135).toUInt32 >>> ((8 : Int32).toUInt32 &&& Int32.toUInt32 31)).toInt32)) + ((((((((a0 - (((a0.toUInt32 >>> ((1 : Int32).toUInt32 &&& Int32.toUInt32 31)).toInt32) &&& 1431655765)) &&& 858993459) + ((((a0 - (((a0.toUInt32 >>> ((1 : Int32).toUInt32 &&& Int32.toUInt32 31)).toInt32) &&& 1431655765)).toUInt32 >>> ((2 : Int32).toUInt32 &&& Int32.toUInt32 31)).toInt32) &&& 858993459)) + (((((a0 - (((a0.toUInt32 >>> ((1 : Int32).toUInt32 &&& Int32.toUInt32 31)).toInt32) &&& 1431655765)) &&& 858993459) + ((((a0 - (((a0.toUInt32 >>> ((1 : Int32).toUInt32 &&& Int32.toUInt32 31)).toInt32) &&& 1431655765)).toUInt32 >>> ((2 : Int32).toUInt32 &&& Int32.toUInt32 31)).toInt32) &&& 858993459)).toUInt32 >>> ((4 : Int32).toUInt32 &&& Int32.toUInt32 31)).toInt32)) &&& 252645135) + (((((((a0 - (((a0.toUInt32 >>> ((1 : Int32).toUInt32 &&& Int32.toUInt32 31)).toInt32) &&& 1431655765)) &&& 858993459) + ((((a0 - (((a0.toUInt32 >>> ((1 : Int32).toUInt32 &&& Int32.toUInt32 31)).toInt32) &&& 1431655765)).toUInt32 >>> ((2 : Int32).toUInt32 &&& Int32.toUInt32 31)).toInt32) &&& 858993459)) + (((((a0 - (((a0.toUInt32 >>> ((1 : Int32).toUInt32 &&& Int32.toUInt32 31)).toInt32) &&& 1431655765)) &&& 858993459) + ((((a0 - (((a0.toUInt32 >>> ((1 : Int32).toUInt32 &&& Int32.toUInt32 31)).toInt32) &&& 1431655765)).toUInt32 >>> ((2 : Int32).toUInt32 &&& Int32.toUInt32 31)).toInt32) &&& 858993459)).toUInt32 >>> ((4 : Int32).toUInt32 &&& Int32.toUInt32 31)).toInt32)) &&& 252645135).toUInt32 >>> ((8 : Int32).toUInt32 &&& Int32.toUInt32 31)).toInt32)).toUInt32 >>> ((16 : Int32).toUInt32 &&& Int32.toUInt32 31)).toInt32)) &&& 63) I L) : ax_CI (d + 1) 243 [ax_vi a0] I L K := ax_vcI ax_c243 1 [some (ax_vi a0)] (fun _ => false) 43 rfl rfl rfl rfl h
set_option maxRecDepth 100000 in
set_option maxHeartbeats 8000000 in
theorem vc_J7_fill_53178 {d : Nat} {n0 o0 : Nat} {a1 : Int32} {I : ax_I} {L : ax_J} {K : ax_I → ax_J → Prop} (h :
  ax_AK d 246 (5, [some (ax_vr 10 n0 o0), some (ax_vi a1), some (ax_vi 0), some (ax_vi (nI n0))], [], ax_mm I L) (ax_kv K)) : ax_CV (d + 1) 246 [ax_vr 10 n0 o0, ax_vi a1] I L K := ax_vcV ax_c246 0 [some (ax_vr 10 n0 o0), some (ax_vi a1), none, none] (fun pc => Nat.beq pc 5) 7 rfl rfl rfl rfl h
set_option maxRecDepth 100000 in
set_option maxHeartbeats 8000000 in
theorem vc_J7_fill_53178_5 {d : Nat} {n0 : Nat} {o0 : Nat} {b1 : Int32} {b2 : Int32} {b3 : Int32} {I : ax_I} {L : ax_J} {K : ax_I → ax_J → Prop} (h :
  (decide (b3 ≤ b2) = true →
    K I L) ∧
  (decide (b3 ≤ b2) = false →
    ax_inb b2 n0 = true ∧
    ax_AK d 246 (5, [some (ax_vr 10 n0 o0), some (ax_vi b1), some (ax_vi (b2 + 1)), some (ax_vi b3)], [], ax_mm (ax_ui I o0 b2.toNatClampNeg b1) L) (ax_kv K))) : ax_AK d 246 (5, [some (ax_vr 10 n0 o0), some (ax_vi b1), some (ax_vi b2), some (ax_vi b3)], [], ax_mm I L) (ax_kv K) := ax_vcL ax_c246 0 (fun pc => Nat.beq pc 5) 11 rfl rfl h
