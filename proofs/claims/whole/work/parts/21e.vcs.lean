set_option maxRecDepth 100000 in
set_option maxHeartbeats 8000000 in
theorem vc_X9_tell {d : Nat} {a0 : Int32} {a1 : Int32} {a2 : Int32} {I : ax_I} {L : ax_J} {K : Int32 → ax_I → ax_J → Prop} (h :
  ax_CI d 182 [ax_vr 9 0 184, ax_vi a0] I L (fun x3 I1 L2 =>
    (decide (x3 = (0 : Int32)) = true →
      K (-1) I1 L2) ∧
    (decide (x3 = (0 : Int32)) = false →
      ax_CI d 182 [ax_vr 9 0 184, ax_vi a1] I1 L2 (fun x6 I4 L5 =>
        (decide (x6 = (0 : Int32)) = true →
          K (-1) I4 L5) ∧
        (decide (x6 = (0 : Int32)) = false →
          (decide (a0 = a1) = true →
            K (-1) I4 L5) ∧
          (decide (a0 = a1) = false →
            ax_CI d 149 [ax_vi a2, ax_vi 0, ax_vi 1] I4 L5 (fun x9 I7 L8 =>
              ((!decide (x9 = (0 : Int32))) = true →
                ax_inb a0 6 = true ∧
                ax_CI d 150 [ax_vi (I7 192 a0.toNatClampNeg), ax_vi a1] I7 L8 (fun x12 I10 L11 =>
                  (decide (x12 = (0 : Int32)) = true →
                    ((!decide (a2 = (1 : Int32))) = true →
                      ax_inb a0 6 = true ∧
                      ax_inb a0 6 = true ∧
                      K 0 (ax_ui I10 192 a0.toNatClampNeg ((I10 192 a0.toNatClampNeg) &&& (((1 : Int32) <<< (a1 &&& 31)) ^^^ (-1)))) L11) ∧
                    ((!decide (a2 = (1 : Int32))) = false →
                      ax_inb a0 6 = true ∧
                      ax_inb a0 6 = true ∧
                      K 0 (ax_ui I10 192 a0.toNatClampNeg ((I10 192 a0.toNatClampNeg) ||| ((1 : Int32) <<< (a1 &&& 31)))) L11)) ∧
                  (decide (x12 = (0 : Int32)) = false →
                    ((!decide (a2 = (1 : Int32))) = true →
                      ax_inb a0 6 = true ∧
                      ax_inb a0 6 = true ∧
                      K 1 (ax_ui I10 192 a0.toNatClampNeg ((I10 192 a0.toNatClampNeg) &&& (((1 : Int32) <<< (a1 &&& 31)) ^^^ (-1)))) L11) ∧
                    ((!decide (a2 = (1 : Int32))) = false →
                      ax_inb a0 6 = true ∧
                      ax_inb a0 6 = true ∧
                      K 1 (ax_ui I10 192 a0.toNatClampNeg ((I10 192 a0.toNatClampNeg) ||| ((1 : Int32) <<< (a1 &&& 31)))) L11)))) ∧
              ((!decide (x9 = (0 : Int32))) = false →
                K (-1) I7 L8)))))))) : ax_CI (d + 1) 202 [ax_vr 9 0 184, ax_vi a0, ax_vi a1, ax_vi a2] I L K := ax_vcI ax_c202 1 [some (ax_vr 9 0 184), some (ax_vi a0), some (ax_vi a1), some (ax_vi a2), none] (fun _ => false) 46 rfl rfl rfl rfl h
set_option maxRecDepth 100000 in
set_option maxHeartbeats 8000000 in
theorem vc_X9_takeSaying {d : Nat} {a0 : Int32} {a1 : Int32} {I : ax_I} {L : ax_J} {K : Int32 → ax_I → ax_J → Prop} (h :
  ax_AK d 203 (2, [some (ax_vr 9 0 184), some (ax_vi a0), some (ax_vi a1), some (ax_vi 0)], [], ax_mm I L) (ax_ki K)) : ax_CI (d + 1) 203 [ax_vr 9 0 184, ax_vi a0, ax_vi a1] I L K := ax_vcI ax_c203 1 [some (ax_vr 9 0 184), some (ax_vi a0), some (ax_vi a1), none] (fun pc => Nat.beq pc 2) 4 rfl rfl rfl rfl h
set_option maxRecDepth 100000 in
set_option maxHeartbeats 8000000 in
theorem vc_X9_takeSaying_2 {d : Nat} {b1 : Int32} {b2 : Int32} {b3 : Int32} {I : ax_I} {L : ax_J} {K : Int32 → ax_I → ax_J → Prop} (h :
  (decide ((31 : Int32) ≤ b3) = true →
    ax_inb (I 184 27) 40 = true ∧
    ax_CI d 190 [ax_vr 9 0 184, ax_vi 0, ax_vi b1, ax_vi b2] (ax_ui (ax_ui I 200 (I 184 27).toNatClampNeg ((10 * b1) + b2)) 184 27 (((ax_ui I 200 (I 184 27).toNatClampNeg ((10 * b1) + b2)) 184 27) + 1)) L (fun x3 I1 L2 =>
      ((!decide (x3 = (1 : Int32))) = true →
        K 0 I1 L2) ∧
      ((!decide (x3 = (1 : Int32))) = false →
        K 1 I1 L2))) ∧
  (decide ((31 : Int32) ≤ b3) = false →
    ax_CI d 184 [ax_vr 9 0 184, ax_vi 0, ax_vi b3, ax_vi 0] I L (fun x6 I4 L5 =>
      ax_inb ((31 * (I 184 27)) + b3) 1240 = true ∧
      ax_AK d 203 (2, [some (ax_vr 9 0 184), some (ax_vi b1), some (ax_vi b2), some (ax_vi (b3 + 1))], [], ax_mm (ax_ui I4 201 ((31 * (I 184 27)) + b3).toNatClampNeg x6) L5) (ax_ki K)))) : ax_AK d 203 (2, [some (ax_vr 9 0 184), some (ax_vi b1), some (ax_vi b2), some (ax_vi b3)], [], ax_mm I L) (ax_ki K) := ax_vcL ax_c203 1 (fun pc => Nat.beq pc 2) 30 rfl rfl h
set_option maxRecDepth 100000 in
set_option maxHeartbeats 8000000 in
theorem vc_X9_say {d : Nat} {a0 : Int32} {a1 : Int32} {I : ax_I} {L : ax_J} {K : Int32 → ax_I → ax_J → Prop} (h :
  ax_CI d 182 [ax_vr 9 0 184, ax_vi a0] I L (fun x3 I1 L2 =>
    (decide (x3 = (0 : Int32)) = true →
      K (-1) I1 L2) ∧
    (decide (x3 = (0 : Int32)) = false →
      ax_CI d 183 [ax_vr 9 0 184, ax_vi a1] I1 L2 (fun x6 I4 L5 =>
        ((!decide (x6 = (0 : Int32))) = true →
          ((!decide ((I4 184 27) = (40 : Int32))) = true →
            ax_CI d 203 [ax_vr 9 0 184, ax_vi a0, ax_vi a1] I4 L5 (fun x9 I7 L8 =>
              ax_CI d 184 [ax_vr 9 0 184, ax_vi 0, ax_vi 6, ax_vi a1] I7 L8 (fun x12 I10 L11 =>
                ax_CI d 155 [ax_vr 9 0 184, ax_vi x12, ax_vi x9] I10 L11 (fun x15 I13 L14 =>
                  K x15 I13 L14)))) ∧
          ((!decide ((I4 184 27) = (40 : Int32))) = false →
            K (-2) I4 L5)) ∧
        ((!decide (x6 = (0 : Int32))) = false →
          K (-1) I4 L5))))) : ax_CI (d + 1) 204 [ax_vr 9 0 184, ax_vi a0, ax_vi a1] I L K := ax_vcI ax_c204 1 [some (ax_vr 9 0 184), some (ax_vi a0), some (ax_vi a1), none] (fun _ => false) 27 rfl rfl rfl rfl h
set_option maxRecDepth 100000 in
set_option maxHeartbeats 8000000 in
theorem vc_X9_undo {d : Nat} {a0 : Int32} {I : ax_I} {L : ax_J} {K : Int32 → ax_I → ax_J → Prop} (h :
  ax_CI d 149 [ax_vi a0, ax_vi 0, ax_vi (I 184 27)] I L (fun x3 I1 L2 =>
    ((!decide (x3 = (0 : Int32))) = true →
      ax_AK d 205 (23, [some (ax_vr 9 0 184), some (ax_vi a0), some (ax_vi ((I1 184 27) - a0)), some (ax_vi 0)], [], ax_mm I1 L2) (ax_ki K)) ∧
    ((!decide (x3 = (0 : Int32))) = false →
      K (-1) I1 L2))) : ax_CI (d + 1) 205 [ax_vr 9 0 184, ax_vi a0] I L K := ax_vcI ax_c205 1 [some (ax_vr 9 0 184), some (ax_vi a0), none, none] (fun pc => Nat.beq pc 23) 15 rfl rfl rfl rfl h
set_option maxRecDepth 100000 in
set_option maxHeartbeats 8000000 in
theorem vc_X9_undo_23 {d : Nat} {b1 : Int32} {b2 : Int32} {b3 : Int32} {I : ax_I} {L : ax_J} {K : Int32 → ax_I → ax_J → Prop} (h :
  (decide ((31 : Int32) ≤ b3) = true →
    K b2 (ax_ui I 184 27 b1) L) ∧
  (decide ((31 : Int32) ≤ b3) = false →
    (decide (b2 ≤ (0 : Int32)) = true →
      K b2 (ax_ui I 184 27 b1) L) ∧
    (decide (b2 ≤ (0 : Int32)) = false →
      ax_inb ((31 * b1) + b3) 1240 = true ∧
      ax_CV d 185 [ax_vr 9 0 184, ax_vi 0, ax_vi b3, ax_vi 0, ax_vi (I 201 ((31 * b1) + b3).toNatClampNeg)] I L (fun I1 L2 =>
        ax_AK d 205 (23, [some (ax_vr 9 0 184), some (ax_vi b1), some (ax_vi b2), some (ax_vi (b3 + 1))], [], ax_mm I1 L2) (ax_ki K))))) : ax_AK d 205 (23, [some (ax_vr 9 0 184), some (ax_vi b1), some (ax_vi b2), some (ax_vi b3)], [], ax_mm I L) (ax_ki K) := ax_vcL ax_c205 1 (fun pc => Nat.beq pc 23) 22 rfl rfl h
set_option maxRecDepth 100000 in
set_option maxHeartbeats 8000000 in
theorem vc_X9_canSet {d : Nat} {a0 : Int32} {I : ax_I} {L : ax_J} {K : Int32 → ax_I → ax_J → Prop} (h :
  ax_AK d 206 (4, [some (ax_vr 9 0 184), some (ax_vi a0), some (ax_vi 0), some (ax_vi 0)], [], ax_mm I L) (ax_ki K)) : ax_CI (d + 1) 206 [ax_vr 9 0 184, ax_vi a0] I L K := ax_vcI ax_c206 1 [some (ax_vr 9 0 184), some (ax_vi a0), none, none] (fun pc => Nat.beq pc 4) 6 rfl rfl rfl rfl h
set_option maxRecDepth 100000 in
set_option maxHeartbeats 8000000 in
theorem vc_X9_canSet_4 {d : Nat} {b1 : Int32} {b2 : Int32} {b3 : Int32} {I : ax_I} {L : ax_J} {K : Int32 → ax_I → ax_J → Prop} (h :
  (decide ((I 184 11) ≤ b3) = true →
    K b2 I L) ∧
  (decide ((I 184 11) ≤ b3) = false →
    ax_CI d 189 [ax_vr 9 0 184, ax_vi 0, ax_vi b1, ax_vi b3] I L (fun x3 I1 L2 =>
      (decide (x3 = (0 : Int32)) = true →
        ax_AK d 206 (4, [some (ax_vr 9 0 184), some (ax_vi b1), some (ax_vi (b2 ||| 0)), some (ax_vi (b3 + 1))], [], ax_mm I1 L2) (ax_ki K)) ∧
      (decide (x3 = (0 : Int32)) = false →
        ax_AK d 206 (4, [some (ax_vr 9 0 184), some (ax_vi b1), some (ax_vi (b2 ||| ((1 : Int32) <<< (b3 &&& 31)))), some (ax_vi (b3 + 1))], [], ax_mm I1 L2) (ax_ki K))))) : ax_AK d 206 (4, [some (ax_vr 9 0 184), some (ax_vi b1), some (ax_vi b2), some (ax_vi b3)], [], ax_mm I L) (ax_ki K) := ax_vcL ax_c206 1 (fun pc => Nat.beq pc 4) 21 rfl rfl h
set_option maxRecDepth 100000 in
set_option maxHeartbeats 8000000 in
theorem vc_X9_wantSet {d : Nat} {a0 : Int32} {I : ax_I} {L : ax_J} {K : Int32 → ax_I → ax_J → Prop} (h :
  ax_AK d 207 (4, [some (ax_vr 9 0 184), some (ax_vi a0), some (ax_vi 0), some (ax_vi 0)], [], ax_mm I L) (ax_ki K)) : ax_CI (d + 1) 207 [ax_vr 9 0 184, ax_vi a0] I L K := ax_vcI ax_c207 1 [some (ax_vr 9 0 184), some (ax_vi a0), none, none] (fun pc => Nat.beq pc 4) 6 rfl rfl rfl rfl h
set_option maxRecDepth 100000 in
set_option maxHeartbeats 8000000 in
theorem vc_X9_wantSet_4 {d : Nat} {b1 : Int32} {b2 : Int32} {b3 : Int32} {I : ax_I} {L : ax_J} {K : Int32 → ax_I → ax_J → Prop} (h :
  (decide ((I 184 11) ≤ b3) = true →
    K b2 I L) ∧
  (decide ((I 184 11) ≤ b3) = false →
    ax_inb ((6 * b1) + b3) 36 = true ∧
    (decide ((I 193 ((6 * b1) + b3).toNatClampNeg) ≤ (0 : Int32)) = true →
      ax_AK d 207 (4, [some (ax_vr 9 0 184), some (ax_vi b1), some (ax_vi (b2 ||| 0)), some (ax_vi (b3 + 1))], [], ax_mm I L) (ax_ki K)) ∧
    (decide ((I 193 ((6 * b1) + b3).toNatClampNeg) ≤ (0 : Int32)) = false →
      ax_AK d 207 (4, [some (ax_vr 9 0 184), some (ax_vi b1), some (ax_vi (b2 ||| ((1 : Int32) <<< (b3 &&& 31)))), some (ax_vi (b3 + 1))], [], ax_mm I L) (ax_ki K)))) : ax_AK d 207 (4, [some (ax_vr 9 0 184), some (ax_vi b1), some (ax_vi b2), some (ax_vi b3)], [], ax_mm I L) (ax_ki K) := ax_vcL ax_c207 1 (fun pc => Nat.beq pc 4) 24 rfl rfl h
set_option maxRecDepth 100000 in
set_option maxHeartbeats 8000000 in
theorem vc_X9_can {d : Nat} {a0 : Int32} {I : ax_I} {L : ax_J} {K : Int32 → ax_I → ax_J → Prop} (h :
  ax_CI d 182 [ax_vr 9 0 184, ax_vi a0] I L (fun x3 I1 L2 =>
    (decide (x3 = (0 : Int32)) = true →
      K (-1) I1 L2) ∧
    (decide (x3 = (0 : Int32)) = false →
      ax_CI d 206 [ax_vr 9 0 184, ax_vi a0] I1 L2 (fun x6 I4 L5 =>
        K x6 I4 L5)))) : ax_CI (d + 1) 208 [ax_vr 9 0 184, ax_vi a0] I L K := ax_vcI ax_c208 1 [some (ax_vr 9 0 184), some (ax_vi a0)] (fun _ => false) 10 rfl rfl rfl rfl h
set_option maxRecDepth 100000 in
set_option maxHeartbeats 8000000 in
theorem vc_X9_knows {d : Nat} {a0 : Int32} {I : ax_I} {L : ax_J} {K : Int32 → ax_I → ax_J → Prop} (h :
  ax_CI d 182 [ax_vr 9 0 184, ax_vi a0] I L (fun x3 I1 L2 =>
    (decide (x3 = (0 : Int32)) = true →
      K (-1) I1 L2) ∧
    (decide (x3 = (0 : Int32)) = false →
      ax_CI d 206 [ax_vr 9 0 184, ax_vi a0] I1 L2 (fun x6 I4 L5 =>
        ax_CI d 207 [ax_vr 9 0 184, ax_vi a0] I4 L5 (fun x9 I7 L8 =>
          ax_CI d 184 [ax_vr 9 0 184, ax_vi 0, ax_vi 24, ax_vi a0] I7 L8 (fun x12 I10 L11 =>
            K ((x6 &&& x9) &&& x12) I10 L11)))))) : ax_CI (d + 1) 209 [ax_vr 9 0 184, ax_vi a0] I L K := ax_vcI ax_c209 1 [some (ax_vr 9 0 184), some (ax_vi a0)] (fun _ => false) 20 rfl rfl rfl rfl h
set_option maxRecDepth 100000 in
set_option maxHeartbeats 8000000 in
theorem vc_X9_dusk {d : Nat} {I : ax_I} {L : ax_J} {K : Int32 → ax_I → ax_J → Prop} (h :
  ax_AK d 210 (4, [some (ax_vr 9 0 184), some (ax_vi 0), some (ax_vi 0)], [], ax_mm I L) (ax_ki K)) : ax_CI (d + 1) 210 [ax_vr 9 0 184] I L K := ax_vcI ax_c210 1 [some (ax_vr 9 0 184), none, none] (fun pc => Nat.beq pc 4) 6 rfl rfl rfl rfl h
set_option maxRecDepth 100000 in
set_option maxHeartbeats 8000000 in
theorem vc_X9_dusk_4 {d : Nat} {b1 : Int32} {b2 : Int32} {I : ax_I} {L : ax_J} {K : Int32 → ax_I → ax_J → Prop} (h :
  (decide ((I 184 10) ≤ b2) = true →
    ((!decide ((I 184 10) = (0 : Int32))) = true →
      ax_CI d 191 [ax_vr 9 0 184, ax_vi 0] I L (fun x3 I1 L2 =>
        ax_CI d 155 [ax_vr 9 0 184, ax_vi b1, ax_vi x3] I1 L2 (fun x6 I4 L5 =>
          K x6 I4 L5))) ∧
    ((!decide ((I 184 10) = (0 : Int32))) = false →
      ax_CI d 155 [ax_vr 9 0 184, ax_vi b1, ax_vi 0] I L (fun x9 I7 L8 =>
        K x9 I7 L8))) ∧
  (decide ((I 184 10) ≤ b2) = false →
    ax_CI d 192 [ax_vr 9 0 184, ax_vi 0, ax_vi b2] I L (fun x12 I10 L11 =>
      ax_AK d 210 (4, [some (ax_vr 9 0 184), some (ax_vi (b1 + x12)), some (ax_vi (b2 + 1))], [], ax_mm I10 L11) (ax_ki K)))) : ax_AK d 210 (4, [some (ax_vr 9 0 184), some (ax_vi b1), some (ax_vi b2)], [], ax_mm I L) (ax_ki K) := ax_vcL ax_c210 1 (fun pc => Nat.beq pc 4) 15 rfl rfl h
set_option maxRecDepth 100000 in
set_option maxHeartbeats 8000000 in
theorem vc_X9_keep {d : Nat} {a0 : Int32} {I : ax_I} {L : ax_J} {K : Int32 → ax_I → ax_J → Prop} (h :
  ax_CI d 149 [ax_vi a0, ax_vi 0, ax_vi 2] I L (fun x3 I1 L2 =>
    ((!decide (x3 = (0 : Int32))) = true →
      ((!decide ((I1 184 10) = (0 : Int32))) = true →
        (ax_inb a0 3 && ax_bit 1) = true ∧
        ax_inb a0 3 = true ∧
        ax_AK d 211 (40, [some (ax_vr 9 0 184), some (ax_vi a0), some (ax_vi 0)], [], ax_mm (ax_ui (ax_ui I1 202 a0.toNatClampNeg 1) 203 a0.toNatClampNeg ((ax_ui I1 202 a0.toNatClampNeg 1) 184 27)) L2) (ax_ki K)) ∧
      ((!decide ((I1 184 10) = (0 : Int32))) = false →
        K (-4) I1 L2)) ∧
    ((!decide (x3 = (0 : Int32))) = false →
      K (-1) I1 L2))) : ax_CI (d + 1) 211 [ax_vr 9 0 184, ax_vi a0] I L K := ax_vcI ax_c211 1 [some (ax_vr 9 0 184), some (ax_vi a0), none] (fun pc => Nat.beq pc 40 || Nat.beq pc 72 || Nat.beq pc 103 || Nat.beq pc 136) 23 rfl rfl rfl rfl h
set_option maxRecDepth 100000 in
set_option maxHeartbeats 8000000 in
theorem vc_X9_keep_40 {d : Nat} {b1 : Int32} {b2 : Int32} {I : ax_I} {L : ax_J} {K : Int32 → ax_I → ax_J → Prop} (h :
  (decide ((31 : Int32) ≤ b2) = true →
    ax_AK d 211 (72, [some (ax_vr 9 0 184), some (ax_vi b1), some (ax_vi 0)], [], ax_mm I L) (ax_ki K)) ∧
  (decide ((31 : Int32) ≤ b2) = false →
    ax_CI d 184 [ax_vr 9 0 184, ax_vi 0, ax_vi b2, ax_vi 0] I L (fun x3 I1 L2 =>
      ax_inb ((31 * b1) + b2) 93 = true ∧
      ax_AK d 211 (40, [some (ax_vr 9 0 184), some (ax_vi b1), some (ax_vi (b2 + 1))], [], ax_mm (ax_ui I1 204 ((31 * b1) + b2).toNatClampNeg x3) L2) (ax_ki K)))) : ax_AK d 211 (40, [some (ax_vr 9 0 184), some (ax_vi b1), some (ax_vi b2)], [], ax_mm I L) (ax_ki K) := ax_vcL ax_c211 1 (fun pc => Nat.beq pc 40 || Nat.beq pc 72 || Nat.beq pc 103 || Nat.beq pc 136) 20 rfl rfl h
set_option maxRecDepth 100000 in
set_option maxHeartbeats 8000000 in
theorem vc_X9_keep_72 {d : Nat} {b1 : Int32} {b2 : Int32} {I : ax_I} {L : ax_J} {K : Int32 → ax_I → ax_J → Prop} (h :
  (decide ((36 : Int32) ≤ b2) = true →
    ax_AK d 211 (103, [some (ax_vr 9 0 184), some (ax_vi b1), some (ax_vi 0)], [], ax_mm I L) (ax_ki K)) ∧
  (decide ((36 : Int32) ≤ b2) = false →
    ax_inb b2 36 = true ∧
    ax_inb ((36 * b1) + b2) 108 = true ∧
    ax_AK d 211 (72, [some (ax_vr 9 0 184), some (ax_vi b1), some (ax_vi (b2 + 1))], [], ax_mm (ax_ui I 205 ((36 * b1) + b2).toNatClampNeg (I 193 b2.toNatClampNeg)) L) (ax_ki K))) : ax_AK d 211 (72, [some (ax_vr 9 0 184), some (ax_vi b1), some (ax_vi b2)], [], ax_mm I L) (ax_ki K) := ax_vcL ax_c211 1 (fun pc => Nat.beq pc 40 || Nat.beq pc 72 || Nat.beq pc 103 || Nat.beq pc 136) 19 rfl rfl h
set_option maxRecDepth 100000 in
set_option maxHeartbeats 8000000 in
theorem vc_X9_keep_103 {d : Nat} {b1 : Int32} {b2 : Int32} {I : ax_I} {L : ax_J} {K : Int32 → ax_I → ax_J → Prop} (h :
  (decide ((I 184 27) ≤ b2) = true →
    ax_AK d 211 (136, [some (ax_vr 9 0 184), some (ax_vi b1), some (ax_vi 0)], [], ax_mm I L) (ax_ki K)) ∧
  (decide ((I 184 27) ≤ b2) = false →
    ax_inb b2 40 = true ∧
    ax_inb ((40 * b1) + b2) 120 = true ∧
    ax_AK d 211 (103, [some (ax_vr 9 0 184), some (ax_vi b1), some (ax_vi (b2 + 1))], [], ax_mm (ax_ui I 206 ((40 * b1) + b2).toNatClampNeg (I 200 b2.toNatClampNeg)) L) (ax_ki K))) : ax_AK d 211 (103, [some (ax_vr 9 0 184), some (ax_vi b1), some (ax_vi b2)], [], ax_mm I L) (ax_ki K) := ax_vcL ax_c211 1 (fun pc => Nat.beq pc 40 || Nat.beq pc 72 || Nat.beq pc 103 || Nat.beq pc 136) 20 rfl rfl h
set_option maxRecDepth 100000 in
set_option maxHeartbeats 8000000 in
theorem vc_X9_keep_136 {d : Nat} {b1 : Int32} {b2 : Int32} {I : ax_I} {L : ax_J} {K : Int32 → ax_I → ax_J → Prop} (h :
  (decide ((31 * (I 184 27)) ≤ b2) = true →
    K (I 184 27) I L) ∧
  (decide ((31 * (I 184 27)) ≤ b2) = false →
    ax_inb b2 1240 = true ∧
    ax_inb ((1240 * b1) + b2) 3720 = true ∧
    ax_AK d 211 (136, [some (ax_vr 9 0 184), some (ax_vi b1), some (ax_vi (b2 + 1))], [], ax_mm (ax_ui I 207 ((1240 * b1) + b2).toNatClampNeg (I 201 b2.toNatClampNeg)) L) (ax_ki K))) : ax_AK d 211 (136, [some (ax_vr 9 0 184), some (ax_vi b1), some (ax_vi b2)], [], ax_mm I L) (ax_ki K) := ax_vcL ax_c211 1 (fun pc => Nat.beq pc 40 || Nat.beq pc 72 || Nat.beq pc 103 || Nat.beq pc 136) 22 rfl rfl h
set_option maxRecDepth 100000 in
set_option maxHeartbeats 8000000 in
theorem vc_X9_on {d : Nat} {a0 : Int32} {I : ax_I} {L : ax_J} {K : Int32 → ax_I → ax_J → Prop} (h :
  ax_CI d 149 [ax_vi a0, ax_vi 0, ax_vi 2] I L (fun x3 I1 L2 =>
    ((!decide (x3 = (0 : Int32))) = true →
      ax_inb a0 3 = true ∧
      ((!decide ((I1 202 a0.toNatClampNeg) = (0 : Int32))) = true →
        ax_inb a0 3 = true ∧
        ax_AK d 212 (38, [some (ax_vr 9 0 184), some (ax_vi a0), some (ax_vi 0)], [], ax_mm (ax_ui I1 184 27 (I1 203 a0.toNatClampNeg)) L2) (ax_ki K)) ∧
      ((!decide ((I1 202 a0.toNatClampNeg) = (0 : Int32))) = false →
        ax_CI d 152 [ax_vr 9 0 184, ax_vi 1] I1 L2 (fun x6 I4 L5 =>
          K x6 I4 L5))) ∧
    ((!decide (x3 = (0 : Int32))) = false →
      K (-1) I1 L2))) : ax_CI (d + 1) 212 [ax_vr 9 0 184, ax_vi a0] I L K := ax_vcI ax_c212 1 [some (ax_vr 9 0 184), some (ax_vi a0), none] (fun pc => Nat.beq pc 38 || Nat.beq pc 70 || Nat.beq pc 101 || Nat.beq pc 134) 20 rfl rfl rfl rfl h
set_option maxRecDepth 100000 in
set_option maxHeartbeats 8000000 in
theorem vc_X9_on_38 {d : Nat} {b1 : Int32} {b2 : Int32} {I : ax_I} {L : ax_J} {K : Int32 → ax_I → ax_J → Prop} (h :
  (decide ((31 : Int32) ≤ b2) = true →
    ax_AK d 212 (70, [some (ax_vr 9 0 184), some (ax_vi b1), some (ax_vi 0)], [], ax_mm I L) (ax_ki K)) ∧
  (decide ((31 : Int32) ≤ b2) = false →
    ax_inb ((31 * b1) + b2) 93 = true ∧
    ax_CV d 185 [ax_vr 9 0 184, ax_vi 0, ax_vi b2, ax_vi 0, ax_vi (I 204 ((31 * b1) + b2).toNatClampNeg)] I L (fun I1 L2 =>
      ax_AK d 212 (38, [some (ax_vr 9 0 184), some (ax_vi b1), some (ax_vi (b2 + 1))], [], ax_mm I1 L2) (ax_ki K)))) : ax_AK d 212 (38, [some (ax_vr 9 0 184), some (ax_vi b1), some (ax_vi b2)], [], ax_mm I L) (ax_ki K) := ax_vcL ax_c212 1 (fun pc => Nat.beq pc 38 || Nat.beq pc 70 || Nat.beq pc 101 || Nat.beq pc 134) 20 rfl rfl h
set_option maxRecDepth 100000 in
set_option maxHeartbeats 8000000 in
theorem vc_X9_on_70 {d : Nat} {b1 : Int32} {b2 : Int32} {I : ax_I} {L : ax_J} {K : Int32 → ax_I → ax_J → Prop} (h :
  (decide ((36 : Int32) ≤ b2) = true →
    ax_AK d 212 (101, [some (ax_vr 9 0 184), some (ax_vi b1), some (ax_vi 0)], [], ax_mm I L) (ax_ki K)) ∧
  (decide ((36 : Int32) ≤ b2) = false →
    ax_inb ((36 * b1) + b2) 108 = true ∧
    ax_inb b2 36 = true ∧
    ax_AK d 212 (70, [some (ax_vr 9 0 184), some (ax_vi b1), some (ax_vi (b2 + 1))], [], ax_mm (ax_ui I 193 b2.toNatClampNeg (I 205 ((36 * b1) + b2).toNatClampNeg)) L) (ax_ki K))) : ax_AK d 212 (70, [some (ax_vr 9 0 184), some (ax_vi b1), some (ax_vi b2)], [], ax_mm I L) (ax_ki K) := ax_vcL ax_c212 1 (fun pc => Nat.beq pc 38 || Nat.beq pc 70 || Nat.beq pc 101 || Nat.beq pc 134) 19 rfl rfl h
set_option maxRecDepth 100000 in
set_option maxHeartbeats 8000000 in
theorem vc_X9_on_101 {d : Nat} {b1 : Int32} {b2 : Int32} {I : ax_I} {L : ax_J} {K : Int32 → ax_I → ax_J → Prop} (h :
  (decide ((I 184 27) ≤ b2) = true →
    ax_AK d 212 (134, [some (ax_vr 9 0 184), some (ax_vi b1), some (ax_vi 0)], [], ax_mm I L) (ax_ki K)) ∧
  (decide ((I 184 27) ≤ b2) = false →
    ax_inb ((40 * b1) + b2) 120 = true ∧
    ax_inb b2 40 = true ∧
    ax_AK d 212 (101, [some (ax_vr 9 0 184), some (ax_vi b1), some (ax_vi (b2 + 1))], [], ax_mm (ax_ui I 200 b2.toNatClampNeg (I 206 ((40 * b1) + b2).toNatClampNeg)) L) (ax_ki K))) : ax_AK d 212 (101, [some (ax_vr 9 0 184), some (ax_vi b1), some (ax_vi b2)], [], ax_mm I L) (ax_ki K) := ax_vcL ax_c212 1 (fun pc => Nat.beq pc 38 || Nat.beq pc 70 || Nat.beq pc 101 || Nat.beq pc 134) 20 rfl rfl h
set_option maxRecDepth 100000 in
set_option maxHeartbeats 8000000 in
theorem vc_X9_on_134 {d : Nat} {b1 : Int32} {b2 : Int32} {I : ax_I} {L : ax_J} {K : Int32 → ax_I → ax_J → Prop} (h :
  (decide ((31 * (I 184 27)) ≤ b2) = true →
    K (I 184 27) I L) ∧
  (decide ((31 * (I 184 27)) ≤ b2) = false →
    ax_inb ((1240 * b1) + b2) 3720 = true ∧
    ax_inb b2 1240 = true ∧
    ax_AK d 212 (134, [some (ax_vr 9 0 184), some (ax_vi b1), some (ax_vi (b2 + 1))], [], ax_mm (ax_ui I 201 b2.toNatClampNeg (I 207 ((1240 * b1) + b2).toNatClampNeg)) L) (ax_ki K))) : ax_AK d 212 (134, [some (ax_vr 9 0 184), some (ax_vi b1), some (ax_vi b2)], [], ax_mm I L) (ax_ki K) := ax_vcL ax_c212 1 (fun pc => Nat.beq pc 38 || Nat.beq pc 70 || Nat.beq pc 101 || Nat.beq pc 134) 22 rfl rfl h
set_option maxRecDepth 100000 in
set_option maxHeartbeats 8000000 in
theorem vc_X9_best {d : Nat} {a0 : Int32} {I : ax_I} {L : ax_J} {K : Int32 → ax_I → ax_J → Prop} (h :
  ax_CI d 182 [ax_vr 9 0 184, ax_vi a0] I L (fun x3 I1 L2 =>
    ((!decide (x3 = (0 : Int32))) = true →
      ax_CI d 192 [ax_vr 9 0 184, ax_vi 0, ax_vi a0] I1 L2 (fun x6 I4 L5 =>
        ax_AK d 213 (23, [some (ax_vr 9 0 184), some (ax_vi a0), some (ax_vi 9), some (ax_vi x6), some (ax_vi 0), none], [], ax_mm I4 L5) (ax_ki K))) ∧
    ((!decide (x3 = (0 : Int32))) = false →
      K (-1) I1 L2))) : ax_CI (d + 1) 213 [ax_vr 9 0 184, ax_vi a0] I L K := ax_vcI ax_c213 1 [some (ax_vr 9 0 184), some (ax_vi a0), none, none, none, none] (fun pc => Nat.beq pc 23) 15 rfl rfl rfl rfl h
set_option maxRecDepth 100000 in
set_option maxHeartbeats 8000000 in
theorem vc_X9_best_23 {d : Nat} {b1 : Int32} {b2 : Int32} {b3 : Int32} {b4 : Int32} {z5 : Option ax_V} {I : ax_I} {L : ax_J} {K : Int32 → ax_I → ax_J → Prop} (h :
  (decide ((I 184 11) ≤ b4) = true →
    ax_CI d 155 [ax_vr 9 0 184, ax_vi b3, ax_vi b2] I L (fun x3 I1 L2 =>
      K x3 I1 L2)) ∧
  (decide ((I 184 11) ≤ b4) = false →
    ax_CV d 186 [ax_vr 9 0 184, ax_vi 0, ax_vi 1] I L (fun I4 L5 =>
      ax_CI d 190 [ax_vr 9 0 184, ax_vi 1, ax_vi b1, ax_vi b4] I4 L5 (fun x9 I7 L8 =>
        ax_CI d 192 [ax_vr 9 0 184, ax_vi 1, ax_vi b1] I7 L8 (fun x12 I10 L11 =>
          (decide (x12 ≤ b3) = true →
            (decide (x12 ≤ b3) = true →
              ax_AK d 213 (23, [some (ax_vr 9 0 184), some (ax_vi b1), some (ax_vi b2), some (ax_vi b3), some (ax_vi (b4 + 1)), some (ax_vi x12)], [], ax_mm I10 L11) (ax_ki K)) ∧
            (decide (x12 ≤ b3) = false →
              ax_AK d 213 (23, [some (ax_vr 9 0 184), some (ax_vi b1), some (ax_vi b2), some (ax_vi x12), some (ax_vi (b4 + 1)), some (ax_vi x12)], [], ax_mm I10 L11) (ax_ki K))) ∧
          (decide (x12 ≤ b3) = false →
            (decide (x12 ≤ b3) = true →
              ax_AK d 213 (23, [some (ax_vr 9 0 184), some (ax_vi b1), some (ax_vi b4), some (ax_vi b3), some (ax_vi (b4 + 1)), some (ax_vi x12)], [], ax_mm I10 L11) (ax_ki K)) ∧
            (decide (x12 ≤ b3) = false →
              ax_AK d 213 (23, [some (ax_vr 9 0 184), some (ax_vi b1), some (ax_vi b4), some (ax_vi x12), some (ax_vi (b4 + 1)), some (ax_vi x12)], [], ax_mm I10 L11) (ax_ki K)))))))) : ax_AK d 213 (23, [some (ax_vr 9 0 184), some (ax_vi b1), some (ax_vi b2), some (ax_vi b3), some (ax_vi b4), z5], [], ax_mm I L) (ax_ki K) := ax_vcL ax_c213 1 (fun pc => Nat.beq pc 23) 35 rfl rfl h
set_option maxRecDepth 100000 in
set_option maxHeartbeats 8000000 in
theorem vc_X9_optionAt {d : Nat} {a0 : Int32} {I : ax_I} {L : ax_J} {K : Int32 → ax_I → ax_J → Prop} (h :
  ((!decide (a0 = (I 184 11))) = true →
    K a0 I L) ∧
  ((!decide (a0 = (I 184 11))) = false →
    K 9 I L)) : ax_CI (d + 1) 214 [ax_vr 9 0 184, ax_vi a0] I L K := ax_vcI ax_c214 1 [some (ax_vr 9 0 184), some (ax_vi a0)] (fun _ => false) 8 rfl rfl rfl rfl h
set_option maxRecDepth 100000 in
set_option maxHeartbeats 8000000 in
theorem vc_X9_tries {d : Nat} {a0 : Int32} {a1 : Int32} {a2 : Int32} {I : ax_I} {L : ax_J} {K : ax_I → ax_J → Prop} (h :
  ax_CV d 186 [ax_vr 9 0 184, ax_vi a0, ax_vi (a0 + 1)] I L (fun I1 L2 =>
    (decide (a2 = (9 : Int32)) = true →
      K I1 L2) ∧
    (decide (a2 = (9 : Int32)) = false →
      ax_CI d 190 [ax_vr 9 0 184, ax_vi (a0 + 1), ax_vi a1, ax_vi a2] I1 L2 (fun x6 I4 L5 =>
        K I4 L5)))) : ax_CV (d + 1) 215 [ax_vr 9 0 184, ax_vi a0, ax_vi a1, ax_vi a2] I L K := ax_vcV ax_c215 0 [some (ax_vr 9 0 184), some (ax_vi a0), some (ax_vi a1), some (ax_vi a2)] (fun _ => false) 19 rfl rfl rfl rfl h
set_option maxRecDepth 100000 in
set_option maxHeartbeats 8000000 in
theorem vc_X9_layGains {d : Nat} {a0 : Int32} {I : ax_I} {L : ax_J} {K : ax_I → ax_J → Prop} (h :
  ax_AK d 216 (2, [some (ax_vr 9 0 184), some (ax_vi a0), some (ax_vi 0)], [], ax_mm I L) (ax_kv K)) : ax_CV (d + 1) 216 [ax_vr 9 0 184, ax_vi a0] I L K := ax_vcV ax_c216 0 [some (ax_vr 9 0 184), some (ax_vi a0), none] (fun pc => Nat.beq pc 2) 4 rfl rfl rfl rfl h
set_option maxRecDepth 100000 in
set_option maxHeartbeats 8000000 in
theorem vc_X9_layGains_2 {d : Nat} {b1 : Int32} {b2 : Int32} {I : ax_I} {L : ax_J} {K : ax_I → ax_J → Prop} (h :
  (decide ((I 184 10) ≤ b2) = true →
    K I L) ∧
  (decide ((I 184 10) ≤ b2) = false →
    ax_CI d 192 [ax_vr 9 0 184, ax_vi b1, ax_vi b2] I L (fun x3 I1 L2 =>
      ax_inb ((6 * b1) + b2) 42 = true ∧
      ax_AK d 216 (2, [some (ax_vr 9 0 184), some (ax_vi b1), some (ax_vi (b2 + 1))], [], ax_mm (ax_ui I1 209 ((6 * b1) + b2).toNatClampNeg x3) L2) (ax_kv K)))) : ax_AK d 216 (2, [some (ax_vr 9 0 184), some (ax_vi b1), some (ax_vi b2)], [], ax_mm I L) (ax_kv K) := ax_vcL ax_c216 0 (fun pc => Nat.beq pc 2) 20 rfl rfl h
set_option maxRecDepth 100000 in
set_option maxHeartbeats 8000000 in
theorem vc_X9_layPlays {d : Nat} {a0 : Int32} {a1 : Int32} {a2 : Int32} {I : ax_I} {L : ax_J} {K : ax_I → ax_J → Prop} (h :
  ((!decide (a0 = a2)) = true →
    ax_AK d 217 (17, [some (ax_vr 9 0 184), some (ax_vi a0), some (ax_vi a1), some (ax_vi a2), some (ax_vi (-1)), some (ax_vi 0), none, none], [], ax_mm I L) (ax_kv K)) ∧
  ((!decide (a0 = a2)) = false →
    ax_CV d 216 [ax_vr 9 0 184, ax_vi a0] I L (fun I1 L2 =>
      K I1 L2))) : ax_CV (d + 1) 217 [ax_vr 9 0 184, ax_vi a0, ax_vi a1, ax_vi a2] I L K := ax_vcV ax_c217 0 [some (ax_vr 9 0 184), some (ax_vi a0), some (ax_vi a1), some (ax_vi a2), none, none, none, none] (fun pc => Nat.beq pc 17 || Nat.beq pc 103 || Nat.beq pc 148) 9 rfl rfl rfl rfl h
set_option maxRecDepth 100000 in
set_option maxHeartbeats 8000000 in
theorem vc_X9_layPlays_17 {d : Nat} {b1 : Int32} {b2 : Int32} {b3 : Int32} {b4 : Int32} {b5 : Int32} {z6 : Option ax_V} {z7 : Option ax_V} {I : ax_I} {L : ax_J} {K : ax_I → ax_J → Prop} (h :
  (decide ((I 184 11) < b5) = true →
    K I L) ∧
  (decide ((I 184 11) < b5) = false →
    ax_CI d 214 [ax_vr 9 0 184, ax_vi b5] I L (fun x3 I1 L2 =>
      ax_CV d 215 [ax_vr 9 0 184, ax_vi b1, ax_vi b2, ax_vi x3] I1 L2 (fun I4 L5 =>
        (!decide ((I4 184 10 : Int32) = 0)) = true ∧
        ax_CV d 217 [ax_vr 9 0 184, ax_vi (b1 + 1), ax_vi ((b2 + 1) - (b2 + 1) / (I4 184 10) * (I4 184 10)), ax_vi b3] I4 L5 (fun I7 L8 =>
          ax_inb ((6 * (b1 + 1)) + b2) 42 = true ∧
          (decide ((I7 209 ((6 * (b1 + 1)) + b2).toNatClampNeg) ≤ b4) = true →
            ax_AK d 217 (17, [some (ax_vr 9 0 184), some (ax_vi b1), some (ax_vi b2), some (ax_vi b3), some (ax_vi b4), some (ax_vi (b5 + 1)), some (ax_vi (I7 209 ((6 * (b1 + 1)) + b2).toNatClampNeg)), none], [], ax_mm I7 L8) (ax_kv K)) ∧
          (decide ((I7 209 ((6 * (b1 + 1)) + b2).toNatClampNeg) ≤ b4) = false →
            ax_CI d 214 [ax_vr 9 0 184, ax_vi b5] I7 L8 (fun x12 I10 L11 =>
              ax_inb (6 * b1) 36 = true ∧
              ax_AK d 217 (103, [some (ax_vr 9 0 184), some (ax_vi b1), some (ax_vi b2), some (ax_vi b3), some (ax_vi (I7 209 ((6 * (b1 + 1)) + b2).toNatClampNeg)), some (ax_vi b5), some (ax_vi (I7 209 ((6 * (b1 + 1)) + b2).toNatClampNeg)), some (ax_vi 1)], [], ax_mm (ax_ui I10 208 (6 * b1).toNatClampNeg ((10 * b2) + x12)) L11) (ax_kv K)))))))) : ax_AK d 217 (17, [some (ax_vr 9 0 184), some (ax_vi b1), some (ax_vi b2), some (ax_vi b3), some (ax_vi b4), some (ax_vi b5), z6, z7], [], ax_mm I L) (ax_kv K) := ax_vcL ax_c217 0 (fun pc => Nat.beq pc 17 || Nat.beq pc 103 || Nat.beq pc 148) 56 rfl rfl h
set_option maxRecDepth 100000 in
set_option maxHeartbeats 8000000 in
theorem vc_X9_layPlays_103 {d : Nat} {b1 : Int32} {b2 : Int32} {b3 : Int32} {b4 : Int32} {b5 : Int32} {b7 : Int32} {z6 : Option ax_V} {I : ax_I} {L : ax_J} {K : ax_I → ax_J → Prop} (h :
  (decide ((b3 - b1) ≤ b7) = true →
    ax_AK d 217 (148, [some (ax_vr 9 0 184), some (ax_vi b1), some (ax_vi b2), some (ax_vi b3), some (ax_vi b4), some (ax_vi b5), none, some (ax_vi 0)], [], ax_mm I L) (ax_kv K)) ∧
  (decide ((b3 - b1) ≤ b7) = false →
    ax_inb (((6 * (b1 + 1)) + b7) - 1) 36 = true ∧
    ax_inb ((6 * b1) + b7) 36 = true ∧
    ax_AK d 217 (103, [some (ax_vr 9 0 184), some (ax_vi b1), some (ax_vi b2), some (ax_vi b3), some (ax_vi b4), some (ax_vi b5), none, some (ax_vi (b7 + 1))], [], ax_mm (ax_ui I 208 ((6 * b1) + b7).toNatClampNeg (I 208 (((6 * (b1 + 1)) + b7) - 1).toNatClampNeg)) L) (ax_kv K))) : ax_AK d 217 (103, [some (ax_vr 9 0 184), some (ax_vi b1), some (ax_vi b2), some (ax_vi b3), some (ax_vi b4), some (ax_vi b5), z6, some (ax_vi b7)], [], ax_mm I L) (ax_kv K) := ax_vcL ax_c217 0 (fun pc => Nat.beq pc 17 || Nat.beq pc 103 || Nat.beq pc 148) 29 rfl rfl h
set_option maxRecDepth 100000 in
set_option maxHeartbeats 8000000 in
theorem vc_X9_layPlays_148 {d : Nat} {b1 : Int32} {b2 : Int32} {b3 : Int32} {b4 : Int32} {b5 : Int32} {b7 : Int32} {z6 : Option ax_V} {I : ax_I} {L : ax_J} {K : ax_I → ax_J → Prop} (h :
  (decide ((I 184 10) ≤ b7) = true →
    ax_AK d 217 (17, [some (ax_vr 9 0 184), some (ax_vi b1), some (ax_vi b2), some (ax_vi b3), some (ax_vi b4), some (ax_vi (b5 + 1)), none, some (ax_vi b7)], [], ax_mm I L) (ax_kv K)) ∧
  (decide ((I 184 10) ≤ b7) = false →
    ax_inb ((6 * (b1 + 1)) + b7) 42 = true ∧
    ax_inb ((6 * b1) + b7) 42 = true ∧
    ax_AK d 217 (148, [some (ax_vr 9 0 184), some (ax_vi b1), some (ax_vi b2), some (ax_vi b3), some (ax_vi b4), some (ax_vi b5), none, some (ax_vi (b7 + 1))], [], ax_mm (ax_ui I 209 ((6 * b1) + b7).toNatClampNeg (I 209 ((6 * (b1 + 1)) + b7).toNatClampNeg)) L) (ax_kv K))) : ax_AK d 217 (148, [some (ax_vr 9 0 184), some (ax_vi b1), some (ax_vi b2), some (ax_vi b3), some (ax_vi b4), some (ax_vi b5), z6, some (ax_vi b7)], [], ax_mm I L) (ax_kv K) := ax_vcL ax_c217 0 (fun pc => Nat.beq pc 17 || Nat.beq pc 103 || Nat.beq pc 148) 26 rfl rfl h
set_option maxRecDepth 100000 in
set_option maxHeartbeats 8000000 in
theorem vc_X9_plays {d : Nat} {a0 : Int32} {a1 : Int32} {a2 : Int32} {I : ax_I} {L : ax_J} {K : Int32 → ax_I → ax_J → Prop} (h :
  ax_CI d 182 [ax_vr 9 0 184, ax_vi a0] I L (fun x3 I1 L2 =>
    (decide (x3 = (0 : Int32)) = true →
      K (-1) I1 L2) ∧
    (decide (x3 = (0 : Int32)) = false →
      ax_CI d 149 [ax_vi a1, ax_vi 0, ax_vi 5] I1 L2 (fun x6 I4 L5 =>
        (decide (x6 = (0 : Int32)) = true →
          K (-1) I4 L5) ∧
        (decide (x6 = (0 : Int32)) = false →
          ax_CI d 160 [ax_vi a2] I4 L5 (fun x9 I7 L8 =>
            ((!decide (x9 = (0 : Int32))) = true →
              ax_CV d 217 [ax_vr 9 0 184, ax_vi 0, ax_vi a0, ax_vi a1] I7 L8 (fun I10 L11 =>
                ax_CV d 172 [ax_vr 9 0 184, ax_vi a2, ax_vr 10 36 208, ax_vi a1] I10 L11 (fun I13 L14 =>
                  ax_inb a0 42 = true ∧
                  K (I13 209 a0.toNatClampNeg) I13 L14))) ∧
            ((!decide (x9 = (0 : Int32))) = false →
              K (-1) I7 L8))))))) : ax_CI (d + 1) 218 [ax_vr 9 0 184, ax_vi a0, ax_vi a1, ax_vi a2] I L K := ax_vcI ax_c218 1 [some (ax_vr 9 0 184), some (ax_vi a0), some (ax_vi a1), some (ax_vi a2)] (fun _ => false) 29 rfl rfl rfl rfl h
set_option maxRecDepth 100000 in
set_option maxHeartbeats 8000000 in
theorem vc_X9_sureFrom {d : Nat} {a0 : Int32} {a1 : Int32} {a2 : Int32} {a3 : Int32} {I : ax_I} {L : ax_J} {K : Int32 → ax_I → ax_J → Prop} (h :
  ((!decide (a0 = a3)) = true →
    ax_AK d 219 (20, [some (ax_vr 9 0 184), some (ax_vi a0), some (ax_vi a1), some (ax_vi a2), some (ax_vi a3), some (ax_vi (-9)), some (ax_vi 0), none], [], ax_mm I L) (ax_ki K)) ∧
  ((!decide (a0 = a3)) = false →
    ax_CI d 192 [ax_vr 9 0 184, ax_vi a0, ax_vi a2] I L (fun x3 I1 L2 =>
      K x3 I1 L2))) : ax_CI (d + 1) 219 [ax_vr 9 0 184, ax_vi a0, ax_vi a1, ax_vi a2, ax_vi a3] I L K := ax_vcI ax_c219 1 [some (ax_vr 9 0 184), some (ax_vi a0), some (ax_vi a1), some (ax_vi a2), some (ax_vi a3), none, none, none] (fun pc => Nat.beq pc 20) 9 rfl rfl rfl rfl h
set_option maxRecDepth 100000 in
set_option maxHeartbeats 8000000 in
theorem vc_X9_sureFrom_20 {d : Nat} {b1 : Int32} {b2 : Int32} {b3 : Int32} {b4 : Int32} {b5 : Int32} {b6 : Int32} {z7 : Option ax_V} {I : ax_I} {L : ax_J} {K : Int32 → ax_I → ax_J → Prop} (h :
  (decide ((I 184 11) < b6) = true →
    K b5 I L) ∧
  (decide ((I 184 11) < b6) = false →
    ax_CI d 214 [ax_vr 9 0 184, ax_vi b6] I L (fun x3 I1 L2 =>
      ax_CV d 215 [ax_vr 9 0 184, ax_vi b1, ax_vi b2, ax_vi x3] I1 L2 (fun I4 L5 =>
        (!decide ((I4 184 10 : Int32) = 0)) = true ∧
        ax_CI d 219 [ax_vr 9 0 184, ax_vi (b1 + 1), ax_vi ((b2 + 1) - (b2 + 1) / (I4 184 10) * (I4 184 10)), ax_vi b3, ax_vi b4] I4 L5 (fun x9 I7 L8 =>
          (decide (b5 = (-9 : Int32)) = true →
            ax_AK d 219 (20, [some (ax_vr 9 0 184), some (ax_vi b1), some (ax_vi b2), some (ax_vi b3), some (ax_vi b4), some (ax_vi x9), some (ax_vi (b6 + 1)), some (ax_vi x9)], [], ax_mm I7 L8) (ax_ki K)) ∧
          (decide (b5 = (-9 : Int32)) = false →
            ((!decide (b2 = b3)) = true →
              (decide (b5 ≤ x9) = true →
                ax_AK d 219 (20, [some (ax_vr 9 0 184), some (ax_vi b1), some (ax_vi b2), some (ax_vi b3), some (ax_vi b4), some (ax_vi b5), some (ax_vi (b6 + 1)), some (ax_vi x9)], [], ax_mm I7 L8) (ax_ki K)) ∧
              (decide (b5 ≤ x9) = false →
                ax_AK d 219 (20, [some (ax_vr 9 0 184), some (ax_vi b1), some (ax_vi b2), some (ax_vi b3), some (ax_vi b4), some (ax_vi x9), some (ax_vi (b6 + 1)), some (ax_vi x9)], [], ax_mm I7 L8) (ax_ki K))) ∧
            ((!decide (b2 = b3)) = false →
              (decide (x9 ≤ b5) = true →
                ax_AK d 219 (20, [some (ax_vr 9 0 184), some (ax_vi b1), some (ax_vi b2), some (ax_vi b3), some (ax_vi b4), some (ax_vi b5), some (ax_vi (b6 + 1)), some (ax_vi x9)], [], ax_mm I7 L8) (ax_ki K)) ∧
              (decide (x9 ≤ b5) = false →
                ax_AK d 219 (20, [some (ax_vr 9 0 184), some (ax_vi b1), some (ax_vi b2), some (ax_vi b3), some (ax_vi b4), some (ax_vi x9), some (ax_vi (b6 + 1)), some (ax_vi x9)], [], ax_mm I7 L8) (ax_ki K))))))))) : ax_AK d 219 (20, [some (ax_vr 9 0 184), some (ax_vi b1), some (ax_vi b2), some (ax_vi b3), some (ax_vi b4), some (ax_vi b5), some (ax_vi b6), z7], [], ax_mm I L) (ax_ki K) := ax_vcL ax_c219 1 (fun pc => Nat.beq pc 20) 42 rfl rfl h
set_option maxRecDepth 100000 in
set_option maxHeartbeats 8000000 in
theorem vc_X9_sure {d : Nat} {a0 : Int32} {a1 : Int32} {I : ax_I} {L : ax_J} {K : Int32 → ax_I → ax_J → Prop} (h :
  ax_CI d 182 [ax_vr 9 0 184, ax_vi a0] I L (fun x3 I1 L2 =>
    (decide (x3 = (0 : Int32)) = true →
      K (-1) I1 L2) ∧
    (decide (x3 = (0 : Int32)) = false →
      ax_CI d 149 [ax_vi a1, ax_vi 0, ax_vi 5] I1 L2 (fun x6 I4 L5 =>
        (decide (x6 = (0 : Int32)) = true →
          K (-1) I4 L5) ∧
        (decide (x6 = (0 : Int32)) = false →
          ax_CI d 219 [ax_vr 9 0 184, ax_vi 0, ax_vi a0, ax_vi a0, ax_vi a1] I4 L5 (fun x9 I7 L8 =>
            K x9 I7 L8)))))) : ax_CI (d + 1) 220 [ax_vr 9 0 184, ax_vi a0, ax_vi a1] I L K := ax_vcI ax_c220 1 [some (ax_vr 9 0 184), some (ax_vi a0), some (ax_vi a1)] (fun _ => false) 18 rfl rfl rfl rfl h
set_option maxRecDepth 100000 in
set_option maxHeartbeats 8000000 in
theorem vc_X9_brings {d : Nat} {a0 : Int32} {a1 : Int32} {a2 : Int32} {a3 : Int32} {I : ax_I} {L : ax_J} {K : Int32 → ax_I → ax_J → Prop} (h :
  ((!decide (a0 = a1)) = true →
    ax_AK d 221 (40, [some (ax_vr 9 0 184), some (ax_vi a0), some (ax_vi a1), some (ax_vi a2), some (ax_vi a3), some (ax_vi 0), none], [], ax_mm I L) (ax_ki K)) ∧
  ((!decide (a0 = a1)) = false →
    ax_CI d 184 [ax_vr 9 0 184, ax_vi a0, ax_vi 6, ax_vi a3] I L (fun x3 I1 L2 =>
      ((!decide (x3 = a2)) = true →
        ax_bit 0 = true ∧ K 0 I1 L2) ∧
      ((!decide (x3 = a2)) = false →
        ax_CI d 191 [ax_vr 9 0 184, ax_vi a0] I1 L2 (fun x6 I4 L5 =>
          ax_CI d 150 [ax_vi x6, ax_vi a3] I4 L5 (fun x9 I7 L8 =>
            (decide (x9 = (0 : Int32)) = true →
              ax_bit 0 = true ∧ K 0 I7 L8) ∧
            (decide (x9 = (0 : Int32)) = false →
              ax_bit 1 = true ∧ K 1 I7 L8))))))) : ax_CI (d + 1) 221 [ax_vr 9 0 184, ax_vi a0, ax_vi a1, ax_vi a2, ax_vi a3] I L K := ax_vcI ax_c221 3 [some (ax_vr 9 0 184), some (ax_vi a0), some (ax_vi a1), some (ax_vi a2), some (ax_vi a3), none, none] (fun pc => Nat.beq pc 40 || Nat.beq pc 52) 20 rfl rfl rfl rfl h
set_option maxRecDepth 100000 in
set_option maxHeartbeats 8000000 in
theorem vc_X9_brings_40 {d : Nat} {b1 : Int32} {b2 : Int32} {b3 : Int32} {b4 : Int32} {b5 : Int32} {z6 : Option ax_V} {I : ax_I} {L : ax_J} {K : Int32 → ax_I → ax_J → Prop} (h :
  (decide ((I 184 10) ≤ b5) = true →
    ax_bit 0 = true ∧ K 0 I L) ∧
  (decide ((I 184 10) ≤ b5) = false →
    ax_AK d 221 (52, [some (ax_vr 9 0 184), some (ax_vi b1), some (ax_vi b2), some (ax_vi b3), some (ax_vi b4), some (ax_vi b5), some (ax_vi 0)], [], ax_mm I L) (ax_ki K))) : ax_AK d 221 (40, [some (ax_vr 9 0 184), some (ax_vi b1), some (ax_vi b2), some (ax_vi b3), some (ax_vi b4), some (ax_vi b5), z6], [], ax_mm I L) (ax_ki K) := ax_vcL ax_c221 3 (fun pc => Nat.beq pc 40 || Nat.beq pc 52) 8 rfl rfl h
set_option maxRecDepth 100000 in
set_option maxHeartbeats 8000000 in
theorem vc_X9_brings_52 {d : Nat} {b1 : Int32} {b2 : Int32} {b3 : Int32} {b4 : Int32} {b5 : Int32} {b6 : Int32} {I : ax_I} {L : ax_J} {K : Int32 → ax_I → ax_J → Prop} (h :
  (decide ((I 184 11) ≤ b6) = true →
    ax_AK d 221 (40, [some (ax_vr 9 0 184), some (ax_vi b1), some (ax_vi b2), some (ax_vi b3), some (ax_vi b4), some (ax_vi (b5 + 1)), some (ax_vi b6)], [], ax_mm I L) (ax_ki K)) ∧
  (decide ((I 184 11) ≤ b6) = false →
    ax_CV d 215 [ax_vr 9 0 184, ax_vi b1, ax_vi b5, ax_vi b6] I L (fun I1 L2 =>
      ax_inb b1 6 = true ∧
      ax_CI d 221 [ax_vr 9 0 184, ax_vi (b1 + 1), ax_vi b2, ax_vi b3, ax_vi b4] (ax_ui I1 210 b1.toNatClampNeg ((10 * b5) + b6)) L2 (fun x6 I4 L5 =>
        (decide (x6 = (0 : Int32)) = true →
          ax_AK d 221 (52, [some (ax_vr 9 0 184), some (ax_vi b1), some (ax_vi b2), some (ax_vi b3), some (ax_vi b4), some (ax_vi b5), some (ax_vi (b6 + 1))], [], ax_mm I4 L5) (ax_ki K)) ∧
        (decide (x6 = (0 : Int32)) = false →
          ax_bit 1 = true ∧ K 1 I4 L5))))) : ax_AK d 221 (52, [some (ax_vr 9 0 184), some (ax_vi b1), some (ax_vi b2), some (ax_vi b3), some (ax_vi b4), some (ax_vi b5), some (ax_vi b6)], [], ax_mm I L) (ax_ki K) := ax_vcL ax_c221 3 (fun pc => Nat.beq pc 40 || Nat.beq pc 52) 31 rfl rfl h
set_option maxRecDepth 100000 in
set_option maxHeartbeats 8000000 in
theorem vc_X9_fewest {d : Nat} {a0 : Int32} {a1 : Int32} {a2 : Int32} {I : ax_I} {L : ax_J} {K : Int32 → ax_I → ax_J → Prop} (h :
  ax_CI d 182 [ax_vr 9 0 184, ax_vi a0] I L (fun x3 I1 L2 =>
    (decide (x3 = (0 : Int32)) = true →
      K (-1) I1 L2) ∧
    (decide (x3 = (0 : Int32)) = false →
      ax_CI d 183 [ax_vr 9 0 184, ax_vi a1] I1 L2 (fun x6 I4 L5 =>
        (decide (x6 = (0 : Int32)) = true →
          K (-1) I4 L5) ∧
        (decide (x6 = (0 : Int32)) = false →
          ax_CI d 160 [ax_vi a2] I4 L5 (fun x9 I7 L8 =>
            ((!decide (x9 = (0 : Int32))) = true →
              ax_AK d 222 (28, [some (ax_vr 9 0 184), some (ax_vi a0), some (ax_vi a1), some (ax_vi a2), some (ax_vi 0)], [], ax_mm I7 L8) (ax_ki K)) ∧
            ((!decide (x9 = (0 : Int32))) = false →
              K (-1) I7 L8))))))) : ax_CI (d + 1) 222 [ax_vr 9 0 184, ax_vi a0, ax_vi a1, ax_vi a2] I L K := ax_vcI ax_c222 1 [some (ax_vr 9 0 184), some (ax_vi a0), some (ax_vi a1), some (ax_vi a2), none] (fun pc => Nat.beq pc 28) 15 rfl rfl rfl rfl h
set_option maxRecDepth 100000 in
set_option maxHeartbeats 8000000 in
theorem vc_X9_fewest_28 {d : Nat} {b1 : Int32} {b2 : Int32} {b3 : Int32} {b4 : Int32} {I : ax_I} {L : ax_J} {K : Int32 → ax_I → ax_J → Prop} (h :
  (decide ((4 : Int32) ≤ b4) = true →
    K (-9) I L) ∧
  (decide ((4 : Int32) ≤ b4) = false →
    ax_CI d 221 [ax_vr 9 0 184, ax_vi 0, ax_vi b4, ax_vi b1, ax_vi b2] I L (fun x3 I1 L2 =>
      (decide (x3 = (0 : Int32)) = true →
        ax_AK d 222 (28, [some (ax_vr 9 0 184), some (ax_vi b1), some (ax_vi b2), some (ax_vi b3), some (ax_vi (b4 + 1))], [], ax_mm I1 L2) (ax_ki K)) ∧
      (decide (x3 = (0 : Int32)) = false →
        ax_CV d 172 [ax_vr 9 0 184, ax_vi b3, ax_vr 10 6 210, ax_vi b4] I1 L2 (fun I4 L5 =>
          K b4 I4 L5))))) : ax_AK d 222 (28, [some (ax_vr 9 0 184), some (ax_vi b1), some (ax_vi b2), some (ax_vi b3), some (ax_vi b4)], [], ax_mm I L) (ax_ki K) := ax_vcL ax_c222 1 (fun pc => Nat.beq pc 28) 19 rfl rfl h
set_option maxRecDepth 100000 in
set_option maxHeartbeats 8000000 in
theorem vc_X9_layMatch {d : Nat} {a0 : Int32} {a1 : Int32} {a2 : Int32} {I : ax_I} {L : ax_J} {K : ax_I → ax_J → Prop} (h :
  ((!decide (a0 = (I 184 10))) = true →
    ax_AK d 223 (57, [some (ax_vr 9 0 184), some (ax_vi a0), some (ax_vi a1), some (ax_vi a2), some (ax_vi 0)], [], ax_mm I L) (ax_kv K)) ∧
  ((!decide (a0 = (I 184 10))) = false →
    (decide (a2 ≤ (I 184 40)) = true →
      K I L) ∧
    (decide (a2 ≤ (I 184 40)) = false →
      ax_AK d 223 (24, [some (ax_vr 9 0 184), some (ax_vi a0), some (ax_vi a1), some (ax_vi a2), some (ax_vi 0)], [], ax_mm (ax_ui I 184 40 a2) L) (ax_kv K)))) : ax_CV (d + 1) 223 [ax_vr 9 0 184, ax_vi a0, ax_vi a1, ax_vi a2] I L K := ax_vcV ax_c223 0 [some (ax_vr 9 0 184), some (ax_vi a0), some (ax_vi a1), some (ax_vi a2), none] (fun pc => Nat.beq pc 24 || Nat.beq pc 57) 15 rfl rfl rfl rfl h
set_option maxRecDepth 100000 in
set_option maxHeartbeats 8000000 in
theorem vc_X9_layMatch_24 {d : Nat} {b4 : Int32} {z1 : Option ax_V} {z2 : Option ax_V} {z3 : Option ax_V} {I : ax_I} {L : ax_J} {K : ax_I → ax_J → Prop} (h :
  (decide ((I 184 10) ≤ b4) = true →
    K I L) ∧
  (decide ((I 184 10) ≤ b4) = false →
    ax_inb b4 6 = true ∧
    ax_inb b4 6 = true ∧
    ax_AK d 223 (24, [some (ax_vr 9 0 184), none, none, none, some (ax_vi (b4 + 1))], [], ax_mm (ax_ui I 211 b4.toNatClampNeg (I 210 b4.toNatClampNeg)) L) (ax_kv K))) : ax_AK d 223 (24, [some (ax_vr 9 0 184), z1, z2, z3, some (ax_vi b4)], [], ax_mm I L) (ax_kv K) := ax_vcL ax_c223 0 (fun pc => Nat.beq pc 24 || Nat.beq pc 57) 16 rfl rfl h
set_option maxRecDepth 100000 in
set_option maxHeartbeats 8000000 in
theorem vc_X9_layMatch_57 {d : Nat} {b1 : Int32} {b2 : Int32} {b3 : Int32} {b4 : Int32} {I : ax_I} {L : ax_J} {K : ax_I → ax_J → Prop} (h :
  (decide ((I 184 11) ≤ b4) = true →
    ax_inb b1 6 = true ∧
    ax_CV d 223 [ax_vr 9 0 184, ax_vi (b1 + 1), ax_vi b2, ax_vi b3] (ax_ui I 210 b1.toNatClampNeg (-9)) L (fun I1 L2 =>
      K I1 L2)) ∧
  (decide ((I 184 11) ≤ b4) = false →
    ax_CI d 150 [ax_vi b2, ax_vi b4] I L (fun x6 I4 L5 =>
      ((!decide (x6 = (0 : Int32))) = true →
        ax_AK d 223 (57, [some (ax_vr 9 0 184), some (ax_vi b1), some (ax_vi b2), some (ax_vi b3), some (ax_vi (b4 + 1))], [], ax_mm I4 L5) (ax_kv K)) ∧
      ((!decide (x6 = (0 : Int32))) = false →
        ax_CI d 184 [ax_vr 9 0 184, ax_vi 0, ax_vi 6, ax_vi b4] I4 L5 (fun x9 I7 L8 =>
          ((!decide (x9 = (-9 : Int32))) = true →
            ax_AK d 223 (57, [some (ax_vr 9 0 184), some (ax_vi b1), some (ax_vi b2), some (ax_vi b3), some (ax_vi (b4 + 1))], [], ax_mm I7 L8) (ax_kv K)) ∧
          ((!decide (x9 = (-9 : Int32))) = false →
            ax_inb b1 6 = true ∧
            ax_inb ((6 * b1) + b4) 36 = true ∧
            ax_CV d 223 [ax_vr 9 0 184, ax_vi (b1 + 1), ax_vi (b2 ||| ((1 : Int32) <<< (b4 &&& 31))), ax_vi (b3 + ((ax_ui I7 210 b1.toNatClampNeg b4) 193 ((6 * b1) + b4).toNatClampNeg))] (ax_ui I7 210 b1.toNatClampNeg b4) L8 (fun I10 L11 =>
              ax_AK d 223 (57, [some (ax_vr 9 0 184), some (ax_vi b1), some (ax_vi b2), some (ax_vi b3), some (ax_vi (b4 + 1))], [], ax_mm I10 L11) (ax_kv K)))))))) : ax_AK d 223 (57, [some (ax_vr 9 0 184), some (ax_vi b1), some (ax_vi b2), some (ax_vi b3), some (ax_vi b4)], [], ax_mm I L) (ax_kv K) := ax_vcL ax_c223 0 (fun pc => Nat.beq pc 24 || Nat.beq pc 57) 44 rfl rfl h
set_option maxRecDepth 100000 in
set_option maxHeartbeats 8000000 in
theorem vc_X9_match {d : Nat} {a0 : Int32} {I : ax_I} {L : ax_J} {K : Int32 → ax_I → ax_J → Prop} (h :
  ax_CI d 160 [ax_vi a0] I L (fun x3 I1 L2 =>
    ((!decide (x3 = (0 : Int32))) = true →
      ((!decide ((I1 184 10) = (0 : Int32))) = true →
        ax_CV d 223 [ax_vr 9 0 184, ax_vi 0, ax_vi 0, ax_vi 0] (ax_ui I1 184 40 (-1)) L2 (fun I4 L5 =>
          ax_CV d 172 [ax_vr 9 0 184, ax_vi a0, ax_vr 10 6 211, ax_vi (I4 184 10)] I4 L5 (fun I7 L8 =>
            K (I7 184 40) I7 L8))) ∧
      ((!decide ((I1 184 10) = (0 : Int32))) = false →
        K (-4) I1 L2)) ∧
    ((!decide (x3 = (0 : Int32))) = false →
      K (-1) I1 L2))) : ax_CI (d + 1) 224 [ax_vr 9 0 184, ax_vi a0] I L K := ax_vcI ax_c224 1 [some (ax_vr 9 0 184), some (ax_vi a0)] (fun _ => false) 25 rfl rfl rfl rfl h
set_option maxRecDepth 100000 in
set_option maxHeartbeats 8000000 in
theorem vc_X9_safe {d : Nat} {a0 : Int32} {a1 : Int32} {I : ax_I} {L : ax_J} {K : Int32 → ax_I → ax_J → Prop} (h :
  ax_CI d 182 [ax_vr 9 0 184, ax_vi a0] I L (fun x3 I1 L2 =>
    (decide (x3 = (0 : Int32)) = true →
      K (-1) I1 L2) ∧
    (decide (x3 = (0 : Int32)) = false →
      ax_CI d 182 [ax_vr 9 0 184, ax_vi a1] I1 L2 (fun x6 I4 L5 =>
        (decide (x6 = (0 : Int32)) = true →
          K (-1) I4 L5) ∧
        (decide (x6 = (0 : Int32)) = false →
          ((!decide (a0 = a1)) = true →
            ax_CI d 188 [ax_vr 9 0 184, ax_vi a0] I4 L5 (fun x9 I7 L8 =>
              ax_CI d 150 [ax_vi x9, ax_vi a1] I7 L8 (fun x12 I10 L11 =>
                (decide (x12 = (0 : Int32)) = true →
                  ax_AK d 225 (51, [some (ax_vr 9 0 184), some (ax_vi a0), some (ax_vi a1), some (ax_vi x9), some (ax_vi 0), some (ax_vi 0)], [], ax_mm I10 L11) (ax_ki K)) ∧
                (decide (x12 = (0 : Int32)) = false →
                  ax_CI d 207 [ax_vr 9 0 184, ax_vi a1] I10 L11 (fun x15 I13 L14 =>
                    ax_AK d 225 (51, [some (ax_vr 9 0 184), some (ax_vi a0), some (ax_vi a1), some (ax_vi x9), some (ax_vi x15), some (ax_vi 0)], [], ax_mm I13 L14) (ax_ki K)))))) ∧
          ((!decide (a0 = a1)) = false →
            K (-1) I4 L5)))))) : ax_CI (d + 1) 225 [ax_vr 9 0 184, ax_vi a0, ax_vi a1] I L K := ax_vcI ax_c225 1 [some (ax_vr 9 0 184), some (ax_vi a0), some (ax_vi a1), none, none, none] (fun pc => Nat.beq pc 51) 28 rfl rfl rfl rfl h
set_option maxRecDepth 100000 in
set_option maxHeartbeats 8000000 in
theorem vc_X9_safe_51 {d : Nat} {b2 : Int32} {b3 : Int32} {b4 : Int32} {b5 : Int32} {z1 : Option ax_V} {I : ax_I} {L : ax_J} {K : Int32 → ax_I → ax_J → Prop} (h :
  (decide ((I 184 10) ≤ b5) = true →
    ax_CI d 193 [ax_vr 9 0 184, ax_vi 0, ax_vi (-9)] I L (fun x3 I1 L2 =>
      K (b4 &&& x3) I1 L2)) ∧
  (decide ((I 184 10) ≤ b5) = false →
    ax_CI d 150 [ax_vi b3, ax_vi b5] I L (fun x6 I4 L5 =>
      (decide (x6 = (0 : Int32)) = true →
        ax_AK d 225 (51, [some (ax_vr 9 0 184), none, some (ax_vi b2), some (ax_vi b3), some (ax_vi (b4 &&& (-1))), some (ax_vi (b5 + 1))], [], ax_mm I4 L5) (ax_ki K)) ∧
      (decide (x6 = (0 : Int32)) = false →
        (decide (b5 = b2) = true →
          ax_AK d 225 (51, [some (ax_vr 9 0 184), none, some (ax_vi b2), some (ax_vi b3), some (ax_vi (b4 &&& (-1))), some (ax_vi (b5 + 1))], [], ax_mm I4 L5) (ax_ki K)) ∧
        (decide (b5 = b2) = false →
          ax_CI d 207 [ax_vr 9 0 184, ax_vi b5] I4 L5 (fun x9 I7 L8 =>
            ax_AK d 225 (51, [some (ax_vr 9 0 184), none, some (ax_vi b2), some (ax_vi b3), some (ax_vi (b4 &&& (x9 ^^^ (-1)))), some (ax_vi (b5 + 1))], [], ax_mm I7 L8) (ax_ki K))))))) : ax_AK d 225 (51, [some (ax_vr 9 0 184), z1, some (ax_vi b2), some (ax_vi b3), some (ax_vi b4), some (ax_vi b5)], [], ax_mm I L) (ax_ki K) := ax_vcL ax_c225 1 (fun pc => Nat.beq pc 51) 24 rfl rfl h
set_option maxRecDepth 100000 in
set_option maxHeartbeats 8000000 in
theorem vc_X9_price {d : Nat} {a0 : Int32} {I : ax_I} {L : ax_J} {K : Int32 → ax_I → ax_J → Prop} (h :
  ax_CI d 183 [ax_vr 9 0 184, ax_vi a0] I L (fun x3 I1 L2 =>
    ((!decide (x3 = (0 : Int32))) = true →
      ax_CI d 184 [ax_vr 9 0 184, ax_vi 0, ax_vi 0, ax_vi a0] I1 L2 (fun x6 I4 L5 =>
        ax_AK d 226 (27, [some (ax_vr 9 0 184), some (ax_vi a0), some (ax_vi x6), some (ax_vi 0), some (ax_vi (-9)), some (ax_vi 0), none], [], ax_mm I4 L5) (ax_ki K))) ∧
    ((!decide (x3 = (0 : Int32))) = false →
      K (-1) I1 L2))) : ax_CI (d + 1) 226 [ax_vr 9 0 184, ax_vi a0] I L K := ax_vcI ax_c226 1 [some (ax_vr 9 0 184), some (ax_vi a0), none, none, none, none, none] (fun pc => Nat.beq pc 27) 18 rfl rfl rfl rfl h
set_option maxRecDepth 100000 in
set_option maxHeartbeats 8000000 in
theorem vc_X9_price_27 {d : Nat} {b1 : Int32} {b2 : Int32} {b3 : Int32} {b4 : Int32} {b5 : Int32} {z6 : Option ax_V} {I : ax_I} {L : ax_J} {K : Int32 → ax_I → ax_J → Prop} (h :
  (decide ((I 184 10) ≤ b5) = true →
    ((!decide (b4 = (-9 : Int32))) = true →
      ax_CI d 155 [ax_vr 9 0 184, ax_vi b4, ax_vi b3] I L (fun x3 I1 L2 =>
        K x3 I1 L2)) ∧
    ((!decide (b4 = (-9 : Int32))) = false →
      K (-9) I L)) ∧
  (decide ((I 184 10) ≤ b5) = false →
    (decide (b2 = (-9 : Int32)) = true →
      ((!decide (b4 = (-9 : Int32))) = true →
        ax_CI d 155 [ax_vr 9 0 184, ax_vi b4, ax_vi b3] I L (fun x6 I4 L5 =>
          K x6 I4 L5)) ∧
      ((!decide (b4 = (-9 : Int32))) = false →
        K (-9) I L)) ∧
    (decide (b2 = (-9 : Int32)) = false →
      ax_CI d 184 [ax_vr 9 0 184, ax_vi 0, ax_vi 6, ax_vi b1] I L (fun x9 I7 L8 =>
        ((!decide (x9 = (-9 : Int32))) = true →
          ((!decide (b4 = (-9 : Int32))) = true →
            ax_CI d 155 [ax_vr 9 0 184, ax_vi b4, ax_vi b3] I7 L8 (fun x12 I10 L11 =>
              K x12 I10 L11)) ∧
          ((!decide (b4 = (-9 : Int32))) = false →
            K (-9) I7 L8)) ∧
        ((!decide (x9 = (-9 : Int32))) = false →
          ((!decide (b5 = b2)) = true →
            ax_inb ((6 * b5) + b1) 36 = true ∧
            (decide ((I7 193 ((6 * b5) + b1).toNatClampNeg) ≤ b3) = true →
              (decide ((I7 193 ((6 * b5) + b1).toNatClampNeg) ≤ b3) = true →
                ax_AK d 226 (27, [some (ax_vr 9 0 184), some (ax_vi b1), some (ax_vi b2), some (ax_vi b3), some (ax_vi b4), some (ax_vi (b5 + 1)), some (ax_vi (I7 193 ((6 * b5) + b1).toNatClampNeg))], [], ax_mm I7 L8) (ax_ki K)) ∧
              (decide ((I7 193 ((6 * b5) + b1).toNatClampNeg) ≤ b3) = false →
                ax_AK d 226 (27, [some (ax_vr 9 0 184), some (ax_vi b1), some (ax_vi b2), some (ax_vi (I7 193 ((6 * b5) + b1).toNatClampNeg)), some (ax_vi b4), some (ax_vi (b5 + 1)), some (ax_vi (I7 193 ((6 * b5) + b1).toNatClampNeg))], [], ax_mm I7 L8) (ax_ki K))) ∧
            (decide ((I7 193 ((6 * b5) + b1).toNatClampNeg) ≤ b3) = false →
              (decide ((I7 193 ((6 * b5) + b1).toNatClampNeg) ≤ b3) = true →
                ax_AK d 226 (27, [some (ax_vr 9 0 184), some (ax_vi b1), some (ax_vi b2), some (ax_vi b3), some (ax_vi b5), some (ax_vi (b5 + 1)), some (ax_vi (I7 193 ((6 * b5) + b1).toNatClampNeg))], [], ax_mm I7 L8) (ax_ki K)) ∧
              (decide ((I7 193 ((6 * b5) + b1).toNatClampNeg) ≤ b3) = false →
                ax_AK d 226 (27, [some (ax_vr 9 0 184), some (ax_vi b1), some (ax_vi b2), some (ax_vi (I7 193 ((6 * b5) + b1).toNatClampNeg)), some (ax_vi b5), some (ax_vi (b5 + 1)), some (ax_vi (I7 193 ((6 * b5) + b1).toNatClampNeg))], [], ax_mm I7 L8) (ax_ki K)))) ∧
          ((!decide (b5 = b2)) = false →
            (decide ((0 : Int32) ≤ b3) = true →
              (decide ((0 : Int32) ≤ b3) = true →
                ax_AK d 226 (27, [some (ax_vr 9 0 184), some (ax_vi b1), some (ax_vi b2), some (ax_vi b3), some (ax_vi b4), some (ax_vi (b5 + 1)), some (ax_vi 0)], [], ax_mm I7 L8) (ax_ki K)) ∧
              (decide ((0 : Int32) ≤ b3) = false →
                ax_AK d 226 (27, [some (ax_vr 9 0 184), some (ax_vi b1), some (ax_vi b2), some (ax_vi 0), some (ax_vi b4), some (ax_vi (b5 + 1)), some (ax_vi 0)], [], ax_mm I7 L8) (ax_ki K))) ∧
            (decide ((0 : Int32) ≤ b3) = false →
              (decide ((0 : Int32) ≤ b3) = true →
                ax_AK d 226 (27, [some (ax_vr 9 0 184), some (ax_vi b1), some (ax_vi b2), some (ax_vi b3), some (ax_vi b5), some (ax_vi (b5 + 1)), some (ax_vi 0)], [], ax_mm I7 L8) (ax_ki K)) ∧
              (decide ((0 : Int32) ≤ b3) = false →
                ax_AK d 226 (27, [some (ax_vr 9 0 184), some (ax_vi b1), some (ax_vi b2), some (ax_vi 0), some (ax_vi b5), some (ax_vi (b5 + 1)), some (ax_vi 0)], [], ax_mm I7 L8) (ax_ki K))))))))) : ax_AK d 226 (27, [some (ax_vr 9 0 184), some (ax_vi b1), some (ax_vi b2), some (ax_vi b3), some (ax_vi b4), some (ax_vi b5), z6], [], ax_mm I L) (ax_ki K) := ax_vcL ax_c226 1 (fun pc => Nat.beq pc 27) 42 rfl rfl h
set_option maxRecDepth 100000 in
set_option maxHeartbeats 8000000 in
theorem vc_X9_layRounds {d : Nat} {a0 : Int32} {a1 : Int32} {a2 : Int32} {I : ax_I} {L : ax_J} {K : ax_I → ax_J → Prop} (h :
  ax_AK d 227 (3, [some (ax_vr 9 0 184), some (ax_vi a0), some (ax_vi a1), some (ax_vi a2), some (ax_vi a0)], [], ax_mm I L) (ax_kv K)) : ax_CV (d + 1) 227 [ax_vr 9 0 184, ax_vi a0, ax_vi a1, ax_vi a2] I L K := ax_vcV ax_c227 0 [some (ax_vr 9 0 184), some (ax_vi a0), some (ax_vi a1), some (ax_vi a2), none] (fun pc => Nat.beq pc 3) 4 rfl rfl rfl rfl h
set_option maxRecDepth 100000 in
set_option maxHeartbeats 8000000 in
theorem vc_X9_layRounds_3 {d : Nat} {b1 : Int32} {b2 : Int32} {b3 : Int32} {b4 : Int32} {I : ax_I} {L : ax_J} {K : ax_I → ax_J → Prop} (h :
  (decide ((I 184 11) ≤ b4) = true →
    K I L) ∧
  (decide ((I 184 11) ≤ b4) = false →
    ax_inb b2 6 = true ∧
    ax_CI d 150 [ax_vi (I 194 b2.toNatClampNeg), ax_vi b4] I L (fun x3 I1 L2 =>
      (decide (x3 = (0 : Int32)) = true →
        ax_AK d 227 (3, [some (ax_vr 9 0 184), some (ax_vi b1), some (ax_vi b2), some (ax_vi b3), some (ax_vi (b4 + 1))], [], ax_mm I1 L2) (ax_kv K)) ∧
      (decide (x3 = (0 : Int32)) = false →
        ((!decide (b4 = b1)) = true →
          ax_CI d 150 [ax_vi b3, ax_vi b4] I1 L2 (fun x6 I4 L5 =>
            ((!decide (x6 = (0 : Int32))) = true →
              ax_AK d 227 (3, [some (ax_vr 9 0 184), some (ax_vi b1), some (ax_vi b2), some (ax_vi b3), some (ax_vi (b4 + 1))], [], ax_mm I4 L5) (ax_kv K)) ∧
            ((!decide (x6 = (0 : Int32))) = false →
              ax_CV d 227 [ax_vr 9 0 184, ax_vi b1, ax_vi b4, ax_vi (b3 ||| ((1 : Int32) <<< (b4 &&& 31)))] I4 L5 (fun I7 L8 =>
                ax_AK d 227 (3, [some (ax_vr 9 0 184), some (ax_vi b1), some (ax_vi b2), some (ax_vi b3), some (ax_vi (b4 + 1))], [], ax_mm I7 L8) (ax_kv K))))) ∧
        ((!decide (b4 = b1)) = false →
          ax_AK d 227 (3, [some (ax_vr 9 0 184), some (ax_vi b1), some (ax_vi b2), some (ax_vi b3), some (ax_vi (b4 + 1))], [], ax_mm (ax_ui (ax_ui I1 184 41 ((I1 184 41) + 1)) 184 42 (((ax_ui I1 184 41 ((I1 184 41) + 1)) 184 42) ||| b3)) L2) (ax_kv K)))))) : ax_AK d 227 (3, [some (ax_vr 9 0 184), some (ax_vi b1), some (ax_vi b2), some (ax_vi b3), some (ax_vi b4)], [], ax_mm I L) (ax_kv K) := ax_vcL ax_c227 0 (fun pc => Nat.beq pc 3) 31 rfl rfl h
set_option maxRecDepth 100000 in
set_option maxHeartbeats 8000000 in
theorem vc_X9_rounds {d : Nat} {I : ax_I} {L : ax_J} {K : Int32 → ax_I → ax_J → Prop} (h :
  ax_AK d 228 (12, [some (ax_vr 9 0 184), some (ax_vi 0)], [], ax_mm (ax_ui (ax_ui I 184 41 0) 184 42 0) L) (ax_ki K)) : ax_CI (d + 1) 228 [ax_vr 9 0 184] I L K := ax_vcI ax_c228 1 [some (ax_vr 9 0 184), none] (fun pc => Nat.beq pc 12) 10 rfl rfl rfl rfl h
set_option maxRecDepth 100000 in
set_option maxHeartbeats 8000000 in
theorem vc_X9_rounds_12 {d : Nat} {b1 : Int32} {I : ax_I} {L : ax_J} {K : Int32 → ax_I → ax_J → Prop} (h :
  (decide ((I 184 11) ≤ b1) = true →
    ax_CI d 155 [ax_vr 9 0 184, ax_vi ((((1 : Int32) <<< ((I 184 11) &&& 31)) - 1) &&& ((I 184 42) ^^^ (-1))), ax_vi (I 184 41)] I L (fun x3 I1 L2 =>
      K x3 I1 L2)) ∧
  (decide ((I 184 11) ≤ b1) = false →
    ax_CV d 227 [ax_vr 9 0 184, ax_vi b1, ax_vi b1, ax_vi ((1 : Int32) <<< (b1 &&& 31))] I L (fun I4 L5 =>
      ax_AK d 228 (12, [some (ax_vr 9 0 184), some (ax_vi (b1 + 1))], [], ax_mm I4 L5) (ax_ki K)))) : ax_AK d 228 (12, [some (ax_vr 9 0 184), some (ax_vi b1)], [], ax_mm I L) (ax_ki K) := ax_vcL ax_c228 1 (fun pc => Nat.beq pc 12) 21 rfl rfl h
set_option maxRecDepth 100000 in
set_option maxHeartbeats 8000000 in
theorem vc_X9_needSpoke {d : Nat} {a0 : Int32} {a1 : Int32} {I : ax_I} {L : ax_J} {K : Int32 → ax_I → ax_J → Prop} (h :
  (decide (a0 = (0 : Int32)) = true →
    K (-1) I L) ∧
  (decide (a0 = (0 : Int32)) = false →
    ax_CI d 160 [ax_vi a1] I L (fun x3 I1 L2 =>
      ((!decide (x3 = (0 : Int32))) = true →
        ((!decide ((I1 184 10) = (0 : Int32))) = true →
          ax_inb a1 6 = true ∧
          (decide ((0 : Int32) ≤ (I1 186 a1.toNatClampNeg)) = true →
            ax_inb a1 6 = true ∧
            (decide ((I1 186 a1.toNatClampNeg) ≤ (6 : Int32)) = true →
              ax_AK d 229 (60, [some (ax_vr 9 0 184), some (ax_vi a0), some (ax_vi a1), some (ax_vi 1), some (ax_vi 0)], [], ax_mm I1 L2) (ax_ki K)) ∧
            (decide ((I1 186 a1.toNatClampNeg) ≤ (6 : Int32)) = false →
              ax_CI d 152 [ax_vr 9 0 184, ax_vi 5] I1 L2 (fun x6 I4 L5 =>
                K x6 I4 L5))) ∧
          (decide ((0 : Int32) ≤ (I1 186 a1.toNatClampNeg)) = false →
            ax_CI d 152 [ax_vr 9 0 184, ax_vi 1] I1 L2 (fun x9 I7 L8 =>
              K x9 I7 L8))) ∧
        ((!decide ((I1 184 10) = (0 : Int32))) = false →
          K (-4) I1 L2)) ∧
      ((!decide (x3 = (0 : Int32))) = false →
        K (-1) I1 L2)))) : ax_CI (d + 1) 229 [ax_vr 9 0 184, ax_vi a0, ax_vi a1] I L K := ax_vcI ax_c229 1 [some (ax_vr 9 0 184), some (ax_vi a0), some (ax_vi a1), none, none] (fun pc => Nat.beq pc 60) 25 rfl rfl rfl rfl h
set_option maxRecDepth 100000 in
set_option maxHeartbeats 8000000 in
theorem vc_X9_needSpoke_60 {d : Nat} {b2 : Int32} {b3 : Int32} {b4 : Int32} {z1 : Option ax_V} {I : ax_I} {L : ax_J} {K : Int32 → ax_I → ax_J → Prop} (h :
  ax_inb b2 6 = true ∧
  (decide ((I 186 b2.toNatClampNeg) ≤ b4) = true →
    (decide (b3 = (0 : Int32)) = true →
      ax_CI d 152 [ax_vr 9 0 184, ax_vi 3] I L (fun x3 I1 L2 =>
        K x3 I1 L2)) ∧
    (decide (b3 = (0 : Int32)) = false →
      K 0 I L)) ∧
  (decide ((I 186 b2.toNatClampNeg) ≤ b4) = false →
    (decide (b3 = (0 : Int32)) = true →
      ax_AK d 229 (60, [some (ax_vr 9 0 184), none, some (ax_vi b2), some (ax_vi 0), some (ax_vi (b4 + 1))], [], ax_mm I L) (ax_ki K)) ∧
    (decide (b3 = (0 : Int32)) = false →
      ax_CI d 161 [ax_vr 9 0 184, ax_vi b2, ax_vi b4] I L (fun x6 I4 L5 =>
        ax_CI d 182 [ax_vr 9 0 184, ax_vi x6] I4 L5 (fun x9 I7 L8 =>
          (decide (x9 = (0 : Int32)) = true →
            ax_AK d 229 (60, [some (ax_vr 9 0 184), none, some (ax_vi b2), some (ax_vi 0), some (ax_vi (b4 + 1))], [], ax_mm I7 L8) (ax_ki K)) ∧
          (decide (x9 = (0 : Int32)) = false →
            ax_AK d 229 (60, [some (ax_vr 9 0 184), none, some (ax_vi b2), some (ax_vi 1), some (ax_vi (b4 + 1))], [], ax_mm I7 L8) (ax_ki K))))))) : ax_AK d 229 (60, [some (ax_vr 9 0 184), z1, some (ax_vi b2), some (ax_vi b3), some (ax_vi b4)], [], ax_mm I L) (ax_ki K) := ax_vcL ax_c229 1 (fun pc => Nat.beq pc 60) 22 rfl rfl h
set_option maxRecDepth 100000 in
set_option maxHeartbeats 8000000 in
theorem vc_X9_isAsNow {d : Nat} {a0 : Int32} {a1 : Int32} {I : ax_I} {L : ax_J} {K : Int32 → ax_I → ax_J → Prop} (h :
  ax_AK d 230 (5, [some (ax_vr 9 0 184), some (ax_vi a0), some (ax_vi a1), some (ax_vi 1), some (ax_vi 0)], [], ax_mm I L) (ax_ki K)) : ax_CI (d + 1) 230 [ax_vr 9 0 184, ax_vi a0, ax_vi a1] I L K := ax_vcI ax_c230 3 [some (ax_vr 9 0 184), some (ax_vi a0), some (ax_vi a1), none, none] (fun pc => Nat.beq pc 5) 6 rfl rfl rfl rfl h
set_option maxRecDepth 100000 in
set_option maxHeartbeats 8000000 in
theorem vc_X9_isAsNow_5 {d : Nat} {b1 : Int32} {b2 : Int32} {b3 : Int32} {b4 : Int32} {I : ax_I} {L : ax_J} {K : Int32 → ax_I → ax_J → Prop} (h :
  (decide ((I 184 11) ≤ b4) = true →
    ax_bit b3 = true ∧ K b3 I L) ∧
  (decide ((I 184 11) ≤ b4) = false →
    (decide (b3 = (0 : Int32)) = true →
      ax_AK d 230 (5, [some (ax_vr 9 0 184), some (ax_vi b1), some (ax_vi b2), some (ax_vi 0), some (ax_vi (b4 + 1))], [], ax_mm I L) (ax_ki K)) ∧
    (decide (b3 = (0 : Int32)) = false →
      ax_CI d 184 [ax_vr 9 0 184, ax_vi b1, ax_vi b2, ax_vi b4] I L (fun x3 I1 L2 =>
        ax_CI d 184 [ax_vr 9 0 184, ax_vi 0, ax_vi b2, ax_vi b4] I1 L2 (fun x6 I4 L5 =>
          ((!decide (x3 = x6)) = true →
            ax_AK d 230 (5, [some (ax_vr 9 0 184), some (ax_vi b1), some (ax_vi b2), some (ax_vi 0), some (ax_vi (b4 + 1))], [], ax_mm I4 L5) (ax_ki K)) ∧
          ((!decide (x3 = x6)) = false →
            ax_AK d 230 (5, [some (ax_vr 9 0 184), some (ax_vi b1), some (ax_vi b2), some (ax_vi 1), some (ax_vi (b4 + 1))], [], ax_mm I4 L5) (ax_ki K))))))) : ax_AK d 230 (5, [some (ax_vr 9 0 184), some (ax_vi b1), some (ax_vi b2), some (ax_vi b3), some (ax_vi b4)], [], ax_mm I L) (ax_ki K) := ax_vcL ax_c230 3 (fun pc => Nat.beq pc 5) 24 rfl rfl h
set_option maxRecDepth 100000 in
set_option maxHeartbeats 8000000 in
theorem vc_X9_layRows {d : Nat} {a0 : Int32} {a1 : Int32} {a2 : Int32} {a3 : Int32} {I : ax_I} {L : ax_J} {K : ax_I → ax_J → Prop} (h :
  ax_inb a0 6 = true ∧
  ((!decide (a1 = (I 186 a0.toNatClampNeg))) = true →
    ax_AK d 231 (158, [some (ax_vr 9 0 184), some (ax_vi a0), some (ax_vi a1), some (ax_vi a2), some (ax_vi a3), some (ax_vi (1 + a1)), some (ax_vi 0), none], [], ax_mm I L) (ax_kv K)) ∧
  ((!decide (a1 = (I 186 a0.toNatClampNeg))) = false →
    ax_CI d 230 [ax_vr 9 0 184, ax_vi (1 + a1), ax_vi 6] I L (fun x3 I1 L2 =>
      (decide (x3 = (0 : Int32)) = true →
        (decide ((0 : Int32) = (0 : Int32)) = true →
          (decide ((0 : Int32) = (0 : Int32)) = true →
            (decide ((0 : Int32) = (0 : Int32)) = true →
              K (ax_ui (ax_ui I1 184 43 ((I1 184 43) + 0)) 184 44 (((ax_ui I1 184 43 ((I1 184 43) + 0)) 184 44) ||| 0)) L2) ∧
            (decide ((0 : Int32) = (0 : Int32)) = false →
              ((!decide (a3 = (0 : Int32))) = true →
                K (ax_ui (ax_ui I1 184 43 ((I1 184 43) + 0)) 184 44 (((ax_ui I1 184 43 ((I1 184 43) + 0)) 184 44) ||| 0)) L2) ∧
              ((!decide (a3 = (0 : Int32))) = false →
                ax_CI d 184 [ax_vr 9 0 184, ax_vi (1 + a1), ax_vi 0, ax_vi a2] (ax_ui I1 184 43 ((I1 184 43) + 0)) L2 (fun x6 I4 L5 =>
                  (decide (x6 = (-9 : Int32)) = true →
                    K (ax_ui I4 184 44 (((ax_ui I1 184 43 ((I1 184 43) + 0)) 184 44) ||| 0)) L5) ∧
                  (decide (x6 = (-9 : Int32)) = false →
                    ax_CI d 184 [ax_vr 9 0 184, ax_vi (1 + a1), ax_vi 0, ax_vi a2] I4 L5 (fun x9 I7 L8 =>
                      K (ax_ui I7 184 44 (((ax_ui I1 184 43 ((I1 184 43) + 0)) 184 44) ||| ((1 : Int32) <<< (x9 &&& 31)))) L8)))))) ∧
          (decide ((0 : Int32) = (0 : Int32)) = false →
            (decide ((0 : Int32) = (0 : Int32)) = true →
              K (ax_ui (ax_ui I1 184 43 ((I1 184 43) + 1)) 184 44 (((ax_ui I1 184 43 ((I1 184 43) + 1)) 184 44) ||| 0)) L2) ∧
            (decide ((0 : Int32) = (0 : Int32)) = false →
              ((!decide (a3 = (0 : Int32))) = true →
                K (ax_ui (ax_ui I1 184 43 ((I1 184 43) + 1)) 184 44 (((ax_ui I1 184 43 ((I1 184 43) + 1)) 184 44) ||| 0)) L2) ∧
              ((!decide (a3 = (0 : Int32))) = false →
                ax_CI d 184 [ax_vr 9 0 184, ax_vi (1 + a1), ax_vi 0, ax_vi a2] (ax_ui I1 184 43 ((I1 184 43) + 1)) L2 (fun x12 I10 L11 =>
                  (decide (x12 = (-9 : Int32)) = true →
                    K (ax_ui I10 184 44 (((ax_ui I1 184 43 ((I1 184 43) + 1)) 184 44) ||| 0)) L11) ∧
                  (decide (x12 = (-9 : Int32)) = false →
                    ax_CI d 184 [ax_vr 9 0 184, ax_vi (1 + a1), ax_vi 0, ax_vi a2] I10 L11 (fun x15 I13 L14 =>
                      K (ax_ui I13 184 44 (((ax_ui I1 184 43 ((I1 184 43) + 1)) 184 44) ||| ((1 : Int32) <<< (x15 &&& 31)))) L14))))))) ∧
        (decide ((0 : Int32) = (0 : Int32)) = false →
          ((!decide ((I1 184 43) = (0 : Int32))) = true →
            (decide ((0 : Int32) = (0 : Int32)) = true →
              (decide ((0 : Int32) = (0 : Int32)) = true →
                K (ax_ui (ax_ui I1 184 43 ((I1 184 43) + 0)) 184 44 (((ax_ui I1 184 43 ((I1 184 43) + 0)) 184 44) ||| 0)) L2) ∧
              (decide ((0 : Int32) = (0 : Int32)) = false →
                ((!decide (a3 = (0 : Int32))) = true →
                  K (ax_ui (ax_ui I1 184 43 ((I1 184 43) + 0)) 184 44 (((ax_ui I1 184 43 ((I1 184 43) + 0)) 184 44) ||| 0)) L2) ∧
                ((!decide (a3 = (0 : Int32))) = false →
                  ax_CI d 184 [ax_vr 9 0 184, ax_vi (1 + a1), ax_vi 0, ax_vi a2] (ax_ui I1 184 43 ((I1 184 43) + 0)) L2 (fun x18 I16 L17 =>
                    (decide (x18 = (-9 : Int32)) = true →
                      K (ax_ui I16 184 44 (((ax_ui I1 184 43 ((I1 184 43) + 0)) 184 44) ||| 0)) L17) ∧
                    (decide (x18 = (-9 : Int32)) = false →
                      ax_CI d 184 [ax_vr 9 0 184, ax_vi (1 + a1), ax_vi 0, ax_vi a2] I16 L17 (fun x21 I19 L20 =>
                        K (ax_ui I19 184 44 (((ax_ui I1 184 43 ((I1 184 43) + 0)) 184 44) ||| ((1 : Int32) <<< (x21 &&& 31)))) L20)))))) ∧
            (decide ((0 : Int32) = (0 : Int32)) = false →
              (decide ((0 : Int32) = (0 : Int32)) = true →
                K (ax_ui (ax_ui I1 184 43 ((I1 184 43) + 1)) 184 44 (((ax_ui I1 184 43 ((I1 184 43) + 1)) 184 44) ||| 0)) L2) ∧
              (decide ((0 : Int32) = (0 : Int32)) = false →
                ((!decide (a3 = (0 : Int32))) = true →
                  K (ax_ui (ax_ui I1 184 43 ((I1 184 43) + 1)) 184 44 (((ax_ui I1 184 43 ((I1 184 43) + 1)) 184 44) ||| 0)) L2) ∧
                ((!decide (a3 = (0 : Int32))) = false →
                  ax_CI d 184 [ax_vr 9 0 184, ax_vi (1 + a1), ax_vi 0, ax_vi a2] (ax_ui I1 184 43 ((I1 184 43) + 1)) L2 (fun x24 I22 L23 =>
                    (decide (x24 = (-9 : Int32)) = true →
                      K (ax_ui I22 184 44 (((ax_ui I1 184 43 ((I1 184 43) + 1)) 184 44) ||| 0)) L23) ∧
                    (decide (x24 = (-9 : Int32)) = false →
                      ax_CI d 184 [ax_vr 9 0 184, ax_vi (1 + a1), ax_vi 0, ax_vi a2] I22 L23 (fun x27 I25 L26 =>
                        K (ax_ui I25 184 44 (((ax_ui I1 184 43 ((I1 184 43) + 1)) 184 44) ||| ((1 : Int32) <<< (x27 &&& 31)))) L26))))))) ∧
          ((!decide ((I1 184 43) = (0 : Int32))) = false →
            ax_AK d 231 (63, [some (ax_vr 9 0 184), some (ax_vi a0), some (ax_vi a1), some (ax_vi a2), some (ax_vi a3), some (ax_vi (1 + a1)), some (ax_vi 0), some (ax_vi 0)], [], ax_mm I1 L2) (ax_kv K)))) ∧
      (decide (x3 = (0 : Int32)) = false →
        (decide (a3 = (0 : Int32)) = true →
          (decide ((1 : Int32) = (0 : Int32)) = true →
            (decide ((1 : Int32) = (0 : Int32)) = true →
              (decide ((1 : Int32) = (0 : Int32)) = true →
                K (ax_ui (ax_ui I1 184 43 ((I1 184 43) + 0)) 184 44 (((ax_ui I1 184 43 ((I1 184 43) + 0)) 184 44) ||| 0)) L2) ∧
              (decide ((1 : Int32) = (0 : Int32)) = false →
                ((!decide (a3 = (0 : Int32))) = true →
                  K (ax_ui (ax_ui I1 184 43 ((I1 184 43) + 0)) 184 44 (((ax_ui I1 184 43 ((I1 184 43) + 0)) 184 44) ||| 0)) L2) ∧
                ((!decide (a3 = (0 : Int32))) = false →
                  ax_CI d 184 [ax_vr 9 0 184, ax_vi (1 + a1), ax_vi 0, ax_vi a2] (ax_ui I1 184 43 ((I1 184 43) + 0)) L2 (fun x30 I28 L29 =>
                    (decide (x30 = (-9 : Int32)) = true →
                      K (ax_ui I28 184 44 (((ax_ui I1 184 43 ((I1 184 43) + 0)) 184 44) ||| 0)) L29) ∧
                    (decide (x30 = (-9 : Int32)) = false →
                      ax_CI d 184 [ax_vr 9 0 184, ax_vi (1 + a1), ax_vi 0, ax_vi a2] I28 L29 (fun x33 I31 L32 =>
                        K (ax_ui I31 184 44 (((ax_ui I1 184 43 ((I1 184 43) + 0)) 184 44) ||| ((1 : Int32) <<< (x33 &&& 31)))) L32)))))) ∧
            (decide ((1 : Int32) = (0 : Int32)) = false →
              (decide ((1 : Int32) = (0 : Int32)) = true →
                K (ax_ui (ax_ui I1 184 43 ((I1 184 43) + 1)) 184 44 (((ax_ui I1 184 43 ((I1 184 43) + 1)) 184 44) ||| 0)) L2) ∧
              (decide ((1 : Int32) = (0 : Int32)) = false →
                ((!decide (a3 = (0 : Int32))) = true →
                  K (ax_ui (ax_ui I1 184 43 ((I1 184 43) + 1)) 184 44 (((ax_ui I1 184 43 ((I1 184 43) + 1)) 184 44) ||| 0)) L2) ∧
                ((!decide (a3 = (0 : Int32))) = false →
                  ax_CI d 184 [ax_vr 9 0 184, ax_vi (1 + a1), ax_vi 0, ax_vi a2] (ax_ui I1 184 43 ((I1 184 43) + 1)) L2 (fun x36 I34 L35 =>
                    (decide (x36 = (-9 : Int32)) = true →
                      K (ax_ui I34 184 44 (((ax_ui I1 184 43 ((I1 184 43) + 1)) 184 44) ||| 0)) L35) ∧
                    (decide (x36 = (-9 : Int32)) = false →
                      ax_CI d 184 [ax_vr 9 0 184, ax_vi (1 + a1), ax_vi 0, ax_vi a2] I34 L35 (fun x39 I37 L38 =>
                        K (ax_ui I37 184 44 (((ax_ui I1 184 43 ((I1 184 43) + 1)) 184 44) ||| ((1 : Int32) <<< (x39 &&& 31)))) L38))))))) ∧
          (decide ((1 : Int32) = (0 : Int32)) = false →
            ((!decide ((I1 184 43) = (0 : Int32))) = true →
              (decide ((1 : Int32) = (0 : Int32)) = true →
                (decide ((1 : Int32) = (0 : Int32)) = true →
                  K (ax_ui (ax_ui I1 184 43 ((I1 184 43) + 0)) 184 44 (((ax_ui I1 184 43 ((I1 184 43) + 0)) 184 44) ||| 0)) L2) ∧
                (decide ((1 : Int32) = (0 : Int32)) = false →
                  ((!decide (a3 = (0 : Int32))) = true →
                    K (ax_ui (ax_ui I1 184 43 ((I1 184 43) + 0)) 184 44 (((ax_ui I1 184 43 ((I1 184 43) + 0)) 184 44) ||| 0)) L2) ∧
                  ((!decide (a3 = (0 : Int32))) = false →
                    ax_CI d 184 [ax_vr 9 0 184, ax_vi (1 + a1), ax_vi 0, ax_vi a2] (ax_ui I1 184 43 ((I1 184 43) + 0)) L2 (fun x42 I40 L41 =>
                      (decide (x42 = (-9 : Int32)) = true →
                        K (ax_ui I40 184 44 (((ax_ui I1 184 43 ((I1 184 43) + 0)) 184 44) ||| 0)) L41) ∧
                      (decide (x42 = (-9 : Int32)) = false →
                        ax_CI d 184 [ax_vr 9 0 184, ax_vi (1 + a1), ax_vi 0, ax_vi a2] I40 L41 (fun x45 I43 L44 =>
                          K (ax_ui I43 184 44 (((ax_ui I1 184 43 ((I1 184 43) + 0)) 184 44) ||| ((1 : Int32) <<< (x45 &&& 31)))) L44)))))) ∧
              (decide ((1 : Int32) = (0 : Int32)) = false →
                (decide ((1 : Int32) = (0 : Int32)) = true →
                  K (ax_ui (ax_ui I1 184 43 ((I1 184 43) + 1)) 184 44 (((ax_ui I1 184 43 ((I1 184 43) + 1)) 184 44) ||| 0)) L2) ∧
                (decide ((1 : Int32) = (0 : Int32)) = false →
                  ((!decide (a3 = (0 : Int32))) = true →
                    K (ax_ui (ax_ui I1 184 43 ((I1 184 43) + 1)) 184 44 (((ax_ui I1 184 43 ((I1 184 43) + 1)) 184 44) ||| 0)) L2) ∧
                  ((!decide (a3 = (0 : Int32))) = false →
                    ax_CI d 184 [ax_vr 9 0 184, ax_vi (1 + a1), ax_vi 0, ax_vi a2] (ax_ui I1 184 43 ((I1 184 43) + 1)) L2 (fun x48 I46 L47 =>
                      (decide (x48 = (-9 : Int32)) = true →
                        K (ax_ui I46 184 44 (((ax_ui I1 184 43 ((I1 184 43) + 1)) 184 44) ||| 0)) L47) ∧
                      (decide (x48 = (-9 : Int32)) = false →
                        ax_CI d 184 [ax_vr 9 0 184, ax_vi (1 + a1), ax_vi 0, ax_vi a2] I46 L47 (fun x51 I49 L50 =>
                          K (ax_ui I49 184 44 (((ax_ui I1 184 43 ((I1 184 43) + 1)) 184 44) ||| ((1 : Int32) <<< (x51 &&& 31)))) L50))))))) ∧
            ((!decide ((I1 184 43) = (0 : Int32))) = false →
              ax_AK d 231 (63, [some (ax_vr 9 0 184), some (ax_vi a0), some (ax_vi a1), some (ax_vi a2), some (ax_vi a3), some (ax_vi (1 + a1)), some (ax_vi 1), some (ax_vi 0)], [], ax_mm I1 L2) (ax_kv K)))) ∧
        (decide (a3 = (0 : Int32)) = false →
          ax_CI d 230 [ax_vr 9 0 184, ax_vi (1 + a1), ax_vi 0] I1 L2 (fun x54 I52 L53 =>
            (decide (x54 = (0 : Int32)) = true →
              (decide ((0 : Int32) = (0 : Int32)) = true →
                (decide ((0 : Int32) = (0 : Int32)) = true →
                  (decide ((0 : Int32) = (0 : Int32)) = true →
                    K (ax_ui (ax_ui I52 184 43 ((I52 184 43) + 0)) 184 44 (((ax_ui I52 184 43 ((I52 184 43) + 0)) 184 44) ||| 0)) L53) ∧
                  (decide ((0 : Int32) = (0 : Int32)) = false →
                    ((!decide (a3 = (0 : Int32))) = true →
                      K (ax_ui (ax_ui I52 184 43 ((I52 184 43) + 0)) 184 44 (((ax_ui I52 184 43 ((I52 184 43) + 0)) 184 44) ||| 0)) L53) ∧
                    ((!decide (a3 = (0 : Int32))) = false →
                      ax_CI d 184 [ax_vr 9 0 184, ax_vi (1 + a1), ax_vi 0, ax_vi a2] (ax_ui I52 184 43 ((I52 184 43) + 0)) L53 (fun x57 I55 L56 =>
                        (decide (x57 = (-9 : Int32)) = true →
                          K (ax_ui I55 184 44 (((ax_ui I52 184 43 ((I52 184 43) + 0)) 184 44) ||| 0)) L56) ∧
                        (decide (x57 = (-9 : Int32)) = false →
                          ax_CI d 184 [ax_vr 9 0 184, ax_vi (1 + a1), ax_vi 0, ax_vi a2] I55 L56 (fun x60 I58 L59 =>
                            K (ax_ui I58 184 44 (((ax_ui I52 184 43 ((I52 184 43) + 0)) 184 44) ||| ((1 : Int32) <<< (x60 &&& 31)))) L59)))))) ∧
                (decide ((0 : Int32) = (0 : Int32)) = false →
                  (decide ((0 : Int32) = (0 : Int32)) = true →
                    K (ax_ui (ax_ui I52 184 43 ((I52 184 43) + 1)) 184 44 (((ax_ui I52 184 43 ((I52 184 43) + 1)) 184 44) ||| 0)) L53) ∧
                  (decide ((0 : Int32) = (0 : Int32)) = false →
                    ((!decide (a3 = (0 : Int32))) = true →
                      K (ax_ui (ax_ui I52 184 43 ((I52 184 43) + 1)) 184 44 (((ax_ui I52 184 43 ((I52 184 43) + 1)) 184 44) ||| 0)) L53) ∧
                    ((!decide (a3 = (0 : Int32))) = false →
                      ax_CI d 184 [ax_vr 9 0 184, ax_vi (1 + a1), ax_vi 0, ax_vi a2] (ax_ui I52 184 43 ((I52 184 43) + 1)) L53 (fun x63 I61 L62 =>
                        (decide (x63 = (-9 : Int32)) = true →
                          K (ax_ui I61 184 44 (((ax_ui I52 184 43 ((I52 184 43) + 1)) 184 44) ||| 0)) L62) ∧
                        (decide (x63 = (-9 : Int32)) = false →
                          ax_CI d 184 [ax_vr 9 0 184, ax_vi (1 + a1), ax_vi 0, ax_vi a2] I61 L62 (fun x66 I64 L65 =>
                            K (ax_ui I64 184 44 (((ax_ui I52 184 43 ((I52 184 43) + 1)) 184 44) ||| ((1 : Int32) <<< (x66 &&& 31)))) L65))))))) ∧
              (decide ((0 : Int32) = (0 : Int32)) = false →
                ((!decide ((I52 184 43) = (0 : Int32))) = true →
                  (decide ((0 : Int32) = (0 : Int32)) = true →
                    (decide ((0 : Int32) = (0 : Int32)) = true →
                      K (ax_ui (ax_ui I52 184 43 ((I52 184 43) + 0)) 184 44 (((ax_ui I52 184 43 ((I52 184 43) + 0)) 184 44) ||| 0)) L53) ∧
                    (decide ((0 : Int32) = (0 : Int32)) = false →
                      ((!decide (a3 = (0 : Int32))) = true →
                        K (ax_ui (ax_ui I52 184 43 ((I52 184 43) + 0)) 184 44 (((ax_ui I52 184 43 ((I52 184 43) + 0)) 184 44) ||| 0)) L53) ∧
                      ((!decide (a3 = (0 : Int32))) = false →
                        ax_CI d 184 [ax_vr 9 0 184, ax_vi (1 + a1), ax_vi 0, ax_vi a2] (ax_ui I52 184 43 ((I52 184 43) + 0)) L53 (fun x69 I67 L68 =>
                          (decide (x69 = (-9 : Int32)) = true →
                            K (ax_ui I67 184 44 (((ax_ui I52 184 43 ((I52 184 43) + 0)) 184 44) ||| 0)) L68) ∧
                          (decide (x69 = (-9 : Int32)) = false →
                            ax_CI d 184 [ax_vr 9 0 184, ax_vi (1 + a1), ax_vi 0, ax_vi a2] I67 L68 (fun x72 I70 L71 =>
                              K (ax_ui I70 184 44 (((ax_ui I52 184 43 ((I52 184 43) + 0)) 184 44) ||| ((1 : Int32) <<< (x72 &&& 31)))) L71)))))) ∧
                  (decide ((0 : Int32) = (0 : Int32)) = false →
                    (decide ((0 : Int32) = (0 : Int32)) = true →
                      K (ax_ui (ax_ui I52 184 43 ((I52 184 43) + 1)) 184 44 (((ax_ui I52 184 43 ((I52 184 43) + 1)) 184 44) ||| 0)) L53) ∧
                    (decide ((0 : Int32) = (0 : Int32)) = false →
                      ((!decide (a3 = (0 : Int32))) = true →
                        K (ax_ui (ax_ui I52 184 43 ((I52 184 43) + 1)) 184 44 (((ax_ui I52 184 43 ((I52 184 43) + 1)) 184 44) ||| 0)) L53) ∧
                      ((!decide (a3 = (0 : Int32))) = false →
                        ax_CI d 184 [ax_vr 9 0 184, ax_vi (1 + a1), ax_vi 0, ax_vi a2] (ax_ui I52 184 43 ((I52 184 43) + 1)) L53 (fun x75 I73 L74 =>
                          (decide (x75 = (-9 : Int32)) = true →
                            K (ax_ui I73 184 44 (((ax_ui I52 184 43 ((I52 184 43) + 1)) 184 44) ||| 0)) L74) ∧
                          (decide (x75 = (-9 : Int32)) = false →
                            ax_CI d 184 [ax_vr 9 0 184, ax_vi (1 + a1), ax_vi 0, ax_vi a2] I73 L74 (fun x78 I76 L77 =>
                              K (ax_ui I76 184 44 (((ax_ui I52 184 43 ((I52 184 43) + 1)) 184 44) ||| ((1 : Int32) <<< (x78 &&& 31)))) L77))))))) ∧
                ((!decide ((I52 184 43) = (0 : Int32))) = false →
                  ax_AK d 231 (63, [some (ax_vr 9 0 184), some (ax_vi a0), some (ax_vi a1), some (ax_vi a2), some (ax_vi a3), some (ax_vi (1 + a1)), some (ax_vi 0), some (ax_vi 0)], [], ax_mm I52 L53) (ax_kv K)))) ∧
            (decide (x54 = (0 : Int32)) = false →
              (decide ((1 : Int32) = (0 : Int32)) = true →
                (decide ((1 : Int32) = (0 : Int32)) = true →
                  (decide ((1 : Int32) = (0 : Int32)) = true →
                    K (ax_ui (ax_ui I52 184 43 ((I52 184 43) + 0)) 184 44 (((ax_ui I52 184 43 ((I52 184 43) + 0)) 184 44) ||| 0)) L53) ∧
                  (decide ((1 : Int32) = (0 : Int32)) = false →
                    ((!decide (a3 = (0 : Int32))) = true →
                      K (ax_ui (ax_ui I52 184 43 ((I52 184 43) + 0)) 184 44 (((ax_ui I52 184 43 ((I52 184 43) + 0)) 184 44) ||| 0)) L53) ∧
                    ((!decide (a3 = (0 : Int32))) = false →
                      ax_CI d 184 [ax_vr 9 0 184, ax_vi (1 + a1), ax_vi 0, ax_vi a2] (ax_ui I52 184 43 ((I52 184 43) + 0)) L53 (fun x81 I79 L80 =>
                        (decide (x81 = (-9 : Int32)) = true →
                          K (ax_ui I79 184 44 (((ax_ui I52 184 43 ((I52 184 43) + 0)) 184 44) ||| 0)) L80) ∧
                        (decide (x81 = (-9 : Int32)) = false →
                          ax_CI d 184 [ax_vr 9 0 184, ax_vi (1 + a1), ax_vi 0, ax_vi a2] I79 L80 (fun x84 I82 L83 =>
                            K (ax_ui I82 184 44 (((ax_ui I52 184 43 ((I52 184 43) + 0)) 184 44) ||| ((1 : Int32) <<< (x84 &&& 31)))) L83)))))) ∧
                (decide ((1 : Int32) = (0 : Int32)) = false →
                  (decide ((1 : Int32) = (0 : Int32)) = true →
                    K (ax_ui (ax_ui I52 184 43 ((I52 184 43) + 1)) 184 44 (((ax_ui I52 184 43 ((I52 184 43) + 1)) 184 44) ||| 0)) L53) ∧
                  (decide ((1 : Int32) = (0 : Int32)) = false →
                    ((!decide (a3 = (0 : Int32))) = true →
                      K (ax_ui (ax_ui I52 184 43 ((I52 184 43) + 1)) 184 44 (((ax_ui I52 184 43 ((I52 184 43) + 1)) 184 44) ||| 0)) L53) ∧
                    ((!decide (a3 = (0 : Int32))) = false →
                      ax_CI d 184 [ax_vr 9 0 184, ax_vi (1 + a1), ax_vi 0, ax_vi a2] (ax_ui I52 184 43 ((I52 184 43) + 1)) L53 (fun x87 I85 L86 =>
                        (decide (x87 = (-9 : Int32)) = true →
                          K (ax_ui I85 184 44 (((ax_ui I52 184 43 ((I52 184 43) + 1)) 184 44) ||| 0)) L86) ∧
                        (decide (x87 = (-9 : Int32)) = false →
                          ax_CI d 184 [ax_vr 9 0 184, ax_vi (1 + a1), ax_vi 0, ax_vi a2] I85 L86 (fun x90 I88 L89 =>
                            K (ax_ui I88 184 44 (((ax_ui I52 184 43 ((I52 184 43) + 1)) 184 44) ||| ((1 : Int32) <<< (x90 &&& 31)))) L89))))))) ∧
              (decide ((1 : Int32) = (0 : Int32)) = false →
                ((!decide ((I52 184 43) = (0 : Int32))) = true →
                  (decide ((1 : Int32) = (0 : Int32)) = true →
                    (decide ((1 : Int32) = (0 : Int32)) = true →
                      K (ax_ui (ax_ui I52 184 43 ((I52 184 43) + 0)) 184 44 (((ax_ui I52 184 43 ((I52 184 43) + 0)) 184 44) ||| 0)) L53) ∧
                    (decide ((1 : Int32) = (0 : Int32)) = false →
                      ((!decide (a3 = (0 : Int32))) = true →
                        K (ax_ui (ax_ui I52 184 43 ((I52 184 43) + 0)) 184 44 (((ax_ui I52 184 43 ((I52 184 43) + 0)) 184 44) ||| 0)) L53) ∧
                      ((!decide (a3 = (0 : Int32))) = false →
                        ax_CI d 184 [ax_vr 9 0 184, ax_vi (1 + a1), ax_vi 0, ax_vi a2] (ax_ui I52 184 43 ((I52 184 43) + 0)) L53 (fun x93 I91 L92 =>
                          (decide (x93 = (-9 : Int32)) = true →
                            K (ax_ui I91 184 44 (((ax_ui I52 184 43 ((I52 184 43) + 0)) 184 44) ||| 0)) L92) ∧
                          (decide (x93 = (-9 : Int32)) = false →
                            ax_CI d 184 [ax_vr 9 0 184, ax_vi (1 + a1), ax_vi 0, ax_vi a2] I91 L92 (fun x96 I94 L95 =>
                              K (ax_ui I94 184 44 (((ax_ui I52 184 43 ((I52 184 43) + 0)) 184 44) ||| ((1 : Int32) <<< (x96 &&& 31)))) L95)))))) ∧
                  (decide ((1 : Int32) = (0 : Int32)) = false →
                    (decide ((1 : Int32) = (0 : Int32)) = true →
                      K (ax_ui (ax_ui I52 184 43 ((I52 184 43) + 1)) 184 44 (((ax_ui I52 184 43 ((I52 184 43) + 1)) 184 44) ||| 0)) L53) ∧
                    (decide ((1 : Int32) = (0 : Int32)) = false →
                      ((!decide (a3 = (0 : Int32))) = true →
                        K (ax_ui (ax_ui I52 184 43 ((I52 184 43) + 1)) 184 44 (((ax_ui I52 184 43 ((I52 184 43) + 1)) 184 44) ||| 0)) L53) ∧
                      ((!decide (a3 = (0 : Int32))) = false →
                        ax_CI d 184 [ax_vr 9 0 184, ax_vi (1 + a1), ax_vi 0, ax_vi a2] (ax_ui I52 184 43 ((I52 184 43) + 1)) L53 (fun x99 I97 L98 =>
                          (decide (x99 = (-9 : Int32)) = true →
                            K (ax_ui I97 184 44 (((ax_ui I52 184 43 ((I52 184 43) + 1)) 184 44) ||| 0)) L98) ∧
                          (decide (x99 = (-9 : Int32)) = false →
                            ax_CI d 184 [ax_vr 9 0 184, ax_vi (1 + a1), ax_vi 0, ax_vi a2] I97 L98 (fun x102 I100 L101 =>
                              K (ax_ui I100 184 44 (((ax_ui I52 184 43 ((I52 184 43) + 1)) 184 44) ||| ((1 : Int32) <<< (x102 &&& 31)))) L101))))))) ∧
                ((!decide ((I52 184 43) = (0 : Int32))) = false →
                  ax_AK d 231 (63, [some (ax_vr 9 0 184), some (ax_vi a0), some (ax_vi a1), some (ax_vi a2), some (ax_vi a3), some (ax_vi (1 + a1)), some (ax_vi 1), some (ax_vi 0)], [], ax_mm I52 L53) (ax_kv K)))))))))) : ax_CV (d + 1) 231 [ax_vr 9 0 184, ax_vi a0, ax_vi a1, ax_vi a2, ax_vi a3] I L K := ax_vcV ax_c231 0 [some (ax_vr 9 0 184), some (ax_vi a0), some (ax_vi a1), some (ax_vi a2), some (ax_vi a3), none, none, none] (fun pc => Nat.beq pc 63 || Nat.beq pc 158) 65 rfl rfl rfl rfl h
set_option maxRecDepth 100000 in
set_option maxHeartbeats 8000000 in
theorem vc_X9_layRows_63 {d : Nat} {b2 : Int32} {b3 : Int32} {b4 : Int32} {b5 : Int32} {b6 : Int32} {b7 : Int32} {z1 : Option ax_V} {I : ax_I} {L : ax_J} {K : ax_I → ax_J → Prop} (h :
  (decide (b2 ≤ b7) = true →
    (decide (b6 = (0 : Int32)) = true →
      (decide (b6 = (0 : Int32)) = true →
        K (ax_ui (ax_ui I 184 43 ((I 184 43) + 0)) 184 44 (((ax_ui I 184 43 ((I 184 43) + 0)) 184 44) ||| 0)) L) ∧
      (decide (b6 = (0 : Int32)) = false →
        ((!decide (b4 = (0 : Int32))) = true →
          K (ax_ui (ax_ui I 184 43 ((I 184 43) + 0)) 184 44 (((ax_ui I 184 43 ((I 184 43) + 0)) 184 44) ||| 0)) L) ∧
        ((!decide (b4 = (0 : Int32))) = false →
          ax_CI d 184 [ax_vr 9 0 184, ax_vi b5, ax_vi 0, ax_vi b3] (ax_ui I 184 43 ((I 184 43) + 0)) L (fun x3 I1 L2 =>
            (decide (x3 = (-9 : Int32)) = true →
              K (ax_ui I1 184 44 (((ax_ui I 184 43 ((I 184 43) + 0)) 184 44) ||| 0)) L2) ∧
            (decide (x3 = (-9 : Int32)) = false →
              ax_CI d 184 [ax_vr 9 0 184, ax_vi b5, ax_vi 0, ax_vi b3] I1 L2 (fun x6 I4 L5 =>
                K (ax_ui I4 184 44 (((ax_ui I 184 43 ((I 184 43) + 0)) 184 44) ||| ((1 : Int32) <<< (x6 &&& 31)))) L5)))))) ∧
    (decide (b6 = (0 : Int32)) = false →
      (decide (b6 = (0 : Int32)) = true →
        K (ax_ui (ax_ui I 184 43 ((I 184 43) + 1)) 184 44 (((ax_ui I 184 43 ((I 184 43) + 1)) 184 44) ||| 0)) L) ∧
      (decide (b6 = (0 : Int32)) = false →
        ((!decide (b4 = (0 : Int32))) = true →
          K (ax_ui (ax_ui I 184 43 ((I 184 43) + 1)) 184 44 (((ax_ui I 184 43 ((I 184 43) + 1)) 184 44) ||| 0)) L) ∧
        ((!decide (b4 = (0 : Int32))) = false →
          ax_CI d 184 [ax_vr 9 0 184, ax_vi b5, ax_vi 0, ax_vi b3] (ax_ui I 184 43 ((I 184 43) + 1)) L (fun x9 I7 L8 =>
            (decide (x9 = (-9 : Int32)) = true →
              K (ax_ui I7 184 44 (((ax_ui I 184 43 ((I 184 43) + 1)) 184 44) ||| 0)) L8) ∧
            (decide (x9 = (-9 : Int32)) = false →
              ax_CI d 184 [ax_vr 9 0 184, ax_vi b5, ax_vi 0, ax_vi b3] I7 L8 (fun x12 I10 L11 =>
                K (ax_ui I10 184 44 (((ax_ui I 184 43 ((I 184 43) + 1)) 184 44) ||| ((1 : Int32) <<< (x12 &&& 31)))) L11))))))) ∧
  (decide (b2 ≤ b7) = false →
    ax_inb b7 6 = true ∧
    ax_inb b7 6 = true ∧
    ax_AK d 231 (63, [some (ax_vr 9 0 184), none, some (ax_vi b2), some (ax_vi b3), some (ax_vi b4), some (ax_vi b5), some (ax_vi b6), some (ax_vi (b7 + 1))], [], ax_mm (ax_ui I 211 b7.toNatClampNeg (I 210 b7.toNatClampNeg)) L) (ax_kv K))) : ax_AK d 231 (63, [some (ax_vr 9 0 184), z1, some (ax_vi b2), some (ax_vi b3), some (ax_vi b4), some (ax_vi b5), some (ax_vi b6), some (ax_vi b7)], [], ax_mm I L) (ax_kv K) := ax_vcL ax_c231 0 (fun pc => Nat.beq pc 63 || Nat.beq pc 158) 38 rfl rfl h
set_option maxRecDepth 100000 in
set_option maxHeartbeats 8000000 in
theorem vc_X9_layRows_158 {d : Nat} {b1 : Int32} {b2 : Int32} {b3 : Int32} {b4 : Int32} {b5 : Int32} {b6 : Int32} {z7 : Option ax_V} {I : ax_I} {L : ax_J} {K : ax_I → ax_J → Prop} (h :
  (decide ((I 184 11) ≤ b6) = true →
    K I L) ∧
  (decide ((I 184 11) ≤ b6) = false →
    ax_CI d 161 [ax_vr 9 0 184, ax_vi b1, ax_vi b2] I L (fun x3 I1 L2 =>
      ax_CV d 215 [ax_vr 9 0 184, ax_vi b5, ax_vi x3, ax_vi b6] I1 L2 (fun I4 L5 =>
        ax_inb b2 6 = true ∧
        ax_CV d 231 [ax_vr 9 0 184, ax_vi b1, ax_vi (b2 + 1), ax_vi b3, ax_vi b4] (ax_ui I4 210 b2.toNatClampNeg b6) L5 (fun I7 L8 =>
          ax_AK d 231 (158, [some (ax_vr 9 0 184), some (ax_vi b1), some (ax_vi b2), some (ax_vi b3), some (ax_vi b4), some (ax_vi b5), some (ax_vi (b6 + 1)), none], [], ax_mm I7 L8) (ax_kv K)))))) : ax_AK d 231 (158, [some (ax_vr 9 0 184), some (ax_vi b1), some (ax_vi b2), some (ax_vi b3), some (ax_vi b4), some (ax_vi b5), some (ax_vi b6), z7], [], ax_mm I L) (ax_kv K) := ax_vcL ax_c231 0 (fun pc => Nat.beq pc 63 || Nat.beq pc 158) 29 rfl rfl h
set_option maxRecDepth 100000 in
set_option maxHeartbeats 8000000 in
theorem vc_X9_said {d : Nat} {a0 : Int32} {a1 : Int32} {I : ax_I} {L : ax_J} {K : Int32 → ax_I → ax_J → Prop} (h :
  ax_CI d 160 [ax_vi a1] I L (fun x3 I1 L2 =>
    ax_CI d 229 [ax_vr 9 0 184, ax_vi x3, ax_vi a0] I1 L2 (fun x6 I4 L5 =>
      (decide ((0 : Int32) ≤ x6) = true →
        ax_CV d 187 [ax_vr 9 0 184, ax_vi 1] (ax_ui I4 184 43 0) L5 (fun I7 L8 =>
          ax_CV d 231 [ax_vr 9 0 184, ax_vi a0, ax_vi 0, ax_vi 0, ax_vi 1] I7 L8 (fun I10 L11 =>
            (decide ((I10 184 43) ≤ (0 : Int32)) = true →
              K (I10 184 43) I10 L11) ∧
            (decide ((I10 184 43) ≤ (0 : Int32)) = false →
              ax_inb a0 6 = true ∧
              ax_CV d 172 [ax_vr 9 0 184, ax_vi a1, ax_vr 10 6 211, ax_vi (I10 186 a0.toNatClampNeg)] I10 L11 (fun I13 L14 =>
                K (I13 184 43) I13 L14))))) ∧
      (decide ((0 : Int32) ≤ x6) = false →
        K x6 I4 L5)))) : ax_CI (d + 1) 232 [ax_vr 9 0 184, ax_vi a0, ax_vi a1] I L K := ax_vcI ax_c232 1 [some (ax_vr 9 0 184), some (ax_vi a0), some (ax_vi a1), none] (fun _ => false) 36 rfl rfl rfl rfl h
set_option maxRecDepth 100000 in
set_option maxHeartbeats 8000000 in
theorem vc_X9_firsts {d : Nat} {a0 : Int32} {a1 : Int32} {I : ax_I} {L : ax_J} {K : Int32 → ax_I → ax_J → Prop} (h :
  ax_CI d 183 [ax_vr 9 0 184, ax_vi a0] I L (fun x3 I1 L2 =>
    ((!decide (x3 = (0 : Int32))) = true →
      ax_CI d 229 [ax_vr 9 0 184, ax_vi 1, ax_vi a1] I1 L2 (fun x6 I4 L5 =>
        (decide ((0 : Int32) ≤ x6) = true →
          ax_CV d 187 [ax_vr 9 0 184, ax_vi 1] (ax_ui (ax_ui I4 184 43 0) 184 44 0) L5 (fun I7 L8 =>
            ax_CV d 231 [ax_vr 9 0 184, ax_vi a1, ax_vi 0, ax_vi a0, ax_vi 0] I7 L8 (fun I10 L11 =>
              K (I10 184 44) I10 L11))) ∧
        (decide ((0 : Int32) ≤ x6) = false →
          K x6 I4 L5))) ∧
    ((!decide (x3 = (0 : Int32))) = false →
      ((!decide ((I1 184 10) = (0 : Int32))) = true →
        ax_CI d 229 [ax_vr 9 0 184, ax_vi 0, ax_vi a1] I1 L2 (fun x15 I13 L14 =>
          (decide ((0 : Int32) ≤ x15) = true →
            ax_CV d 187 [ax_vr 9 0 184, ax_vi 1] (ax_ui (ax_ui I13 184 43 0) 184 44 0) L14 (fun I16 L17 =>
              ax_CV d 231 [ax_vr 9 0 184, ax_vi a1, ax_vi 0, ax_vi a0, ax_vi 0] I16 L17 (fun I19 L20 =>
                K (I19 184 44) I19 L20))) ∧
          (decide ((0 : Int32) ≤ x15) = false →
            K x15 I13 L14))) ∧
      ((!decide ((I1 184 10) = (0 : Int32))) = false →
        ax_CI d 229 [ax_vr 9 0 184, ax_vi 1, ax_vi a1] I1 L2 (fun x24 I22 L23 =>
          (decide ((0 : Int32) ≤ x24) = true →
            ax_CV d 187 [ax_vr 9 0 184, ax_vi 1] (ax_ui (ax_ui I22 184 43 0) 184 44 0) L23 (fun I25 L26 =>
              ax_CV d 231 [ax_vr 9 0 184, ax_vi a1, ax_vi 0, ax_vi a0, ax_vi 0] I25 L26 (fun I28 L29 =>
                K (I28 184 44) I28 L29))) ∧
          (decide ((0 : Int32) ≤ x24) = false →
            K x24 I22 L23)))))) : ax_CI (d + 1) 233 [ax_vr 9 0 184, ax_vi a0, ax_vi a1] I L K := ax_vcI ax_c233 1 [some (ax_vr 9 0 184), some (ax_vi a0), some (ax_vi a1), none] (fun _ => false) 34 rfl rfl rfl rfl h
