set_option maxRecDepth 100000 in
set_option maxHeartbeats 8000000 in
theorem vc_X9_tear {d : Nat} {a0 : Int32} {I : ax_I} {L : ax_J} {K : Int32 → ax_I → ax_J → Prop} (h :
  ax_CI d 160 [ax_vi a0] I L (fun x3 I1 L2 =>
    ((!decide (x3 = (0 : Int32))) = true →
      ax_inb a0 6 = true ∧
      (decide ((0 : Int32) ≤ (I1 186 a0.toNatClampNeg)) = true →
        ax_inb a0 6 = true ∧
        K 1 (ax_ui I1 186 a0.toNatClampNeg (-1)) L2) ∧
      (decide ((0 : Int32) ≤ (I1 186 a0.toNatClampNeg)) = false →
        ax_CI d 152 [ax_vr 9 0 184, ax_vi 1] I1 L2 (fun x6 I4 L5 =>
          K x6 I4 L5))) ∧
    ((!decide (x3 = (0 : Int32))) = false →
      K (-1) I1 L2))) : ax_CI (d + 1) 165 [ax_vr 9 0 184, ax_vi a0] I L K := ax_vcI ax_c165 1 [some (ax_vr 9 0 184), some (ax_vi a0)] (fun _ => false) 16 rfl rfl rfl rfl h
set_option maxRecDepth 100000 in
set_option maxHeartbeats 8000000 in
theorem vc_X9_copy {d : Nat} {a0 : Int32} {a1 : Int32} {a2 : Int32} {a3 : Int32} {a4 : Int32} {I : ax_I} {L : ax_J} {K : Int32 → ax_I → ax_J → Prop} (h :
  ax_CI d 160 [ax_vi a0] I L (fun x3 I1 L2 =>
    (decide (x3 = (0 : Int32)) = true →
      K (-1) I1 L2) ∧
    (decide (x3 = (0 : Int32)) = false →
      ax_CI d 160 [ax_vi a2] I1 L2 (fun x6 I4 L5 =>
        ((!decide (x6 = (0 : Int32))) = true →
          (decide ((0 : Int32) ≤ a4) = true →
            ax_inb a0 6 = true ∧
            (decide ((I4 186 a0.toNatClampNeg) < (0 : Int32)) = true →
              ax_CI d 152 [ax_vr 9 0 184, ax_vi 1] I4 L5 (fun x9 I7 L8 =>
                K x9 I7 L8)) ∧
            (decide ((I4 186 a0.toNatClampNeg) < (0 : Int32)) = false →
              ax_inb a2 6 = true ∧
              (decide ((0 : Int32) ≤ (I4 186 a2.toNatClampNeg)) = true →
                (decide (a1 < (0 : Int32)) = true →
                  ax_CI d 152 [ax_vr 9 0 184, ax_vi 2] I4 L5 (fun x12 I10 L11 =>
                    K x12 I10 L11)) ∧
                (decide (a1 < (0 : Int32)) = false →
                  (decide (a3 < (0 : Int32)) = true →
                    ax_CI d 152 [ax_vr 9 0 184, ax_vi 2] I4 L5 (fun x15 I13 L14 =>
                      K x15 I13 L14)) ∧
                  (decide (a3 < (0 : Int32)) = false →
                    ax_inb a0 6 = true ∧
                    (decide ((0 : Int32) < (lg_cmp (a1.toInt64 + a4.toInt64) ((I4 186 a0.toNatClampNeg).toInt64))) = true →
                      ax_CI d 152 [ax_vr 9 0 184, ax_vi 2] I4 L5 (fun x18 I16 L17 =>
                        K x18 I16 L17)) ∧
                    (decide ((0 : Int32) < (lg_cmp (a1.toInt64 + a4.toInt64) ((I4 186 a0.toNatClampNeg).toInt64))) = false →
                      ax_inb a2 6 = true ∧
                      (decide ((lg_cmp (a3.toInt64 + a4.toInt64) ((I4 186 a2.toNatClampNeg).toInt64)) ≤ (0 : Int32)) = true →
                        ax_AK d 166 (104, [some (ax_vr 9 0 184), some (ax_vi a0), some (ax_vi a1), some (ax_vi a2), some (ax_vi a3), some (ax_vi a4), some (ax_vi 0)], [], ax_mm I4 L5) (ax_ki K)) ∧
                      (decide ((lg_cmp (a3.toInt64 + a4.toInt64) ((I4 186 a2.toNatClampNeg).toInt64)) ≤ (0 : Int32)) = false →
                        ax_CI d 152 [ax_vr 9 0 184, ax_vi 2] I4 L5 (fun x21 I19 L20 =>
                          K x21 I19 L20)))))) ∧
              (decide ((0 : Int32) ≤ (I4 186 a2.toNatClampNeg)) = false →
                ax_CI d 152 [ax_vr 9 0 184, ax_vi 1] I4 L5 (fun x24 I22 L23 =>
                  K x24 I22 L23)))) ∧
          (decide ((0 : Int32) ≤ a4) = false →
            ax_CI d 152 [ax_vr 9 0 184, ax_vi 5] I4 L5 (fun x27 I25 L26 =>
              K x27 I25 L26))) ∧
        ((!decide (x6 = (0 : Int32))) = false →
          K (-1) I4 L5))))) : ax_CI (d + 1) 166 [ax_vr 9 0 184, ax_vi a0, ax_vi a1, ax_vi a2, ax_vi a3, ax_vi a4] I L K := ax_vcI ax_c166 1 [some (ax_vr 9 0 184), some (ax_vi a0), some (ax_vi a1), some (ax_vi a2), some (ax_vi a3), some (ax_vi a4), none] (fun pc => Nat.beq pc 104 || Nat.beq pc 136) 51 rfl rfl rfl rfl h
set_option maxRecDepth 100000 in
set_option maxHeartbeats 8000000 in
theorem vc_X9_copy_104 {d : Nat} {b1 : Int32} {b2 : Int32} {b3 : Int32} {b4 : Int32} {b5 : Int32} {b6 : Int32} {I : ax_I} {L : ax_J} {K : Int32 → ax_I → ax_J → Prop} (h :
  (decide (b5 ≤ b6) = true →
    ax_AK d 166 (136, [some (ax_vr 9 0 184), some (ax_vi b1), some (ax_vi b2), some (ax_vi b3), some (ax_vi b4), some (ax_vi b5), some (ax_vi 0)], [], ax_mm I L) (ax_ki K)) ∧
  (decide (b5 ≤ b6) = false →
    ax_CI d 161 [ax_vr 9 0 184, ax_vi b1, ax_vi (b2 + b6)] I L (fun x3 I1 L2 =>
      ax_inb b6 40 = true ∧
      ax_AK d 166 (104, [some (ax_vr 9 0 184), some (ax_vi b1), some (ax_vi b2), some (ax_vi b3), some (ax_vi b4), some (ax_vi b5), some (ax_vi (b6 + 1))], [], ax_mm (ax_ui I1 188 b6.toNatClampNeg x3) L2) (ax_ki K)))) : ax_AK d 166 (104, [some (ax_vr 9 0 184), some (ax_vi b1), some (ax_vi b2), some (ax_vi b3), some (ax_vi b4), some (ax_vi b5), some (ax_vi b6)], [], ax_mm I L) (ax_ki K) := ax_vcL ax_c166 1 (fun pc => Nat.beq pc 104 || Nat.beq pc 136) 17 rfl rfl h
set_option maxRecDepth 100000 in
set_option maxHeartbeats 8000000 in
theorem vc_X9_copy_136 {d : Nat} {b3 : Int32} {b4 : Int32} {b5 : Int32} {b6 : Int32} {z1 : Option ax_V} {z2 : Option ax_V} {I : ax_I} {L : ax_J} {K : Int32 → ax_I → ax_J → Prop} (h :
  (decide (b5 ≤ b6) = true →
    K 1 I L) ∧
  (decide (b5 ≤ b6) = false →
    ax_inb b6 40 = true ∧
    ax_inb (((40 * b3) + b4) + b6) 240 = true ∧
    ax_AK d 166 (136, [some (ax_vr 9 0 184), none, none, some (ax_vi b3), some (ax_vi b4), some (ax_vi b5), some (ax_vi (b6 + 1))], [], ax_mm (ax_ui I 187 (((40 * b3) + b4) + b6).toNatClampNeg (I 188 b6.toNatClampNeg)) L) (ax_ki K))) : ax_AK d 166 (136, [some (ax_vr 9 0 184), z1, z2, some (ax_vi b3), some (ax_vi b4), some (ax_vi b5), some (ax_vi b6)], [], ax_mm I L) (ax_ki K) := ax_vcL ax_c166 1 (fun pc => Nat.beq pc 104 || Nat.beq pc 136) 21 rfl rfl h
set_option maxRecDepth 100000 in
set_option maxHeartbeats 8000000 in
theorem vc_X9_mean {d : Nat} {a0 : Int32} {I : ax_I} {L : ax_J} {K : Int32 → ax_I → ax_J → Prop} (h :
  ax_CI d 160 [ax_vi a0] I L (fun x3 I1 L2 =>
    ((!decide (x3 = (0 : Int32))) = true →
      ax_inb a0 6 = true ∧
      (decide ((0 : Int32) ≤ (I1 186 a0.toNatClampNeg)) = true →
        ax_inb a0 6 = true ∧
        ((!decide ((I1 186 a0.toNatClampNeg) = (0 : Int32))) = true →
          ax_AK d 167 (44, [some (ax_vr 9 0 184), some (ax_vi a0), some (ax_vl 0), none, some (ax_vi 0)], [], ax_mm I1 L2) (ax_ki K)) ∧
        ((!decide ((I1 186 a0.toNatClampNeg) = (0 : Int32))) = false →
          ax_CI d 152 [ax_vr 9 0 184, ax_vi 4] I1 L2 (fun x6 I4 L5 =>
            K x6 I4 L5))) ∧
      (decide ((0 : Int32) ≤ (I1 186 a0.toNatClampNeg)) = false →
        ax_CI d 152 [ax_vr 9 0 184, ax_vi 1] I1 L2 (fun x9 I7 L8 =>
          K x9 I7 L8))) ∧
    ((!decide (x3 = (0 : Int32))) = false →
      K (-1) I1 L2))) : ax_CI (d + 1) 167 [ax_vr 9 0 184, ax_vi a0] I L K := ax_vcI ax_c167 1 [some (ax_vr 9 0 184), some (ax_vi a0), none, none, none] (fun pc => Nat.beq pc 44) 19 rfl rfl rfl rfl h
set_option maxRecDepth 100000 in
set_option maxHeartbeats 8000000 in
theorem vc_X9_mean_44 {d : Nat} {b1 : Int32} {b2 : Int64} {b4 : Int32} {z3 : Option ax_V} {I : ax_I} {L : ax_J} {K : Int32 → ax_I → ax_J → Prop} (h :
  ax_inb b1 6 = true ∧
  (decide ((I 186 b1.toNatClampNeg) ≤ b4) = true →
    ax_inb b1 6 = true ∧
    (!decide (((I 186 b1.toNatClampNeg).toInt64 : Int64) = 0)) = true ∧
    ax_CI d 155 [ax_vr 9 0 184, ax_vi ((b2 / ((I 186 b1.toNatClampNeg).toInt64)).toInt32), ax_vi 1] I L (fun x3 I1 L2 =>
      K x3 I1 L2)) ∧
  (decide ((I 186 b1.toNatClampNeg) ≤ b4) = false →
    ax_CI d 161 [ax_vr 9 0 184, ax_vi b1, ax_vi b4] I L (fun x6 I4 L5 =>
      ax_AK d 167 (44, [some (ax_vr 9 0 184), some (ax_vi b1), some (ax_vl (b2 + x6.toInt64)), none, some (ax_vi (b4 + 1))], [], ax_mm I4 L5) (ax_ki K)))) : ax_AK d 167 (44, [some (ax_vr 9 0 184), some (ax_vi b1), some (ax_vl b2), z3, some (ax_vi b4)], [], ax_mm I L) (ax_ki K) := ax_vcL ax_c167 1 (fun pc => Nat.beq pc 44) 19 rfl rfl h
set_option maxRecDepth 100000 in
set_option maxHeartbeats 8000000 in
theorem vc_X9_isText {d : Nat} {a0 : Int32} {I : ax_I} {L : ax_J} {K : Int32 → ax_I → ax_J → Prop} (h :
  ax_CI d 149 [ax_vi a0, ax_vi 0, ax_vi 3] I L (fun x3 I1 L2 =>
    ax_bit x3 = true ∧ K x3 I1 L2)) : ax_CI (d + 1) 168 [ax_vi a0] I L K := ax_vcI ax_c168 3 [some (ax_vi a0)] (fun _ => false) 6 rfl rfl rfl rfl h
set_option maxRecDepth 100000 in
set_option maxHeartbeats 8000000 in
theorem vc_X9_text {d : Nat} {a0 : Int32} {a1 : Int32} {I : ax_I} {L : ax_J} {K : Int32 → ax_I → ax_J → Prop} (h :
  ax_CI d 168 [ax_vi a0] I L (fun x3 I1 L2 =>
    (decide (x3 = (0 : Int32)) = true →
      K (-1) I1 L2) ∧
    (decide (x3 = (0 : Int32)) = false →
      (decide (a1 ≤ (80 : Int32)) = true →
        (decide ((0 : Int32) ≤ a1) = true →
          ax_inb a0 4 = true ∧
          ax_AK d 169 (34, [some (ax_vr 9 0 184), some (ax_vi a0), some (ax_vi a1), some (ax_vi 0)], [], ax_mm (ax_ui I1 189 a0.toNatClampNeg a1) L2) (ax_ki K)) ∧
        (decide ((0 : Int32) ≤ a1) = false →
          ax_CI d 152 [ax_vr 9 0 184, ax_vi 5] I1 L2 (fun x6 I4 L5 =>
            K x6 I4 L5))) ∧
      (decide (a1 ≤ (80 : Int32)) = false →
        K (-1) I1 L2)))) : ax_CI (d + 1) 169 [ax_vr 9 0 184, ax_vi a0, ax_vi a1] I L K := ax_vcI ax_c169 1 [some (ax_vr 9 0 184), some (ax_vi a0), some (ax_vi a1), none] (fun pc => Nat.beq pc 34) 17 rfl rfl rfl rfl h
set_option maxRecDepth 100000 in
set_option maxHeartbeats 8000000 in
theorem vc_X9_text_34 {d : Nat} {b1 : Int32} {b2 : Int32} {b3 : Int32} {I : ax_I} {L : ax_J} {K : Int32 → ax_I → ax_J → Prop} (h :
  (decide ((80 : Int32) ≤ b3) = true →
    K b2 I L) ∧
  (decide ((80 : Int32) ≤ b3) = false →
    ax_inb ((80 * b1) + b3) 320 = true ∧
    ax_AK d 169 (34, [some (ax_vr 9 0 184), some (ax_vi b1), some (ax_vi b2), some (ax_vi (b3 + 1))], [], ax_mm (ax_ui I 190 ((80 * b1) + b3).toNatClampNeg (32 : Int32).toInt8.toInt32) L) (ax_ki K))) : ax_AK d 169 (34, [some (ax_vr 9 0 184), some (ax_vi b1), some (ax_vi b2), some (ax_vi b3)], [], ax_mm I L) (ax_ki K) := ax_vcL ax_c169 1 (fun pc => Nat.beq pc 34) 16 rfl rfl h
set_option maxRecDepth 100000 in
set_option maxHeartbeats 8000000 in
theorem vc_X9_put {d : Nat} {a0 : Int32} {a1 : Int32} {a2 : Int32} {I : ax_I} {L : ax_J} {K : Int32 → ax_I → ax_J → Prop} (h :
  ax_CI d 168 [ax_vi a0] I L (fun x3 I1 L2 =>
    ((!decide (x3 = (0 : Int32))) = true →
      ax_inb a0 4 = true ∧
      (decide ((0 : Int32) ≤ (I1 189 a0.toNatClampNeg)) = true →
        ax_inb a0 4 = true ∧
        ax_CI d 149 [ax_vi a1, ax_vi 0, ax_vi ((I1 189 a0.toNatClampNeg) - 1)] I1 L2 (fun x6 I4 L5 =>
          ((!decide (x6 = (0 : Int32))) = true →
            ax_inb ((80 * a0) + a1) 320 = true ∧
            ax_inb ((80 * a0) + a1) 320 = true ∧
            K (1000 + (I4 190 ((80 * a0) + a1).toNatClampNeg)) (ax_ui I4 190 ((80 * a0) + a1).toNatClampNeg a2.toInt8.toInt32.toInt8.toInt32) L5) ∧
          ((!decide (x6 = (0 : Int32))) = false →
            ax_CI d 152 [ax_vr 9 0 184, ax_vi 2] I4 L5 (fun x9 I7 L8 =>
              K x9 I7 L8)))) ∧
      (decide ((0 : Int32) ≤ (I1 189 a0.toNatClampNeg)) = false →
        ax_CI d 152 [ax_vr 9 0 184, ax_vi 1] I1 L2 (fun x12 I10 L11 =>
          K x12 I10 L11))) ∧
    ((!decide (x3 = (0 : Int32))) = false →
      K (-1) I1 L2))) : ax_CI (d + 1) 170 [ax_vr 9 0 184, ax_vi a0, ax_vi a1, ax_vi a2] I L K := ax_vcI ax_c170 1 [some (ax_vr 9 0 184), some (ax_vi a0), some (ax_vi a1), some (ax_vi a2), none] (fun _ => false) 42 rfl rfl rfl rfl h
set_option maxRecDepth 100000 in
set_option maxHeartbeats 8000000 in
theorem vc_X9_byteAt {d : Nat} {a0 : Int32} {a1 : Int32} {I : ax_I} {L : ax_J} {K : Int32 → ax_I → ax_J → Prop} (h :
  ax_inb a0 4 = true ∧
  (decide ((I 189 a0.toNatClampNeg) ≤ a1) = true →
    K 0 I L) ∧
  (decide ((I 189 a0.toNatClampNeg) ≤ a1) = false →
    ax_inb ((80 * a0) + a1) 320 = true ∧
    K (I 190 ((80 * a0) + a1).toNatClampNeg) I L)) : ax_CI (d + 1) 171 [ax_vr 9 0 184, ax_vi a0, ax_vi a1] I L K := ax_vcI ax_c171 1 [some (ax_vr 9 0 184), some (ax_vi a0), some (ax_vi a1)] (fun _ => false) 17 rfl rfl rfl rfl h
set_option maxRecDepth 100000 in
set_option maxHeartbeats 8000000 in
theorem vc_X9_layRow {d : Nat} {a0 : Int32} {n1 o1 : Nat} {a2 : Int32} {I : ax_I} {L : ax_J} {K : ax_I → ax_J → Prop} (h :
  ax_inb a0 6 = true ∧
  ax_AK d 172 (10, [some (ax_vr 9 0 184), some (ax_vi a0), some (ax_vr 10 n1 o1), some (ax_vi a2), some (ax_vi 0)], [], ax_mm (ax_ui I 186 a0.toNatClampNeg a2) L) (ax_kv K)) : ax_CV (d + 1) 172 [ax_vr 9 0 184, ax_vi a0, ax_vr 10 n1 o1, ax_vi a2] I L K := ax_vcV ax_c172 0 [some (ax_vr 9 0 184), some (ax_vi a0), some (ax_vr 10 n1 o1), some (ax_vi a2), none] (fun pc => Nat.beq pc 10) 9 rfl rfl rfl rfl h
set_option maxRecDepth 100000 in
set_option maxHeartbeats 8000000 in
theorem vc_X9_layRow_10 {d : Nat} {n1 : Nat} {o1 : Nat} {b1 : Int32} {b3 : Int32} {b4 : Int32} {I : ax_I} {L : ax_J} {K : ax_I → ax_J → Prop} (h :
  (decide ((40 : Int32) ≤ b4) = true →
    K I L) ∧
  (decide ((40 : Int32) ≤ b4) = false →
    (decide (b3 ≤ b4) = true →
      ax_inb ((40 * b1) + b4) 240 = true ∧
      ax_AK d 172 (10, [some (ax_vr 9 0 184), some (ax_vi b1), some (ax_vr 10 n1 o1), some (ax_vi b3), some (ax_vi (b4 + 1))], [], ax_mm (ax_ui I 187 ((40 * b1) + b4).toNatClampNeg 0) L) (ax_kv K)) ∧
    (decide (b3 ≤ b4) = false →
      ax_inb b4 n1 = true ∧
      ax_inb ((40 * b1) + b4) 240 = true ∧
      ax_AK d 172 (10, [some (ax_vr 9 0 184), some (ax_vi b1), some (ax_vr 10 n1 o1), some (ax_vi b3), some (ax_vi (b4 + 1))], [], ax_mm (ax_ui I 187 ((40 * b1) + b4).toNatClampNeg (I o1 b4.toNatClampNeg)) L) (ax_kv K)))) : ax_AK d 172 (10, [some (ax_vr 9 0 184), some (ax_vi b1), some (ax_vr 10 n1 o1), some (ax_vi b3), some (ax_vi b4)], [], ax_mm I L) (ax_kv K) := ax_vcL ax_c172 0 (fun pc => Nat.beq pc 10) 22 rfl rfl h
set_option maxRecDepth 100000 in
set_option maxHeartbeats 8000000 in
theorem vc_X9_kindOf {d : Nat} {a0 : Int32} {I : ax_I} {L : ax_J} {K : Int32 → ax_I → ax_J → Prop} (h :
  (decide (a0 = 98) = true →
    K 3 I L) ∧
  (decide (a0 = 98) = false →
  (decide (a0 = 99) = true →
    K 2 I L) ∧
  (decide (a0 = 99) = false →
  (decide (a0 = 100) = true →
    K (-9) I L) ∧
  (decide (a0 = 100) = false →
  (decide (a0 = 101) = true →
    K (-9) I L) ∧
  (decide (a0 = 101) = false →
  (decide (a0 = 102) = true →
    K (-9) I L) ∧
  (decide (a0 = 102) = false →
  (decide (a0 = 103) = true →
    K (-9) I L) ∧
  (decide (a0 = 103) = false →
  (decide (a0 = 104) = true →
    K (-9) I L) ∧
  (decide (a0 = 104) = false →
  (decide (a0 = 105) = true →
    K (-9) I L) ∧
  (decide (a0 = 105) = false →
  (decide (a0 = 106) = true →
    K (-9) I L) ∧
  (decide (a0 = 106) = false →
  (decide (a0 = 107) = true →
    K 5 I L) ∧
  (decide (a0 = 107) = false →
  (decide (a0 = 108) = true →
    K 4 I L) ∧
  (decide (a0 = 108) = false →
  (decide (a0 = 109) = true →
    K 1 I L) ∧
  (decide (a0 = 109) = false →
  (decide (a0 = 110) = true →
    K (-9) I L) ∧
  (decide (a0 = 110) = false →
  (decide (a0 = 111) = true →
    K 0 I L) ∧
  (decide (a0 = 111) = false →
    K (-9) I L))))))))))))))) : ax_CI (d + 1) 173 [ax_vi a0] I L K := ax_vcI ax_c173 1 [some (ax_vi a0)] (fun _ => false) 5 rfl rfl rfl rfl h
set_option maxRecDepth 100000 in
set_option maxHeartbeats 8000000 in
theorem vc_X9_figure {d : Nat} {a0 : Int32} {a1 : Int32} {a2 : Int32} {I : ax_I} {L : ax_J} {K : Int32 → ax_I → ax_J → Prop} (h :
  ax_CI d 171 [ax_vr 9 0 184, ax_vi a0, ax_vi (I 184 16)] I L (fun x3 I1 L2 =>
    ax_CI d 149 [ax_vi ((ax_ui I1 184 21 (x3 - 48)) 184 21), ax_vi a1, ax_vi a2] (ax_ui I1 184 21 (x3 - 48)) L2 (fun x6 I4 L5 =>
      (decide (x6 = (0 : Int32)) = true →
        ax_bit x6 = true ∧ K x6 (ax_ui I4 184 16 ((I4 184 16) + 0)) L5) ∧
      (decide (x6 = (0 : Int32)) = false →
        ax_bit x6 = true ∧ K x6 (ax_ui I4 184 16 ((I4 184 16) + 1)) L5)))) : ax_CI (d + 1) 174 [ax_vr 9 0 184, ax_vi a0, ax_vi a1, ax_vi a2] I L K := ax_vcI ax_c174 3 [some (ax_vr 9 0 184), some (ax_vi a0), some (ax_vi a1), some (ax_vi a2), none] (fun _ => false) 27 rfl rfl rfl rfl h
set_option maxRecDepth 100000 in
set_option maxHeartbeats 8000000 in
theorem vc_X9_readsThings {d : Nat} {a0 : Int32} {I : ax_I} {L : ax_J} {K : Int32 → ax_I → ax_J → Prop} (h :
  ax_CI d 171 [ax_vr 9 0 184, ax_vi a0, ax_vi (I 184 16)] I L (fun x3 I1 L2 =>
    (decide (x3 = (116 : Int32)) = true →
      ax_CI d 174 [ax_vr 9 0 184, ax_vi a0, ax_vi 1, ax_vi 6] (ax_ui I1 184 16 ((I1 184 16) + 1)) L2 (fun x6 I4 L5 =>
        (decide (x6 = (0 : Int32)) = true →
          ax_bit x6 = true ∧ K x6 (ax_ui I4 184 17 0) L5) ∧
        (decide (x6 = (0 : Int32)) = false →
          ax_bit x6 = true ∧ K x6 (ax_ui I4 184 17 (I4 184 21)) L5))) ∧
    (decide (x3 = (116 : Int32)) = false →
      ax_bit 0 = true ∧ K 0 I1 L2))) : ax_CI (d + 1) 175 [ax_vr 9 0 184, ax_vi a0] I L K := ax_vcI ax_c175 3 [some (ax_vr 9 0 184), some (ax_vi a0), none] (fun _ => false) 29 rfl rfl rfl rfl h
set_option maxRecDepth 100000 in
set_option maxHeartbeats 8000000 in
theorem vc_X9_readsOne {d : Nat} {a0 : Int32} {I : ax_I} {L : ax_J} {K : Int32 → ax_I → ax_J → Prop} (h :
  ax_CI d 171 [ax_vr 9 0 184, ax_vi a0, ax_vi (I 184 16)] I L (fun x3 I1 L2 =>
    ax_CI d 173 [ax_vi x3] I1 L2 (fun x6 I4 L5 =>
      (decide (x6 = (-9 : Int32)) = true →
        ax_bit 0 = true ∧ K 0 I4 L5) ∧
      (decide (x6 = (-9 : Int32)) = false →
        (decide ((I4 184 18) = (6 : Int32)) = true →
          ax_bit 0 = true ∧ K 0 I4 L5) ∧
        (decide ((I4 184 18) = (6 : Int32)) = false →
          (decide (((I4 184 19) + (I4 184 20)) ≤ (0 : Int32)) = true →
            ax_AK d 176 (57, [some (ax_vr 9 0 184), some (ax_vi a0), some (ax_vi x6), some (ax_vi 0), some (ax_vi (-1))], [], ax_mm (ax_ui I4 184 16 ((I4 184 16) + 1)) L5) (ax_ki K)) ∧
          (decide (((I4 184 19) + (I4 184 20)) ≤ (0 : Int32)) = false →
            ax_bit 0 = true ∧ K 0 I4 L5)))))) : ax_CI (d + 1) 176 [ax_vr 9 0 184, ax_vi a0] I L K := ax_vcI ax_c176 3 [some (ax_vr 9 0 184), some (ax_vi a0), none, none, none] (fun pc => Nat.beq pc 57) 32 rfl rfl rfl rfl h
set_option maxRecDepth 100000 in
set_option maxHeartbeats 8000000 in
theorem vc_X9_readsOne_57 {d : Nat} {b1 : Int32} {b2 : Int32} {b3 : Int32} {b4 : Int32} {I : ax_I} {L : ax_J} {K : Int32 → ax_I → ax_J → Prop} (h :
  ax_CI d 171 [ax_vr 9 0 184, ax_vi b1, ax_vi (I 184 16)] I L (fun x3 I1 L2 =>
    ax_CI d 149 [ax_vi x3, ax_vi 48, ax_vi 57] I1 L2 (fun x6 I4 L5 =>
      (decide (x6 = (0 : Int32)) = true →
        ax_inb (I4 184 18) 6 = true ∧
        ax_inb ((ax_ui I4 195 (I4 184 18).toNatClampNeg b2) 184 18) 6 = true ∧
        ax_bit 1 = true ∧ K 1 (ax_ui (ax_ui (ax_ui I4 195 (I4 184 18).toNatClampNeg b2) 196 ((ax_ui I4 195 (I4 184 18).toNatClampNeg b2) 184 18).toNatClampNeg b3) 184 18 (((ax_ui (ax_ui I4 195 (I4 184 18).toNatClampNeg b2) 196 ((ax_ui I4 195 (I4 184 18).toNatClampNeg b2) 184 18).toNatClampNeg b3) 184 18) + 1)) L5) ∧
      (decide (x6 = (0 : Int32)) = false →
        ax_CI d 174 [ax_vr 9 0 184, ax_vi b1, ax_vi (b4 + 1), ax_vi 5] I4 L5 (fun x9 I7 L8 =>
          ((!decide (x9 = (0 : Int32))) = true →
            ax_AK d 176 (57, [some (ax_vr 9 0 184), some (ax_vi b1), some (ax_vi b2), some (ax_vi (b3 ||| ((1 : Int32) <<< ((I7 184 21) &&& 31)))), some (ax_vi (I7 184 21))], [], ax_mm I7 L8) (ax_ki K)) ∧
          ((!decide (x9 = (0 : Int32))) = false →
            ax_bit 0 = true ∧ K 0 I7 L8)))))) : ax_AK d 176 (57, [some (ax_vr 9 0 184), some (ax_vi b1), some (ax_vi b2), some (ax_vi b3), some (ax_vi b4)], [], ax_mm I L) (ax_ki K) := ax_vcL ax_c176 3 (fun pc => Nat.beq pc 57) 30 rfl rfl h
set_option maxRecDepth 100000 in
set_option maxHeartbeats 8000000 in
theorem vc_X9_readsWant {d : Nat} {a0 : Int32} {I : ax_I} {L : ax_J} {K : Int32 → ax_I → ax_J → Prop} (h :
  (decide ((I 184 18) = (0 : Int32)) = true →
    ax_bit 0 = true ∧ K 0 I L) ∧
  (decide ((I 184 18) = (0 : Int32)) = false →
    (decide ((I 184 19) = (16 : Int32)) = true →
      ax_bit 0 = true ∧ K 0 I L) ∧
    (decide ((I 184 19) = (16 : Int32)) = false →
      (decide ((I 184 20) ≤ (0 : Int32)) = true →
        ax_CI d 174 [ax_vr 9 0 184, ax_vi a0, ax_vi 0, ax_vi (((ax_ui I 184 16 ((I 184 16) + 1)) 184 18) - 1)] (ax_ui I 184 16 ((I 184 16) + 1)) L (fun x3 I1 L2 =>
          ((!decide (x3 = (0 : Int32))) = true →
            ax_CI d 174 [ax_vr 9 0 184, ax_vi a0, ax_vi 0, ax_vi ((I1 184 17) - 1)] I1 L2 (fun x6 I4 L5 =>
              ((!decide (x6 = (0 : Int32))) = true →
                ax_CI d 174 [ax_vr 9 0 184, ax_vi a0, ax_vi 1, ax_vi 9] I4 L5 (fun x9 I7 L8 =>
                  ((!decide (x9 = (0 : Int32))) = true →
                    ax_inb ((6 * (I1 184 21)) + (I4 184 21)) 36 = true ∧
                    ax_bit 1 = true ∧ K 1 (ax_ui (ax_ui I7 197 ((6 * (I1 184 21)) + (I4 184 21)).toNatClampNeg (I7 184 21)) 184 19 (((ax_ui I7 197 ((6 * (I1 184 21)) + (I4 184 21)).toNatClampNeg (I7 184 21)) 184 19) + 1)) L8) ∧
                  ((!decide (x9 = (0 : Int32))) = false →
                    ax_bit 0 = true ∧ K 0 I7 L8))) ∧
              ((!decide (x6 = (0 : Int32))) = false →
                ax_bit 0 = true ∧ K 0 I4 L5))) ∧
          ((!decide (x3 = (0 : Int32))) = false →
            ax_bit 0 = true ∧ K 0 I1 L2))) ∧
      (decide ((I 184 20) ≤ (0 : Int32)) = false →
        ax_bit 0 = true ∧ K 0 I L)))) : ax_CI (d + 1) 177 [ax_vr 9 0 184, ax_vi a0] I L K := ax_vcI ax_c177 3 [some (ax_vr 9 0 184), some (ax_vi a0), none, none] (fun _ => false) 65 rfl rfl rfl rfl h
set_option maxRecDepth 100000 in
set_option maxHeartbeats 8000000 in
theorem vc_X9_readsUndoing {d : Nat} {a0 : Int32} {I : ax_I} {L : ax_J} {K : Int32 → ax_I → ax_J → Prop} (h :
  (decide ((I 184 18) = (0 : Int32)) = true →
    ax_bit 0 = true ∧ K 0 I L) ∧
  (decide ((I 184 18) = (0 : Int32)) = false →
    ((!decide ((I 184 20) = (6 : Int32))) = true →
      ax_CI d 174 [ax_vr 9 0 184, ax_vi a0, ax_vi 0, ax_vi (((ax_ui I 184 16 ((I 184 16) + 1)) 184 17) - 1)] (ax_ui I 184 16 ((I 184 16) + 1)) L (fun x3 I1 L2 =>
        ((!decide (x3 = (0 : Int32))) = true →
          ax_CI d 171 [ax_vr 9 0 184, ax_vi a0, ax_vi (I1 184 16)] I1 L2 (fun x6 I4 L5 =>
            ax_CI d 149 [ax_vi (x6 - 48), ax_vi 0, ax_vi ((I4 184 17) - 1)] I4 L5 (fun x9 I7 L8 =>
              (decide (x9 = (0 : Int32)) = true →
                ax_bit 0 = true ∧ K 0 I7 L8) ∧
              (decide (x9 = (0 : Int32)) = false →
                ((!decide ((x6 - 48) = (I1 184 21))) = true →
                  ax_inb (I1 184 21) 6 = true ∧
                  ax_inb (I1 184 21) 6 = true ∧
                  ax_bit 1 = true ∧ K 1 (ax_ui (ax_ui (ax_ui I7 184 16 ((I7 184 16) + 1)) 198 (I1 184 21).toNatClampNeg (((ax_ui I7 184 16 ((I7 184 16) + 1)) 198 (I1 184 21).toNatClampNeg) ||| ((1 : Int32) <<< ((x6 - 48) &&& 31)))) 184 20 (((ax_ui (ax_ui I7 184 16 ((I7 184 16) + 1)) 198 (I1 184 21).toNatClampNeg (((ax_ui I7 184 16 ((I7 184 16) + 1)) 198 (I1 184 21).toNatClampNeg) ||| ((1 : Int32) <<< ((x6 - 48) &&& 31)))) 184 20) + 1)) L8) ∧
                ((!decide ((x6 - 48) = (I1 184 21))) = false →
                  ax_bit 0 = true ∧ K 0 I7 L8))))) ∧
        ((!decide (x3 = (0 : Int32))) = false →
          ax_bit 0 = true ∧ K 0 I1 L2))) ∧
    ((!decide ((I 184 20) = (6 : Int32))) = false →
      ax_bit 0 = true ∧ K 0 I L))) : ax_CI (d + 1) 178 [ax_vr 9 0 184, ax_vi a0] I L K := ax_vcI ax_c178 3 [some (ax_vr 9 0 184), some (ax_vi a0), none, none] (fun _ => false) 69 rfl rfl rfl rfl h
set_option maxRecDepth 100000 in
set_option maxHeartbeats 8000000 in
theorem vc_X9_faultOf {d : Nat} {a0 : Int32} {I : ax_I} {L : ax_J} {K : Int32 → ax_I → ax_J → Prop} (h :
  ax_AK d 179 (27, [some (ax_vr 9 0 184), some (ax_vi a0), some (ax_vi 0)], [], ax_mm (ax_ui (ax_ui (ax_ui (ax_ui (ax_ui I 184 16 0) 184 17 0) 184 18 0) 184 19 0) 184 20 0) L) (ax_ki K)) : ax_CI (d + 1) 179 [ax_vr 9 0 184, ax_vi a0] I L K := ax_vcI ax_c179 1 [some (ax_vr 9 0 184), some (ax_vi a0), none] (fun pc => Nat.beq pc 27 || Nat.beq pc 48 || Nat.beq pc 67) 19 rfl rfl rfl rfl h
set_option maxRecDepth 100000 in
set_option maxHeartbeats 8000000 in
theorem vc_X9_faultOf_27 {d : Nat} {b1 : Int32} {b2 : Int32} {I : ax_I} {L : ax_J} {K : Int32 → ax_I → ax_J → Prop} (h :
  (decide ((36 : Int32) ≤ b2) = true →
    ax_AK d 179 (48, [some (ax_vr 9 0 184), some (ax_vi b1), some (ax_vi 0)], [], ax_mm I L) (ax_ki K)) ∧
  (decide ((36 : Int32) ≤ b2) = false →
    ax_inb b2 36 = true ∧
    ax_AK d 179 (27, [some (ax_vr 9 0 184), some (ax_vi b1), some (ax_vi (b2 + 1))], [], ax_mm (ax_ui I 197 b2.toNatClampNeg 0) L) (ax_ki K))) : ax_AK d 179 (27, [some (ax_vr 9 0 184), some (ax_vi b1), some (ax_vi b2)], [], ax_mm I L) (ax_ki K) := ax_vcL ax_c179 1 (fun pc => Nat.beq pc 27 || Nat.beq pc 48 || Nat.beq pc 67) 12 rfl rfl h
set_option maxRecDepth 100000 in
set_option maxHeartbeats 8000000 in
theorem vc_X9_faultOf_48 {d : Nat} {b1 : Int32} {b2 : Int32} {I : ax_I} {L : ax_J} {K : Int32 → ax_I → ax_J → Prop} (h :
  (decide ((6 : Int32) ≤ b2) = true →
    ax_AK d 179 (67, [some (ax_vr 9 0 184), some (ax_vi b1), some (ax_vi b2)], [], ax_mm I L) (ax_ki K)) ∧
  (decide ((6 : Int32) ≤ b2) = false →
    ax_inb b2 6 = true ∧
    ax_AK d 179 (48, [some (ax_vr 9 0 184), some (ax_vi b1), some (ax_vi (b2 + 1))], [], ax_mm (ax_ui I 198 b2.toNatClampNeg 0) L) (ax_ki K))) : ax_AK d 179 (48, [some (ax_vr 9 0 184), some (ax_vi b1), some (ax_vi b2)], [], ax_mm I L) (ax_ki K) := ax_vcL ax_c179 1 (fun pc => Nat.beq pc 27 || Nat.beq pc 48 || Nat.beq pc 67) 12 rfl rfl h
set_option maxRecDepth 100000 in
set_option maxHeartbeats 8000000 in
theorem vc_X9_faultOf_67 {d : Nat} {b1 : Int32} {z2 : Option ax_V} {I : ax_I} {L : ax_J} {K : Int32 → ax_I → ax_J → Prop} (h :
  ax_inb b1 4 = true ∧
  (decide ((I 189 b1.toNatClampNeg) ≤ (I 184 16)) = true →
    ((!decide ((I 184 18) = (0 : Int32))) = true →
      K (-9) I L) ∧
    ((!decide ((I 184 18) = (0 : Int32))) = false →
      ax_inb b1 4 = true ∧
      K (I 189 b1.toNatClampNeg) I L)) ∧
  (decide ((I 189 b1.toNatClampNeg) ≤ (I 184 16)) = false →
    ax_CI d 171 [ax_vr 9 0 184, ax_vi b1, ax_vi (I 184 16)] I L (fun x3 I1 L2 =>
      ((!decide (x3 = (32 : Int32))) = true →
        ((!decide ((I1 184 17) = (0 : Int32))) = true →
          ((!decide (x3 = (119 : Int32))) = true →
            ((!decide (x3 = (117 : Int32))) = true →
              ax_CI d 176 [ax_vr 9 0 184, ax_vi b1] I1 L2 (fun x6 I4 L5 =>
                ((!decide (x6 = (0 : Int32))) = true →
                  ax_AK d 179 (67, [some (ax_vr 9 0 184), some (ax_vi b1), some (ax_vi x3)], [], ax_mm I4 L5) (ax_ki K)) ∧
                ((!decide (x6 = (0 : Int32))) = false →
                  K (I4 184 16) I4 L5))) ∧
            ((!decide (x3 = (117 : Int32))) = false →
              ax_CI d 178 [ax_vr 9 0 184, ax_vi b1] I1 L2 (fun x9 I7 L8 =>
                (decide (x9 = (0 : Int32)) = true →
                  K (I7 184 16) I7 L8) ∧
                (decide (x9 = (0 : Int32)) = false →
                  ax_AK d 179 (67, [some (ax_vr 9 0 184), some (ax_vi b1), some (ax_vi x3)], [], ax_mm I7 L8) (ax_ki K))))) ∧
          ((!decide (x3 = (119 : Int32))) = false →
            ax_CI d 177 [ax_vr 9 0 184, ax_vi b1] I1 L2 (fun x12 I10 L11 =>
              (decide (x12 = (0 : Int32)) = true →
                K (I10 184 16) I10 L11) ∧
              (decide (x12 = (0 : Int32)) = false →
                ax_AK d 179 (67, [some (ax_vr 9 0 184), some (ax_vi b1), some (ax_vi x3)], [], ax_mm I10 L11) (ax_ki K))))) ∧
        ((!decide ((I1 184 17) = (0 : Int32))) = false →
          ax_CI d 175 [ax_vr 9 0 184, ax_vi b1] I1 L2 (fun x15 I13 L14 =>
            (decide (x15 = (0 : Int32)) = true →
              K (I13 184 16) I13 L14) ∧
            (decide (x15 = (0 : Int32)) = false →
              ax_AK d 179 (67, [some (ax_vr 9 0 184), some (ax_vi b1), some (ax_vi x3)], [], ax_mm I13 L14) (ax_ki K))))) ∧
      ((!decide (x3 = (32 : Int32))) = false →
        ax_AK d 179 (67, [some (ax_vr 9 0 184), some (ax_vi b1), some (ax_vi x3)], [], ax_mm (ax_ui I1 184 16 ((I1 184 16) + 1)) L2) (ax_ki K))))) : ax_AK d 179 (67, [some (ax_vr 9 0 184), some (ax_vi b1), z2], [], ax_mm I L) (ax_ki K) := ax_vcL ax_c179 1 (fun pc => Nat.beq pc 27 || Nat.beq pc 48 || Nat.beq pc 67) 33 rfl rfl h
set_option maxRecDepth 100000 in
set_option maxHeartbeats 8000000 in
theorem vc_X9_fault {d : Nat} {a0 : Int32} {I : ax_I} {L : ax_J} {K : Int32 → ax_I → ax_J → Prop} (h :
  ax_CI d 168 [ax_vi a0] I L (fun x3 I1 L2 =>
    ((!decide (x3 = (0 : Int32))) = true →
      ax_inb a0 4 = true ∧
      (decide ((0 : Int32) ≤ (I1 189 a0.toNatClampNeg)) = true →
        ax_CI d 179 [ax_vr 9 0 184, ax_vi a0] I1 L2 (fun x6 I4 L5 =>
          K x6 I4 L5)) ∧
      (decide ((0 : Int32) ≤ (I1 189 a0.toNatClampNeg)) = false →
        ax_CI d 152 [ax_vr 9 0 184, ax_vi 1] I1 L2 (fun x9 I7 L8 =>
          K x9 I7 L8))) ∧
    ((!decide (x3 = (0 : Int32))) = false →
      K (-1) I1 L2))) : ax_CI (d + 1) 180 [ax_vr 9 0 184, ax_vi a0] I L K := ax_vcI ax_c180 1 [some (ax_vr 9 0 184), some (ax_vi a0)] (fun _ => false) 14 rfl rfl rfl rfl h
set_option maxRecDepth 100000 in
set_option maxHeartbeats 8000000 in
theorem vc_X9_town {d : Nat} {a0 : Int32} {I : ax_I} {L : ax_J} {K : Int32 → ax_I → ax_J → Prop} (h :
  ax_CI d 168 [ax_vi a0] I L (fun x3 I1 L2 =>
    ((!decide (x3 = (0 : Int32))) = true →
      ax_inb a0 4 = true ∧
      (decide ((0 : Int32) ≤ (I1 189 a0.toNatClampNeg)) = true →
        ax_CI d 179 [ax_vr 9 0 184, ax_vi a0] I1 L2 (fun x6 I4 L5 =>
          (decide (x6 = (-9 : Int32)) = true →
            ax_AK d 181 (55, [some (ax_vr 9 0 184), some (ax_vi a0), some (ax_vi 0)], [], ax_mm (ax_ui (ax_ui I4 184 10 (I4 184 18)) 184 11 ((ax_ui I4 184 10 (I4 184 18)) 184 17)) L5) (ax_ki K)) ∧
          (decide (x6 = (-9 : Int32)) = false →
            K (-4) I4 L5))) ∧
      (decide ((0 : Int32) ≤ (I1 189 a0.toNatClampNeg)) = false →
        ax_CI d 152 [ax_vr 9 0 184, ax_vi 1] I1 L2 (fun x9 I7 L8 =>
          K x9 I7 L8))) ∧
    ((!decide (x3 = (0 : Int32))) = false →
      K (-1) I1 L2))) : ax_CI (d + 1) 181 [ax_vr 9 0 184, ax_vi a0] I L K := ax_vcI ax_c181 1 [some (ax_vr 9 0 184), some (ax_vi a0), none] (fun pc => Nat.beq pc 55 || Nat.beq pc 110 || Nat.beq pc 136 || Nat.beq pc 172) 25 rfl rfl rfl rfl h
set_option maxRecDepth 100000 in
set_option maxHeartbeats 8000000 in
theorem vc_X9_town_55 {d : Nat} {b2 : Int32} {z1 : Option ax_V} {I : ax_I} {L : ax_J} {K : Int32 → ax_I → ax_J → Prop} (h :
  (decide ((I 184 10) ≤ b2) = true →
    ax_AK d 181 (110, [some (ax_vr 9 0 184), none, some (ax_vi 0)], [], ax_mm I L) (ax_ki K)) ∧
  (decide ((I 184 10) ≤ b2) = false →
    ax_inb b2 6 = true ∧
    ax_inb b2 6 = true ∧
    ax_inb b2 6 = true ∧
    ax_inb b2 6 = true ∧
    ax_AK d 181 (55, [some (ax_vr 9 0 184), none, some (ax_vi (b2 + 1))], [], ax_mm (ax_ui (ax_ui I 191 b2.toNatClampNeg (I 195 b2.toNatClampNeg)) 192 b2.toNatClampNeg ((((ax_ui I 191 b2.toNatClampNeg (I 195 b2.toNatClampNeg)) 196 b2.toNatClampNeg) &&& (((1 : Int32) <<< (((ax_ui I 191 b2.toNatClampNeg (I 195 b2.toNatClampNeg)) 184 10) &&& 31)) - 1)) &&& (((1 : Int32) <<< (b2 &&& 31)) ^^^ (-1)))) L) (ax_ki K))) : ax_AK d 181 (55, [some (ax_vr 9 0 184), z1, some (ax_vi b2)], [], ax_mm I L) (ax_ki K) := ax_vcL ax_c181 1 (fun pc => Nat.beq pc 55 || Nat.beq pc 110 || Nat.beq pc 136 || Nat.beq pc 172) 37 rfl rfl h
set_option maxRecDepth 100000 in
set_option maxHeartbeats 8000000 in
theorem vc_X9_town_110 {d : Nat} {b2 : Int32} {z1 : Option ax_V} {I : ax_I} {L : ax_J} {K : Int32 → ax_I → ax_J → Prop} (h :
  (decide ((36 : Int32) ≤ b2) = true →
    ax_AK d 181 (136, [some (ax_vr 9 0 184), none, some (ax_vi 0)], [], ax_mm I L) (ax_ki K)) ∧
  (decide ((36 : Int32) ≤ b2) = false →
    ax_inb b2 36 = true ∧
    ax_inb b2 36 = true ∧
    ax_AK d 181 (110, [some (ax_vr 9 0 184), none, some (ax_vi (b2 + 1))], [], ax_mm (ax_ui I 193 b2.toNatClampNeg (I 197 b2.toNatClampNeg)) L) (ax_ki K))) : ax_AK d 181 (110, [some (ax_vr 9 0 184), z1, some (ax_vi b2)], [], ax_mm I L) (ax_ki K) := ax_vcL ax_c181 1 (fun pc => Nat.beq pc 55 || Nat.beq pc 110 || Nat.beq pc 136 || Nat.beq pc 172) 15 rfl rfl h
set_option maxRecDepth 100000 in
set_option maxHeartbeats 8000000 in
theorem vc_X9_town_136 {d : Nat} {b2 : Int32} {z1 : Option ax_V} {I : ax_I} {L : ax_J} {K : Int32 → ax_I → ax_J → Prop} (h :
  (decide ((6 : Int32) ≤ b2) = true →
    ax_CV d 187 [ax_vr 9 0 184, ax_vi 0] I L (fun I1 L2 =>
      ax_AK d 181 (172, [some (ax_vr 9 0 184), none, some (ax_vi 0)], [], ax_mm (ax_ui I1 184 27 0) L2) (ax_ki K))) ∧
  (decide ((6 : Int32) ≤ b2) = false →
    ax_inb b2 6 = true ∧
    ax_inb b2 6 = true ∧
    ax_AK d 181 (136, [some (ax_vr 9 0 184), none, some (ax_vi (b2 + 1))], [], ax_mm (ax_ui I 194 b2.toNatClampNeg (I 198 b2.toNatClampNeg)) L) (ax_ki K))) : ax_AK d 181 (136, [some (ax_vr 9 0 184), z1, some (ax_vi b2)], [], ax_mm I L) (ax_ki K) := ax_vcL ax_c181 1 (fun pc => Nat.beq pc 55 || Nat.beq pc 110 || Nat.beq pc 136 || Nat.beq pc 172) 15 rfl rfl h
set_option maxRecDepth 100000 in
set_option maxHeartbeats 8000000 in
theorem vc_X9_town_172 {d : Nat} {b2 : Int32} {z1 : Option ax_V} {I : ax_I} {L : ax_J} {K : Int32 → ax_I → ax_J → Prop} (h :
  (decide ((3 : Int32) ≤ b2) = true →
    K (I 184 10) I L) ∧
  (decide ((3 : Int32) ≤ b2) = false →
    (ax_inb b2 3 && ax_bit 0) = true ∧
    ax_AK d 181 (172, [some (ax_vr 9 0 184), none, some (ax_vi (b2 + 1))], [], ax_mm (ax_ui I 202 b2.toNatClampNeg 0) L) (ax_ki K))) : ax_AK d 181 (172, [some (ax_vr 9 0 184), z1, some (ax_vi b2)], [], ax_mm I L) (ax_ki K) := ax_vcL ax_c181 1 (fun pc => Nat.beq pc 55 || Nat.beq pc 110 || Nat.beq pc 136 || Nat.beq pc 172) 12 rfl rfl h
set_option maxRecDepth 100000 in
set_option maxHeartbeats 8000000 in
theorem vc_X9_isOne {d : Nat} {a0 : Int32} {I : ax_I} {L : ax_J} {K : Int32 → ax_I → ax_J → Prop} (h :
  ax_CI d 149 [ax_vi a0, ax_vi 0, ax_vi ((I 184 10) - 1)] I L (fun x3 I1 L2 =>
    ax_bit x3 = true ∧ K x3 I1 L2)) : ax_CI (d + 1) 182 [ax_vr 9 0 184, ax_vi a0] I L K := ax_vcI ax_c182 3 [some (ax_vr 9 0 184), some (ax_vi a0)] (fun _ => false) 9 rfl rfl rfl rfl h
set_option maxRecDepth 100000 in
set_option maxHeartbeats 8000000 in
theorem vc_X9_isThing {d : Nat} {a0 : Int32} {I : ax_I} {L : ax_J} {K : Int32 → ax_I → ax_J → Prop} (h :
  ax_CI d 149 [ax_vi a0, ax_vi 0, ax_vi ((I 184 11) - 1)] I L (fun x3 I1 L2 =>
    ax_bit x3 = true ∧ K x3 I1 L2)) : ax_CI (d + 1) 183 [ax_vr 9 0 184, ax_vi a0] I L K := ax_vcI ax_c183 3 [some (ax_vr 9 0 184), some (ax_vi a0)] (fun _ => false) 9 rfl rfl rfl rfl h
set_option maxRecDepth 100000 in
set_option maxHeartbeats 8000000 in
theorem vc_X9_v {d : Nat} {a0 : Int32} {a1 : Int32} {a2 : Int32} {I : ax_I} {L : ax_J} {K : Int32 → ax_I → ax_J → Prop} (h :
  ax_inb (((31 * a0) + a1) + a2) 310 = true ∧
  K (I 199 (((31 * a0) + a1) + a2).toNatClampNeg) I L) : ax_CI (d + 1) 184 [ax_vr 9 0 184, ax_vi a0, ax_vi a1, ax_vi a2] I L K := ax_vcI ax_c184 1 [some (ax_vr 9 0 184), some (ax_vi a0), some (ax_vi a1), some (ax_vi a2)] (fun _ => false) 12 rfl rfl rfl rfl h
set_option maxRecDepth 100000 in
set_option maxHeartbeats 8000000 in
theorem vc_X9_set {d : Nat} {a0 : Int32} {a1 : Int32} {a2 : Int32} {a3 : Int32} {I : ax_I} {L : ax_J} {K : ax_I → ax_J → Prop} (h :
  ax_inb (((31 * a0) + a1) + a2) 310 = true ∧
  K (ax_ui I 199 (((31 * a0) + a1) + a2).toNatClampNeg a3) L) : ax_CV (d + 1) 185 [ax_vr 9 0 184, ax_vi a0, ax_vi a1, ax_vi a2, ax_vi a3] I L K := ax_vcV ax_c185 0 [some (ax_vr 9 0 184), some (ax_vi a0), some (ax_vi a1), some (ax_vi a2), some (ax_vi a3)] (fun _ => false) 13 rfl rfl rfl rfl h
set_option maxRecDepth 100000 in
set_option maxHeartbeats 8000000 in
theorem vc_X9_copyTo {d : Nat} {a0 : Int32} {a1 : Int32} {I : ax_I} {L : ax_J} {K : ax_I → ax_J → Prop} (h :
  ax_AK d 186 (2, [some (ax_vr 9 0 184), some (ax_vi a0), some (ax_vi a1), some (ax_vi 0)], [], ax_mm I L) (ax_kv K)) : ax_CV (d + 1) 186 [ax_vr 9 0 184, ax_vi a0, ax_vi a1] I L K := ax_vcV ax_c186 0 [some (ax_vr 9 0 184), some (ax_vi a0), some (ax_vi a1), none] (fun pc => Nat.beq pc 2) 4 rfl rfl rfl rfl h
set_option maxRecDepth 100000 in
set_option maxHeartbeats 8000000 in
theorem vc_X9_copyTo_2 {d : Nat} {b1 : Int32} {b2 : Int32} {b3 : Int32} {I : ax_I} {L : ax_J} {K : ax_I → ax_J → Prop} (h :
  (decide ((31 : Int32) ≤ b3) = true →
    K I L) ∧
  (decide ((31 : Int32) ≤ b3) = false →
    ax_CI d 184 [ax_vr 9 0 184, ax_vi b1, ax_vi b3, ax_vi 0] I L (fun x3 I1 L2 =>
      ax_CV d 185 [ax_vr 9 0 184, ax_vi b2, ax_vi b3, ax_vi 0, ax_vi x3] I1 L2 (fun I4 L5 =>
        ax_AK d 186 (2, [some (ax_vr 9 0 184), some (ax_vi b1), some (ax_vi b2), some (ax_vi (b3 + 1))], [], ax_mm I4 L5) (ax_kv K))))) : ax_AK d 186 (2, [some (ax_vr 9 0 184), some (ax_vi b1), some (ax_vi b2), some (ax_vi b3)], [], ax_mm I L) (ax_kv K) := ax_vcL ax_c186 0 (fun pc => Nat.beq pc 2) 17 rfl rfl h
set_option maxRecDepth 100000 in
set_option maxHeartbeats 8000000 in
theorem vc_X9_clear {d : Nat} {a0 : Int32} {I : ax_I} {L : ax_J} {K : ax_I → ax_J → Prop} (h :
  ax_AK d 187 (2, [some (ax_vr 9 0 184), some (ax_vi a0), some (ax_vi 0)], [], ax_mm I L) (ax_kv K)) : ax_CV (d + 1) 187 [ax_vr 9 0 184, ax_vi a0] I L K := ax_vcV ax_c187 0 [some (ax_vr 9 0 184), some (ax_vi a0), none] (fun pc => Nat.beq pc 2) 4 rfl rfl rfl rfl h
set_option maxRecDepth 100000 in
set_option maxHeartbeats 8000000 in
theorem vc_X9_clear_2 {d : Nat} {b1 : Int32} {b2 : Int32} {I : ax_I} {L : ax_J} {K : ax_I → ax_J → Prop} (h :
  (decide ((6 : Int32) ≤ b2) = true →
    ax_CV d 185 [ax_vr 9 0 184, ax_vi b1, ax_vi 30, ax_vi 0, ax_vi 0] I L (fun I1 L2 =>
      K I1 L2)) ∧
  (decide ((6 : Int32) ≤ b2) = false →
    ax_CV d 185 [ax_vr 9 0 184, ax_vi b1, ax_vi 0, ax_vi b2, ax_vi (-9)] I L (fun I4 L5 =>
      ax_CV d 185 [ax_vr 9 0 184, ax_vi b1, ax_vi 6, ax_vi b2, ax_vi (-9)] I4 L5 (fun I7 L8 =>
        ax_CV d 185 [ax_vr 9 0 184, ax_vi b1, ax_vi 12, ax_vi b2, ax_vi (-9)] I7 L8 (fun I10 L11 =>
          ax_CV d 185 [ax_vr 9 0 184, ax_vi b1, ax_vi 18, ax_vi b2, ax_vi (-9)] I10 L11 (fun I13 L14 =>
            ax_CV d 185 [ax_vr 9 0 184, ax_vi b1, ax_vi 24, ax_vi b2, ax_vi 0] I13 L14 (fun I16 L17 =>
              ax_AK d 187 (2, [some (ax_vr 9 0 184), some (ax_vi b1), some (ax_vi (b2 + 1))], [], ax_mm I16 L17) (ax_kv K)))))))) : ax_AK d 187 (2, [some (ax_vr 9 0 184), some (ax_vi b1), some (ax_vi b2)], [], ax_mm I L) (ax_kv K) := ax_vcL ax_c187 0 (fun pc => Nat.beq pc 2) 37 rfl rfl h
set_option maxRecDepth 100000 in
set_option maxHeartbeats 8000000 in
theorem vc_X9_hearsOf {d : Nat} {a0 : Int32} {I : ax_I} {L : ax_J} {K : Int32 → ax_I → ax_J → Prop} (h :
  ax_inb a0 6 = true ∧
  (decide ((I 191 a0.toNatClampNeg) = (1 : Int32)) = true →
    K 0 I L) ∧
  (decide ((I 191 a0.toNatClampNeg) = (1 : Int32)) = false →
    ((!decide ((I 191 a0.toNatClampNeg) = (5 : Int32))) = true →
      ax_inb a0 6 = true ∧
      ax_AK d 188 (29, [some (ax_vr 9 0 184), some (ax_vi a0), some (ax_vi (I 191 a0.toNatClampNeg)), some (ax_vi (I 192 a0.toNatClampNeg)), some (ax_vi 0)], [], ax_mm I L) (ax_ki K)) ∧
    ((!decide ((I 191 a0.toNatClampNeg) = (5 : Int32))) = false →
      K 0 I L))) : ax_CI (d + 1) 188 [ax_vr 9 0 184, ax_vi a0] I L K := ax_vcI ax_c188 1 [some (ax_vr 9 0 184), some (ax_vi a0), none, none, none] (fun pc => Nat.beq pc 29) 20 rfl rfl rfl rfl h
set_option maxRecDepth 100000 in
set_option maxHeartbeats 8000000 in
theorem vc_X9_hearsOf_29 {d : Nat} {b1 : Int32} {b2 : Int32} {b3 : Int32} {b4 : Int32} {I : ax_I} {L : ax_J} {K : Int32 → ax_I → ax_J → Prop} (h :
  (decide ((I 184 10) ≤ b4) = true →
    K (b3 &&& (((1 : Int32) <<< (b1 &&& 31)) ^^^ (-1))) I L) ∧
  (decide ((I 184 10) ≤ b4) = false →
    (decide (b2 = (2 : Int32)) = true →
      ax_AK d 188 (29, [some (ax_vr 9 0 184), some (ax_vi b1), some (ax_vi b2), some (ax_vi (b3 ||| ((1 : Int32) <<< (b4 &&& 31)))), some (ax_vi (b4 + 1))], [], ax_mm I L) (ax_ki K)) ∧
    (decide (b2 = (2 : Int32)) = false →
      (decide (b2 = (4 : Int32)) = true →
        ax_AK d 188 (29, [some (ax_vr 9 0 184), some (ax_vi b1), some (ax_vi b2), some (ax_vi (b3 ||| ((1 : Int32) <<< (b4 &&& 31)))), some (ax_vi (b4 + 1))], [], ax_mm I L) (ax_ki K)) ∧
      (decide (b2 = (4 : Int32)) = false →
        ax_inb b4 6 = true ∧
        ((!decide ((I 191 b4.toNatClampNeg) = (3 : Int32))) = true →
          ax_AK d 188 (29, [some (ax_vr 9 0 184), some (ax_vi b1), some (ax_vi b2), some (ax_vi (b3 ||| 0)), some (ax_vi (b4 + 1))], [], ax_mm I L) (ax_ki K)) ∧
        ((!decide ((I 191 b4.toNatClampNeg) = (3 : Int32))) = false →
          ax_AK d 188 (29, [some (ax_vr 9 0 184), some (ax_vi b1), some (ax_vi b2), some (ax_vi (b3 ||| ((1 : Int32) <<< (b4 &&& 31)))), some (ax_vi (b4 + 1))], [], ax_mm I L) (ax_ki K)))))) : ax_AK d 188 (29, [some (ax_vr 9 0 184), some (ax_vi b1), some (ax_vi b2), some (ax_vi b3), some (ax_vi b4)], [], ax_mm I L) (ax_ki K) := ax_vcL ax_c188 1 (fun pc => Nat.beq pc 29) 27 rfl rfl h
set_option maxRecDepth 100000 in
set_option maxHeartbeats 8000000 in
theorem vc_X9_grants {d : Nat} {a0 : Int32} {a1 : Int32} {a2 : Int32} {I : ax_I} {L : ax_J} {K : Int32 → ax_I → ax_J → Prop} (h :
  ax_CI d 184 [ax_vr 9 0 184, ax_vi a0, ax_vi 0, ax_vi a2] I L (fun x3 I1 L2 =>
    (decide (x3 = (-9 : Int32)) = true →
      ax_bit 0 = true ∧ K 0 I1 L2) ∧
    (decide (x3 = (-9 : Int32)) = false →
      ax_CI d 184 [ax_vr 9 0 184, ax_vi a0, ax_vi 6, ax_vi a2] I1 L2 (fun x6 I4 L5 =>
        ((!decide (x6 = (-9 : Int32))) = true →
          ax_bit 0 = true ∧ K 0 I4 L5) ∧
        ((!decide (x6 = (-9 : Int32))) = false →
          ((!decide (x3 = a1)) = true →
            ax_bit 1 = true ∧ K 1 I4 L5) ∧
          ((!decide (x3 = a1)) = false →
            ax_inb a1 6 = true ∧
            ((!decide ((I4 191 a1.toNatClampNeg) = (5 : Int32))) = true →
              ax_bit 0 = true ∧ K 0 I4 L5) ∧
            ((!decide ((I4 191 a1.toNatClampNeg) = (5 : Int32))) = false →
              ax_bit 1 = true ∧ K 1 I4 L5))))))) : ax_CI (d + 1) 189 [ax_vr 9 0 184, ax_vi a0, ax_vi a1, ax_vi a2] I L K := ax_vcI ax_c189 3 [some (ax_vr 9 0 184), some (ax_vi a0), some (ax_vi a1), some (ax_vi a2), none] (fun _ => false) 29 rfl rfl rfl rfl h
set_option maxRecDepth 100000 in
set_option maxHeartbeats 8000000 in
theorem vc_X9_says {d : Nat} {a0 : Int32} {a1 : Int32} {a2 : Int32} {I : ax_I} {L : ax_J} {K : Int32 → ax_I → ax_J → Prop} (h :
  ax_CI d 189 [ax_vr 9 0 184, ax_vi a0, ax_vi a1, ax_vi a2] I L (fun x3 I1 L2 =>
    (decide (x3 = (0 : Int32)) = true →
      ax_CI d 184 [ax_vr 9 0 184, ax_vi a0, ax_vi 0, ax_vi a2] I1 L2 (fun x6 I4 L5 =>
        (decide (x6 = (-9 : Int32)) = true →
          ax_CV d 185 [ax_vr 9 0 184, ax_vi a0, ax_vi 0, ax_vi a2, ax_vi a1] I4 L5 (fun I7 L8 =>
            ax_CI d 188 [ax_vr 9 0 184, ax_vi a1] I7 L8 (fun x12 I10 L11 =>
              ax_AK d 190 (117, [some (ax_vr 9 0 184), some (ax_vi a0), some (ax_vi a1), some (ax_vi a2), some (ax_vi x12), some (ax_vi 0)], [], ax_mm I10 L11) (ax_ki K)))) ∧
        (decide (x6 = (-9 : Int32)) = false →
          K (-9) I4 L5))) ∧
    (decide (x3 = (0 : Int32)) = false →
      ax_inb a1 6 = true ∧
      ((!decide ((I1 191 a1.toNatClampNeg) = (4 : Int32))) = true →
        ax_CV d 185 [ax_vr 9 0 184, ax_vi a0, ax_vi 6, ax_vi a2, ax_vi a1] I1 L2 (fun I13 L14 =>
          ax_CI d 184 [ax_vr 9 0 184, ax_vi a0, ax_vi 30, ax_vi 0] I13 L14 (fun x18 I16 L17 =>
            ax_CV d 185 [ax_vr 9 0 184, ax_vi a0, ax_vi 12, ax_vi a2, ax_vi x18] I16 L17 (fun I19 L20 =>
              ax_CV d 185 [ax_vr 9 0 184, ax_vi a0, ax_vi 18, ax_vi a2, ax_vi a1] I19 L20 (fun I22 L23 =>
                ax_CI d 184 [ax_vr 9 0 184, ax_vi a0, ax_vi 30, ax_vi 0] I22 L23 (fun x27 I25 L26 =>
                  ax_CV d 185 [ax_vr 9 0 184, ax_vi a0, ax_vi 30, ax_vi 0, ax_vi (x27 + 1)] I25 L26 (fun I28 L29 =>
                    K 1 I28 L29))))))) ∧
      ((!decide ((I1 191 a1.toNatClampNeg) = (4 : Int32))) = false →
        ax_CI d 184 [ax_vr 9 0 184, ax_vi a0, ax_vi 0, ax_vi a2] I1 L2 (fun x33 I31 L32 =>
          ax_CV d 185 [ax_vr 9 0 184, ax_vi a0, ax_vi 6, ax_vi a2, ax_vi x33] I31 L32 (fun I34 L35 =>
            ax_CI d 184 [ax_vr 9 0 184, ax_vi a0, ax_vi 30, ax_vi 0] I34 L35 (fun x39 I37 L38 =>
              ax_CV d 185 [ax_vr 9 0 184, ax_vi a0, ax_vi 12, ax_vi a2, ax_vi x39] I37 L38 (fun I40 L41 =>
                ax_CV d 185 [ax_vr 9 0 184, ax_vi a0, ax_vi 18, ax_vi a2, ax_vi a1] I40 L41 (fun I43 L44 =>
                  ax_CI d 184 [ax_vr 9 0 184, ax_vi a0, ax_vi 30, ax_vi 0] I43 L44 (fun x48 I46 L47 =>
                    ax_CV d 185 [ax_vr 9 0 184, ax_vi a0, ax_vi 30, ax_vi 0, ax_vi (x48 + 1)] I46 L47 (fun I49 L50 =>
                      K 1 I49 L50))))))))))) : ax_CI (d + 1) 190 [ax_vr 9 0 184, ax_vi a0, ax_vi a1, ax_vi a2] I L K := ax_vcI ax_c190 1 [some (ax_vr 9 0 184), some (ax_vi a0), some (ax_vi a1), some (ax_vi a2), none, none] (fun pc => Nat.beq pc 117) 54 rfl rfl rfl rfl h
set_option maxRecDepth 100000 in
set_option maxHeartbeats 8000000 in
theorem vc_X9_says_117 {d : Nat} {b1 : Int32} {b3 : Int32} {b4 : Int32} {b5 : Int32} {z2 : Option ax_V} {I : ax_I} {L : ax_J} {K : Int32 → ax_I → ax_J → Prop} (h :
  (decide ((I 184 10) ≤ b5) = true →
    K 0 I L) ∧
  (decide ((I 184 10) ≤ b5) = false →
    ax_CI d 184 [ax_vr 9 0 184, ax_vi b1, ax_vi 24, ax_vi b5] I L (fun x3 I1 L2 =>
      ax_CI d 150 [ax_vi b4, ax_vi b5] I1 L2 (fun x6 I4 L5 =>
        (decide (x6 = (0 : Int32)) = true →
          ax_CV d 185 [ax_vr 9 0 184, ax_vi b1, ax_vi 24, ax_vi b5, ax_vi (x3 ||| 0)] I4 L5 (fun I7 L8 =>
            ax_AK d 190 (117, [some (ax_vr 9 0 184), some (ax_vi b1), none, some (ax_vi b3), some (ax_vi b4), some (ax_vi (b5 + 1))], [], ax_mm I7 L8) (ax_ki K))) ∧
        (decide (x6 = (0 : Int32)) = false →
          ax_CV d 185 [ax_vr 9 0 184, ax_vi b1, ax_vi 24, ax_vi b5, ax_vi (x3 ||| ((1 : Int32) <<< (b3 &&& 31)))] I4 L5 (fun I10 L11 =>
            ax_AK d 190 (117, [some (ax_vr 9 0 184), some (ax_vi b1), none, some (ax_vi b3), some (ax_vi b4), some (ax_vi (b5 + 1))], [], ax_mm I10 L11) (ax_ki K))))))) : ax_AK d 190 (117, [some (ax_vr 9 0 184), some (ax_vi b1), z2, some (ax_vi b3), some (ax_vi b4), some (ax_vi b5)], [], ax_mm I L) (ax_ki K) := ax_vcL ax_c190 1 (fun pc => Nat.beq pc 117) 27 rfl rfl h
set_option maxRecDepth 100000 in
set_option maxHeartbeats 8000000 in
theorem vc_X9_holds {d : Nat} {a0 : Int32} {I : ax_I} {L : ax_J} {K : Int32 → ax_I → ax_J → Prop} (h :
  ax_CI d 184 [ax_vr 9 0 184, ax_vi a0, ax_vi 30, ax_vi 0] I L (fun x3 I1 L2 =>
    ax_AK d 191 (16, [some (ax_vr 9 0 184), some (ax_vi a0), some (ax_vi 0), some (ax_vi 0), some (ax_vi (x3 - 1)), none], [], ax_mm I1 L2) (ax_ki K))) : ax_CI (d + 1) 191 [ax_vr 9 0 184, ax_vi a0] I L K := ax_vcI ax_c191 1 [some (ax_vr 9 0 184), some (ax_vi a0), none, none, none, none] (fun pc => Nat.beq pc 16 || Nat.beq pc 24) 14 rfl rfl rfl rfl h
set_option maxRecDepth 100000 in
set_option maxHeartbeats 8000000 in
theorem vc_X9_holds_16 {d : Nat} {b1 : Int32} {b2 : Int32} {b3 : Int32} {b4 : Int32} {z5 : Option ax_V} {I : ax_I} {L : ax_J} {K : Int32 → ax_I → ax_J → Prop} (h :
  (decide (b4 < (0 : Int32)) = true →
    K b2 I L) ∧
  (decide (b4 < (0 : Int32)) = false →
    ax_AK d 191 (24, [some (ax_vr 9 0 184), some (ax_vi b1), some (ax_vi b2), some (ax_vi b3), some (ax_vi b4), some (ax_vi 0)], [], ax_mm I L) (ax_ki K))) : ax_AK d 191 (16, [some (ax_vr 9 0 184), some (ax_vi b1), some (ax_vi b2), some (ax_vi b3), some (ax_vi b4), z5], [], ax_mm I L) (ax_ki K) := ax_vcL ax_c191 1 (fun pc => Nat.beq pc 16 || Nat.beq pc 24) 6 rfl rfl h
set_option maxRecDepth 100000 in
set_option maxHeartbeats 8000000 in
theorem vc_X9_holds_24 {d : Nat} {b1 : Int32} {b2 : Int32} {b3 : Int32} {b4 : Int32} {b5 : Int32} {I : ax_I} {L : ax_J} {K : Int32 → ax_I → ax_J → Prop} (h :
  (decide ((I 184 11) ≤ b5) = true →
    ax_AK d 191 (16, [some (ax_vr 9 0 184), some (ax_vi b1), some (ax_vi b2), some (ax_vi b3), some (ax_vi (b4 + (-1))), some (ax_vi b5)], [], ax_mm I L) (ax_ki K)) ∧
  (decide ((I 184 11) ≤ b5) = false →
    ax_CI d 184 [ax_vr 9 0 184, ax_vi b1, ax_vi 12, ax_vi b5] I L (fun x3 I1 L2 =>
      ((!decide (x3 = b4)) = true →
        ax_AK d 191 (24, [some (ax_vr 9 0 184), some (ax_vi b1), some (ax_vi b2), some (ax_vi b3), some (ax_vi b4), some (ax_vi (b5 + 1))], [], ax_mm I1 L2) (ax_ki K)) ∧
      ((!decide (x3 = b4)) = false →
        ax_CI d 150 [ax_vi b3, ax_vi b5] I1 L2 (fun x6 I4 L5 =>
          ((!decide (x6 = (0 : Int32))) = true →
            ax_AK d 191 (24, [some (ax_vr 9 0 184), some (ax_vi b1), some (ax_vi b2), some (ax_vi b3), some (ax_vi b4), some (ax_vi (b5 + 1))], [], ax_mm I4 L5) (ax_ki K)) ∧
          ((!decide (x6 = (0 : Int32))) = false →
            ax_inb b5 6 = true ∧
            ax_AK d 191 (24, [some (ax_vr 9 0 184), some (ax_vi b1), some (ax_vi (b2 ||| ((1 : Int32) <<< (b5 &&& 31)))), some (ax_vi (b3 ||| (I4 194 b5.toNatClampNeg))), some (ax_vi b4), some (ax_vi (b5 + 1))], [], ax_mm I4 L5) (ax_ki K))))))) : ax_AK d 191 (24, [some (ax_vr 9 0 184), some (ax_vi b1), some (ax_vi b2), some (ax_vi b3), some (ax_vi b4), some (ax_vi b5)], [], ax_mm I L) (ax_ki K) := ax_vcL ax_c191 1 (fun pc => Nat.beq pc 16 || Nat.beq pc 24) 32 rfl rfl h
set_option maxRecDepth 100000 in
set_option maxHeartbeats 8000000 in
theorem vc_X9_gainOf {d : Nat} {a0 : Int32} {a1 : Int32} {I : ax_I} {L : ax_J} {K : Int32 → ax_I → ax_J → Prop} (h :
  ax_CI d 191 [ax_vr 9 0 184, ax_vi a0] I L (fun x3 I1 L2 =>
    ax_AK d 192 (12, [some (ax_vr 9 0 184), some (ax_vi a0), some (ax_vi a1), some (ax_vi x3), some (ax_vi 0), some (ax_vi 0)], [], ax_mm I1 L2) (ax_ki K))) : ax_CI (d + 1) 192 [ax_vr 9 0 184, ax_vi a0, ax_vi a1] I L K := ax_vcI ax_c192 1 [some (ax_vr 9 0 184), some (ax_vi a0), some (ax_vi a1), none, none, none] (fun pc => Nat.beq pc 12) 10 rfl rfl rfl rfl h
set_option maxRecDepth 100000 in
set_option maxHeartbeats 8000000 in
theorem vc_X9_gainOf_12 {d : Nat} {b1 : Int32} {b2 : Int32} {b3 : Int32} {b4 : Int32} {b5 : Int32} {I : ax_I} {L : ax_J} {K : Int32 → ax_I → ax_J → Prop} (h :
  (decide ((I 184 11) ≤ b5) = true →
    K b4 I L) ∧
  (decide ((I 184 11) ≤ b5) = false →
    ax_CI d 150 [ax_vi b3, ax_vi b5] I L (fun x3 I1 L2 =>
      (decide (x3 = (0 : Int32)) = true →
        ax_AK d 192 (12, [some (ax_vr 9 0 184), some (ax_vi b1), some (ax_vi b2), some (ax_vi b3), some (ax_vi (b4 + 0)), some (ax_vi (b5 + 1))], [], ax_mm I1 L2) (ax_ki K)) ∧
      (decide (x3 = (0 : Int32)) = false →
        ax_CI d 184 [ax_vr 9 0 184, ax_vi b1, ax_vi 6, ax_vi b5] I1 L2 (fun x6 I4 L5 =>
          ((!decide (x6 = b2)) = true →
            ax_AK d 192 (12, [some (ax_vr 9 0 184), some (ax_vi b1), some (ax_vi b2), some (ax_vi b3), some (ax_vi (b4 + 0)), some (ax_vi (b5 + 1))], [], ax_mm I4 L5) (ax_ki K)) ∧
          ((!decide (x6 = b2)) = false →
            ax_inb ((6 * b2) + b5) 36 = true ∧
            ax_AK d 192 (12, [some (ax_vr 9 0 184), some (ax_vi b1), some (ax_vi b2), some (ax_vi b3), some (ax_vi (b4 + (I4 193 ((6 * b2) + b5).toNatClampNeg))), some (ax_vi (b5 + 1))], [], ax_mm I4 L5) (ax_ki K))))))) : ax_AK d 192 (12, [some (ax_vr 9 0 184), some (ax_vi b1), some (ax_vi b2), some (ax_vi b3), some (ax_vi b4), some (ax_vi b5)], [], ax_mm I L) (ax_ki K) := ax_vcL ax_c192 1 (fun pc => Nat.beq pc 12) 31 rfl rfl h
set_option maxRecDepth 100000 in
set_option maxHeartbeats 8000000 in
theorem vc_X9_thingsBy {d : Nat} {a0 : Int32} {a1 : Int32} {I : ax_I} {L : ax_J} {K : Int32 → ax_I → ax_J → Prop} (h :
  ax_AK d 193 (5, [some (ax_vr 9 0 184), some (ax_vi a0), some (ax_vi a1), some (ax_vi 0), some (ax_vi 0)], [], ax_mm I L) (ax_ki K)) : ax_CI (d + 1) 193 [ax_vr 9 0 184, ax_vi a0, ax_vi a1] I L K := ax_vcI ax_c193 1 [some (ax_vr 9 0 184), some (ax_vi a0), some (ax_vi a1), none, none] (fun pc => Nat.beq pc 5) 6 rfl rfl rfl rfl h
set_option maxRecDepth 100000 in
set_option maxHeartbeats 8000000 in
theorem vc_X9_thingsBy_5 {d : Nat} {b1 : Int32} {b2 : Int32} {b3 : Int32} {b4 : Int32} {I : ax_I} {L : ax_J} {K : Int32 → ax_I → ax_J → Prop} (h :
  (decide ((I 184 11) ≤ b4) = true →
    K b3 I L) ∧
  (decide ((I 184 11) ≤ b4) = false →
    ax_CI d 184 [ax_vr 9 0 184, ax_vi 0, ax_vi b1, ax_vi b4] I L (fun x3 I1 L2 =>
      ((!decide (x3 = b2)) = true →
        ax_AK d 193 (5, [some (ax_vr 9 0 184), some (ax_vi b1), some (ax_vi b2), some (ax_vi (b3 ||| 0)), some (ax_vi (b4 + 1))], [], ax_mm I1 L2) (ax_ki K)) ∧
      ((!decide (x3 = b2)) = false →
        ax_AK d 193 (5, [some (ax_vr 9 0 184), some (ax_vi b1), some (ax_vi b2), some (ax_vi (b3 ||| ((1 : Int32) <<< (b4 &&& 31)))), some (ax_vi (b4 + 1))], [], ax_mm I1 L2) (ax_ki K))))) : ax_AK d 193 (5, [some (ax_vr 9 0 184), some (ax_vi b1), some (ax_vi b2), some (ax_vi b3), some (ax_vi b4)], [], ax_mm I L) (ax_ki K) := ax_vcL ax_c193 1 (fun pc => Nat.beq pc 5) 22 rfl rfl h
set_option maxRecDepth 100000 in
set_option maxHeartbeats 8000000 in
theorem vc_X9_oneTells {d : Nat} {a0 : Int32} {a1 : Int32} {I : ax_I} {L : ax_J} {K : Int32 → ax_I → ax_J → Prop} (h :
  (decide (a1 = 0) = true →
    ax_inb a0 6 = true ∧
    K (I 191 a0.toNatClampNeg) I L) ∧
  (decide (a1 = 0) = false →
  (decide (a1 = 1) = true →
    ax_CI d 188 [ax_vr 9 0 184, ax_vi a0] I L (fun x3 I1 L2 =>
      K x3 I1 L2)) ∧
  (decide (a1 = 1) = false →
  (decide (a1 = 2) = true →
    ax_CI d 184 [ax_vr 9 0 184, ax_vi 0, ax_vi 24, ax_vi a0] I L (fun x6 I4 L5 =>
      K x6 I4 L5)) ∧
  (decide (a1 = 2) = false →
  (decide (a1 = 3) = true →
    ax_CI d 193 [ax_vr 9 0 184, ax_vi 6, ax_vi a0] I L (fun x9 I7 L8 =>
      K x9 I7 L8)) ∧
  (decide (a1 = 3) = false →
    ax_CI d 192 [ax_vr 9 0 184, ax_vi 0, ax_vi a0] I L (fun x12 I10 L11 =>
      K x12 I10 L11)))))) : ax_CI (d + 1) 194 [ax_vr 9 0 184, ax_vi a0, ax_vi a1] I L K := ax_vcI ax_c194 1 [some (ax_vr 9 0 184), some (ax_vi a0), some (ax_vi a1)] (fun _ => false) 9 rfl rfl rfl rfl h
set_option maxRecDepth 100000 in
set_option maxHeartbeats 8000000 in
theorem vc_X9_one {d : Nat} {a0 : Int32} {a1 : Int32} {I : ax_I} {L : ax_J} {K : Int32 → ax_I → ax_J → Prop} (h :
  ax_CI d 182 [ax_vr 9 0 184, ax_vi a0] I L (fun x3 I1 L2 =>
    (decide (x3 = (0 : Int32)) = true →
      K (-1) I1 L2) ∧
    (decide (x3 = (0 : Int32)) = false →
      ax_CI d 149 [ax_vi a1, ax_vi 0, ax_vi 4] I1 L2 (fun x6 I4 L5 =>
        (decide (x6 = (0 : Int32)) = true →
          K (-1) I4 L5) ∧
        (decide (x6 = (0 : Int32)) = false →
          ax_CI d 194 [ax_vr 9 0 184, ax_vi a0, ax_vi a1] I4 L5 (fun x9 I7 L8 =>
            ax_CI d 155 [ax_vr 9 0 184, ax_vi x9, ax_vi 1] I7 L8 (fun x12 I10 L11 =>
              K x12 I10 L11))))))) : ax_CI (d + 1) 195 [ax_vr 9 0 184, ax_vi a0, ax_vi a1] I L K := ax_vcI ax_c195 1 [some (ax_vr 9 0 184), some (ax_vi a0), some (ax_vi a1)] (fun _ => false) 19 rfl rfl rfl rfl h
set_option maxRecDepth 100000 in
set_option maxHeartbeats 8000000 in
theorem vc_X9_thingTells {d : Nat} {a0 : Int32} {a1 : Int32} {I : ax_I} {L : ax_J} {K : Int32 → ax_I → ax_J → Prop} (h :
  (decide (a1 = 0) = true →
    ax_CI d 184 [ax_vr 9 0 184, ax_vi 0, ax_vi 0, ax_vi a0] I L (fun x3 I1 L2 =>
      K x3 I1 L2)) ∧
  (decide (a1 = 0) = false →
  (decide (a1 = 1) = true →
    ax_CI d 184 [ax_vr 9 0 184, ax_vi 0, ax_vi 6, ax_vi a0] I L (fun x6 I4 L5 =>
      K x6 I4 L5)) ∧
  (decide (a1 = 1) = false →
  (decide (a1 = 2) = true →
    ax_inb a0 6 = true ∧
    K (I 194 a0.toNatClampNeg) I L) ∧
  (decide (a1 = 2) = false →
    ax_CI d 191 [ax_vr 9 0 184, ax_vi 0] I L (fun x9 I7 L8 =>
      ax_CI d 150 [ax_vi x9, ax_vi a0] I7 L8 (fun x12 I10 L11 =>
        (decide (x12 = (0 : Int32)) = true →
          K 0 I10 L11) ∧
        (decide (x12 = (0 : Int32)) = false →
          K 1 I10 L11))))))) : ax_CI (d + 1) 196 [ax_vr 9 0 184, ax_vi a0, ax_vi a1] I L K := ax_vcI ax_c196 1 [some (ax_vr 9 0 184), some (ax_vi a0), some (ax_vi a1)] (fun _ => false) 12 rfl rfl rfl rfl h
set_option maxRecDepth 100000 in
set_option maxHeartbeats 8000000 in
theorem vc_X9_thing {d : Nat} {a0 : Int32} {a1 : Int32} {I : ax_I} {L : ax_J} {K : Int32 → ax_I → ax_J → Prop} (h :
  ax_CI d 183 [ax_vr 9 0 184, ax_vi a0] I L (fun x3 I1 L2 =>
    (decide (x3 = (0 : Int32)) = true →
      K (-1) I1 L2) ∧
    (decide (x3 = (0 : Int32)) = false →
      ax_CI d 149 [ax_vi a1, ax_vi 0, ax_vi 3] I1 L2 (fun x6 I4 L5 =>
        (decide (x6 = (0 : Int32)) = true →
          K (-1) I4 L5) ∧
        (decide (x6 = (0 : Int32)) = false →
          ax_CI d 196 [ax_vr 9 0 184, ax_vi a0, ax_vi a1] I4 L5 (fun x9 I7 L8 =>
            ax_CI d 155 [ax_vr 9 0 184, ax_vi x9, ax_vi 1] I7 L8 (fun x12 I10 L11 =>
              K x12 I10 L11))))))) : ax_CI (d + 1) 197 [ax_vr 9 0 184, ax_vi a0, ax_vi a1] I L K := ax_vcI ax_c197 1 [some (ax_vr 9 0 184), some (ax_vi a0), some (ax_vi a1)] (fun _ => false) 19 rfl rfl rfl rfl h
set_option maxRecDepth 100000 in
set_option maxHeartbeats 8000000 in
theorem vc_X9_saidBy {d : Nat} {a0 : Int32} {I : ax_I} {L : ax_J} {K : Int32 → ax_I → ax_J → Prop} (h :
  ax_AK d 198 (4, [some (ax_vr 9 0 184), some (ax_vi a0), some (ax_vi 0), some (ax_vi 0)], [], ax_mm I L) (ax_ki K)) : ax_CI (d + 1) 198 [ax_vr 9 0 184, ax_vi a0] I L K := ax_vcI ax_c198 1 [some (ax_vr 9 0 184), some (ax_vi a0), none, none] (fun pc => Nat.beq pc 4) 6 rfl rfl rfl rfl h
set_option maxRecDepth 100000 in
set_option maxHeartbeats 8000000 in
theorem vc_X9_saidBy_4 {d : Nat} {b1 : Int32} {b2 : Int32} {b3 : Int32} {I : ax_I} {L : ax_J} {K : Int32 → ax_I → ax_J → Prop} (h :
  (decide ((I 184 27) ≤ b3) = true →
    K b2 I L) ∧
  (decide ((I 184 27) ≤ b3) = false →
    ax_inb b3 40 = true ∧
    (!decide ((10 : Int32) = 0)) = true ∧
    ((!decide (((I 200 b3.toNatClampNeg) / 10) = b1)) = true →
      ax_AK d 198 (4, [some (ax_vr 9 0 184), some (ax_vi b1), some (ax_vi (b2 + 0)), some (ax_vi (b3 + 1))], [], ax_mm I L) (ax_ki K)) ∧
    ((!decide (((I 200 b3.toNatClampNeg) / 10) = b1)) = false →
      ax_AK d 198 (4, [some (ax_vr 9 0 184), some (ax_vi b1), some (ax_vi (b2 + 1)), some (ax_vi (b3 + 1))], [], ax_mm I L) (ax_ki K)))) : ax_AK d 198 (4, [some (ax_vr 9 0 184), some (ax_vi b1), some (ax_vi b2), some (ax_vi b3)], [], ax_mm I L) (ax_ki K) := ax_vcL ax_c198 1 (fun pc => Nat.beq pc 4) 21 rfl rfl h
set_option maxRecDepth 100000 in
set_option maxHeartbeats 8000000 in
theorem vc_X9_heardBy {d : Nat} {a0 : Int32} {I : ax_I} {L : ax_J} {K : Int32 → ax_I → ax_J → Prop} (h :
  ax_AK d 199 (4, [some (ax_vr 9 0 184), some (ax_vi a0), some (ax_vi 0), some (ax_vi 0)], [], ax_mm I L) (ax_ki K)) : ax_CI (d + 1) 199 [ax_vr 9 0 184, ax_vi a0] I L K := ax_vcI ax_c199 1 [some (ax_vr 9 0 184), some (ax_vi a0), none, none] (fun pc => Nat.beq pc 4) 6 rfl rfl rfl rfl h
set_option maxRecDepth 100000 in
set_option maxHeartbeats 8000000 in
theorem vc_X9_heardBy_4 {d : Nat} {b1 : Int32} {b2 : Int32} {b3 : Int32} {I : ax_I} {L : ax_J} {K : Int32 → ax_I → ax_J → Prop} (h :
  (decide ((I 184 10) ≤ b3) = true →
    K b2 I L) ∧
  (decide ((I 184 10) ≤ b3) = false →
    ax_CI d 188 [ax_vr 9 0 184, ax_vi b3] I L (fun x3 I1 L2 =>
      ax_CI d 150 [ax_vi x3, ax_vi b1] I1 L2 (fun x6 I4 L5 =>
        (decide (x6 = (0 : Int32)) = true →
          ax_AK d 199 (4, [some (ax_vr 9 0 184), some (ax_vi b1), some (ax_vi (b2 + 0)), some (ax_vi (b3 + 1))], [], ax_mm I4 L5) (ax_ki K)) ∧
        (decide (x6 = (0 : Int32)) = false →
          ax_AK d 199 (4, [some (ax_vr 9 0 184), some (ax_vi b1), some (ax_vi (b2 + 1)), some (ax_vi (b3 + 1))], [], ax_mm I4 L5) (ax_ki K)))))) : ax_AK d 199 (4, [some (ax_vr 9 0 184), some (ax_vi b1), some (ax_vi b2), some (ax_vi b3)], [], ax_mm I L) (ax_ki K) := ax_vcL ax_c199 1 (fun pc => Nat.beq pc 4) 19 rfl rfl h
set_option maxRecDepth 100000 in
set_option maxHeartbeats 8000000 in
theorem vc_X9_mark {d : Nat} {a0 : Int32} {a1 : Int32} {I : ax_I} {L : ax_J} {K : Int32 → ax_I → ax_J → Prop} (h :
  ax_CI d 182 [ax_vr 9 0 184, ax_vi a0] I L (fun x3 I1 L2 =>
    (decide (x3 = (0 : Int32)) = true →
      K (-1) I1 L2) ∧
    (decide (x3 = (0 : Int32)) = false →
      ax_CI d 149 [ax_vi a1, ax_vi 1, ax_vi 5] I1 L2 (fun x6 I4 L5 =>
        ((!decide (x6 = (0 : Int32))) = true →
          ax_inb a0 6 = true ∧
          (decide ((I4 191 a0.toNatClampNeg) = a1) = true →
            (decide (a1 = 1) = true →
              ax_CI d 193 [ax_vr 9 0 184, ax_vi 0, ax_vi a0] I4 L5 (fun x9 I7 L8 =>
                ax_CI d 151 [ax_vi x9] I7 L8 (fun x12 I10 L11 =>
                  K x12 I10 L11))) ∧
            (decide (a1 = 1) = false →
            (decide (a1 = 2) = true →
              ax_CI d 198 [ax_vr 9 0 184, ax_vi a0] I4 L5 (fun x15 I13 L14 =>
                K x15 I13 L14)) ∧
            (decide (a1 = 2) = false →
            (decide (a1 = 3) = true →
              ax_CI d 199 [ax_vr 9 0 184, ax_vi a0] I4 L5 (fun x18 I16 L17 =>
                K x18 I16 L17)) ∧
            (decide (a1 = 3) = false →
            (decide (a1 = 4) = true →
              ax_CI d 193 [ax_vr 9 0 184, ax_vi 18, ax_vi a0] I4 L5 (fun x21 I19 L20 =>
                ax_CI d 151 [ax_vi x21] I19 L20 (fun x24 I22 L23 =>
                  K x24 I22 L23))) ∧
            (decide (a1 = 4) = false →
              ax_CI d 193 [ax_vr 9 0 184, ax_vi 0, ax_vi a0] I4 L5 (fun x27 I25 L26 =>
                ax_CI d 193 [ax_vr 9 0 184, ax_vi 6, ax_vi a0] I25 L26 (fun x30 I28 L29 =>
                  ax_CI d 151 [ax_vi (x27 &&& x30)] I28 L29 (fun x33 I31 L32 =>
                    K x33 I31 L32)))))))) ∧
          (decide ((I4 191 a0.toNatClampNeg) = a1) = false →
            ((!decide (a1 = (1 : Int32))) = true →
              ((!decide (a1 = (2 : Int32))) = true →
                ax_CI d 152 [ax_vr 9 0 184, ax_vi 3] I4 L5 (fun x36 I34 L35 =>
                  K x36 I34 L35)) ∧
              ((!decide (a1 = (2 : Int32))) = false →
                (decide ((I4 191 a0.toNatClampNeg) = (4 : Int32)) = true →
                  (decide (a1 = 1) = true →
                    ax_CI d 193 [ax_vr 9 0 184, ax_vi 0, ax_vi a0] I4 L5 (fun x39 I37 L38 =>
                      ax_CI d 151 [ax_vi x39] I37 L38 (fun x42 I40 L41 =>
                        K x42 I40 L41))) ∧
                  (decide (a1 = 1) = false →
                  (decide (a1 = 2) = true →
                    ax_CI d 198 [ax_vr 9 0 184, ax_vi a0] I4 L5 (fun x45 I43 L44 =>
                      K x45 I43 L44)) ∧
                  (decide (a1 = 2) = false →
                  (decide (a1 = 3) = true →
                    ax_CI d 199 [ax_vr 9 0 184, ax_vi a0] I4 L5 (fun x48 I46 L47 =>
                      K x48 I46 L47)) ∧
                  (decide (a1 = 3) = false →
                  (decide (a1 = 4) = true →
                    ax_CI d 193 [ax_vr 9 0 184, ax_vi 18, ax_vi a0] I4 L5 (fun x51 I49 L50 =>
                      ax_CI d 151 [ax_vi x51] I49 L50 (fun x54 I52 L53 =>
                        K x54 I52 L53))) ∧
                  (decide (a1 = 4) = false →
                    ax_CI d 193 [ax_vr 9 0 184, ax_vi 0, ax_vi a0] I4 L5 (fun x57 I55 L56 =>
                      ax_CI d 193 [ax_vr 9 0 184, ax_vi 6, ax_vi a0] I55 L56 (fun x60 I58 L59 =>
                        ax_CI d 151 [ax_vi (x57 &&& x60)] I58 L59 (fun x63 I61 L62 =>
                          K x63 I61 L62)))))))) ∧
                (decide ((I4 191 a0.toNatClampNeg) = (4 : Int32)) = false →
                  ax_CI d 152 [ax_vr 9 0 184, ax_vi 3] I4 L5 (fun x66 I64 L65 =>
                    K x66 I64 L65)))) ∧
            ((!decide (a1 = (1 : Int32))) = false →
              (decide ((I4 191 a0.toNatClampNeg) = (5 : Int32)) = true →
                (decide (a1 = 1) = true →
                  ax_CI d 193 [ax_vr 9 0 184, ax_vi 0, ax_vi a0] I4 L5 (fun x69 I67 L68 =>
                    ax_CI d 151 [ax_vi x69] I67 L68 (fun x72 I70 L71 =>
                      K x72 I70 L71))) ∧
                (decide (a1 = 1) = false →
                (decide (a1 = 2) = true →
                  ax_CI d 198 [ax_vr 9 0 184, ax_vi a0] I4 L5 (fun x75 I73 L74 =>
                    K x75 I73 L74)) ∧
                (decide (a1 = 2) = false →
                (decide (a1 = 3) = true →
                  ax_CI d 199 [ax_vr 9 0 184, ax_vi a0] I4 L5 (fun x78 I76 L77 =>
                    K x78 I76 L77)) ∧
                (decide (a1 = 3) = false →
                (decide (a1 = 4) = true →
                  ax_CI d 193 [ax_vr 9 0 184, ax_vi 18, ax_vi a0] I4 L5 (fun x81 I79 L80 =>
                    ax_CI d 151 [ax_vi x81] I79 L80 (fun x84 I82 L83 =>
                      K x84 I82 L83))) ∧
                (decide (a1 = 4) = false →
                  ax_CI d 193 [ax_vr 9 0 184, ax_vi 0, ax_vi a0] I4 L5 (fun x87 I85 L86 =>
                    ax_CI d 193 [ax_vr 9 0 184, ax_vi 6, ax_vi a0] I85 L86 (fun x90 I88 L89 =>
                      ax_CI d 151 [ax_vi (x87 &&& x90)] I88 L89 (fun x93 I91 L92 =>
                        K x93 I91 L92)))))))) ∧
              (decide ((I4 191 a0.toNatClampNeg) = (5 : Int32)) = false →
                ((!decide (a1 = (2 : Int32))) = true →
                  ax_CI d 152 [ax_vr 9 0 184, ax_vi 3] I4 L5 (fun x96 I94 L95 =>
                    K x96 I94 L95)) ∧
                ((!decide (a1 = (2 : Int32))) = false →
                  (decide ((I4 191 a0.toNatClampNeg) = (4 : Int32)) = true →
                    (decide (a1 = 1) = true →
                      ax_CI d 193 [ax_vr 9 0 184, ax_vi 0, ax_vi a0] I4 L5 (fun x99 I97 L98 =>
                        ax_CI d 151 [ax_vi x99] I97 L98 (fun x102 I100 L101 =>
                          K x102 I100 L101))) ∧
                    (decide (a1 = 1) = false →
                    (decide (a1 = 2) = true →
                      ax_CI d 198 [ax_vr 9 0 184, ax_vi a0] I4 L5 (fun x105 I103 L104 =>
                        K x105 I103 L104)) ∧
                    (decide (a1 = 2) = false →
                    (decide (a1 = 3) = true →
                      ax_CI d 199 [ax_vr 9 0 184, ax_vi a0] I4 L5 (fun x108 I106 L107 =>
                        K x108 I106 L107)) ∧
                    (decide (a1 = 3) = false →
                    (decide (a1 = 4) = true →
                      ax_CI d 193 [ax_vr 9 0 184, ax_vi 18, ax_vi a0] I4 L5 (fun x111 I109 L110 =>
                        ax_CI d 151 [ax_vi x111] I109 L110 (fun x114 I112 L113 =>
                          K x114 I112 L113))) ∧
                    (decide (a1 = 4) = false →
                      ax_CI d 193 [ax_vr 9 0 184, ax_vi 0, ax_vi a0] I4 L5 (fun x117 I115 L116 =>
                        ax_CI d 193 [ax_vr 9 0 184, ax_vi 6, ax_vi a0] I115 L116 (fun x120 I118 L119 =>
                          ax_CI d 151 [ax_vi (x117 &&& x120)] I118 L119 (fun x123 I121 L122 =>
                            K x123 I121 L122)))))))) ∧
                  (decide ((I4 191 a0.toNatClampNeg) = (4 : Int32)) = false →
                    ax_CI d 152 [ax_vr 9 0 184, ax_vi 3] I4 L5 (fun x126 I124 L125 =>
                      K x126 I124 L125))))))) ∧
        ((!decide (x6 = (0 : Int32))) = false →
          K (-1) I4 L5))))) : ax_CI (d + 1) 200 [ax_vr 9 0 184, ax_vi a0, ax_vi a1] I L K := ax_vcI ax_c200 1 [some (ax_vr 9 0 184), some (ax_vi a0), some (ax_vi a1), none] (fun _ => false) 43 rfl rfl rfl rfl h
set_option maxRecDepth 100000 in
set_option maxHeartbeats 8000000 in
theorem vc_X9_want {d : Nat} {a0 : Int32} {a1 : Int32} {a2 : Int32} {I : ax_I} {L : ax_J} {K : Int32 → ax_I → ax_J → Prop} (h :
  ax_CI d 182 [ax_vr 9 0 184, ax_vi a0] I L (fun x3 I1 L2 =>
    (decide (x3 = (0 : Int32)) = true →
      K (-1) I1 L2) ∧
    (decide (x3 = (0 : Int32)) = false →
      ax_CI d 183 [ax_vr 9 0 184, ax_vi a1] I1 L2 (fun x6 I4 L5 =>
        (decide (x6 = (0 : Int32)) = true →
          K (-1) I4 L5) ∧
        (decide (x6 = (0 : Int32)) = false →
          ax_CI d 149 [ax_vi a2, ax_vi 0, ax_vi 9] I4 L5 (fun x9 I7 L8 =>
            ((!decide (x9 = (0 : Int32))) = true →
              ax_inb ((6 * a0) + a1) 36 = true ∧
              ax_inb ((6 * a0) + a1) 36 = true ∧
              K (I7 193 ((6 * a0) + a1).toNatClampNeg) (ax_ui I7 193 ((6 * a0) + a1).toNatClampNeg a2) L8) ∧
            ((!decide (x9 = (0 : Int32))) = false →
              K (-1) I7 L8))))))) : ax_CI (d + 1) 201 [ax_vr 9 0 184, ax_vi a0, ax_vi a1, ax_vi a2] I L K := ax_vcI ax_c201 1 [some (ax_vr 9 0 184), some (ax_vi a0), some (ax_vi a1), some (ax_vi a2), none] (fun _ => false) 34 rfl rfl rfl rfl h
