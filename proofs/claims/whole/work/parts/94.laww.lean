set_option maxRecDepth 100000 in
set_option maxHeartbeats 8000000 in
theorem vw_law {d : Nat} {n0 : Nat} {b3 : Int32} {I : ax_I} {L : ax_J} {Z : ax_S → Prop} {K : Int32 → ax_I → ax_J → Prop} (h :
  (decide (((nI n0) - 6) < b3) = true →
    ax_bit 1 = true ∧ K 1 I L) ∧
  (decide (((nI n0) - 6) < b3) = false →
    ax_inb b3 n0 = true ∧
    (decide (((I 0 b3.toNatClampNeg) &&& 63) = 0) = true →
      ax_inb (b3 + 1) n0 = true ∧
      ax_inb (b3 + 2) n0 = true ∧
      ax_CIW d 90 [ax_vr 8 0 3, ax_vi (I 0 (b3 + 1).toNatClampNeg), ax_vi (I 0 (b3 + 2).toNatClampNeg)] I L (fun x3 I1 L2 =>
        ax_inb (b3 + 1) n0 = true ∧
        ax_inb (b3 + 2) n0 = true ∧
        ax_CIW d 162 [ax_vr 9 0 184, ax_vi (I1 0 (b3 + 1).toNatClampNeg), ax_vi (I1 0 (b3 + 2).toNatClampNeg)] I1 L2 (fun x6 I4 L5 =>
          (decide (x3 = x6) = true →
            Z (18, [some (ax_vr 19 n0 0), some (ax_vr 8 0 3), some (ax_vr 9 0 184), some (ax_vi (b3 + 6))], [], ax_mm I4 L5)) ∧
          (decide (x3 = x6) = false →
            ax_bit 0 = true ∧ K 0 I4 L5)))) ∧
    (decide (((I 0 b3.toNatClampNeg) &&& 63) = 0) = false →
    (decide (((I 0 b3.toNatClampNeg) &&& 63) = 1) = true →
      ax_inb (b3 + 1) n0 = true ∧
      ax_inb (b3 + 2) n0 = true ∧
      ax_inb (b3 + 3) n0 = true ∧
      ax_CIW d 91 [ax_vr 8 0 3, ax_vi (I 0 (b3 + 1).toNatClampNeg), ax_vi (I 0 (b3 + 2).toNatClampNeg), ax_vi (I 0 (b3 + 3).toNatClampNeg)] I L (fun x9 I7 L8 =>
        ax_inb (b3 + 1) n0 = true ∧
        ax_inb (b3 + 2) n0 = true ∧
        ax_inb (b3 + 3) n0 = true ∧
        ax_CIW d 163 [ax_vr 9 0 184, ax_vi (I7 0 (b3 + 1).toNatClampNeg), ax_vi (I7 0 (b3 + 2).toNatClampNeg), ax_vi (I7 0 (b3 + 3).toNatClampNeg)] I7 L8 (fun x12 I10 L11 =>
          (decide (x9 = x12) = true →
            Z (18, [some (ax_vr 19 n0 0), some (ax_vr 8 0 3), some (ax_vr 9 0 184), some (ax_vi (b3 + 6))], [], ax_mm I10 L11)) ∧
          (decide (x9 = x12) = false →
            ax_bit 0 = true ∧ K 0 I10 L11)))) ∧
    (decide (((I 0 b3.toNatClampNeg) &&& 63) = 1) = false →
    (decide (((I 0 b3.toNatClampNeg) &&& 63) = 2) = true →
      ax_inb (b3 + 1) n0 = true ∧
      ax_inb (b3 + 2) n0 = true ∧
      ax_CIW d 92 [ax_vr 8 0 3, ax_vi (I 0 (b3 + 1).toNatClampNeg), ax_vi (I 0 (b3 + 2).toNatClampNeg)] I L (fun x15 I13 L14 =>
        ax_inb (b3 + 1) n0 = true ∧
        ax_inb (b3 + 2) n0 = true ∧
        ax_CIW d 164 [ax_vr 9 0 184, ax_vi (I13 0 (b3 + 1).toNatClampNeg), ax_vi (I13 0 (b3 + 2).toNatClampNeg)] I13 L14 (fun x18 I16 L17 =>
          (decide (x15 = x18) = true →
            Z (18, [some (ax_vr 19 n0 0), some (ax_vr 8 0 3), some (ax_vr 9 0 184), some (ax_vi (b3 + 6))], [], ax_mm I16 L17)) ∧
          (decide (x15 = x18) = false →
            ax_bit 0 = true ∧ K 0 I16 L17)))) ∧
    (decide (((I 0 b3.toNatClampNeg) &&& 63) = 2) = false →
    (decide (((I 0 b3.toNatClampNeg) &&& 63) = 3) = true →
      ax_inb (b3 + 1) n0 = true ∧
      ax_CIW d 93 [ax_vr 8 0 3, ax_vi (I 0 (b3 + 1).toNatClampNeg)] I L (fun x21 I19 L20 =>
        ax_inb (b3 + 1) n0 = true ∧
        ax_CIW d 165 [ax_vr 9 0 184, ax_vi (I19 0 (b3 + 1).toNatClampNeg)] I19 L20 (fun x24 I22 L23 =>
          (decide (x21 = x24) = true →
            Z (18, [some (ax_vr 19 n0 0), some (ax_vr 8 0 3), some (ax_vr 9 0 184), some (ax_vi (b3 + 6))], [], ax_mm I22 L23)) ∧
          (decide (x21 = x24) = false →
            ax_bit 0 = true ∧ K 0 I22 L23)))) ∧
    (decide (((I 0 b3.toNatClampNeg) &&& 63) = 3) = false →
    (decide (((I 0 b3.toNatClampNeg) &&& 63) = 4) = true →
      ax_inb (b3 + 1) n0 = true ∧
      ax_inb (b3 + 2) n0 = true ∧
      ax_inb (b3 + 3) n0 = true ∧
      ax_inb (b3 + 4) n0 = true ∧
      ax_inb (b3 + 5) n0 = true ∧
      ax_CIW d 94 [ax_vr 8 0 3, ax_vi (I 0 (b3 + 1).toNatClampNeg), ax_vi (I 0 (b3 + 2).toNatClampNeg), ax_vi (I 0 (b3 + 3).toNatClampNeg), ax_vi (I 0 (b3 + 4).toNatClampNeg), ax_vi (I 0 (b3 + 5).toNatClampNeg)] I L (fun x27 I25 L26 =>
        ax_inb (b3 + 1) n0 = true ∧
        ax_inb (b3 + 2) n0 = true ∧
        ax_inb (b3 + 3) n0 = true ∧
        ax_inb (b3 + 4) n0 = true ∧
        ax_inb (b3 + 5) n0 = true ∧
        ax_CIW d 166 [ax_vr 9 0 184, ax_vi (I25 0 (b3 + 1).toNatClampNeg), ax_vi (I25 0 (b3 + 2).toNatClampNeg), ax_vi (I25 0 (b3 + 3).toNatClampNeg), ax_vi (I25 0 (b3 + 4).toNatClampNeg), ax_vi (I25 0 (b3 + 5).toNatClampNeg)] I25 L26 (fun x30 I28 L29 =>
          (decide (x27 = x30) = true →
            Z (18, [some (ax_vr 19 n0 0), some (ax_vr 8 0 3), some (ax_vr 9 0 184), some (ax_vi (b3 + 6))], [], ax_mm I28 L29)) ∧
          (decide (x27 = x30) = false →
            ax_bit 0 = true ∧ K 0 I28 L29)))) ∧
    (decide (((I 0 b3.toNatClampNeg) &&& 63) = 4) = false →
    (decide (((I 0 b3.toNatClampNeg) &&& 63) = 5) = true →
      ax_inb (b3 + 1) n0 = true ∧
      ax_CIW d 95 [ax_vr 8 0 3, ax_vi (I 0 (b3 + 1).toNatClampNeg)] I L (fun x33 I31 L32 =>
        ax_inb (b3 + 1) n0 = true ∧
        ax_CIW d 167 [ax_vr 9 0 184, ax_vi (I31 0 (b3 + 1).toNatClampNeg)] I31 L32 (fun x36 I34 L35 =>
          (decide (x33 = x36) = true →
            Z (18, [some (ax_vr 19 n0 0), some (ax_vr 8 0 3), some (ax_vr 9 0 184), some (ax_vi (b3 + 6))], [], ax_mm I34 L35)) ∧
          (decide (x33 = x36) = false →
            ax_bit 0 = true ∧ K 0 I34 L35)))) ∧
    (decide (((I 0 b3.toNatClampNeg) &&& 63) = 5) = false →
    (decide (((I 0 b3.toNatClampNeg) &&& 63) = 6) = true →
      ax_inb (b3 + 1) n0 = true ∧
      ax_inb (b3 + 2) n0 = true ∧
      ax_CIW d 96 [ax_vr 8 0 3, ax_vi (I 0 (b3 + 1).toNatClampNeg), ax_vi (I 0 (b3 + 2).toNatClampNeg)] I L (fun x39 I37 L38 =>
        ax_inb (b3 + 1) n0 = true ∧
        ax_inb (b3 + 2) n0 = true ∧
        ax_CIW d 169 [ax_vr 9 0 184, ax_vi (I37 0 (b3 + 1).toNatClampNeg), ax_vi (I37 0 (b3 + 2).toNatClampNeg)] I37 L38 (fun x42 I40 L41 =>
          (decide (x39 = x42) = true →
            Z (18, [some (ax_vr 19 n0 0), some (ax_vr 8 0 3), some (ax_vr 9 0 184), some (ax_vi (b3 + 6))], [], ax_mm I40 L41)) ∧
          (decide (x39 = x42) = false →
            ax_bit 0 = true ∧ K 0 I40 L41)))) ∧
    (decide (((I 0 b3.toNatClampNeg) &&& 63) = 6) = false →
    (decide (((I 0 b3.toNatClampNeg) &&& 63) = 7) = true →
      ax_inb (b3 + 1) n0 = true ∧
      ax_inb (b3 + 2) n0 = true ∧
      ax_inb (b3 + 3) n0 = true ∧
      ax_CIW d 97 [ax_vr 8 0 3, ax_vi (I 0 (b3 + 1).toNatClampNeg), ax_vi (I 0 (b3 + 2).toNatClampNeg), ax_vi (I 0 (b3 + 3).toNatClampNeg)] I L (fun x45 I43 L44 =>
        ax_inb (b3 + 1) n0 = true ∧
        ax_inb (b3 + 2) n0 = true ∧
        ax_inb (b3 + 3) n0 = true ∧
        ax_CIW d 170 [ax_vr 9 0 184, ax_vi (I43 0 (b3 + 1).toNatClampNeg), ax_vi (I43 0 (b3 + 2).toNatClampNeg), ax_vi (I43 0 (b3 + 3).toNatClampNeg)] I43 L44 (fun x48 I46 L47 =>
          (decide (x45 = x48) = true →
            Z (18, [some (ax_vr 19 n0 0), some (ax_vr 8 0 3), some (ax_vr 9 0 184), some (ax_vi (b3 + 6))], [], ax_mm I46 L47)) ∧
          (decide (x45 = x48) = false →
            ax_bit 0 = true ∧ K 0 I46 L47)))) ∧
    (decide (((I 0 b3.toNatClampNeg) &&& 63) = 7) = false →
    (decide (((I 0 b3.toNatClampNeg) &&& 63) = 8) = true →
      ax_inb (b3 + 1) n0 = true ∧
      ax_CIW d 98 [ax_vr 8 0 3, ax_vi (I 0 (b3 + 1).toNatClampNeg)] I L (fun x51 I49 L50 =>
        ax_inb (b3 + 1) n0 = true ∧
        ax_CIW d 180 [ax_vr 9 0 184, ax_vi (I49 0 (b3 + 1).toNatClampNeg)] I49 L50 (fun x54 I52 L53 =>
          (decide (x51 = x54) = true →
            Z (18, [some (ax_vr 19 n0 0), some (ax_vr 8 0 3), some (ax_vr 9 0 184), some (ax_vi (b3 + 6))], [], ax_mm I52 L53)) ∧
          (decide (x51 = x54) = false →
            ax_bit 0 = true ∧ K 0 I52 L53)))) ∧
    (decide (((I 0 b3.toNatClampNeg) &&& 63) = 8) = false →
    (decide (((I 0 b3.toNatClampNeg) &&& 63) = 9) = true →
      ax_inb (b3 + 1) n0 = true ∧
      ax_CIW d 99 [ax_vr 8 0 3, ax_vi (I 0 (b3 + 1).toNatClampNeg)] I L (fun x57 I55 L56 =>
        ax_inb (b3 + 1) n0 = true ∧
        ax_CIW d 181 [ax_vr 9 0 184, ax_vi (I55 0 (b3 + 1).toNatClampNeg)] I55 L56 (fun x60 I58 L59 =>
          (decide (x57 = x60) = true →
            Z (18, [some (ax_vr 19 n0 0), some (ax_vr 8 0 3), some (ax_vr 9 0 184), some (ax_vi (b3 + 6))], [], ax_mm I58 L59)) ∧
          (decide (x57 = x60) = false →
            ax_bit 0 = true ∧ K 0 I58 L59)))) ∧
    (decide (((I 0 b3.toNatClampNeg) &&& 63) = 9) = false →
    (decide (((I 0 b3.toNatClampNeg) &&& 63) = 10) = true →
      ax_inb (b3 + 1) n0 = true ∧
      ax_inb (b3 + 2) n0 = true ∧
      ax_CIW d 100 [ax_vr 8 0 3, ax_vi (I 0 (b3 + 1).toNatClampNeg), ax_vi (I 0 (b3 + 2).toNatClampNeg)] I L (fun x63 I61 L62 =>
        ax_inb (b3 + 1) n0 = true ∧
        ax_inb (b3 + 2) n0 = true ∧
        ax_CIW d 195 [ax_vr 9 0 184, ax_vi (I61 0 (b3 + 1).toNatClampNeg), ax_vi (I61 0 (b3 + 2).toNatClampNeg)] I61 L62 (fun x66 I64 L65 =>
          (decide (x63 = x66) = true →
            Z (18, [some (ax_vr 19 n0 0), some (ax_vr 8 0 3), some (ax_vr 9 0 184), some (ax_vi (b3 + 6))], [], ax_mm I64 L65)) ∧
          (decide (x63 = x66) = false →
            ax_bit 0 = true ∧ K 0 I64 L65)))) ∧
    (decide (((I 0 b3.toNatClampNeg) &&& 63) = 10) = false →
    (decide (((I 0 b3.toNatClampNeg) &&& 63) = 11) = true →
      ax_inb (b3 + 1) n0 = true ∧
      ax_inb (b3 + 2) n0 = true ∧
      ax_CIW d 101 [ax_vr 8 0 3, ax_vi (I 0 (b3 + 1).toNatClampNeg), ax_vi (I 0 (b3 + 2).toNatClampNeg)] I L (fun x69 I67 L68 =>
        ax_inb (b3 + 1) n0 = true ∧
        ax_inb (b3 + 2) n0 = true ∧
        ax_CIW d 197 [ax_vr 9 0 184, ax_vi (I67 0 (b3 + 1).toNatClampNeg), ax_vi (I67 0 (b3 + 2).toNatClampNeg)] I67 L68 (fun x72 I70 L71 =>
          (decide (x69 = x72) = true →
            Z (18, [some (ax_vr 19 n0 0), some (ax_vr 8 0 3), some (ax_vr 9 0 184), some (ax_vi (b3 + 6))], [], ax_mm I70 L71)) ∧
          (decide (x69 = x72) = false →
            ax_bit 0 = true ∧ K 0 I70 L71)))) ∧
    (decide (((I 0 b3.toNatClampNeg) &&& 63) = 11) = false →
    (decide (((I 0 b3.toNatClampNeg) &&& 63) = 12) = true →
      ax_inb (b3 + 1) n0 = true ∧
      ax_inb (b3 + 2) n0 = true ∧
      ax_CIW d 102 [ax_vr 8 0 3, ax_vi (I 0 (b3 + 1).toNatClampNeg), ax_vi (I 0 (b3 + 2).toNatClampNeg)] I L (fun x75 I73 L74 =>
        ax_inb (b3 + 1) n0 = true ∧
        ax_inb (b3 + 2) n0 = true ∧
        ax_CIW d 200 [ax_vr 9 0 184, ax_vi (I73 0 (b3 + 1).toNatClampNeg), ax_vi (I73 0 (b3 + 2).toNatClampNeg)] I73 L74 (fun x78 I76 L77 =>
          (decide (x75 = x78) = true →
            Z (18, [some (ax_vr 19 n0 0), some (ax_vr 8 0 3), some (ax_vr 9 0 184), some (ax_vi (b3 + 6))], [], ax_mm I76 L77)) ∧
          (decide (x75 = x78) = false →
            ax_bit 0 = true ∧ K 0 I76 L77)))) ∧
    (decide (((I 0 b3.toNatClampNeg) &&& 63) = 12) = false →
    (decide (((I 0 b3.toNatClampNeg) &&& 63) = 13) = true →
      ax_inb (b3 + 1) n0 = true ∧
      ax_inb (b3 + 2) n0 = true ∧
      ax_inb (b3 + 3) n0 = true ∧
      ax_CIW d 103 [ax_vr 8 0 3, ax_vi (I 0 (b3 + 1).toNatClampNeg), ax_vi (I 0 (b3 + 2).toNatClampNeg), ax_vi (I 0 (b3 + 3).toNatClampNeg)] I L (fun x81 I79 L80 =>
        ax_inb (b3 + 1) n0 = true ∧
        ax_inb (b3 + 2) n0 = true ∧
        ax_inb (b3 + 3) n0 = true ∧
        ax_CIW d 201 [ax_vr 9 0 184, ax_vi (I79 0 (b3 + 1).toNatClampNeg), ax_vi (I79 0 (b3 + 2).toNatClampNeg), ax_vi (I79 0 (b3 + 3).toNatClampNeg)] I79 L80 (fun x84 I82 L83 =>
          (decide (x81 = x84) = true →
            Z (18, [some (ax_vr 19 n0 0), some (ax_vr 8 0 3), some (ax_vr 9 0 184), some (ax_vi (b3 + 6))], [], ax_mm I82 L83)) ∧
          (decide (x81 = x84) = false →
            ax_bit 0 = true ∧ K 0 I82 L83)))) ∧
    (decide (((I 0 b3.toNatClampNeg) &&& 63) = 13) = false →
    (decide (((I 0 b3.toNatClampNeg) &&& 63) = 14) = true →
      ax_inb (b3 + 1) n0 = true ∧
      ax_inb (b3 + 2) n0 = true ∧
      ax_inb (b3 + 3) n0 = true ∧
      ax_CIW d 104 [ax_vr 8 0 3, ax_vi (I 0 (b3 + 1).toNatClampNeg), ax_vi (I 0 (b3 + 2).toNatClampNeg), ax_vi (I 0 (b3 + 3).toNatClampNeg)] I L (fun x87 I85 L86 =>
        ax_inb (b3 + 1) n0 = true ∧
        ax_inb (b3 + 2) n0 = true ∧
        ax_inb (b3 + 3) n0 = true ∧
        ax_CIW d 202 [ax_vr 9 0 184, ax_vi (I85 0 (b3 + 1).toNatClampNeg), ax_vi (I85 0 (b3 + 2).toNatClampNeg), ax_vi (I85 0 (b3 + 3).toNatClampNeg)] I85 L86 (fun x90 I88 L89 =>
          (decide (x87 = x90) = true →
            Z (18, [some (ax_vr 19 n0 0), some (ax_vr 8 0 3), some (ax_vr 9 0 184), some (ax_vi (b3 + 6))], [], ax_mm I88 L89)) ∧
          (decide (x87 = x90) = false →
            ax_bit 0 = true ∧ K 0 I88 L89)))) ∧
    (decide (((I 0 b3.toNatClampNeg) &&& 63) = 14) = false →
    (decide (((I 0 b3.toNatClampNeg) &&& 63) = 15) = true →
      ax_inb (b3 + 1) n0 = true ∧
      ax_inb (b3 + 2) n0 = true ∧
      ax_CIW d 105 [ax_vr 8 0 3, ax_vi (I 0 (b3 + 1).toNatClampNeg), ax_vi (I 0 (b3 + 2).toNatClampNeg)] I L (fun x93 I91 L92 =>
        ax_inb (b3 + 1) n0 = true ∧
        ax_inb (b3 + 2) n0 = true ∧
        ax_CIW d 204 [ax_vr 9 0 184, ax_vi (I91 0 (b3 + 1).toNatClampNeg), ax_vi (I91 0 (b3 + 2).toNatClampNeg)] I91 L92 (fun x96 I94 L95 =>
          (decide (x93 = x96) = true →
            Z (18, [some (ax_vr 19 n0 0), some (ax_vr 8 0 3), some (ax_vr 9 0 184), some (ax_vi (b3 + 6))], [], ax_mm I94 L95)) ∧
          (decide (x93 = x96) = false →
            ax_bit 0 = true ∧ K 0 I94 L95)))) ∧
    (decide (((I 0 b3.toNatClampNeg) &&& 63) = 15) = false →
    (decide (((I 0 b3.toNatClampNeg) &&& 63) = 16) = true →
      ax_inb (b3 + 1) n0 = true ∧
      ax_CIW d 106 [ax_vr 8 0 3, ax_vi (I 0 (b3 + 1).toNatClampNeg)] I L (fun x99 I97 L98 =>
        ax_inb (b3 + 1) n0 = true ∧
        ax_CIW d 205 [ax_vr 9 0 184, ax_vi (I97 0 (b3 + 1).toNatClampNeg)] I97 L98 (fun x102 I100 L101 =>
          (decide (x99 = x102) = true →
            Z (18, [some (ax_vr 19 n0 0), some (ax_vr 8 0 3), some (ax_vr 9 0 184), some (ax_vi (b3 + 6))], [], ax_mm I100 L101)) ∧
          (decide (x99 = x102) = false →
            ax_bit 0 = true ∧ K 0 I100 L101)))) ∧
    (decide (((I 0 b3.toNatClampNeg) &&& 63) = 16) = false →
    (decide (((I 0 b3.toNatClampNeg) &&& 63) = 17) = true →
      ax_inb (b3 + 1) n0 = true ∧
      ax_CIW d 107 [ax_vr 8 0 3, ax_vi (I 0 (b3 + 1).toNatClampNeg)] I L (fun x105 I103 L104 =>
        ax_inb (b3 + 1) n0 = true ∧
        ax_CIW d 208 [ax_vr 9 0 184, ax_vi (I103 0 (b3 + 1).toNatClampNeg)] I103 L104 (fun x108 I106 L107 =>
          (decide (x105 = x108) = true →
            Z (18, [some (ax_vr 19 n0 0), some (ax_vr 8 0 3), some (ax_vr 9 0 184), some (ax_vi (b3 + 6))], [], ax_mm I106 L107)) ∧
          (decide (x105 = x108) = false →
            ax_bit 0 = true ∧ K 0 I106 L107)))) ∧
    (decide (((I 0 b3.toNatClampNeg) &&& 63) = 17) = false →
    (decide (((I 0 b3.toNatClampNeg) &&& 63) = 18) = true →
      ax_inb (b3 + 1) n0 = true ∧
      ax_CIW d 108 [ax_vr 8 0 3, ax_vi (I 0 (b3 + 1).toNatClampNeg)] I L (fun x111 I109 L110 =>
        ax_inb (b3 + 1) n0 = true ∧
        ax_CIW d 209 [ax_vr 9 0 184, ax_vi (I109 0 (b3 + 1).toNatClampNeg)] I109 L110 (fun x114 I112 L113 =>
          (decide (x111 = x114) = true →
            Z (18, [some (ax_vr 19 n0 0), some (ax_vr 8 0 3), some (ax_vr 9 0 184), some (ax_vi (b3 + 6))], [], ax_mm I112 L113)) ∧
          (decide (x111 = x114) = false →
            ax_bit 0 = true ∧ K 0 I112 L113)))) ∧
    (decide (((I 0 b3.toNatClampNeg) &&& 63) = 18) = false →
    (decide (((I 0 b3.toNatClampNeg) &&& 63) = 19) = true →
      ax_CIW d 109 [ax_vr 8 0 3] I L (fun x117 I115 L116 =>
        ax_CIW d 210 [ax_vr 9 0 184] I115 L116 (fun x120 I118 L119 =>
          (decide (x117 = x120) = true →
            Z (18, [some (ax_vr 19 n0 0), some (ax_vr 8 0 3), some (ax_vr 9 0 184), some (ax_vi (b3 + 6))], [], ax_mm I118 L119)) ∧
          (decide (x117 = x120) = false →
            ax_bit 0 = true ∧ K 0 I118 L119)))) ∧
    (decide (((I 0 b3.toNatClampNeg) &&& 63) = 19) = false →
    (decide (((I 0 b3.toNatClampNeg) &&& 63) = 20) = true →
      ax_inb (b3 + 1) n0 = true ∧
      ax_CIW d 110 [ax_vr 8 0 3, ax_vi (I 0 (b3 + 1).toNatClampNeg)] I L (fun x123 I121 L122 =>
        ax_inb (b3 + 1) n0 = true ∧
        ax_CIW d 211 [ax_vr 9 0 184, ax_vi (I121 0 (b3 + 1).toNatClampNeg)] I121 L122 (fun x126 I124 L125 =>
          (decide (x123 = x126) = true →
            Z (18, [some (ax_vr 19 n0 0), some (ax_vr 8 0 3), some (ax_vr 9 0 184), some (ax_vi (b3 + 6))], [], ax_mm I124 L125)) ∧
          (decide (x123 = x126) = false →
            ax_bit 0 = true ∧ K 0 I124 L125)))) ∧
    (decide (((I 0 b3.toNatClampNeg) &&& 63) = 20) = false →
    (decide (((I 0 b3.toNatClampNeg) &&& 63) = 21) = true →
      ax_inb (b3 + 1) n0 = true ∧
      ax_CIW d 111 [ax_vr 8 0 3, ax_vi (I 0 (b3 + 1).toNatClampNeg)] I L (fun x129 I127 L128 =>
        ax_inb (b3 + 1) n0 = true ∧
        ax_CIW d 212 [ax_vr 9 0 184, ax_vi (I127 0 (b3 + 1).toNatClampNeg)] I127 L128 (fun x132 I130 L131 =>
          (decide (x129 = x132) = true →
            Z (18, [some (ax_vr 19 n0 0), some (ax_vr 8 0 3), some (ax_vr 9 0 184), some (ax_vi (b3 + 6))], [], ax_mm I130 L131)) ∧
          (decide (x129 = x132) = false →
            ax_bit 0 = true ∧ K 0 I130 L131)))) ∧
    (decide (((I 0 b3.toNatClampNeg) &&& 63) = 21) = false →
    (decide (((I 0 b3.toNatClampNeg) &&& 63) = 22) = true →
      ax_inb (b3 + 1) n0 = true ∧
      ax_CIW d 112 [ax_vr 8 0 3, ax_vi (I 0 (b3 + 1).toNatClampNeg)] I L (fun x135 I133 L134 =>
        ax_inb (b3 + 1) n0 = true ∧
        ax_CIW d 213 [ax_vr 9 0 184, ax_vi (I133 0 (b3 + 1).toNatClampNeg)] I133 L134 (fun x138 I136 L137 =>
          (decide (x135 = x138) = true →
            Z (18, [some (ax_vr 19 n0 0), some (ax_vr 8 0 3), some (ax_vr 9 0 184), some (ax_vi (b3 + 6))], [], ax_mm I136 L137)) ∧
          (decide (x135 = x138) = false →
            ax_bit 0 = true ∧ K 0 I136 L137)))) ∧
    (decide (((I 0 b3.toNatClampNeg) &&& 63) = 22) = false →
    (decide (((I 0 b3.toNatClampNeg) &&& 63) = 23) = true →
      ax_inb (b3 + 1) n0 = true ∧
      ax_inb (b3 + 2) n0 = true ∧
      ax_inb (b3 + 3) n0 = true ∧
      ax_CIW d 113 [ax_vr 8 0 3, ax_vi (I 0 (b3 + 1).toNatClampNeg), ax_vi (I 0 (b3 + 2).toNatClampNeg), ax_vi (I 0 (b3 + 3).toNatClampNeg)] I L (fun x141 I139 L140 =>
        ax_inb (b3 + 1) n0 = true ∧
        ax_inb (b3 + 2) n0 = true ∧
        ax_inb (b3 + 3) n0 = true ∧
        ax_CIW d 218 [ax_vr 9 0 184, ax_vi (I139 0 (b3 + 1).toNatClampNeg), ax_vi (I139 0 (b3 + 2).toNatClampNeg), ax_vi (I139 0 (b3 + 3).toNatClampNeg)] I139 L140 (fun x144 I142 L143 =>
          (decide (x141 = x144) = true →
            Z (18, [some (ax_vr 19 n0 0), some (ax_vr 8 0 3), some (ax_vr 9 0 184), some (ax_vi (b3 + 6))], [], ax_mm I142 L143)) ∧
          (decide (x141 = x144) = false →
            ax_bit 0 = true ∧ K 0 I142 L143)))) ∧
    (decide (((I 0 b3.toNatClampNeg) &&& 63) = 23) = false →
    (decide (((I 0 b3.toNatClampNeg) &&& 63) = 24) = true →
      ax_inb (b3 + 1) n0 = true ∧
      ax_inb (b3 + 2) n0 = true ∧
      ax_CIW d 114 [ax_vr 8 0 3, ax_vi (I 0 (b3 + 1).toNatClampNeg), ax_vi (I 0 (b3 + 2).toNatClampNeg)] I L (fun x147 I145 L146 =>
        ax_inb (b3 + 1) n0 = true ∧
        ax_inb (b3 + 2) n0 = true ∧
        ax_CIW d 220 [ax_vr 9 0 184, ax_vi (I145 0 (b3 + 1).toNatClampNeg), ax_vi (I145 0 (b3 + 2).toNatClampNeg)] I145 L146 (fun x150 I148 L149 =>
          (decide (x147 = x150) = true →
            Z (18, [some (ax_vr 19 n0 0), some (ax_vr 8 0 3), some (ax_vr 9 0 184), some (ax_vi (b3 + 6))], [], ax_mm I148 L149)) ∧
          (decide (x147 = x150) = false →
            ax_bit 0 = true ∧ K 0 I148 L149)))) ∧
    (decide (((I 0 b3.toNatClampNeg) &&& 63) = 24) = false →
    (decide (((I 0 b3.toNatClampNeg) &&& 63) = 25) = true →
      ax_inb (b3 + 1) n0 = true ∧
      ax_inb (b3 + 2) n0 = true ∧
      ax_inb (b3 + 3) n0 = true ∧
      ax_CIW d 115 [ax_vr 8 0 3, ax_vi (I 0 (b3 + 1).toNatClampNeg), ax_vi (I 0 (b3 + 2).toNatClampNeg), ax_vi (I 0 (b3 + 3).toNatClampNeg)] I L (fun x153 I151 L152 =>
        ax_inb (b3 + 1) n0 = true ∧
        ax_inb (b3 + 2) n0 = true ∧
        ax_inb (b3 + 3) n0 = true ∧
        ax_CIW d 222 [ax_vr 9 0 184, ax_vi (I151 0 (b3 + 1).toNatClampNeg), ax_vi (I151 0 (b3 + 2).toNatClampNeg), ax_vi (I151 0 (b3 + 3).toNatClampNeg)] I151 L152 (fun x156 I154 L155 =>
          (decide (x153 = x156) = true →
            Z (18, [some (ax_vr 19 n0 0), some (ax_vr 8 0 3), some (ax_vr 9 0 184), some (ax_vi (b3 + 6))], [], ax_mm I154 L155)) ∧
          (decide (x153 = x156) = false →
            ax_bit 0 = true ∧ K 0 I154 L155)))) ∧
    (decide (((I 0 b3.toNatClampNeg) &&& 63) = 25) = false →
    (decide (((I 0 b3.toNatClampNeg) &&& 63) = 26) = true →
      ax_inb (b3 + 1) n0 = true ∧
      ax_CIW d 116 [ax_vr 8 0 3, ax_vi (I 0 (b3 + 1).toNatClampNeg)] I L (fun x159 I157 L158 =>
        ax_inb (b3 + 1) n0 = true ∧
        ax_CIW d 224 [ax_vr 9 0 184, ax_vi (I157 0 (b3 + 1).toNatClampNeg)] I157 L158 (fun x162 I160 L161 =>
          (decide (x159 = x162) = true →
            Z (18, [some (ax_vr 19 n0 0), some (ax_vr 8 0 3), some (ax_vr 9 0 184), some (ax_vi (b3 + 6))], [], ax_mm I160 L161)) ∧
          (decide (x159 = x162) = false →
            ax_bit 0 = true ∧ K 0 I160 L161)))) ∧
    (decide (((I 0 b3.toNatClampNeg) &&& 63) = 26) = false →
    (decide (((I 0 b3.toNatClampNeg) &&& 63) = 27) = true →
      ax_inb (b3 + 1) n0 = true ∧
      ax_inb (b3 + 2) n0 = true ∧
      ax_CIW d 117 [ax_vr 8 0 3, ax_vi (I 0 (b3 + 1).toNatClampNeg), ax_vi (I 0 (b3 + 2).toNatClampNeg)] I L (fun x165 I163 L164 =>
        ax_inb (b3 + 1) n0 = true ∧
        ax_inb (b3 + 2) n0 = true ∧
        ax_CIW d 225 [ax_vr 9 0 184, ax_vi (I163 0 (b3 + 1).toNatClampNeg), ax_vi (I163 0 (b3 + 2).toNatClampNeg)] I163 L164 (fun x168 I166 L167 =>
          (decide (x165 = x168) = true →
            Z (18, [some (ax_vr 19 n0 0), some (ax_vr 8 0 3), some (ax_vr 9 0 184), some (ax_vi (b3 + 6))], [], ax_mm I166 L167)) ∧
          (decide (x165 = x168) = false →
            ax_bit 0 = true ∧ K 0 I166 L167)))) ∧
    (decide (((I 0 b3.toNatClampNeg) &&& 63) = 27) = false →
    (decide (((I 0 b3.toNatClampNeg) &&& 63) = 28) = true →
      ax_inb (b3 + 1) n0 = true ∧
      ax_CIW d 118 [ax_vr 8 0 3, ax_vi (I 0 (b3 + 1).toNatClampNeg)] I L (fun x171 I169 L170 =>
        ax_inb (b3 + 1) n0 = true ∧
        ax_CIW d 226 [ax_vr 9 0 184, ax_vi (I169 0 (b3 + 1).toNatClampNeg)] I169 L170 (fun x174 I172 L173 =>
          (decide (x171 = x174) = true →
            Z (18, [some (ax_vr 19 n0 0), some (ax_vr 8 0 3), some (ax_vr 9 0 184), some (ax_vi (b3 + 6))], [], ax_mm I172 L173)) ∧
          (decide (x171 = x174) = false →
            ax_bit 0 = true ∧ K 0 I172 L173)))) ∧
    (decide (((I 0 b3.toNatClampNeg) &&& 63) = 28) = false →
    (decide (((I 0 b3.toNatClampNeg) &&& 63) = 29) = true →
      ax_CIW d 119 [ax_vr 8 0 3] I L (fun x177 I175 L176 =>
        ax_CIW d 228 [ax_vr 9 0 184] I175 L176 (fun x180 I178 L179 =>
          (decide (x177 = x180) = true →
            Z (18, [some (ax_vr 19 n0 0), some (ax_vr 8 0 3), some (ax_vr 9 0 184), some (ax_vi (b3 + 6))], [], ax_mm I178 L179)) ∧
          (decide (x177 = x180) = false →
            ax_bit 0 = true ∧ K 0 I178 L179)))) ∧
    (decide (((I 0 b3.toNatClampNeg) &&& 63) = 29) = false →
    (decide (((I 0 b3.toNatClampNeg) &&& 63) = 30) = true →
      ax_inb (b3 + 1) n0 = true ∧
      ax_inb (b3 + 2) n0 = true ∧
      ax_CIW d 120 [ax_vr 8 0 3, ax_vi (I 0 (b3 + 1).toNatClampNeg), ax_vi (I 0 (b3 + 2).toNatClampNeg)] I L (fun x183 I181 L182 =>
        ax_inb (b3 + 1) n0 = true ∧
        ax_inb (b3 + 2) n0 = true ∧
        ax_CIW d 232 [ax_vr 9 0 184, ax_vi (I181 0 (b3 + 1).toNatClampNeg), ax_vi (I181 0 (b3 + 2).toNatClampNeg)] I181 L182 (fun x186 I184 L185 =>
          (decide (x183 = x186) = true →
            Z (18, [some (ax_vr 19 n0 0), some (ax_vr 8 0 3), some (ax_vr 9 0 184), some (ax_vi (b3 + 6))], [], ax_mm I184 L185)) ∧
          (decide (x183 = x186) = false →
            ax_bit 0 = true ∧ K 0 I184 L185)))) ∧
    (decide (((I 0 b3.toNatClampNeg) &&& 63) = 30) = false →
    (decide (((I 0 b3.toNatClampNeg) &&& 63) = 31) = true →
      ax_inb (b3 + 1) n0 = true ∧
      ax_inb (b3 + 2) n0 = true ∧
      ax_CIW d 121 [ax_vr 8 0 3, ax_vi (I 0 (b3 + 1).toNatClampNeg), ax_vi (I 0 (b3 + 2).toNatClampNeg)] I L (fun x189 I187 L188 =>
        ax_inb (b3 + 1) n0 = true ∧
        ax_inb (b3 + 2) n0 = true ∧
        ax_CIW d 233 [ax_vr 9 0 184, ax_vi (I187 0 (b3 + 1).toNatClampNeg), ax_vi (I187 0 (b3 + 2).toNatClampNeg)] I187 L188 (fun x192 I190 L191 =>
          (decide (x189 = x192) = true →
            Z (18, [some (ax_vr 19 n0 0), some (ax_vr 8 0 3), some (ax_vr 9 0 184), some (ax_vi (b3 + 6))], [], ax_mm I190 L191)) ∧
          (decide (x189 = x192) = false →
            ax_bit 0 = true ∧ K 0 I190 L191)))) ∧
    (decide (((I 0 b3.toNatClampNeg) &&& 63) = 31) = false →
    (decide (((I 0 b3.toNatClampNeg) &&& 63) = 32) = true →
      ax_inb (b3 + 1) n0 = true ∧
      ax_CIW d 122 [ax_vr 8 0 3, ax_vi (I 0 (b3 + 1).toNatClampNeg)] I L (fun x195 I193 L194 =>
        ax_inb (b3 + 1) n0 = true ∧
        ax_CIW d 234 [ax_vr 9 0 184, ax_vi (I193 0 (b3 + 1).toNatClampNeg)] I193 L194 (fun x198 I196 L197 =>
          (decide (x195 = x198) = true →
            Z (18, [some (ax_vr 19 n0 0), some (ax_vr 8 0 3), some (ax_vr 9 0 184), some (ax_vi (b3 + 6))], [], ax_mm I196 L197)) ∧
          (decide (x195 = x198) = false →
            ax_bit 0 = true ∧ K 0 I196 L197)))) ∧
    (decide (((I 0 b3.toNatClampNeg) &&& 63) = 32) = false →
    (decide (((I 0 b3.toNatClampNeg) &&& 63) = 33) = true →
      ax_inb (b3 + 1) n0 = true ∧
      ax_inb (b3 + 2) n0 = true ∧
      ax_inb (b3 + 3) n0 = true ∧
      ax_CIW d 123 [ax_vr 8 0 3, ax_vi (I 0 (b3 + 1).toNatClampNeg), ax_vi (I 0 (b3 + 2).toNatClampNeg), ax_vi (I 0 (b3 + 3).toNatClampNeg)] I L (fun x201 I199 L200 =>
        ax_inb (b3 + 1) n0 = true ∧
        ax_inb (b3 + 2) n0 = true ∧
        ax_inb (b3 + 3) n0 = true ∧
        ax_CIW d 236 [ax_vr 9 0 184, ax_vi (I199 0 (b3 + 1).toNatClampNeg), ax_vi (I199 0 (b3 + 2).toNatClampNeg), ax_vi (I199 0 (b3 + 3).toNatClampNeg)] I199 L200 (fun x204 I202 L203 =>
          (decide (x201 = x204) = true →
            Z (18, [some (ax_vr 19 n0 0), some (ax_vr 8 0 3), some (ax_vr 9 0 184), some (ax_vi (b3 + 6))], [], ax_mm I202 L203)) ∧
          (decide (x201 = x204) = false →
            ax_bit 0 = true ∧ K 0 I202 L203)))) ∧
    (decide (((I 0 b3.toNatClampNeg) &&& 63) = 33) = false →
    (decide (((I 0 b3.toNatClampNeg) &&& 63) = 34) = true →
      ax_inb (b3 + 1) n0 = true ∧
      ax_inb (b3 + 2) n0 = true ∧
      ax_CIW d 124 [ax_vr 8 0 3, ax_vi (I 0 (b3 + 1).toNatClampNeg), ax_vi (I 0 (b3 + 2).toNatClampNeg)] I L (fun x207 I205 L206 =>
        ax_inb (b3 + 1) n0 = true ∧
        ax_inb (b3 + 2) n0 = true ∧
        ax_CIW d 237 [ax_vr 9 0 184, ax_vi (I205 0 (b3 + 1).toNatClampNeg), ax_vi (I205 0 (b3 + 2).toNatClampNeg)] I205 L206 (fun x210 I208 L209 =>
          (decide (x207 = x210) = true →
            Z (18, [some (ax_vr 19 n0 0), some (ax_vr 8 0 3), some (ax_vr 9 0 184), some (ax_vi (b3 + 6))], [], ax_mm I208 L209)) ∧
          (decide (x207 = x210) = false →
            ax_bit 0 = true ∧ K 0 I208 L209)))) ∧
    (decide (((I 0 b3.toNatClampNeg) &&& 63) = 34) = false →
    (decide (((I 0 b3.toNatClampNeg) &&& 63) = 35) = true →
      ax_CIW d 125 [ax_vr 8 0 3] I L (fun x213 I211 L212 =>
        ax_CIW d 156 [ax_vr 9 0 184] I211 L212 (fun x216 I214 L215 =>
          (decide (x213 = x216) = true →
            Z (18, [some (ax_vr 19 n0 0), some (ax_vr 8 0 3), some (ax_vr 9 0 184), some (ax_vi (b3 + 6))], [], ax_mm I214 L215)) ∧
          (decide (x213 = x216) = false →
            ax_bit 0 = true ∧ K 0 I214 L215)))) ∧
    (decide (((I 0 b3.toNatClampNeg) &&& 63) = 35) = false →
    (decide (((I 0 b3.toNatClampNeg) &&& 63) = 36) = true →
      ax_CLW d 126 [ax_vr 8 0 3] I L (fun x219 I217 L218 =>
        ax_CLW d 158 [ax_vr 9 0 184] I217 L218 (fun x222 I220 L221 =>
          (decide ((lg_cmp x219 x222) = (0 : Int32)) = true →
            Z (18, [some (ax_vr 19 n0 0), some (ax_vr 8 0 3), some (ax_vr 9 0 184), some (ax_vi (b3 + 6))], [], ax_mm I220 L221)) ∧
          (decide ((lg_cmp x219 x222) = (0 : Int32)) = false →
            ax_bit 0 = true ∧ K 0 I220 L221)))) ∧
    (decide (((I 0 b3.toNatClampNeg) &&& 63) = 36) = false →
    (decide (((I 0 b3.toNatClampNeg) &&& 63) = 37) = true →
      ax_CLW d 127 [ax_vr 8 0 3] I L (fun x225 I223 L224 =>
        ax_CLW d 159 [ax_vr 9 0 184] I223 L224 (fun x228 I226 L227 =>
          (decide ((lg_cmp x225 x228) = (0 : Int32)) = true →
            Z (18, [some (ax_vr 19 n0 0), some (ax_vr 8 0 3), some (ax_vr 9 0 184), some (ax_vi (b3 + 6))], [], ax_mm I226 L227)) ∧
          (decide ((lg_cmp x225 x228) = (0 : Int32)) = false →
            ax_bit 0 = true ∧ K 0 I226 L227)))) ∧
    (decide (((I 0 b3.toNatClampNeg) &&& 63) = 37) = false →
    (decide (((I 0 b3.toNatClampNeg) &&& 63) = 38) = true →
      ax_inb (b3 + 1) n0 = true ∧
      ax_CIW d 128 [ax_vr 8 0 3, ax_vi (I 0 (b3 + 1).toNatClampNeg)] I L (fun x231 I229 L230 =>
        ax_inb (b3 + 1) n0 = true ∧
        ax_CIW d 239 [ax_vr 9 0 184, ax_vi (I229 0 (b3 + 1).toNatClampNeg)] I229 L230 (fun x234 I232 L233 =>
          (decide (x231 = x234) = true →
            Z (18, [some (ax_vr 19 n0 0), some (ax_vr 8 0 3), some (ax_vr 9 0 184), some (ax_vi (b3 + 6))], [], ax_mm I232 L233)) ∧
          (decide (x231 = x234) = false →
            ax_bit 0 = true ∧ K 0 I232 L233)))) ∧
    (decide (((I 0 b3.toNatClampNeg) &&& 63) = 38) = false →
    (decide (((I 0 b3.toNatClampNeg) &&& 63) = 39) = true →
      ax_CIW d 129 [ax_vr 8 0 3] I L (fun x237 I235 L236 =>
        ax_CIW d 153 [ax_vr 9 0 184] I235 L236 (fun x240 I238 L239 =>
          (decide (x237 = x240) = true →
            Z (18, [some (ax_vr 19 n0 0), some (ax_vr 8 0 3), some (ax_vr 9 0 184), some (ax_vi (b3 + 6))], [], ax_mm I238 L239)) ∧
          (decide (x237 = x240) = false →
            ax_bit 0 = true ∧ K 0 I238 L239)))) ∧
    (decide (((I 0 b3.toNatClampNeg) &&& 63) = 39) = false →
    (decide (((I 0 b3.toNatClampNeg) &&& 63) = 40) = true →
      ax_inb (b3 + 1) n0 = true ∧
      ax_CIW d 130 [ax_vr 8 0 3, ax_vi (I 0 (b3 + 1).toNatClampNeg)] I L (fun x243 I241 L242 =>
        ax_inb (b3 + 1) n0 = true ∧
        ax_CIW d 154 [ax_vr 9 0 184, ax_vi (I241 0 (b3 + 1).toNatClampNeg)] I241 L242 (fun x246 I244 L245 =>
          (decide (x243 = x246) = true →
            Z (18, [some (ax_vr 19 n0 0), some (ax_vr 8 0 3), some (ax_vr 9 0 184), some (ax_vi (b3 + 6))], [], ax_mm I244 L245)) ∧
          (decide (x243 = x246) = false →
            ax_bit 0 = true ∧ K 0 I244 L245)))) ∧
    (decide (((I 0 b3.toNatClampNeg) &&& 63) = 40) = false →
    (decide (((I 0 b3.toNatClampNeg) &&& 63) = 41) = true →
      ax_CLW d 131 [ax_vr 8 0 3] I L (fun x249 I247 L248 =>
        ax_CLW d 242 [ax_vr 9 0 184] I247 L248 (fun x252 I250 L251 =>
          (decide ((lg_cmp x249 x252) = (0 : Int32)) = true →
            Z (18, [some (ax_vr 19 n0 0), some (ax_vr 8 0 3), some (ax_vr 9 0 184), some (ax_vi (b3 + 6))], [], ax_mm I250 L251)) ∧
          (decide ((lg_cmp x249 x252) = (0 : Int32)) = false →
            ax_bit 0 = true ∧ K 0 I250 L251)))) ∧
    (decide (((I 0 b3.toNatClampNeg) &&& 63) = 41) = false →
      Z (18, [some (ax_vr 19 n0 0), some (ax_vr 8 0 3), some (ax_vr 9 0 184), some (ax_vi (b3 + 6))], [], ax_mm I L))))))))))))))))))))))))))))))))))))))))))))) : ax_vs (ax_CaW d) ax_c247 3 (ax_vc (ax_CaW d) ax_c247 3 (fun pc => Nat.beq pc 18) Z (ax_ki K) 71) (ax_ki K) (18, [some (ax_vr 19 n0 0), some (ax_vr 8 0 3), some (ax_vr 9 0 184), some (ax_vi b3)], [], ax_mm I L) := h
