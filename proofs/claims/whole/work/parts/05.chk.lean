def ax_st (y : Nat) : Nat := match y with
  | 0 => 2
  | 1 => 0
  | 2 => 0
  | 3 => 2
  | 4 => 0
  | 5 => 0
  | 6 => 0
  | 7 => 0
  | 8 => 0
  | 9 => 0
  | 10 => 0
  | 11 => 0
  | 12 => 0
  | 13 => 0
  | 14 => 0
  | 15 => 0
  | 16 => 0
  | 17 => 0
  | 18 => 0
  | 19 => 0
  | 20 => 0
  | 21 => 1
  | 22 => 0
  | 23 => 0
  | 24 => 0
  | 25 => 0
  | 26 => 2
  | 27 => 0
  | 28 => 0
  | 29 => 0
  | 30 => 0
  | 31 => 1
  | 32 => 0
  | 33 => 1
  | 34 => 1
  | 35 => 0
  | 36 => 0
  | 37 => 0
  | 38 => 0
  | 39 => 0
  | 40 => 0
  | 41 => 0
  | 42 => 0
  | 43 => 0
  | 44 => 2
  | 45 => 0
  | 46 => 0
  | 47 => 0
  | 48 => 0
  | 49 => 2
  | 50 => 0
  | 51 => 0
  | 52 => 0
  | 53 => 0
  | 54 => 0
  | 55 => 0
  | 56 => 0
  | 57 => 2
  | 58 => 0
  | 59 => 0
  | 60 => 0
  | 61 => 0
  | 62 => 0
  | 63 => 0
  | 64 => 2
  | 65 => 0
  | 66 => 0
  | 67 => 0
  | 68 => 0
  | 69 => 0
  | 70 => 0
  | 71 => 0
  | 72 => 1
  | 73 => 0
  | 74 => 0
  | 75 => 0
  | 76 => 9
  | 77 => 2
  | 78 => 0
  | 79 => 0
  | 80 => 0
  | 81 => 0
  | 82 => 0
  | 83 => 0
  | 84 => 0
  | 85 => 0
  | 86 => 0
  | 87 => 0
  | 88 => 0
  | 89 => 2
  | 90 => 0
  | 91 => 0
  | 92 => 0
  | 93 => 0
  | 94 => 0
  | 95 => 0
  | 96 => 0
  | 97 => 0
  | 98 => 0
  | 99 => 0
  | 100 => 0
  | 101 => 0
  | 102 => 0
  | 103 => 0
  | 104 => 0
  | 105 => 0
  | 106 => 0
  | 107 => 0
  | 108 => 0
  | 109 => 0
  | 110 => 0
  | 111 => 0
  | 112 => 0
  | 113 => 0
  | 114 => 0
  | 115 => 0
  | 116 => 0
  | 117 => 0
  | 118 => 0
  | 119 => 0
  | 120 => 0
  | 121 => 0
  | 122 => 0
  | 123 => 0
  | 124 => 0
  | 125 => 0
  | 126 => 0
  | 127 => 0
  | 128 => 0
  | 129 => 0
  | 130 => 0
  | 131 => 0
  | 132 => 1
  | 133 => 1
  | 134 => 1
  | 135 => 0
  | 136 => 0
  | 137 => 0
  | 138 => 0
  | 139 => 0
  | 140 => 0
  | 141 => 0
  | 142 => 1
  | 143 => 0
  | 144 => 1
  | 145 => 1
  | 146 => 0
  | 147 => 1
  | 148 => 2
  | 149 => 1
  | 150 => 1
  | 151 => 1
  | 152 => 0
  | 153 => 0
  | 154 => 0
  | 155 => 0
  | 156 => 0
  | 157 => 0
  | 158 => 0
  | 159 => 0
  | 160 => 1
  | 161 => 0
  | 162 => 0
  | 163 => 0
  | 164 => 0
  | 165 => 0
  | 166 => 0
  | 167 => 0
  | 168 => 1
  | 169 => 0
  | 170 => 0
  | 171 => 0
  | 172 => 0
  | 173 => 1
  | 174 => 0
  | 175 => 0
  | 176 => 0
  | 177 => 0
  | 178 => 0
  | 179 => 0
  | 180 => 0
  | 181 => 0
  | 182 => 0
  | 183 => 0
  | 184 => 0
  | 185 => 0
  | 186 => 0
  | 187 => 0
  | 188 => 0
  | 189 => 0
  | 190 => 0
  | 191 => 0
  | 192 => 0
  | 193 => 0
  | 194 => 0
  | 195 => 0
  | 196 => 0
  | 197 => 0
  | 198 => 0
  | 199 => 0
  | 200 => 0
  | 201 => 0
  | 202 => 0
  | 203 => 0
  | 204 => 0
  | 205 => 0
  | 206 => 0
  | 207 => 0
  | 208 => 0
  | 209 => 0
  | 210 => 0
  | 211 => 0
  | 212 => 0
  | 213 => 0
  | 214 => 0
  | 215 => 0
  | 216 => 0
  | 217 => 0
  | 218 => 0
  | 219 => 0
  | 220 => 0
  | 221 => 0
  | 222 => 0
  | 223 => 0
  | 224 => 0
  | 225 => 0
  | 226 => 0
  | 227 => 0
  | 228 => 0
  | 229 => 0
  | 230 => 0
  | 231 => 0
  | 232 => 0
  | 233 => 0
  | 234 => 0
  | 235 => 0
  | 236 => 0
  | 237 => 0
  | 238 => 0
  | 239 => 0
  | 240 => 0
  | 241 => 0
  | 242 => 0
  | 243 => 1
  | 244 => 1
  | 245 => 1
  | 246 => 1
  | 247 => 1
  | _ => 9
/-- a resolved instruction and the real one at its place -/
def ax_lnk (y pc : Nat) (i : Instr) (len : Nat) (ai : Instr) : Bool := match ai with
  | .iconst v => (match i with
    | .iconst n => Nat.beq len 1 && decide (Int32.ofInt n = ax_ic v)
    | .bipush n => Nat.beq len 2 && decide ((Int8.ofInt n).toInt32 = ax_ic v)
    | .sipush n => Nat.beq len 3 && decide ((Int16.ofInt n).toInt32 = ax_ic v)
    | .ldc_w idx => Nat.beq len 3 && decide ((ax_oy y, idx, v) ∈ ax_KI) && decide (Int32.ofInt v = ax_ic v)
    | _ => false)
  | .jsr_w v => (match i with
    | .lconst n => Nat.beq len 1 && decide (Int64.ofNat n.val = ax_jc v)
    | .ldc2_w idx => Nat.beq len 3 && decide ((ax_oy y, idx, v) ∈ ax_KJ) && decide (Int64.ofInt v = ax_jc v)
    | _ => false)
  | .iload k => (match i with
    | .iload j => Nat.beq len 2 && Nat.beq j k
    | .iload_n j => Nat.beq len 1 && Nat.beq j.val k
    | _ => false)
  | .lload k => (match i with
    | .lload j => Nat.beq len 2 && Nat.beq j k
    | .lload_n j => Nat.beq len 1 && Nat.beq j.val k
    | _ => false)
  | .aload k => (match i with
    | .aload j => Nat.beq len 2 && Nat.beq j k
    | .aload_n j => Nat.beq len 1 && Nat.beq j.val k
    | _ => false)
  | .istore k => (match i with
    | .istore j => Nat.beq len 2 && Nat.beq j k && Nat.blt k (ax_ml y)
    | .istore_n j => Nat.beq len 1 && Nat.beq j.val k && Nat.blt k (ax_ml y)
    | _ => false)
  | .lstore k => (match i with
    | .lstore j => Nat.beq len 2 && Nat.beq j k && Nat.blt (k + 1) (ax_ml y)
    | .lstore_n j => Nat.beq len 1 && Nat.beq j.val k && Nat.blt (k + 1) (ax_ml y)
    | _ => false)
  | .astore k => (match i with
    | .astore j => Nat.beq len 2 && Nat.beq j k && Nat.blt k (ax_ml y)
    | .astore_n j => Nat.beq len 1 && Nat.beq j.val k && Nat.blt k (ax_ml y)
    | _ => false)
  | .iinc k n => (match i with | .iinc j b => Nat.beq len 3 && Nat.beq j k && decide (b = n) && decide (Int32.ofInt n = ax_ic n) | _ => false)
  | .goto t => (match i with | .goto off => Nat.beq len 3 && decide ((pc : Int) + off = ((t.toNat : Nat) : Int)) | _ => false)
  | .if_icmp c t => (match i with | .if_icmp d off => Nat.beq len 3 && decide (c = d) && decide ((pc : Int) + off = ((t.toNat : Nat) : Int)) | _ => false)
  | .ifCond c t => (match i with | .ifCond d off => Nat.beq len 3 && decide (c = d) && decide ((pc : Int) + off = ((t.toNat : Nat) : Int)) | _ => false)
  | .tableswitch d lo hi offs => (match i with | .tableswitch e l h os => decide (l = lo) && decide (h = hi) && decide ((pc : Int) + e = ((d.toNat : Nat) : Int)) && decide (os.toList.map (fun o => (pc : Int) + o) = offs.toList.map (fun t => ((t.toNat : Nat) : Int))) && decide ((os.size : Int) = hi - lo + 1) && decide (0 ≤ lo) && decide (hi < 1000) | _ => false)
  | .getfield q => (match i with | .getfield idx => Nat.beq len 3 && decide ((ax_oy y, idx, q) ∈ ax_FL) | _ => false)
  | .putfield q => (match i with | .putfield idx => Nat.beq len 3 && decide ((ax_oy y, idx, q) ∈ ax_FL) && (!(ax_T (q / 100) (q % 100)).2.2.2 || (decide ((ax_nm y).name = "<init>") && decide ((ax_T (q / 100) (q % 100)).1 = (ax_nm y).cls))) | _ => false)
  | .getstatic n => (match i with | .getstatic idx => Nat.beq len 3 && (match n with | 1 => decide ((ax_oy y, idx) = (7, 47)) | 2 => decide ((ax_oy y, idx) = (6, 93)) | _ => false) | _ => false)
  | .new c => (match i with | .new idx => Nat.beq len 3 && decide ((ax_oy y, idx, c) ∈ ax_CK) && Nat.ble c 9 | _ => false)
  | .newarray a => (match i with | .newarray b => Nat.beq len 2 && decide (a = b) | _ => false)
  | .anewarray t => (match i with | .anewarray idx => Nat.beq len 3 && decide ((ax_oy y, idx, (match t with | 13 => 4 | 14 => 4 | 15 => 1 | _ => 99)) ∈ ax_CK) | _ => false)
  | .multianewarray _ k => (match i with | .multianewarray idx j => Nat.beq len 4 && Nat.beq j 2 && Nat.beq k 2 && decide ((ax_oy y, idx, 16) ∈ ax_CK) | _ => false)
  | .monitorenter => (match i with | .invokestatic idx => Nat.beq len 3 && decide ((ax_oy y, idx, 900) ∈ ax_ML) | _ => false)
  | .swap => (match i with | .invokestatic idx => Nat.beq len 3 && decide ((ax_oy y, idx, 244) ∈ ax_ML) | _ => false)
  | .nop => (match i with | .invokestatic idx => Nat.beq len 3 && decide ((ax_oy y, idx, 245) ∈ ax_ML) | _ => false)
  | .monitorexit => (match i with | .invokespecial idx => Nat.beq len 3 && decide ((ax_oy y, idx, 901) ∈ ax_ML) | _ => false)
  | .invokevirtual q => (match i with | .invokevirtual idx => Nat.beq len 3 && decide ((ax_oy y, idx, q / 10000) ∈ ax_ML) && Nat.blt (q / 10000) 247 && Nat.beq (q / 10 % 10) (ax_rk (q / 10000)) && Nat.beq (q % 10) (ax_na (q / 10000)) && Nat.beq (q / 100 % 100) (ax_oy (q / 10000)) && Nat.ble (q / 100 % 100) 9 && Nat.beq (ax_st (q / 10000)) 0 | _ => false)
  | .invokestatic q => (match i with | .invokestatic idx => Nat.beq len 3 && decide ((ax_oy y, idx, q / 10000) ∈ ax_ML) && Nat.blt (q / 10000) 247 && Nat.beq (q / 10 % 10) (ax_rk (q / 10000)) && Nat.beq (q % 10) (ax_na (q / 10000)) && Nat.beq (ax_st (q / 10000)) 1 | _ => false)
  | .invokespecial q => (match i with | .invokespecial idx => Nat.beq len 3 && (decide ((ax_oy y, idx, q / 10000) ∈ ax_ML) || decide ((ax_oy y, idx, q / 10000) ∈ ax_NL)) && Nat.blt (q / 10000) 247 && Nat.beq (q / 10 % 10) 0 && Nat.beq (q % 10) (ax_na (q / 10000)) && Nat.beq (ax_st (q / 10000)) 2 | _ => false)
  | .iadd => Nat.beq len 1 && decide (i = .iadd)
  | .isub => Nat.beq len 1 && decide (i = .isub)
  | .imul => Nat.beq len 1 && decide (i = .imul)
  | .iand => Nat.beq len 1 && decide (i = .iand)
  | .ior => Nat.beq len 1 && decide (i = .ior)
  | .ixor => Nat.beq len 1 && decide (i = .ixor)
  | .ishl => Nat.beq len 1 && decide (i = .ishl)
  | .ishr => Nat.beq len 1 && decide (i = .ishr)
  | .iushr => Nat.beq len 1 && decide (i = .iushr)
  | .idiv => Nat.beq len 1 && decide (i = .idiv)
  | .irem => Nat.beq len 1 && decide (i = .irem)
  | .ladd => Nat.beq len 1 && decide (i = .ladd)
  | .lmul => Nat.beq len 1 && decide (i = .lmul)
  | .land => Nat.beq len 1 && decide (i = .land)
  | .lor => Nat.beq len 1 && decide (i = .lor)
  | .ldiv => Nat.beq len 1 && decide (i = .ldiv)
  | .lrem => Nat.beq len 1 && decide (i = .lrem)
  | .lshl => Nat.beq len 1 && decide (i = .lshl)
  | .lushr => Nat.beq len 1 && decide (i = .lushr)
  | .lcmp => Nat.beq len 1 && decide (i = .lcmp)
  | .i2l => Nat.beq len 1 && decide (i = .i2l)
  | .l2i => Nat.beq len 1 && decide (i = .l2i)
  | .i2b => Nat.beq len 1 && decide (i = .i2b)
  | .dup => Nat.beq len 1 && decide (i = .dup)
  | .pop => Nat.beq len 1 && decide (i = .pop)
  | .dup2 => Nat.beq len 1 && decide (i = .dup2)
  | .iaload => Nat.beq len 1 && decide (i = .iaload)
  | .baload => Nat.beq len 1 && decide (i = .baload)
  | .caload => Nat.beq len 1 && decide (i = .caload)
  | .aaload => Nat.beq len 1 && decide (i = .aaload)
  | .iastore => Nat.beq len 1 && decide (i = .iastore)
  | .bastore => Nat.beq len 1 && decide (i = .bastore)
  | .aastore => Nat.beq len 1 && decide (i = .aastore)
  | .arraylength => Nat.beq len 1 && decide (i = .arraylength)
  | .ireturn => Nat.beq len 1 && decide (i = .ireturn)
  | .lreturn => Nat.beq len 1 && decide (i = .lreturn)
  | .return_ => Nat.beq len 1 && decide (i = .return_)
  | _ => false
def ax_ck1 (y pc : Nat) : Bool := match ax_code y pc with
  | none => true
  | some (ai, nx, _) => match decode (ax_by y) pc with
    | .ok (i, len) => Nat.beq (pc + len) nx && ax_lnk y pc i len ai
    | _ => false
