/-! THE TYPED MACHINE: values carry what they point to; memory is two functions of (cell, place), and which references are set -/
abbrev ax_V : Type := Int32 ⊕ Int64 ⊕ (Nat × Nat × Nat)
abbrev ax_M : Type := Nat × (Nat → Nat → Int32) × (Nat → Nat → Int64) × (Nat → Nat → Bool)
abbrev ax_L : Type := List (Option ax_V)
abbrev ax_S : Type := Nat × ax_L × List ax_V × ax_M
abbrev ax_E : Type := ax_S ⊕ (Bool × ax_S) ⊕ (List (Bool × ax_S) × ax_S) ⊕ (Nat × List ax_V × ax_S) ⊕ (Option ax_V × ax_M) ⊕ (Bool × Option ax_V × ax_M) ⊕ Unit
abbrev ax_go (s : ax_S) : ax_E := .inl s
abbrev ax_gd (g : Bool) (s : ax_S) : ax_E := .inr (.inl (g, s))
abbrev ax_sw (cs : List (Bool × ax_S)) (d : ax_S) : ax_E := .inr (.inr (.inl (cs, d)))
abbrev ax_cl (q : Nat) (as : List ax_V) (s : ax_S) : ax_E := .inr (.inr (.inr (.inl (q, as, s))))
abbrev ax_rt (v : Option ax_V) (m : ax_M) : ax_E := .inr (.inr (.inr (.inr (.inl (v, m)))))
abbrev ax_rg (g : Bool) (v : Option ax_V) (m : ax_M) : ax_E := .inr (.inr (.inr (.inr (.inr (.inl (g, v, m))))))
abbrev ax_no : ax_E := .inr (.inr (.inr (.inr (.inr (.inr ())))))
abbrev ax_vi (x : Int32) : ax_V := .inl x
abbrev ax_vl (x : Int64) : ax_V := .inr (.inl x)
abbrev ax_vr (t n o : Nat) : ax_V := .inr (.inr (t, n, o))
/-- an int, a long laid into memory; a reference set -/
def ax_wi (m : ax_M) (o k : Nat) (x : Int32) : ax_M := (m.1, (fun a b => if a = o ∧ b = k then x else m.2.1 a b), m.2.2)
def ax_wl (m : ax_M) (o k : Nat) (x : Int64) : ax_M := (m.1, m.2.1, (fun a b => if a = o ∧ b = k then x else m.2.2.1 a b), m.2.2.2)
def ax_wr (m : ax_M) (o k : Nat) : ax_M := (m.1, m.2.1, m.2.2.1, fun a b => m.2.2.2 a b || (Nat.beq a o && Nat.beq b k))
/-- constants -/
def ax_ic (n : Int) : Int32 := match n with
  | .ofNat k => Int32.ofNat k
  | .negSucc k => -(Int32.ofNat (k + 1))
def ax_jc (n : Int) : Int64 := match n with
  | .ofNat k => Int64.ofNat k
  | .negSucc k => -(Int64.ofNat (k + 1))
def ax_wc (m : ax_M) (o0 o1 sp dp n : Nat) : ax_M := (m.1, (fun a b => if a = o1 then va_cpy (m.2.1 o0) (m.2.1 o1) sp dp n b else m.2.1 a b), m.2.2)
/-- locals: a value of one place, of two -/
def ax_k1 (ls : ax_L) (i : Nat) : ax_L := match i with
  | 0 => ls
  | j + 1 => match ls[j]? with
    | some (some (.inr (.inl _))) => ls.set j none
    | _ => ls
def ax_s1 (ls : ax_L) (i : Nat) (v : ax_V) : ax_L := (ax_k1 ls i).set i (some v)
def ax_s2 (ls : ax_L) (i : Nat) (v : ax_V) : ax_L := ((ax_k1 ls i).set i (some v)).set (i + 1) none
def ax_mk : Nat → ax_L → ax_L
  | _, [] => []
  | k, v :: r => (bif Nat.beq (k % 2) 1 then none else v) :: ax_mk (k / 2) r
def ax_inb (j : Int32) (n : Nat) : Bool := decide (0 ≤ j) && Nat.blt j.toNatClampNeg n
def ax_wd : List ax_V → Nat
  | [] => 0
  | .inr (.inl _) :: r => ax_wd r + 2
  | _ :: r => ax_wd r + 1
def ax_cmp (c : ClassFile.Cond) (x y : Int32) : Bool := match c with
  | .eq => decide (x = y)
  | .ne => !decide (x = y)
  | .lt => decide (x < y)
  | .ge => decide (y ≤ x)
  | .gt => decide (y < x)
  | .le => decide (x ≤ y)
def ax_tab (x : Int32) (lo : Int) (ls : ax_L) (r : List ax_V) (m : ax_M) : List Int → List (Bool × ax_S)
  | [] => []
  | t :: ts => (decide (x = ax_ic lo), (t.toNat, ls, r, m)) :: ax_tab x (lo + 1) ls r m ts
def ax_ld (ls : ax_L) (k : Nat) : Option ax_V := match ls[k]? with
  | some (some v) => some v
  | _ => none
def ax_bit (x : Int32) : Bool := decide (x = 0) || decide (x = 1)
/-- the receiver is of the class -/
def ax_rcv (c : Nat) (as : List ax_V) : Bool := match as with
  | .inr (.inr (t, _, _)) :: _ => Nat.beq t c
  | _ => false
/-- one instruction; references in the code are resolved: getfield 100 c + k; calls 10000 y + 100 c + 10 r + n; jumps to absolute places; jsr_w a long constant; monitorenter arraycopy; monitorexit Object's constructor; swap, nop Math.max, min -/
def ax_eff (rk : Nat) (i : Instr) (nx : Nat) (ls : ax_L) (st : List ax_V) (m : ax_M) : ax_E :=
  match i with
  | .iconst n => ax_go (nx, ls, ax_vi (ax_ic n) :: st, m)
  | .jsr_w n => ax_go (nx, ls, ax_vl (ax_jc n) :: st, m)
  | .iload k => match ax_ld ls k with | some (.inl x) => ax_go (nx, ls, ax_vi x :: st, m) | _ => ax_no
  | .lload k => match ax_ld ls k with | some (.inr (.inl x)) => ax_go (nx, ls, ax_vl x :: st, m) | _ => ax_no
  | .aload k => match ax_ld ls k with | some (.inr (.inr q)) => ax_go (nx, ls, .inr (.inr q) :: st, m) | _ => ax_no
  | .istore k => match st with | .inl x :: r => ax_go (nx, ax_s1 ls k (ax_vi x), r, m) | _ => ax_no
  | .lstore k => match st with | .inr (.inl x) :: r => ax_go (nx, ax_s2 ls k (ax_vl x), r, m) | _ => ax_no
  | .astore k => match st with | .inr (.inr q) :: r => ax_go (nx, ax_s1 ls k (.inr (.inr q)), r, m) | _ => ax_no
  | .iinc k n => match ax_ld ls k with | some (.inl x) => ax_go (nx, ax_s1 ls k (ax_vi (x + ax_ic n)), st, m) | _ => ax_no
  | .iadd => match st with | .inl y :: .inl x :: r => ax_go (nx, ls, ax_vi (x + y) :: r, m) | _ => ax_no
  | .isub => match st with | .inl y :: .inl x :: r => ax_go (nx, ls, ax_vi (x - y) :: r, m) | _ => ax_no
  | .imul => match st with | .inl y :: .inl x :: r => ax_go (nx, ls, ax_vi (x * y) :: r, m) | _ => ax_no
  | .iand => match st with | .inl y :: .inl x :: r => ax_go (nx, ls, ax_vi (x &&& y) :: r, m) | _ => ax_no
  | .ior => match st with | .inl y :: .inl x :: r => ax_go (nx, ls, ax_vi (x ||| y) :: r, m) | _ => ax_no
  | .ixor => match st with | .inl y :: .inl x :: r => ax_go (nx, ls, ax_vi (x ^^^ y) :: r, m) | _ => ax_no
  | .ishl => match st with | .inl y :: .inl x :: r => ax_go (nx, ls, ax_vi (x <<< (y &&& 31)) :: r, m) | _ => ax_no
  | .ishr => match st with | .inl y :: .inl x :: r => ax_go (nx, ls, ax_vi (x >>> (y &&& 31)) :: r, m) | _ => ax_no
  | .iushr => match st with | .inl y :: .inl x :: r => ax_go (nx, ls, ax_vi (x.toUInt32 >>> (y.toUInt32 &&& Int32.toUInt32 31)).toInt32 :: r, m) | _ => ax_no
  | .idiv => match st with | .inl y :: .inl x :: r => ax_gd (!decide (y = 0)) (nx, ls, ax_vi (x / y) :: r, m) | _ => ax_no
  | .irem => match st with | .inl y :: .inl x :: r => ax_gd (!decide (y = 0)) (nx, ls, ax_vi (x - x / y * y) :: r, m) | _ => ax_no
  | .ladd => match st with | .inr (.inl y) :: .inr (.inl x) :: r => ax_go (nx, ls, ax_vl (x + y) :: r, m) | _ => ax_no
  | .lmul => match st with | .inr (.inl y) :: .inr (.inl x) :: r => ax_go (nx, ls, ax_vl (x * y) :: r, m) | _ => ax_no
  | .land => match st with | .inr (.inl y) :: .inr (.inl x) :: r => ax_go (nx, ls, ax_vl (x &&& y) :: r, m) | _ => ax_no
  | .lor => match st with | .inr (.inl y) :: .inr (.inl x) :: r => ax_go (nx, ls, ax_vl (x ||| y) :: r, m) | _ => ax_no
  | .ldiv => match st with | .inr (.inl y) :: .inr (.inl x) :: r => ax_gd (!decide (y = 0)) (nx, ls, ax_vl (x / y) :: r, m) | _ => ax_no
  | .lrem => match st with | .inr (.inl y) :: .inr (.inl x) :: r => ax_gd (!decide (y = 0)) (nx, ls, ax_vl (x - x / y * y) :: r, m) | _ => ax_no
  | .lshl => match st with | .inl y :: .inr (.inl x) :: r => ax_go (nx, ls, ax_vl (x <<< (y.toInt64 &&& 63)) :: r, m) | _ => ax_no
  | .lushr => match st with | .inl y :: .inr (.inl x) :: r => ax_go (nx, ls, ax_vl (x.toUInt64 >>> (y.toInt64.toUInt64 &&& Int64.toUInt64 63)).toInt64 :: r, m) | _ => ax_no
  | .lcmp => match st with | .inr (.inl y) :: .inr (.inl x) :: r => ax_go (nx, ls, ax_vi (lg_cmp x y) :: r, m) | _ => ax_no
  | .i2l => match st with | .inl x :: r => ax_go (nx, ls, ax_vl x.toInt64 :: r, m) | _ => ax_no
  | .l2i => match st with | .inr (.inl x) :: r => ax_go (nx, ls, ax_vi x.toInt32 :: r, m) | _ => ax_no
  | .i2b => match st with | .inl x :: r => ax_go (nx, ls, ax_vi x.toInt8.toInt32 :: r, m) | _ => ax_no
  | .dup => match st with
    | .inl x :: r => ax_go (nx, ls, ax_vi x :: ax_vi x :: r, m)
    | .inr (.inr q) :: r => ax_go (nx, ls, .inr (.inr q) :: .inr (.inr q) :: r, m)
    | _ => ax_no
  | .pop => match st with | .inl _ :: r => ax_go (nx, ls, r, m) | _ => ax_no
  | .swap => match st with | .inl y :: .inl x :: r => (bif Nat.ble (ax_wd r) 8 then ax_go (nx, ls, ax_vi (if x < y then y else x) :: r, m) else ax_no) | _ => ax_no
  | .nop => match st with | .inl y :: .inl x :: r => (bif Nat.ble (ax_wd r) 8 then ax_go (nx, ls, ax_vi (if y < x then y else x) :: r, m) else ax_no) | _ => ax_no
  | .dup2 => match st with | .inl x :: .inr (.inr q) :: r => ax_go (nx, ls, ax_vi x :: .inr (.inr q) :: ax_vi x :: .inr (.inr q) :: r, m) | _ => ax_no
  | .goto t => ax_go (t.toNat, ls, st, m)
  | .if_icmp c t => match st with | .inl y :: .inl x :: r => ax_sw [(ax_cmp c x y, (t.toNat, ls, r, m))] (nx, ls, r, m) | _ => ax_no
  | .ifCond c t => match st with | .inl x :: r => ax_sw [(ax_cmp c x 0, (t.toNat, ls, r, m))] (nx, ls, r, m) | _ => ax_no
  | .tableswitch d lo _ offs => match st with | .inl x :: r => ax_sw (ax_tab x lo ls r m offs.toList) (d.toNat, ls, r, m) | _ => ax_no
  | .getfield q => match st with
    | .inr (.inr (t, n, o)) :: r => bif Nat.beq t (q / 100) then (match ax_kd t (q % 100) with
        | 0 => ax_go (nx, ls, ax_vi (m.2.1 o (q % 100)) :: r, m)
        | 1 => ax_go (nx, ls, ax_vl (m.2.2.1 o (q % 100)) :: r, m)
        | 2 => bif m.2.2.2 o (q % 100) then ax_go (nx, ls, .inr (.inr (ax_lay t n o (q % 100))) :: r, m) else ax_no
        | 3 => ax_go (nx, ls, ax_vi (m.2.1 o (q % 100)) :: r, m)
        | _ => bif m.2.2.2 o (q % 100) then ax_go (nx, ls, ax_vr 10 (ax_shp (m.2.1 o (q % 100)).toNatClampNeg).2 (m.2.1 o (q % 100)).toNatClampNeg :: r, m) else ax_no) else ax_no
    | _ => ax_no
  | .putfield q => match st with
    | .inl x :: .inr (.inr (t, _, o)) :: r => bif Nat.beq t (q / 100) then (match ax_kd t (q % 100) with
        | 0 => ax_go (nx, ls, r, ax_wi m o (q % 100) x)
        | 3 => ax_gd (ax_bit x) (nx, ls, r, ax_wi m o (q % 100) x)
        | _ => ax_no) else ax_no
    | .inr (.inl x) :: .inr (.inr (t, _, o)) :: r => bif Nat.beq t (q / 100) then (match ax_kd t (q % 100) with
        | 1 => ax_go (nx, ls, r, ax_wl m o (q % 100) x)
        | _ => ax_no) else ax_no
    | .inr (.inr (t', n', o')) :: .inr (.inr (t, n, o)) :: r => bif Nat.beq t (q / 100) then (match ax_kd t (q % 100) with
        | 2 => bif decide ((t', n', o') = ax_lay t n o (q % 100)) then ax_go (nx, ls, r, ax_wr m o (q % 100)) else ax_no
        | 4 => bif Nat.beq t' 10 then ax_gd (Nat.ble o' 1000) (nx, ls, r, ax_wr (ax_wi m o (q % 100) (nI o')) o (q % 100)) else ax_no
        | _ => ax_no) else ax_no
    | _ => ax_no
  | .getstatic n => match n with
    | 1 => ax_go (nx, ls, ax_vr 20 6 1 :: st, m)
    | 2 => ax_go (nx, ls, ax_vr 18 6 2 :: st, m)
    | _ => ax_no
  | .iaload => match st with | .inl j :: .inr (.inr (t, n, o)) :: r => (bif Nat.beq t 10 || Nat.beq t 19 || Nat.beq t 20 then ax_gd (ax_inb j n) (nx, ls, ax_vi (m.2.1 o j.toNatClampNeg) :: r, m) else ax_no) | _ => ax_no
  | .baload => match st with | .inl j :: .inr (.inr (t, n, o)) :: r => (bif Nat.beq t 11 || Nat.beq t 12 then ax_gd (ax_inb j n) (nx, ls, ax_vi (m.2.1 o j.toNatClampNeg) :: r, m) else ax_no) | _ => ax_no
  | .caload => match st with | .inl j :: .inr (.inr (t, n, o)) :: r => (bif Nat.beq t 18 then ax_gd (ax_inb j n) (nx, ls, ax_vi (m.2.1 o j.toNatClampNeg) :: r, m) else ax_no) | _ => ax_no
  | .aaload => match st with | .inl j :: .inr (.inr (t, n, o)) :: r => (bif Nat.ble 13 t && Nat.ble t 17 && m.2.2.2 o j.toNatClampNeg then ax_gd (ax_inb j n) (nx, ls, .inr (.inr (ax_ely t n o j.toNatClampNeg)) :: r, m) else ax_no) | _ => ax_no
  | .iastore => match st with | .inl x :: .inl j :: .inr (.inr (t, n, o)) :: r => (bif Nat.beq t 10 then ax_gd (ax_inb j n) (nx, ls, r, ax_wi m o j.toNatClampNeg x) else ax_no) | _ => ax_no
  | .bastore => match st with
    | .inl x :: .inl j :: .inr (.inr (t, n, o)) :: r => (bif Nat.beq t 12 then ax_gd (ax_inb j n) (nx, ls, r, ax_wi m o j.toNatClampNeg x.toInt8.toInt32)
        else bif Nat.beq t 11 then ax_gd (ax_inb j n && ax_bit x) (nx, ls, r, ax_wi m o j.toNatClampNeg x) else ax_no)
    | _ => ax_no
  | .aastore => match st with | .inr (.inr q) :: .inl j :: .inr (.inr (t, n, o)) :: r => (bif Nat.ble 13 t && Nat.ble t 15 && decide (q = ax_ely t n o j.toNatClampNeg) then ax_gd (ax_inb j n) (nx, ls, r, ax_wr m o j.toNatClampNeg) else ax_no) | _ => ax_no
  | .arraylength => match st with | .inr (.inr (t, n, _)) :: r => (bif Nat.ble 10 t then ax_go (nx, ls, ax_vi (nI n) :: r, m) else ax_no) | _ => ax_no
  | .new c => bif Nat.beq (ax_shp m.1).1 c && Nat.ble c 9 then ax_go (nx, ls, ax_vr c (ax_shp m.1).2 m.1 :: st, (m.1 + 1, m.2)) else ax_no
  | .newarray a => match st with
    | .inl n :: r => bif decide (0 ≤ n) && Nat.beq (ax_shp m.1).2 n.toNatClampNeg && Nat.beq (ax_shp m.1).1 (match a with | .int => 10 | .boolean => 11 | .byte => 12 | _ => 98) then ax_go (nx, ls, ax_vr (ax_shp m.1).1 (ax_shp m.1).2 m.1 :: r, (m.1 + 1, m.2)) else ax_no
    | _ => ax_no
  | .anewarray t => match st with
    | .inl n :: r => bif decide (0 ≤ n) && Nat.beq (ax_shp m.1).2 n.toNatClampNeg && Nat.beq (ax_shp m.1).1 t && Nat.ble 13 t && Nat.ble t 15 then ax_go (nx, ls, ax_vr t (ax_shp m.1).2 m.1 :: r, (m.1 + 1, m.2)) else ax_no
    | _ => ax_no
  | .multianewarray t _ => match st with
    | .inl k :: .inl n :: r => bif decide (0 ≤ n) && decide (0 ≤ k) && Nat.beq (ax_shp m.1).2 n.toNatClampNeg && Nat.beq (ax_shp m.1).1 t && Nat.ble 16 t && Nat.ble t 17 && (List.range n.toNatClampNeg).all (fun i => decide (ax_shp (m.1 + 1 + i) = (10, k.toNatClampNeg))) then ax_go (nx, ls, ax_vr t (ax_shp m.1).2 m.1 :: r, (m.1 + 1 + n.toNatClampNeg, m.2.1, m.2.2.1, fun a b => if a = m.1 then Nat.blt b n.toNatClampNeg else m.2.2.2 a b)) else ax_no
    | _ => ax_no
  | .monitorenter => match st with
    | .inl n :: .inl dp :: .inr (.inr (t1, n1, o1)) :: .inl sp :: .inr (.inr (t0, n0, o0)) :: [] => bif Nat.beq t0 10 && Nat.beq t1 10 then
        ax_gd (decide (0 ≤ sp) && decide (0 ≤ dp) && decide (0 ≤ n) && Nat.ble (sp.toNatClampNeg + n.toNatClampNeg) n0 && Nat.ble (dp.toNatClampNeg + n.toNatClampNeg) n1) (nx, ls, [], ax_wc m o0 o1 sp.toNatClampNeg dp.toNatClampNeg n.toNatClampNeg) else ax_no
    | _ => ax_no
  | .monitorexit => match st with | .inr (.inr _) :: [] => ax_go (nx, ls, [], m) | _ => ax_no
  | .invokevirtual q => bif Nat.ble (ax_wd (st.drop (q % 10))) 8 && Nat.ble (q % 10) st.length && ax_rcv (q / 100 % 100) (st.take (q % 10)).reverse then ax_cl (q / 10) (st.take (q % 10)).reverse (nx, ls, st.drop (q % 10), m) else ax_no
  | .invokespecial q => bif Nat.ble (ax_wd (st.drop (q % 10))) 8 && Nat.ble (q % 10) st.length && ax_rcv (q / 100 % 100) (st.take (q % 10)).reverse then ax_cl (q / 10) (st.take (q % 10)).reverse (nx, ls, st.drop (q % 10), m) else ax_no
  | .invokestatic q => bif Nat.ble (ax_wd (st.drop (q % 10))) 8 && Nat.ble (q % 10) st.length then ax_cl (q / 10) (st.take (q % 10)).reverse (nx, ls, st.drop (q % 10), m) else ax_no
  | .ireturn => match st with
    | [.inl x] => bif Nat.beq rk 1 then ax_rt (some (ax_vi x)) m else bif Nat.beq rk 3 then ax_rg (ax_bit x) (some (ax_vi x)) m else ax_no
    | _ => ax_no
  | .lreturn => match st with | [.inr (.inl x)] => bif Nat.beq rk 2 then ax_rt (some (ax_vl x)) m else ax_no | _ => ax_no
  | .return_ => match st with | [] => bif Nat.beq rk 0 then ax_rt none m else ax_no | _ => ax_no
  | _ => ax_no
def ax_pick : List (Bool × ax_S) → ax_S → ax_S
  | [], d => d
  | (c, s) :: r, d => bif c then s else ax_pick r d
abbrev ax_C : Type := Nat → Option (Instr × Nat × Nat)
abbrev ax_X : Type := Nat → List ax_V → ax_M → Option (Option ax_V × ax_M)
def ax_run (call : ax_X) (cd : ax_C) (rk : Nat) : Nat → ax_S → Option (Option ax_V × ax_M)
  | 0, _ => none
  | n + 1, (pc, ls, st, m) => match cd pc with
    | none => none
    | some (i, nx, k) => match ax_eff rk i nx (bif Nat.beq k 0 then ls else ax_mk k ls) st m with
      | .inl s => ax_run call cd rk n s
      | .inr (.inl (g, s)) => bif g then ax_run call cd rk n s else none
      | .inr (.inr (.inl (cs, d))) => ax_run call cd rk n (ax_pick cs d)
      | .inr (.inr (.inr (.inl (q, as, s)))) => match call (q / 1000) as s.2.2.2 with
        | none => none
        | some (r, m') => ax_run call cd rk n (s.1, s.2.1, r.toList ++ s.2.2.1, m')
      | .inr (.inr (.inr (.inr (.inl r)))) => some r
      | .inr (.inr (.inr (.inr (.inr (.inl (g, r)))))) => bif g then some r else none
      | .inr (.inr (.inr (.inr (.inr (.inr _))))) => none
