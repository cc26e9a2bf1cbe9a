/-! THE TWO CONSTRUCTORS, by reckoning -/
def ax_pa (j : Nat) : Int32 := match j with
  | 0 => -9
  | 4 => 2
  | 5 => 1
  | _ => 0
def ax_le (j : Nat) : Int32 := match j with
  | 0 => 111
  | 1 => 109
  | 2 => 99
  | 3 => 98
  | 4 => 108
  | 5 => 107
  | _ => 0
def ax_z0 (o j : Nat) : Int32 := match o with
  | 0 => ax_pa j
  | 1 => ax_pa j
  | 2 => ax_le j
  | _ => 0
def ax_gt (r : Option (Option ax_V × ax_M)) : ax_M := match r with
  | some (_, m) => m
  | none => (0, (fun _ _ => 0), (fun _ _ => 0), fun _ _ => false)
def ax_q1 : Option (Option ax_V × ax_M) := ax_exec 12 1000 89 [ax_vr 8 0 3] (4, ax_z0, (fun _ _ => 0), (fun _ _ => false))
def ax_m1 : ax_M := ax_gt ax_q1
def ax_q2 : Option (Option ax_V × ax_M) := ax_exec 12 1000 148 [ax_vr 9 0 184] (185, ax_m1.2)
def ax_m2 : ax_M := ax_gt ax_q2
def ax_isn (r : Option (Option ax_V × ax_M)) (n : Nat) : Bool := match r with
  | some (none, m) => Nat.beq m.1 n
  | _ => false
set_option maxRecDepth 100000 in
theorem ax_q1_ok : ax_isn ax_q1 184 = true := by decide +kernel
set_option maxRecDepth 100000 in
theorem ax_q2_ok : ax_isn ax_q2 212 = true := by decide +kernel
