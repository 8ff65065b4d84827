/-! WHAT THE MACHINE'S STEPS ARE ON WORLDS: none where it would throw by itself, or where the room ends -/
def rc_gV (w : rc_M) (r : Option Nat) (ci k : Nat) : Option Value := match r with
  | none => none
  | some a => match w.1 a with
    | some (.inl o) => if o.1 = ci then some (o.2 k) else none
    | _ => none
def rc_gI (w : rc_M) (r : Option Nat) (ci k : Nat) : Option Int32 := match rc_gV w r ci k with
  | some (.int x) => some x
  | _ => none
def rc_gL (w : rc_M) (r : Option Nat) (ci k : Nat) : Option Int64 := match rc_gV w r ci k with
  | some (.long x) => some x
  | _ => none
def rc_gR (w : rc_M) (r : Option Nat) (ci k : Nat) : Option (Option Nat) := match rc_gV w r ci k with
  | some (.ref a) => some (some a)
  | some .null => some none
  | _ => none
def rc_pV (w : rc_M) (r : Option Nat) (ci k : Nat) (v : Value) : Option rc_M := match r with
  | none => none
  | some a => match w.1 a with
    | some (.inl o) => if o.1 = ci then some (rc_up w a (.inl (ci, updV o.2 k v))) else none
    | _ => none
def rc_pI (w : rc_M) (r : Option Nat) (ci k : Nat) (x : Int32) : Option rc_M := rc_pV w r ci k (.int x)
def rc_pZ (w : rc_M) (r : Option Nat) (ci k : Nat) (x : Int32) : Option rc_M := if x = 0 ∨ x = 1 then rc_pV w r ci k (.int x) else none
def rc_pL (w : rc_M) (r : Option Nat) (ci k : Nat) (x : Int64) : Option rc_M := rc_pV w r ci k (.long x)
def rc_pR (w : rc_M) (r : Option Nat) (ci k : Nat) (x : Option Nat) : Option rc_M := rc_pV w r ci k (va_rf x)
/-- an array of a kind -/
def rc_gA (w : rc_M) (r : Option Nat) (kd : Nat) : Option (Nat × Nat × rc_A) := match r with
  | none => none
  | some a => match w.1 a with
    | some (.inr (.inl x)) => if x.1 = kd then some (a, x.2) else none
    | _ => none
def rc_out (i : Int32) (n : Nat) : Prop := i < 0 ∨ n ≤ i.toNatClampNeg
theorem rc_out_in {i : Int32} {n : Nat} : ¬ rc_out i n ↔ vp_in i n := Iff.rfl
def rc_aI (w : rc_M) (r : Option Nat) (kd : Nat) (i : Int32) : Option Int32 := match rc_gA w r kd with
  | some (_, n, .inl f) => if i < 0 ∨ n ≤ i.toNatClampNeg then none else some (f i.toNatClampNeg)
  | _ => none
def rc_aL (w : rc_M) (r : Option Nat) (i : Int32) : Option Int64 := match rc_gA w r 1 with
  | some (_, n, .inr (.inl f)) => if i < 0 ∨ n ≤ i.toNatClampNeg then none else some (f i.toNatClampNeg)
  | _ => none
def rc_aR (w : rc_M) (r : Option Nat) (kd : Nat) (i : Int32) : Option (Option Nat) := match rc_gA w r kd with
  | some (_, n, .inr (.inr f)) => if i < 0 ∨ n ≤ i.toNatClampNeg then none else some (f i.toNatClampNeg)
  | _ => none
def rc_nar (kd : Nat) (x : Int32) : Int32 := if kd = 2 then vp_nar .byte x else if kd = 3 then vp_nar .boolean x else x
def rc_sI (w : rc_M) (r : Option Nat) (kd : Nat) (i x : Int32) : Option rc_M := match rc_gA w r kd with
  | some (a, n, .inl f) => if i < 0 ∨ n ≤ i.toNatClampNeg then none else some (rc_up w a (.inr (.inl (kd, n, .inl (upd f i.toNatClampNeg (rc_nar kd x))))))
  | _ => none
def rc_sL (w : rc_M) (r : Option Nat) (i : Int32) (x : Int64) : Option rc_M := match rc_gA w r 1 with
  | some (a, n, .inr (.inl f)) => if i < 0 ∨ n ≤ i.toNatClampNeg then none else some (rc_up w a (.inr (.inl (1, n, .inr (.inl (vp_updL f i.toNatClampNeg x))))))
  | _ => none
/-- what is stored into an array of objects of class ci (kind kd) is an object of that class, or a row -/
def rc_isC (w : rc_M) (a ci : Nat) : Bool := match w.1 a with
  | some (.inl o) => o.1 == ci
  | some (.inr (.inr _)) => ci == 1
  | _ => false
def rc_sR (w : rc_M) (r : Option Nat) (kd ci : Nat) (i : Int32) (x : Option Nat) : Option rc_M := match rc_gA w r kd with
  | some (a, n, .inr (.inr f)) => if i < 0 ∨ n ≤ i.toNatClampNeg then none else match x with
    | none => none
    | some y => if rc_isC w y ci = true then some (rc_up w a (.inr (.inl (kd, n, .inr (.inr (va_up f i.toNatClampNeg (some y))))))) else none
  | _ => none
def rc_ln (w : rc_M) (r : Option Nat) (kd : Nat) : Option Int32 := match rc_gA w r kd with
  | some (_, n, _) => some (Int32.ofNat n)
  | none => none
/-- a receiver of a class -/
def rc_rc (w : rc_M) (r : Option Nat) (ci : Nat) : Option Nat := match r with
  | none => none
  | some a => if rc_isC w a ci = true then some a else none
def rc_dflt (ci : Nat) : Nat → Value := fun k => defaultValue (rc_t ci k)
def rc_new (w : rc_M) (ci : Nat) : Option (Nat × rc_M) :=
  if w.2.1 + 1 ≤ rc_zc w ∧ w.2.2.1 + rc_N ci ≤ rc_zs w then some (w.2.1, rc_push w (.inl (ci, rc_dflt ci)) (rc_N ci)) else none
def rc_arr0 (kd : Nat) : rc_A := if kd = 1 then .inr (.inl (fun _ => 0)) else if kd = 4 ∨ kd = 5 then .inr (.inr (fun _ => none)) else .inl (fun _ => 0)
def rc_newA (w : rc_M) (kd : Nat) (n : Int32) : Option (Nat × rc_M) :=
  if n < 0 then none else if w.2.1 + 1 ≤ rc_zc w ∧ w.2.2.1 + n.toNatClampNeg ≤ rc_zs w ∧ n.toNatClampNeg ≤ 1000000 then some (w.2.1, rc_push w (.inr (.inl (kd, n.toNatClampNeg, rc_arr0 kd))) n.toNatClampNeg) else none
/-- a boolean's answer -/
def rc_z1 (x : Int32) (w : rc_M) : Option (Int32 × rc_M) := if x = 0 ∨ x = 1 then some (x, w) else none
/-- System.arraycopy of bytes -/
def rc_cp (w : rc_M) (r0 : Option Nat) (sp : Int32) (r1 : Option Nat) (dp n : Int32) : Option rc_M := match rc_gA w r0 2, rc_gA w r1 2 with
  | some (_, n0, .inl f), some (a, n1, .inl g) =>
    if sp < 0 ∨ dp < 0 ∨ n < 0 ∨ n0 < sp.toNatClampNeg + n.toNatClampNeg ∨ n1 < dp.toNatClampNeg + n.toNatClampNeg then none
    else if ∀ i, i < n.toNatClampNeg → fits .byte (.int (f (sp.toNatClampNeg + i))) = true then some (rc_up w a (.inr (.inl (2, n1, .inl (va_cpy f g sp.toNatClampNeg dp.toNatClampNeg n.toNatClampNeg))))) else none
  | _, _ => none
