theorem rc_omap {α : Type} {p : Option α} {f : α → Option Value} {v : Option Value} (h : p.map f = some v) : ∃ x, p = some x ∧ v = f x := by
  cases p with
  | none => cases h
  | some x => exact ⟨x, rfl, (Option.some.inj h).symm⟩
theorem rc_onone {α : Type} {p : Option α} {f : α → Option Value} (h : p.map f = none) : p = none := by
  cases p with
  | none => rfl
  | some x => cases h
def rc_z1T (x : Int32) (w : rc_M) : Option (Option Int32 × rc_M) := if x = 0 ∨ x = 1 then some (some x, w) else none
theorem rc_z1T_spec {x : Int32} {w : rc_M} {res : Option Int32 × rc_M} (h : rc_z1T x w = some res) : (x = 0 ∨ x = 1) ∧ res = (some x, w) := by
  unfold rc_z1T at h
  split at h
  · rename_i hx
    cases h
    exact ⟨hx, rfl⟩
  · cases h
theorem rc_cov {xe : ExceptionTableEntry} {pc a b : Nat} (h1 : xe.startPc = a) (h2 : xe.endPc = b) (h : a ≤ pc ∧ pc < b) : covers xe pc = true := by
  simp [covers, h1, h2, h.1, h.2]
/-- the script's cells -/
def rc_sc (xs : Nat → Int32) (L : Nat) (i : Int32) : Option Int32 := if i < 0 ∨ L ≤ i.toNatClampNeg then none else some (xs i.toNatClampNeg)
section RCL
variable {X : rc_X} {own : String} {cc : ByteArray} {w0 w w' : rc_M} {pc n : Nat} {st : List Value} {lv : List (Nat × Value)} {sb L : Nat} {xs : Nat → Int32}
theorem j_sld (C : rc_C X own cc w0) (hX : va_X sb L xs (q_s X) (q_s X).heap) (hsb : sb < (q_s X).heap.size ∧ sb < rc_b (q_G X)) {i x : Int32} (h : rc_sc xs L i = some x) (hd : decode cc pc = .ok (.iaload, 1)) (hn : pc + 1 = n) (kk : rc_J X w n (.int x :: st) lv) : rc_J X w pc (.int i :: va_rf (some sb) :: st) lv := by
  subst hn
  intro H locs ls h1 h2 h3
  unfold rc_sc at h
  split at h
  · cases h
  · rename_i hin
    cases h
    exact va_sld C.1 C.2.1 hX hsb.1 (Nat.not_le.mpr hsb.2) h2 hin hd (kk H locs ls h1 h2 h3)
theorem j_slen (C : rc_C X own cc w0) (hX : va_X sb L xs (q_s X) (q_s X).heap) (hsb : sb < (q_s X).heap.size ∧ sb < rc_b (q_G X)) (hd : decode cc pc = .ok (.arraylength, 1)) (hn : pc + 1 = n) (kk : rc_J X w n (.int (nI L) :: st) lv) : rc_J X w pc (va_rf (some sb) :: st) lv := by
  subst hn
  intro H locs ls h1 h2 h3
  exact va_slen C.1 C.2.1 hX hsb.1 (Nat.not_le.mpr hsb.2) h2 hd (kk H locs ls h1 h2 h3)
end RCL
