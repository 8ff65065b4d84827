/-! THE PURE PART, 1: the world behind the constructors as a function of a few tables: ints of objects and of arrays (I: the class, M: the reference), longs (V), references that change (G), the bytes of rows (R), and what the room is (p: capacities, cells, slots) -/
def px_u2 {α : Type} (f : Nat → Nat → α) (o k : Nat) (x : α) : Nat → Nat → α := fun o' k' => if o' = o ∧ k' = k then x else f o' k'
theorem px_u2_eq {α : Type} (f : Nat → Nat → α) (o k : Nat) (x : α) : px_u2 f o k x o k = x := by simp [px_u2]
theorem px_u2_ne {α : Type} (f : Nat → Nat → α) (o k o' k' : Nat) (x : α) (h : ¬ (o' = o ∧ k' = k)) : px_u2 f o k x o' k' = f o' k' := by simp [px_u2, h]
theorem px_u2_sl {α : Type} (f : Nat → Nat → α) (o k o' : Nat) (x : α) (h : o' ≠ o) : px_u2 f o k x o' = f o' := by funext k'; simp [px_u2, h]
theorem px_u2_I (f : Nat → Nat → Int32) (o k : Nat) (x : Int32) : px_u2 f o k x o = upd (f o) k x := by funext k'; simp [px_u2, upd]
theorem px_u2_V (f : Nat → Nat → Int64) (o k : Nat) (x : Int64) : px_u2 f o k x o = vp_updL (f o) k x := by funext k'; simp [px_u2, vp_updL]
def px_F0 (b : Nat) (i : Nat → Int32) : Nat → Value := fun k => if k = 0 then .ref (b + 1) else if k = 1 then .ref (b + 3) else if k = 2 then .ref (b + 4) else if k = 3 then .ref (b + 5) else if k = 4 then .ref (b + 96) else if k = 5 then .ref (b + 98) else .int (i k)
def px_F2 (b : Nat) (i : Nat → Int32) (v : Nat → Int64) : Nat → Value := fun k => if k = 0 then .ref (b + 6) else if k = 1 then .ref (b + 89) else if k = 2 then .ref (b + 92) else if k = 6 then .ref (b + 94) else if k = 7 then .ref (b + 95) else if k = 10 then .long (v 10) else .int (i k)
def px_F3 (b : Nat) (i : Nat → Int32) : Nat → Value := fun k => if k = 0 then .ref (b + 7) else if k = 1 then .ref (b + 8) else .int (i k)
def px_F4 (b : Nat) (i : Nat → Int32) (g : Nat → Nat) : Nat → Value := fun k => if k = 0 then .ref (b + g 0) else .int (i k)
def px_F5 (b o : Nat) (i : Nat → Int32) : Nat → Value := fun k => if k = 0 then .ref (b + (o + 1)) else if k = 1 then .ref (b + (o + 3)) else .int (i k)
def px_F6 (b o : Nat) (i : Nat → Int32) : Nat → Value := fun k => if k = 0 then .ref (b + (o + 1)) else if k = 1 then .ref (b + (o + 2)) else .int (i k)
def px_F7 (b : Nat) (m : Nat → Int32) : Nat → Value := fun k => if k = 1 then .ref (b + 317) else if k = 3 then .ref (b + 318) else if k = 4 then .ref (b + 319) else if k = 6 then .ref (b + 320) else if k = 7 then .ref (b + 321) else if k = 8 then .ref (b + 322) else if k = 9 then .ref (b + 323) else if k = 11 then .ref (b + 324) else if k = 12 then .ref (b + 325) else if k = 13 then .ref (b + 326) else if k = 14 then .ref (b + 327) else if k = 15 then .ref (b + 328) else if k = 16 then .ref (b + 329) else if k = 17 then .ref (b + 330) else if k = 18 then .ref (b + 331) else if k = 19 then .ref (b + 332) else if k = 20 then .ref (b + 333) else if k = 21 then .ref (b + 334) else if k = 22 then .ref (b + 335) else if k = 31 then .ref (b + 336) else .int (m k)
def px_mk (o : Nat) : Nat := if o = 318 then 2 else if o = 320 then 2 else if o = 321 then 2 else if o = 323 then 1 else if o = 324 then 2 else if o = 329 then 3 else if o = 330 then 3 else if o = 331 then 3 else if o = 334 then 2 else if o = 336 then 2 else 0
def px_ml (o : Nat) : Nat := if o = 317 then 1600 else if o = 318 then 102400 else if o = 319 then 64 else if o = 320 then 1600 else if o = 321 then 656 else if o = 322 then 41 else if o = 323 then 41 else if o = 324 then 4800 else if o = 325 then 4 else if o = 326 then 4 else if o = 327 then 4 else if o = 328 then 4 else if o = 329 then 4 else if o = 330 then 4 else if o = 331 then 4 else if o = 332 then 32 else if o = 333 then 32 else if o = 334 then 12800 else if o = 335 then 4 else if o = 336 then 400 else 0
def px_rw (o : Nat) : Bool := o == 1 || (9 ≤ o && o < 89 && o % 2 == 1) || o == 90 || o == 92 || o == 96 || o == 98 || (100 ≤ o && o < 228 && o % 2 == 0) || (228 ≤ o && o < 316 && ((o - 228) % 22 == 1 || (6 ≤ (o - 228) % 22 && (o - 228) % 22 % 2 == 0)))
def px_ent (b o : Nat) (i : Nat → Int32) (v : Nat → Int64) (g : Nat → Nat) (r : List UInt8) (m : Nat → Int32) (cap : Nat) : Option rc_E :=
  if px_rw o = true then some (.inr (.inr (cap, r)))
  else if o = 0 then some (.inl (0, px_F0 b i))
  else if o = 3 then some (.inr (.inl (4, 64, .inr (.inr (fun j => if j < 64 then some (b + (100 + 2 * j)) else none)))))
  else if o = 4 then some (.inr (.inl (5, 4, .inr (.inr (fun j => if j < 4 then some (b + (228 + 22 * j)) else none)))))
  else if o = 5 then some (.inl (2, px_F2 b i v))
  else if o = 6 then some (.inl (3, px_F3 b i))
  else if o = 7 then some (.inr (.inl (4, 40, .inr (.inr (fun j => if j < 40 then some (b + g j) else none)))))
  else if o = 8 then some (.inr (.inl (1, 40, .inr (.inl v))))
  else if o = 89 then some (.inl (4, px_F4 b i g))
  else if o = 94 ∨ o = 95 then some (.inr (.inl (0, 8, .inl i)))
  else if o = 316 then some (.inl (7, px_F7 b m))
  else if o = 323 then some (.inr (.inl (1, 41, .inr (.inl v))))
  else if o = 337 then some (.inr (.inl (1, 1, .inr (.inl v))))
  else if 317 ≤ o ∧ o < 337 then some (.inr (.inl (px_mk o, px_ml o, .inl m)))
  else if 228 ≤ o ∧ o < 316 then
    if (o - 228) % 22 = 0 then some (.inl (5, px_F5 b o i))
    else if (o - 228) % 22 = 3 then some (.inl (6, px_F6 b o i))
    else if (o - 228) % 22 = 4 then some (.inr (.inl (4, 8, .inr (.inr (fun j => if j < 8 then some (b + (o + 2 + 2 * j)) else none)))))
    else if (o - 228) % 22 = 5 then some (.inr (.inl (0, 8, .inl i)))
    else none
  else none
abbrev px_P : Type := (Nat → Nat) × Nat × Nat
def px_W (b : Nat) (I : Nat → Nat → Int32) (V : Nat → Nat → Int64) (G : Nat → Nat → Nat) (R : Nat → List UInt8) (M : Nat → Nat → Int32) (p : px_P) : rc_M :=
  (fun q => if q < b then none else px_ent b (q - b) (I (q - b)) (V (q - b)) (G (q - b)) (R (q - b)) (M (q - b)) (p.1 (q - b)), p.2.1, p.2.2, b + rc_rmC, rc_rmS)
section PX
variable {b : Nat} {I : Nat → Nat → Int32} {V : Nat → Nat → Int64} {G : Nat → Nat → Nat} {R : Nat → List UInt8} {M : Nat → Nat → Int32} {p : px_P}
theorem px_at (o : Nat) : (px_W b I V G R M p).1 (b + o) = px_ent b o (I o) (V o) (G o) (R o) (M o) (p.1 o) := by
  simp [px_W, Nat.not_lt.mpr (Nat.le_add_right b o)]
theorem px_up {I' : Nat → Nat → Int32} {V' : Nat → Nat → Int64} {G' : Nat → Nat → Nat} {R' : Nat → List UInt8} {M' : Nat → Nat → Int32} {e : rc_E} (o : Nat) (h0 : px_ent b o (I' o) (V' o) (G' o) (R' o) (M' o) (p.1 o) = some e)
    (h1 : ∀ q, q ≠ o → I' q = I q) (h2 : ∀ q, q ≠ o → V' q = V q) (h3 : ∀ q, q ≠ o → G' q = G q) (h4 : ∀ q, q ≠ o → R' q = R q) (h5 : ∀ q, q ≠ o → M' q = M q) : rc_up (px_W b I V G R M p) (b + o) e = px_W b I' V' G' R' M' p := by
  unfold rc_up px_W
  congr 1
  funext q
  unfold va_up
  by_cases hq : q = b + o
  · subst hq
    simp [Nat.not_lt.mpr (Nat.le_add_right b o), h0]
  · rw [if_neg hq]
    by_cases hb : q < b
    · simp [hb]
    · have hne : q - b ≠ o := by omega
      simp only [hb, if_false, h1 _ hne, h2 _ hne, h3 _ hne, h4 _ hne, h5 _ hne]
theorem px_gV (o ci k : Nat) (F : Nat → Value) (h : px_ent b o (I o) (V o) (G o) (R o) (M o) (p.1 o) = some (.inl (ci, F))) : rc_gV (px_W b I V G R M p) (some (b + o)) ci k = some (F k) := by
  simp [rc_gV, px_at, h]
theorem px_gA (o kd n : Nat) (a : rc_A) (h : px_ent b o (I o) (V o) (G o) (R o) (M o) (p.1 o) = some (.inr (.inl (kd, n, a)))) : rc_gA (px_W b I V G R M p) (some (b + o)) kd = some (b + o, n, a) := by
  simp [rc_gA, px_at, h]
theorem px_isC (o ci : Nat) (F : Nat → Value) (h : px_ent b o (I o) (V o) (G o) (R o) (M o) (p.1 o) = some (.inl (ci, F))) : rc_rc (px_W b I V G R M p) (some (b + o)) ci = some (b + o) := by
  simp [rc_rc, rc_isC, px_at, h]
theorem px_row_ent (o : Nat) (i : Nat → Int32) (v : Nat → Int64) (g : Nat → Nat) (r : List UInt8) (m : Nat → Int32) (cap : Nat) (h : px_rw o = true) : px_ent b o i v g r m cap = some (.inr (.inr (cap, r))) := by
  simp [px_ent, h]
theorem px_rcR (o : Nat) (h : px_rw o = true) : rc_rc (px_W b I V G R M p) (some (b + o)) 1 = some (b + o) := by
  simp [rc_rc, rc_isC, px_at, px_row_ent o _ _ _ _ _ _ h]
theorem px_isR (o : Nat) (h : px_rw o = true) : rc_isC (px_W b I V G R M p) (b + o) 1 = true := by
  simp [rc_isC, px_at, px_row_ent o _ _ _ _ _ _ h]
theorem px_rowR (o : Nat) (h : px_rw o = true) (hc : p.1 o ≤ 4096) : rc_row (px_W b I V G R M p) (b + o) = some (p.1 o, R o) := by
  rw [rc_row_of (x := (p.1 o, R o)) (by rw [px_at, px_row_ent o _ _ _ _ _ _ h]) (by simp; omega)]
theorem px_F0_up (i : Nat → Int32) (k : Nat) (x : Int32) (h : 6 ≤ k) : updV (px_F0 b i) k (.int x) = px_F0 b (upd i k x) := by
  funext j; unfold updV px_F0 upd; by_cases e : j = k
  · subst e; simp [show j ≠ 0 by omega, show j ≠ 1 by omega, show j ≠ 2 by omega, show j ≠ 3 by omega, show j ≠ 4 by omega, show j ≠ 5 by omega]
  · simp [e]
theorem px_F2_up (i : Nat → Int32) (v : Nat → Int64) (k : Nat) (x : Int32) (h : 3 ≤ k) (h6 : k ≠ 6) (h7 : k ≠ 7) (h10 : k ≠ 10) : updV (px_F2 b i v) k (.int x) = px_F2 b (upd i k x) v := by
  funext j; unfold updV px_F2 upd; by_cases e : j = k
  · subst e; simp [show j ≠ 0 by omega, show j ≠ 1 by omega, show j ≠ 2 by omega, h6, h7, h10]
  · simp [e]
theorem px_F2_upL (i : Nat → Int32) (v : Nat → Int64) (x : Int64) : updV (px_F2 b i v) 10 (.long x) = px_F2 b i (vp_updL v 10 x) := by
  funext j; unfold updV px_F2 vp_updL; by_cases e : j = 10
  · subst e; simp
  · simp [e]
theorem px_F3_up (i : Nat → Int32) (k : Nat) (x : Int32) (h : 2 ≤ k) : updV (px_F3 b i) k (.int x) = px_F3 b (upd i k x) := by
  funext j; unfold updV px_F3 upd; by_cases e : j = k
  · subst e; simp [show j ≠ 0 by omega, show j ≠ 1 by omega]
  · simp [e]
theorem px_F4_up (i : Nat → Int32) (g : Nat → Nat) (k : Nat) (x : Int32) (h : 1 ≤ k) : updV (px_F4 b i g) k (.int x) = px_F4 b (upd i k x) g := by
  funext j; unfold updV px_F4 upd; by_cases e : j = k
  · subst e; simp [show j ≠ 0 by omega]
  · simp [e]
theorem px_F4_upR (i : Nat → Int32) (g : Nat → Nat) (x : Nat) : updV (px_F4 b i g) 0 (va_rf (some (b + x))) = px_F4 b i (fun j => if j = 0 then x else g j) := by
  funext j; unfold updV px_F4; by_cases e : j = 0
  · subst e; simp [va_rf]
  · simp [e]
theorem px_F5_up (o : Nat) (i : Nat → Int32) (k : Nat) (x : Int32) (h : 2 ≤ k) : updV (px_F5 b o i) k (.int x) = px_F5 b o (upd i k x) := by
  funext j; unfold updV px_F5 upd; by_cases e : j = k
  · subst e; simp [show j ≠ 0 by omega, show j ≠ 1 by omega]
  · simp [e]
theorem px_F6_up (o : Nat) (i : Nat → Int32) (k : Nat) (x : Int32) (h : 2 ≤ k) : updV (px_F6 b o i) k (.int x) = px_F6 b o (upd i k x) := by
  funext j; unfold updV px_F6 upd; by_cases e : j = k
  · subst e; simp [show j ≠ 0 by omega, show j ≠ 1 by omega]
  · simp [e]
def px_mf (k : Nat) : Bool := k != 1 && k != 3 && k != 4 && k != 6 && k != 7 && k != 8 && k != 9 && k != 11 && k != 12 && k != 13 && k != 14 && k != 15 && k != 16 && k != 17 && k != 18 && k != 19 && k != 20 && k != 21 && k != 22 && k != 31
theorem px_F7_int (i : Nat → Int32) (k : Nat) (h : px_mf k = true) : px_F7 b i k = .int (i k) := by
  simp only [px_mf, Bool.and_eq_true, bne_iff_ne, ne_eq] at h
  simp [px_F7, h]
theorem px_F7_up (i : Nat → Int32) (k : Nat) (x : Int32) (h : px_mf k = true) : updV (px_F7 b i) k (.int x) = px_F7 b (upd i k x) := by
  funext j; unfold updV; by_cases e : j = k
  · subst e; rw [if_pos rfl, px_F7_int _ _ h]; simp [upd]
  · rw [if_neg e]; unfold px_F7 upd; simp [e]
end PX
