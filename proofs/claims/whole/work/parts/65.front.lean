/-! THE PURE PART, 6: the steps, to be taken from the front -/
theorem px_nle {j n : Nat} (h : j < n) : (n ≤ j) = False := eq_false (by omega)
theorem px_nlt {j n : Nat} (h : n ≤ j) : (j < n) = False := eq_false (by omega)
theorem px_cond {x : Int32} {n : Nat} (hn : n < 2 ^ 31) (h : ¬ (x < 0 ∨ n ≤ x.toNatClampNeg)) : x = nI x.toNatClampNeg ∧ x.toNatClampNeg < n := by
  have h0 : ¬ x < 0 := fun q => h (Or.inl q)
  obtain ⟨j, hj, rfl⟩ := nI_of h0
  rw [nI_clamp hj] at h ⊢
  exact ⟨rfl, by omega⟩
theorem px_mB {b : Nat} {I : Nat → Nat → Int32} {V : Nat → Nat → Int64} {G : Nat → Nat → Nat} {R : Nat → List UInt8} {M : Nat → Nat → Int32} {p : px_P}  : (∀ {β : Type}  (k : Nat → Option β), (rc_rc (px_W b I V G R M p) (some (b + 316)) 7).bind k = k (b + 316)) ∧
  (∀ {β : Type}  (k : Int32 → Option β), (rc_gI (px_W b I V G R M p) (some (b + 316)) 7 0).bind k = k (M 316 0)) ∧
  (∀ {β : Type} (x : Int32) (k : rc_M → Option β), (rc_pI (px_W b I V G R M p) (some (b + 316)) 7 0 x).bind k = k (px_W b I V G R (px_u2 M 316 0 x) p)) ∧
  (∀ {β : Type}  (k : Int32 → Option β), (rc_gI (px_W b I V G R M p) (some (b + 316)) 7 2).bind k = k (M 316 2)) ∧
  (∀ {β : Type} (x : Int32) (k : rc_M → Option β), (rc_pI (px_W b I V G R M p) (some (b + 316)) 7 2 x).bind k = k (px_W b I V G R (px_u2 M 316 2 x) p)) ∧
  (∀ {β : Type}  (k : Int32 → Option β), (rc_gI (px_W b I V G R M p) (some (b + 316)) 7 5).bind k = k (M 316 5)) ∧
  (∀ {β : Type} (x : Int32) (k : rc_M → Option β), (rc_pI (px_W b I V G R M p) (some (b + 316)) 7 5 x).bind k = k (px_W b I V G R (px_u2 M 316 5 x) p)) ∧
  (∀ {β : Type}  (k : Int32 → Option β), (rc_gI (px_W b I V G R M p) (some (b + 316)) 7 10).bind k = k (M 316 10)) ∧
  (∀ {β : Type} (x : Int32) (k : rc_M → Option β), (rc_pI (px_W b I V G R M p) (some (b + 316)) 7 10 x).bind k = k (px_W b I V G R (px_u2 M 316 10 x) p)) ∧
  (∀ {β : Type}  (k : Int32 → Option β), (rc_gI (px_W b I V G R M p) (some (b + 316)) 7 23).bind k = k (M 316 23)) ∧
  (∀ {β : Type} (x : Int32) (k : rc_M → Option β), (rc_pI (px_W b I V G R M p) (some (b + 316)) 7 23 x).bind k = k (px_W b I V G R (px_u2 M 316 23 x) p)) ∧
  (∀ {β : Type}  (k : Int32 → Option β), (rc_gI (px_W b I V G R M p) (some (b + 316)) 7 24).bind k = k (M 316 24)) ∧
  (∀ {β : Type} (x : Int32) (k : rc_M → Option β), (rc_pI (px_W b I V G R M p) (some (b + 316)) 7 24 x).bind k = k (px_W b I V G R (px_u2 M 316 24 x) p)) ∧
  (∀ {β : Type}  (k : Int32 → Option β), (rc_gI (px_W b I V G R M p) (some (b + 316)) 7 25).bind k = k (M 316 25)) ∧
  (∀ {β : Type} (x : Int32) (k : rc_M → Option β), (rc_pI (px_W b I V G R M p) (some (b + 316)) 7 25 x).bind k = k (px_W b I V G R (px_u2 M 316 25 x) p)) ∧
  (∀ {β : Type}  (k : Int32 → Option β), (rc_gI (px_W b I V G R M p) (some (b + 316)) 7 26).bind k = k (M 316 26)) ∧
  (∀ {β : Type} (x : Int32) (k : rc_M → Option β), (rc_pI (px_W b I V G R M p) (some (b + 316)) 7 26 x).bind k = k (px_W b I V G R (px_u2 M 316 26 x) p)) ∧
  (∀ {β : Type}  (k : Int32 → Option β), (rc_gI (px_W b I V G R M p) (some (b + 316)) 7 27).bind k = k (M 316 27)) ∧
  (∀ {β : Type} (x : Int32) (k : rc_M → Option β), (rc_pI (px_W b I V G R M p) (some (b + 316)) 7 27 x).bind k = k (px_W b I V G R (px_u2 M 316 27 x) p)) ∧
  (∀ {β : Type}  (k : Int32 → Option β), (rc_gI (px_W b I V G R M p) (some (b + 316)) 7 28).bind k = k (M 316 28)) ∧
  (∀ {β : Type} (x : Int32) (k : rc_M → Option β), (rc_pI (px_W b I V G R M p) (some (b + 316)) 7 28 x).bind k = k (px_W b I V G R (px_u2 M 316 28 x) p)) ∧
  (∀ {β : Type}  (k : Int32 → Option β), (rc_gI (px_W b I V G R M p) (some (b + 316)) 7 29).bind k = k (M 316 29)) ∧
  (∀ {β : Type} (x : Int32) (k : rc_M → Option β), (rc_pI (px_W b I V G R M p) (some (b + 316)) 7 29 x).bind k = k (px_W b I V G R (px_u2 M 316 29 x) p)) ∧
  (∀ {β : Type}  (k : Int32 → Option β), (rc_gI (px_W b I V G R M p) (some (b + 316)) 7 30).bind k = k (M 316 30)) ∧
  (∀ {β : Type} (x : Int32) (k : rc_M → Option β), (rc_pI (px_W b I V G R M p) (some (b + 316)) 7 30 x).bind k = k (px_W b I V G R (px_u2 M 316 30 x) p)) ∧
  (∀ {β : Type}  (k : Int32 → Option β), (rc_gI (px_W b I V G R M p) (some (b + 316)) 7 32).bind k = k (M 316 32)) ∧
  (∀ {β : Type} (x : Int32) (k : rc_M → Option β), (rc_pI (px_W b I V G R M p) (some (b + 316)) 7 32 x).bind k = k (px_W b I V G R (px_u2 M 316 32 x) p)) ∧
  (∀ {β : Type}  (k : Int32 → Option β), (rc_gI (px_W b I V G R M p) (some (b + 316)) 7 33).bind k = k (M 316 33)) ∧
  (∀ {β : Type} (x : Int32) (k : rc_M → Option β), (rc_pI (px_W b I V G R M p) (some (b + 316)) 7 33 x).bind k = k (px_W b I V G R (px_u2 M 316 33 x) p)) ∧
  (∀ {β : Type} (x : Int32) (k : rc_M → Option β), (rc_pZ (px_W b I V G R M p) (some (b + 316)) 7 28 x).bind k = if x = 0 ∨ x = 1 then k (px_W b I V G R (px_u2 M 316 28 x) p) else none) ∧
  (∀ {β : Type}  (k : Option Nat → Option β), (rc_gR (px_W b I V G R M p) (some (b + 316)) 7 1).bind k = k (some (b + 317))) ∧
  (∀ {β : Type}  (k : Option Nat → Option β), (rc_gR (px_W b I V G R M p) (some (b + 316)) 7 3).bind k = k (some (b + 318))) ∧
  (∀ {β : Type}  (k : Option Nat → Option β), (rc_gR (px_W b I V G R M p) (some (b + 316)) 7 4).bind k = k (some (b + 319))) ∧
  (∀ {β : Type}  (k : Option Nat → Option β), (rc_gR (px_W b I V G R M p) (some (b + 316)) 7 6).bind k = k (some (b + 320))) ∧
  (∀ {β : Type}  (k : Option Nat → Option β), (rc_gR (px_W b I V G R M p) (some (b + 316)) 7 7).bind k = k (some (b + 321))) ∧
  (∀ {β : Type}  (k : Option Nat → Option β), (rc_gR (px_W b I V G R M p) (some (b + 316)) 7 8).bind k = k (some (b + 322))) ∧
  (∀ {β : Type}  (k : Option Nat → Option β), (rc_gR (px_W b I V G R M p) (some (b + 316)) 7 9).bind k = k (some (b + 323))) ∧
  (∀ {β : Type}  (k : Option Nat → Option β), (rc_gR (px_W b I V G R M p) (some (b + 316)) 7 11).bind k = k (some (b + 324))) ∧
  (∀ {β : Type}  (k : Option Nat → Option β), (rc_gR (px_W b I V G R M p) (some (b + 316)) 7 12).bind k = k (some (b + 325))) ∧
  (∀ {β : Type}  (k : Option Nat → Option β), (rc_gR (px_W b I V G R M p) (some (b + 316)) 7 13).bind k = k (some (b + 326))) ∧
  (∀ {β : Type}  (k : Option Nat → Option β), (rc_gR (px_W b I V G R M p) (some (b + 316)) 7 14).bind k = k (some (b + 327))) ∧
  (∀ {β : Type}  (k : Option Nat → Option β), (rc_gR (px_W b I V G R M p) (some (b + 316)) 7 15).bind k = k (some (b + 328))) ∧
  (∀ {β : Type}  (k : Option Nat → Option β), (rc_gR (px_W b I V G R M p) (some (b + 316)) 7 16).bind k = k (some (b + 329))) ∧
  (∀ {β : Type}  (k : Option Nat → Option β), (rc_gR (px_W b I V G R M p) (some (b + 316)) 7 17).bind k = k (some (b + 330))) ∧
  (∀ {β : Type}  (k : Option Nat → Option β), (rc_gR (px_W b I V G R M p) (some (b + 316)) 7 18).bind k = k (some (b + 331))) ∧
  (∀ {β : Type}  (k : Option Nat → Option β), (rc_gR (px_W b I V G R M p) (some (b + 316)) 7 19).bind k = k (some (b + 332))) ∧
  (∀ {β : Type}  (k : Option Nat → Option β), (rc_gR (px_W b I V G R M p) (some (b + 316)) 7 20).bind k = k (some (b + 333))) ∧
  (∀ {β : Type}  (k : Option Nat → Option β), (rc_gR (px_W b I V G R M p) (some (b + 316)) 7 21).bind k = k (some (b + 334))) ∧
  (∀ {β : Type}  (k : Option Nat → Option β), (rc_gR (px_W b I V G R M p) (some (b + 316)) 7 22).bind k = k (some (b + 335))) ∧
  (∀ {β : Type}  (k : Option Nat → Option β), (rc_gR (px_W b I V G R M p) (some (b + 316)) 7 31).bind k = k (some (b + 336))) ∧
  (∀ {β : Type} (y : Int32) (k : Int32 → Option β), (rc_aI (px_W b I V G R M p) (some (b + 317)) 0 y).bind k = if y < 0 ∨ 1600 ≤ y.toNatClampNeg then none else k (M 317 y.toNatClampNeg)) ∧
  (∀ {β : Type} (y : Int32) (x : Int32) (k : rc_M → Option β), (rc_sI (px_W b I V G R M p) (some (b + 317)) 0 y x).bind k = if y < 0 ∨ 1600 ≤ y.toNatClampNeg then none else k (px_W b I V G R (px_u2 M 317 y.toNatClampNeg x) p)) ∧
  (∀ {β : Type} (y : Int32) (k : Int32 → Option β), (rc_aI (px_W b I V G R M p) (some (b + 318)) 2 y).bind k = if y < 0 ∨ 102400 ≤ y.toNatClampNeg then none else k (M 318 y.toNatClampNeg)) ∧
  (∀ {β : Type} (y : Int32) (x : Int32) (k : rc_M → Option β), (rc_sI (px_W b I V G R M p) (some (b + 318)) 2 y x).bind k = if y < 0 ∨ 102400 ≤ y.toNatClampNeg then none else k (px_W b I V G R (px_u2 M 318 y.toNatClampNeg x.toInt8.toInt32) p)) ∧
  (∀ {β : Type} (y : Int32) (k : Int32 → Option β), (rc_aI (px_W b I V G R M p) (some (b + 319)) 0 y).bind k = if y < 0 ∨ 64 ≤ y.toNatClampNeg then none else k (M 319 y.toNatClampNeg)) ∧
  (∀ {β : Type} (y : Int32) (x : Int32) (k : rc_M → Option β), (rc_sI (px_W b I V G R M p) (some (b + 319)) 0 y x).bind k = if y < 0 ∨ 64 ≤ y.toNatClampNeg then none else k (px_W b I V G R (px_u2 M 319 y.toNatClampNeg x) p)) ∧
  (∀ {β : Type} (y : Int32) (k : Int32 → Option β), (rc_aI (px_W b I V G R M p) (some (b + 320)) 2 y).bind k = if y < 0 ∨ 1600 ≤ y.toNatClampNeg then none else k (M 320 y.toNatClampNeg)) ∧
  (∀ {β : Type} (y : Int32) (x : Int32) (k : rc_M → Option β), (rc_sI (px_W b I V G R M p) (some (b + 320)) 2 y x).bind k = if y < 0 ∨ 1600 ≤ y.toNatClampNeg then none else k (px_W b I V G R (px_u2 M 320 y.toNatClampNeg x.toInt8.toInt32) p)) ∧
  (∀ {β : Type} (y : Int32) (k : Int32 → Option β), (rc_aI (px_W b I V G R M p) (some (b + 321)) 2 y).bind k = if y < 0 ∨ 656 ≤ y.toNatClampNeg then none else k (M 321 y.toNatClampNeg)) ∧
  (∀ {β : Type} (y : Int32) (x : Int32) (k : rc_M → Option β), (rc_sI (px_W b I V G R M p) (some (b + 321)) 2 y x).bind k = if y < 0 ∨ 656 ≤ y.toNatClampNeg then none else k (px_W b I V G R (px_u2 M 321 y.toNatClampNeg x.toInt8.toInt32) p)) ∧
  (∀ {β : Type} (y : Int32) (k : Int32 → Option β), (rc_aI (px_W b I V G R M p) (some (b + 322)) 0 y).bind k = if y < 0 ∨ 41 ≤ y.toNatClampNeg then none else k (M 322 y.toNatClampNeg)) ∧
  (∀ {β : Type} (y : Int32) (x : Int32) (k : rc_M → Option β), (rc_sI (px_W b I V G R M p) (some (b + 322)) 0 y x).bind k = if y < 0 ∨ 41 ≤ y.toNatClampNeg then none else k (px_W b I V G R (px_u2 M 322 y.toNatClampNeg x) p)) ∧
  (∀ {β : Type} (y : Int32) (k : Int32 → Option β), (rc_aI (px_W b I V G R M p) (some (b + 324)) 2 y).bind k = if y < 0 ∨ 4800 ≤ y.toNatClampNeg then none else k (M 324 y.toNatClampNeg)) ∧
  (∀ {β : Type} (y : Int32) (x : Int32) (k : rc_M → Option β), (rc_sI (px_W b I V G R M p) (some (b + 324)) 2 y x).bind k = if y < 0 ∨ 4800 ≤ y.toNatClampNeg then none else k (px_W b I V G R (px_u2 M 324 y.toNatClampNeg x.toInt8.toInt32) p)) ∧
  (∀ {β : Type} (y : Int32) (k : Int32 → Option β), (rc_aI (px_W b I V G R M p) (some (b + 325)) 0 y).bind k = if y < 0 ∨ 4 ≤ y.toNatClampNeg then none else k (M 325 y.toNatClampNeg)) ∧
  (∀ {β : Type} (y : Int32) (x : Int32) (k : rc_M → Option β), (rc_sI (px_W b I V G R M p) (some (b + 325)) 0 y x).bind k = if y < 0 ∨ 4 ≤ y.toNatClampNeg then none else k (px_W b I V G R (px_u2 M 325 y.toNatClampNeg x) p)) ∧
  (∀ {β : Type} (y : Int32) (k : Int32 → Option β), (rc_aI (px_W b I V G R M p) (some (b + 326)) 0 y).bind k = if y < 0 ∨ 4 ≤ y.toNatClampNeg then none else k (M 326 y.toNatClampNeg)) ∧
  (∀ {β : Type} (y : Int32) (x : Int32) (k : rc_M → Option β), (rc_sI (px_W b I V G R M p) (some (b + 326)) 0 y x).bind k = if y < 0 ∨ 4 ≤ y.toNatClampNeg then none else k (px_W b I V G R (px_u2 M 326 y.toNatClampNeg x) p)) ∧
  (∀ {β : Type} (y : Int32) (k : Int32 → Option β), (rc_aI (px_W b I V G R M p) (some (b + 327)) 0 y).bind k = if y < 0 ∨ 4 ≤ y.toNatClampNeg then none else k (M 327 y.toNatClampNeg)) ∧
  (∀ {β : Type} (y : Int32) (x : Int32) (k : rc_M → Option β), (rc_sI (px_W b I V G R M p) (some (b + 327)) 0 y x).bind k = if y < 0 ∨ 4 ≤ y.toNatClampNeg then none else k (px_W b I V G R (px_u2 M 327 y.toNatClampNeg x) p)) ∧
  (∀ {β : Type} (y : Int32) (k : Int32 → Option β), (rc_aI (px_W b I V G R M p) (some (b + 328)) 0 y).bind k = if y < 0 ∨ 4 ≤ y.toNatClampNeg then none else k (M 328 y.toNatClampNeg)) ∧
  (∀ {β : Type} (y : Int32) (x : Int32) (k : rc_M → Option β), (rc_sI (px_W b I V G R M p) (some (b + 328)) 0 y x).bind k = if y < 0 ∨ 4 ≤ y.toNatClampNeg then none else k (px_W b I V G R (px_u2 M 328 y.toNatClampNeg x) p)) ∧
  (∀ {β : Type} (y : Int32) (k : Int32 → Option β), (rc_aI (px_W b I V G R M p) (some (b + 329)) 3 y).bind k = if y < 0 ∨ 4 ≤ y.toNatClampNeg then none else k (M 329 y.toNatClampNeg)) ∧
  (∀ {β : Type} (y : Int32) (x : Int32) (k : rc_M → Option β), (rc_sI (px_W b I V G R M p) (some (b + 329)) 3 y x).bind k = if y < 0 ∨ 4 ≤ y.toNatClampNeg then none else k (px_W b I V G R (px_u2 M 329 y.toNatClampNeg (rc_nar 3 x)) p)) ∧
  (∀ {β : Type} (y : Int32) (k : Int32 → Option β), (rc_aI (px_W b I V G R M p) (some (b + 330)) 3 y).bind k = if y < 0 ∨ 4 ≤ y.toNatClampNeg then none else k (M 330 y.toNatClampNeg)) ∧
  (∀ {β : Type} (y : Int32) (x : Int32) (k : rc_M → Option β), (rc_sI (px_W b I V G R M p) (some (b + 330)) 3 y x).bind k = if y < 0 ∨ 4 ≤ y.toNatClampNeg then none else k (px_W b I V G R (px_u2 M 330 y.toNatClampNeg (rc_nar 3 x)) p)) ∧
  (∀ {β : Type} (y : Int32) (k : Int32 → Option β), (rc_aI (px_W b I V G R M p) (some (b + 331)) 3 y).bind k = if y < 0 ∨ 4 ≤ y.toNatClampNeg then none else k (M 331 y.toNatClampNeg)) ∧
  (∀ {β : Type} (y : Int32) (x : Int32) (k : rc_M → Option β), (rc_sI (px_W b I V G R M p) (some (b + 331)) 3 y x).bind k = if y < 0 ∨ 4 ≤ y.toNatClampNeg then none else k (px_W b I V G R (px_u2 M 331 y.toNatClampNeg (rc_nar 3 x)) p)) ∧
  (∀ {β : Type} (y : Int32) (k : Int32 → Option β), (rc_aI (px_W b I V G R M p) (some (b + 332)) 0 y).bind k = if y < 0 ∨ 32 ≤ y.toNatClampNeg then none else k (M 332 y.toNatClampNeg)) ∧
  (∀ {β : Type} (y : Int32) (x : Int32) (k : rc_M → Option β), (rc_sI (px_W b I V G R M p) (some (b + 332)) 0 y x).bind k = if y < 0 ∨ 32 ≤ y.toNatClampNeg then none else k (px_W b I V G R (px_u2 M 332 y.toNatClampNeg x) p)) ∧
  (∀ {β : Type} (y : Int32) (k : Int32 → Option β), (rc_aI (px_W b I V G R M p) (some (b + 333)) 0 y).bind k = if y < 0 ∨ 32 ≤ y.toNatClampNeg then none else k (M 333 y.toNatClampNeg)) ∧
  (∀ {β : Type} (y : Int32) (x : Int32) (k : rc_M → Option β), (rc_sI (px_W b I V G R M p) (some (b + 333)) 0 y x).bind k = if y < 0 ∨ 32 ≤ y.toNatClampNeg then none else k (px_W b I V G R (px_u2 M 333 y.toNatClampNeg x) p)) ∧
  (∀ {β : Type} (y : Int32) (k : Int32 → Option β), (rc_aI (px_W b I V G R M p) (some (b + 334)) 2 y).bind k = if y < 0 ∨ 12800 ≤ y.toNatClampNeg then none else k (M 334 y.toNatClampNeg)) ∧
  (∀ {β : Type} (y : Int32) (x : Int32) (k : rc_M → Option β), (rc_sI (px_W b I V G R M p) (some (b + 334)) 2 y x).bind k = if y < 0 ∨ 12800 ≤ y.toNatClampNeg then none else k (px_W b I V G R (px_u2 M 334 y.toNatClampNeg x.toInt8.toInt32) p)) ∧
  (∀ {β : Type} (y : Int32) (k : Int32 → Option β), (rc_aI (px_W b I V G R M p) (some (b + 335)) 0 y).bind k = if y < 0 ∨ 4 ≤ y.toNatClampNeg then none else k (M 335 y.toNatClampNeg)) ∧
  (∀ {β : Type} (y : Int32) (x : Int32) (k : rc_M → Option β), (rc_sI (px_W b I V G R M p) (some (b + 335)) 0 y x).bind k = if y < 0 ∨ 4 ≤ y.toNatClampNeg then none else k (px_W b I V G R (px_u2 M 335 y.toNatClampNeg x) p)) ∧
  (∀ {β : Type} (y : Int32) (k : Int32 → Option β), (rc_aI (px_W b I V G R M p) (some (b + 336)) 2 y).bind k = if y < 0 ∨ 400 ≤ y.toNatClampNeg then none else k (M 336 y.toNatClampNeg)) ∧
  (∀ {β : Type} (y : Int32) (x : Int32) (k : rc_M → Option β), (rc_sI (px_W b I V G R M p) (some (b + 336)) 2 y x).bind k = if y < 0 ∨ 400 ≤ y.toNatClampNeg then none else k (px_W b I V G R (px_u2 M 336 y.toNatClampNeg x.toInt8.toInt32) p)) ∧
  (∀ {β : Type} (y : Int32) (k : Int64 → Option β), (rc_aL (px_W b I V G R M p) (some (b + 323)) y).bind k = if y < 0 ∨ 41 ≤ y.toNatClampNeg then none else k (V 323 y.toNatClampNeg)) ∧
  (∀ {β : Type} (y : Int32) (x : Int64) (k : rc_M → Option β), (rc_sL (px_W b I V G R M p) (some (b + 323)) y x).bind k = if y < 0 ∨ 41 ≤ y.toNatClampNeg then none else k (px_W b I (px_u2 V 323 y.toNatClampNeg x) G R M p)) :=
  ⟨(fun {β}  k => by rw [@px_rc_m b I V G R M p , px_bs]),
   (fun {β}  k => by rw [@px_gI_m_0 b I V G R M p , px_bs]),
   (fun {β} x k => by rw [@px_pI_m_0 b I V G R M p x, px_bs]),
   (fun {β}  k => by rw [@px_gI_m_2 b I V G R M p , px_bs]),
   (fun {β} x k => by rw [@px_pI_m_2 b I V G R M p x, px_bs]),
   (fun {β}  k => by rw [@px_gI_m_5 b I V G R M p , px_bs]),
   (fun {β} x k => by rw [@px_pI_m_5 b I V G R M p x, px_bs]),
   (fun {β}  k => by rw [@px_gI_m_10 b I V G R M p , px_bs]),
   (fun {β} x k => by rw [@px_pI_m_10 b I V G R M p x, px_bs]),
   (fun {β}  k => by rw [@px_gI_m_23 b I V G R M p , px_bs]),
   (fun {β} x k => by rw [@px_pI_m_23 b I V G R M p x, px_bs]),
   (fun {β}  k => by rw [@px_gI_m_24 b I V G R M p , px_bs]),
   (fun {β} x k => by rw [@px_pI_m_24 b I V G R M p x, px_bs]),
   (fun {β}  k => by rw [@px_gI_m_25 b I V G R M p , px_bs]),
   (fun {β} x k => by rw [@px_pI_m_25 b I V G R M p x, px_bs]),
   (fun {β}  k => by rw [@px_gI_m_26 b I V G R M p , px_bs]),
   (fun {β} x k => by rw [@px_pI_m_26 b I V G R M p x, px_bs]),
   (fun {β}  k => by rw [@px_gI_m_27 b I V G R M p , px_bs]),
   (fun {β} x k => by rw [@px_pI_m_27 b I V G R M p x, px_bs]),
   (fun {β}  k => by rw [@px_gI_m_28 b I V G R M p , px_bs]),
   (fun {β} x k => by rw [@px_pI_m_28 b I V G R M p x, px_bs]),
   (fun {β}  k => by rw [@px_gI_m_29 b I V G R M p , px_bs]),
   (fun {β} x k => by rw [@px_pI_m_29 b I V G R M p x, px_bs]),
   (fun {β}  k => by rw [@px_gI_m_30 b I V G R M p , px_bs]),
   (fun {β} x k => by rw [@px_pI_m_30 b I V G R M p x, px_bs]),
   (fun {β}  k => by rw [@px_gI_m_32 b I V G R M p , px_bs]),
   (fun {β} x k => by rw [@px_pI_m_32 b I V G R M p x, px_bs]),
   (fun {β}  k => by rw [@px_gI_m_33 b I V G R M p , px_bs]),
   (fun {β} x k => by rw [@px_pI_m_33 b I V G R M p x, px_bs]),
   (fun {β} x k => by rw [@px_pZ_m_28 b I V G R M p x]; split <;> rfl),
   (fun {β}  k => by rw [@px_gR_m_1 b I V G R M p , px_bs]),
   (fun {β}  k => by rw [@px_gR_m_3 b I V G R M p , px_bs]),
   (fun {β}  k => by rw [@px_gR_m_4 b I V G R M p , px_bs]),
   (fun {β}  k => by rw [@px_gR_m_6 b I V G R M p , px_bs]),
   (fun {β}  k => by rw [@px_gR_m_7 b I V G R M p , px_bs]),
   (fun {β}  k => by rw [@px_gR_m_8 b I V G R M p , px_bs]),
   (fun {β}  k => by rw [@px_gR_m_9 b I V G R M p , px_bs]),
   (fun {β}  k => by rw [@px_gR_m_11 b I V G R M p , px_bs]),
   (fun {β}  k => by rw [@px_gR_m_12 b I V G R M p , px_bs]),
   (fun {β}  k => by rw [@px_gR_m_13 b I V G R M p , px_bs]),
   (fun {β}  k => by rw [@px_gR_m_14 b I V G R M p , px_bs]),
   (fun {β}  k => by rw [@px_gR_m_15 b I V G R M p , px_bs]),
   (fun {β}  k => by rw [@px_gR_m_16 b I V G R M p , px_bs]),
   (fun {β}  k => by rw [@px_gR_m_17 b I V G R M p , px_bs]),
   (fun {β}  k => by rw [@px_gR_m_18 b I V G R M p , px_bs]),
   (fun {β}  k => by rw [@px_gR_m_19 b I V G R M p , px_bs]),
   (fun {β}  k => by rw [@px_gR_m_20 b I V G R M p , px_bs]),
   (fun {β}  k => by rw [@px_gR_m_21 b I V G R M p , px_bs]),
   (fun {β}  k => by rw [@px_gR_m_22 b I V G R M p , px_bs]),
   (fun {β}  k => by rw [@px_gR_m_31 b I V G R M p , px_bs]),
   (fun {β} y  k => by
    by_cases hy : y < 0 ∨ 1600 ≤ y.toNatClampNeg
    · rw [if_pos hy]; simp only [rc_aI, rc_gA, px_at, px_e317, if_true]; rw [if_pos hy]; rfl
    · rw [if_neg hy]; obtain ⟨e1, e2⟩ := px_cond (by decide) hy; conv => lhs; rw [e1]
      rw [@px_aI_m_1 b I V G R M p _  e2, px_bs]),
   (fun {β} y x k => by
    by_cases hy : y < 0 ∨ 1600 ≤ y.toNatClampNeg
    · rw [if_pos hy]; simp only [rc_sI, rc_gA, px_at, px_e317, if_true]; rw [if_pos hy]; rfl
    · rw [if_neg hy]; obtain ⟨e1, e2⟩ := px_cond (by decide) hy; conv => lhs; rw [e1]
      rw [@px_sI_m_1 b I V G R M p _ x e2, px_bs]),
   (fun {β} y  k => by
    by_cases hy : y < 0 ∨ 102400 ≤ y.toNatClampNeg
    · rw [if_pos hy]; simp only [rc_aI, rc_gA, px_at, px_e318, if_true]; rw [if_pos hy]; rfl
    · rw [if_neg hy]; obtain ⟨e1, e2⟩ := px_cond (by decide) hy; conv => lhs; rw [e1]
      rw [@px_aI_m_3 b I V G R M p _  e2, px_bs]),
   (fun {β} y x k => by
    by_cases hy : y < 0 ∨ 102400 ≤ y.toNatClampNeg
    · rw [if_pos hy]; simp only [rc_sI, rc_gA, px_at, px_e318, if_true]; rw [if_pos hy]; rfl
    · rw [if_neg hy]; obtain ⟨e1, e2⟩ := px_cond (by decide) hy; conv => lhs; rw [e1]
      rw [@px_sI_m_3 b I V G R M p _ x e2, px_bs]),
   (fun {β} y  k => by
    by_cases hy : y < 0 ∨ 64 ≤ y.toNatClampNeg
    · rw [if_pos hy]; simp only [rc_aI, rc_gA, px_at, px_e319, if_true]; rw [if_pos hy]; rfl
    · rw [if_neg hy]; obtain ⟨e1, e2⟩ := px_cond (by decide) hy; conv => lhs; rw [e1]
      rw [@px_aI_m_4 b I V G R M p _  e2, px_bs]),
   (fun {β} y x k => by
    by_cases hy : y < 0 ∨ 64 ≤ y.toNatClampNeg
    · rw [if_pos hy]; simp only [rc_sI, rc_gA, px_at, px_e319, if_true]; rw [if_pos hy]; rfl
    · rw [if_neg hy]; obtain ⟨e1, e2⟩ := px_cond (by decide) hy; conv => lhs; rw [e1]
      rw [@px_sI_m_4 b I V G R M p _ x e2, px_bs]),
   (fun {β} y  k => by
    by_cases hy : y < 0 ∨ 1600 ≤ y.toNatClampNeg
    · rw [if_pos hy]; simp only [rc_aI, rc_gA, px_at, px_e320, if_true]; rw [if_pos hy]; rfl
    · rw [if_neg hy]; obtain ⟨e1, e2⟩ := px_cond (by decide) hy; conv => lhs; rw [e1]
      rw [@px_aI_m_6 b I V G R M p _  e2, px_bs]),
   (fun {β} y x k => by
    by_cases hy : y < 0 ∨ 1600 ≤ y.toNatClampNeg
    · rw [if_pos hy]; simp only [rc_sI, rc_gA, px_at, px_e320, if_true]; rw [if_pos hy]; rfl
    · rw [if_neg hy]; obtain ⟨e1, e2⟩ := px_cond (by decide) hy; conv => lhs; rw [e1]
      rw [@px_sI_m_6 b I V G R M p _ x e2, px_bs]),
   (fun {β} y  k => by
    by_cases hy : y < 0 ∨ 656 ≤ y.toNatClampNeg
    · rw [if_pos hy]; simp only [rc_aI, rc_gA, px_at, px_e321, if_true]; rw [if_pos hy]; rfl
    · rw [if_neg hy]; obtain ⟨e1, e2⟩ := px_cond (by decide) hy; conv => lhs; rw [e1]
      rw [@px_aI_m_7 b I V G R M p _  e2, px_bs]),
   (fun {β} y x k => by
    by_cases hy : y < 0 ∨ 656 ≤ y.toNatClampNeg
    · rw [if_pos hy]; simp only [rc_sI, rc_gA, px_at, px_e321, if_true]; rw [if_pos hy]; rfl
    · rw [if_neg hy]; obtain ⟨e1, e2⟩ := px_cond (by decide) hy; conv => lhs; rw [e1]
      rw [@px_sI_m_7 b I V G R M p _ x e2, px_bs]),
   (fun {β} y  k => by
    by_cases hy : y < 0 ∨ 41 ≤ y.toNatClampNeg
    · rw [if_pos hy]; simp only [rc_aI, rc_gA, px_at, px_e322, if_true]; rw [if_pos hy]; rfl
    · rw [if_neg hy]; obtain ⟨e1, e2⟩ := px_cond (by decide) hy; conv => lhs; rw [e1]
      rw [@px_aI_m_8 b I V G R M p _  e2, px_bs]),
   (fun {β} y x k => by
    by_cases hy : y < 0 ∨ 41 ≤ y.toNatClampNeg
    · rw [if_pos hy]; simp only [rc_sI, rc_gA, px_at, px_e322, if_true]; rw [if_pos hy]; rfl
    · rw [if_neg hy]; obtain ⟨e1, e2⟩ := px_cond (by decide) hy; conv => lhs; rw [e1]
      rw [@px_sI_m_8 b I V G R M p _ x e2, px_bs]),
   (fun {β} y  k => by
    by_cases hy : y < 0 ∨ 4800 ≤ y.toNatClampNeg
    · rw [if_pos hy]; simp only [rc_aI, rc_gA, px_at, px_e324, if_true]; rw [if_pos hy]; rfl
    · rw [if_neg hy]; obtain ⟨e1, e2⟩ := px_cond (by decide) hy; conv => lhs; rw [e1]
      rw [@px_aI_m_11 b I V G R M p _  e2, px_bs]),
   (fun {β} y x k => by
    by_cases hy : y < 0 ∨ 4800 ≤ y.toNatClampNeg
    · rw [if_pos hy]; simp only [rc_sI, rc_gA, px_at, px_e324, if_true]; rw [if_pos hy]; rfl
    · rw [if_neg hy]; obtain ⟨e1, e2⟩ := px_cond (by decide) hy; conv => lhs; rw [e1]
      rw [@px_sI_m_11 b I V G R M p _ x e2, px_bs]),
   (fun {β} y  k => by
    by_cases hy : y < 0 ∨ 4 ≤ y.toNatClampNeg
    · rw [if_pos hy]; simp only [rc_aI, rc_gA, px_at, px_e325, if_true]; rw [if_pos hy]; rfl
    · rw [if_neg hy]; obtain ⟨e1, e2⟩ := px_cond (by decide) hy; conv => lhs; rw [e1]
      rw [@px_aI_m_12 b I V G R M p _  e2, px_bs]),
   (fun {β} y x k => by
    by_cases hy : y < 0 ∨ 4 ≤ y.toNatClampNeg
    · rw [if_pos hy]; simp only [rc_sI, rc_gA, px_at, px_e325, if_true]; rw [if_pos hy]; rfl
    · rw [if_neg hy]; obtain ⟨e1, e2⟩ := px_cond (by decide) hy; conv => lhs; rw [e1]
      rw [@px_sI_m_12 b I V G R M p _ x e2, px_bs]),
   (fun {β} y  k => by
    by_cases hy : y < 0 ∨ 4 ≤ y.toNatClampNeg
    · rw [if_pos hy]; simp only [rc_aI, rc_gA, px_at, px_e326, if_true]; rw [if_pos hy]; rfl
    · rw [if_neg hy]; obtain ⟨e1, e2⟩ := px_cond (by decide) hy; conv => lhs; rw [e1]
      rw [@px_aI_m_13 b I V G R M p _  e2, px_bs]),
   (fun {β} y x k => by
    by_cases hy : y < 0 ∨ 4 ≤ y.toNatClampNeg
    · rw [if_pos hy]; simp only [rc_sI, rc_gA, px_at, px_e326, if_true]; rw [if_pos hy]; rfl
    · rw [if_neg hy]; obtain ⟨e1, e2⟩ := px_cond (by decide) hy; conv => lhs; rw [e1]
      rw [@px_sI_m_13 b I V G R M p _ x e2, px_bs]),
   (fun {β} y  k => by
    by_cases hy : y < 0 ∨ 4 ≤ y.toNatClampNeg
    · rw [if_pos hy]; simp only [rc_aI, rc_gA, px_at, px_e327, if_true]; rw [if_pos hy]; rfl
    · rw [if_neg hy]; obtain ⟨e1, e2⟩ := px_cond (by decide) hy; conv => lhs; rw [e1]
      rw [@px_aI_m_14 b I V G R M p _  e2, px_bs]),
   (fun {β} y x k => by
    by_cases hy : y < 0 ∨ 4 ≤ y.toNatClampNeg
    · rw [if_pos hy]; simp only [rc_sI, rc_gA, px_at, px_e327, if_true]; rw [if_pos hy]; rfl
    · rw [if_neg hy]; obtain ⟨e1, e2⟩ := px_cond (by decide) hy; conv => lhs; rw [e1]
      rw [@px_sI_m_14 b I V G R M p _ x e2, px_bs]),
   (fun {β} y  k => by
    by_cases hy : y < 0 ∨ 4 ≤ y.toNatClampNeg
    · rw [if_pos hy]; simp only [rc_aI, rc_gA, px_at, px_e328, if_true]; rw [if_pos hy]; rfl
    · rw [if_neg hy]; obtain ⟨e1, e2⟩ := px_cond (by decide) hy; conv => lhs; rw [e1]
      rw [@px_aI_m_15 b I V G R M p _  e2, px_bs]),
   (fun {β} y x k => by
    by_cases hy : y < 0 ∨ 4 ≤ y.toNatClampNeg
    · rw [if_pos hy]; simp only [rc_sI, rc_gA, px_at, px_e328, if_true]; rw [if_pos hy]; rfl
    · rw [if_neg hy]; obtain ⟨e1, e2⟩ := px_cond (by decide) hy; conv => lhs; rw [e1]
      rw [@px_sI_m_15 b I V G R M p _ x e2, px_bs]),
   (fun {β} y  k => by
    by_cases hy : y < 0 ∨ 4 ≤ y.toNatClampNeg
    · rw [if_pos hy]; simp only [rc_aI, rc_gA, px_at, px_e329, if_true]; rw [if_pos hy]; rfl
    · rw [if_neg hy]; obtain ⟨e1, e2⟩ := px_cond (by decide) hy; conv => lhs; rw [e1]
      rw [@px_aI_m_16 b I V G R M p _  e2, px_bs]),
   (fun {β} y x k => by
    by_cases hy : y < 0 ∨ 4 ≤ y.toNatClampNeg
    · rw [if_pos hy]; simp only [rc_sI, rc_gA, px_at, px_e329, if_true]; rw [if_pos hy]; rfl
    · rw [if_neg hy]; obtain ⟨e1, e2⟩ := px_cond (by decide) hy; conv => lhs; rw [e1]
      rw [@px_sI_m_16 b I V G R M p _ x e2, px_bs]),
   (fun {β} y  k => by
    by_cases hy : y < 0 ∨ 4 ≤ y.toNatClampNeg
    · rw [if_pos hy]; simp only [rc_aI, rc_gA, px_at, px_e330, if_true]; rw [if_pos hy]; rfl
    · rw [if_neg hy]; obtain ⟨e1, e2⟩ := px_cond (by decide) hy; conv => lhs; rw [e1]
      rw [@px_aI_m_17 b I V G R M p _  e2, px_bs]),
   (fun {β} y x k => by
    by_cases hy : y < 0 ∨ 4 ≤ y.toNatClampNeg
    · rw [if_pos hy]; simp only [rc_sI, rc_gA, px_at, px_e330, if_true]; rw [if_pos hy]; rfl
    · rw [if_neg hy]; obtain ⟨e1, e2⟩ := px_cond (by decide) hy; conv => lhs; rw [e1]
      rw [@px_sI_m_17 b I V G R M p _ x e2, px_bs]),
   (fun {β} y  k => by
    by_cases hy : y < 0 ∨ 4 ≤ y.toNatClampNeg
    · rw [if_pos hy]; simp only [rc_aI, rc_gA, px_at, px_e331, if_true]; rw [if_pos hy]; rfl
    · rw [if_neg hy]; obtain ⟨e1, e2⟩ := px_cond (by decide) hy; conv => lhs; rw [e1]
      rw [@px_aI_m_18 b I V G R M p _  e2, px_bs]),
   (fun {β} y x k => by
    by_cases hy : y < 0 ∨ 4 ≤ y.toNatClampNeg
    · rw [if_pos hy]; simp only [rc_sI, rc_gA, px_at, px_e331, if_true]; rw [if_pos hy]; rfl
    · rw [if_neg hy]; obtain ⟨e1, e2⟩ := px_cond (by decide) hy; conv => lhs; rw [e1]
      rw [@px_sI_m_18 b I V G R M p _ x e2, px_bs]),
   (fun {β} y  k => by
    by_cases hy : y < 0 ∨ 32 ≤ y.toNatClampNeg
    · rw [if_pos hy]; simp only [rc_aI, rc_gA, px_at, px_e332, if_true]; rw [if_pos hy]; rfl
    · rw [if_neg hy]; obtain ⟨e1, e2⟩ := px_cond (by decide) hy; conv => lhs; rw [e1]
      rw [@px_aI_m_19 b I V G R M p _  e2, px_bs]),
   (fun {β} y x k => by
    by_cases hy : y < 0 ∨ 32 ≤ y.toNatClampNeg
    · rw [if_pos hy]; simp only [rc_sI, rc_gA, px_at, px_e332, if_true]; rw [if_pos hy]; rfl
    · rw [if_neg hy]; obtain ⟨e1, e2⟩ := px_cond (by decide) hy; conv => lhs; rw [e1]
      rw [@px_sI_m_19 b I V G R M p _ x e2, px_bs]),
   (fun {β} y  k => by
    by_cases hy : y < 0 ∨ 32 ≤ y.toNatClampNeg
    · rw [if_pos hy]; simp only [rc_aI, rc_gA, px_at, px_e333, if_true]; rw [if_pos hy]; rfl
    · rw [if_neg hy]; obtain ⟨e1, e2⟩ := px_cond (by decide) hy; conv => lhs; rw [e1]
      rw [@px_aI_m_20 b I V G R M p _  e2, px_bs]),
   (fun {β} y x k => by
    by_cases hy : y < 0 ∨ 32 ≤ y.toNatClampNeg
    · rw [if_pos hy]; simp only [rc_sI, rc_gA, px_at, px_e333, if_true]; rw [if_pos hy]; rfl
    · rw [if_neg hy]; obtain ⟨e1, e2⟩ := px_cond (by decide) hy; conv => lhs; rw [e1]
      rw [@px_sI_m_20 b I V G R M p _ x e2, px_bs]),
   (fun {β} y  k => by
    by_cases hy : y < 0 ∨ 12800 ≤ y.toNatClampNeg
    · rw [if_pos hy]; simp only [rc_aI, rc_gA, px_at, px_e334, if_true]; rw [if_pos hy]; rfl
    · rw [if_neg hy]; obtain ⟨e1, e2⟩ := px_cond (by decide) hy; conv => lhs; rw [e1]
      rw [@px_aI_m_21 b I V G R M p _  e2, px_bs]),
   (fun {β} y x k => by
    by_cases hy : y < 0 ∨ 12800 ≤ y.toNatClampNeg
    · rw [if_pos hy]; simp only [rc_sI, rc_gA, px_at, px_e334, if_true]; rw [if_pos hy]; rfl
    · rw [if_neg hy]; obtain ⟨e1, e2⟩ := px_cond (by decide) hy; conv => lhs; rw [e1]
      rw [@px_sI_m_21 b I V G R M p _ x e2, px_bs]),
   (fun {β} y  k => by
    by_cases hy : y < 0 ∨ 4 ≤ y.toNatClampNeg
    · rw [if_pos hy]; simp only [rc_aI, rc_gA, px_at, px_e335, if_true]; rw [if_pos hy]; rfl
    · rw [if_neg hy]; obtain ⟨e1, e2⟩ := px_cond (by decide) hy; conv => lhs; rw [e1]
      rw [@px_aI_m_22 b I V G R M p _  e2, px_bs]),
   (fun {β} y x k => by
    by_cases hy : y < 0 ∨ 4 ≤ y.toNatClampNeg
    · rw [if_pos hy]; simp only [rc_sI, rc_gA, px_at, px_e335, if_true]; rw [if_pos hy]; rfl
    · rw [if_neg hy]; obtain ⟨e1, e2⟩ := px_cond (by decide) hy; conv => lhs; rw [e1]
      rw [@px_sI_m_22 b I V G R M p _ x e2, px_bs]),
   (fun {β} y  k => by
    by_cases hy : y < 0 ∨ 400 ≤ y.toNatClampNeg
    · rw [if_pos hy]; simp only [rc_aI, rc_gA, px_at, px_e336, if_true]; rw [if_pos hy]; rfl
    · rw [if_neg hy]; obtain ⟨e1, e2⟩ := px_cond (by decide) hy; conv => lhs; rw [e1]
      rw [@px_aI_m_31 b I V G R M p _  e2, px_bs]),
   (fun {β} y x k => by
    by_cases hy : y < 0 ∨ 400 ≤ y.toNatClampNeg
    · rw [if_pos hy]; simp only [rc_sI, rc_gA, px_at, px_e336, if_true]; rw [if_pos hy]; rfl
    · rw [if_neg hy]; obtain ⟨e1, e2⟩ := px_cond (by decide) hy; conv => lhs; rw [e1]
      rw [@px_sI_m_31 b I V G R M p _ x e2, px_bs]),
   (fun {β} y  k => by
    by_cases hy : y < 0 ∨ 41 ≤ y.toNatClampNeg
    · rw [if_pos hy]; simp only [rc_aL, rc_gA, px_at, px_e323, if_true]; rw [if_pos hy]; rfl
    · rw [if_neg hy]; obtain ⟨e1, e2⟩ := px_cond (by decide) hy; conv => lhs; rw [e1]
      rw [@px_aL_323 b I V G R M p _  e2, px_bs]),
   (fun {β} y x k => by
    by_cases hy : y < 0 ∨ 41 ≤ y.toNatClampNeg
    · rw [if_pos hy]; simp only [rc_sL, rc_gA, px_at, px_e323, if_true]; rw [if_pos hy]; rfl
    · rw [if_neg hy]; obtain ⟨e1, e2⟩ := px_cond (by decide) hy; conv => lhs; rw [e1]
      rw [@px_sL_323 b I V G R M p _ x e2, px_bs])⟩
theorem px_cB {b : Nat} {I : Nat → Nat → Int32} {V : Nat → Nat → Int64} {G : Nat → Nat → Nat} {R : Nat → List UInt8} {M : Nat → Nat → Int32} {p : px_P}  : (∀ {β : Type}  (k : Nat → Option β), (rc_rc (px_W b I V G R M p) (some (b + 0)) 0).bind k = k (b + 0)) ∧
  (∀ {β : Type}  (k : Int32 → Option β), (rc_gI (px_W b I V G R M p) (some (b + 0)) 0 6).bind k = k (I 0 6)) ∧
  (∀ {β : Type} (x : Int32) (k : rc_M → Option β), (rc_pI (px_W b I V G R M p) (some (b + 0)) 0 6 x).bind k = k (px_W b (px_u2 I 0 6 x) V G R M p)) ∧
  (∀ {β : Type}  (k : Option Nat → Option β), (rc_gR (px_W b I V G R M p) (some (b + 0)) 0 0).bind k = k (some (b + 1))) ∧
  (∀ {β : Type}  (k : Option Nat → Option β), (rc_gR (px_W b I V G R M p) (some (b + 0)) 0 1).bind k = k (some (b + 3))) ∧
  (∀ {β : Type}  (k : Option Nat → Option β), (rc_gR (px_W b I V G R M p) (some (b + 0)) 0 2).bind k = k (some (b + 4))) ∧
  (∀ {β : Type}  (k : Option Nat → Option β), (rc_gR (px_W b I V G R M p) (some (b + 0)) 0 3).bind k = k (some (b + 5))) ∧
  (∀ {β : Type}  (k : Option Nat → Option β), (rc_gR (px_W b I V G R M p) (some (b + 0)) 0 4).bind k = k (some (b + 96))) ∧
  (∀ {β : Type}  (k : Option Nat → Option β), (rc_gR (px_W b I V G R M p) (some (b + 0)) 0 5).bind k = k (some (b + 98))) ∧
  (∀ {β : Type}  (k : Nat → Option β), (rc_rc (px_W b I V G R M p) (some (b + 5)) 2).bind k = k (b + 5)) ∧
  (∀ {β : Type}  (k : Int32 → Option β), (rc_gI (px_W b I V G R M p) (some (b + 5)) 2 3).bind k = k (I 5 3)) ∧
  (∀ {β : Type} (x : Int32) (k : rc_M → Option β), (rc_pI (px_W b I V G R M p) (some (b + 5)) 2 3 x).bind k = k (px_W b (px_u2 I 5 3 x) V G R M p)) ∧
  (∀ {β : Type}  (k : Int32 → Option β), (rc_gI (px_W b I V G R M p) (some (b + 5)) 2 4).bind k = k (I 5 4)) ∧
  (∀ {β : Type} (x : Int32) (k : rc_M → Option β), (rc_pI (px_W b I V G R M p) (some (b + 5)) 2 4 x).bind k = k (px_W b (px_u2 I 5 4 x) V G R M p)) ∧
  (∀ {β : Type}  (k : Int32 → Option β), (rc_gI (px_W b I V G R M p) (some (b + 5)) 2 5).bind k = k (I 5 5)) ∧
  (∀ {β : Type} (x : Int32) (k : rc_M → Option β), (rc_pI (px_W b I V G R M p) (some (b + 5)) 2 5 x).bind k = k (px_W b (px_u2 I 5 5 x) V G R M p)) ∧
  (∀ {β : Type}  (k : Int32 → Option β), (rc_gI (px_W b I V G R M p) (some (b + 5)) 2 8).bind k = k (I 5 8)) ∧
  (∀ {β : Type} (x : Int32) (k : rc_M → Option β), (rc_pI (px_W b I V G R M p) (some (b + 5)) 2 8 x).bind k = k (px_W b (px_u2 I 5 8 x) V G R M p)) ∧
  (∀ {β : Type}  (k : Int32 → Option β), (rc_gI (px_W b I V G R M p) (some (b + 5)) 2 9).bind k = k (I 5 9)) ∧
  (∀ {β : Type} (x : Int32) (k : rc_M → Option β), (rc_pI (px_W b I V G R M p) (some (b + 5)) 2 9 x).bind k = k (px_W b (px_u2 I 5 9 x) V G R M p)) ∧
  (∀ {β : Type}  (k : Int32 → Option β), (rc_gI (px_W b I V G R M p) (some (b + 5)) 2 11).bind k = k (I 5 11)) ∧
  (∀ {β : Type} (x : Int32) (k : rc_M → Option β), (rc_pI (px_W b I V G R M p) (some (b + 5)) 2 11 x).bind k = k (px_W b (px_u2 I 5 11 x) V G R M p)) ∧
  (∀ {β : Type}  (k : Int32 → Option β), (rc_gI (px_W b I V G R M p) (some (b + 5)) 2 12).bind k = k (I 5 12)) ∧
  (∀ {β : Type} (x : Int32) (k : rc_M → Option β), (rc_pI (px_W b I V G R M p) (some (b + 5)) 2 12 x).bind k = k (px_W b (px_u2 I 5 12 x) V G R M p)) ∧
  (∀ {β : Type}  (k : Option Nat → Option β), (rc_gR (px_W b I V G R M p) (some (b + 5)) 2 0).bind k = k (some (b + 6))) ∧
  (∀ {β : Type}  (k : Option Nat → Option β), (rc_gR (px_W b I V G R M p) (some (b + 5)) 2 1).bind k = k (some (b + 89))) ∧
  (∀ {β : Type}  (k : Option Nat → Option β), (rc_gR (px_W b I V G R M p) (some (b + 5)) 2 2).bind k = k (some (b + 92))) ∧
  (∀ {β : Type}  (k : Option Nat → Option β), (rc_gR (px_W b I V G R M p) (some (b + 5)) 2 6).bind k = k (some (b + 94))) ∧
  (∀ {β : Type}  (k : Option Nat → Option β), (rc_gR (px_W b I V G R M p) (some (b + 5)) 2 7).bind k = k (some (b + 95))) ∧
  (∀ {β : Type}  (k : Nat → Option β), (rc_rc (px_W b I V G R M p) (some (b + 6)) 3).bind k = k (b + 6)) ∧
  (∀ {β : Type}  (k : Int32 → Option β), (rc_gI (px_W b I V G R M p) (some (b + 6)) 3 2).bind k = k (I 6 2)) ∧
  (∀ {β : Type} (x : Int32) (k : rc_M → Option β), (rc_pI (px_W b I V G R M p) (some (b + 6)) 3 2 x).bind k = k (px_W b (px_u2 I 6 2 x) V G R M p)) ∧
  (∀ {β : Type}  (k : Option Nat → Option β), (rc_gR (px_W b I V G R M p) (some (b + 6)) 3 0).bind k = k (some (b + 7))) ∧
  (∀ {β : Type}  (k : Option Nat → Option β), (rc_gR (px_W b I V G R M p) (some (b + 6)) 3 1).bind k = k (some (b + 8))) ∧
  (∀ {β : Type}  (k : Nat → Option β), (rc_rc (px_W b I V G R M p) (some (b + 89)) 4).bind k = k (b + 89)) ∧
  (∀ {β : Type}  (k : Int32 → Option β), (rc_gI (px_W b I V G R M p) (some (b + 89)) 4 1).bind k = k (I 89 1)) ∧
  (∀ {β : Type} (x : Int32) (k : rc_M → Option β), (rc_pI (px_W b I V G R M p) (some (b + 89)) 4 1 x).bind k = k (px_W b (px_u2 I 89 1 x) V G R M p)) ∧
  (∀ {β : Type}  (k : Int32 → Option β), (rc_gI (px_W b I V G R M p) (some (b + 89)) 4 2).bind k = k (I 89 2)) ∧
  (∀ {β : Type} (x : Int32) (k : rc_M → Option β), (rc_pI (px_W b I V G R M p) (some (b + 89)) 4 2 x).bind k = k (px_W b (px_u2 I 89 2 x) V G R M p)) ∧
  (∀ {β : Type} (x : Int32) (k : rc_M → Option β), (rc_pZ (px_W b I V G R M p) (some (b + 89)) 4 2 x).bind k = if x = 0 ∨ x = 1 then k (px_W b (px_u2 I 89 2 x) V G R M p) else none) ∧
  (∀ {β : Type}  (k : Option Nat → Option β), (rc_gR (px_W b I V G R M p) (some (b + 89)) 4 0).bind k = k (some (b + G 89 0))) ∧
  (∀ {β : Type} (r : Nat) (k : rc_M → Option β), (rc_pR (px_W b I V G R M p) (some (b + 89)) 4 0 (some (b + r))).bind k = k (px_W b I V (px_u2 G 89 0 r) R M p)) ∧
  (∀ {β : Type}  (k : Int64 → Option β), (rc_gL (px_W b I V G R M p) (some (b + 5)) 2 10).bind k = k (V 5 10)) ∧
  (∀ {β : Type} (x : Int64) (k : rc_M → Option β), (rc_pL (px_W b I V G R M p) (some (b + 5)) 2 10 x).bind k = k (px_W b I (px_u2 V 5 10 x) G R M p)) ∧
  (∀ {β : Type} (y : Int32) (k : Int32 → Option β), (rc_aI (px_W b I V G R M p) (some (b + 94)) 0 y).bind k = if y < 0 ∨ 8 ≤ y.toNatClampNeg then none else k (I 94 y.toNatClampNeg)) ∧
  (∀ {β : Type} (y : Int32) (x : Int32) (k : rc_M → Option β), (rc_sI (px_W b I V G R M p) (some (b + 94)) 0 y x).bind k = if y < 0 ∨ 8 ≤ y.toNatClampNeg then none else k (px_W b (px_u2 I 94 y.toNatClampNeg x) V G R M p)) ∧
  (∀ {β : Type} (y : Int32) (k : Int32 → Option β), (rc_aI (px_W b I V G R M p) (some (b + 95)) 0 y).bind k = if y < 0 ∨ 8 ≤ y.toNatClampNeg then none else k (I 95 y.toNatClampNeg)) ∧
  (∀ {β : Type} (y : Int32) (x : Int32) (k : rc_M → Option β), (rc_sI (px_W b I V G R M p) (some (b + 95)) 0 y x).bind k = if y < 0 ∨ 8 ≤ y.toNatClampNeg then none else k (px_W b (px_u2 I 95 y.toNatClampNeg x) V G R M p)) ∧
  (∀ {β : Type} (y : Int32) (k : Int64 → Option β), (rc_aL (px_W b I V G R M p) (some (b + 8)) y).bind k = if y < 0 ∨ 40 ≤ y.toNatClampNeg then none else k (V 8 y.toNatClampNeg)) ∧
  (∀ {β : Type} (y : Int32) (x : Int64) (k : rc_M → Option β), (rc_sL (px_W b I V G R M p) (some (b + 8)) y x).bind k = if y < 0 ∨ 40 ≤ y.toNatClampNeg then none else k (px_W b I (px_u2 V 8 y.toNatClampNeg x) G R M p)) ∧
  (∀ {β : Type} (y : Int32) (k : Int64 → Option β), (rc_aL (px_W b I V G R M p) (some (b + 337)) y).bind k = if y < 0 ∨ 1 ≤ y.toNatClampNeg then none else k (V 337 y.toNatClampNeg)) ∧
  (∀ {β : Type} (y : Int32) (x : Int64) (k : rc_M → Option β), (rc_sL (px_W b I V G R M p) (some (b + 337)) y x).bind k = if y < 0 ∨ 1 ≤ y.toNatClampNeg then none else k (px_W b I (px_u2 V 337 y.toNatClampNeg x) G R M p)) ∧
  (∀ {β : Type} (y : Int32) (k : Option Nat → Option β), (rc_aR (px_W b I V G R M p) (some (b + 3)) 4 y).bind k = if y < 0 ∨ 64 ≤ y.toNatClampNeg then none else k (some (b + (100 + 2 * y.toNatClampNeg)))) ∧
  (∀ {β : Type} (y : Int32) (k : Option Nat → Option β), (rc_aR (px_W b I V G R M p) (some (b + 4)) 5 y).bind k = if y < 0 ∨ 4 ≤ y.toNatClampNeg then none else k (some (b + (228 + 22 * y.toNatClampNeg)))) ∧
  (∀ {β : Type} (y : Int32) (k : Option Nat → Option β), (rc_aR (px_W b I V G R M p) (some (b + 7)) 4 y).bind k = if y < 0 ∨ 40 ≤ y.toNatClampNeg then none else k (some (b + G 7 y.toNatClampNeg))) :=
  ⟨(fun {β}  k => by rw [@px_rc_0 b I V G R M p , px_bs]),
   (fun {β}  k => by rw [@px_gI_0_6 b I V G R M p , px_bs]),
   (fun {β} x k => by rw [@px_pI_0_6 b I V G R M p x, px_bs]),
   (fun {β}  k => by rw [@px_gR_0_0 b I V G R M p , px_bs]),
   (fun {β}  k => by rw [@px_gR_0_1 b I V G R M p , px_bs]),
   (fun {β}  k => by rw [@px_gR_0_2 b I V G R M p , px_bs]),
   (fun {β}  k => by rw [@px_gR_0_3 b I V G R M p , px_bs]),
   (fun {β}  k => by rw [@px_gR_0_4 b I V G R M p , px_bs]),
   (fun {β}  k => by rw [@px_gR_0_5 b I V G R M p , px_bs]),
   (fun {β}  k => by rw [@px_rc_5 b I V G R M p , px_bs]),
   (fun {β}  k => by rw [@px_gI_5_3 b I V G R M p , px_bs]),
   (fun {β} x k => by rw [@px_pI_5_3 b I V G R M p x, px_bs]),
   (fun {β}  k => by rw [@px_gI_5_4 b I V G R M p , px_bs]),
   (fun {β} x k => by rw [@px_pI_5_4 b I V G R M p x, px_bs]),
   (fun {β}  k => by rw [@px_gI_5_5 b I V G R M p , px_bs]),
   (fun {β} x k => by rw [@px_pI_5_5 b I V G R M p x, px_bs]),
   (fun {β}  k => by rw [@px_gI_5_8 b I V G R M p , px_bs]),
   (fun {β} x k => by rw [@px_pI_5_8 b I V G R M p x, px_bs]),
   (fun {β}  k => by rw [@px_gI_5_9 b I V G R M p , px_bs]),
   (fun {β} x k => by rw [@px_pI_5_9 b I V G R M p x, px_bs]),
   (fun {β}  k => by rw [@px_gI_5_11 b I V G R M p , px_bs]),
   (fun {β} x k => by rw [@px_pI_5_11 b I V G R M p x, px_bs]),
   (fun {β}  k => by rw [@px_gI_5_12 b I V G R M p , px_bs]),
   (fun {β} x k => by rw [@px_pI_5_12 b I V G R M p x, px_bs]),
   (fun {β}  k => by rw [@px_gR_5_0 b I V G R M p , px_bs]),
   (fun {β}  k => by rw [@px_gR_5_1 b I V G R M p , px_bs]),
   (fun {β}  k => by rw [@px_gR_5_2 b I V G R M p , px_bs]),
   (fun {β}  k => by rw [@px_gR_5_6 b I V G R M p , px_bs]),
   (fun {β}  k => by rw [@px_gR_5_7 b I V G R M p , px_bs]),
   (fun {β}  k => by rw [@px_rc_6 b I V G R M p , px_bs]),
   (fun {β}  k => by rw [@px_gI_6_2 b I V G R M p , px_bs]),
   (fun {β} x k => by rw [@px_pI_6_2 b I V G R M p x, px_bs]),
   (fun {β}  k => by rw [@px_gR_6_0 b I V G R M p , px_bs]),
   (fun {β}  k => by rw [@px_gR_6_1 b I V G R M p , px_bs]),
   (fun {β}  k => by rw [@px_rc_89 b I V G R M p , px_bs]),
   (fun {β}  k => by rw [@px_gI_89_1 b I V G R M p , px_bs]),
   (fun {β} x k => by rw [@px_pI_89_1 b I V G R M p x, px_bs]),
   (fun {β}  k => by rw [@px_gI_89_2 b I V G R M p , px_bs]),
   (fun {β} x k => by rw [@px_pI_89_2 b I V G R M p x, px_bs]),
   (fun {β} x k => by rw [@px_pZ_89_2 b I V G R M p x]; split <;> rfl),
   (fun {β}  k => by rw [@px_gR_89_0 b I V G R M p , px_bs]),
   (fun {β} r k => by rw [@px_pR_89 b I V G R M p r, px_bs]),
   (fun {β}  k => by rw [@px_gL_5 b I V G R M p , px_bs]),
   (fun {β} x k => by rw [@px_pL_5 b I V G R M p x, px_bs]),
   (fun {β} y  k => by
    by_cases hy : y < 0 ∨ 8 ≤ y.toNatClampNeg
    · rw [if_pos hy]; simp only [rc_aI, rc_gA, px_at, px_e94, if_true]; rw [if_pos hy]; rfl
    · rw [if_neg hy]; obtain ⟨e1, e2⟩ := px_cond (by decide) hy; conv => lhs; rw [e1]
      rw [@px_aI_94 b I V G R M p _  e2, px_bs]),
   (fun {β} y x k => by
    by_cases hy : y < 0 ∨ 8 ≤ y.toNatClampNeg
    · rw [if_pos hy]; simp only [rc_sI, rc_gA, px_at, px_e94, if_true]; rw [if_pos hy]; rfl
    · rw [if_neg hy]; obtain ⟨e1, e2⟩ := px_cond (by decide) hy; conv => lhs; rw [e1]
      rw [@px_sI_94 b I V G R M p _ x e2, px_bs]),
   (fun {β} y  k => by
    by_cases hy : y < 0 ∨ 8 ≤ y.toNatClampNeg
    · rw [if_pos hy]; simp only [rc_aI, rc_gA, px_at, px_e95, if_true]; rw [if_pos hy]; rfl
    · rw [if_neg hy]; obtain ⟨e1, e2⟩ := px_cond (by decide) hy; conv => lhs; rw [e1]
      rw [@px_aI_95 b I V G R M p _  e2, px_bs]),
   (fun {β} y x k => by
    by_cases hy : y < 0 ∨ 8 ≤ y.toNatClampNeg
    · rw [if_pos hy]; simp only [rc_sI, rc_gA, px_at, px_e95, if_true]; rw [if_pos hy]; rfl
    · rw [if_neg hy]; obtain ⟨e1, e2⟩ := px_cond (by decide) hy; conv => lhs; rw [e1]
      rw [@px_sI_95 b I V G R M p _ x e2, px_bs]),
   (fun {β} y  k => by
    by_cases hy : y < 0 ∨ 40 ≤ y.toNatClampNeg
    · rw [if_pos hy]; simp only [rc_aL, rc_gA, px_at, px_e8, if_true]; rw [if_pos hy]; rfl
    · rw [if_neg hy]; obtain ⟨e1, e2⟩ := px_cond (by decide) hy; conv => lhs; rw [e1]
      rw [@px_aL_8 b I V G R M p _  e2, px_bs]),
   (fun {β} y x k => by
    by_cases hy : y < 0 ∨ 40 ≤ y.toNatClampNeg
    · rw [if_pos hy]; simp only [rc_sL, rc_gA, px_at, px_e8, if_true]; rw [if_pos hy]; rfl
    · rw [if_neg hy]; obtain ⟨e1, e2⟩ := px_cond (by decide) hy; conv => lhs; rw [e1]
      rw [@px_sL_8 b I V G R M p _ x e2, px_bs]),
   (fun {β} y  k => by
    by_cases hy : y < 0 ∨ 1 ≤ y.toNatClampNeg
    · rw [if_pos hy]; simp only [rc_aL, rc_gA, px_at, px_e337, if_true]; rw [if_pos hy]; rfl
    · rw [if_neg hy]; obtain ⟨e1, e2⟩ := px_cond (by decide) hy; conv => lhs; rw [e1]
      rw [@px_aL_337 b I V G R M p _  e2, px_bs]),
   (fun {β} y x k => by
    by_cases hy : y < 0 ∨ 1 ≤ y.toNatClampNeg
    · rw [if_pos hy]; simp only [rc_sL, rc_gA, px_at, px_e337, if_true]; rw [if_pos hy]; rfl
    · rw [if_neg hy]; obtain ⟨e1, e2⟩ := px_cond (by decide) hy; conv => lhs; rw [e1]
      rw [@px_sL_337 b I V G R M p _ x e2, px_bs]),
   (fun {β} y  k => by
    by_cases hy : y < 0 ∨ 64 ≤ y.toNatClampNeg
    · rw [if_pos hy]; simp only [rc_aR, rc_gA, px_at, px_e3, if_true]; rw [if_pos hy]; rfl
    · rw [if_neg hy]; obtain ⟨e1, e2⟩ := px_cond (by decide) hy; conv => lhs; rw [e1]
      rw [@px_aR_3 b I V G R M p _  e2, px_bs]),
   (fun {β} y  k => by
    by_cases hy : y < 0 ∨ 4 ≤ y.toNatClampNeg
    · rw [if_pos hy]; simp only [rc_aR, rc_gA, px_at, px_e4, if_true]; rw [if_pos hy]; rfl
    · rw [if_neg hy]; obtain ⟨e1, e2⟩ := px_cond (by decide) hy; conv => lhs; rw [e1]
      rw [@px_aR_4 b I V G R M p _  e2, px_bs]),
   (fun {β} y  k => by
    by_cases hy : y < 0 ∨ 40 ≤ y.toNatClampNeg
    · rw [if_pos hy]; simp only [rc_aR, rc_gA, px_at, px_e7, if_true]; rw [if_pos hy]; rfl
    · rw [if_neg hy]; obtain ⟨e1, e2⟩ := px_cond (by decide) hy; conv => lhs; rw [e1]
      rw [@px_aR_7 b I V G R M p _  e2, px_bs])⟩
theorem px_kB {b : Nat} {I : Nat → Nat → Int32} {V : Nat → Nat → Int64} {G : Nat → Nat → Nat} {R : Nat → List UInt8} {M : Nat → Nat → Int32} {p : px_P} (c : Nat) (hc : c < 4) : (∀ {β : Type}  (k : Nat → Option β), (rc_rc (px_W b I V G R M p) (some (b + (228 + 22 * c))) 5).bind k = k (b + (228 + 22 * c))) ∧
  (∀ {β : Type}  (k : Int32 → Option β), (rc_gI (px_W b I V G R M p) (some (b + (228 + 22 * c))) 5 2).bind k = k (I (228 + 22 * c) 2)) ∧
  (∀ {β : Type} (x : Int32) (k : rc_M → Option β), (rc_pI (px_W b I V G R M p) (some (b + (228 + 22 * c))) 5 2 x).bind k = k (px_W b (px_u2 I (228 + 22 * c) 2 x) V G R M p)) ∧
  (∀ {β : Type}  (k : Int32 → Option β), (rc_gI (px_W b I V G R M p) (some (b + (228 + 22 * c))) 5 3).bind k = k (I (228 + 22 * c) 3)) ∧
  (∀ {β : Type} (x : Int32) (k : rc_M → Option β), (rc_pI (px_W b I V G R M p) (some (b + (228 + 22 * c))) 5 3 x).bind k = k (px_W b (px_u2 I (228 + 22 * c) 3 x) V G R M p)) ∧
  (∀ {β : Type}  (k : Int32 → Option β), (rc_gI (px_W b I V G R M p) (some (b + (228 + 22 * c))) 5 4).bind k = k (I (228 + 22 * c) 4)) ∧
  (∀ {β : Type} (x : Int32) (k : rc_M → Option β), (rc_pI (px_W b I V G R M p) (some (b + (228 + 22 * c))) 5 4 x).bind k = k (px_W b (px_u2 I (228 + 22 * c) 4 x) V G R M p)) ∧
  (∀ {β : Type}  (k : Int32 → Option β), (rc_gI (px_W b I V G R M p) (some (b + (228 + 22 * c))) 5 5).bind k = k (I (228 + 22 * c) 5)) ∧
  (∀ {β : Type} (x : Int32) (k : rc_M → Option β), (rc_pI (px_W b I V G R M p) (some (b + (228 + 22 * c))) 5 5 x).bind k = k (px_W b (px_u2 I (228 + 22 * c) 5 x) V G R M p)) ∧
  (∀ {β : Type}  (k : Option Nat → Option β), (rc_gR (px_W b I V G R M p) (some (b + (228 + 22 * c))) 5 0).bind k = k (some (b + (229 + 22 * c)))) ∧
  (∀ {β : Type}  (k : Option Nat → Option β), (rc_gR (px_W b I V G R M p) (some (b + (228 + 22 * c))) 5 1).bind k = k (some (b + (231 + 22 * c)))) ∧
  (∀ {β : Type}  (k : Nat → Option β), (rc_rc (px_W b I V G R M p) (some (b + (231 + 22 * c))) 6).bind k = k (b + (231 + 22 * c))) ∧
  (∀ {β : Type}  (k : Int32 → Option β), (rc_gI (px_W b I V G R M p) (some (b + (231 + 22 * c))) 6 2).bind k = k (I (231 + 22 * c) 2)) ∧
  (∀ {β : Type} (x : Int32) (k : rc_M → Option β), (rc_pI (px_W b I V G R M p) (some (b + (231 + 22 * c))) 6 2 x).bind k = k (px_W b (px_u2 I (231 + 22 * c) 2 x) V G R M p)) ∧
  (∀ {β : Type}  (k : Int32 → Option β), (rc_gI (px_W b I V G R M p) (some (b + (231 + 22 * c))) 6 3).bind k = k (I (231 + 22 * c) 3)) ∧
  (∀ {β : Type} (x : Int32) (k : rc_M → Option β), (rc_pI (px_W b I V G R M p) (some (b + (231 + 22 * c))) 6 3 x).bind k = k (px_W b (px_u2 I (231 + 22 * c) 3 x) V G R M p)) ∧
  (∀ {β : Type}  (k : Option Nat → Option β), (rc_gR (px_W b I V G R M p) (some (b + (231 + 22 * c))) 6 0).bind k = k (some (b + (232 + 22 * c)))) ∧
  (∀ {β : Type}  (k : Option Nat → Option β), (rc_gR (px_W b I V G R M p) (some (b + (231 + 22 * c))) 6 1).bind k = k (some (b + (233 + 22 * c)))) ∧
  (∀ {β : Type} (x : Int32) (k : rc_M → Option β), (rc_pZ (px_W b I V G R M p) (some (b + (228 + 22 * c))) 5 2 x).bind k = if x = 0 ∨ x = 1 then k (px_W b (px_u2 I (228 + 22 * c) 2 x) V G R M p) else none) ∧
  (∀ {β : Type} (y : Int32) (k : Int32 → Option β), (rc_aI (px_W b I V G R M p) (some (b + (233 + 22 * c))) 0 y).bind k = if y < 0 ∨ 8 ≤ y.toNatClampNeg then none else k (I (233 + 22 * c) y.toNatClampNeg)) ∧
  (∀ {β : Type} (y : Int32) (x : Int32) (k : rc_M → Option β), (rc_sI (px_W b I V G R M p) (some (b + (233 + 22 * c))) 0 y x).bind k = if y < 0 ∨ 8 ≤ y.toNatClampNeg then none else k (px_W b (px_u2 I (233 + 22 * c) y.toNatClampNeg x) V G R M p)) ∧
  (∀ {β : Type} (y : Int32) (k : Option Nat → Option β), (rc_aR (px_W b I V G R M p) (some (b + (232 + 22 * c))) 4 y).bind k = if y < 0 ∨ 8 ≤ y.toNatClampNeg then none else k (some (b + (234 + 22 * c + 2 * y.toNatClampNeg)))) :=
  ⟨(fun {β}  k => by rw [@px_rc_c b I V G R M p c hc , px_bs]),
   (fun {β}  k => by rw [@px_gI_c_2 b I V G R M p c hc , px_bs]),
   (fun {β} x k => by rw [@px_pI_c_2 b I V G R M p c hc x, px_bs]),
   (fun {β}  k => by rw [@px_gI_c_3 b I V G R M p c hc , px_bs]),
   (fun {β} x k => by rw [@px_pI_c_3 b I V G R M p c hc x, px_bs]),
   (fun {β}  k => by rw [@px_gI_c_4 b I V G R M p c hc , px_bs]),
   (fun {β} x k => by rw [@px_pI_c_4 b I V G R M p c hc x, px_bs]),
   (fun {β}  k => by rw [@px_gI_c_5 b I V G R M p c hc , px_bs]),
   (fun {β} x k => by rw [@px_pI_c_5 b I V G R M p c hc x, px_bs]),
   (fun {β}  k => by rw [@px_gR_c_0 b I V G R M p c hc , px_bs]),
   (fun {β}  k => by rw [@px_gR_c_1 b I V G R M p c hc , px_bs]),
   (fun {β}  k => by rw [@px_rc_r b I V G R M p c hc , px_bs]),
   (fun {β}  k => by rw [@px_gI_r_2 b I V G R M p c hc , px_bs]),
   (fun {β} x k => by rw [@px_pI_r_2 b I V G R M p c hc x, px_bs]),
   (fun {β}  k => by rw [@px_gI_r_3 b I V G R M p c hc , px_bs]),
   (fun {β} x k => by rw [@px_pI_r_3 b I V G R M p c hc x, px_bs]),
   (fun {β}  k => by rw [@px_gR_r_0 b I V G R M p c hc , px_bs]),
   (fun {β}  k => by rw [@px_gR_r_1 b I V G R M p c hc , px_bs]),
   (fun {β} x k => by rw [@px_pZ_c_2 b I V G R M p c hc x]; split <;> rfl),
   (fun {β} y  k => by
    by_cases hy : y < 0 ∨ 8 ≤ y.toNatClampNeg
    · rw [if_pos hy]; simp only [rc_aI, rc_gA, px_at, px_eno c hc, if_true]; rw [if_pos hy]; rfl
    · rw [if_neg hy]; obtain ⟨e1, e2⟩ := px_cond (by decide) hy; conv => lhs; rw [e1]
      rw [@px_aI_no b I V G R M p c hc _  e2, px_bs]),
   (fun {β} y x k => by
    by_cases hy : y < 0 ∨ 8 ≤ y.toNatClampNeg
    · rw [if_pos hy]; simp only [rc_sI, rc_gA, px_at, px_eno c hc, if_true]; rw [if_pos hy]; rfl
    · rw [if_neg hy]; obtain ⟨e1, e2⟩ := px_cond (by decide) hy; conv => lhs; rw [e1]
      rw [@px_sI_no b I V G R M p c hc _ x e2, px_bs]),
   (fun {β} y  k => by
    by_cases hy : y < 0 ∨ 8 ≤ y.toNatClampNeg
    · rw [if_pos hy]; simp only [rc_aR, rc_gA, px_at, px_ers c hc, if_true]; rw [if_pos hy]; rfl
    · rw [if_neg hy]; obtain ⟨e1, e2⟩ := px_cond (by decide) hy; conv => lhs; rw [e1]
      rw [@px_aR_p b I V G R M p c hc _  e2, px_bs])⟩
