/-! THE LAW, 3: what the constructors make -/
def px_I0 (o k : Nat) : Int32 := if o = 89 ∧ k = 2 then 1 else 0
def px_G0 (o k : Nat) : Nat := if o = 7 then 9 + 2 * k else 90
def px_E (b o : Nat) : Option rc_E := px_ent b o (px_I0 o) (fun _ => 0) (px_G0 o) [] (fun _ => 0) 0
abbrev px_rW : Option rc_E := some (.inr (.inr (0, [])))
def px_no (o : Nat) : Bool := !px_rw o && !(o == 0) && !(o == 3) && !(o == 4) && !(o == 5) && !(o == 6) && !(o == 7) && !(o == 8) && !(o == 89) && !(o == 94) && !(o == 95) && !(o == 316) && !(o == 323) && !(o == 337) && !(decide (317 ≤ o) && decide (o < 337)) && !(decide (228 ≤ o) && decide (o < 316) && ((o - 228) % 22 == 0 || (o - 228) % 22 == 3 || (o - 228) % 22 == 4 || (o - 228) % 22 == 5))
theorem px_E_no (b o : Nat) (h : px_no o = true) : px_E b o = none := by
  simp only [px_no, Bool.and_eq_true, Bool.not_eq_true', beq_eq_false_iff_ne, ne_eq] at h
  obtain ⟨⟨⟨⟨⟨⟨⟨⟨⟨⟨⟨⟨⟨⟨⟨h0, h1⟩, h2⟩, h3⟩, h4⟩, h5⟩, h6⟩, h7⟩, h8⟩, h9⟩, h10⟩, h11⟩, h12⟩, h13⟩, h14⟩, h15⟩ := h
  have g14 : ¬ (317 ≤ o ∧ o < 337) := fun z => by
    rw [decide_eq_true z.1, decide_eq_true z.2] at h14
    cases h14
  unfold px_E px_ent
  rw [h0, if_neg (by decide), if_neg h1, if_neg h2, if_neg h3, if_neg h4, if_neg h5, if_neg h6, if_neg h7, if_neg h8, if_neg (fun z => z.elim h9 h10), if_neg h11, if_neg h12, if_neg h13, if_neg g14]
  by_cases q : 228 ≤ o ∧ o < 316
  · rw [decide_eq_true q.1, decide_eq_true q.2, Bool.true_and, Bool.true_and] at h15
    simp only [Bool.or_eq_false_iff, beq_eq_false_iff_ne, ne_eq] at h15
    rw [if_pos q, if_neg h15.1.1.1, if_neg h15.1.1.2, if_neg h15.1.2, if_neg h15.2]
  · rw [if_neg q]
theorem px_E_row (b o : Nat) (h : px_rw o = true) : px_E b o = px_rW := px_row_ent o _ _ _ _ _ _ h
theorem px_n_S : ∀ i : Fin 64, px_no (100 + 2 * i.val + 1) = true := by decide +kernel
theorem px_n_K : ∀ i : Fin 40, px_no (9 + 2 * i.val + 1) = true := by decide +kernel
theorem px_n_P : ∀ c : Fin 4, ∀ i : Fin 8, px_no (234 + 22 * c.val + 2 * i.val + 1) = true := by decide +kernel
theorem px_n_G : ∀ c : Fin 4, px_no (229 + 22 * c.val + 1) = true := by decide +kernel
theorem px_n_big (o : Nat) (h : 338 ≤ o) : px_no o = true := by
  have hr : px_rw o = false := by
    cases q : px_rw o with
    | false => rfl
    | true => exact absurd (px_rw_lt q) (by omega)
  have e1 : ∀ k, k < 338 → (o == k) = false := fun k hk => by rw [beq_eq_false_iff_ne]; omega
  unfold px_no
  rw [hr, e1 0 (by omega), e1 3 (by omega), e1 4 (by omega), e1 5 (by omega), e1 6 (by omega), e1 7 (by omega), e1 8 (by omega), e1 89 (by omega), e1 94 (by omega), e1 95 (by omega), e1 316 (by omega), e1 323 (by omega), e1 337 (by omega), decide_eq_false (show ¬ o < 337 by omega), decide_eq_false (show ¬ o < 316 by omega), Bool.and_false, Bool.and_false, Bool.false_and]
  rfl
theorem px_rm : 600000 ≤ rc_rmC ∧ 7000000 ≤ rc_rmS := ⟨Nat.le_of_ble_eq_true rfl, Nat.le_of_ble_eq_true rfl⟩
/-- a world of the cells from b on -/
def px_L (b : Nat) (m : Nat → Option rc_E) (k t : Nat) : rc_M := (fun q => if q < b then none else m (q - b), b + k, t, b + rc_rmC, rc_rmS)
section PX
variable {b k t : Nat} {m : Nat → Option rc_E}
theorem pi_at (o : Nat) : (px_L b m k t).1 (b + o) = m o := by
  show (if b + o < b then none else m (b + o - b)) = m o
  rw [if_neg (by omega), Nat.add_sub_cancel_left]
theorem pi_upd (o : Nat) (y : Option rc_E) : va_up (px_L b m k t).1 (b + o) y = (px_L b (va_up m o y) k t).1 := by
  funext q
  show va_up (fun q => if q < b then none else m (q - b)) (b + o) y q = if q < b then none else va_up m o y (q - b)
  unfold va_up
  by_cases h : q = b + o
  · subst h
    rw [if_pos rfl, if_neg (by omega), Nat.add_sub_cancel_left, if_pos rfl]
  · rw [if_neg h]
    dsimp only
    by_cases h2 : q < b
    · rw [if_pos h2, if_pos h2]
    · rw [if_neg h2, if_neg h2, if_neg (by omega)]
theorem pi_new (ci : Nat) (hk : k < 600000) (ht : t + rc_N ci ≤ 7000000) : rc_new (px_L b m k t) ci = some (b + k, px_L b (va_up m k (some (.inl (ci, rc_dflt ci)))) (k + 1) (t + rc_N ci)) := by
  have := px_rm
  unfold rc_new rc_push
  rw [if_pos ⟨show b + k + 1 ≤ b + rc_rmC by omega, show t + rc_N ci ≤ rc_rmS by omega⟩]
  show some (b + k, (va_up (px_L b m k t).1 (b + k) _, b + k + 1, t + rc_N ci, _)) = _
  rw [pi_upd]
  rfl
theorem pi_newA (kd n : Nat) (hk : k < 600000) (hn : n ≤ 1000000) (ht : t + n ≤ 7000000) : rc_newA (px_L b m k t) kd (nI n) = some (b + k, px_L b (va_up m k (some (.inr (.inl (kd, n, rc_arr0 kd))))) (k + 1) (t + n)) := by
  have := px_rm
  unfold rc_newA rc_push
  rw [if_neg (nI_pos (by omega)), nI_clamp (by omega), if_pos ⟨show b + k + 1 ≤ b + rc_rmC by omega, show t + n ≤ rc_rmS by omega, hn⟩]
  show some (b + k, (va_up (px_L b m k t).1 (b + k) _, b + k + 1, t + n, _)) = _
  rw [pi_upd]
  rfl
theorem pi_row (F : Nat → Value) (hk : k + 2 ≤ 600000) (ht : t ≤ 7000000) : g_row_init (px_L b (va_up m k (some (.inl (1, F)))) (k + 1) t) (b + k) = some (px_L b (va_up m k px_rW) (k + 2) t) := by
  have := px_rm
  unfold g_row_init
  rw [pi_at, px_va_eq]
  exact (if_pos ⟨show b + (k + 1) + 1 ≤ b + rc_rmC by omega, show t ≤ rc_rmS by omega, show b + k ≠ b + (k + 1) by omega⟩).trans (by rw [pi_upd, px_va_va]; rfl)
/-- new Row() -/
theorem pi_newRow {β : Type} (K : Nat → rc_M → Option β) (hk : k + 2 ≤ 600000) (ht : t + 2 ≤ 7000000) : ((rc_new (px_L b m k t) 1).bind fun p => (g_row_init p.2 p.1).bind fun w => K p.1 w) = K (b + k) (px_L b (va_up m k px_rW) (k + 2) (t + 2)) := by
  rw [px_bnd (pi_new 1 (by omega) (by show t + 2 ≤ 7000000; omega))]
  dsimp only
  rw [px_bnd (pi_row _ hk (by show t + 2 ≤ 7000000; omega))]
  rfl
theorem pi_pV (o ci j : Nat) (F : Nat → Value) (v : Value) (h : m o = some (.inl (ci, F))) : rc_pV (px_L b m k t) (some (b + o)) ci j v = some (px_L b (va_up m o (some (.inl (ci, updV F j v)))) k t) := by
  unfold rc_pV
  dsimp only
  rw [pi_at, h]
  dsimp only
  rw [if_pos rfl]
  unfold rc_up
  rw [pi_upd]
  rfl
theorem pi_pR (o ci j a : Nat) (F : Nat → Value) (h : m o = some (.inl (ci, F))) : rc_pR (px_L b m k t) (some (b + o)) ci j (some (b + a)) = some (px_L b (va_up m o (some (.inl (ci, updV F j (.ref (b + a)))))) k t) := pi_pV o ci j F _ h
theorem pi_pI (o ci j : Nat) (x : Int32) (F : Nat → Value) (h : m o = some (.inl (ci, F))) : rc_pI (px_L b m k t) (some (b + o)) ci j x = some (px_L b (va_up m o (some (.inl (ci, updV F j (.int x))))) k t) := pi_pV o ci j F _ h
theorem pi_pL (o ci j : Nat) (x : Int64) (F : Nat → Value) (h : m o = some (.inl (ci, F))) : rc_pL (px_L b m k t) (some (b + o)) ci j x = some (px_L b (va_up m o (some (.inl (ci, updV F j (.long x))))) k t) := pi_pV o ci j F _ h
theorem pi_pZ (o ci j : Nat) (x : Int32) (F : Nat → Value) (hx : x = 0 ∨ x = 1) (h : m o = some (.inl (ci, F))) : rc_pZ (px_L b m k t) (some (b + o)) ci j x = some (px_L b (va_up m o (some (.inl (ci, updV F j (.int x))))) k t) := by
  unfold rc_pZ
  rw [if_pos hx]
  exact pi_pV o ci j F _ h
theorem pi_gR (o ci j a : Nat) (F : Nat → Value) (h : m o = some (.inl (ci, F))) (hF : F j = .ref (b + a)) : rc_gR (px_L b m k t) (some (b + o)) ci j = some (some (b + a)) := by
  unfold rc_gR rc_gV
  dsimp only
  rw [pi_at, h]
  dsimp only
  rw [if_pos rfl, hF]
theorem pi_sR (o kd ci n i y : Nat) (f : Nat → Option Nat) (h : m o = some (.inr (.inl (kd, n, .inr (.inr f))))) (hi : i < n) (hn : n < 2 ^ 31) (hy : (∃ F, m y = some (.inl (ci, F))) ∨ (ci = 1 ∧ m y = px_rW)) : rc_sR (px_L b m k t) (some (b + o)) kd ci (nI i) (some (b + y)) = some (px_L b (va_up m o (some (.inr (.inl (kd, n, .inr (.inr (va_up f i (some (b + y))))))))) k t) := by
  have hc : rc_isC (px_L b m k t) (b + y) ci = true := by
    unfold rc_isC
    rw [pi_at]
    rcases hy with ⟨F, hy⟩ | ⟨h1, hy⟩
    · rw [hy]; simp
    · rw [hy, h1]; rfl
  have hg : rc_gA (px_L b m k t) (some (b + o)) kd = some (b + o, n, .inr (.inr f)) := by
    unfold rc_gA
    dsimp only
    rw [pi_at, h]
    dsimp only
    rw [if_pos rfl]
  unfold rc_sR
  rw [hg]
  dsimp only
  rw [nI_clamp (by omega), if_neg (fun z => z.elim (nI_pos (by omega)) (fun u => by omega)), if_pos hc]
  unfold rc_up
  rw [pi_upd]
  rfl
theorem pi_arr (b k0 i : Nat) (d : Nat) : va_up (fun j => if j < i then some (b + (k0 + d * j)) else none) i (some (b + (k0 + d * i))) = fun j => if j < i + 1 then some (b + (k0 + d * j)) else none := by
  funext j
  unfold va_up
  by_cases q : j = i
  · rw [if_pos q, if_pos (by omega), q]
  · rw [if_neg q]
    dsimp only
    by_cases q2 : j < i
    · rw [if_pos q2, if_pos (by omega)]
    · rw [if_neg q2, if_neg (by omega)]
/-- the rows of a connection's replies -/
theorem pi_rpl_go (o a k0 : Nat) (E : Nat → Option rc_E) (F : Nat → Value) (hE : ∀ j, j < 8 → E (k0 + 2 * j) = px_rW ∧ E (k0 + 2 * j + 1) = none) (hF : F 0 = .ref (b + a)) (hoa : o ≠ a) (ho : o < k0) (ha : a < k0) (hk : k0 < 1000) : ∀ (r i f t : Nat) (m : Nat → Option rc_E), 8 = i + r → r < f → t + 2 * r ≤ 10000 → m o = some (.inl (6, F)) → m a = some (.inr (.inl (4, 8, .inr (.inr (fun j => if j < i then some (b + (k0 + 2 * j)) else none))))) → (∀ q, k0 + 2 * i ≤ q → m q = none) → (∀ q, k0 ≤ q → q < k0 + 2 * i → m q = E q) → ∃ m', b_rpl_init_33 f (px_L b m (k0 + 2 * i) t) (b + o) (nI i) = some (px_L b m' (k0 + 16) (t + 2 * r)) ∧ m' a = some (.inr (.inl (4, 8, .inr (.inr (fun j => if j < 8 then some (b + (k0 + 2 * j)) else none))))) ∧ (∀ q, k0 + 16 ≤ q → m' q = none) ∧ (∀ q, k0 ≤ q → q < k0 + 16 → m' q = E q) ∧ (∀ q, q < k0 → q ≠ a → m' q = m q) := by
  intro r
  induction r with
  | zero =>
    intro i f t m hi hf ht h1 h2 h3 h4
    obtain ⟨f, rfl⟩ : ∃ q, f = q + 1 := ⟨f - 1, by omega⟩
    have e8 : i = 8 := by omega
    subst e8
    rw [b_rpl_init_33, if_pos (by decide)]
    exact ⟨m, rfl, h2, h3, h4, fun _ _ _ => rfl⟩
  | succ r ih =>
    intro i f t m hi hf ht h1 h2 h3 h4
    obtain ⟨f, rfl⟩ : ∃ q, f = q + 1 := ⟨f - 1, by omega⟩
    rw [b_rpl_init_33, if_neg (by rw [show (8 : Int32) = nI 8 from rfl]; exact nI_ge (by omega) (by decide)), px_bnd (pi_gR o 6 0 a F h1 hF)]
    rw [pi_newRow (fun p4 w6 => (rc_sR w6 (some (b + a)) 4 1 (nI i) (some p4)).bind fun w8 => b_rpl_init_33 f w8 (b + o) (nI i + 1)) (by omega) (by omega)]
    have h2' : va_up m (k0 + 2 * i) px_rW a = _ := (px_va_ne _ _ _ _ (by omega)).trans h2
    rw [px_bnd (pi_sR a 4 1 8 i (k0 + 2 * i) _ h2' (by omega) (by decide) (Or.inr ⟨rfl, px_va_eq _ _ _⟩)), nI_1, pi_arr, show k0 + 2 * i + 2 = k0 + 2 * (i + 1) by omega]
    obtain ⟨m', a1, a2, a3, a4, a5⟩ := ih (i + 1) f (t + 2) (va_up (va_up m (k0 + 2 * i) px_rW) a (some (.inr (.inl (4, 8, .inr (.inr (fun j => if j < i + 1 then some (b + (k0 + 2 * j)) else none))))))) (by omega) (by omega) (by omega) (by rw [px_va_ne _ _ _ _ hoa, px_va_ne _ _ _ _ (by omega)]; exact h1) (px_va_eq _ _ _) (fun q hq => by rw [px_va_ne _ _ _ _ (by omega), px_va_ne _ _ _ _ (by omega)]; exact h3 q (by omega)) (fun q q1 q2 => by
      rw [px_va_ne _ _ _ _ (by omega)]
      by_cases z : q = k0 + 2 * i
      · rw [z, px_va_eq, (hE i (by omega)).1]
      · rw [px_va_ne _ _ _ _ z]
        by_cases z2 : q = k0 + 2 * i + 1
        · rw [z2, (hE i (by omega)).2]; exact h3 _ (by omega)
        · exact h4 q q1 (by omega))
    refine ⟨m', ?_, a2, a3, a4, fun q q1 q2 => by rw [a5 q q1 q2, px_va_ne _ _ _ _ q2, px_va_ne _ _ _ _ (by omega)]⟩
    rw [a1, show t + 2 + 2 * r = t + 2 * (r + 1) by omega]
end PX
