/-! THE LAW, 4: the constructors -/
section PX
variable {b k t : Nat} {m : Nat → Option rc_E}
/-- the rows of the map's keys -/
theorem pi_map_go (o a k0 : Nat) (E : Nat → Option rc_E) (F : Nat → Value) (hE : ∀ j, j < 40 → E (k0 + 2 * j) = px_rW ∧ E (k0 + 2 * j + 1) = none) (hF : F 0 = .ref (b + a)) (hoa : o ≠ a) (ho : o < k0) (ha : a < k0) (hk : k0 < 1000) : ∀ (r i f t : Nat) (m : Nat → Option rc_E), 40 = i + r → r < f → t + 2 * r ≤ 10000 → m o = some (.inl (3, F)) → m a = some (.inr (.inl (4, 40, .inr (.inr (fun j => if j < i then some (b + (k0 + 2 * j)) else none))))) → (∀ q, k0 + 2 * i ≤ q → m q = none) → (∀ q, k0 ≤ q → q < k0 + 2 * i → m q = E q) → ∃ m', b_map_init_28 f (px_L b m (k0 + 2 * i) t) (b + o) (nI i) = some (px_L b m' (k0 + 80) (t + 2 * r)) ∧ m' a = some (.inr (.inl (4, 40, .inr (.inr (fun j => if j < 40 then some (b + (k0 + 2 * j)) else none))))) ∧ (∀ q, k0 + 80 ≤ q → m' q = none) ∧ (∀ q, k0 ≤ q → q < k0 + 80 → m' q = E q) ∧ (∀ q, q < k0 → q ≠ a → m' q = m q) := by
  intro r
  induction r with
  | zero =>
    intro i f t m hi hf ht h1 h2 h3 h4
    obtain ⟨f, rfl⟩ : ∃ q, f = q + 1 := ⟨f - 1, by omega⟩
    have e40 : i = 40 := by omega
    subst e40
    rw [b_map_init_28, if_pos (by decide)]
    exact ⟨m, rfl, h2, h3, h4, fun _ _ _ => rfl⟩
  | succ r ih =>
    intro i f t m hi hf ht h1 h2 h3 h4
    obtain ⟨f, rfl⟩ : ∃ q, f = q + 1 := ⟨f - 1, by omega⟩
    rw [b_map_init_28, if_neg (by rw [show (40 : Int32) = nI 40 from rfl]; exact nI_ge (by omega) (by decide)), px_bnd (pi_gR o 3 0 a F h1 hF)]
    rw [pi_newRow (fun p4 w6 => (rc_sR w6 (some (b + a)) 4 1 (nI i) (some p4)).bind fun w8 => b_map_init_28 f w8 (b + o) (nI i + 1)) (by omega) (by omega)]
    have h2' : va_up m (k0 + 2 * i) px_rW a = _ := (px_va_ne _ _ _ _ (by omega)).trans h2
    rw [px_bnd (pi_sR a 4 1 40 i (k0 + 2 * i) _ h2' (by omega) (by decide) (Or.inr ⟨rfl, px_va_eq _ _ _⟩)), nI_1, pi_arr, show k0 + 2 * i + 2 = k0 + 2 * (i + 1) by omega]
    obtain ⟨m', a1, a2, a3, a4, a5⟩ := ih (i + 1) f (t + 2) (va_up (va_up m (k0 + 2 * i) px_rW) a (some (.inr (.inl (4, 40, .inr (.inr (fun j => if j < i + 1 then some (b + (k0 + 2 * j)) else none))))))) (by omega) (by omega) (by omega) (by rw [px_va_ne _ _ _ _ hoa, px_va_ne _ _ _ _ (by omega)]; exact h1) (px_va_eq _ _ _) (fun q hq => by rw [px_va_ne _ _ _ _ (by omega), px_va_ne _ _ _ _ (by omega)]; exact h3 q (by omega)) (fun q q1 q2 => by
      rw [px_va_ne _ _ _ _ (by omega)]
      by_cases z : q = k0 + 2 * i
      · rw [z, px_va_eq, (hE i (by omega)).1]
      · rw [px_va_ne _ _ _ _ z]
        by_cases z2 : q = k0 + 2 * i + 1
        · rw [z2, (hE i (by omega)).2]; exact h3 _ (by omega)
        · exact h4 q q1 (by omega))
    refine ⟨m', ?_, a2, a3, a4, fun q q1 q2 => by rw [a5 q q1 q2, px_va_ne _ _ _ _ q2, px_va_ne _ _ _ _ (by omega)]⟩
    rw [a1, show t + 2 + 2 * r = t + 2 * (r + 1) by omega]
/-- the rows of the slots -/
theorem pi_slots_go (o a k0 : Nat) (E : Nat → Option rc_E) (F : Nat → Value) (hE : ∀ j, j < 64 → E (k0 + 2 * j) = px_rW ∧ E (k0 + 2 * j + 1) = none) (hF : F 1 = .ref (b + a)) (hoa : o ≠ a) (ho : o < k0) (ha : a < k0) (hk : k0 < 1000) : ∀ (r i f t : Nat) (m : Nat → Option rc_E), 64 = i + r → r < f → t + 2 * r ≤ 10000 → m o = some (.inl (0, F)) → m a = some (.inr (.inl (4, 64, .inr (.inr (fun j => if j < i then some (b + (k0 + 2 * j)) else none))))) → (∀ q, k0 + 2 * i ≤ q → m q = none) → (∀ q, k0 ≤ q → q < k0 + 2 * i → m q = E q) → ∃ m', b_rec_init_72 f (px_L b m (k0 + 2 * i) t) (b + o) (nI i) = b_rec_init_99 5000 (px_L b m' (k0 + 128) (t + 2 * r)) (b + o) 0 ∧ m' a = some (.inr (.inl (4, 64, .inr (.inr (fun j => if j < 64 then some (b + (k0 + 2 * j)) else none))))) ∧ (∀ q, k0 + 128 ≤ q → m' q = none) ∧ (∀ q, k0 ≤ q → q < k0 + 128 → m' q = E q) ∧ (∀ q, q < k0 → q ≠ a → m' q = m q) := by
  intro r
  induction r with
  | zero =>
    intro i f t m hi hf ht h1 h2 h3 h4
    obtain ⟨f, rfl⟩ : ∃ q, f = q + 1 := ⟨f - 1, by omega⟩
    have e64 : i = 64 := by omega
    subst e64
    rw [b_rec_init_72, if_pos (by decide)]
    exact ⟨m, rfl, h2, h3, h4, fun _ _ _ => rfl⟩
  | succ r ih =>
    intro i f t m hi hf ht h1 h2 h3 h4
    obtain ⟨f, rfl⟩ : ∃ q, f = q + 1 := ⟨f - 1, by omega⟩
    rw [b_rec_init_72, if_neg (by rw [show (64 : Int32) = nI 64 from rfl]; exact nI_ge (by omega) (by decide)), px_bnd (pi_gR o 0 1 a F h1 hF)]
    rw [pi_newRow (fun p4 w6 => (rc_sR w6 (some (b + a)) 4 1 (nI i) (some p4)).bind fun w8 => b_rec_init_72 f w8 (b + o) (nI i + 1)) (by omega) (by omega)]
    have h2' : va_up m (k0 + 2 * i) px_rW a = _ := (px_va_ne _ _ _ _ (by omega)).trans h2
    rw [px_bnd (pi_sR a 4 1 64 i (k0 + 2 * i) _ h2' (by omega) (by decide) (Or.inr ⟨rfl, px_va_eq _ _ _⟩)), nI_1, pi_arr, show k0 + 2 * i + 2 = k0 + 2 * (i + 1) by omega]
    obtain ⟨m', a1, a2, a3, a4, a5⟩ := ih (i + 1) f (t + 2) (va_up (va_up m (k0 + 2 * i) px_rW) a (some (.inr (.inl (4, 64, .inr (.inr (fun j => if j < i + 1 then some (b + (k0 + 2 * j)) else none))))))) (by omega) (by omega) (by omega) (by rw [px_va_ne _ _ _ _ hoa, px_va_ne _ _ _ _ (by omega)]; exact h1) (px_va_eq _ _ _) (fun q hq => by rw [px_va_ne _ _ _ _ (by omega), px_va_ne _ _ _ _ (by omega)]; exact h3 q (by omega)) (fun q q1 q2 => by
      rw [px_va_ne _ _ _ _ (by omega)]
      by_cases z : q = k0 + 2 * i
      · rw [z, px_va_eq, (hE i (by omega)).1]
      · rw [px_va_ne _ _ _ _ z]
        by_cases z2 : q = k0 + 2 * i + 1
        · rw [z2, (hE i (by omega)).2]; exact h3 _ (by omega)
        · exact h4 q q1 (by omega))
    refine ⟨m', ?_, a2, a3, a4, fun q q1 q2 => by rw [a5 q q1 q2, px_va_ne _ _ _ _ q2, px_va_ne _ _ _ _ (by omega)]⟩
    rw [a1, show t + 2 + 2 * r = t + 2 * (r + 1) by omega]

theorem pi_nA {k' t' : Nat} (kd n : Nat) (hk : k < 600000) (hn : n ≤ 1000000) (ht : t + n ≤ 7000000) (e1 : k + 1 = k') (e2 : t + n = t') : rc_newA (px_L b m k t) kd (nI n) = some (b + k, px_L b (va_up m k (some (.inr (.inl (kd, n, rc_arr0 kd))))) k' t') := by
  subst e1 e2
  exact pi_newA kd n hk hn ht
theorem pi_nO {k' t' : Nat} (ci : Nat) (hk : k < 600000) (ht : t + rc_N ci ≤ 7000000) (e1 : k + 1 = k') (e2 : t + rc_N ci = t') : rc_new (px_L b m k t) ci = some (b + k, px_L b (va_up m k (some (.inl (ci, rc_dflt ci)))) k' t') := by
  subst e1 e2
  exact pi_new ci hk ht
theorem pi_nR {k' t' : Nat} {β : Type} (K : Nat → rc_M → Option β) (hk : k + 2 ≤ 600000) (ht : t + 2 ≤ 7000000) (e1 : k + 2 = k') (e2 : t + 2 = t') : ((rc_new (px_L b m k t) 1).bind fun p => (g_row_init p.2 p.1).bind fun w => K p.1 w) = K (b + k) (px_L b (va_up m k px_rW) k' t') := by
  subst e1 e2
  exact pi_newRow K hk ht
theorem px_I0_0 (o : Nat) (h : o ≠ 89) : px_I0 o = fun _ => 0 := by
  funext j
  unfold px_I0
  rw [if_neg (fun z => h z.1)]
theorem pi_F6 (o : Nat) : updV (updV (updV (updV (rc_dflt 6) 0 (.ref (b + (o + 1)))) 1 (.ref (b + (o + 2)))) 2 (.int 0)) 3 (.int 0) = px_F6 b o (fun _ => 0) := by
  funext j
  match j with
  | 0 => rfl
  | 1 => rfl
  | 2 => rfl
  | 3 => rfl
  | j + 4 => simp [updV, px_F6]; rfl
theorem pi_F5 (o : Nat) : updV (updV (updV (updV (updV (updV (rc_dflt 5) 0 (.ref (b + (o + 1)))) 1 (.ref (b + (o + 3)))) 2 (.int 0)) 3 (.int 0)) 4 (.int 0)) 5 (.int 0) = px_F5 b o (fun _ => 0) := by
  funext j
  match j with
  | 0 => rfl
  | 1 => rfl
  | 2 => rfl
  | 3 => rfl
  | 4 => rfl
  | 5 => rfl
  | j + 6 => simp [updV, px_F5]; rfl
theorem pi_F3 : updV (updV (updV (rc_dflt 3) 0 (.ref (b + 7))) 1 (.ref (b + 8))) 2 (.int 0) = px_F3 b (fun _ => 0) := by
  funext j
  match j with
  | 0 => rfl
  | 1 => rfl
  | 2 => rfl
  | j + 3 => simp [updV, px_F3]; rfl
theorem pi_F4 : updV (updV (updV (rc_dflt 4) 0 (.ref (b + 90))) 1 (.int 0)) 2 (.int 1) = px_F4 b (px_I0 89) (px_G0 89) := by
  funext j
  match j with
  | 0 => rfl
  | 1 => rfl
  | 2 => rfl
  | j + 3 => simp [updV, px_F4, px_I0]; rfl
theorem pi_F2 : updV (updV (updV (updV (updV (updV (updV (updV (updV (updV (updV (updV (updV (rc_dflt 2) 0 (.ref (b + 6))) 1 (.ref (b + 89))) 2 (.ref (b + 92))) 3 (.int 0)) 4 (.int 0)) 5 (.int 0)) 6 (.ref (b + 94))) 7 (.ref (b + 95))) 8 (.int 0)) 9 (.int 0)) 10 (.long 0)) 11 (.int 0)) 12 (.int 0) = px_F2 b (fun _ => 0) (fun _ => 0) := by
  funext j
  match j with
  | 0 => rfl
  | 1 => rfl
  | 2 => rfl
  | 3 => rfl
  | 4 => rfl
  | 5 => rfl
  | 6 => rfl
  | 7 => rfl
  | 8 => rfl
  | 9 => rfl
  | 10 => rfl
  | 11 => rfl
  | 12 => rfl
  | j + 13 => simp [updV, px_F2]; rfl
theorem pi_F0 : updV (updV (updV (updV (updV (updV (updV (rc_dflt 0) 0 (.ref (b + 1))) 1 (.ref (b + 3))) 2 (.ref (b + 4))) 3 (.ref (b + 5))) 4 (.ref (b + 96))) 5 (.ref (b + 98))) 6 (.int 0) = px_F0 b (fun _ => 0) := by
  funext j
  match j with
  | 0 => rfl
  | 1 => rfl
  | 2 => rfl
  | 3 => rfl
  | 4 => rfl
  | 5 => rfl
  | 6 => rfl
  | j + 7 => simp [updV, px_F0]; rfl
/-- how far a constructor is: its object, the cells behind it, the cells that wait -/
def px_J (b : Nat) (m0 : Nat → Option rc_E) (o : Nat) (hl : Nat → Prop) (m : Nat → Option rc_E) (k : Nat) (x : Option rc_E) : Prop := m o = x ∧ (∀ q, o < q → q < k → ¬ hl q → m q = px_E b q) ∧ (∀ q, k ≤ q → m q = none) ∧ (∀ q, q < o ∨ hl q → m q = m0 q)
variable {m0 : Nat → Option rc_E} {o : Nat} {hl : Nat → Prop} {y : Option rc_E}
theorem px_J.put (h : px_J b m0 o hl m k y) (y' : Option rc_E) (ho : o < k) (hh : ¬ hl o) : px_J b m0 o hl (va_up m o y') k y' :=
  ⟨px_va_eq _ _ _, fun q q1 q2 q3 => by rw [px_va_ne _ _ _ _ (by omega)]; exact h.2.1 q q1 q2 q3, fun q q1 => by rw [px_va_ne _ _ _ _ (by omega)]; exact h.2.2.1 q q1, fun q q1 => by
    rw [px_va_ne _ _ _ _ (by rintro rfl; exact q1.elim (fun z => by omega) hh)]; exact h.2.2.2 q q1⟩
theorem px_J.cell {k' : Nat} (h : px_J b m0 o hl m k y) (X : Option rc_E) (hX : px_E b k = X) (ho : o < k) (hh : ∀ q, hl q → q < k) (e1 : k + 1 = k') : px_J b m0 o hl (va_up m k X) k' y := by
  subst e1
  refine ⟨by rw [px_va_ne _ _ _ _ (by omega)]; exact h.1, fun q q1 q2 q3 => ?_, fun q q1 => by rw [px_va_ne _ _ _ _ (by omega)]; exact h.2.2.1 q (by omega), fun q q1 => ?_⟩
  · by_cases z : q = k
    · rw [z, px_va_eq, hX]
    · rw [px_va_ne _ _ _ _ z]; exact h.2.1 q q1 (by omega) q3
  · rw [px_va_ne _ _ _ _ (by
      rintro rfl
      exact q1.elim (fun z => by omega) (fun z => by have := hh _ z; omega))]
    exact h.2.2.2 q q1
theorem px_J.row {k' : Nat} (h : px_J b m0 o hl m k y) (h1 : px_rw k = true) (h2 : px_no (k + 1) = true) (ho : o < k) (hh : ∀ q, hl q → q < k) (e1 : k + 2 = k') : px_J b m0 o hl (va_up m k px_rW) k' y := by
  subst e1
  have g := h.cell (k' := k + 1) px_rW (px_E_row b k h1) ho hh rfl
  refine ⟨g.1, fun q q1 q2 q3 => ?_, fun q q1 => g.2.2.1 q (by omega), g.2.2.2⟩
  by_cases z : q = k + 1
  · rw [z, px_E_no b _ h2]; exact g.2.2.1 _ (by omega)
  · exact g.2.1 q q1 (by omega) q3
theorem px_J.hole {k' : Nat} (h : px_J b m0 o hl m k y) (X : Option rc_E) (ho : o < k) (hh : ∀ q, hl q → q < k) (e1 : k + 1 = k') : px_J b (va_up m0 k X) o (fun q => hl q ∨ q = k) (va_up m k X) k' y := by
  subst e1
  refine ⟨by rw [px_va_ne _ _ _ _ (by omega)]; exact h.1, fun q q1 q2 q3 => ?_, fun q q1 => by rw [px_va_ne _ _ _ _ (by omega)]; exact h.2.2.1 q (by omega), fun q q1 => ?_⟩
  · rw [px_va_ne _ _ _ _ (fun z => q3 (Or.inr z))]
    exact h.2.1 q q1 (by
      have : q ≠ k := fun z => q3 (Or.inr z)
      omega) (fun z => q3 (Or.inl z))
  · by_cases z : q = k
    · rw [z, px_va_eq, px_va_eq]
    · rw [px_va_ne _ _ _ _ z, px_va_ne _ _ _ _ z]
      exact h.2.2.2 q (q1.imp id (fun u => u.resolve_right z))
variable {ci : Nat} {F : Nat → Value}
theorem px_J.pR (h : px_J b m0 o hl m k (some (.inl (ci, F)))) (j a : Nat) (ho : o < k) (hh : ¬ hl o) : ∃ m', (∀ t, rc_pR (px_L b m k t) (some (b + o)) ci j (some (b + a)) = some (px_L b m' k t)) ∧ px_J b m0 o hl m' k (some (.inl (ci, updV F j (.ref (b + a))))) := ⟨_, fun t => pi_pR o ci j a F h.1, h.put _ ho hh⟩
theorem px_J.pI (h : px_J b m0 o hl m k (some (.inl (ci, F)))) (j : Nat) (x : Int32) (ho : o < k) (hh : ¬ hl o) : ∃ m', (∀ t, rc_pI (px_L b m k t) (some (b + o)) ci j x = some (px_L b m' k t)) ∧ px_J b m0 o hl m' k (some (.inl (ci, updV F j (.int x)))) := ⟨_, fun t => pi_pI o ci j x F h.1, h.put _ ho hh⟩
theorem px_J.pL (h : px_J b m0 o hl m k (some (.inl (ci, F)))) (j : Nat) (x : Int64) (ho : o < k) (hh : ¬ hl o) : ∃ m', (∀ t, rc_pL (px_L b m k t) (some (b + o)) ci j x = some (px_L b m' k t)) ∧ px_J b m0 o hl m' k (some (.inl (ci, updV F j (.long x)))) := ⟨_, fun t => pi_pL o ci j x F h.1, h.put _ ho hh⟩
theorem px_J.pZ (h : px_J b m0 o hl m k (some (.inl (ci, F)))) (j : Nat) (x : Int32) (hx : x = 0 ∨ x = 1) (ho : o < k) (hh : ¬ hl o) : ∃ m', (∀ t, rc_pZ (px_L b m k t) (some (b + o)) ci j x = some (px_L b m' k t)) ∧ px_J b m0 o hl m' k (some (.inl (ci, updV F j (.int x)))) := ⟨_, fun t => pi_pZ o ci j x F hx h.1, h.put _ ho hh⟩
theorem px_J.nA (h : px_J b m0 o hl m k y) (k' kd n : Nat) (hX : px_E b k = some (.inr (.inl (kd, n, rc_arr0 kd)))) (hk : k < 600000) (hn : n ≤ 1000000) (ho : o < k) (hh : ∀ q, hl q → q < k) (e1 : k + 1 = k') : ∃ m', (∀ t t', t + n ≤ 7000000 → t + n = t' → rc_newA (px_L b m k t) kd (nI n) = some (b + k, px_L b m' k' t')) ∧ px_J b m0 o hl m' k' y := ⟨_, fun t t' g1 g2 => pi_nA kd n hk hn g1 e1 g2, h.cell _ hX ho hh e1⟩
theorem px_J.nR (h : px_J b m0 o hl m k y) (k' : Nat) (h1 : px_rw k = true) (h2 : px_no (k + 1) = true) (hk : k + 2 ≤ 600000) (ho : o < k) (hh : ∀ q, hl q → q < k) (e1 : k + 2 = k') : ∃ m', (∀ {β : Type} (K : Nat → rc_M → Option β) (t t' : Nat), t + 2 ≤ 7000000 → t + 2 = t' → ((rc_new (px_L b m k t) 1).bind fun p => (g_row_init p.2 p.1).bind fun w => K p.1 w) = K (b + k) (px_L b m' k' t')) ∧ px_J b m0 o hl m' k' y := ⟨_, fun K t t' g1 g2 => pi_nR K hk g1 e1 g2, h.row h1 h2 ho hh e1⟩
/-- an object inside, made by its own constructor -/
theorem px_J.sub {m' : Nat → Option rc_E} (h : px_J b m0 o hl m k y) (k' : Nat) (X : Option rc_E) (ho : o < k) (hh : ∀ q, hl q → q < k) (a2 : ∀ q, k' ≤ q → m' q = none) (a3 : ∀ q, k ≤ q → q < k' → m' q = px_E b q) (a4 : ∀ q, q < k → m' q = va_up m k X q) : px_J b m0 o hl m' k' y := by
  refine ⟨by rw [a4 _ ho, px_va_ne _ _ _ _ (by omega)]; exact h.1, fun q q1 q2 q3 => ?_, a2, fun q q1 => ?_⟩
  · by_cases z : q < k
    · rw [a4 q z, px_va_ne _ _ _ _ (by omega)]; exact h.2.1 q q1 z q3
    · exact a3 q (by omega) q2
  · have z : q < k := q1.elim (fun u => by omega) (hh q)
    rw [a4 q z, px_va_ne _ _ _ _ (by omega)]; exact h.2.2.2 q q1
/-- a connection's replies -/
theorem pi_rpl (c : Nat) (hc : c < 4) (h1 : m (231 + 22 * c) = some (.inl (6, rc_dflt 6))) (h2 : ∀ q, 232 + 22 * c ≤ q → m q = none) (ht : t ≤ 9000) : ∃ m', f_rpl_init (px_L b m (232 + 22 * c) t) (b + (231 + 22 * c)) = some (px_L b m' (250 + 22 * c) (t + 32)) ∧ (∀ q, 250 + 22 * c ≤ q → m' q = none) ∧ (∀ q, 231 + 22 * c ≤ q → q < 250 + 22 * c → m' q = px_E b q) ∧ (∀ q, q < 231 + 22 * c → m' q = m q) := by
  have hF := pi_F6 (b := b) (231 + 22 * c)
  rw [show 231 + 22 * c + 1 = 232 + 22 * c by omega, show 231 + 22 * c + 2 = 233 + 22 * c by omega] at hF
  unfold f_rpl_init
  generalize hfu : (5000 : Nat) = fu
  rw [show (8 : Int32) = nI 8 from rfl, px_bnd (pi_nA (k' := 233 + 22 * c) (t' := t + 8) 4 8 (by omega) (by omega) (by omega) (by omega) rfl)]
  dsimp only
  have J0 : px_J b m (231 + 22 * c) (fun q => False) m (232 + 22 * c) (some (.inl (6, rc_dflt 6))) := ⟨h1, fun q q1 q2 => by omega, h2, fun _ _ => rfl⟩
  have J1 := J0.hole (k' := 233 + 22 * c) (some (.inr (.inl (4, 8, rc_arr0 4)))) (by omega) (fun q z => z.elim) (by omega)
  rw [px_bnd (pi_pR (231 + 22 * c) 6 0 (232 + 22 * c) _ J1.1)]
  have J2 := J1.put (some (.inl (6, updV (rc_dflt 6) 0 (.ref (b + (232 + 22 * c)))))) (by omega) (by first | (simp; done) | (simp; omega))
  rw [px_bnd (pi_nA (k' := 234 + 22 * c) (t' := t + 16) 0 8 (by omega) (by omega) (by omega) (by omega) (by omega))]
  dsimp only
  have J3 := J2.cell (k' := 234 + 22 * c) (some (.inr (.inl (0, 8, rc_arr0 0)))) (by
    show px_E b (233 + 22 * c) = _
    unfold px_E
    rw [px_eno c hc, px_I0_0 _ (by omega)]
    rfl) (by omega) (by first | (simp; done) | (simp; omega)) (by omega)
  rw [px_bnd (pi_pR (231 + 22 * c) 6 1 (233 + 22 * c) _ J3.1)]
  have J4 := J3.put (some (.inl (6, updV (updV (rc_dflt 6) 0 (.ref (b + (232 + 22 * c)))) 1 (.ref (b + (233 + 22 * c)))))) (by omega) (by first | (simp; done) | (simp; omega))
  rw [px_bnd (pi_pI (231 + 22 * c) 6 2 0 _ J4.1)]
  have J5 := J4.put (some (.inl (6, updV (updV (updV (rc_dflt 6) 0 (.ref (b + (232 + 22 * c)))) 1 (.ref (b + (233 + 22 * c)))) 2 (.int 0)))) (by omega) (by first | (simp; done) | (simp; omega))
  rw [px_bnd (pi_pI (231 + 22 * c) 6 3 0 _ J5.1)]
  have J6 := J5.put (some (.inl (6, updV (updV (updV (updV (rc_dflt 6) 0 (.ref (b + (232 + 22 * c)))) 1 (.ref (b + (233 + 22 * c)))) 2 (.int 0)) 3 (.int 0)))) (by omega) (by first | (simp; done) | (simp; omega))
  obtain ⟨g1, g2, g3, g4⟩ := J6
  have ga := (g4 (232 + 22 * c) (Or.inr (Or.inr rfl))).trans (px_va_eq _ _ _)
  obtain ⟨m', a1, a2, a3, a4, a5⟩ := pi_rpl_go (b := b) (231 + 22 * c) (232 + 22 * c) (234 + 22 * c) (px_E b) _ (fun j hj => ⟨px_E_row b _ (px_rP c j hc hj), px_E_no b _ (px_n_P ⟨c, hc⟩ ⟨j, hj⟩)⟩) rfl (by omega) (by omega) (by omega) (by omega) 8 0 fu (t + 16) _ (by omega) (by omega) (by omega) g1 ga (fun q q1 => g3 q (by omega)) (fun q q1 q2 => by omega)
  rw [nI_0, show 234 + 22 * c + 16 = 250 + 22 * c by omega, show t + 16 + 2 * 8 = t + 32 by omega, Nat.mul_zero, Nat.add_zero] at a1
  refine ⟨m', a1, fun q q1 => a3 q (by omega), fun q q1 q2 => ?_, fun q q1 => by rw [a5 q (by omega) (by omega), g4 q (Or.inl q1), px_va_ne _ _ _ _ (by omega)]⟩
  by_cases z1 : q = 231 + 22 * c
  · rw [z1, a5 _ (by omega) (by omega), g1, hF]
    unfold px_E
    rw [px_er c hc, px_I0_0 _ (by omega)]
  · by_cases z2 : q = 232 + 22 * c
    · rw [z2, a2]
      unfold px_E
      rw [px_ers c hc]
    · by_cases z3 : q = 233 + 22 * c
      · rw [z3, a5 _ (by omega) (by omega), g2 _ (by omega) (by omega) (by simp)]
      · exact a4 q (by omega) (by omega)
/-- a connection -/
theorem pi_con (c : Nat) (hc : c < 4) (h1 : m (228 + 22 * c) = some (.inl (5, rc_dflt 5))) (h2 : ∀ q, 229 + 22 * c ≤ q → m q = none) (ht : t ≤ 8000) : ∃ m', f_con_init (px_L b m (229 + 22 * c) t) (b + (228 + 22 * c)) = some (px_L b m' (250 + 22 * c) (t + 38)) ∧ (∀ q, 250 + 22 * c ≤ q → m' q = none) ∧ (∀ q, 228 + 22 * c ≤ q → q < 250 + 22 * c → m' q = px_E b q) ∧ (∀ q, q < 228 + 22 * c → m' q = m q) := by
  have hF := pi_F5 (b := b) (228 + 22 * c)
  rw [show 228 + 22 * c + 1 = 229 + 22 * c by omega, show 228 + 22 * c + 3 = 231 + 22 * c by omega] at hF
  have J0 : px_J b m (228 + 22 * c) (fun q => False) m (229 + 22 * c) (some (.inl (5, rc_dflt 5))) := ⟨h1, fun q q1 q2 => by omega, h2, fun _ _ => rfl⟩
  obtain ⟨m1, s1, J1⟩ := J0.nR (231 + 22 * c) (px_rG c hc) (px_n_G ⟨c, hc⟩) (by omega) (by omega) (fun q z => z.elim) (by omega)
  obtain ⟨m2, s2, J2⟩ := J1.pR 0 (229 + 22 * c) (by omega) (fun z => z)
  obtain ⟨m3, a1, a2, a3, a4⟩ := pi_rpl (b := b) (t := t + 6) (m := va_up m2 (231 + 22 * c) (some (.inl (6, rc_dflt 6)))) c hc (px_va_eq _ _ _) (fun q q1 => by rw [px_va_ne _ _ _ _ (by omega)]; exact J2.2.2.1 q (by omega)) (by omega)
  have J3 := J2.sub (250 + 22 * c) _ (by omega) (fun q z => z.elim) a2 a3 a4
  obtain ⟨m4, s4, J4⟩ := J3.pR 1 (231 + 22 * c) (by omega) (fun z => z)
  obtain ⟨m5, s5, J5⟩ := J4.pZ 2 0 (Or.inl rfl) (by omega) (fun z => z)
  obtain ⟨m6, s6, J6⟩ := J5.pI 3 0 (by omega) (fun z => z)
  obtain ⟨m7, s7, J7⟩ := J6.pI 4 0 (by omega) (fun z => z)
  obtain ⟨m8, s8, J8⟩ := J7.pI 5 0 (by omega) (fun z => z)
  unfold f_con_init
  rw [s1 (fun p1 w3 => (rc_pR w3 (some (b + (228 + 22 * c))) 5 0 (some p1)).bind fun w5 => (rc_new w5 6).bind fun p7 => (f_rpl_init p7.2 p7.1).bind fun w9 => (rc_pR w9 (some (b + (228 + 22 * c))) 5 1 (some p7.1)).bind fun w11 => (rc_pZ w11 (some (b + (228 + 22 * c))) 5 2 0).bind fun w13 => (rc_pI w13 (some (b + (228 + 22 * c))) 5 3 0).bind fun w15 => (rc_pI w15 (some (b + (228 + 22 * c))) 5 4 0).bind fun w17 => (rc_pI w17 (some (b + (228 + 22 * c))) 5 5 0).bind fun w19 => some w19) t (t + 2) (by omega) rfl]
  rw [px_bnd (s2 _), px_bnd (pi_nO (k' := 232 + 22 * c) (t' := t + 6) 6 (by omega) (by show t + 2 + 4 ≤ 7000000; omega) (by omega) (by show t + 2 + 4 = t + 6; omega))]
  dsimp only
  rw [px_bnd a1, px_bnd (s4 _), px_bnd (s5 _), px_bnd (s6 _), px_bnd (s7 _), px_bnd (s8 _), show t + 6 + 32 = t + 38 by omega]
  refine ⟨m8, rfl, J8.2.2.1, fun q q1 q2 => ?_, fun q q1 => J8.2.2.2 q (Or.inl q1)⟩
  by_cases z : q = 228 + 22 * c
  · rw [z, J8.1, hF]
    unfold px_E
    rw [px_ec c hc, px_I0_0 _ (by omega)]
  · exact J8.2.1 q (by omega) q2 (fun z => z)
/-- the four connections -/
theorem pi_conns_go (F : Nat → Value) (hF : F 2 = .ref (b + 4)) : ∀ (r i f t : Nat) (m : Nat → Option rc_E), 4 = i + r → r < f → t + 44 * r ≤ 8000 → m 0 = some (.inl (0, F)) → m 4 = some (.inr (.inl (5, 4, .inr (.inr (fun j => if j < i then some (b + (228 + 22 * j)) else none))))) → (∀ q, 228 + 22 * i ≤ q → m q = none) → (∀ q, 228 ≤ q → q < 228 + 22 * i → m q = px_E b q) → ∃ m', b_rec_init_99 f (px_L b m (228 + 22 * i) t) (b + 0) (nI i) = some (px_L b m' 316 (t + 44 * r)) ∧ m' 4 = some (.inr (.inl (5, 4, .inr (.inr (fun j => if j < 4 then some (b + (228 + 22 * j)) else none))))) ∧ (∀ q, 316 ≤ q → m' q = none) ∧ (∀ q, 228 ≤ q → q < 316 → m' q = px_E b q) ∧ (∀ q, q < 228 → q ≠ 4 → m' q = m q) := by
  intro r
  induction r with
  | zero =>
    intro i f t m hi hf ht h1 h2 h3 h4
    obtain ⟨f, rfl⟩ : ∃ q, f = q + 1 := ⟨f - 1, by omega⟩
    have e4 : i = 4 := by omega
    subst e4
    rw [b_rec_init_99, if_pos (by decide)]
    exact ⟨m, rfl, h2, h3, h4, fun _ _ _ => rfl⟩
  | succ r ih =>
    intro i f t m hi hf ht h1 h2 h3 h4
    obtain ⟨f, rfl⟩ : ∃ q, f = q + 1 := ⟨f - 1, by omega⟩
    rw [b_rec_init_99, if_neg (by rw [show (4 : Int32) = nI 4 from rfl]; exact nI_ge (by omega) (by decide)), px_bnd (pi_gR 0 0 2 4 F h1 hF), px_bnd (pi_nO (k' := 229 + 22 * i) (t' := t + 6) 5 (by omega) (by show t + 6 ≤ 7000000; omega) (by omega) (by show t + 6 = t + 6; omega))]
    dsimp only
    obtain ⟨m1, a1, a2, a3, a4⟩ := pi_con (b := b) (t := t + 6) (m := va_up m (228 + 22 * i) (some (.inl (5, rc_dflt 5)))) i (by omega) (px_va_eq _ _ _) (fun q q1 => by rw [px_va_ne _ _ _ _ (by omega)]; exact h3 q (by omega)) (by omega)
    have h2' : m1 4 = some (.inr (.inl (5, 4, .inr (.inr (fun j => if j < i then some (b + (228 + 22 * j)) else none))))) := by rw [a4 4 (by omega), px_va_ne _ _ _ _ (by omega)]; exact h2
    have h5 : m1 (228 + 22 * i) = some (.inl (5, px_F5 b (228 + 22 * i) (px_I0 (228 + 22 * i)))) := by
      rw [a3 _ (by omega) (by omega)]
      exact px_ec i (by omega) _ _ _ _ _ _
    rw [px_bnd a1, px_bnd (pi_sR 4 5 5 4 i (228 + 22 * i) _ h2' (by omega) (by decide) (Or.inl ⟨_, h5⟩)), nI_1, pi_arr, show 250 + 22 * i = 228 + 22 * (i + 1) by omega, show t + 6 + 38 = t + 44 by omega]
    obtain ⟨m', c1, c2, c3, c4, c5⟩ := ih (i + 1) f (t + 44) (va_up m1 4 (some (.inr (.inl (5, 4, .inr (.inr (fun j => if j < i + 1 then some (b + (228 + 22 * j)) else none))))))) (by omega) (by omega) (by omega) (by rw [px_va_ne _ _ _ _ (by omega), a4 0 (by omega), px_va_ne _ _ _ _ (by omega)]; exact h1) (px_va_eq _ _ _) (fun q q1 => by rw [px_va_ne _ _ _ _ (by omega)]; exact a2 q (by omega)) (fun q q1 q2 => by
      rw [px_va_ne _ _ _ _ (by omega)]
      by_cases z : q < 228 + 22 * i
      · rw [a4 q z, px_va_ne _ _ _ _ (by omega)]; exact h4 q q1 z
      · exact a3 q (by omega) (by omega))
    refine ⟨m', ?_, c2, c3, c4, fun q q1 q2 => by rw [c5 q q1 q2, px_va_ne _ _ _ _ q2, a4 q (by omega), px_va_ne _ _ _ _ (by omega)]⟩
    rw [c1, show t + 44 + 44 * r = t + 44 * (r + 1) by omega]
/-- the map -/
theorem pi_map (h1 : m 6 = some (.inl (3, rc_dflt 3))) (h2 : ∀ q, 7 ≤ q → m q = none) (ht : t ≤ 1000) : ∃ m', f_map_init (px_L b m 7 t) (b + 6) = some (px_L b m' 89 (t + 160)) ∧ (∀ q, 89 ≤ q → m' q = none) ∧ (∀ q, 6 ≤ q → q < 89 → m' q = px_E b q) ∧ (∀ q, q < 6 → m' q = m q) := by
  have J0 : px_J b m 6 (fun q => False) m 7 (some (.inl (3, rc_dflt 3))) := ⟨h1, fun q q1 q2 => by omega, h2, fun _ _ => rfl⟩
  have J1 := J0.hole (k' := 8) (some (.inr (.inl (4, 40, rc_arr0 4)))) (by omega) (fun q z => z.elim) rfl
  obtain ⟨m2, s2, J2⟩ := J1.pR 0 7 (by omega) (by simp)
  obtain ⟨m3, s3, J3⟩ := J2.nA 9 1 40 (px_e8 _ _ _ _ _ _) (by omega) (by omega) (by omega) (by simp) rfl
  obtain ⟨m4, s4, J4⟩ := J3.pR 1 8 (by omega) (by simp)
  obtain ⟨m5, s5, J5⟩ := J4.pI 2 0 (by omega) (by simp)
  obtain ⟨g1, g2, g3, g4⟩ := J5
  have ga := (g4 7 (Or.inr (Or.inr rfl))).trans (px_va_eq _ _ _)
  unfold f_map_init
  generalize hfu : (5000 : Nat) = fu
  rw [show (40 : Int32) = nI 40 from rfl, px_bnd (pi_nA (k' := 8) (t' := t + 40) 4 40 (by omega) (by omega) (by omega) rfl rfl)]
  dsimp only
  rw [px_bnd (s2 _), px_bnd (s3 _ (t + 80) (by omega) (by omega))]
  dsimp only
  rw [px_bnd (s4 _), px_bnd (s5 _)]
  obtain ⟨m', a1, a2, a3, a4, a5⟩ := pi_map_go (b := b) 6 7 9 (px_E b) _ (fun j hj => ⟨px_E_row b _ (px_rK j hj), px_E_no b _ (px_n_K ⟨j, hj⟩)⟩) rfl (by omega) (by omega) (by omega) (by omega) 40 0 fu (t + 80) _ (by omega) (by omega) (by omega) g1 ga (fun q q1 => g3 q (by omega)) (fun q q1 q2 => by omega)
  rw [nI_0, show t + 80 + 2 * 40 = t + 160 by omega, Nat.mul_zero, Nat.add_zero] at a1
  refine ⟨m', a1, a3, fun q q1 q2 => ?_, fun q q1 => by rw [a5 q (by omega) (by omega), g4 q (Or.inl q1), px_va_ne _ _ _ _ (by omega)]⟩
  by_cases z1 : q = 6
  · rw [z1, a5 _ (by omega) (by omega), g1, pi_F3]
    exact (px_e6 _ _ _ _ _ _).symm
  · by_cases z2 : q = 7
    · rw [z2, a2]
      exact (px_e7 _ _ _ _ _ _).symm
    · by_cases z3 : q = 8
      · rw [z3, a5 _ (by omega) (by omega), g2 _ (by omega) (by omega) (by simp)]
      · exact a4 q (by omega) (by omega)
/-- the reader -/
theorem pi_rdr (h1 : m 89 = some (.inl (4, rc_dflt 4))) (h2 : ∀ q, 90 ≤ q → m q = none) (ht : t ≤ 1000) : ∃ m', f_rdr_init (px_L b m 90 t) (b + 89) = some (px_L b m' 92 (t + 2)) ∧ (∀ q, 92 ≤ q → m' q = none) ∧ (∀ q, 89 ≤ q → q < 92 → m' q = px_E b q) ∧ (∀ q, q < 89 → m' q = m q) := by
  have J0 : px_J b m 89 (fun q => False) m 90 (some (.inl (4, rc_dflt 4))) := ⟨h1, fun q q1 q2 => by omega, h2, fun _ _ => rfl⟩
  obtain ⟨m1, s1, J1⟩ := J0.nR 92 px_r90 (by decide +kernel) (by omega) (by omega) (fun q z => z.elim) rfl
  obtain ⟨m2, s2, J2⟩ := J1.pR 0 90 (by omega) (fun z => z)
  obtain ⟨m3, s3, J3⟩ := J2.pI 1 0 (by omega) (fun z => z)
  obtain ⟨m4, s4, J4⟩ := J3.pZ 2 1 (Or.inr rfl) (by omega) (fun z => z)
  unfold f_rdr_init
  rw [s1 (fun p1 w3 => (rc_pR w3 (some (b + 89)) 4 0 (some p1)).bind fun w5 => (rc_pI w5 (some (b + 89)) 4 1 0).bind fun w7 => (rc_pZ w7 (some (b + 89)) 4 2 1).bind fun w9 => some w9) t (t + 2) (by omega) rfl]
  rw [px_bnd (s2 _), px_bnd (s3 _), px_bnd (s4 _)]
  refine ⟨m4, rfl, J4.2.2.1, fun q q1 q2 => ?_, fun q q1 => J4.2.2.2 q (Or.inl q1)⟩
  by_cases z : q = 89
  · rw [z, J4.1, pi_F4]
    exact (px_e89 _ _ _ _ _ _).symm
  · exact J4.2.1 q (by omega) q2 (fun z => z)
end PX
