/-! THE LAW, 6: it answers 1 -/
theorem px_pot0 : px_pot (fun _ => 0) = 2588672 := by decide +kernel
theorem px_CI0 : px_CI px_I0 (fun _ _ => 0) px_G0 (fun _ => []) [] (fun _ => []) 0 [] (0, 0, 0) (fun _ => (0, 0, 0, [], false)) (fun _ => []) := by
  have hI : ∀ o k, o ≠ 89 → px_I0 o k = 0 := fun o k h => by rw [px_I0_0 o h]
  refine ⟨⟨rfl, by simp⟩, ⟨hI 0 6 (by omega), fun k hk => ⟨rfl, by simp⟩⟩, ⟨hI 6 2 (by omega), by simp, fun k hk => ⟨k, hk, rfl⟩, fun k k' hk hk' q => ?_, fun k hk => by simp at hk⟩, ⟨hI 5 3 (by omega), hI 5 4 (by omega), hI 5 5 (by omega)⟩, fun c hc => ⟨hI _ _ (by omega), hI _ _ (by omega), hI _ _ (by omega), hI _ _ (by omega), rfl⟩, fun c hc => ⟨by simp, hI _ _ (by omega), 0, by omega, hI _ _ (by omega), fun _ => rfl, fun k hk => by simp at hk, fun k k' hk => by simp at hk⟩⟩
  have q : 9 + 2 * k = 9 + 2 * k' := q
  omega
theorem px_MI0 : px_MI (fun _ _ => 0) (fun _ _ => 0) [] (fun _ => []) 0 [] (0, 0, 0) (fun _ => (0, 0, 0, [], false)) (fun _ => []) :=
  ⟨⟨rfl, by simp, fun i hi => by simp at hi⟩, fun k hk => ⟨by simp, rfl, px_agr_nil _ _⟩, rfl, ⟨rfl, by simp, fun k hk => by simp at hk⟩, ⟨rfl, rfl, rfl⟩, fun c hc => ⟨rfl, rfl, rfl, rfl, rfl, px_agr_nil _ _, fun q => absurd q (by show ¬ 0 = 4; omega)⟩, fun c hc => ⟨rfl, by simp, fun k hk => by simp at hk⟩, fun c hc => ⟨by show 0 ≤ 4; omega, by show ([] : List UInt8).length ≤ 1200; simp, fun _ => rfl, fun q => absurd q (by show ¬ 0 = 4; omega), by show 0 < 2 ^ 31; decide, fun q => absurd q (show ¬ false = true by decide)⟩⟩
theorem px_pure (b sb L : Nat) (xs : Nat → Int32) (hL : L ≤ 3584) : ∃ w, f_law_law (fun _ => none, b, 0, b + rc_rmC, rc_rmS) sb xs L = some (1, w) := by
  have e0 : ((fun _ => none, b, 0, b + rc_rmC, rc_rmS) : rc_M) = px_L b (fun _ => none) 0 0 := by
    unfold px_L
    congr 1
    funext q
    split <;> rfl
  obtain ⟨m1, a1, a2, a3⟩ := pi_rec (b := b) (t := 7) (m := va_up (fun _ => none) 0 (some (.inl (0, rc_dflt 0)))) (px_va_eq _ _ _) (fun q q1 => px_va_ne _ _ _ _ (by omega)) (by omega)
  obtain ⟨m2, b1, b2, b3⟩ := pi_mdl (b := b) (t := 618) (m := va_up m1 316 (some (.inl (7, rc_dflt 7)))) (px_va_eq _ _ _) (fun q q1 => by rw [px_va_ne _ _ _ _ (by omega)]; exact a2 q (by omega)) (fun q q1 => by rw [px_va_ne _ _ _ _ (by omega)]; exact a3 q q1) (by omega)
  have hm3 : ∀ q, va_up m2 337 (some (.inr (.inl (1, 1, rc_arr0 1)))) q = px_E b q := by
    intro q
    by_cases z : q = 337
    · rw [z, px_va_eq]
      exact (px_e337 _ _ _ _ _ _).symm
    · rw [px_va_ne _ _ _ _ z]
      by_cases z2 : q < 337
      · exact b3 q z2
      · rw [b2 q (by omega), px_E_no b q (px_n_big q (by omega))]
  have hW : px_L b (va_up m2 337 (some (.inr (.inl (1, 1, rc_arr0 1))))) 338 125117 = px_W b px_I0 (fun _ _ => 0) px_G0 (fun _ => []) (fun _ _ => 0) (fun _ => 0, b + 338, 125117) := by
    unfold px_L px_W
    congr 1
    funext q
    rw [hm3]
    rfl
  have hw : px_Wf b (fun _ => 0, b + 338, 125117) 512 := by
    have := px_rm
    refine ⟨fun o => Nat.zero_le _, ?_, ?_⟩
    · show 16 * (b + 338) + px_pot (fun _ => 0) + 16 * 512 ≤ 16 * (b + rc_rmC)
      rw [px_pot0]; omega
    · show 125117 + px_pot (fun _ => 0) + 6 * 512 ≤ rc_rmS
      rw [px_pot0]; omega
  unfold f_law_law
  generalize hfu : (5000 : Nat) = fu
  rw [e0, px_bnd (pi_nO (k' := 1) (t' := 7) 0 (by omega) (by decide) rfl rfl)]
  dsimp only
  rw [px_bnd a1, px_bnd (pi_nO (k' := 317) (t' := 618) 7 (by omega) (by decide) rfl rfl)]
  dsimp only
  rw [px_bnd b1]
  have h1 : rc_newA (px_L b m2 337 (618 + 124498)) 1 1 = some (b + 337, px_L b (va_up m2 337 (some (.inr (.inl (1, 1, rc_arr0 1))))) 338 125117) := pi_nA (k' := 338) (t' := 125117) 1 1 (by omega) (by omega) (by omega) rfl rfl
  rw [px_bnd h1]
  dsimp only
  rw [hW, ← nI_0]
  exact pl_loop b sb xs L hL fu 0 512 px_I0 (fun _ _ => 0) px_G0 (fun _ => []) (fun _ _ => 0) (fun _ => 0, b + 338, 125117) [] (fun _ => []) 0 [] (0, 0, 0) (fun _ => (0, 0, 0, [], false)) (fun _ => []) (by omega) (by omega) (by omega) (by omega) px_CI0 px_MI0 hw
