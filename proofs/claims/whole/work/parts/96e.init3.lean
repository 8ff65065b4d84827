/-! THE LAW, 5: the server, the class, the reference as they begin -/
section PX
variable {b k t : Nat} {m m0 : Nat → Option rc_E} {o : Nat} {hl : Nat → Prop} {y : Option rc_E} {ci : Nat} {F : Nat → Value}
theorem px_J.nW (h : px_J b m0 o hl m k y) (k' : Nat) (h1 : px_rw k = true) (h2 : px_no (k + 1) = true) (hk : k + 2 ≤ 600000) (ho : o < k) (hh : ∀ q, hl q → q < k) (e1 : k + 2 = k') : ∃ mm m', (∀ t t', t + 2 ≤ 7000000 → t + 2 = t' → rc_new (px_L b m k t) 1 = some (b + k, px_L b mm (k + 1) t')) ∧ (∀ t, t ≤ 7000000 → g_row_init (px_L b mm (k + 1) t) (b + k) = some (px_L b m' k' t)) ∧ px_J b m0 o hl m' k' y :=
  ⟨_, _, fun t t' g1 g2 => pi_nO 1 (by omega) g1 rfl g2, fun t g => by subst e1; exact pi_row _ hk g, h.row h1 h2 ho hh e1⟩
theorem px_J.nH (h : px_J b m0 o hl m k y) (k' kd n : Nat) (hk : k < 600000) (hn : n ≤ 1000000) (ho : o < k) (hh : ∀ q, hl q → q < k) (e1 : k + 1 = k') : ∃ m', (∀ t t', t + n ≤ 7000000 → t + n = t' → rc_newA (px_L b m k t) kd (nI n) = some (b + k, px_L b m' k' t')) ∧ px_J b (va_up m0 k (some (.inr (.inl (kd, n, rc_arr0 kd))))) o (fun q => hl q ∨ q = k) m' k' y := ⟨_, fun t t' g1 g2 => pi_nA kd n hk hn g1 e1 g2, h.hole _ ho hh e1⟩
/-- the server -/
theorem pi_srv (h1 : m 5 = some (.inl (2, rc_dflt 2))) (h2 : ∀ q, 6 ≤ q → m q = none) (ht : t ≤ 500) : ∃ m', f_srv_init (px_L b m 6 t) (b + 5) = some (px_L b m' 96 (t + 186)) ∧ (∀ q, 96 ≤ q → m' q = none) ∧ (∀ q, 5 ≤ q → q < 96 → m' q = px_E b q) ∧ (∀ q, q < 5 → m' q = m q) := by
  have J0 : px_J b m 5 (fun q => False) m 6 (some (.inl (2, rc_dflt 2))) := ⟨h1, fun q q1 q2 => by omega, h2, fun _ _ => rfl⟩
  obtain ⟨m1, a1, a2, a3, a4⟩ := pi_map (b := b) (t := t + 3) (m := va_up m 6 (some (.inl (3, rc_dflt 3)))) (px_va_eq _ _ _) (fun q q1 => by rw [px_va_ne _ _ _ _ (by omega)]; exact h2 q (by omega)) (by omega)
  have J1 := J0.sub 89 _ (by omega) (fun q z => z.elim) a2 a3 a4
  obtain ⟨m2, s2, J2⟩ := J1.pR 0 6 (by omega) (fun z => z)
  obtain ⟨m3, b1, b2, b3, b4⟩ := pi_rdr (b := b) (t := t + 166) (m := va_up m2 89 (some (.inl (4, rc_dflt 4)))) (px_va_eq _ _ _) (fun q q1 => by rw [px_va_ne _ _ _ _ (by omega)]; exact J2.2.2.1 q (by omega)) (by omega)
  have J3 := J2.sub 92 _ (by omega) (fun q z => z.elim) b2 b3 b4
  obtain ⟨m4, s4, J4⟩ := J3.pR 1 89 (by omega) (fun z => z)
  obtain ⟨m5, m6, s5, s6, J6⟩ := J4.nW 94 px_r92 (by decide +kernel) (by omega) (by omega) (fun q z => z.elim) rfl
  obtain ⟨m7, s7, J7⟩ := J6.pR 2 92 (by omega) (fun z => z)
  obtain ⟨m8, s8, J8⟩ := J7.pI 3 0 (by omega) (fun z => z)
  obtain ⟨m9, s9, J9⟩ := J8.pI 4 0 (by omega) (fun z => z)
  obtain ⟨m10, s10, J10⟩ := J9.pI 5 0 (by omega) (fun z => z)
  obtain ⟨m11, s11, J11⟩ := J10.nA 95 0 8 (by unfold px_E; rw [px_e94, px_I0_0 94 (by omega)]; rfl) (by omega) (by omega) (by omega) (fun q z => z.elim) rfl
  obtain ⟨m12, s12, J12⟩ := J11.pR 6 94 (by omega) (fun z => z)
  obtain ⟨m13, s13, J13⟩ := J12.nA 96 0 8 (by unfold px_E; rw [px_e95, px_I0_0 95 (by omega)]; rfl) (by omega) (by omega) (by omega) (fun q z => z.elim) rfl
  obtain ⟨m14, s14, J14⟩ := J13.pR 7 95 (by omega) (fun z => z)
  obtain ⟨m15, s15, J15⟩ := J14.pI 8 0 (by omega) (fun z => z)
  obtain ⟨m16, s16, J16⟩ := J15.pI 9 0 (by omega) (fun z => z)
  obtain ⟨m17, s17, J17⟩ := J16.pL 10 0 (by omega) (fun z => z)
  obtain ⟨m18, s18, J18⟩ := J17.pI 11 0 (by omega) (fun z => z)
  obtain ⟨m19, s19, J19⟩ := J18.pI 12 0 (by omega) (fun z => z)
  unfold f_srv_init
  rw [px_bnd (pi_nO (k' := 7) (t' := t + 3) 3 (by omega) (by show t + 3 ≤ 7000000; omega) rfl rfl)]
  dsimp only
  rw [px_bnd a1, px_bnd (s2 _), px_bnd (pi_nO (k' := 90) (t' := t + 166) 4 (by omega) (by show t + 3 + 160 + 3 ≤ 7000000; omega) rfl (by show t + 3 + 160 + 3 = t + 166; omega))]
  dsimp only
  rw [px_bnd b1, px_bnd (s4 _), px_bnd (s5 _ (t + 170) (by omega) (by omega))]
  dsimp only
  rw [px_bnd (s6 _ (by omega)), px_bnd (s7 _), px_bnd (s8 _), px_bnd (s9 _), px_bnd (s10 _), show (8 : Int32) = nI 8 from rfl, px_bnd (s11 _ (t + 178) (by omega) (by omega))]
  dsimp only
  rw [px_bnd (s12 _), px_bnd (s13 _ (t + 186) (by omega) (by omega))]
  dsimp only
  rw [px_bnd (s14 _), px_bnd (s15 _), px_bnd (s16 _), px_bnd (s17 _), px_bnd (s18 _), px_bnd (s19 _)]
  refine ⟨m19, rfl, J19.2.2.1, fun q q1 q2 => ?_, fun q q1 => J19.2.2.2 q (Or.inl q1)⟩
  by_cases z : q = 5
  · rw [z, J19.1, pi_F2]
    unfold px_E
    rw [px_e5, px_I0_0 5 (by omega)]
  · exact J19.2.1 q (by omega) q2 (fun z => z)
/-- the class -/
theorem pi_rec (h1 : m 0 = some (.inl (0, rc_dflt 0))) (h2 : ∀ q, 1 ≤ q → m q = none) (ht : t ≤ 100) : ∃ m', f_rec_init (px_L b m 1 t) (b + 0) = some (px_L b m' 316 (t + 577)) ∧ (∀ q, 316 ≤ q → m' q = none) ∧ (∀ q, q < 316 → m' q = px_E b q) := by
  have J0 : px_J b m 0 (fun q => False) m 1 (some (.inl (0, rc_dflt 0))) := ⟨h1, fun q q1 q2 => by omega, h2, fun _ _ => rfl⟩
  obtain ⟨m1, m2, s1, s2, J2⟩ := J0.nW 3 px_rT (by decide +kernel) (by omega) (by omega) (fun q z => z.elim) rfl
  obtain ⟨m3, s3, J3⟩ := J2.pR 0 1 (by omega) (fun z => z)
  obtain ⟨m4, s4, J4⟩ := J3.nH 4 4 64 (by omega) (by omega) (by omega) (fun q z => z.elim) rfl
  obtain ⟨m5, s5, J5⟩ := J4.pR 1 3 (by omega) (by simp)
  obtain ⟨m6, s6, J6⟩ := J5.nH 5 5 4 (by omega) (by omega) (by omega) (by simp) rfl
  obtain ⟨m7, s7, J7⟩ := J6.pR 2 4 (by omega) (by simp)
  obtain ⟨m8, a1, a2, a3, a4⟩ := pi_srv (b := b) (t := t + 83) (m := va_up m7 5 (some (.inl (2, rc_dflt 2)))) (px_va_eq _ _ _) (fun q q1 => by rw [px_va_ne _ _ _ _ (by omega)]; exact J7.2.2.1 q (by omega)) (by omega)
  have hh : ∀ q, ((False ∨ q = 3) ∨ q = 4) → q < 5 := fun q z => by
    rcases z with (z | z) | z
    · exact z.elim
    · omega
    · omega
  have J8 := J7.sub 96 _ (by omega) hh a2 a3 a4
  have hh2 : ¬ ((False ∨ 0 = 3) ∨ 0 = 4) := by simp
  obtain ⟨m9, s9, J9⟩ := J8.pR 3 5 (by omega) hh2
  obtain ⟨m10, m11, s10, s11, J11⟩ := J9.nW 98 px_r96 (by decide +kernel) (by omega) (by omega) (fun q z => Nat.lt_of_lt_of_le (hh q z) (by omega)) rfl
  obtain ⟨m12, s12, J12⟩ := J11.pR 4 96 (by omega) hh2
  obtain ⟨m13, m14, s13, s14, J14⟩ := J12.nW 100 px_r98 (by decide +kernel) (by omega) (by omega) (fun q z => Nat.lt_of_lt_of_le (hh q z) (by omega)) rfl
  obtain ⟨m15, s15, J15⟩ := J14.pR 5 98 (by omega) hh2
  obtain ⟨m16, s16, J16⟩ := J15.pI 6 0 (by omega) hh2
  obtain ⟨g1, g2, g3, g4⟩ := J16
  have ga := ((g4 3 (Or.inr (Or.inl (Or.inr rfl)))).trans (px_va_ne _ _ _ _ (by omega))).trans (px_va_eq _ _ _)
  have gb := (g4 4 (Or.inr (Or.inr rfl))).trans (px_va_eq _ _ _)
  unfold f_rec_init
  generalize hfu : (5000 : Nat) = fu
  rw [px_bnd (s1 _ (t + 2) (by omega) (by omega))]
  dsimp only
  rw [px_bnd (s2 _ (by omega)), px_bnd (s3 _), show (64 : Int32) = nI 64 from rfl, px_bnd (s4 _ (t + 66) (by omega) (by omega))]
  dsimp only
  rw [px_bnd (s5 _), show (4 : Int32) = nI 4 from rfl, px_bnd (s6 _ (t + 70) (by omega) (by omega))]
  dsimp only
  rw [px_bnd (s7 _), px_bnd (pi_nO (k' := 6) (t' := t + 83) 2 (by omega) (by show t + 70 + 13 ≤ 7000000; omega) rfl (by show t + 70 + 13 = t + 83; omega))]
  dsimp only
  rw [px_bnd a1, px_bnd (s9 _), px_bnd (s10 _ (t + 271) (by omega) (by omega))]
  dsimp only
  rw [px_bnd (s11 _ (by omega)), px_bnd (s12 _), px_bnd (s13 _ (t + 273) (by omega) (by omega))]
  dsimp only
  rw [px_bnd (s14 _ (by omega)), px_bnd (s15 _), px_bnd (s16 _)]
  obtain ⟨m17, c1, c2, c3, c4, c5⟩ := pi_slots_go (b := b) 0 3 100 (px_E b) _ (fun j hj => ⟨px_E_row b _ (px_rS j hj), px_E_no b _ (px_n_S ⟨j, hj⟩)⟩) rfl (by omega) (by omega) (by omega) (by omega) 64 0 fu (t + 273) _ (by omega) (by omega) (by omega) g1 ga (fun q q1 => g3 q (by omega)) (fun q q1 q2 => by omega)
  rw [nI_0, show t + 273 + 2 * 64 = t + 401 by omega, Nat.mul_zero, Nat.add_zero] at c1
  obtain ⟨m18, d1, d2, d3, d4, d5⟩ := pi_conns_go (b := b) _ rfl 4 0 5000 (t + 401) m17 (by omega) (by omega) (by omega) ((c5 0 (by omega) (by omega)).trans g1) ((c5 4 (by omega) (by omega)).trans gb) (fun q q1 => c3 q (by omega)) (fun q q1 q2 => by omega)
  rw [nI_0, show t + 401 + 44 * 4 = t + 577 by omega, Nat.mul_zero, Nat.add_zero] at d1
  refine ⟨m18, c1.trans d1, d3, fun q q1 => ?_⟩
  by_cases z1 : 228 ≤ q
  · exact d4 q z1 q1
  · by_cases z4 : q = 4
    · rw [z4, d2]
      exact (px_e4 _ _ _ _ _ _).symm
    · rw [d5 q (by omega) z4]
      by_cases z2 : 100 ≤ q
      · exact c4 q z2 (by omega)
      · by_cases z3 : q = 3
        · rw [z3, c2]
          exact (px_e3 _ _ _ _ _ _).symm
        · rw [c5 q (by omega) z3]
          by_cases z0 : q = 0
          · rw [z0, g1, pi_F0]
            unfold px_E
            rw [px_e0, px_I0_0 0 (by omega)]
          · exact g2 q (by omega) (by omega) (by
            rintro ((z | z) | z)
            · exact z
            · omega
            · omega)
theorem pi_F7 : updV (updV (updV (updV (updV (updV (updV (updV (updV (updV (updV (updV (updV (updV (updV (updV (updV (updV (updV (updV (rc_dflt 7) 1 (.ref (b + 317))) 3 (.ref (b + 318))) 4 (.ref (b + 319))) 6 (.ref (b + 320))) 7 (.ref (b + 321))) 8 (.ref (b + 322))) 9 (.ref (b + 323))) 11 (.ref (b + 324))) 12 (.ref (b + 325))) 13 (.ref (b + 326))) 14 (.ref (b + 327))) 15 (.ref (b + 328))) 16 (.ref (b + 329))) 17 (.ref (b + 330))) 18 (.ref (b + 331))) 19 (.ref (b + 332))) 20 (.ref (b + 333))) 21 (.ref (b + 334))) 22 (.ref (b + 335))) 31 (.ref (b + 336)) = px_F7 b (fun _ => 0) := by
  funext j
  match j with
  | 0 => rfl
  | 1 => rfl
  | 2 => rfl
  | 3 => rfl
  | 4 => rfl
  | 5 => rfl
  | 6 => rfl
  | 7 => rfl
  | 8 => rfl
  | 9 => rfl
  | 10 => rfl
  | 11 => rfl
  | 12 => rfl
  | 13 => rfl
  | 14 => rfl
  | 15 => rfl
  | 16 => rfl
  | 17 => rfl
  | 18 => rfl
  | 19 => rfl
  | 20 => rfl
  | 21 => rfl
  | 22 => rfl
  | 23 => rfl
  | 24 => rfl
  | 25 => rfl
  | 26 => rfl
  | 27 => rfl
  | 28 => rfl
  | 29 => rfl
  | 30 => rfl
  | 31 => rfl
  | 32 => rfl
  | 33 => rfl
  | j + 34 => simp [updV, px_F7]; rfl
/-- the reference -/
theorem pi_mdl (h1 : m 316 = some (.inl (7, rc_dflt 7))) (h2 : ∀ q, 317 ≤ q → m q = none) (h3 : ∀ q, q < 316 → m q = px_E b q) (ht : t ≤ 1000) : ∃ m', f_mdl_init (px_L b m 317 t) (b + 316) = some (px_L b m' 337 (t + 124498)) ∧ (∀ q, 337 ≤ q → m' q = none) ∧ (∀ q, q < 337 → m' q = px_E b q) := by
  have J0 : px_J b m 316 (fun q => False) m 317 (some (.inl (7, rc_dflt 7))) := ⟨h1, fun q q1 q2 => by omega, h2, fun _ _ => rfl⟩
  obtain ⟨n0, u0, K0⟩ := J0.nA 318 0 1600 (px_e317 _ _ _ _ _ _) (by omega) (by omega) (by omega) (fun q z => z.elim) rfl
  obtain ⟨m1, s1, J1⟩ := K0.pR 1 317 (by omega) (fun z => z)
  obtain ⟨n1, u1, K1⟩ := J1.nA 319 2 102400 (px_e318 _ _ _ _ _ _) (by omega) (by omega) (by omega) (fun q z => z.elim) rfl
  obtain ⟨m2, s2, J2⟩ := K1.pR 3 318 (by omega) (fun z => z)
  obtain ⟨n2, u2, K2⟩ := J2.nA 320 0 64 (px_e319 _ _ _ _ _ _) (by omega) (by omega) (by omega) (fun q z => z.elim) rfl
  obtain ⟨m3, s3, J3⟩ := K2.pR 4 319 (by omega) (fun z => z)
  obtain ⟨n3, u3, K3⟩ := J3.nA 321 2 1600 (px_e320 _ _ _ _ _ _) (by omega) (by omega) (by omega) (fun q z => z.elim) rfl
  obtain ⟨m4, s4, J4⟩ := K3.pR 6 320 (by omega) (fun z => z)
  obtain ⟨n4, u4, K4⟩ := J4.nA 322 2 656 (px_e321 _ _ _ _ _ _) (by omega) (by omega) (by omega) (fun q z => z.elim) rfl
  obtain ⟨m5, s5, J5⟩ := K4.pR 7 321 (by omega) (fun z => z)
  obtain ⟨n5, u5, K5⟩ := J5.nA 323 0 41 (px_e322 _ _ _ _ _ _) (by omega) (by omega) (by omega) (fun q z => z.elim) rfl
  obtain ⟨m6, s6, J6⟩ := K5.pR 8 322 (by omega) (fun z => z)
  obtain ⟨n6, u6, K6⟩ := J6.nA 324 1 41 (px_e323 _ _ _ _ _ _) (by omega) (by omega) (by omega) (fun q z => z.elim) rfl
  obtain ⟨m7, s7, J7⟩ := K6.pR 9 323 (by omega) (fun z => z)
  obtain ⟨n7, u7, K7⟩ := J7.nA 325 2 4800 (px_e324 _ _ _ _ _ _) (by omega) (by omega) (by omega) (fun q z => z.elim) rfl
  obtain ⟨m8, s8, J8⟩ := K7.pR 11 324 (by omega) (fun z => z)
  obtain ⟨n8, u8, K8⟩ := J8.nA 326 0 4 (px_e325 _ _ _ _ _ _) (by omega) (by omega) (by omega) (fun q z => z.elim) rfl
  obtain ⟨m9, s9, J9⟩ := K8.pR 12 325 (by omega) (fun z => z)
  obtain ⟨n9, u9, K9⟩ := J9.nA 327 0 4 (px_e326 _ _ _ _ _ _) (by omega) (by omega) (by omega) (fun q z => z.elim) rfl
  obtain ⟨m10, s10, J10⟩ := K9.pR 13 326 (by omega) (fun z => z)
  obtain ⟨n10, u10, K10⟩ := J10.nA 328 0 4 (px_e327 _ _ _ _ _ _) (by omega) (by omega) (by omega) (fun q z => z.elim) rfl
  obtain ⟨m11, s11, J11⟩ := K10.pR 14 327 (by omega) (fun z => z)
  obtain ⟨n11, u11, K11⟩ := J11.nA 329 0 4 (px_e328 _ _ _ _ _ _) (by omega) (by omega) (by omega) (fun q z => z.elim) rfl
  obtain ⟨m12, s12, J12⟩ := K11.pR 15 328 (by omega) (fun z => z)
  obtain ⟨n12, u12, K12⟩ := J12.nA 330 3 4 (px_e329 _ _ _ _ _ _) (by omega) (by omega) (by omega) (fun q z => z.elim) rfl
  obtain ⟨m13, s13, J13⟩ := K12.pR 16 329 (by omega) (fun z => z)
  obtain ⟨n13, u13, K13⟩ := J13.nA 331 3 4 (px_e330 _ _ _ _ _ _) (by omega) (by omega) (by omega) (fun q z => z.elim) rfl
  obtain ⟨m14, s14, J14⟩ := K13.pR 17 330 (by omega) (fun z => z)
  obtain ⟨n14, u14, K14⟩ := J14.nA 332 3 4 (px_e331 _ _ _ _ _ _) (by omega) (by omega) (by omega) (fun q z => z.elim) rfl
  obtain ⟨m15, s15, J15⟩ := K14.pR 18 331 (by omega) (fun z => z)
  obtain ⟨n15, u15, K15⟩ := J15.nA 333 0 32 (px_e332 _ _ _ _ _ _) (by omega) (by omega) (by omega) (fun q z => z.elim) rfl
  obtain ⟨m16, s16, J16⟩ := K15.pR 19 332 (by omega) (fun z => z)
  obtain ⟨n16, u16, K16⟩ := J16.nA 334 0 32 (px_e333 _ _ _ _ _ _) (by omega) (by omega) (by omega) (fun q z => z.elim) rfl
  obtain ⟨m17, s17, J17⟩ := K16.pR 20 333 (by omega) (fun z => z)
  obtain ⟨n17, u17, K17⟩ := J17.nA 335 2 12800 (px_e334 _ _ _ _ _ _) (by omega) (by omega) (by omega) (fun q z => z.elim) rfl
  obtain ⟨m18, s18, J18⟩ := K17.pR 21 334 (by omega) (fun z => z)
  obtain ⟨n18, u18, K18⟩ := J18.nA 336 0 4 (px_e335 _ _ _ _ _ _) (by omega) (by omega) (by omega) (fun q z => z.elim) rfl
  obtain ⟨m19, s19, J19⟩ := K18.pR 22 335 (by omega) (fun z => z)
  obtain ⟨n19, u19, K19⟩ := J19.nA 337 2 400 (px_e336 _ _ _ _ _ _) (by omega) (by omega) (by omega) (fun q z => z.elim) rfl
  obtain ⟨m20, s20, J20⟩ := K19.pR 31 336 (by omega) (fun z => z)
  unfold f_mdl_init
  rw [show (1600 : Int32) = nI 1600 from rfl, px_bnd (u0 _ (t + 1600) (by omega) (by omega))]
  dsimp only
  rw [px_bnd (s1 _)]
  rw [show (102400 : Int32) = nI 102400 from rfl, px_bnd (u1 _ (t + 104000) (by omega) (by omega))]
  dsimp only
  rw [px_bnd (s2 _)]
  rw [show (64 : Int32) = nI 64 from rfl, px_bnd (u2 _ (t + 104064) (by omega) (by omega))]
  dsimp only
  rw [px_bnd (s3 _)]
  rw [px_bnd (u3 _ (t + 105664) (by omega) (by omega))]
  dsimp only
  rw [px_bnd (s4 _)]
  rw [show (656 : Int32) = nI 656 from rfl, px_bnd (u4 _ (t + 106320) (by omega) (by omega))]
  dsimp only
  rw [px_bnd (s5 _)]
  rw [show (41 : Int32) = nI 41 from rfl, px_bnd (u5 _ (t + 106361) (by omega) (by omega))]
  dsimp only
  rw [px_bnd (s6 _)]
  rw [px_bnd (u6 _ (t + 106402) (by omega) (by omega))]
  dsimp only
  rw [px_bnd (s7 _)]
  rw [show (4800 : Int32) = nI 4800 from rfl, px_bnd (u7 _ (t + 111202) (by omega) (by omega))]
  dsimp only
  rw [px_bnd (s8 _)]
  rw [show (4 : Int32) = nI 4 from rfl, px_bnd (u8 _ (t + 111206) (by omega) (by omega))]
  dsimp only
  rw [px_bnd (s9 _)]
  rw [px_bnd (u9 _ (t + 111210) (by omega) (by omega))]
  dsimp only
  rw [px_bnd (s10 _)]
  rw [px_bnd (u10 _ (t + 111214) (by omega) (by omega))]
  dsimp only
  rw [px_bnd (s11 _)]
  rw [px_bnd (u11 _ (t + 111218) (by omega) (by omega))]
  dsimp only
  rw [px_bnd (s12 _)]
  rw [px_bnd (u12 _ (t + 111222) (by omega) (by omega))]
  dsimp only
  rw [px_bnd (s13 _)]
  rw [px_bnd (u13 _ (t + 111226) (by omega) (by omega))]
  dsimp only
  rw [px_bnd (s14 _)]
  rw [px_bnd (u14 _ (t + 111230) (by omega) (by omega))]
  dsimp only
  rw [px_bnd (s15 _)]
  rw [show (32 : Int32) = nI 32 from rfl, px_bnd (u15 _ (t + 111262) (by omega) (by omega))]
  dsimp only
  rw [px_bnd (s16 _)]
  rw [px_bnd (u16 _ (t + 111294) (by omega) (by omega))]
  dsimp only
  rw [px_bnd (s17 _)]
  rw [show (12800 : Int32) = nI 12800 from rfl, px_bnd (u17 _ (t + 124094) (by omega) (by omega))]
  dsimp only
  rw [px_bnd (s18 _)]
  rw [px_bnd (u18 _ (t + 124098) (by omega) (by omega))]
  dsimp only
  rw [px_bnd (s19 _)]
  rw [show (400 : Int32) = nI 400 from rfl, px_bnd (u19 _ (t + 124498) (by omega) (by omega))]
  dsimp only
  rw [px_bnd (s20 _)]
  refine ⟨m20, rfl, J20.2.2.1, fun q q1 => ?_⟩
  by_cases z : q = 316
  · rw [z, J20.1, pi_F7]
    exact (px_e316 _ _ _ _ _ _).symm
  · by_cases z2 : q < 316
    · rw [J20.2.2.2 q (Or.inl z2)]; exact h3 q z2
    · exact J20.2.1 q (by omega) q1 (fun z => z)
end PX
