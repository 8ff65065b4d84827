/-! THE PURE PART, 2: what the machine's steps are on that world -/
section PX
variable {b : Nat} {I : Nat → Nat → Int32} {V : Nat → Nat → Int64} {G : Nat → Nat → Nat} {R : Nat → List UInt8} {M : Nat → Nat → Int32} {p : px_P}
theorem px_e0 (i : Nat → Int32) (v : Nat → Int64) (g : Nat → Nat) (r : List UInt8) (m : Nat → Int32) (cap : Nat) : px_ent b 0 i v g r m cap = some (.inl (0, px_F0 b i)) := by simp [px_ent, px_rw]
theorem px_e5 (i : Nat → Int32) (v : Nat → Int64) (g : Nat → Nat) (r : List UInt8) (m : Nat → Int32) (cap : Nat) : px_ent b 5 i v g r m cap = some (.inl (2, px_F2 b i v)) := by simp [px_ent, px_rw]
theorem px_e6 (i : Nat → Int32) (v : Nat → Int64) (g : Nat → Nat) (r : List UInt8) (m : Nat → Int32) (cap : Nat) : px_ent b 6 i v g r m cap = some (.inl (3, px_F3 b i)) := by simp [px_ent, px_rw]
theorem px_e89 (i : Nat → Int32) (v : Nat → Int64) (g : Nat → Nat) (r : List UInt8) (m : Nat → Int32) (cap : Nat) : px_ent b 89 i v g r m cap = some (.inl (4, px_F4 b i g)) := by simp [px_ent, px_rw]
theorem px_e316 (i : Nat → Int32) (v : Nat → Int64) (g : Nat → Nat) (r : List UInt8) (m : Nat → Int32) (cap : Nat) : px_ent b 316 i v g r m cap = some (.inl (7, px_F7 b m)) := by simp [px_ent, px_rw]
theorem px_rwc (x : Nat) (h1 : 228 ≤ x) (h2 : x < 316) : px_rw x = ((x - 228) % 22 == 1 || (6 ≤ (x - 228) % 22 && (x - 228) % 22 % 2 == 0)) := by
  have e1 : ∀ n : Nat, n < 228 → (x == n) = false := fun n hn => by simp; omega
  unfold px_rw
  rw [e1 1 (by omega), e1 90 (by omega), e1 92 (by omega), e1 96 (by omega), e1 98 (by omega)]
  have e2 : decide (x < 89) = false := by simp; omega
  have e3 : decide (x < 228) = false := by simp; omega
  have e4 : decide (228 ≤ x) = true := by simp; omega
  have e5 : decide (x < 316) = true := by simp; omega
  simp [e2, e3, e4, e5]
theorem px_ec (c : Nat) (hc : c < 4) (i : Nat → Int32) (v : Nat → Int64) (g : Nat → Nat) (r : List UInt8) (m : Nat → Int32) (cap : Nat) : px_ent b (228 + 22 * c) i v g r m cap = some (.inl (5, px_F5 b (228 + 22 * c) i)) := by
  have e : (228 + 22 * c - 228) % 22 = 0 := by omega
  unfold px_ent
  rw [px_rwc _ (by omega) (by omega), e]
  simp [show ¬ (228 + 22 * c = 0) by omega, show ¬ (228 + 22 * c = 3) by omega, show ¬ (228 + 22 * c = 4) by omega, show ¬ (228 + 22 * c = 5) by omega, show ¬ (228 + 22 * c = 6) by omega, show ¬ (228 + 22 * c = 7) by omega, show ¬ (228 + 22 * c = 8) by omega, show ¬ (228 + 22 * c = 89) by omega, show ¬ (228 + 22 * c = 94) by omega, show ¬ (228 + 22 * c = 95) by omega, show ¬ (228 + 22 * c = 316) by omega, show ¬ (228 + 22 * c = 323) by omega, show ¬ (228 + 22 * c = 337) by omega, show ¬ (317 ≤ 228 + 22 * c) by omega, show 228 + 22 * c < 316 by omega]
theorem px_en (o : Nat) (h1 : 228 ≤ o) (h2 : o < 316) (i : Nat → Int32) (v : Nat → Int64) (g : Nat → Nat) (r : List UInt8) (m : Nat → Int32) (cap : Nat) (hr : px_rw o = false) : px_ent b o i v g r m cap = if (o - 228) % 22 = 0 then some (.inl (5, px_F5 b o i))
    else if (o - 228) % 22 = 3 then some (.inl (6, px_F6 b o i))
    else if (o - 228) % 22 = 4 then some (.inr (.inl (4, 8, .inr (.inr (fun j => if j < 8 then some (b + (o + 2 + 2 * j)) else none)))))
    else if (o - 228) % 22 = 5 then some (.inr (.inl (0, 8, .inl i)))
    else none := by
  unfold px_ent
  rw [hr, if_neg (by decide), if_neg (by omega), if_neg (by omega), if_neg (by omega), if_neg (by omega), if_neg (by omega), if_neg (by omega), if_neg (by omega), if_neg (by omega), if_neg (by omega), if_neg (by omega), if_neg (by omega), if_neg (by omega), if_neg (by omega), if_pos ⟨h1, h2⟩]
theorem px_er (c : Nat) (hc : c < 4) (i : Nat → Int32) (v : Nat → Int64) (g : Nat → Nat) (r : List UInt8) (m : Nat → Int32) (cap : Nat) : px_ent b (231 + 22 * c) i v g r m cap = some (.inl (6, px_F6 b (231 + 22 * c) i)) := by
  have e : (231 + 22 * c - 228) % 22 = 3 := by omega
  rw [px_en _ (by omega) (by omega) _ _ _ _ _ _ (by rw [px_rwc _ (by omega) (by omega), e]; decide), e]; rfl
theorem px_ers (c : Nat) (hc : c < 4) (i : Nat → Int32) (v : Nat → Int64) (g : Nat → Nat) (r : List UInt8) (m : Nat → Int32) (cap : Nat) : px_ent b (232 + 22 * c) i v g r m cap = some (.inr (.inl (4, 8, .inr (.inr (fun j => if j < 8 then some (b + (234 + 22 * c + 2 * j)) else none))))) := by
  have e : (232 + 22 * c - 228) % 22 = 4 := by omega
  rw [px_en _ (by omega) (by omega) _ _ _ _ _ _ (by rw [px_rwc _ (by omega) (by omega), e]; decide), e, if_neg (by decide), if_neg (by decide), if_pos rfl]
  have e2 : ∀ j, 232 + 22 * c + 2 + 2 * j = 234 + 22 * c + 2 * j := by intro j; omega
  simp only [e2]
theorem px_eno (c : Nat) (hc : c < 4) (i : Nat → Int32) (v : Nat → Int64) (g : Nat → Nat) (r : List UInt8) (m : Nat → Int32) (cap : Nat) : px_ent b (233 + 22 * c) i v g r m cap = some (.inr (.inl (0, 8, .inl i))) := by
  have e : (233 + 22 * c - 228) % 22 = 5 := by omega
  rw [px_en _ (by omega) (by omega) _ _ _ _ _ _ (by rw [px_rwc _ (by omega) (by omega), e]; decide), e]; rfl
/-- the rows -/
theorem px_rT : px_rw 1 = true := by decide
theorem px_r90 : px_rw 90 = true := by decide
theorem px_r92 : px_rw 92 = true := by decide
theorem px_r96 : px_rw 96 = true := by decide
theorem px_r98 : px_rw 98 = true := by decide
theorem px_rS (i : Nat) (h : i < 64) : px_rw (100 + 2 * i) = true := by
  have e1 : decide (100 ≤ 100 + 2 * i) = true := by simp
  have e2 : decide (100 + 2 * i < 228) = true := by simp; omega
  have e3 : ((100 + 2 * i) % 2 == 0) = true := by simp
  simp only [px_rw, e1, e2, e3, Bool.and_true, Bool.or_true, Bool.true_or]
theorem px_rK (i : Nat) (h : i < 40) : px_rw (9 + 2 * i) = true := by
  have e1 : decide (9 ≤ 9 + 2 * i) = true := by simp
  have e2 : decide (9 + 2 * i < 89) = true := by simp; omega
  have e3 : ((9 + 2 * i) % 2 == 1) = true := by simp
  simp only [px_rw, e1, e2, e3, Bool.and_true, Bool.or_true, Bool.true_or]
theorem px_rG (c : Nat) (hc : c < 4) : px_rw (229 + 22 * c) = true := by
  rw [px_rwc _ (by omega) (by omega), show (229 + 22 * c - 228) % 22 = 1 by omega]; decide
theorem px_rP (c j : Nat) (hc : c < 4) (hj : j < 8) : px_rw (234 + 22 * c + 2 * j) = true := by
  have e : (234 + 22 * c + 2 * j - 228) % 22 = 6 + 2 * j := by omega
  rw [px_rwc _ (by omega) (by omega), e]
  have e1 : decide (6 ≤ 6 + 2 * j) = true := by simp
  have e3 : ((6 + 2 * j) % 2 == 0) = true := by simp
  simp [e3]
theorem px_rc_0 : rc_rc (px_W b I V G R M p) (some (b + 0)) 0 = some (b + 0) := by
  exact px_isC 0 0 _ (px_e0 _ _ _ _ _ _)
theorem px_gI_0_6 : rc_gI (px_W b I V G R M p) (some (b + 0)) 0 6 = some (I 0 6) := by
  rw [rc_gI, px_gV 0 0 6 _ (px_e0 _ _ _ _ _ _)]; simp [px_F0]
theorem px_pV_0_6 (x : Int32) : rc_pV (px_W b I V G R M p) (some (b + 0)) 0 6 (.int x) = some (px_W b (px_u2 I 0 6 x) V G R M p) := by
  simp only [rc_pV, px_at, px_e0, if_true]
  rw [px_F0_up _ 6 _ (by decide)]
  refine congrArg some (px_up 0 (by rw [px_e0, px_u2_I]) (fun q hq => px_u2_sl _ _ _ _ _ hq) (fun _ _ => rfl) (fun _ _ => rfl) (fun _ _ => rfl) (fun _ _ => rfl))
theorem px_pI_0_6 (x : Int32) : rc_pI (px_W b I V G R M p) (some (b + 0)) 0 6 x = some (px_W b (px_u2 I 0 6 x) V G R M p) := by
  exact px_pV_0_6 x
theorem px_gR_0_0 : rc_gR (px_W b I V G R M p) (some (b + 0)) 0 0 = some (some (b + 1)) := by
  rw [rc_gR, px_gV 0 0 0 _ (px_e0 _ _ _ _ _ _)]; simp [px_F0]
theorem px_gR_0_1 : rc_gR (px_W b I V G R M p) (some (b + 0)) 0 1 = some (some (b + 3)) := by
  rw [rc_gR, px_gV 0 0 1 _ (px_e0 _ _ _ _ _ _)]; simp [px_F0]
theorem px_gR_0_2 : rc_gR (px_W b I V G R M p) (some (b + 0)) 0 2 = some (some (b + 4)) := by
  rw [rc_gR, px_gV 0 0 2 _ (px_e0 _ _ _ _ _ _)]; simp [px_F0]
theorem px_gR_0_3 : rc_gR (px_W b I V G R M p) (some (b + 0)) 0 3 = some (some (b + 5)) := by
  rw [rc_gR, px_gV 0 0 3 _ (px_e0 _ _ _ _ _ _)]; simp [px_F0]
theorem px_gR_0_4 : rc_gR (px_W b I V G R M p) (some (b + 0)) 0 4 = some (some (b + 96)) := by
  rw [rc_gR, px_gV 0 0 4 _ (px_e0 _ _ _ _ _ _)]; simp [px_F0]
theorem px_gR_0_5 : rc_gR (px_W b I V G R M p) (some (b + 0)) 0 5 = some (some (b + 98)) := by
  rw [rc_gR, px_gV 0 0 5 _ (px_e0 _ _ _ _ _ _)]; simp [px_F0]
theorem px_rc_5 : rc_rc (px_W b I V G R M p) (some (b + 5)) 2 = some (b + 5) := by
  exact px_isC 5 2 _ (px_e5 _ _ _ _ _ _)
theorem px_gI_5_3 : rc_gI (px_W b I V G R M p) (some (b + 5)) 2 3 = some (I 5 3) := by
  rw [rc_gI, px_gV 5 2 3 _ (px_e5 _ _ _ _ _ _)]; simp [px_F2]
theorem px_pV_5_3 (x : Int32) : rc_pV (px_W b I V G R M p) (some (b + 5)) 2 3 (.int x) = some (px_W b (px_u2 I 5 3 x) V G R M p) := by
  simp only [rc_pV, px_at, px_e5, if_true]
  rw [px_F2_up _ _ 3 _ (by decide) (by decide) (by decide) (by decide)]
  refine congrArg some (px_up 5 (by rw [px_e5, px_u2_I]) (fun q hq => px_u2_sl _ _ _ _ _ hq) (fun _ _ => rfl) (fun _ _ => rfl) (fun _ _ => rfl) (fun _ _ => rfl))
theorem px_pI_5_3 (x : Int32) : rc_pI (px_W b I V G R M p) (some (b + 5)) 2 3 x = some (px_W b (px_u2 I 5 3 x) V G R M p) := by
  exact px_pV_5_3 x
theorem px_gI_5_4 : rc_gI (px_W b I V G R M p) (some (b + 5)) 2 4 = some (I 5 4) := by
  rw [rc_gI, px_gV 5 2 4 _ (px_e5 _ _ _ _ _ _)]; simp [px_F2]
theorem px_pV_5_4 (x : Int32) : rc_pV (px_W b I V G R M p) (some (b + 5)) 2 4 (.int x) = some (px_W b (px_u2 I 5 4 x) V G R M p) := by
  simp only [rc_pV, px_at, px_e5, if_true]
  rw [px_F2_up _ _ 4 _ (by decide) (by decide) (by decide) (by decide)]
  refine congrArg some (px_up 5 (by rw [px_e5, px_u2_I]) (fun q hq => px_u2_sl _ _ _ _ _ hq) (fun _ _ => rfl) (fun _ _ => rfl) (fun _ _ => rfl) (fun _ _ => rfl))
theorem px_pI_5_4 (x : Int32) : rc_pI (px_W b I V G R M p) (some (b + 5)) 2 4 x = some (px_W b (px_u2 I 5 4 x) V G R M p) := by
  exact px_pV_5_4 x
theorem px_gI_5_5 : rc_gI (px_W b I V G R M p) (some (b + 5)) 2 5 = some (I 5 5) := by
  rw [rc_gI, px_gV 5 2 5 _ (px_e5 _ _ _ _ _ _)]; simp [px_F2]
theorem px_pV_5_5 (x : Int32) : rc_pV (px_W b I V G R M p) (some (b + 5)) 2 5 (.int x) = some (px_W b (px_u2 I 5 5 x) V G R M p) := by
  simp only [rc_pV, px_at, px_e5, if_true]
  rw [px_F2_up _ _ 5 _ (by decide) (by decide) (by decide) (by decide)]
  refine congrArg some (px_up 5 (by rw [px_e5, px_u2_I]) (fun q hq => px_u2_sl _ _ _ _ _ hq) (fun _ _ => rfl) (fun _ _ => rfl) (fun _ _ => rfl) (fun _ _ => rfl))
theorem px_pI_5_5 (x : Int32) : rc_pI (px_W b I V G R M p) (some (b + 5)) 2 5 x = some (px_W b (px_u2 I 5 5 x) V G R M p) := by
  exact px_pV_5_5 x
theorem px_gI_5_8 : rc_gI (px_W b I V G R M p) (some (b + 5)) 2 8 = some (I 5 8) := by
  rw [rc_gI, px_gV 5 2 8 _ (px_e5 _ _ _ _ _ _)]; simp [px_F2]
theorem px_pV_5_8 (x : Int32) : rc_pV (px_W b I V G R M p) (some (b + 5)) 2 8 (.int x) = some (px_W b (px_u2 I 5 8 x) V G R M p) := by
  simp only [rc_pV, px_at, px_e5, if_true]
  rw [px_F2_up _ _ 8 _ (by decide) (by decide) (by decide) (by decide)]
  refine congrArg some (px_up 5 (by rw [px_e5, px_u2_I]) (fun q hq => px_u2_sl _ _ _ _ _ hq) (fun _ _ => rfl) (fun _ _ => rfl) (fun _ _ => rfl) (fun _ _ => rfl))
theorem px_pI_5_8 (x : Int32) : rc_pI (px_W b I V G R M p) (some (b + 5)) 2 8 x = some (px_W b (px_u2 I 5 8 x) V G R M p) := by
  exact px_pV_5_8 x
theorem px_gI_5_9 : rc_gI (px_W b I V G R M p) (some (b + 5)) 2 9 = some (I 5 9) := by
  rw [rc_gI, px_gV 5 2 9 _ (px_e5 _ _ _ _ _ _)]; simp [px_F2]
theorem px_pV_5_9 (x : Int32) : rc_pV (px_W b I V G R M p) (some (b + 5)) 2 9 (.int x) = some (px_W b (px_u2 I 5 9 x) V G R M p) := by
  simp only [rc_pV, px_at, px_e5, if_true]
  rw [px_F2_up _ _ 9 _ (by decide) (by decide) (by decide) (by decide)]
  refine congrArg some (px_up 5 (by rw [px_e5, px_u2_I]) (fun q hq => px_u2_sl _ _ _ _ _ hq) (fun _ _ => rfl) (fun _ _ => rfl) (fun _ _ => rfl) (fun _ _ => rfl))
theorem px_pI_5_9 (x : Int32) : rc_pI (px_W b I V G R M p) (some (b + 5)) 2 9 x = some (px_W b (px_u2 I 5 9 x) V G R M p) := by
  exact px_pV_5_9 x
theorem px_gI_5_11 : rc_gI (px_W b I V G R M p) (some (b + 5)) 2 11 = some (I 5 11) := by
  rw [rc_gI, px_gV 5 2 11 _ (px_e5 _ _ _ _ _ _)]; simp [px_F2]
theorem px_pV_5_11 (x : Int32) : rc_pV (px_W b I V G R M p) (some (b + 5)) 2 11 (.int x) = some (px_W b (px_u2 I 5 11 x) V G R M p) := by
  simp only [rc_pV, px_at, px_e5, if_true]
  rw [px_F2_up _ _ 11 _ (by decide) (by decide) (by decide) (by decide)]
  refine congrArg some (px_up 5 (by rw [px_e5, px_u2_I]) (fun q hq => px_u2_sl _ _ _ _ _ hq) (fun _ _ => rfl) (fun _ _ => rfl) (fun _ _ => rfl) (fun _ _ => rfl))
theorem px_pI_5_11 (x : Int32) : rc_pI (px_W b I V G R M p) (some (b + 5)) 2 11 x = some (px_W b (px_u2 I 5 11 x) V G R M p) := by
  exact px_pV_5_11 x
theorem px_gI_5_12 : rc_gI (px_W b I V G R M p) (some (b + 5)) 2 12 = some (I 5 12) := by
  rw [rc_gI, px_gV 5 2 12 _ (px_e5 _ _ _ _ _ _)]; simp [px_F2]
theorem px_pV_5_12 (x : Int32) : rc_pV (px_W b I V G R M p) (some (b + 5)) 2 12 (.int x) = some (px_W b (px_u2 I 5 12 x) V G R M p) := by
  simp only [rc_pV, px_at, px_e5, if_true]
  rw [px_F2_up _ _ 12 _ (by decide) (by decide) (by decide) (by decide)]
  refine congrArg some (px_up 5 (by rw [px_e5, px_u2_I]) (fun q hq => px_u2_sl _ _ _ _ _ hq) (fun _ _ => rfl) (fun _ _ => rfl) (fun _ _ => rfl) (fun _ _ => rfl))
theorem px_pI_5_12 (x : Int32) : rc_pI (px_W b I V G R M p) (some (b + 5)) 2 12 x = some (px_W b (px_u2 I 5 12 x) V G R M p) := by
  exact px_pV_5_12 x
theorem px_gR_5_0 : rc_gR (px_W b I V G R M p) (some (b + 5)) 2 0 = some (some (b + 6)) := by
  rw [rc_gR, px_gV 5 2 0 _ (px_e5 _ _ _ _ _ _)]; simp [px_F2]
theorem px_gR_5_1 : rc_gR (px_W b I V G R M p) (some (b + 5)) 2 1 = some (some (b + 89)) := by
  rw [rc_gR, px_gV 5 2 1 _ (px_e5 _ _ _ _ _ _)]; simp [px_F2]
theorem px_gR_5_2 : rc_gR (px_W b I V G R M p) (some (b + 5)) 2 2 = some (some (b + 92)) := by
  rw [rc_gR, px_gV 5 2 2 _ (px_e5 _ _ _ _ _ _)]; simp [px_F2]
theorem px_gR_5_6 : rc_gR (px_W b I V G R M p) (some (b + 5)) 2 6 = some (some (b + 94)) := by
  rw [rc_gR, px_gV 5 2 6 _ (px_e5 _ _ _ _ _ _)]; simp [px_F2]
theorem px_gR_5_7 : rc_gR (px_W b I V G R M p) (some (b + 5)) 2 7 = some (some (b + 95)) := by
  rw [rc_gR, px_gV 5 2 7 _ (px_e5 _ _ _ _ _ _)]; simp [px_F2]
theorem px_rc_6 : rc_rc (px_W b I V G R M p) (some (b + 6)) 3 = some (b + 6) := by
  exact px_isC 6 3 _ (px_e6 _ _ _ _ _ _)
theorem px_gI_6_2 : rc_gI (px_W b I V G R M p) (some (b + 6)) 3 2 = some (I 6 2) := by
  rw [rc_gI, px_gV 6 3 2 _ (px_e6 _ _ _ _ _ _)]; simp [px_F3]
theorem px_pV_6_2 (x : Int32) : rc_pV (px_W b I V G R M p) (some (b + 6)) 3 2 (.int x) = some (px_W b (px_u2 I 6 2 x) V G R M p) := by
  simp only [rc_pV, px_at, px_e6, if_true]
  rw [px_F3_up _ 2 _ (by decide)]
  refine congrArg some (px_up 6 (by rw [px_e6, px_u2_I]) (fun q hq => px_u2_sl _ _ _ _ _ hq) (fun _ _ => rfl) (fun _ _ => rfl) (fun _ _ => rfl) (fun _ _ => rfl))
theorem px_pI_6_2 (x : Int32) : rc_pI (px_W b I V G R M p) (some (b + 6)) 3 2 x = some (px_W b (px_u2 I 6 2 x) V G R M p) := by
  exact px_pV_6_2 x
theorem px_gR_6_0 : rc_gR (px_W b I V G R M p) (some (b + 6)) 3 0 = some (some (b + 7)) := by
  rw [rc_gR, px_gV 6 3 0 _ (px_e6 _ _ _ _ _ _)]; simp [px_F3]
theorem px_gR_6_1 : rc_gR (px_W b I V G R M p) (some (b + 6)) 3 1 = some (some (b + 8)) := by
  rw [rc_gR, px_gV 6 3 1 _ (px_e6 _ _ _ _ _ _)]; simp [px_F3]
theorem px_rc_89 : rc_rc (px_W b I V G R M p) (some (b + 89)) 4 = some (b + 89) := by
  exact px_isC 89 4 _ (px_e89 _ _ _ _ _ _)
theorem px_gI_89_1 : rc_gI (px_W b I V G R M p) (some (b + 89)) 4 1 = some (I 89 1) := by
  rw [rc_gI, px_gV 89 4 1 _ (px_e89 _ _ _ _ _ _)]; simp [px_F4]
theorem px_pV_89_1 (x : Int32) : rc_pV (px_W b I V G R M p) (some (b + 89)) 4 1 (.int x) = some (px_W b (px_u2 I 89 1 x) V G R M p) := by
  simp only [rc_pV, px_at, px_e89, if_true]
  rw [px_F4_up _ _ 1 _ (by decide)]
  refine congrArg some (px_up 89 (by rw [px_e89, px_u2_I]) (fun q hq => px_u2_sl _ _ _ _ _ hq) (fun _ _ => rfl) (fun _ _ => rfl) (fun _ _ => rfl) (fun _ _ => rfl))
theorem px_pI_89_1 (x : Int32) : rc_pI (px_W b I V G R M p) (some (b + 89)) 4 1 x = some (px_W b (px_u2 I 89 1 x) V G R M p) := by
  exact px_pV_89_1 x
theorem px_gI_89_2 : rc_gI (px_W b I V G R M p) (some (b + 89)) 4 2 = some (I 89 2) := by
  rw [rc_gI, px_gV 89 4 2 _ (px_e89 _ _ _ _ _ _)]; simp [px_F4]
theorem px_pV_89_2 (x : Int32) : rc_pV (px_W b I V G R M p) (some (b + 89)) 4 2 (.int x) = some (px_W b (px_u2 I 89 2 x) V G R M p) := by
  simp only [rc_pV, px_at, px_e89, if_true]
  rw [px_F4_up _ _ 2 _ (by decide)]
  refine congrArg some (px_up 89 (by rw [px_e89, px_u2_I]) (fun q hq => px_u2_sl _ _ _ _ _ hq) (fun _ _ => rfl) (fun _ _ => rfl) (fun _ _ => rfl) (fun _ _ => rfl))
theorem px_pI_89_2 (x : Int32) : rc_pI (px_W b I V G R M p) (some (b + 89)) 4 2 x = some (px_W b (px_u2 I 89 2 x) V G R M p) := by
  exact px_pV_89_2 x
theorem px_rc_c (c : Nat) (hc : c < 4) : rc_rc (px_W b I V G R M p) (some (b + (228 + 22 * c))) 5 = some (b + (228 + 22 * c)) := by
  exact px_isC (228 + 22 * c) 5 _ (px_ec c hc _ _ _ _ _ _)
theorem px_gI_c_2 (c : Nat) (hc : c < 4) : rc_gI (px_W b I V G R M p) (some (b + (228 + 22 * c))) 5 2 = some (I (228 + 22 * c) 2) := by
  rw [rc_gI, px_gV (228 + 22 * c) 5 2 _ (px_ec c hc _ _ _ _ _ _)]; simp [px_F5]
theorem px_pV_c_2 (c : Nat) (hc : c < 4) (x : Int32) : rc_pV (px_W b I V G R M p) (some (b + (228 + 22 * c))) 5 2 (.int x) = some (px_W b (px_u2 I (228 + 22 * c) 2 x) V G R M p) := by
  simp only [rc_pV, px_at, px_ec c hc, if_true]
  rw [px_F5_up _ _ 2 _ (by decide)]
  refine congrArg some (px_up (228 + 22 * c) (by rw [px_ec c hc, px_u2_I]) (fun q hq => px_u2_sl _ _ _ _ _ hq) (fun _ _ => rfl) (fun _ _ => rfl) (fun _ _ => rfl) (fun _ _ => rfl))
theorem px_pI_c_2 (c : Nat) (hc : c < 4) (x : Int32) : rc_pI (px_W b I V G R M p) (some (b + (228 + 22 * c))) 5 2 x = some (px_W b (px_u2 I (228 + 22 * c) 2 x) V G R M p) := by
  exact px_pV_c_2 c hc x
theorem px_gI_c_3 (c : Nat) (hc : c < 4) : rc_gI (px_W b I V G R M p) (some (b + (228 + 22 * c))) 5 3 = some (I (228 + 22 * c) 3) := by
  rw [rc_gI, px_gV (228 + 22 * c) 5 3 _ (px_ec c hc _ _ _ _ _ _)]; simp [px_F5]
theorem px_pV_c_3 (c : Nat) (hc : c < 4) (x : Int32) : rc_pV (px_W b I V G R M p) (some (b + (228 + 22 * c))) 5 3 (.int x) = some (px_W b (px_u2 I (228 + 22 * c) 3 x) V G R M p) := by
  simp only [rc_pV, px_at, px_ec c hc, if_true]
  rw [px_F5_up _ _ 3 _ (by decide)]
  refine congrArg some (px_up (228 + 22 * c) (by rw [px_ec c hc, px_u2_I]) (fun q hq => px_u2_sl _ _ _ _ _ hq) (fun _ _ => rfl) (fun _ _ => rfl) (fun _ _ => rfl) (fun _ _ => rfl))
theorem px_pI_c_3 (c : Nat) (hc : c < 4) (x : Int32) : rc_pI (px_W b I V G R M p) (some (b + (228 + 22 * c))) 5 3 x = some (px_W b (px_u2 I (228 + 22 * c) 3 x) V G R M p) := by
  exact px_pV_c_3 c hc x
theorem px_gI_c_4 (c : Nat) (hc : c < 4) : rc_gI (px_W b I V G R M p) (some (b + (228 + 22 * c))) 5 4 = some (I (228 + 22 * c) 4) := by
  rw [rc_gI, px_gV (228 + 22 * c) 5 4 _ (px_ec c hc _ _ _ _ _ _)]; simp [px_F5]
theorem px_pV_c_4 (c : Nat) (hc : c < 4) (x : Int32) : rc_pV (px_W b I V G R M p) (some (b + (228 + 22 * c))) 5 4 (.int x) = some (px_W b (px_u2 I (228 + 22 * c) 4 x) V G R M p) := by
  simp only [rc_pV, px_at, px_ec c hc, if_true]
  rw [px_F5_up _ _ 4 _ (by decide)]
  refine congrArg some (px_up (228 + 22 * c) (by rw [px_ec c hc, px_u2_I]) (fun q hq => px_u2_sl _ _ _ _ _ hq) (fun _ _ => rfl) (fun _ _ => rfl) (fun _ _ => rfl) (fun _ _ => rfl))
theorem px_pI_c_4 (c : Nat) (hc : c < 4) (x : Int32) : rc_pI (px_W b I V G R M p) (some (b + (228 + 22 * c))) 5 4 x = some (px_W b (px_u2 I (228 + 22 * c) 4 x) V G R M p) := by
  exact px_pV_c_4 c hc x
theorem px_gI_c_5 (c : Nat) (hc : c < 4) : rc_gI (px_W b I V G R M p) (some (b + (228 + 22 * c))) 5 5 = some (I (228 + 22 * c) 5) := by
  rw [rc_gI, px_gV (228 + 22 * c) 5 5 _ (px_ec c hc _ _ _ _ _ _)]; simp [px_F5]
theorem px_pV_c_5 (c : Nat) (hc : c < 4) (x : Int32) : rc_pV (px_W b I V G R M p) (some (b + (228 + 22 * c))) 5 5 (.int x) = some (px_W b (px_u2 I (228 + 22 * c) 5 x) V G R M p) := by
  simp only [rc_pV, px_at, px_ec c hc, if_true]
  rw [px_F5_up _ _ 5 _ (by decide)]
  refine congrArg some (px_up (228 + 22 * c) (by rw [px_ec c hc, px_u2_I]) (fun q hq => px_u2_sl _ _ _ _ _ hq) (fun _ _ => rfl) (fun _ _ => rfl) (fun _ _ => rfl) (fun _ _ => rfl))
theorem px_pI_c_5 (c : Nat) (hc : c < 4) (x : Int32) : rc_pI (px_W b I V G R M p) (some (b + (228 + 22 * c))) 5 5 x = some (px_W b (px_u2 I (228 + 22 * c) 5 x) V G R M p) := by
  exact px_pV_c_5 c hc x
theorem px_gR_c_0 (c : Nat) (hc : c < 4) : rc_gR (px_W b I V G R M p) (some (b + (228 + 22 * c))) 5 0 = some (some (b + (229 + 22 * c))) := by
  rw [rc_gR, px_gV (228 + 22 * c) 5 0 _ (px_ec c hc _ _ _ _ _ _)]; simp [px_F5]; omega
theorem px_gR_c_1 (c : Nat) (hc : c < 4) : rc_gR (px_W b I V G R M p) (some (b + (228 + 22 * c))) 5 1 = some (some (b + (231 + 22 * c))) := by
  rw [rc_gR, px_gV (228 + 22 * c) 5 1 _ (px_ec c hc _ _ _ _ _ _)]; simp [px_F5]; omega
theorem px_rc_r (c : Nat) (hc : c < 4) : rc_rc (px_W b I V G R M p) (some (b + (231 + 22 * c))) 6 = some (b + (231 + 22 * c)) := by
  exact px_isC (231 + 22 * c) 6 _ (px_er c hc _ _ _ _ _ _)
theorem px_gI_r_2 (c : Nat) (hc : c < 4) : rc_gI (px_W b I V G R M p) (some (b + (231 + 22 * c))) 6 2 = some (I (231 + 22 * c) 2) := by
  rw [rc_gI, px_gV (231 + 22 * c) 6 2 _ (px_er c hc _ _ _ _ _ _)]; simp [px_F6]
theorem px_pV_r_2 (c : Nat) (hc : c < 4) (x : Int32) : rc_pV (px_W b I V G R M p) (some (b + (231 + 22 * c))) 6 2 (.int x) = some (px_W b (px_u2 I (231 + 22 * c) 2 x) V G R M p) := by
  simp only [rc_pV, px_at, px_er c hc, if_true]
  rw [px_F6_up _ _ 2 _ (by decide)]
  refine congrArg some (px_up (231 + 22 * c) (by rw [px_er c hc, px_u2_I]) (fun q hq => px_u2_sl _ _ _ _ _ hq) (fun _ _ => rfl) (fun _ _ => rfl) (fun _ _ => rfl) (fun _ _ => rfl))
theorem px_pI_r_2 (c : Nat) (hc : c < 4) (x : Int32) : rc_pI (px_W b I V G R M p) (some (b + (231 + 22 * c))) 6 2 x = some (px_W b (px_u2 I (231 + 22 * c) 2 x) V G R M p) := by
  exact px_pV_r_2 c hc x
theorem px_gI_r_3 (c : Nat) (hc : c < 4) : rc_gI (px_W b I V G R M p) (some (b + (231 + 22 * c))) 6 3 = some (I (231 + 22 * c) 3) := by
  rw [rc_gI, px_gV (231 + 22 * c) 6 3 _ (px_er c hc _ _ _ _ _ _)]; simp [px_F6]
theorem px_pV_r_3 (c : Nat) (hc : c < 4) (x : Int32) : rc_pV (px_W b I V G R M p) (some (b + (231 + 22 * c))) 6 3 (.int x) = some (px_W b (px_u2 I (231 + 22 * c) 3 x) V G R M p) := by
  simp only [rc_pV, px_at, px_er c hc, if_true]
  rw [px_F6_up _ _ 3 _ (by decide)]
  refine congrArg some (px_up (231 + 22 * c) (by rw [px_er c hc, px_u2_I]) (fun q hq => px_u2_sl _ _ _ _ _ hq) (fun _ _ => rfl) (fun _ _ => rfl) (fun _ _ => rfl) (fun _ _ => rfl))
theorem px_pI_r_3 (c : Nat) (hc : c < 4) (x : Int32) : rc_pI (px_W b I V G R M p) (some (b + (231 + 22 * c))) 6 3 x = some (px_W b (px_u2 I (231 + 22 * c) 3 x) V G R M p) := by
  exact px_pV_r_3 c hc x
theorem px_gR_r_0 (c : Nat) (hc : c < 4) : rc_gR (px_W b I V G R M p) (some (b + (231 + 22 * c))) 6 0 = some (some (b + (232 + 22 * c))) := by
  rw [rc_gR, px_gV (231 + 22 * c) 6 0 _ (px_er c hc _ _ _ _ _ _)]; simp [px_F6]; omega
theorem px_gR_r_1 (c : Nat) (hc : c < 4) : rc_gR (px_W b I V G R M p) (some (b + (231 + 22 * c))) 6 1 = some (some (b + (233 + 22 * c))) := by
  rw [rc_gR, px_gV (231 + 22 * c) 6 1 _ (px_er c hc _ _ _ _ _ _)]; simp [px_F6]; omega
theorem px_pZ_89_2 (x : Int32) : rc_pZ (px_W b I V G R M p) (some (b + 89)) 4 2 x = if x = 0 ∨ x = 1 then some (px_W b (px_u2 I 89 2 x) V G R M p) else none := by
  rw [rc_pZ, px_pV_89_2]
theorem px_pZ_c_2 (c : Nat) (hc : c < 4) (x : Int32) : rc_pZ (px_W b I V G R M p) (some (b + (228 + 22 * c))) 5 2 x = if x = 0 ∨ x = 1 then some (px_W b (px_u2 I (228 + 22 * c) 2 x) V G R M p) else none := by
  rw [rc_pZ, px_pV_c_2 c hc]
theorem px_gR_89_0 : rc_gR (px_W b I V G R M p) (some (b + 89)) 4 0 = some (some (b + G 89 0)) := by
  rw [rc_gR, px_gV 89 4 0 _ (px_e89 _ _ _ _ _ _)]; simp [px_F4]
theorem px_pR_89 (r : Nat) : rc_pR (px_W b I V G R M p) (some (b + 89)) 4 0 (some (b + r)) = some (px_W b I V (px_u2 G 89 0 r) R M p) := by
  simp only [rc_pR, rc_pV, px_at, px_e89, if_true]
  rw [px_F4_upR]
  refine congrArg some (px_up 89 ?_ (fun _ _ => rfl) (fun _ _ => rfl) (fun q hq => px_u2_sl _ _ _ _ _ hq) (fun _ _ => rfl) (fun _ _ => rfl))
  rw [px_e89]
  have e : px_u2 G 89 0 r 89 = fun j => if j = 0 then r else G 89 j := by funext j; simp [px_u2]
  rw [e]
theorem px_gL_5 : rc_gL (px_W b I V G R M p) (some (b + 5)) 2 10 = some (V 5 10) := by
  rw [rc_gL, px_gV 5 2 10 _ (px_e5 _ _ _ _ _ _)]; simp [px_F2]
theorem px_pL_5 (x : Int64) : rc_pL (px_W b I V G R M p) (some (b + 5)) 2 10 x = some (px_W b I (px_u2 V 5 10 x) G R M p) := by
  simp only [rc_pL, rc_pV, px_at, px_e5, if_true]
  rw [px_F2_upL]
  refine congrArg some (px_up 5 ?_ (fun _ _ => rfl) (fun q hq => px_u2_sl _ _ _ _ _ hq) (fun _ _ => rfl) (fun _ _ => rfl) (fun _ _ => rfl))
  rw [px_e5, px_u2_V]
theorem px_rc_m : rc_rc (px_W b I V G R M p) (some (b + 316)) 7 = some (b + 316) := by
  exact px_isC 316 7 _ (px_e316 _ _ _ _ _ _)
theorem px_gI_m (k : Nat) (h : px_mf k = true) : rc_gI (px_W b I V G R M p) (some (b + 316)) 7 k = some (M 316 k) := by
  rw [rc_gI, px_gV 316 7 k _ (px_e316 _ _ _ _ _ _), px_F7_int _ _ h]
theorem px_pV_m (k : Nat) (x : Int32) (h : px_mf k = true) : rc_pV (px_W b I V G R M p) (some (b + 316)) 7 k (.int x) = some (px_W b I V G R (px_u2 M 316 k x) p) := by
  simp only [rc_pV, px_at, px_e316, if_true]
  rw [px_F7_up _ _ _ h]
  exact congrArg some (px_up 316 (by rw [px_e316, px_u2_I]) (fun _ _ => rfl) (fun _ _ => rfl) (fun _ _ => rfl) (fun _ _ => rfl) (fun q hq => px_u2_sl _ _ _ _ _ hq))
theorem px_gI_m_0 : rc_gI (px_W b I V G R M p) (some (b + 316)) 7 0 = some (M 316 0) := by
  exact px_gI_m 0 (by decide)
theorem px_pI_m_0 (x : Int32) : rc_pI (px_W b I V G R M p) (some (b + 316)) 7 0 x = some (px_W b I V G R (px_u2 M 316 0 x) p) := by
  exact px_pV_m 0 x (by decide)
theorem px_gI_m_2 : rc_gI (px_W b I V G R M p) (some (b + 316)) 7 2 = some (M 316 2) := by
  exact px_gI_m 2 (by decide)
theorem px_pI_m_2 (x : Int32) : rc_pI (px_W b I V G R M p) (some (b + 316)) 7 2 x = some (px_W b I V G R (px_u2 M 316 2 x) p) := by
  exact px_pV_m 2 x (by decide)
theorem px_gI_m_5 : rc_gI (px_W b I V G R M p) (some (b + 316)) 7 5 = some (M 316 5) := by
  exact px_gI_m 5 (by decide)
theorem px_pI_m_5 (x : Int32) : rc_pI (px_W b I V G R M p) (some (b + 316)) 7 5 x = some (px_W b I V G R (px_u2 M 316 5 x) p) := by
  exact px_pV_m 5 x (by decide)
theorem px_gI_m_10 : rc_gI (px_W b I V G R M p) (some (b + 316)) 7 10 = some (M 316 10) := by
  exact px_gI_m 10 (by decide)
theorem px_pI_m_10 (x : Int32) : rc_pI (px_W b I V G R M p) (some (b + 316)) 7 10 x = some (px_W b I V G R (px_u2 M 316 10 x) p) := by
  exact px_pV_m 10 x (by decide)
theorem px_gI_m_23 : rc_gI (px_W b I V G R M p) (some (b + 316)) 7 23 = some (M 316 23) := by
  exact px_gI_m 23 (by decide)
theorem px_pI_m_23 (x : Int32) : rc_pI (px_W b I V G R M p) (some (b + 316)) 7 23 x = some (px_W b I V G R (px_u2 M 316 23 x) p) := by
  exact px_pV_m 23 x (by decide)
theorem px_gI_m_24 : rc_gI (px_W b I V G R M p) (some (b + 316)) 7 24 = some (M 316 24) := by
  exact px_gI_m 24 (by decide)
theorem px_pI_m_24 (x : Int32) : rc_pI (px_W b I V G R M p) (some (b + 316)) 7 24 x = some (px_W b I V G R (px_u2 M 316 24 x) p) := by
  exact px_pV_m 24 x (by decide)
theorem px_gI_m_25 : rc_gI (px_W b I V G R M p) (some (b + 316)) 7 25 = some (M 316 25) := by
  exact px_gI_m 25 (by decide)
theorem px_pI_m_25 (x : Int32) : rc_pI (px_W b I V G R M p) (some (b + 316)) 7 25 x = some (px_W b I V G R (px_u2 M 316 25 x) p) := by
  exact px_pV_m 25 x (by decide)
theorem px_gI_m_26 : rc_gI (px_W b I V G R M p) (some (b + 316)) 7 26 = some (M 316 26) := by
  exact px_gI_m 26 (by decide)
theorem px_pI_m_26 (x : Int32) : rc_pI (px_W b I V G R M p) (some (b + 316)) 7 26 x = some (px_W b I V G R (px_u2 M 316 26 x) p) := by
  exact px_pV_m 26 x (by decide)
theorem px_gI_m_27 : rc_gI (px_W b I V G R M p) (some (b + 316)) 7 27 = some (M 316 27) := by
  exact px_gI_m 27 (by decide)
theorem px_pI_m_27 (x : Int32) : rc_pI (px_W b I V G R M p) (some (b + 316)) 7 27 x = some (px_W b I V G R (px_u2 M 316 27 x) p) := by
  exact px_pV_m 27 x (by decide)
theorem px_gI_m_28 : rc_gI (px_W b I V G R M p) (some (b + 316)) 7 28 = some (M 316 28) := by
  exact px_gI_m 28 (by decide)
theorem px_pI_m_28 (x : Int32) : rc_pI (px_W b I V G R M p) (some (b + 316)) 7 28 x = some (px_W b I V G R (px_u2 M 316 28 x) p) := by
  exact px_pV_m 28 x (by decide)
theorem px_gI_m_29 : rc_gI (px_W b I V G R M p) (some (b + 316)) 7 29 = some (M 316 29) := by
  exact px_gI_m 29 (by decide)
theorem px_pI_m_29 (x : Int32) : rc_pI (px_W b I V G R M p) (some (b + 316)) 7 29 x = some (px_W b I V G R (px_u2 M 316 29 x) p) := by
  exact px_pV_m 29 x (by decide)
theorem px_gI_m_30 : rc_gI (px_W b I V G R M p) (some (b + 316)) 7 30 = some (M 316 30) := by
  exact px_gI_m 30 (by decide)
theorem px_pI_m_30 (x : Int32) : rc_pI (px_W b I V G R M p) (some (b + 316)) 7 30 x = some (px_W b I V G R (px_u2 M 316 30 x) p) := by
  exact px_pV_m 30 x (by decide)
theorem px_gI_m_32 : rc_gI (px_W b I V G R M p) (some (b + 316)) 7 32 = some (M 316 32) := by
  exact px_gI_m 32 (by decide)
theorem px_pI_m_32 (x : Int32) : rc_pI (px_W b I V G R M p) (some (b + 316)) 7 32 x = some (px_W b I V G R (px_u2 M 316 32 x) p) := by
  exact px_pV_m 32 x (by decide)
theorem px_gI_m_33 : rc_gI (px_W b I V G R M p) (some (b + 316)) 7 33 = some (M 316 33) := by
  exact px_gI_m 33 (by decide)
theorem px_pI_m_33 (x : Int32) : rc_pI (px_W b I V G R M p) (some (b + 316)) 7 33 x = some (px_W b I V G R (px_u2 M 316 33 x) p) := by
  exact px_pV_m 33 x (by decide)
theorem px_pZ_m_28 (x : Int32) : rc_pZ (px_W b I V G R M p) (some (b + 316)) 7 28 x = if x = 0 ∨ x = 1 then some (px_W b I V G R (px_u2 M 316 28 x) p) else none := by
  rw [rc_pZ, px_pV_m 28 x (by decide)]
theorem px_gR_m_1 : rc_gR (px_W b I V G R M p) (some (b + 316)) 7 1 = some (some (b + 317)) := by
  rw [rc_gR, px_gV 316 7 1 _ (px_e316 _ _ _ _ _ _)]; simp [px_F7]
theorem px_gR_m_3 : rc_gR (px_W b I V G R M p) (some (b + 316)) 7 3 = some (some (b + 318)) := by
  rw [rc_gR, px_gV 316 7 3 _ (px_e316 _ _ _ _ _ _)]; simp [px_F7]
theorem px_gR_m_4 : rc_gR (px_W b I V G R M p) (some (b + 316)) 7 4 = some (some (b + 319)) := by
  rw [rc_gR, px_gV 316 7 4 _ (px_e316 _ _ _ _ _ _)]; simp [px_F7]
theorem px_gR_m_6 : rc_gR (px_W b I V G R M p) (some (b + 316)) 7 6 = some (some (b + 320)) := by
  rw [rc_gR, px_gV 316 7 6 _ (px_e316 _ _ _ _ _ _)]; simp [px_F7]
theorem px_gR_m_7 : rc_gR (px_W b I V G R M p) (some (b + 316)) 7 7 = some (some (b + 321)) := by
  rw [rc_gR, px_gV 316 7 7 _ (px_e316 _ _ _ _ _ _)]; simp [px_F7]
theorem px_gR_m_8 : rc_gR (px_W b I V G R M p) (some (b + 316)) 7 8 = some (some (b + 322)) := by
  rw [rc_gR, px_gV 316 7 8 _ (px_e316 _ _ _ _ _ _)]; simp [px_F7]
theorem px_gR_m_9 : rc_gR (px_W b I V G R M p) (some (b + 316)) 7 9 = some (some (b + 323)) := by
  rw [rc_gR, px_gV 316 7 9 _ (px_e316 _ _ _ _ _ _)]; simp [px_F7]
theorem px_gR_m_11 : rc_gR (px_W b I V G R M p) (some (b + 316)) 7 11 = some (some (b + 324)) := by
  rw [rc_gR, px_gV 316 7 11 _ (px_e316 _ _ _ _ _ _)]; simp [px_F7]
theorem px_gR_m_12 : rc_gR (px_W b I V G R M p) (some (b + 316)) 7 12 = some (some (b + 325)) := by
  rw [rc_gR, px_gV 316 7 12 _ (px_e316 _ _ _ _ _ _)]; simp [px_F7]
theorem px_gR_m_13 : rc_gR (px_W b I V G R M p) (some (b + 316)) 7 13 = some (some (b + 326)) := by
  rw [rc_gR, px_gV 316 7 13 _ (px_e316 _ _ _ _ _ _)]; simp [px_F7]
theorem px_gR_m_14 : rc_gR (px_W b I V G R M p) (some (b + 316)) 7 14 = some (some (b + 327)) := by
  rw [rc_gR, px_gV 316 7 14 _ (px_e316 _ _ _ _ _ _)]; simp [px_F7]
theorem px_gR_m_15 : rc_gR (px_W b I V G R M p) (some (b + 316)) 7 15 = some (some (b + 328)) := by
  rw [rc_gR, px_gV 316 7 15 _ (px_e316 _ _ _ _ _ _)]; simp [px_F7]
theorem px_gR_m_16 : rc_gR (px_W b I V G R M p) (some (b + 316)) 7 16 = some (some (b + 329)) := by
  rw [rc_gR, px_gV 316 7 16 _ (px_e316 _ _ _ _ _ _)]; simp [px_F7]
theorem px_gR_m_17 : rc_gR (px_W b I V G R M p) (some (b + 316)) 7 17 = some (some (b + 330)) := by
  rw [rc_gR, px_gV 316 7 17 _ (px_e316 _ _ _ _ _ _)]; simp [px_F7]
theorem px_gR_m_18 : rc_gR (px_W b I V G R M p) (some (b + 316)) 7 18 = some (some (b + 331)) := by
  rw [rc_gR, px_gV 316 7 18 _ (px_e316 _ _ _ _ _ _)]; simp [px_F7]
theorem px_gR_m_19 : rc_gR (px_W b I V G R M p) (some (b + 316)) 7 19 = some (some (b + 332)) := by
  rw [rc_gR, px_gV 316 7 19 _ (px_e316 _ _ _ _ _ _)]; simp [px_F7]
theorem px_gR_m_20 : rc_gR (px_W b I V G R M p) (some (b + 316)) 7 20 = some (some (b + 333)) := by
  rw [rc_gR, px_gV 316 7 20 _ (px_e316 _ _ _ _ _ _)]; simp [px_F7]
theorem px_gR_m_21 : rc_gR (px_W b I V G R M p) (some (b + 316)) 7 21 = some (some (b + 334)) := by
  rw [rc_gR, px_gV 316 7 21 _ (px_e316 _ _ _ _ _ _)]; simp [px_F7]
theorem px_gR_m_22 : rc_gR (px_W b I V G R M p) (some (b + 316)) 7 22 = some (some (b + 335)) := by
  rw [rc_gR, px_gV 316 7 22 _ (px_e316 _ _ _ _ _ _)]; simp [px_F7]
theorem px_gR_m_31 : rc_gR (px_W b I V G R M p) (some (b + 316)) 7 31 = some (some (b + 336)) := by
  rw [rc_gR, px_gV 316 7 31 _ (px_e316 _ _ _ _ _ _)]; simp [px_F7]
theorem px_aIo (o kd n : Nat) (f : Nat → Int32) (j : Nat) (h : px_ent b o (I o) (V o) (G o) (R o) (M o) (p.1 o) = some (.inr (.inl (kd, n, .inl f)))) (hj : j < n) (hn : n < 2 ^ 31) : rc_aI (px_W b I V G R M p) (some (b + o)) kd (nI j) = some (f j) := by
  rw [rc_aI, px_gA o kd n _ h]
  simp only
  rw [if_neg (nI_in hj hn), nI_clamp (by omega)]
theorem px_sIo (o kd n : Nat) (f : Nat → Int32) (j : Nat) (x : Int32) (w' : rc_M) (h : px_ent b o (I o) (V o) (G o) (R o) (M o) (p.1 o) = some (.inr (.inl (kd, n, .inl f)))) (hj : j < n) (hn : n < 2 ^ 31) (hw : rc_up (px_W b I V G R M p) (b + o) (.inr (.inl (kd, n, .inl (upd f j (rc_nar kd x))))) = w') : rc_sI (px_W b I V G R M p) (some (b + o)) kd (nI j) x = some w' := by
  rw [rc_sI, px_gA o kd n _ h]
  simp only
  rw [if_neg (nI_in hj hn), nI_clamp (by omega), hw]
theorem px_aLo (o n : Nat) (f : Nat → Int64) (j : Nat) (h : px_ent b o (I o) (V o) (G o) (R o) (M o) (p.1 o) = some (.inr (.inl (1, n, .inr (.inl f))))) (hj : j < n) (hn : n < 2 ^ 31) : rc_aL (px_W b I V G R M p) (some (b + o)) (nI j) = some (f j) := by
  rw [rc_aL, px_gA o 1 n _ h]
  simp only
  rw [if_neg (nI_in hj hn), nI_clamp (by omega)]
theorem px_sLo (o n : Nat) (f : Nat → Int64) (j : Nat) (x : Int64) (w' : rc_M) (h : px_ent b o (I o) (V o) (G o) (R o) (M o) (p.1 o) = some (.inr (.inl (1, n, .inr (.inl f))))) (hj : j < n) (hn : n < 2 ^ 31) (hw : rc_up (px_W b I V G R M p) (b + o) (.inr (.inl (1, n, .inr (.inl (vp_updL f j x))))) = w') : rc_sL (px_W b I V G R M p) (some (b + o)) (nI j) x = some w' := by
  rw [rc_sL, px_gA o 1 n _ h]
  simp only
  rw [if_neg (nI_in hj hn), nI_clamp (by omega), hw]
theorem px_aRo (o kd n : Nat) (f : Nat → Option Nat) (j : Nat) (h : px_ent b o (I o) (V o) (G o) (R o) (M o) (p.1 o) = some (.inr (.inl (kd, n, .inr (.inr f))))) (hj : j < n) (hn : n < 2 ^ 31) : rc_aR (px_W b I V G R M p) (some (b + o)) kd (nI j) = some (f j) := by
  rw [rc_aR, px_gA o kd n _ h]
  simp only
  rw [if_neg (nI_in hj hn), nI_clamp (by omega)]
theorem px_e94 (i : Nat → Int32) (v : Nat → Int64) (g : Nat → Nat) (r : List UInt8) (m : Nat → Int32) (cap : Nat) : px_ent b 94 i v g r m cap = some (.inr (.inl (0, 8, .inl i))) := by simp [px_ent, px_rw]
theorem px_e95 (i : Nat → Int32) (v : Nat → Int64) (g : Nat → Nat) (r : List UInt8) (m : Nat → Int32) (cap : Nat) : px_ent b 95 i v g r m cap = some (.inr (.inl (0, 8, .inl i))) := by simp [px_ent, px_rw]
theorem px_e8 (i : Nat → Int32) (v : Nat → Int64) (g : Nat → Nat) (r : List UInt8) (m : Nat → Int32) (cap : Nat) : px_ent b 8 i v g r m cap = some (.inr (.inl (1, 40, .inr (.inl v)))) := by simp [px_ent, px_rw]
theorem px_e323 (i : Nat → Int32) (v : Nat → Int64) (g : Nat → Nat) (r : List UInt8) (m : Nat → Int32) (cap : Nat) : px_ent b 323 i v g r m cap = some (.inr (.inl (1, 41, .inr (.inl v)))) := by simp [px_ent, px_rw]
theorem px_e337 (i : Nat → Int32) (v : Nat → Int64) (g : Nat → Nat) (r : List UInt8) (m : Nat → Int32) (cap : Nat) : px_ent b 337 i v g r m cap = some (.inr (.inl (1, 1, .inr (.inl v)))) := by simp [px_ent, px_rw]
theorem px_e3 (i : Nat → Int32) (v : Nat → Int64) (g : Nat → Nat) (r : List UInt8) (m : Nat → Int32) (cap : Nat) : px_ent b 3 i v g r m cap = some (.inr (.inl (4, 64, .inr (.inr (fun j => if j < 64 then some (b + (100 + 2 * j)) else none))))) := by simp [px_ent, px_rw]
theorem px_e4 (i : Nat → Int32) (v : Nat → Int64) (g : Nat → Nat) (r : List UInt8) (m : Nat → Int32) (cap : Nat) : px_ent b 4 i v g r m cap = some (.inr (.inl (5, 4, .inr (.inr (fun j => if j < 4 then some (b + (228 + 22 * j)) else none))))) := by simp [px_ent, px_rw]
theorem px_e7 (i : Nat → Int32) (v : Nat → Int64) (g : Nat → Nat) (r : List UInt8) (m : Nat → Int32) (cap : Nat) : px_ent b 7 i v g r m cap = some (.inr (.inl (4, 40, .inr (.inr (fun j => if j < 40 then some (b + g j) else none))))) := by simp [px_ent, px_rw]
theorem px_aI_94 (j : Nat) (hj : j < 8) : rc_aI (px_W b I V G R M p) (some (b + 94)) 0 (nI j) = some (I 94 j) := px_aIo 94 0 8 _ j (px_e94 _ _ _ _ _ _) hj (by decide)
theorem px_sI_94 (j : Nat) (x : Int32) (hj : j < 8) : rc_sI (px_W b I V G R M p) (some (b + 94)) 0 (nI j) x = some (px_W b (px_u2 I 94 j x) V G R M p) := px_sIo 94 0 8 _ j x _ (px_e94 _ _ _ _ _ _) hj (by decide) (px_up 94 (by rw [px_e94, px_u2_I]; rfl) (fun q hq => px_u2_sl _ _ _ _ _ hq) (fun _ _ => rfl) (fun _ _ => rfl) (fun _ _ => rfl) (fun _ _ => rfl))
theorem px_aI_95 (j : Nat) (hj : j < 8) : rc_aI (px_W b I V G R M p) (some (b + 95)) 0 (nI j) = some (I 95 j) := px_aIo 95 0 8 _ j (px_e95 _ _ _ _ _ _) hj (by decide)
theorem px_sI_95 (j : Nat) (x : Int32) (hj : j < 8) : rc_sI (px_W b I V G R M p) (some (b + 95)) 0 (nI j) x = some (px_W b (px_u2 I 95 j x) V G R M p) := px_sIo 95 0 8 _ j x _ (px_e95 _ _ _ _ _ _) hj (by decide) (px_up 95 (by rw [px_e95, px_u2_I]; rfl) (fun q hq => px_u2_sl _ _ _ _ _ hq) (fun _ _ => rfl) (fun _ _ => rfl) (fun _ _ => rfl) (fun _ _ => rfl))
theorem px_aI_no (c : Nat) (hc : c < 4) (j : Nat) (hj : j < 8) : rc_aI (px_W b I V G R M p) (some (b + (233 + 22 * c))) 0 (nI j) = some (I (233 + 22 * c) j) := px_aIo (233 + 22 * c) 0 8 _ j (px_eno c hc _ _ _ _ _ _) hj (by decide)
theorem px_sI_no (c : Nat) (hc : c < 4) (j : Nat) (x : Int32) (hj : j < 8) : rc_sI (px_W b I V G R M p) (some (b + (233 + 22 * c))) 0 (nI j) x = some (px_W b (px_u2 I (233 + 22 * c) j x) V G R M p) := px_sIo (233 + 22 * c) 0 8 _ j x _ (px_eno c hc _ _ _ _ _ _) hj (by decide) (px_up (233 + 22 * c) (by rw [px_eno c hc, px_u2_I]; rfl) (fun q hq => px_u2_sl _ _ _ _ _ hq) (fun _ _ => rfl) (fun _ _ => rfl) (fun _ _ => rfl) (fun _ _ => rfl))
theorem px_aL_8 (j : Nat) (hj : j < 40) : rc_aL (px_W b I V G R M p) (some (b + 8)) (nI j) = some (V 8 j) := px_aLo 8 40 _ j (px_e8 _ _ _ _ _ _) hj (by decide)
theorem px_sL_8 (j : Nat) (x : Int64) (hj : j < 40) : rc_sL (px_W b I V G R M p) (some (b + 8)) (nI j) x = some (px_W b I (px_u2 V 8 j x) G R M p) := px_sLo 8 40 _ j x _ (px_e8 _ _ _ _ _ _) hj (by decide) (px_up 8 (by rw [px_e8, px_u2_V]) (fun _ _ => rfl) (fun q hq => px_u2_sl _ _ _ _ _ hq) (fun _ _ => rfl) (fun _ _ => rfl) (fun _ _ => rfl))
theorem px_aL_323 (j : Nat) (hj : j < 41) : rc_aL (px_W b I V G R M p) (some (b + 323)) (nI j) = some (V 323 j) := px_aLo 323 41 _ j (px_e323 _ _ _ _ _ _) hj (by decide)
theorem px_sL_323 (j : Nat) (x : Int64) (hj : j < 41) : rc_sL (px_W b I V G R M p) (some (b + 323)) (nI j) x = some (px_W b I (px_u2 V 323 j x) G R M p) := px_sLo 323 41 _ j x _ (px_e323 _ _ _ _ _ _) hj (by decide) (px_up 323 (by rw [px_e323, px_u2_V]) (fun _ _ => rfl) (fun q hq => px_u2_sl _ _ _ _ _ hq) (fun _ _ => rfl) (fun _ _ => rfl) (fun _ _ => rfl))
theorem px_aL_337 (j : Nat) (hj : j < 1) : rc_aL (px_W b I V G R M p) (some (b + 337)) (nI j) = some (V 337 j) := px_aLo 337 1 _ j (px_e337 _ _ _ _ _ _) hj (by decide)
theorem px_sL_337 (j : Nat) (x : Int64) (hj : j < 1) : rc_sL (px_W b I V G R M p) (some (b + 337)) (nI j) x = some (px_W b I (px_u2 V 337 j x) G R M p) := px_sLo 337 1 _ j x _ (px_e337 _ _ _ _ _ _) hj (by decide) (px_up 337 (by rw [px_e337, px_u2_V]) (fun _ _ => rfl) (fun q hq => px_u2_sl _ _ _ _ _ hq) (fun _ _ => rfl) (fun _ _ => rfl) (fun _ _ => rfl))
theorem px_aR_3 (j : Nat) (hj : j < 64) : rc_aR (px_W b I V G R M p) (some (b + 3)) 4 (nI j) = some (some (b + (100 + 2 * j))) := by
  rw [px_aRo 3 4 64 _ j (px_e3 _ _ _ _ _ _) hj (by decide), if_pos hj]
theorem px_aR_4 (j : Nat) (hj : j < 4) : rc_aR (px_W b I V G R M p) (some (b + 4)) 5 (nI j) = some (some (b + (228 + 22 * j))) := by
  rw [px_aRo 4 5 4 _ j (px_e4 _ _ _ _ _ _) hj (by decide), if_pos hj]
theorem px_aR_7 (j : Nat) (hj : j < 40) : rc_aR (px_W b I V G R M p) (some (b + 7)) 4 (nI j) = some (some (b + G 7 j)) := by
  rw [px_aRo 7 4 40 _ j (px_e7 _ _ _ _ _ _) hj (by decide), if_pos hj]
theorem px_aR_p (c : Nat) (hc : c < 4) (j : Nat) (hj : j < 8) : rc_aR (px_W b I V G R M p) (some (b + (232 + 22 * c))) 4 (nI j) = some (some (b + (234 + 22 * c + 2 * j))) := by
  rw [px_aRo _ 4 8 _ j (px_ers c hc _ _ _ _ _ _) hj (by decide), if_pos hj]
theorem px_sR_7 (j r : Nat) (hj : j < 40) (hr : px_rw r = true) : rc_sR (px_W b I V G R M p) (some (b + 7)) 4 1 (nI j) (some (b + r)) = some (px_W b I V (px_u2 G 7 j r) R M p) := by
  rw [rc_sR, px_gA 7 4 40 _ (px_e7 _ _ _ _ _ _)]
  simp only
  rw [if_neg (nI_in hj (by decide)), px_isR r hr, if_pos rfl, nI_clamp (by omega)]
  refine congrArg some (px_up 7 ?_ (fun _ _ => rfl) (fun _ _ => rfl) (fun q hq => px_u2_sl _ _ _ _ _ hq) (fun _ _ => rfl) (fun _ _ => rfl))
  rw [px_e7]
  have e : (fun i => if i < 40 then some (b + px_u2 G 7 j r 7 i) else none) = va_up (fun i => if i < 40 then some (b + G 7 i) else none) j (some (b + r)) := by
    funext i
    unfold va_up px_u2
    by_cases e : i = j
    · subst e; simp [hj]
    · simp [e]
  rw [e]
theorem px_e317 (i : Nat → Int32) (v : Nat → Int64) (g : Nat → Nat) (r : List UInt8) (m : Nat → Int32) (cap : Nat) : px_ent b 317 i v g r m cap = some (.inr (.inl (0, 1600, .inl m))) := by simp [px_ent, px_rw, px_mk, px_ml]
theorem px_aI_m_1 (j : Nat) (hj : j < 1600) : rc_aI (px_W b I V G R M p) (some (b + 317)) 0 (nI j) = some (M 317 j) := px_aIo 317 0 1600 _ j (px_e317 _ _ _ _ _ _) hj (by decide)
theorem px_sI_m_1 (j : Nat) (x : Int32) (hj : j < 1600) : rc_sI (px_W b I V G R M p) (some (b + 317)) 0 (nI j) x = some (px_W b I V G R (px_u2 M 317 j x) p) := px_sIo 317 0 1600 _ j x _ (px_e317 _ _ _ _ _ _) hj (by decide) (px_up 317 (by rw [px_e317, px_u2_I]; rfl) (fun _ _ => rfl) (fun _ _ => rfl) (fun _ _ => rfl) (fun _ _ => rfl) (fun q hq => px_u2_sl _ _ _ _ _ hq))
theorem px_e318 (i : Nat → Int32) (v : Nat → Int64) (g : Nat → Nat) (r : List UInt8) (m : Nat → Int32) (cap : Nat) : px_ent b 318 i v g r m cap = some (.inr (.inl (2, 102400, .inl m))) := by simp [px_ent, px_rw, px_mk, px_ml]
theorem px_aI_m_3 (j : Nat) (hj : j < 102400) : rc_aI (px_W b I V G R M p) (some (b + 318)) 2 (nI j) = some (M 318 j) := px_aIo 318 2 102400 _ j (px_e318 _ _ _ _ _ _) hj (by decide)
theorem px_sI_m_3 (j : Nat) (x : Int32) (hj : j < 102400) : rc_sI (px_W b I V G R M p) (some (b + 318)) 2 (nI j) x = some (px_W b I V G R (px_u2 M 318 j x.toInt8.toInt32) p) := px_sIo 318 2 102400 _ j x _ (px_e318 _ _ _ _ _ _) hj (by decide) (px_up 318 (by rw [px_e318, px_u2_I]; rfl) (fun _ _ => rfl) (fun _ _ => rfl) (fun _ _ => rfl) (fun _ _ => rfl) (fun q hq => px_u2_sl _ _ _ _ _ hq))
theorem px_e319 (i : Nat → Int32) (v : Nat → Int64) (g : Nat → Nat) (r : List UInt8) (m : Nat → Int32) (cap : Nat) : px_ent b 319 i v g r m cap = some (.inr (.inl (0, 64, .inl m))) := by simp [px_ent, px_rw, px_mk, px_ml]
theorem px_aI_m_4 (j : Nat) (hj : j < 64) : rc_aI (px_W b I V G R M p) (some (b + 319)) 0 (nI j) = some (M 319 j) := px_aIo 319 0 64 _ j (px_e319 _ _ _ _ _ _) hj (by decide)
theorem px_sI_m_4 (j : Nat) (x : Int32) (hj : j < 64) : rc_sI (px_W b I V G R M p) (some (b + 319)) 0 (nI j) x = some (px_W b I V G R (px_u2 M 319 j x) p) := px_sIo 319 0 64 _ j x _ (px_e319 _ _ _ _ _ _) hj (by decide) (px_up 319 (by rw [px_e319, px_u2_I]; rfl) (fun _ _ => rfl) (fun _ _ => rfl) (fun _ _ => rfl) (fun _ _ => rfl) (fun q hq => px_u2_sl _ _ _ _ _ hq))
theorem px_e320 (i : Nat → Int32) (v : Nat → Int64) (g : Nat → Nat) (r : List UInt8) (m : Nat → Int32) (cap : Nat) : px_ent b 320 i v g r m cap = some (.inr (.inl (2, 1600, .inl m))) := by simp [px_ent, px_rw, px_mk, px_ml]
theorem px_aI_m_6 (j : Nat) (hj : j < 1600) : rc_aI (px_W b I V G R M p) (some (b + 320)) 2 (nI j) = some (M 320 j) := px_aIo 320 2 1600 _ j (px_e320 _ _ _ _ _ _) hj (by decide)
theorem px_sI_m_6 (j : Nat) (x : Int32) (hj : j < 1600) : rc_sI (px_W b I V G R M p) (some (b + 320)) 2 (nI j) x = some (px_W b I V G R (px_u2 M 320 j x.toInt8.toInt32) p) := px_sIo 320 2 1600 _ j x _ (px_e320 _ _ _ _ _ _) hj (by decide) (px_up 320 (by rw [px_e320, px_u2_I]; rfl) (fun _ _ => rfl) (fun _ _ => rfl) (fun _ _ => rfl) (fun _ _ => rfl) (fun q hq => px_u2_sl _ _ _ _ _ hq))
theorem px_e321 (i : Nat → Int32) (v : Nat → Int64) (g : Nat → Nat) (r : List UInt8) (m : Nat → Int32) (cap : Nat) : px_ent b 321 i v g r m cap = some (.inr (.inl (2, 656, .inl m))) := by simp [px_ent, px_rw, px_mk, px_ml]
theorem px_aI_m_7 (j : Nat) (hj : j < 656) : rc_aI (px_W b I V G R M p) (some (b + 321)) 2 (nI j) = some (M 321 j) := px_aIo 321 2 656 _ j (px_e321 _ _ _ _ _ _) hj (by decide)
theorem px_sI_m_7 (j : Nat) (x : Int32) (hj : j < 656) : rc_sI (px_W b I V G R M p) (some (b + 321)) 2 (nI j) x = some (px_W b I V G R (px_u2 M 321 j x.toInt8.toInt32) p) := px_sIo 321 2 656 _ j x _ (px_e321 _ _ _ _ _ _) hj (by decide) (px_up 321 (by rw [px_e321, px_u2_I]; rfl) (fun _ _ => rfl) (fun _ _ => rfl) (fun _ _ => rfl) (fun _ _ => rfl) (fun q hq => px_u2_sl _ _ _ _ _ hq))
theorem px_e322 (i : Nat → Int32) (v : Nat → Int64) (g : Nat → Nat) (r : List UInt8) (m : Nat → Int32) (cap : Nat) : px_ent b 322 i v g r m cap = some (.inr (.inl (0, 41, .inl m))) := by simp [px_ent, px_rw, px_mk, px_ml]
theorem px_aI_m_8 (j : Nat) (hj : j < 41) : rc_aI (px_W b I V G R M p) (some (b + 322)) 0 (nI j) = some (M 322 j) := px_aIo 322 0 41 _ j (px_e322 _ _ _ _ _ _) hj (by decide)
theorem px_sI_m_8 (j : Nat) (x : Int32) (hj : j < 41) : rc_sI (px_W b I V G R M p) (some (b + 322)) 0 (nI j) x = some (px_W b I V G R (px_u2 M 322 j x) p) := px_sIo 322 0 41 _ j x _ (px_e322 _ _ _ _ _ _) hj (by decide) (px_up 322 (by rw [px_e322, px_u2_I]; rfl) (fun _ _ => rfl) (fun _ _ => rfl) (fun _ _ => rfl) (fun _ _ => rfl) (fun q hq => px_u2_sl _ _ _ _ _ hq))
theorem px_e324 (i : Nat → Int32) (v : Nat → Int64) (g : Nat → Nat) (r : List UInt8) (m : Nat → Int32) (cap : Nat) : px_ent b 324 i v g r m cap = some (.inr (.inl (2, 4800, .inl m))) := by simp [px_ent, px_rw, px_mk, px_ml]
theorem px_aI_m_11 (j : Nat) (hj : j < 4800) : rc_aI (px_W b I V G R M p) (some (b + 324)) 2 (nI j) = some (M 324 j) := px_aIo 324 2 4800 _ j (px_e324 _ _ _ _ _ _) hj (by decide)
theorem px_sI_m_11 (j : Nat) (x : Int32) (hj : j < 4800) : rc_sI (px_W b I V G R M p) (some (b + 324)) 2 (nI j) x = some (px_W b I V G R (px_u2 M 324 j x.toInt8.toInt32) p) := px_sIo 324 2 4800 _ j x _ (px_e324 _ _ _ _ _ _) hj (by decide) (px_up 324 (by rw [px_e324, px_u2_I]; rfl) (fun _ _ => rfl) (fun _ _ => rfl) (fun _ _ => rfl) (fun _ _ => rfl) (fun q hq => px_u2_sl _ _ _ _ _ hq))
theorem px_e325 (i : Nat → Int32) (v : Nat → Int64) (g : Nat → Nat) (r : List UInt8) (m : Nat → Int32) (cap : Nat) : px_ent b 325 i v g r m cap = some (.inr (.inl (0, 4, .inl m))) := by simp [px_ent, px_rw, px_mk, px_ml]
theorem px_aI_m_12 (j : Nat) (hj : j < 4) : rc_aI (px_W b I V G R M p) (some (b + 325)) 0 (nI j) = some (M 325 j) := px_aIo 325 0 4 _ j (px_e325 _ _ _ _ _ _) hj (by decide)
theorem px_sI_m_12 (j : Nat) (x : Int32) (hj : j < 4) : rc_sI (px_W b I V G R M p) (some (b + 325)) 0 (nI j) x = some (px_W b I V G R (px_u2 M 325 j x) p) := px_sIo 325 0 4 _ j x _ (px_e325 _ _ _ _ _ _) hj (by decide) (px_up 325 (by rw [px_e325, px_u2_I]; rfl) (fun _ _ => rfl) (fun _ _ => rfl) (fun _ _ => rfl) (fun _ _ => rfl) (fun q hq => px_u2_sl _ _ _ _ _ hq))
theorem px_e326 (i : Nat → Int32) (v : Nat → Int64) (g : Nat → Nat) (r : List UInt8) (m : Nat → Int32) (cap : Nat) : px_ent b 326 i v g r m cap = some (.inr (.inl (0, 4, .inl m))) := by simp [px_ent, px_rw, px_mk, px_ml]
theorem px_aI_m_13 (j : Nat) (hj : j < 4) : rc_aI (px_W b I V G R M p) (some (b + 326)) 0 (nI j) = some (M 326 j) := px_aIo 326 0 4 _ j (px_e326 _ _ _ _ _ _) hj (by decide)
theorem px_sI_m_13 (j : Nat) (x : Int32) (hj : j < 4) : rc_sI (px_W b I V G R M p) (some (b + 326)) 0 (nI j) x = some (px_W b I V G R (px_u2 M 326 j x) p) := px_sIo 326 0 4 _ j x _ (px_e326 _ _ _ _ _ _) hj (by decide) (px_up 326 (by rw [px_e326, px_u2_I]; rfl) (fun _ _ => rfl) (fun _ _ => rfl) (fun _ _ => rfl) (fun _ _ => rfl) (fun q hq => px_u2_sl _ _ _ _ _ hq))
theorem px_e327 (i : Nat → Int32) (v : Nat → Int64) (g : Nat → Nat) (r : List UInt8) (m : Nat → Int32) (cap : Nat) : px_ent b 327 i v g r m cap = some (.inr (.inl (0, 4, .inl m))) := by simp [px_ent, px_rw, px_mk, px_ml]
theorem px_aI_m_14 (j : Nat) (hj : j < 4) : rc_aI (px_W b I V G R M p) (some (b + 327)) 0 (nI j) = some (M 327 j) := px_aIo 327 0 4 _ j (px_e327 _ _ _ _ _ _) hj (by decide)
theorem px_sI_m_14 (j : Nat) (x : Int32) (hj : j < 4) : rc_sI (px_W b I V G R M p) (some (b + 327)) 0 (nI j) x = some (px_W b I V G R (px_u2 M 327 j x) p) := px_sIo 327 0 4 _ j x _ (px_e327 _ _ _ _ _ _) hj (by decide) (px_up 327 (by rw [px_e327, px_u2_I]; rfl) (fun _ _ => rfl) (fun _ _ => rfl) (fun _ _ => rfl) (fun _ _ => rfl) (fun q hq => px_u2_sl _ _ _ _ _ hq))
theorem px_e328 (i : Nat → Int32) (v : Nat → Int64) (g : Nat → Nat) (r : List UInt8) (m : Nat → Int32) (cap : Nat) : px_ent b 328 i v g r m cap = some (.inr (.inl (0, 4, .inl m))) := by simp [px_ent, px_rw, px_mk, px_ml]
theorem px_aI_m_15 (j : Nat) (hj : j < 4) : rc_aI (px_W b I V G R M p) (some (b + 328)) 0 (nI j) = some (M 328 j) := px_aIo 328 0 4 _ j (px_e328 _ _ _ _ _ _) hj (by decide)
theorem px_sI_m_15 (j : Nat) (x : Int32) (hj : j < 4) : rc_sI (px_W b I V G R M p) (some (b + 328)) 0 (nI j) x = some (px_W b I V G R (px_u2 M 328 j x) p) := px_sIo 328 0 4 _ j x _ (px_e328 _ _ _ _ _ _) hj (by decide) (px_up 328 (by rw [px_e328, px_u2_I]; rfl) (fun _ _ => rfl) (fun _ _ => rfl) (fun _ _ => rfl) (fun _ _ => rfl) (fun q hq => px_u2_sl _ _ _ _ _ hq))
theorem px_e329 (i : Nat → Int32) (v : Nat → Int64) (g : Nat → Nat) (r : List UInt8) (m : Nat → Int32) (cap : Nat) : px_ent b 329 i v g r m cap = some (.inr (.inl (3, 4, .inl m))) := by simp [px_ent, px_rw, px_mk, px_ml]
theorem px_aI_m_16 (j : Nat) (hj : j < 4) : rc_aI (px_W b I V G R M p) (some (b + 329)) 3 (nI j) = some (M 329 j) := px_aIo 329 3 4 _ j (px_e329 _ _ _ _ _ _) hj (by decide)
theorem px_sI_m_16 (j : Nat) (x : Int32) (hj : j < 4) : rc_sI (px_W b I V G R M p) (some (b + 329)) 3 (nI j) x = some (px_W b I V G R (px_u2 M 329 j (rc_nar 3 x)) p) := px_sIo 329 3 4 _ j x _ (px_e329 _ _ _ _ _ _) hj (by decide) (px_up 329 (by rw [px_e329, px_u2_I]) (fun _ _ => rfl) (fun _ _ => rfl) (fun _ _ => rfl) (fun _ _ => rfl) (fun q hq => px_u2_sl _ _ _ _ _ hq))
theorem px_e330 (i : Nat → Int32) (v : Nat → Int64) (g : Nat → Nat) (r : List UInt8) (m : Nat → Int32) (cap : Nat) : px_ent b 330 i v g r m cap = some (.inr (.inl (3, 4, .inl m))) := by simp [px_ent, px_rw, px_mk, px_ml]
theorem px_aI_m_17 (j : Nat) (hj : j < 4) : rc_aI (px_W b I V G R M p) (some (b + 330)) 3 (nI j) = some (M 330 j) := px_aIo 330 3 4 _ j (px_e330 _ _ _ _ _ _) hj (by decide)
theorem px_sI_m_17 (j : Nat) (x : Int32) (hj : j < 4) : rc_sI (px_W b I V G R M p) (some (b + 330)) 3 (nI j) x = some (px_W b I V G R (px_u2 M 330 j (rc_nar 3 x)) p) := px_sIo 330 3 4 _ j x _ (px_e330 _ _ _ _ _ _) hj (by decide) (px_up 330 (by rw [px_e330, px_u2_I]) (fun _ _ => rfl) (fun _ _ => rfl) (fun _ _ => rfl) (fun _ _ => rfl) (fun q hq => px_u2_sl _ _ _ _ _ hq))
theorem px_e331 (i : Nat → Int32) (v : Nat → Int64) (g : Nat → Nat) (r : List UInt8) (m : Nat → Int32) (cap : Nat) : px_ent b 331 i v g r m cap = some (.inr (.inl (3, 4, .inl m))) := by simp [px_ent, px_rw, px_mk, px_ml]
theorem px_aI_m_18 (j : Nat) (hj : j < 4) : rc_aI (px_W b I V G R M p) (some (b + 331)) 3 (nI j) = some (M 331 j) := px_aIo 331 3 4 _ j (px_e331 _ _ _ _ _ _) hj (by decide)
theorem px_sI_m_18 (j : Nat) (x : Int32) (hj : j < 4) : rc_sI (px_W b I V G R M p) (some (b + 331)) 3 (nI j) x = some (px_W b I V G R (px_u2 M 331 j (rc_nar 3 x)) p) := px_sIo 331 3 4 _ j x _ (px_e331 _ _ _ _ _ _) hj (by decide) (px_up 331 (by rw [px_e331, px_u2_I]) (fun _ _ => rfl) (fun _ _ => rfl) (fun _ _ => rfl) (fun _ _ => rfl) (fun q hq => px_u2_sl _ _ _ _ _ hq))
theorem px_e332 (i : Nat → Int32) (v : Nat → Int64) (g : Nat → Nat) (r : List UInt8) (m : Nat → Int32) (cap : Nat) : px_ent b 332 i v g r m cap = some (.inr (.inl (0, 32, .inl m))) := by simp [px_ent, px_rw, px_mk, px_ml]
theorem px_aI_m_19 (j : Nat) (hj : j < 32) : rc_aI (px_W b I V G R M p) (some (b + 332)) 0 (nI j) = some (M 332 j) := px_aIo 332 0 32 _ j (px_e332 _ _ _ _ _ _) hj (by decide)
theorem px_sI_m_19 (j : Nat) (x : Int32) (hj : j < 32) : rc_sI (px_W b I V G R M p) (some (b + 332)) 0 (nI j) x = some (px_W b I V G R (px_u2 M 332 j x) p) := px_sIo 332 0 32 _ j x _ (px_e332 _ _ _ _ _ _) hj (by decide) (px_up 332 (by rw [px_e332, px_u2_I]; rfl) (fun _ _ => rfl) (fun _ _ => rfl) (fun _ _ => rfl) (fun _ _ => rfl) (fun q hq => px_u2_sl _ _ _ _ _ hq))
theorem px_e333 (i : Nat → Int32) (v : Nat → Int64) (g : Nat → Nat) (r : List UInt8) (m : Nat → Int32) (cap : Nat) : px_ent b 333 i v g r m cap = some (.inr (.inl (0, 32, .inl m))) := by simp [px_ent, px_rw, px_mk, px_ml]
theorem px_aI_m_20 (j : Nat) (hj : j < 32) : rc_aI (px_W b I V G R M p) (some (b + 333)) 0 (nI j) = some (M 333 j) := px_aIo 333 0 32 _ j (px_e333 _ _ _ _ _ _) hj (by decide)
theorem px_sI_m_20 (j : Nat) (x : Int32) (hj : j < 32) : rc_sI (px_W b I V G R M p) (some (b + 333)) 0 (nI j) x = some (px_W b I V G R (px_u2 M 333 j x) p) := px_sIo 333 0 32 _ j x _ (px_e333 _ _ _ _ _ _) hj (by decide) (px_up 333 (by rw [px_e333, px_u2_I]; rfl) (fun _ _ => rfl) (fun _ _ => rfl) (fun _ _ => rfl) (fun _ _ => rfl) (fun q hq => px_u2_sl _ _ _ _ _ hq))
theorem px_e334 (i : Nat → Int32) (v : Nat → Int64) (g : Nat → Nat) (r : List UInt8) (m : Nat → Int32) (cap : Nat) : px_ent b 334 i v g r m cap = some (.inr (.inl (2, 12800, .inl m))) := by simp [px_ent, px_rw, px_mk, px_ml]
theorem px_aI_m_21 (j : Nat) (hj : j < 12800) : rc_aI (px_W b I V G R M p) (some (b + 334)) 2 (nI j) = some (M 334 j) := px_aIo 334 2 12800 _ j (px_e334 _ _ _ _ _ _) hj (by decide)
theorem px_sI_m_21 (j : Nat) (x : Int32) (hj : j < 12800) : rc_sI (px_W b I V G R M p) (some (b + 334)) 2 (nI j) x = some (px_W b I V G R (px_u2 M 334 j x.toInt8.toInt32) p) := px_sIo 334 2 12800 _ j x _ (px_e334 _ _ _ _ _ _) hj (by decide) (px_up 334 (by rw [px_e334, px_u2_I]; rfl) (fun _ _ => rfl) (fun _ _ => rfl) (fun _ _ => rfl) (fun _ _ => rfl) (fun q hq => px_u2_sl _ _ _ _ _ hq))
theorem px_e335 (i : Nat → Int32) (v : Nat → Int64) (g : Nat → Nat) (r : List UInt8) (m : Nat → Int32) (cap : Nat) : px_ent b 335 i v g r m cap = some (.inr (.inl (0, 4, .inl m))) := by simp [px_ent, px_rw, px_mk, px_ml]
theorem px_aI_m_22 (j : Nat) (hj : j < 4) : rc_aI (px_W b I V G R M p) (some (b + 335)) 0 (nI j) = some (M 335 j) := px_aIo 335 0 4 _ j (px_e335 _ _ _ _ _ _) hj (by decide)
theorem px_sI_m_22 (j : Nat) (x : Int32) (hj : j < 4) : rc_sI (px_W b I V G R M p) (some (b + 335)) 0 (nI j) x = some (px_W b I V G R (px_u2 M 335 j x) p) := px_sIo 335 0 4 _ j x _ (px_e335 _ _ _ _ _ _) hj (by decide) (px_up 335 (by rw [px_e335, px_u2_I]; rfl) (fun _ _ => rfl) (fun _ _ => rfl) (fun _ _ => rfl) (fun _ _ => rfl) (fun q hq => px_u2_sl _ _ _ _ _ hq))
theorem px_e336 (i : Nat → Int32) (v : Nat → Int64) (g : Nat → Nat) (r : List UInt8) (m : Nat → Int32) (cap : Nat) : px_ent b 336 i v g r m cap = some (.inr (.inl (2, 400, .inl m))) := by simp [px_ent, px_rw, px_mk, px_ml]
theorem px_aI_m_31 (j : Nat) (hj : j < 400) : rc_aI (px_W b I V G R M p) (some (b + 336)) 2 (nI j) = some (M 336 j) := px_aIo 336 2 400 _ j (px_e336 _ _ _ _ _ _) hj (by decide)
theorem px_sI_m_31 (j : Nat) (x : Int32) (hj : j < 400) : rc_sI (px_W b I V G R M p) (some (b + 336)) 2 (nI j) x = some (px_W b I V G R (px_u2 M 336 j x.toInt8.toInt32) p) := px_sIo 336 2 400 _ j x _ (px_e336 _ _ _ _ _ _) hj (by decide) (px_up 336 (by rw [px_e336, px_u2_I]; rfl) (fun _ _ => rfl) (fun _ _ => rfl) (fun _ _ => rfl) (fun _ _ => rfl) (fun q hq => px_u2_sl _ _ _ _ _ hq))
theorem px_nar0 : rc_nar 3 0 = 0 := by decide
theorem px_nar1 : rc_nar 3 1 = 1 := by decide
end PX
