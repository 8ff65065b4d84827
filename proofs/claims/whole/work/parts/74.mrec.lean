/-! THE REFERENCE, 5: record -/
theorem px_last (n : Nat) (h : n < 2 ^ 31) : nI n - 2147483647 - 1 = (-2147483648) ||| nI n := by
  apply Int32.toBitVec_inj.mp
  unfold nI
  simp
  apply BitVec.eq_of_toNat_eq
  simp only [BitVec.toNat_sub, BitVec.toNat_or, BitVec.toNat_ofNat]
  have h1 : 2147483648 ||| n = 2147483648 + n := by
    have := Nat.two_pow_add_eq_or_of_lt (i := 31) h 1
    rw [show 2 ^ 31 * 1 = 2147483648 by decide] at this
    exact this.symm
  rw [Nat.mod_eq_of_lt (show n < 2 ^ 32 by omega), Nat.mod_eq_of_lt (show 2147483648 < 2 ^ 32 by decide), h1]
  omega
def px_fr (cut : Nat) (T : List UInt8) : Nat → Nat → List UInt8
  | _, 0 => []
  | a, r + 1 => (if r = 0 then rc_bw ((-2147483648) ||| nI (T.length - a)) ++ (T.drop a).take (T.length - a) else rc_bw (nI cut) ++ (T.drop a).take cut) ++ px_fr cut T (a + if r = 0 then T.length - a else cut) r
def px_nf (cut : Nat) (T : List UInt8) : Nat := if T.length = 0 then 1 else (T.length - 1) / cut + 1
theorem px_drop_take_snoc (T : List UInt8) (a i : Nat) (h : a + i < T.length) : (T.drop a).take i ++ [T.getD (a + i) 0] = (T.drop a).take (i + 1) := by
  rw [← px_take_snoc (T.drop a) i (by rw [List.length_drop]; omega)]
  simp [List.getD_eq_getElem?_getD, List.getElem?_drop]
theorem px_tp_ms {M : Nat → Nat → Int32} {T : List UInt8} (h : px_tp M T) (k : Nat) (l : List UInt8) : px_tp (px_ms M k l) T := by
  obtain ⟨h1, h2, h3⟩ := h
  refine ⟨by rw [px_ms_ne _ _ _ _ (by decide) (by decide)]; exact h1, h2, fun i hi => by rw [px_ms_ne _ _ _ _ (by decide) (by decide)]; exact h3 i hi⟩
section PX
variable {b : Nat} {I : Nat → Nat → Int32} {V : Nat → Nat → Int64} {G : Nat → Nat → Nat} {R : Nat → List UInt8} {M : Nat → Nat → Int32} {p : px_P} {e : Nat}
theorem pm_record_in (T : List UInt8) (hT : px_tp M T) (K : rc_M → Nat → Int32 → Int32 → Int32 → Int32 → Int32 → Option (Int32 × rc_M)) (x1 x2 : Int32) (j k a q n : Nat) (l : List UInt8) (hk : j % 64 = k) (hj : j < 2 ^ 31) (ha : a + n ≤ T.length) (hl : l.length + n ≤ 1600) : ∀ (m i f : Nat), n = i + m → m < f → b_mdl_record_143 K f (px_W b I V G R (px_ms M k (l ++ (T.drop a).take i)) p) (b + 316) x1 x2 (nI j) (nI a) (nI q) (nI n) (nI i) = K (px_W b I V G R (px_ms M k (l ++ (T.drop a).take n)) p) (b + 316) x1 x2 (nI j) (nI (a + n)) (nI (q + 1)) := by
  have hl2 := hT.2.1
  intro m
  induction m with
  | zero =>
    intro i f hi hf
    obtain ⟨f, rfl⟩ : ∃ g, f = g + 1 := ⟨f - 1, by omega⟩
    have hin : i = n := by omega
    subst hin
    rw [b_mdl_record_143]
    simp (disch := omega) only [px_mS, px_bs, px_modG, px_lit, px_mul, nI_add, px_u2_ne, px_u2_eq, nI_1, rc_b2, px_sxl, px_low_sx, px_low_u, if_true, if_false, px_le, px_lt, px_eq, px_lt0, px_le0, px_0le, px_eq0, px_eq1, px_msub2, px_msub3, Nat.le_refl]
  | succ m ih =>
    intro i f hi hf
    obtain ⟨f, rfl⟩ : ∃ g, f = g + 1 := ⟨f - 1, by omega⟩
    have h3 := (px_tp_ms hT k (l ++ (T.drop a).take i)).2.2 (a + i) (by omega)
    rw [b_mdl_record_143]
    simp (disch := omega) only [px_mS, px_bs, px_modG, px_lit, px_mul, nI_add, px_u2_ne, px_u2_eq, nI_1, rc_b2, px_sxl, px_low_sx, px_low_u, if_true, if_false, px_le, px_lt, px_eq, px_lt0, px_le0, px_0le, px_eq0, px_eq1, px_msub2, px_msub3, h3]
    rw [if_neg (by omega), pm_slotByte j k _ _ hk hj (by rw [List.length_append, List.length_take, List.length_drop]; omega), px_low_u, List.append_assoc, px_drop_take_snoc _ _ _ (by omega)]
    exact ih (i + 1) f (by omega) (by omega)
theorem pm_record_go (T : List UInt8) (hT : px_tp M T) (cut j k c : Nat) (hc1 : 1 ≤ cut) (hc2 : cut < 2 ^ 31) (hk : j % 64 = k) (hj : j < 2 ^ 31) (hc : cut * (c - 1) ≤ T.length) (hcc : c ≤ 1600) : ∀ (r q a f : Nat) (l : List UInt8), c = q + r → r < f → (0 < r → a = cut * q) → l.length + 4 * r + (T.length - a) ≤ 1600 → b_mdl_record_79 f (px_W b I V G R (px_ms M k l) p) (b + 316) (nI cut) (nI c) (nI j) (nI a) (nI q) = some (nI j, px_W b I V G R (px_u2 (px_ms M k (l ++ px_fr cut T a r)) 316 2 0) p) := by
  have hl2 := hT.2.1
  intro r
  induction r with
  | zero =>
    intro q a f l hr hf ha hl
    obtain ⟨f, rfl⟩ : ∃ g, f = g + 1 := ⟨f - 1, by omega⟩
    have hin : q = c := by omega
    subst hin
    rw [b_mdl_record_79]
    simp (disch := omega) only [px_mS, px_bs, px_modG, px_lit, px_mul, nI_add, px_u2_ne, px_u2_eq, nI_1, rc_b2, px_sxl, px_low_sx, px_low_u, if_true, if_false, px_le, px_lt, px_eq, px_lt0, px_le0, px_0le, px_eq0, px_eq1, px_msub2, px_msub3, Nat.le_refl, px_fr, List.append_nil]
  | succ r ih =>
    intro q a f l hr hf ha hl
    obtain ⟨f, rfl⟩ : ∃ g, f = g + 1 := ⟨f - 1, by omega⟩
    have haq := ha (by omega)
    have hal : a ≤ T.length := by
      rw [haq]; exact Nat.le_trans (Nat.mul_le_mul_left cut (by omega)) hc
    rw [b_mdl_record_79]
    unfold b_mdl_record_98 b_mdl_record_116 b_mdl_record_137
    generalize hF : (5000 : Nat) = fu
    have h1 := hT.1
    by_cases h0 : r = 0
    · subst h0
      have e1 : (nI q = nI c - 1) = True := by
        rw [show c = q + 1 by omega, nI_pred]; simp
      simp (disch := omega) only [px_mS, px_bs, px_modG, px_lit, px_mul, nI_add, px_u2_ne, px_u2_eq, nI_1, rc_b2, px_sxl, px_low_sx, px_low_u, if_true, if_false, px_le, px_lt, px_eq, px_lt0, px_le0, px_0le, px_eq0, px_eq1, px_msub2, px_msub3, e1, h1, px_ms_ne, px_sub]
      rw [if_neg (by omega), if_neg (by decide), if_neg (by decide)]
      rw [px_last _ (by omega), pm_slotWord j k l _ hk hj (by omega), px_bs]
      have e3 := pm_record_in (b := b) (I := I) (V := V) (G := G) (R := R) (p := p) T hT (b_mdl_record_79 f) (nI cut) (nI c) j k a q (T.length - a) (l ++ rc_bw ((-2147483648) ||| nI (T.length - a))) hk hj (by omega) (by rw [List.length_append, px_bw_len]; omega) (T.length - a) 0 fu (by omega) (by omega)
      rw [List.take_zero, List.append_nil, nI_0] at e3
      rw [e3]
      have e4 := ih (q + 1) (a + (T.length - a)) f (l ++ rc_bw ((-2147483648) ||| nI (T.length - a)) ++ (T.drop a).take (T.length - a)) (by omega) (by omega) (by omega) (by
        simp only [List.length_append, px_bw_len, List.length_take, List.length_drop]; omega)
      rw [e4]
      simp only [px_fr, if_true, List.append_assoc]
    · have e1 : (nI q = nI c - 1) = False := by
        rw [show c = (c - 1) + 1 by omega, nI_pred, px_eq (by omega) (by omega)]; simp; omega
      have hac : a + cut ≤ T.length := by
        have : cut * (q + 1) ≤ cut * (c - 1) := Nat.mul_le_mul_left cut (by omega)
        rw [Nat.mul_succ] at this
        omega
      simp (disch := omega) only [px_mS, px_bs, px_modG, px_lit, px_mul, nI_add, px_u2_ne, px_u2_eq, nI_1, rc_b2, px_sxl, px_low_sx, px_low_u, if_true, if_false, px_le, px_lt, px_eq, px_lt0, px_le0, px_0le, px_eq0, px_eq1, px_msub2, px_msub3, e1, h1, px_ms_ne]
      rw [if_neg (by omega)]
      rw [pm_slotWord j k l _ hk hj (by omega), px_bs]
      have e3 := pm_record_in (b := b) (I := I) (V := V) (G := G) (R := R) (p := p) T hT (b_mdl_record_79 f) (nI cut) (nI c) j k a q cut (l ++ rc_bw (nI cut)) hk hj (by omega) (by rw [List.length_append, px_bw_len]; omega) cut 0 fu (by omega) (by omega)
      rw [List.take_zero, List.append_nil, nI_0] at e3
      rw [e3]
      have e4 := ih (q + 1) (a + cut) f (l ++ rc_bw (nI cut) ++ (T.drop a).take cut) (by omega) (by omega) (fun _ => by rw [haq, Nat.mul_succ]) (by
        simp only [List.length_append, px_bw_len, List.length_take, List.length_drop]; omega)
      rw [e4]
      simp only [px_fr, h0, if_false, List.append_assoc]
theorem px_nf_mul (cut : Nat) (T : List UInt8) : cut * (px_nf cut T - 1) ≤ T.length := by
  unfold px_nf
  split
  · simp
  · have := Nat.mul_div_le (T.length - 1) cut
    simp; omega
theorem pm_record_bad (x : Int32) (h : x < 1) : f_mdl_record (px_W b I V G R M p) (b + 316) x = some (0, px_W b I V G R (px_u2 M 316 0 1) p) := by
  unfold f_mdl_record b_mdl_record_30 b_mdl_record_51 b_mdl_record_56
  generalize hF : (5000 : Nat) = fu
  have h' : ¬ 1 ≤ x := Int32.not_le.mpr h
  simp (disch := omega) only [px_mS, px_bs, px_modG, px_lit, px_mul, nI_add, px_u2_ne, px_u2_eq, nI_1, rc_b2, px_sxl, px_low_sx, px_low_u, if_true, if_false, h, h']
  rfl
theorem pm_record (T : List UInt8) (hT : px_tp M T) (cut n : Nat) (hc1 : 1 ≤ cut) (hc2 : cut < 2 ^ 31) (hn : n < 2 ^ 30) (h : M 316 5 = nI n) : f_mdl_record (px_W b I V G R M p) (b + 316) (nI cut) = if T.length + 4 * px_nf cut T ≤ 1600 then some (nI n, px_W b I V G R (px_u2 (px_ms (px_u2 (px_u2 M 316 0 0) 316 5 (nI (n + 1))) (n % 64) (px_fr cut T 0 (px_nf cut T))) 316 2 0) p) else some (0, px_W b I V G R (px_u2 M 316 0 1) p) := by
  obtain ⟨h1, h2, h3⟩ := id hT
  have hq : px_nf cut T ≤ 1600 := by
    unfold px_nf
    split
    · omega
    · have := Nat.div_le_self (T.length - 1) cut
      omega
  have hmain : b_mdl_record_30 (px_W b I V G R M p) (b + 316) (nI cut) (nI (px_nf cut T)) = if T.length + 4 * px_nf cut T ≤ 1600 then some (nI n, px_W b I V G R (px_u2 (px_ms (px_u2 (px_u2 M 316 0 0) 316 5 (nI (n + 1))) (n % 64) (px_fr cut T 0 (px_nf cut T))) 316 2 0) p) else some (0, px_W b I V G R (px_u2 M 316 0 1) p) := by
    unfold b_mdl_record_30 b_mdl_record_51 b_mdl_record_56
    generalize hF : (5000 : Nat) = fu
    have e0 : ¬ nI cut < 1 := by rw [px_1, px_lt (by omega) (by decide)]; omega
    simp (disch := omega) only [px_mS, px_bs, px_modG, px_lit, px_mul, nI_add, px_u2_ne, px_u2_eq, nI_1, rc_b2, px_sxl, px_low_sx, px_low_u, if_true, if_false, px_le, px_lt, px_eq, px_lt0, px_le0, px_0le, px_eq0, px_eq1, px_msub2, px_msub3, e0, h1]
    by_cases c : T.length + 4 * px_nf cut T ≤ 1600
    · rw [if_pos c, if_pos c, if_pos (by decide)]
      rw [pm_newSlot n (by omega) (by simp (disch := omega) only [px_mS, px_bs, px_modG, px_lit, px_mul, nI_add, px_u2_ne, px_u2_eq, nI_1, rc_b2, px_sxl, px_low_sx, px_low_u, if_true, if_false, h])]
      simp (disch := omega) only [px_mS, px_bs, px_modG, px_lit, px_mul, nI_add, px_u2_ne, px_u2_eq, nI_1, rc_b2, px_sxl, px_low_sx, px_low_u, if_true, if_false]
      have hT' : px_tp (px_u2 (px_u2 M 316 0 0) 316 5 (nI (n + 1))) T := ⟨by simp (disch := omega) only [px_mS, px_bs, px_modG, px_lit, px_mul, nI_add, px_u2_ne, px_u2_eq, nI_1, rc_b2, px_sxl, px_low_sx, px_low_u, if_true, if_false, h1], h2, fun i hi => by simp (disch := omega) only [px_mS, px_bs, px_modG, px_lit, px_mul, nI_add, px_u2_ne, px_u2_eq, nI_1, rc_b2, px_sxl, px_low_sx, px_low_u, if_true, if_false]; exact h3 i hi⟩
      have e5 := pm_record_go (b := b) (I := I) (V := V) (G := G) (R := R) (p := p) T hT' cut n (n % 64) (px_nf cut T) hc1 hc2 rfl (by omega) (px_nf_mul cut T) hq (px_nf cut T) 0 0 fu [] (by omega) (by omega) (fun _ => by simp) (by simp; omega)
      rw [nI_0, List.nil_append] at e5
      exact e5
    · rw [if_neg c, if_neg c, if_neg (by decide)]
  unfold f_mdl_record
  have e0 : 1 ≤ nI cut := by rw [px_1, px_le (by decide) (by omega)]; omega
  simp (disch := omega) only [px_mS, px_bs, px_modG, px_lit, px_mul, nI_add, px_u2_ne, px_u2_eq, nI_1, rc_b2, px_sxl, px_low_sx, px_low_u, if_true, if_false, px_le, px_lt, px_eq, px_lt0, px_le0, px_0le, px_eq0, px_eq1, px_msub2, px_msub3, e0, h1]
  by_cases c : T.length = 0
  · rw [if_pos c, ← hmain]
    unfold px_nf
    rw [if_pos c]; rfl
  · rw [if_neg c, if_neg (by omega), ← hmain]
    rw [show (1 : Int32) = nI 1 from rfl, px_sub (by omega), px_div (by omega) (by omega), nI_add]
    unfold px_nf
    rw [if_neg c]
end PX
