/-! THE REFERENCE, 4: words read; isSlot, length, byteAt, word -/
def px_sl (M : Nat → Nat → Int32) (s : Nat → List UInt8) : Prop := ∀ k, k < 64 → (s k).length ≤ 1600 ∧ M 319 k = nI (s k).length ∧ px_agr (M 318) (1600 * k) (s k)
theorem px_wd_agr2 {f : Nat → Int32} {a : Nat} {l : List UInt8} {i : Nat} (h : px_agr f a l) (hi : i + 4 ≤ l.length) : (((((0 : Int32) <<< ((8 : Int32) &&& 31) ||| (f (a + i + 0) &&& 255)) <<< ((8 : Int32) &&& 31) ||| (f (a + i + 1) &&& 255)) <<< ((8 : Int32) &&& 31) ||| (f (a + i + 2) &&& 255)) <<< ((8 : Int32) &&& 31) ||| (f (a + i + 3) &&& 255)) = rc_wd l i := by
  rw [Nat.add_zero, Nat.add_assoc a i 1, Nat.add_assoc a i 2, Nat.add_assoc a i 3]
  exact px_wd_agr h hi
section PX
variable {b : Nat} {I : Nat → Nat → Int32} {V : Nat → Nat → Int64} {G : Nat → Nat → Nat} {R : Nat → List UInt8} {M : Nat → Nat → Int32} {p : px_P} {e : Nat}
theorem pm_wordIn_step (f j i k : Nat) (v : Int32) (hj : j < 2 ^ 31) (hi : i + 4 ≤ 1600) (hk : k < 4) : b_mdl_wordIn_5 (f + 1) (px_W b I V G R M p) (b + 316) (nI j) (nI i) v (nI k) = b_mdl_wordIn_5 f (px_W b I V G R M p) (b + 316) (nI j) (nI i) ((v <<< ((8 : Int32) &&& 31)) ||| (M 318 (1600 * (j % 64) + i + k) &&& 255)) (nI (k + 1)) := by
  rw [b_mdl_wordIn_5, if_neg (by rw [show (4 : Int32) = nI 4 from rfl, px_le (by omega) (by omega)]; omega)]
  simp (disch := omega) only [f_mdl_base, px_mS, px_bs, px_modG, px_lit, px_mul, nI_add, px_u2_ne, px_u2_eq, nI_1, rc_b2, px_sxl, px_low_sx, px_low_u, if_true, if_false]
theorem pm_wordIn (j i : Nat) (l : List UInt8) (hj : j < 2 ^ 31) (hl : l.length ≤ 1600) (hi : i + 4 ≤ l.length) (h : px_agr (M 318) (1600 * (j % 64)) l) : f_mdl_wordIn (px_W b I V G R M p) (b + 316) (nI j) (nI i) = some (rc_wd l i, px_W b I V G R M p) := by
  have h0 : ∀ f : Nat, b_mdl_wordIn_5 (f + 5) (px_W b I V G R M p) (b + 316) (nI j) (nI i) 0 (nI 0) = some (rc_wd l i, px_W b I V G R M p) := by
    intro f
    rw [pm_wordIn_step _ _ _ _ _ hj (by omega) (by omega), pm_wordIn_step _ _ _ _ _ hj (by omega) (by omega), pm_wordIn_step _ _ _ _ _ hj (by omega) (by omega), pm_wordIn_step _ _ _ _ _ hj (by omega) (by omega), b_mdl_wordIn_5, if_pos (by decide), px_wd_agr2 h hi]
  exact h0 4995
theorem pm_recordWord_step (f c i k : Nat) (v : Int32) (hc : c < 4) (hm : M 316 26 = nI c) (hi : i + 4 ≤ 1200) (hk : k < 4) : b_mdl_recordWord_4 (f + 1) (px_W b I V G R M p) (b + 316) (nI i) v (nI k) = b_mdl_recordWord_4 f (px_W b I V G R M p) (b + 316) (nI i) ((v <<< ((8 : Int32) &&& 31)) ||| (M 324 (1200 * c + i + k) &&& 255)) (nI (k + 1)) := by
  rw [b_mdl_recordWord_4, if_neg (by rw [show (4 : Int32) = nI 4 from rfl, px_le (by omega) (by omega)]; omega)]
  simp (disch := omega) only [px_mS, px_bs, px_modG, px_lit, px_mul, nI_add, px_u2_ne, px_u2_eq, nI_1, rc_b2, px_sxl, px_low_sx, px_low_u, if_true, if_false, hm]
theorem pm_recordWord (c i : Nat) (l : List UInt8) (hc : c < 4) (hm : M 316 26 = nI c) (hl : l.length ≤ 1200) (hi : i + 4 ≤ l.length) (h : px_agr (M 324) (1200 * c) l) : f_mdl_recordWord (px_W b I V G R M p) (b + 316) (nI i) = some (rc_wd l i, px_W b I V G R M p) := by
  have h0 : ∀ f : Nat, b_mdl_recordWord_4 (f + 5) (px_W b I V G R M p) (b + 316) (nI i) 0 (nI 0) = some (rc_wd l i, px_W b I V G R M p) := by
    intro f
    rw [pm_recordWord_step _ _ _ _ _ hc hm (by omega) (by omega), pm_recordWord_step _ _ _ _ _ hc hm (by omega) (by omega), pm_recordWord_step _ _ _ _ _ hc hm (by omega) (by omega), pm_recordWord_step _ _ _ _ _ hc hm (by omega) (by omega), b_mdl_recordWord_4, if_pos (by decide), px_wd_agr2 h hi]
  exact h0 4995
theorem pm_pushedWord_step (f i k : Nat) (v : Int32) (hi : 4 * i + 4 ≤ 1600) (hk : k < 4) : b_mdl_pushedWord_4 (f + 1) (px_W b I V G R M p) (b + 316) (nI i) v (nI k) = b_mdl_pushedWord_4 f (px_W b I V G R M p) (b + 316) (nI i) ((v <<< ((8 : Int32) &&& 31)) ||| (M 320 (0 + 4 * i + k) &&& 255)) (nI (k + 1)) := by
  rw [b_mdl_pushedWord_4, if_neg (by rw [show (4 : Int32) = nI 4 from rfl, px_le (by omega) (by omega)]; omega)]
  simp (disch := omega) only [px_mS, px_bs, px_modG, px_lit, px_mul, nI_add, px_u2_ne, px_u2_eq, nI_1, rc_b2, px_sxl, px_low_sx, px_low_u, if_true, if_false, Nat.zero_add]
theorem pm_pushedWord (i : Nat) (l : List UInt8) (hl : l.length ≤ 1600) (hi : 4 * i + 4 ≤ l.length) (h : px_agr (M 320) 0 l) : f_mdl_pushedWord (px_W b I V G R M p) (b + 316) (nI i) = some (rc_wd l (4 * i), px_W b I V G R M p) := by
  have h0 : ∀ f : Nat, b_mdl_pushedWord_4 (f + 5) (px_W b I V G R M p) (b + 316) (nI i) 0 (nI 0) = some (rc_wd l (4 * i), px_W b I V G R M p) := by
    intro f
    rw [pm_pushedWord_step _ _ _ _ (by omega) (by omega), pm_pushedWord_step _ _ _ _ (by omega) (by omega), pm_pushedWord_step _ _ _ _ (by omega) (by omega), pm_pushedWord_step _ _ _ _ (by omega) (by omega), b_mdl_pushedWord_4, if_pos (by decide), px_wd_agr2 h hi]
  exact h0 4995
/-- the slots that are there -/
def px_is (n : Nat) (x : Int32) : Prop := ∃ j, x = nI j ∧ j < n ∧ n ≤ j + 64
theorem px_is_cases {n : Nat} (hn : n < 2 ^ 30) (x : Int32) : (x < 0 ∧ ¬ px_is n x) ∨ ∃ j, j < 2 ^ 31 ∧ x = nI j ∧ (px_is n x ↔ (j < n ∧ n ≤ j + 64)) := by
  by_cases h : x < 0
  · refine Or.inl ⟨h, ?_⟩
    rintro ⟨j, rfl, h1, h2⟩
    exact nI_pos (by omega) h
  · obtain ⟨j, hj, rfl⟩ := nI_of h
    refine Or.inr ⟨j, hj, rfl, ?_, fun q => ⟨j, rfl, q⟩⟩
    rintro ⟨i, e, h1, h2⟩
    have := (nI_eq hj (by omega)).mp e
    omega
theorem pm_isSlot (n : Nat) (x : Int32) (hn : n < 2 ^ 30) (h : M 316 5 = nI n) : (px_is n x → f_mdl_isSlot (px_W b I V G R M p) (b + 316) x = some (1, px_W b I V G R M p)) ∧ (¬ px_is n x → f_mdl_isSlot (px_W b I V G R M p) (b + 316) x = some (0, px_W b I V G R M p)) := by
  unfold f_mdl_isSlot b_mdl_isSlot_27 b_mdl_isSlot_28 rc_z1
  rcases px_is_cases hn x with ⟨h1, h2⟩ | ⟨j, hj, rfl, hi⟩
  · exact ⟨fun q => absurd q h2, fun _ => by rw [if_pos h1]; rfl⟩
  · rw [hi]
    simp (disch := omega) only [px_mS, px_bs, px_modG, px_lit, px_mul, nI_add, px_u2_ne, px_u2_eq, nI_1, rc_b2, px_sxl, px_low_sx, px_low_u, if_true, if_false, h, px_le, px_lt, px_eq, px_lt0, px_le0, px_0le, px_eq0, px_eq1, px_msub2, px_msub3]
    by_cases c1 : n ≤ j
    · simp only [c1, if_true, true_or]
      exact ⟨fun q => absurd q.1 (by omega), fun _ => trivial⟩
    · have e2 : (nI j < nI n - nI 64) = (j + 64 < n) := px_msub (by omega) (by decide) j (by omega)
      simp only [c1, if_false, e2]
      by_cases c2 : j + 64 < n
      · simp only [c2, if_true, true_or]
        exact ⟨fun q => absurd q.2 (by omega), fun _ => trivial⟩
      · simp only [c2, if_false, or_true, if_true]
        exact ⟨fun _ => trivial, fun q => absurd ⟨by omega, by omega⟩ q⟩
theorem pm_thrown : f_mdl_thrown (px_W b I V G R M p) (b + 316) = some (M 316 0, px_W b I V G R M p) := by
  simp (disch := omega) only [f_mdl_thrown, px_mS, px_bs, px_modG, px_lit, px_mul, nI_add, px_u2_ne, px_u2_eq, nI_1, rc_b2, px_sxl, px_low_sx, px_low_u, if_true, if_false]
theorem pm_length (n : Nat) (s : Nat → List UInt8) (x : Int32) (hn : n < 2 ^ 30) (h : M 316 5 = nI n) (hs : px_sl M s) : (∀ j, px_is n x → x = nI j → j < 2 ^ 31 → f_mdl_length (px_W b I V G R M p) (b + 316) x = some (nI (s (j % 64)).length, px_W b I V G R (px_u2 M 316 0 0) p)) ∧ (¬ px_is n x → f_mdl_length (px_W b I V G R M p) (b + 316) x = some (0, px_W b I V G R (px_u2 M 316 0 1) p)) := by
  unfold f_mdl_length b_mdl_length_14 b_mdl_length_37
  obtain ⟨a1, a2⟩ := pm_isSlot (b := b) (I := I) (V := V) (G := G) (R := R) (p := p) n x hn h
  refine ⟨fun j hi hx hj => ?_, fun hi => ?_⟩
  · subst hx
    have h3 := (hs (j % 64) (by omega)).2.1
    simp (disch := omega) only [px_mS, px_bs, px_modG, px_lit, px_mul, nI_add, px_u2_ne, px_u2_eq, nI_1, rc_b2, px_sxl, px_low_sx, px_low_u, if_true, if_false, a1 hi, h3]
    rfl
  · simp (disch := omega) only [px_mS, px_bs, px_modG, px_lit, px_mul, nI_add, px_u2_ne, px_u2_eq, nI_1, rc_b2, px_sxl, px_low_sx, px_low_u, if_true, if_false, a2 hi]
    rfl
theorem pm_byteAt (n : Nat) (s : Nat → List UInt8) (x y : Int32) (hn : n < 2 ^ 30) (h : M 316 5 = nI n) (hs : px_sl M s) : (∀ j i, px_is n x → x = nI j → j < 2 ^ 31 → y = nI i → i < (s (j % 64)).length → f_mdl_byteAt (px_W b I V G R M p) (b + 316) x y = some (rc_u ((s (j % 64)).getD i 0), px_W b I V G R (px_u2 M 316 0 0) p)) ∧ ((¬ px_is n x ∨ y < 0 ∨ ∃ j i, x = nI j ∧ j < 2 ^ 31 ∧ y = nI i ∧ i < 2 ^ 31 ∧ (s (j % 64)).length ≤ i) → f_mdl_byteAt (px_W b I V G R M p) (b + 316) x y = some (0, px_W b I V G R (px_u2 M 316 0 1) p)) := by
  unfold f_mdl_byteAt b_mdl_byteAt_30 b_mdl_byteAt_31 b_mdl_byteAt_60
  obtain ⟨a1, a2⟩ := pm_isSlot (b := b) (I := I) (V := V) (G := G) (R := R) (p := p) n x hn h
  refine ⟨fun j i hi hx hj hy hil => ?_, fun hi => ?_⟩
  · subst hx hy
    obtain ⟨h2, h3, h4⟩ := hs (j % 64) (by omega)
    have h5 := h4 i hil
    simp (disch := omega) only [px_mS, px_bs, px_modG, px_lit, px_mul, nI_add, px_u2_ne, px_u2_eq, nI_1, rc_b2, px_sxl, px_low_sx, px_low_u, if_true, if_false, a1 hi, h3, f_mdl_base, px_le, px_lt, px_eq, px_lt0, px_le0, px_0le, px_eq0, px_eq1, px_msub2, px_msub3, h5, px_u_sx]
    rw [if_neg (by decide), if_neg (by omega), if_pos (by decide)]
  · by_cases c : px_is n x
    · obtain ⟨j, rfl, hj1, hj2⟩ := id c
      obtain ⟨h2, h3, h4⟩ := hs (j % 64) (by omega)
      by_cases c2 : y < 0
      · simp (disch := omega) only [px_mS, px_bs, px_modG, px_lit, px_mul, nI_add, px_u2_ne, px_u2_eq, nI_1, rc_b2, px_sxl, px_low_sx, px_low_u, if_true, if_false, a1 c, h3, f_mdl_base, c2]
        rfl
      · obtain ⟨i, hi', rfl⟩ := nI_of c2
        have hle : (s (j % 64)).length ≤ i := by
          rcases hi with hi | hi | ⟨j', i', e1, e2, e3, e4, e5⟩
          · exact absurd c hi
          · exact absurd hi c2
          · rw [px_eq (by omega) e2] at e1
            rw [px_eq (by omega) e4] at e3
            rw [e1, e3]; exact e5
        simp (disch := omega) only [px_mS, px_bs, px_modG, px_lit, px_mul, nI_add, px_u2_ne, px_u2_eq, nI_1, rc_b2, px_sxl, px_low_sx, px_low_u, if_true, if_false, a1 c, h3, f_mdl_base, px_le, px_lt, px_eq, px_lt0, px_le0, px_0le, px_eq0, px_eq1, px_msub2, px_msub3, hle]
        rfl
    · simp (disch := omega) only [px_mS, px_bs, px_modG, px_lit, px_mul, nI_add, px_u2_ne, px_u2_eq, nI_1, rc_b2, px_sxl, px_low_sx, px_low_u, if_true, if_false, a2 c]
      rfl
theorem pm_word (n : Nat) (s : Nat → List UInt8) (x y : Int32) (hn : n < 2 ^ 30) (h : M 316 5 = nI n) (hs : px_sl M s) : (∀ j i, px_is n x → x = nI j → j < 2 ^ 31 → y = nI i → i + 4 ≤ (s (j % 64)).length → f_mdl_word (px_W b I V G R M p) (b + 316) x y = some (rc_wd (s (j % 64)) i, px_W b I V G R (px_u2 M 316 0 0) p)) ∧ ((¬ px_is n x ∨ y < 0 ∨ ∃ j i, x = nI j ∧ j < 2 ^ 31 ∧ y = nI i ∧ i < 2 ^ 31 ∧ (s (j % 64)).length < i + 4) → f_mdl_word (px_W b I V G R M p) (b + 316) x y = some (0, px_W b I V G R (px_u2 M 316 0 1) p)) := by
  unfold f_mdl_word b_mdl_word_32 b_mdl_word_33 b_mdl_word_53
  obtain ⟨a1, a2⟩ := pm_isSlot (b := b) (I := I) (V := V) (G := G) (R := R) (p := p) n x hn h
  refine ⟨fun j i hi hx hj hy hil => ?_, fun hi => ?_⟩
  · subst hx hy
    obtain ⟨h2, h3, h4⟩ := hs (j % 64) (by omega)
    have h5 := pm_wordIn (b := b) (I := I) (V := V) (G := G) (R := R) (p := p) (M := px_u2 M 316 0 0) j i (s (j % 64)) hj h2 hil (by rw [px_u2_sl _ _ _ _ _ (by decide)]; exact h4)
    have e2 : (nI (s (j % 64)).length - nI 4 < nI i) = ((s (j % 64)).length < i + 4) := px_msub4 (by omega) (by decide) i (by omega)
    simp (disch := omega) only [px_mS, px_bs, px_modG, px_lit, px_mul, nI_add, px_u2_ne, px_u2_eq, nI_1, rc_b2, px_sxl, px_low_sx, px_low_u, if_true, if_false, a1 hi, h3, e2, px_le, px_lt, px_eq, px_lt0, px_le0, px_0le, px_eq0, px_eq1, px_msub2, px_msub3, h5]
    rw [if_neg (by decide), if_neg (by omega), if_pos (by decide)]
  · by_cases c : px_is n x
    · obtain ⟨j, rfl, hj1, hj2⟩ := id c
      obtain ⟨h2, h3, h4⟩ := hs (j % 64) (by omega)
      by_cases c2 : y < 0
      · simp (disch := omega) only [px_mS, px_bs, px_modG, px_lit, px_mul, nI_add, px_u2_ne, px_u2_eq, nI_1, rc_b2, px_sxl, px_low_sx, px_low_u, if_true, if_false, a1 c, h3, c2]
        rfl
      · obtain ⟨i, hi', rfl⟩ := nI_of c2
        have hle : (s (j % 64)).length < i + 4 := by
          rcases hi with hi | hi | ⟨j', i', e1, e2, e3, e4, e5⟩
          · exact absurd c hi
          · exact absurd hi c2
          · rw [px_eq (by omega) e2] at e1
            rw [px_eq (by omega) e4] at e3
            rw [e1, e3]; exact e5
        have e2 : (nI (s (j % 64)).length - nI 4 < nI i) = ((s (j % 64)).length < i + 4) := px_msub4 (by omega) (by decide) i (by omega)
        simp (disch := omega) only [px_mS, px_bs, px_modG, px_lit, px_mul, nI_add, px_u2_ne, px_u2_eq, nI_1, rc_b2, px_sxl, px_low_sx, px_low_u, if_true, if_false, a1 c, h3, e2, px_le, px_lt, px_eq, px_lt0, px_le0, px_0le, px_eq0, px_eq1, px_msub2, px_msub3, hle]
        rfl
    · simp (disch := omega) only [px_mS, px_bs, px_modG, px_lit, px_mul, nI_add, px_u2_ne, px_u2_eq, nI_1, rc_b2, px_sxl, px_low_sx, px_low_u, if_true, if_false, a2 c]
      rfl
end PX
