/-! THE REFERENCE, 2: its tape; raw, end, feed -/
def px_tp (M : Nat → Nat → Int32) (T : List UInt8) : Prop := M 316 2 = nI T.length ∧ T.length ≤ 1600 ∧ ∀ i, i < T.length → M 317 i = rc_u (T.getD i 0)
theorem px_take_snoc (T : List UInt8) (i : Nat) (h : i < T.length) : T.take i ++ [T.getD i 0] = T.take (i + 1) := by
  rw [List.getD_eq_getElem?_getD, List.getElem?_eq_getElem h, List.take_succ_eq_append_getElem h]; rfl
section PX
variable {b : Nat} {I : Nat → Nat → Int32} {V : Nat → Nat → Int64} {G : Nat → Nat → Nat} {R : Nat → List UInt8} {M : Nat → Nat → Int32} {p : px_P} {e : Nat}
theorem pm_raw_go (T : List UInt8) (hT : px_tp M T) (j k : Nat) (hk : j % 64 = k) (hj : j < 2 ^ 31) : ∀ (n i f : Nat), T.length = i + n → n < f → b_mdl_raw_12 f (px_W b I V G R (px_ms M k (T.take i)) p) (b + 316) (nI j) (nI i) = some (nI j, px_W b I V G R (px_u2 (px_ms M k T) 316 2 0) p) := by
  obtain ⟨h1, h2, h3⟩ := hT
  intro n
  induction n with
  | zero =>
    intro i f hi hf
    obtain ⟨f, rfl⟩ : ∃ g, f = g + 1 := ⟨f - 1, by omega⟩
    rw [b_mdl_raw_12]
    simp (disch := omega) only [px_mS, px_bs, px_modG, px_lit, px_mul, nI_add, px_u2_ne, px_u2_eq, nI_1, rc_b2, px_sxl, px_low_sx, px_low_u, if_true, if_false, px_ms_ne, h1, px_le, px_lt, px_eq, px_lt0, px_le0, px_0le, px_eq0, px_eq1, px_msub2, px_msub3]
    rw [if_pos (by omega), List.take_of_length_le (by omega)]
  | succ n ih =>
    intro i f hi hf
    obtain ⟨f, rfl⟩ : ∃ g, f = g + 1 := ⟨f - 1, by omega⟩
    rw [b_mdl_raw_12]
    simp (disch := omega) only [px_mS, px_bs, px_modG, px_lit, px_mul, nI_add, px_u2_ne, px_u2_eq, nI_1, rc_b2, px_sxl, px_low_sx, px_low_u, if_true, if_false, px_ms_ne, h1, px_le, px_lt, px_eq, px_lt0, px_le0, px_0le, px_eq0, px_eq1, px_msub2, px_msub3, h3]
    rw [if_neg (by omega), pm_slotByte j k _ _ hk hj (by rw [List.length_take]; omega), px_low_u, px_take_snoc _ _ (by omega)]
    exact ih (i + 1) f (by omega) (by omega)
theorem pm_raw (T : List UInt8) (hT : px_tp M T) (n : Nat) (hn : n < 2 ^ 30) (h : M 316 5 = nI n) : f_mdl_raw (px_W b I V G R M p) (b + 316) = some (nI n, px_W b I V G R (px_u2 (px_ms (px_u2 (px_u2 M 316 0 0) 316 5 (nI (n + 1))) (n % 64) T) 316 2 0) p) := by
  unfold f_mdl_raw
  generalize hF : (5000 : Nat) = fu
  simp (disch := omega) only [px_mS, px_bs, px_modG, px_lit, px_mul, nI_add, px_u2_ne, px_u2_eq, nI_1, rc_b2, px_sxl, px_low_sx, px_low_u, if_true, if_false]
  rw [pm_newSlot n (by omega) (by simp (disch := omega) only [px_mS, px_bs, px_modG, px_lit, px_mul, nI_add, px_u2_ne, px_u2_eq, nI_1, rc_b2, px_sxl, px_low_sx, px_low_u, if_true, if_false, h])]
  simp (disch := omega) only [px_mS, px_bs, px_modG, px_lit, px_mul, nI_add, px_u2_ne, px_u2_eq, nI_1, rc_b2, px_sxl, px_low_sx, px_low_u, if_true, if_false]
  have h0 := fun hh hf => pm_raw_go (b := b) (I := I) (V := V) (G := G) (R := R) (p := p) (M := px_u2 (px_u2 M 316 0 0) 316 5 (nI (n + 1))) T hh n (n % 64) rfl (by omega) T.length 0 fu (by omega) hf
  rw [List.take_zero, nI_0] at h0
  refine h0 ?_ ?_
  · obtain ⟨h1, h2, h3⟩ := hT
    exact ⟨by simp (disch := omega) only [px_mS, px_bs, px_modG, px_lit, px_mul, nI_add, px_u2_ne, px_u2_eq, nI_1, rc_b2, px_sxl, px_low_sx, px_low_u, if_true, if_false, h1], h2, fun i hi => by simp (disch := omega) only [px_mS, px_bs, px_modG, px_lit, px_mul, nI_add, px_u2_ne, px_u2_eq, nI_1, rc_b2, px_sxl, px_low_sx, px_low_u, if_true, if_false, h3]⟩
  · have := hT.2.1; omega
theorem pm_end (T : List UInt8) (hT : px_tp M T) (x : Int32) : f_mdl_end (px_W b I V G R M p) (b + 316) x = some (px_W b I V G R (if x < 0 ∨ nI T.length < x then px_u2 (px_u2 M 316 0 1) 316 2 (nI T.length) else px_u2 (px_u2 M 316 0 0) 316 2 x) p) := by
  obtain ⟨h1, h2, h3⟩ := hT
  unfold f_mdl_end b_mdl_end_17 b_mdl_end_18 b_mdl_end_37
  simp (disch := omega) only [px_mS, px_bs, px_modG, px_lit, px_mul, nI_add, px_u2_ne, px_u2_eq, nI_1, rc_b2, px_sxl, px_low_sx, px_low_u, if_true, if_false, h1]
  by_cases c1 : x < 0
  · simp [c1]
  · by_cases c2 : nI T.length < x
    · simp [c1, c2]
    · simp [c1, c2]
end PX
