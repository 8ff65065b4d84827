/-! THE REFERENCE, 7: connections: take, open, count -/
/-- a connection: the word being put together, its bytes (4: inside a fragment), bytes left, the record so far, broken -/
abbrev px_S : Type := Int32 × Nat × Nat × List UInt8 × Bool
def px_z (x : Bool) : Int32 := if x = true then 1 else 0
theorem px_z01 (x : Bool) : (px_z x = 0 ∨ px_z x = 1) = True := by cases x <;> simp [px_z]
def px_tk (s : px_S) (x : UInt8) : px_S × Bool :=
  if s.2.2.2.2 = true then (s, false)
  else if s.2.1 = 4 then
    if s.2.2.1 = 1 then ((s.1, 0, 0, s.2.2.2.1 ++ [x], false), decide (s.1 < 0)) else ((s.1, 4, s.2.2.1 - 1, s.2.2.2.1 ++ [x], false), false)
  else if s.2.1 < 3 then (((s.1 <<< ((8 : Int32) &&& 31)) ||| rc_u x, s.2.1 + 1, s.2.2.1, s.2.2.2.1, false), false)
  else if 1200 < s.2.2.2.1.length + (((s.1 <<< ((8 : Int32) &&& 31)) ||| rc_u x) &&& 2147483647).toNatClampNeg then (((s.1 <<< ((8 : Int32) &&& 31)) ||| rc_u x, 4, (((s.1 <<< ((8 : Int32) &&& 31)) ||| rc_u x) &&& 2147483647).toNatClampNeg, s.2.2.2.1, true), false)
  else if (((s.1 <<< ((8 : Int32) &&& 31)) ||| rc_u x) &&& 2147483647).toNatClampNeg = 0 then (((s.1 <<< ((8 : Int32) &&& 31)) ||| rc_u x, 0, 0, s.2.2.2.1, false), decide (((s.1 <<< ((8 : Int32) &&& 31)) ||| rc_u x) < 0))
  else (((s.1 <<< ((8 : Int32) &&& 31)) ||| rc_u x, 4, (((s.1 <<< ((8 : Int32) &&& 31)) ||| rc_u x) &&& 2147483647).toNatClampNeg, s.2.2.2.1, false), false)
/-- what always holds of a connection -/
def px_sok (s : px_S) : Prop := s.2.1 ≤ 4 ∧ s.2.2.2.1.length ≤ 1200 ∧ (s.2.1 < 4 → s.2.2.1 = 0) ∧ (s.2.1 = 4 → s.2.2.2.2 = false → 0 < s.2.2.1 ∧ s.2.2.2.1.length + s.2.2.1 ≤ 1200) ∧ s.2.2.1 < 2 ^ 31 ∧ (s.2.2.2.2 = true → s.2.1 = 4)
theorem px_and31 (w : Int32) : ∃ n : Nat, n < 2 ^ 31 ∧ w &&& 2147483647 = nI n := by
  have h : ¬ (w &&& 2147483647) < 0 := by
    rw [Int32.lt_iff_toInt_lt]
    have e : (w &&& 2147483647).toBitVec = w.toBitVec &&& 2147483647#32 := by simp
    have e2 : (w &&& 2147483647).toInt = (w.toBitVec &&& 2147483647#32).toInt := by rw [← e]; rfl
    rw [e2, BitVec.toInt_eq_toNat_of_msb]
    · simp
    · rw [BitVec.msb_and, show (2147483647#32).msb = false by decide]; simp
  obtain ⟨j, hj, e⟩ := nI_of h
  exact ⟨j, hj, e⟩
def px_cn (M : Nat → Nat → Int32) (c : Nat) (s : px_S) : Prop := M 327 c = s.1 ∧ M 331 c = px_z s.2.2.2.2 ∧ M 330 c = (if s.2.1 = 4 then 1 else 0) ∧ M 326 c = nI (if s.2.1 = 4 then 0 else s.2.1) ∧ M 325 c = nI s.2.2.2.1.length ∧ px_agr (M 324) (1200 * c) s.2.2.2.1 ∧ (s.2.1 = 4 → s.2.2.2.2 = false → M 328 c = nI s.2.2.1 ∧ M 329 c = px_z (decide (s.1 < 0)))
/-- nothing else than this connection's cells has changed -/
def px_fc (c : Nat) (M M' : Nat → Nat → Int32) : Prop := ∀ o i, ¬ ((o = 324 ∧ 1200 * c ≤ i ∧ i < 1200 * c + 1200) ∨ (325 ≤ o ∧ o ≤ 331 ∧ i = c)) → M' o i = M o i
theorem px_fc.rf (c : Nat) (M : Nat → Nat → Int32) : px_fc c M M := fun _ _ _ => rfl
theorem px_fc.tr {c : Nat} {M M1 M2 : Nat → Nat → Int32} (h1 : px_fc c M M1) (h2 : px_fc c M1 M2) : px_fc c M M2 := fun o i h => (h2 o i h).trans (h1 o i h)
theorem px_cn_fc {c c' : Nat} {M M' : Nat → Nat → Int32} {s : px_S} (h : px_cn M c' s) (hf : px_fc c M M') (hne : c' ≠ c) (hs : s.2.2.2.1.length ≤ 1200) : px_cn M' c' s := by
  obtain ⟨h1, h2, h3, h4, h5, h6, h7⟩ := h
  refine ⟨by rw [hf _ _ (by omega)]; exact h1, by rw [hf _ _ (by omega)]; exact h2, by rw [hf _ _ (by omega)]; exact h3, by rw [hf _ _ (by omega)]; exact h4, by rw [hf _ _ (by omega)]; exact h5, fun i hi => by rw [hf _ _ (by omega)]; exact h6 i hi, fun q1 q2 => ?_⟩
  rw [hf _ _ (by omega), hf _ _ (by omega)]
  exact h7 q1 q2
theorem px_sok_tk {s : px_S} (h : px_sok s) (x : UInt8) : px_sok (px_tk s x).1 := by
  obtain ⟨hd, hb, lf, g, br⟩ := s
  obtain ⟨h1, h2, h3, h4, h5, h6⟩ := h
  simp only at h1 h2 h3 h4 h5 h6
  unfold px_tk
  simp only
  by_cases c1 : br = true
  · simp only [c1, if_true]
    exact ⟨h1, h2, h3, fun q1 q2 => absurd q2 (by simp), h5, fun _ => h6 c1⟩
  · have c1' : br = false := by simpa using c1
    rw [if_neg c1]
    by_cases c2 : hb = 4
    · rw [if_pos c2]
      have := h4 c2 c1'
      by_cases c3 : lf = 1
      · rw [if_pos c3]
        refine ⟨by simp, ?_, by simp, by simp, by simp, by simp⟩
        simp; omega
      · rw [if_neg c3]
        refine ⟨by simp, ?_, by simp, fun _ _ => ?_, ?_, by simp⟩
        · simp; omega
        · simp; omega
        · simp; omega
    · rw [if_neg c2]
      by_cases c3 : hb < 3
      · rw [if_pos c3]
        refine ⟨by simp; omega, h2, fun _ => h3 (by omega), fun q => ?_, h5, by simp⟩
        simp at q; omega
      · rw [if_neg c3]
        obtain ⟨n, hn, e⟩ := px_and31 (hd <<< ((8 : Int32) &&& 31) ||| rc_u x)
        rw [e, nI_clamp hn]
        by_cases c4 : 1200 < g.length + n
        · rw [if_pos c4]
          exact ⟨by simp, h2, by simp, fun _ q => absurd q (by simp), hn, by simp⟩
        · rw [if_neg c4]
          by_cases c5 : n = 0
          · rw [if_pos c5]
            exact ⟨by simp, h2, by simp, by simp, by simp, by simp⟩
          · rw [if_neg c5]
            refine ⟨by simp, h2, by simp, fun _ _ => ?_, hn, by simp⟩
            simp; omega
section PX
variable {b : Nat} {I : Nat → Nat → Int32} {V : Nat → Nat → Int64} {G : Nat → Nat → Nat} {R : Nat → List UInt8} {M : Nat → Nat → Int32} {p : px_P} {e : Nat}
theorem pm_take (c : Nat) (s : px_S) (x : UInt8) (hc : c < 4) (hok : px_sok s) (hs : px_cn M c s) (hbr : s.2.2.2.2 = false) : ∃ M', f_mdl_take (px_W b I V G R M p) (b + 316) (nI c) (rc_u x) = some (px_z (px_tk s x).2, px_W b I V G R M' p) ∧ px_cn M' c (px_tk s x).1 ∧ px_fc c M M' := by
  obtain ⟨hd, hb, lf, g, br⟩ := s
  obtain ⟨k1, k2, k3, k4, k5, k6⟩ := hok
  obtain ⟨h1, h2, h3, h4, h5, h6, h7⟩ := hs
  simp only at k1 k2 k3 k4 k5 k6 h1 h2 h3 h4 h5 h6 h7 hbr
  subst hbr
  unfold px_tk
  simp only [Bool.false_eq_true, if_false]
  unfold f_mdl_take
  by_cases c2 : hb = 4
  · unfold b_mdl_take_167 rc_z1
    obtain ⟨h8, h9⟩ := h7 c2 rfl
    have k := k4 c2 rfl
    simp only [c2, if_true] at h3 h4
    rw [if_pos c2]
    have hag : ∀ M1 : Nat → Nat → Int32, (∀ i, M1 324 i = px_u2 M 324 (1200 * c + g.length) (rc_sx x) 324 i) → px_agr (M1 324) (1200 * c) (g ++ [x]) := by
      intro M1 hM1 i hi
      rw [hM1]
      rw [List.length_append, List.length_singleton] at hi
      by_cases hil : i < g.length
      · rw [px_u2_ne _ _ _ _ _ _ (by omega), h6 i hil]
        simp only [List.getD_eq_getElem?_getD]
        rw [List.getElem?_append_left hil]
      · have : i = g.length := by omega
        subst this
        rw [px_u2_eq]
        simp [List.getD_eq_getElem?_getD]
    by_cases c3 : lf = 1
    · subst c3
      simp (disch := omega) only [↓reduceIte, ↓px_bs, ↓px_mB, px_10, px_modG, px_lit, px_mul, nI_add, px_u2_ne, px_u2_eq, nI_1, nI_clamp, px_lt0, px_nle, or_self, false_or, or_false, true_or, or_true, rc_b2, px_sxl, px_low_sx, px_low_u, px_nar0, px_nar1, px_z01, if_true, if_false, px_le, px_lt, px_eq, px_lt0, px_le0, px_0le, px_eq0, px_eq1, px_msub2, px_msub3, h3, h5, h8, h9, nI_pred, show nI 1 - 1 = nI 0 by decide]
      refine ⟨_, rfl, ?_, ?_⟩
      · refine ⟨?_, ?_, ?_, ?_, ?_, ?_, ?_⟩
        · simp (disch := omega) only [↓reduceIte, ↓px_bs, ↓px_mB, px_10, px_modG, px_lit, px_mul, nI_add, px_u2_ne, px_u2_eq, nI_1, nI_clamp, px_lt0, px_nle, or_self, false_or, or_false, true_or, or_true, rc_b2, px_sxl, px_low_sx, px_low_u, px_nar0, px_nar1, px_z01, if_true, if_false]; exact h1
        · simp (disch := omega) only [↓reduceIte, ↓px_bs, ↓px_mB, px_10, px_modG, px_lit, px_mul, nI_add, px_u2_ne, px_u2_eq, nI_1, nI_clamp, px_lt0, px_nle, or_self, false_or, or_false, true_or, or_true, rc_b2, px_sxl, px_low_sx, px_low_u, px_nar0, px_nar1, px_z01, if_true, if_false]; exact h2
        · simp (disch := omega) only [↓reduceIte, ↓px_bs, ↓px_mB, px_10, px_modG, px_lit, px_mul, nI_add, px_u2_ne, px_u2_eq, nI_1, nI_clamp, px_lt0, px_nle, or_self, false_or, or_false, true_or, or_true, rc_b2, px_sxl, px_low_sx, px_low_u, px_nar0, px_nar1, px_z01, if_true, if_false]; rfl
        · simp (disch := omega) only [↓reduceIte, ↓px_bs, ↓px_mB, px_10, px_modG, px_lit, px_mul, nI_add, px_u2_ne, px_u2_eq, nI_1, nI_clamp, px_lt0, px_nle, or_self, false_or, or_false, true_or, or_true, rc_b2, px_sxl, px_low_sx, px_low_u, px_nar0, px_nar1, px_z01, if_true, if_false]; rw [h4]; rfl
        · simp (disch := omega) only [↓reduceIte, ↓px_bs, ↓px_mB, px_10, px_modG, px_lit, px_mul, nI_add, px_u2_ne, px_u2_eq, nI_1, nI_clamp, px_lt0, px_nle, or_self, false_or, or_false, true_or, or_true, rc_b2, px_sxl, px_low_sx, px_low_u, px_nar0, px_nar1, px_z01, if_true, if_false, List.length_append, List.length_singleton]
        · refine hag _ (fun i => ?_)
          simp (disch := omega) only [↓reduceIte, ↓px_bs, ↓px_mB, px_10, px_modG, px_lit, px_mul, nI_add, px_u2_ne, px_u2_eq, nI_1, nI_clamp, px_lt0, px_nle, or_self, false_or, or_false, true_or, or_true, rc_b2, px_sxl, px_low_sx, px_low_u, px_nar0, px_nar1, px_z01, if_true, if_false]
        · intro q; simp at q
      · intro o i h
        simp (disch := omega) only [px_u2_ne]
    · have e1 : nI lf - 1 = nI (lf - 1) := by rw [show (1 : Int32) = nI 1 from rfl, px_sub (by omega)]
      have e2 : ¬ (lf - 1 = 0) := by omega
      simp (disch := omega) only [↓reduceIte, ↓px_bs, ↓px_mB, px_10, px_modG, px_lit, px_mul, nI_add, px_u2_ne, px_u2_eq, nI_1, nI_clamp, px_lt0, px_nle, or_self, false_or, or_false, true_or, or_true, rc_b2, px_sxl, px_low_sx, px_low_u, px_nar0, px_nar1, px_z01, if_true, if_false, px_le, px_lt, px_eq, px_lt0, px_le0, px_0le, px_eq0, px_eq1, px_msub2, px_msub3, h3, h5, h8, e1, e2, c3]
      refine ⟨_, rfl, ?_, ?_⟩
      · refine ⟨?_, ?_, ?_, ?_, ?_, ?_, ?_⟩
        · simp (disch := omega) only [↓reduceIte, ↓px_bs, ↓px_mB, px_10, px_modG, px_lit, px_mul, nI_add, px_u2_ne, px_u2_eq, nI_1, nI_clamp, px_lt0, px_nle, or_self, false_or, or_false, true_or, or_true, rc_b2, px_sxl, px_low_sx, px_low_u, px_nar0, px_nar1, px_z01, if_true, if_false]; exact h1
        · simp (disch := omega) only [↓reduceIte, ↓px_bs, ↓px_mB, px_10, px_modG, px_lit, px_mul, nI_add, px_u2_ne, px_u2_eq, nI_1, nI_clamp, px_lt0, px_nle, or_self, false_or, or_false, true_or, or_true, rc_b2, px_sxl, px_low_sx, px_low_u, px_nar0, px_nar1, px_z01, if_true, if_false]; exact h2
        · simp (disch := omega) only [↓reduceIte, ↓px_bs, ↓px_mB, px_10, px_modG, px_lit, px_mul, nI_add, px_u2_ne, px_u2_eq, nI_1, nI_clamp, px_lt0, px_nle, or_self, false_or, or_false, true_or, or_true, rc_b2, px_sxl, px_low_sx, px_low_u, px_nar0, px_nar1, px_z01, if_true, if_false]; exact h3
        · simp (disch := omega) only [↓reduceIte, ↓px_bs, ↓px_mB, px_10, px_modG, px_lit, px_mul, nI_add, px_u2_ne, px_u2_eq, nI_1, nI_clamp, px_lt0, px_nle, or_self, false_or, or_false, true_or, or_true, rc_b2, px_sxl, px_low_sx, px_low_u, px_nar0, px_nar1, px_z01, if_true, if_false]; exact h4
        · simp (disch := omega) only [↓reduceIte, ↓px_bs, ↓px_mB, px_10, px_modG, px_lit, px_mul, nI_add, px_u2_ne, px_u2_eq, nI_1, nI_clamp, px_lt0, px_nle, or_self, false_or, or_false, true_or, or_true, rc_b2, px_sxl, px_low_sx, px_low_u, px_nar0, px_nar1, px_z01, if_true, if_false, List.length_append, List.length_singleton]
        · refine hag _ (fun i => ?_)
          simp (disch := omega) only [↓reduceIte, ↓px_bs, ↓px_mB, px_10, px_modG, px_lit, px_mul, nI_add, px_u2_ne, px_u2_eq, nI_1, nI_clamp, px_lt0, px_nle, or_self, false_or, or_false, true_or, or_true, rc_b2, px_sxl, px_low_sx, px_low_u, px_nar0, px_nar1, px_z01, if_true, if_false]
        · intro _ _
          simp (disch := omega) only [↓reduceIte, ↓px_bs, ↓px_mB, px_10, px_modG, px_lit, px_mul, nI_add, px_u2_ne, px_u2_eq, nI_1, nI_clamp, px_lt0, px_nle, or_self, false_or, or_false, true_or, or_true, rc_b2, px_sxl, px_low_sx, px_low_u, px_nar0, px_nar1, px_z01, if_true, if_false]
          exact ⟨trivial, h9⟩
      · intro o i h
        simp (disch := omega) only [px_u2_ne]
  · rw [if_neg c2]
    simp only [c2, if_false] at h3 h4
    by_cases c3 : hb < 3
    · unfold rc_z1
      have e4 : ¬ 4 ≤ hb + 1 := by omega
      simp (disch := omega) only [↓reduceIte, ↓px_bs, ↓px_mB, px_10, px_modG, px_mul, nI_add, px_u2_ne, px_u2_eq, nI_1, nI_clamp, px_lt0, px_nle, or_self, false_or, or_false, true_or, or_true, rc_b2, px_sxl, px_low_sx, px_low_u, px_nar0, px_nar1, px_z01, if_true, if_false, px_le, px_lt, px_eq, px_lt0, px_le0, px_0le, px_eq0, px_eq1, px_msub2, px_msub3, h3, h1, h4, c3, e4, show (4 : Int32) = nI 4 from rfl]
      refine ⟨_, rfl, ?_, ?_⟩
      · refine ⟨?_, ?_, ?_, ?_, ?_, ?_, ?_⟩
        · simp (disch := omega) only [↓reduceIte, ↓px_bs, ↓px_mB, px_10, px_modG, px_mul, nI_add, px_u2_ne, px_u2_eq, nI_1, nI_clamp, px_lt0, px_nle, or_self, false_or, or_false, true_or, or_true, rc_b2, px_sxl, px_low_sx, px_low_u, px_nar0, px_nar1, px_z01, if_true, if_false]
        · simp (disch := omega) only [↓reduceIte, ↓px_bs, ↓px_mB, px_10, px_modG, px_mul, nI_add, px_u2_ne, px_u2_eq, nI_1, nI_clamp, px_lt0, px_nle, or_self, false_or, or_false, true_or, or_true, rc_b2, px_sxl, px_low_sx, px_low_u, px_nar0, px_nar1, px_z01, if_true, if_false]; exact h2
        · simp (disch := omega) only [↓reduceIte, ↓px_bs, ↓px_mB, px_10, px_modG, px_mul, nI_add, px_u2_ne, px_u2_eq, nI_1, nI_clamp, px_lt0, px_nle, or_self, false_or, or_false, true_or, or_true, rc_b2, px_sxl, px_low_sx, px_low_u, px_nar0, px_nar1, px_z01, if_true, if_false]; rw [if_neg (by omega)]; exact h3
        · simp (disch := omega) only [↓reduceIte, ↓px_bs, ↓px_mB, px_10, px_modG, px_mul, nI_add, px_u2_ne, px_u2_eq, nI_1, nI_clamp, px_lt0, px_nle, or_self, false_or, or_false, true_or, or_true, rc_b2, px_sxl, px_low_sx, px_low_u, px_nar0, px_nar1, px_z01, if_true, if_false]; rw [if_neg (by omega)]
        · simp (disch := omega) only [↓reduceIte, ↓px_bs, ↓px_mB, px_10, px_modG, px_mul, nI_add, px_u2_ne, px_u2_eq, nI_1, nI_clamp, px_lt0, px_nle, or_self, false_or, or_false, true_or, or_true, rc_b2, px_sxl, px_low_sx, px_low_u, px_nar0, px_nar1, px_z01, if_true, if_false]; exact h5
        · intro i hi
          simp (disch := omega) only [↓reduceIte, ↓px_bs, ↓px_mB, px_10, px_modG, px_mul, nI_add, px_u2_ne, px_u2_eq, nI_1, nI_clamp, px_lt0, px_nle, or_self, false_or, or_false, true_or, or_true, rc_b2, px_sxl, px_low_sx, px_low_u, px_nar0, px_nar1, px_z01, if_true, if_false]; exact h6 i hi
        · intro q; simp at q; omega
      · intro o i h
        simp (disch := omega) only [px_u2_ne]
    · have hb3 : hb = 3 := by omega
      subst hb3
      simp only [Nat.lt_irrefl, if_false]
      generalize hw : (hd <<< ((8 : Int32) &&& 31) ||| rc_u x) = d
      obtain ⟨n, hn, en⟩ := px_and31 d
      rw [en, nI_clamp hn]
      have key : ∀ z : Int32, (z = 0 ∨ z = 1) → px_z (decide (d < 0)) = z → ∃ M', b_mdl_take_116 (px_W b I V G R (px_u2 (px_u2 (px_u2 M 327 c d) 326 c (nI (3 + 1))) 326 c 0) p) (b + 316) (nI c) (some (b + 329)) (nI c) z = some (px_z (if 1200 < g.length + n then ((d, 4, n, g, true), false) else if n = 0 then ((d, 0, 0, g, false), decide (d < 0)) else ((d, 4, n, g, false), false)).2, px_W b I V G R M' p) ∧ px_cn M' c (if 1200 < g.length + n then ((d, 4, n, g, true), false) else if n = 0 then ((d, 0, 0, g, false), decide (d < 0)) else ((d, 4, n, g, false), false)).1 ∧ px_fc c M M' := by
        intro z hz hzd
        have hnz : rc_nar 3 z = z := by rcases hz with rfl | rfl <;> decide
        have e6 : (nI n ≤ nI 1200 - nI g.length) = (n + g.length ≤ 1200) := px_msub3 (by decide) (by omega) n hn
        unfold b_mdl_take_116 b_mdl_take_167 rc_z1
        by_cases c4 : 1200 < g.length + n
        · have c4' : ¬ (n + g.length ≤ 1200) := by omega
          simp (disch := omega) only [↓reduceIte, ↓px_bs, ↓px_mB, px_10, px_modG, px_mul, nI_add, px_u2_ne, px_u2_eq, nI_1, nI_clamp, px_lt0, px_nle, or_self, false_or, or_false, true_or, or_true, rc_b2, px_sxl, px_low_sx, px_low_u, px_nar0, px_nar1, px_z01, if_true, if_false, h5, en, hnz, c4, c4', e6, show (1200 : Int32) = nI 1200 from rfl]
          refine ⟨_, rfl, ?_, ?_⟩
          · refine ⟨?_, ?_, ?_, ?_, ?_, ?_, ?_⟩
            · simp (disch := omega) only [↓reduceIte, ↓px_bs, ↓px_mB, px_10, px_modG, px_mul, nI_add, px_u2_ne, px_u2_eq, nI_1, nI_clamp, px_lt0, px_nle, or_self, false_or, or_false, true_or, or_true, rc_b2, px_sxl, px_low_sx, px_low_u, px_nar0, px_nar1, px_z01, if_true, if_false]
            · simp (disch := omega) only [↓reduceIte, ↓px_bs, ↓px_mB, px_10, px_modG, px_mul, nI_add, px_u2_ne, px_u2_eq, nI_1, nI_clamp, px_lt0, px_nle, or_self, false_or, or_false, true_or, or_true, rc_b2, px_sxl, px_low_sx, px_low_u, px_nar0, px_nar1, px_z01, if_true, if_false]; rfl
            · simp (disch := omega) only [↓reduceIte, ↓px_bs, ↓px_mB, px_10, px_modG, px_mul, nI_add, px_u2_ne, px_u2_eq, nI_1, nI_clamp, px_lt0, px_nle, or_self, false_or, or_false, true_or, or_true, rc_b2, px_sxl, px_low_sx, px_low_u, px_nar0, px_nar1, px_z01, if_true, if_false]
            · simp (disch := omega) only [↓reduceIte, ↓px_bs, ↓px_mB, px_10, px_modG, px_mul, nI_add, px_u2_ne, px_u2_eq, nI_1, nI_clamp, px_lt0, px_nle, or_self, false_or, or_false, true_or, or_true, rc_b2, px_sxl, px_low_sx, px_low_u, px_nar0, px_nar1, px_z01, if_true, if_false]; rfl
            · simp (disch := omega) only [↓reduceIte, ↓px_bs, ↓px_mB, px_10, px_modG, px_mul, nI_add, px_u2_ne, px_u2_eq, nI_1, nI_clamp, px_lt0, px_nle, or_self, false_or, or_false, true_or, or_true, rc_b2, px_sxl, px_low_sx, px_low_u, px_nar0, px_nar1, px_z01, if_true, if_false]; exact h5
            · intro i hi
              simp (disch := omega) only [↓reduceIte, ↓px_bs, ↓px_mB, px_10, px_modG, px_mul, nI_add, px_u2_ne, px_u2_eq, nI_1, nI_clamp, px_lt0, px_nle, or_self, false_or, or_false, true_or, or_true, rc_b2, px_sxl, px_low_sx, px_low_u, px_nar0, px_nar1, px_z01, if_true, if_false]; exact h6 i hi
            · intro _ q; simp at q
          · intro o i h
            simp (disch := omega) only [px_u2_ne]
        · have c4' : (n + g.length ≤ 1200) := by omega
          by_cases c5 : n = 0
          · subst c5
            simp (disch := omega) only [↓reduceIte, ↓px_bs, ↓px_mB, px_10, px_modG, px_mul, nI_add, px_u2_ne, px_u2_eq, nI_1, nI_clamp, px_lt0, px_nle, or_self, false_or, or_false, true_or, or_true, rc_b2, px_sxl, px_low_sx, px_low_u, px_nar0, px_nar1, px_z01, if_true, if_false, px_le, px_lt, px_eq, px_lt0, px_le0, px_0le, px_eq0, px_eq1, px_msub2, px_msub3, h5, en, hnz, c4, c4', e6, hz, show (1200 : Int32) = nI 1200 from rfl]
            refine ⟨_, by rw [hzd], ?_, ?_⟩
            · refine ⟨?_, ?_, ?_, ?_, ?_, ?_, ?_⟩
              · simp (disch := omega) only [↓reduceIte, ↓px_bs, ↓px_mB, px_10, px_modG, px_mul, nI_add, px_u2_ne, px_u2_eq, nI_1, nI_clamp, px_lt0, px_nle, or_self, false_or, or_false, true_or, or_true, rc_b2, px_sxl, px_low_sx, px_low_u, px_nar0, px_nar1, px_z01, if_true, if_false]
              · simp (disch := omega) only [↓reduceIte, ↓px_bs, ↓px_mB, px_10, px_modG, px_mul, nI_add, px_u2_ne, px_u2_eq, nI_1, nI_clamp, px_lt0, px_nle, or_self, false_or, or_false, true_or, or_true, rc_b2, px_sxl, px_low_sx, px_low_u, px_nar0, px_nar1, px_z01, if_true, if_false]; exact h2
              · simp (disch := omega) only [↓reduceIte, ↓px_bs, ↓px_mB, px_10, px_modG, px_mul, nI_add, px_u2_ne, px_u2_eq, nI_1, nI_clamp, px_lt0, px_nle, or_self, false_or, or_false, true_or, or_true, rc_b2, px_sxl, px_low_sx, px_low_u, px_nar0, px_nar1, px_z01, if_true, if_false]; rfl
              · simp (disch := omega) only [↓reduceIte, ↓px_bs, ↓px_mB, px_10, px_modG, px_mul, nI_add, px_u2_ne, px_u2_eq, nI_1, nI_clamp, px_lt0, px_nle, or_self, false_or, or_false, true_or, or_true, rc_b2, px_sxl, px_low_sx, px_low_u, px_nar0, px_nar1, px_z01, if_true, if_false]; rfl
              · simp (disch := omega) only [↓reduceIte, ↓px_bs, ↓px_mB, px_10, px_modG, px_mul, nI_add, px_u2_ne, px_u2_eq, nI_1, nI_clamp, px_lt0, px_nle, or_self, false_or, or_false, true_or, or_true, rc_b2, px_sxl, px_low_sx, px_low_u, px_nar0, px_nar1, px_z01, if_true, if_false]; exact h5
              · intro i hi
                simp (disch := omega) only [↓reduceIte, ↓px_bs, ↓px_mB, px_10, px_modG, px_mul, nI_add, px_u2_ne, px_u2_eq, nI_1, nI_clamp, px_lt0, px_nle, or_self, false_or, or_false, true_or, or_true, rc_b2, px_sxl, px_low_sx, px_low_u, px_nar0, px_nar1, px_z01, if_true, if_false]; exact h6 i hi
              · intro q; simp at q
            · intro o i h
              simp (disch := omega) only [px_u2_ne]
          · simp (disch := omega) only [↓reduceIte, ↓px_bs, ↓px_mB, px_10, px_modG, px_mul, nI_add, px_u2_ne, px_u2_eq, nI_1, nI_clamp, px_lt0, px_nle, or_self, false_or, or_false, true_or, or_true, rc_b2, px_sxl, px_low_sx, px_low_u, px_nar0, px_nar1, px_z01, if_true, if_false, px_le, px_lt, px_eq, px_lt0, px_le0, px_0le, px_eq0, px_eq1, px_msub2, px_msub3, h5, en, hnz, c4, c4', c5, e6, show (1200 : Int32) = nI 1200 from rfl]
            refine ⟨_, rfl, ?_, ?_⟩
            · refine ⟨?_, ?_, ?_, ?_, ?_, ?_, ?_⟩
              · simp (disch := omega) only [↓reduceIte, ↓px_bs, ↓px_mB, px_10, px_modG, px_mul, nI_add, px_u2_ne, px_u2_eq, nI_1, nI_clamp, px_lt0, px_nle, or_self, false_or, or_false, true_or, or_true, rc_b2, px_sxl, px_low_sx, px_low_u, px_nar0, px_nar1, px_z01, if_true, if_false]
              · simp (disch := omega) only [↓reduceIte, ↓px_bs, ↓px_mB, px_10, px_modG, px_mul, nI_add, px_u2_ne, px_u2_eq, nI_1, nI_clamp, px_lt0, px_nle, or_self, false_or, or_false, true_or, or_true, rc_b2, px_sxl, px_low_sx, px_low_u, px_nar0, px_nar1, px_z01, if_true, if_false]; exact h2
              · simp (disch := omega) only [↓reduceIte, ↓px_bs, ↓px_mB, px_10, px_modG, px_mul, nI_add, px_u2_ne, px_u2_eq, nI_1, nI_clamp, px_lt0, px_nle, or_self, false_or, or_false, true_or, or_true, rc_b2, px_sxl, px_low_sx, px_low_u, px_nar0, px_nar1, px_z01, if_true, if_false]
              · simp (disch := omega) only [↓reduceIte, ↓px_bs, ↓px_mB, px_10, px_modG, px_mul, nI_add, px_u2_ne, px_u2_eq, nI_1, nI_clamp, px_lt0, px_nle, or_self, false_or, or_false, true_or, or_true, rc_b2, px_sxl, px_low_sx, px_low_u, px_nar0, px_nar1, px_z01, if_true, if_false]; rfl
              · simp (disch := omega) only [↓reduceIte, ↓px_bs, ↓px_mB, px_10, px_modG, px_mul, nI_add, px_u2_ne, px_u2_eq, nI_1, nI_clamp, px_lt0, px_nle, or_self, false_or, or_false, true_or, or_true, rc_b2, px_sxl, px_low_sx, px_low_u, px_nar0, px_nar1, px_z01, if_true, if_false]; exact h5
              · intro i hi
                simp (disch := omega) only [↓reduceIte, ↓px_bs, ↓px_mB, px_10, px_modG, px_mul, nI_add, px_u2_ne, px_u2_eq, nI_1, nI_clamp, px_lt0, px_nle, or_self, false_or, or_false, true_or, or_true, rc_b2, px_sxl, px_low_sx, px_low_u, px_nar0, px_nar1, px_z01, if_true, if_false]; exact h6 i hi
              · intro _ _
                simp (disch := omega) only [↓reduceIte, ↓px_bs, ↓px_mB, px_10, px_modG, px_mul, nI_add, px_u2_ne, px_u2_eq, nI_1, nI_clamp, px_lt0, px_nle, or_self, false_or, or_false, true_or, or_true, rc_b2, px_sxl, px_low_sx, px_low_u, px_nar0, px_nar1, px_z01, if_true, if_false]
                exact ⟨trivial, hzd.symm⟩
            · intro o i h
              simp (disch := omega) only [px_u2_ne]
      have k0 := key 0 (Or.inl rfl)
      have k1' := key 1 (Or.inr rfl)
      generalize b_mdl_take_116 = K at *
      have e44 : 4 ≤ 3 + 1 := by decide
      simp (disch := omega) only [↓reduceIte, ↓px_bs, ↓px_mB, px_10, px_modG, px_mul, nI_add, px_u2_ne, px_u2_eq, nI_1, nI_clamp, px_lt0, px_nle, or_self, false_or, or_false, true_or, or_true, rc_b2, px_sxl, px_low_sx, px_low_u, px_nar0, px_nar1, px_z01, if_true, if_false, px_le, px_lt, px_eq, px_lt0, px_le0, px_0le, px_eq0, px_eq1, px_msub2, px_msub3, h3, h1, h4, hw, e44, show (4 : Int32) = nI 4 from rfl]
      by_cases q : d < 0
      · rw [if_neg (Int32.not_le.mpr q)]
        exact k1' (by simp [px_z, q])
      · rw [if_pos (Int32.not_lt.mp q)]
        exact k0 (by simp [px_z, q])
theorem px_sok0 : px_sok (0, 0, 0, [], false) := ⟨by simp, by simp, by simp, by simp, by simp, by simp⟩
theorem pm_open (c : Nat) (s : px_S) (hc : c < 4) (hs : px_cn M c s) : ∃ M', f_mdl_open (px_W b I V G R M p) (b + 316) (nI c) = some (px_z s.2.2.2.2, px_W b I V G R M' p) ∧ px_cn M' c (s.1, 0, 0, [], false) ∧ px_fc c (px_u2 M 316 0 0) M' := by
  obtain ⟨h1, h2, h3, h4, h5, h6, h7⟩ := hs
  unfold f_mdl_open b_mdl_open_14 b_mdl_open_15 rc_z1
  have e1 : ¬ (4 ≤ c) := by omega
  have e2 : ((0 : Int32) ≤ 0) = True := by decide
  simp (disch := omega) only [↓reduceIte, ↓px_bs, ↓px_mB, px_10, px_modG, px_lit, px_mul, nI_add, px_u2_ne, px_u2_eq, nI_1, nI_clamp, px_lt0, px_nle, or_self, false_or, or_false, true_or, or_true, rc_b2, px_sxl, px_low_sx, px_low_u, px_nar0, px_nar1, px_z01, if_true, if_false, px_le, px_lt, px_eq, px_lt0, px_le0, px_0le, px_eq0, px_eq1, px_msub2, px_msub3, e1, h2, e2]
  refine ⟨_, rfl, ?_, ?_⟩
  · refine ⟨?_, ?_, ?_, ?_, ?_, px_agr_nil _ _, ?_⟩
    · simp (disch := omega) only [↓reduceIte, ↓px_bs, ↓px_mB, px_10, px_modG, px_lit, px_mul, nI_add, px_u2_ne, px_u2_eq, nI_1, nI_clamp, px_lt0, px_nle, or_self, false_or, or_false, true_or, or_true, rc_b2, px_sxl, px_low_sx, px_low_u, px_nar0, px_nar1, px_z01, if_true, if_false]; exact h1
    · simp (disch := omega) only [↓reduceIte, ↓px_bs, ↓px_mB, px_10, px_modG, px_lit, px_mul, nI_add, px_u2_ne, px_u2_eq, nI_1, nI_clamp, px_lt0, px_nle, or_self, false_or, or_false, true_or, or_true, rc_b2, px_sxl, px_low_sx, px_low_u, px_nar0, px_nar1, px_z01, if_true, if_false]; rfl
    · simp (disch := omega) only [↓reduceIte, ↓px_bs, ↓px_mB, px_10, px_modG, px_lit, px_mul, nI_add, px_u2_ne, px_u2_eq, nI_1, nI_clamp, px_lt0, px_nle, or_self, false_or, or_false, true_or, or_true, rc_b2, px_sxl, px_low_sx, px_low_u, px_nar0, px_nar1, px_z01, if_true, if_false]; rfl
    · simp (disch := omega) only [↓reduceIte, ↓px_bs, ↓px_mB, px_10, px_modG, px_lit, px_mul, nI_add, px_u2_ne, px_u2_eq, nI_1, nI_clamp, px_lt0, px_nle, or_self, false_or, or_false, true_or, or_true, rc_b2, px_sxl, px_low_sx, px_low_u, px_nar0, px_nar1, px_z01, if_true, if_false]; rfl
    · simp (disch := omega) only [↓reduceIte, ↓px_bs, ↓px_mB, px_10, px_modG, px_lit, px_mul, nI_add, px_u2_ne, px_u2_eq, nI_1, nI_clamp, px_lt0, px_nle, or_self, false_or, or_false, true_or, or_true, rc_b2, px_sxl, px_low_sx, px_low_u, px_nar0, px_nar1, px_z01, if_true, if_false]; rfl
    · intro q; simp at q
  · intro o i h
    simp (disch := omega) only [px_u2_ne]
theorem pm_open_bad (x : Int32) (hx : x < 0 ∨ 4 ≤ x) : f_mdl_open (px_W b I V G R M p) (b + 316) x = some (0, px_W b I V G R (px_u2 M 316 0 1) p) := by
  unfold f_mdl_open b_mdl_open_14 b_mdl_open_15 rc_z1
  have e2 : ((1 : Int32) ≤ 0) = False := by decide
  by_cases h : x < 0
  · simp (disch := omega) only [↓reduceIte, ↓px_bs, ↓px_mB, px_10, px_modG, px_mul, nI_add, px_u2_ne, px_u2_eq, nI_1, nI_clamp, px_lt0, px_nle, or_self, false_or, or_false, true_or, or_true, rc_b2, px_sxl, px_low_sx, px_low_u, px_nar0, px_nar1, px_z01, if_true, if_false, h, e2]
  · simp (disch := omega) only [↓reduceIte, ↓px_bs, ↓px_mB, px_10, px_modG, px_mul, nI_add, px_u2_ne, px_u2_eq, nI_1, nI_clamp, px_lt0, px_nle, or_self, false_or, or_false, true_or, or_true, rc_b2, px_sxl, px_low_sx, px_low_u, px_nar0, px_nar1, px_z01, if_true, if_false, h, hx.resolve_left h, e2]
theorem pm_count (x : Int32) (s : Nat → px_S) (hs : ∀ c, c < 4 → px_cn M c (s c)) : (∀ k, x = nI k → k ≤ 8 → f_mdl_count (px_W b I V G R M p) (b + 316) x = some (if k = 0 then M 316 5 else if k = 1 then M 316 10 else if k = 2 then M 316 23 else if k = 3 then M 316 24 else if k = 4 then M 316 25 else if (s (k - 5)).2.2.2.2 = true then -1 else nI (s (k - 5)).2.2.2.1.length, px_W b I V G R (px_u2 M 316 0 0) p)) ∧ ((x < 0 ∨ 8 < x) → f_mdl_count (px_W b I V G R M p) (b + 316) x = some (0, px_W b I V G R (px_u2 M 316 0 1) p)) := by
  unfold f_mdl_count b_mdl_count_15 b_mdl_count_16 b_mdl_count_56 b_mdl_count_108
  have e2 : ((1 : Int32) ≤ 0) = False := by decide
  have e3 : ((0 : Int32) ≤ 0) = True := by decide
  refine ⟨fun k hx hk => ?_, fun h => ?_⟩
  · subst hx
    have e4 : ¬ 8 < k := by omega
    by_cases c4 : k ≤ 4
    · simp (disch := omega) only [↓reduceIte, ↓px_bs, ↓px_mB, px_10, px_modG, px_lit, px_mul, nI_add, px_u2_ne, px_u2_eq, nI_1, nI_clamp, px_lt0, px_nle, or_self, false_or, or_false, true_or, or_true, rc_b2, px_sxl, px_low_sx, px_low_u, px_nar0, px_nar1, px_z01, if_true, if_false, px_le, px_lt, px_eq, px_lt0, px_le0, px_0le, px_eq0, px_eq1, px_msub2, px_msub3, e3, e4, c4]
      rcases (by omega : k = 0 ∨ k = 1 ∨ k = 2 ∨ k = 3 ∨ k = 4) with rfl | rfl | rfl | rfl | rfl <;> rfl
    · obtain ⟨h1, h2, h3, h4, h5, h6, h7⟩ := hs (k - 5) (by omega)
      have e5 : nI k - nI 5 = nI (k - 5) := px_sub (by omega)
      simp (disch := omega) only [↓reduceIte, ↓px_bs, ↓px_mB, px_10, px_modG, px_lit, px_mul, nI_add, px_u2_ne, px_u2_eq, nI_1, nI_clamp, px_lt0, px_nle, or_self, false_or, or_false, true_or, or_true, rc_b2, px_sxl, px_low_sx, px_low_u, px_nar0, px_nar1, px_z01, if_true, if_false, px_le, px_lt, px_eq, px_lt0, px_le0, px_0le, px_eq0, px_eq1, px_msub2, px_msub3, e3, e4, c4, e5, h2, h5]
      unfold px_z
      by_cases q : (s (k - 5)).2.2.2.2 = true
      · simp [q, show ¬ k = 0 by omega, show ¬ k = 1 by omega, show ¬ k = 2 by omega, show ¬ k = 3 by omega, show ¬ k = 4 by omega]
      · simp [q, show ¬ k = 0 by omega, show ¬ k = 1 by omega, show ¬ k = 2 by omega, show ¬ k = 3 by omega, show ¬ k = 4 by omega]
  · by_cases h0 : x < 0
    · simp (disch := omega) only [↓reduceIte, ↓px_bs, ↓px_mB, px_10, px_modG, px_mul, nI_add, px_u2_ne, px_u2_eq, nI_1, nI_clamp, px_lt0, px_nle, or_self, false_or, or_false, true_or, or_true, rc_b2, px_sxl, px_low_sx, px_low_u, px_nar0, px_nar1, px_z01, if_true, if_false, h0, e2]
    · simp (disch := omega) only [↓reduceIte, ↓px_bs, ↓px_mB, px_10, px_modG, px_mul, nI_add, px_u2_ne, px_u2_eq, nI_1, nI_clamp, px_lt0, px_nle, or_self, false_or, or_false, true_or, or_true, rc_b2, px_sxl, px_low_sx, px_low_u, px_nar0, px_nar1, px_z01, if_true, if_false, h0, h.resolve_left h0, e2]
end PX
