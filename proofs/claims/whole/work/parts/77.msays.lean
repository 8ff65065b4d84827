/-! THE REFERENCE, 8: wholeRecord and says -/
/-- the fragments of a slot put together: none where it is not one whole record -/
def px_jn (B : List UInt8) : Nat → Nat → List UInt8 → Option (List UInt8)
  | 0, _, _ => none
  | f + 1, a, l =>
    if a + 4 ≤ B.length then
      if a + 4 + (rc_wd B a &&& 2147483647).toNatClampNeg ≤ B.length then
        if rc_wd B a < 0 then
          if a + 4 + (rc_wd B a &&& 2147483647).toNatClampNeg = B.length then some (l ++ (B.drop (a + 4)).take (rc_wd B a &&& 2147483647).toNatClampNeg) else none
        else px_jn B f (a + 4 + (rc_wd B a &&& 2147483647).toNatClampNeg) (l ++ (B.drop (a + 4)).take (rc_wd B a &&& 2147483647).toNatClampNeg)
      else none
    else none
/-- what a whole record says -/
def px_say (l : List UInt8) : Int32 :=
  if l.length < 20 then -1 else if rc_wd l 4 ≠ 1 then -1
  else if rc_wd l 8 = 0 then
    if l.length < 24 then -1 else if rc_wd l 12 ≠ 0 then -1 else if rc_wd l 16 ≠ 0 then -1
    else if rc_wd l 20 = 0 then 0
    else if (rc_wd l 20 = 1 ∨ rc_wd l 20 = 3 ∨ rc_wd l 20 = 4) ∧ l.length = 24 then rc_wd l 20
    else if rc_wd l 20 = 2 ∧ l.length = 32 ∧ rc_wd l 24 = 1 ∧ rc_wd l 28 = 2 then 2 else -1
  else if rc_wd l 8 = 1 then
    if rc_wd l 12 = 0 then (if l.length = 24 ∧ rc_wd l 16 = 2 ∧ rc_wd l 20 = 2 then 5 else -1)
    else if rc_wd l 12 = 1 then (if l.length = 20 ∧ (rc_wd l 16 = 1 ∨ rc_wd l 16 = 3) then 10 + rc_wd l 16 else -1)
    else -1
  else -1
def px_say2 (o : Option (List UInt8)) (number : Int32) : Int32 := match o with
  | none => -1
  | some l => if px_say l = -1 then -1 else if rc_wd l 0 = number then px_say l else -2
section PX
variable {b : Nat} {I : Nat → Nat → Int32} {V : Nat → Nat → Int64} {G : Nat → Nat → Nat} {R : Nat → List UInt8} {M : Nat → Nat → Int32} {p : px_P} {e : Nat}
theorem pm_whole_in (B : List UInt8) (K : rc_M → Nat → Int32 → Int32 → Int32 → Int32 → Int32 → Option (Int32 × rc_M)) (j a n : Nat) (x2 x6 : Int32) (l : List UInt8) (hj : j < 2 ^ 31) (hB : B.length ≤ 1600) (ha : a + n ≤ B.length) (hl : l.length + n ≤ 1600) (hag : px_agr (M 318) (1600 * (j % 64)) B) : ∀ (m i f : Nat), n = i + m → m < f → b_mdl_wholeRecord_64 K f (px_W b I V G R (va_up M 320 (px_blk (M 320) 0 (l ++ (B.drop a).take i))) p) (b + 316) (nI j) x2 (nI a) (nI l.length) x6 (nI n) (nI i) = K (px_W b I V G R (va_up M 320 (px_blk (M 320) 0 (l ++ (B.drop a).take n))) p) (b + 316) (nI j) x2 (nI (a + n)) (nI (l.length + n)) (px_z (decide (x6 < 0))) := by
  intro m
  induction m with
  | zero =>
    intro i f hi hf
    obtain ⟨f, rfl⟩ : ∃ g, f = g + 1 := ⟨f - 1, by omega⟩
    have hin : i = n := by omega
    subst hin
    rw [b_mdl_wholeRecord_64]
    unfold b_mdl_wholeRecord_123
    simp (disch := omega) only [↓reduceIte, ↓px_bs, ↓px_mB, px_10, px_modG, px_lit, px_mul, nI_add, px_u2_ne, px_u2_eq, nI_1, nI_clamp, px_lt0, px_nle, or_self, false_or, or_false, true_or, or_true, rc_b2, px_sxl, px_low_sx, px_low_u, px_nar0, px_nar1, px_z01, if_true, if_false, px_le, px_lt, px_eq, px_lt0, px_le0, px_0le, px_eq0, px_eq1, px_msub2, px_msub3, Nat.le_refl]
    by_cases q : x6 < 0
    · rw [if_neg (Int32.not_le.mpr q)]; simp [px_z, q]
    · rw [if_pos (Int32.not_lt.mp q)]; simp [px_z, q]
  | succ m ih =>
    intro i f hi hf
    obtain ⟨f, rfl⟩ : ∃ g, f = g + 1 := ⟨f - 1, by omega⟩
    have h3 := hag (a + i) (by omega)
    rw [← Nat.add_assoc] at h3
    have hc : ¬ n ≤ i := by omega
    have hlen : (l ++ (B.drop a).take i).length = l.length + i := by
      rw [List.length_append, List.length_take, List.length_drop]; omega
    have e1 : px_u2 (va_up M 320 (px_blk (M 320) 0 (l ++ (B.drop a).take i))) 320 (l.length + i) (rc_sx (B.getD (a + i) 0)) = va_up M 320 (px_blk (M 320) 0 (l ++ (B.drop a).take (i + 1))) := by
      rw [px_u2_va, px_va_va, px_va_eq]
      have := px_blk_snoc (M 320) 0 (l ++ (B.drop a).take i) (B.getD (a + i) 0)
      rw [hlen, Nat.zero_add, List.append_assoc, px_drop_take_snoc _ _ _ (by omega)] at this
      rw [this]
    rw [b_mdl_wholeRecord_64]
    simp (disch := omega) only [↓reduceIte, ↓px_bs, ↓px_mB, px_10, px_modG, px_lit, px_mul, nI_add, px_u2_ne, px_u2_eq, nI_1, nI_clamp, px_lt0, px_nle, or_self, false_or, or_false, true_or, or_true, rc_b2, px_sxl, px_low_sx, px_low_u, px_nar0, px_nar1, px_z01, if_true, if_false, px_le, px_lt, px_eq, px_lt0, px_le0, px_0le, px_eq0, px_eq1, px_msub2, px_msub3, hc, f_mdl_base, px_va_ne, h3, e1]
    exact ih (i + 1) f (by omega) (by omega)
theorem px_and31_lt (w : Int32) : (w &&& 2147483647).toNatClampNeg < 2 ^ 31 ∧ w &&& 2147483647 = nI (w &&& 2147483647).toNatClampNeg := by
  obtain ⟨n, hn, e⟩ := px_and31 w
  rw [e, nI_clamp hn]
  exact ⟨hn, rfl⟩
theorem pm_whole_go (B : List UInt8) (j : Nat) (hj : j < 2 ^ 31) (hB : B.length ≤ 1600) (hag : px_agr (M 318) (1600 * (j % 64)) B) : ∀ (m a f g : Nat) (l : List UInt8), B.length < a + m → a ≤ B.length → m < f → m < g → l.length ≤ a → ∃ l' : List UInt8, l'.length ≤ 1600 ∧ b_mdl_wholeRecord_18 f (px_W b I V G R (va_up M 320 (px_blk (M 320) 0 l)) p) (b + 316) (nI j) (nI B.length) (nI a) (nI l.length) 0 = some ((match px_jn B g a l with | none => -1 | some r => nI r.length), px_W b I V G R (va_up M 320 (px_blk (M 320) 0 l')) p) ∧ ∀ r, px_jn B g a l = some r → r = l' := by
  intro m
  induction m with
  | zero => intro a f g l h1 h2; omega
  | succ m ih =>
    intro a f g l h1 h2 hf hg hl
    obtain ⟨f, rfl⟩ : ∃ q, f = q + 1 := ⟨f - 1, by omega⟩
    obtain ⟨g, rfl⟩ : ∃ q, g = q + 1 := ⟨g - 1, by omega⟩
    rw [b_mdl_wholeRecord_18, px_jn]
    unfold b_mdl_wholeRecord_139
    by_cases c1 : a + 4 ≤ B.length
    · obtain ⟨hn, en⟩ := px_and31_lt (rc_wd B a)
      generalize (rc_wd B a &&& 2147483647).toNatClampNeg = n at hn en ⊢
      have h5 := pm_wordIn (b := b) (I := I) (V := V) (G := G) (R := R) (p := p) (M := va_up M 320 (px_blk (M 320) 0 l)) j a B hj hB c1 (by rw [px_va_ne _ _ _ _ (by decide)]; exact hag)
      have e6 : (nI n ≤ nI B.length - nI (a + 4)) = (n + (a + 4) ≤ B.length) := px_msub3 (by omega) (by omega) n hn
      generalize hF : (5000 : Nat) = fu
      simp (disch := omega) only [↓reduceIte, ↓px_bs, ↓px_mB, px_10, px_modG, px_lit, px_mul, nI_add, px_u2_ne, px_u2_eq, nI_1, nI_clamp, px_lt0, px_nle, or_self, false_or, or_false, true_or, or_true, rc_b2, px_sxl, px_low_sx, px_low_u, px_nar0, px_nar1, px_z01, if_true, if_false, px_le, px_lt, px_eq, px_lt0, px_le0, px_0le, px_eq0, px_eq1, px_msub2, px_msub3, c1, h5, en, e6]
      by_cases c2 : a + 4 + n ≤ B.length
      · have c2' : n + (a + 4) ≤ B.length := by omega
        have e3 := pm_whole_in (b := b) (I := I) (V := V) (G := G) (R := R) (p := p) (M := M) B (b_mdl_wholeRecord_18 f) j (a + 4) n (nI B.length) (rc_wd B a) l hj hB c2 (by omega) hag n 0 fu (by omega) (by omega)
        rw [List.take_zero, List.append_nil, nI_0] at e3
        simp only [c2, c2', if_true]
        rw [e3]
        have hlen : (l ++ (B.drop (a + 4)).take n).length = l.length + n := by
          rw [List.length_append, List.length_take, List.length_drop]; omega
        by_cases q : rc_wd B a < 0
        · simp only [q, decide_true, px_z, if_true]
          refine ⟨l ++ (B.drop (a + 4)).take n, by omega, ?_, ?_⟩
          · obtain ⟨f, rfl⟩ : ∃ q, f = q + 1 := ⟨f - 1, by omega⟩
            rw [b_mdl_wholeRecord_18]
            unfold b_mdl_wholeRecord_139
            have e8 : (nI (a + 4 + n) = nI B.length) = (a + 4 + n = B.length) := px_eq (by omega) (by omega)
            rw [if_neg (by decide)]
            simp only [e8]
            by_cases c3 : a + 4 + n = B.length
            · simp only [c3, if_true]
              rw [hlen]
            · simp only [c3, if_false]
          · intro r hr
            split at hr
            · exact (Option.some.inj hr).symm
            · cases hr
        · simp only [q, decide_false, px_z, if_false, Bool.false_eq_true]
          rw [← hlen]
          exact ih (a + 4 + n) f g _ (by omega) c2 (by omega) (by omega) (by omega)
      · have c2' : ¬ (n + (a + 4) ≤ B.length) := by omega
        simp only [c2, c2', if_false]
        exact ⟨l, by omega, rfl, by simp⟩
    · simp (disch := omega) only [↓reduceIte, ↓px_bs, ↓px_mB, px_10, px_modG, px_lit, px_mul, nI_add, px_u2_ne, px_u2_eq, nI_1, nI_clamp, px_lt0, px_nle, or_self, false_or, or_false, true_or, or_true, rc_b2, px_sxl, px_low_sx, px_low_u, px_nar0, px_nar1, px_z01, if_true, if_false, px_le, px_lt, px_eq, px_lt0, px_le0, px_0le, px_eq0, px_eq1, px_msub2, px_msub3, c1]
      exact ⟨l, by omega, rfl, by simp⟩
theorem pm_whole (B : List UInt8) (j : Nat) (hj : j < 2 ^ 31) (hB : B.length ≤ 1600) (hl : M 319 (j % 64) = nI B.length) (hag : px_agr (M 318) (1600 * (j % 64)) B) : ∃ l' : List UInt8, l'.length ≤ 1600 ∧ f_mdl_wholeRecord (px_W b I V G R M p) (b + 316) (nI j) = some ((match px_jn B 2000 0 [] with | none => -1 | some r => nI r.length), px_W b I V G R (va_up M 320 (px_blk (M 320) 0 l')) p) ∧ ∀ r, px_jn B 2000 0 [] = some r → r = l' := by
  unfold f_mdl_wholeRecord
  generalize hF : (5000 : Nat) = fu
  obtain ⟨l', h1, h2, h3⟩ := pm_whole_go (b := b) (I := I) (V := V) (G := G) (R := R) (p := p) (M := M) B j hj hB hag 1601 0 fu 2000 [] (by omega) (by omega) (by omega) (by omega) (by simp)
  rw [px_blk_nil, px_va_id, nI_0] at h2
  refine ⟨l', h1, ?_, h3⟩
  simp (disch := omega) only [↓reduceIte, ↓px_bs, ↓px_mB, px_10, px_modG, px_lit, px_mul, nI_add, px_u2_ne, px_u2_eq, nI_1, nI_clamp, px_lt0, px_nle, or_self, false_or, or_false, true_or, or_true, rc_b2, px_sxl, px_low_sx, px_low_u, px_nar0, px_nar1, px_z01, if_true, if_false, hl]
  exact h2
end PX
