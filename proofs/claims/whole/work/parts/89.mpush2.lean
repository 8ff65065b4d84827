/-! THE REFERENCE, 20: push -/
abbrev px_G : Type := px_S × px_Z
def px_st1 (g : px_G) (x : UInt8) : px_G × Nat :=
  if (px_tk g.1 x).2 = true then ((((px_tk g.1 x).1.1, 0, 0, [], false), (px_sv (px_tk g.1 x).1.2.2.2.1 g.2).1), if (px_sv (px_tk g.1 x).1.2.2.2.1 g.2).2 = true then 1 else 0)
  else (((px_tk g.1 x).1, g.2), 0)
def px_ps : List UInt8 → px_G → Nat → px_G × Nat
  | [], g, a => (g, a)
  | x :: xs, g, a => px_ps xs (px_st1 g x).1 (a + (px_st1 g x).2)
theorem px_tk_whole {s : px_S} {x : UInt8} (h : (px_tk s x).2 = true) : (px_tk s x).1.2.1 = 0 ∧ (px_tk s x).1.2.2.1 = 0 ∧ (px_tk s x).1.2.2.2.2 = false ∧ s.2.2.2.2 = false := by
  unfold px_tk at h ⊢
  split at h
  · simp at h
  · rename_i c1
    rw [if_neg c1]
    have c1' : s.2.2.2.2 = false := by simpa using c1
    split at h
    · rename_i c2
      rw [if_pos c2]
      split at h
      · rename_i c3; rw [if_pos c3]; exact ⟨rfl, rfl, rfl, c1'⟩
      · simp at h
    · rename_i c2
      rw [if_neg c2]
      split at h
      · simp at h
      · rename_i c3
        rw [if_neg c3]
        split at h
        · simp at h
        · rename_i c4
          rw [if_neg c4]
          split at h
          · rename_i c5; rw [if_pos c5]; exact ⟨rfl, rfl, rfl, c1'⟩
          · simp at h
theorem px_sv_n (l : List UInt8) (z : px_Z) : (px_sv l z).1.2.2.2.2 ≤ z.2.2.2.2 + 1 := by
  unfold px_sv
  split
  · simp
  · split
    · simp
    · split <;> simp
theorem px_st1_n (g : px_G) (x : UInt8) : (px_st1 g x).1.2.2.2.2.2 ≤ g.2.2.2.2.2 + 1 ∧ (px_st1 g x).2 ≤ 1 := by
  unfold px_st1
  split
  · refine ⟨px_sv_n _ _, ?_⟩
    simp only
    split <;> omega
  · exact ⟨by simp, by simp⟩
def px_fw (c : Nat) (M M' : Nat → Nat → Int32) : Prop := ∀ o i, ¬ (o = 318 ∨ o = 319 ∨ o = 336 ∨ o = 321 ∨ o = 322 ∨ (o = 316 ∧ (i = 5 ∨ i = 10 ∨ (23 ≤ i ∧ i ≤ 33))) ∨ ((o = 332 ∨ o = 333) ∧ 8 * c ≤ i ∧ i < 8 * c + 8) ∨ (o = 334 ∧ 3200 * c ≤ i ∧ i < 3200 * c + 3200) ∨ (o = 335 ∧ i = c) ∨ (o = 324 ∧ 1200 * c ≤ i ∧ i < 1200 * c + 1200) ∨ (325 ≤ o ∧ o ≤ 331 ∧ i = c)) → M' o i = M o i
def px_fx (c : Nat) (M M' : Nat → Nat → Int32) : Prop := ∀ o i, ¬ (o = 318 ∨ o = 319 ∨ o = 320 ∨ o = 336 ∨ o = 321 ∨ o = 322 ∨ (o = 316 ∧ (i = 0 ∨ i = 5 ∨ i = 10 ∨ (23 ≤ i ∧ i ≤ 33))) ∨ ((o = 332 ∨ o = 333) ∧ 8 * c ≤ i ∧ i < 8 * c + 8) ∨ (o = 334 ∧ 3200 * c ≤ i ∧ i < 3200 * c + 3200) ∨ (o = 335 ∧ i = c) ∨ (o = 324 ∧ 1200 * c ≤ i ∧ i < 1200 * c + 1200) ∨ (325 ≤ o ∧ o ≤ 331 ∧ i = c)) → M' o i = M o i
theorem px_fw.tr {c : Nat} {M M1 M2 : Nat → Nat → Int32} (h1 : px_fw c M M1) (h2 : px_fw c M1 M2) : px_fw c M M2 := fun o i h => (h2 o i h).trans (h1 o i h)
theorem px_fc.fw {c : Nat} {M M' : Nat → Nat → Int32} (h : px_fc c M M') : px_fw c M M' := fun o i q => h o i (by omega)
theorem px_fv.fw {c : Nat} {M M' : Nat → Nat → Int32} (h : px_fv c M M') : px_fw c M M' := fun o i q => h o i (by omega)
def px_MG (M : Nat → Nat → Int32) (V : Nat → Nat → Int64) (c : Nat) (g : px_G) : Prop := px_cn M c g.1 ∧ px_sok g.1 ∧ px_MZ M V c g.2
theorem px_MZ_fc {M M' : Nat → Nat → Int32} {V : Nat → Nat → Int64} {c c' : Nat} {z : px_Z} (h : px_MZ M V c z) (hf : px_fc c' M M') : px_MZ M' V c z := by
  obtain ⟨⟨r1, r2, r3⟩, ⟨m1, m2, m3⟩, ⟨z3, z4, z5⟩, z6, z7⟩ := h
  refine ⟨⟨by rw [hf _ _ (by omega)]; exact r1, r2, fun j hj => px_re_same (r3 j hj) (hf _ _ (by omega)) (hf _ _ (by omega)) (fun q _ => hf _ _ (by omega))⟩, ⟨by rw [hf _ _ (by omega)]; exact m1, m2, fun j hj => ?_⟩, ⟨by rw [hf _ _ (by omega)]; exact z3, by rw [hf _ _ (by omega)]; exact z4, by rw [hf _ _ (by omega)]; exact z5⟩, px_sl_same z6 (fun i => hf _ _ (by omega)) (fun i => hf _ _ (by omega)), by rw [hf _ _ (by omega)]; exact z7⟩
  obtain ⟨q1, q2, q3, q4⟩ := m3 j hj
  exact ⟨q1, by rw [hf _ _ (by omega)]; exact q2, fun i hi => by rw [hf _ _ (by omega)]; exact q3 i hi, q4⟩
section PX
variable {b : Nat} {I : Nat → Nat → Int32} {V : Nat → Nat → Int64} {G : Nat → Nat → Nat} {R : Nat → List UInt8} {M : Nat → Nat → Int32} {p : px_P} {e : Nat}
theorem pm_push_copy (B : List UInt8) (c j f0 n : Nat) (hj : j < 2 ^ 31) (hB : B.length ≤ 1600) (hf0 : f0 + n ≤ B.length) (hag : px_agr (M 318) (1600 * (j % 64)) B) : ∀ (m i f : Nat), n = i + m → m < f → b_mdl_push_88 f (px_W b I V G R (va_up M 320 (px_blk (M 320) 0 ((B.drop f0).take i))) p) (b + 316) (nI c) (nI j) (nI f0) (nI n) (nI i) = b_mdl_push_128 5000 (px_W b I V G R (va_up M 320 (px_blk (M 320) 0 ((B.drop f0).take n))) p) (b + 316) (nI c) (nI n) 0 0 := by
  intro m
  induction m with
  | zero =>
    intro i f hi hf
    obtain ⟨f, rfl⟩ : ∃ g, f = g + 1 := ⟨f - 1, by omega⟩
    have hin : i = n := by omega
    subst hin
    rw [b_mdl_push_88, if_pos (nI_le (Nat.le_refl _) (by omega))]
  | succ m ih =>
    intro i f hi hf
    obtain ⟨f, rfl⟩ : ∃ g, f = g + 1 := ⟨f - 1, by omega⟩
    have h3 := hag (f0 + i) (by omega)
    rw [← Nat.add_assoc] at h3
    have hc : ¬ n ≤ i := by omega
    have hlen : ((B.drop f0).take i).length = i := by
      rw [List.length_take, List.length_drop]; omega
    have e1 : px_u2 (va_up M 320 (px_blk (M 320) 0 ((B.drop f0).take i))) 320 i (rc_sx (B.getD (f0 + i) 0)) = va_up M 320 (px_blk (M 320) 0 ((B.drop f0).take (i + 1))) := by
      rw [px_u2_va, px_va_va, px_va_eq]
      have := px_blk_snoc (M 320) 0 ((B.drop f0).take i) (B.getD (f0 + i) 0)
      rw [hlen, Nat.zero_add, px_drop_take_snoc _ _ _ (by omega)] at this
      rw [this]
    rw [← ih (i + 1) f (by omega) (by omega), b_mdl_push_88]
    simp (disch := omega) only [↓reduceIte, ↓px_bs, ↓px_mB, px_10, px_modG, px_lit, px_mul, nI_add, px_u2_ne, px_u2_eq, nI_1, nI_clamp, px_lt0, px_nle, or_self, false_or, or_false, true_or, or_true, rc_b2, px_sxl, px_low_sx, px_low_u, px_nar0, px_nar1, px_z01, if_true, if_false, px_le, px_lt, px_eq, px_lt0, px_le0, px_0le, px_eq0, px_eq1, px_msub2, px_msub3, hc, f_mdl_base, px_va_ne, h3, e1]
theorem pm_push_go (c : Nat) (hc : c < 4) (P : List UInt8) (hP : P.length ≤ 1600) : ∀ (m i a f : Nat) (g : px_G) (M : Nat → Nat → Int32) (V : Nat → Nat → Int64), P.length = i + m → m < f → px_MG M V c g → px_agr (M 320) 0 P → g.2.2.2.2.2 + m < 2 ^ 30 → a + m < 2 ^ 30 → ∃ M' V', b_mdl_push_128 f (px_W b I V G R M p) (b + 316) (nI c) (nI P.length) (nI a) (nI i) = some (nI (px_ps (P.drop i) g a).2, px_W b I V' G R M' p) ∧ px_MG M' V' c (px_ps (P.drop i) g a).1 ∧ px_fw c M M' ∧ ∀ o, o ≠ 323 → V' o = V o := by
  intro m
  induction m with
  | zero =>
    intro i a f g M V hi hf hg hag hn ha
    obtain ⟨f, rfl⟩ : ∃ q, f = q + 1 := ⟨f - 1, by omega⟩
    rw [b_mdl_push_128, if_pos (nI_le (by omega) (by omega)), List.drop_eq_nil_of_le (by omega)]
    exact ⟨M, V, rfl, hg, fun _ _ _ => rfl, fun _ _ => rfl⟩
  | succ m ih =>
    intro i a f g M V hi hf hg hag hn ha
    obtain ⟨f, rfl⟩ : ∃ q, f = q + 1 := ⟨f - 1, by omega⟩
    have hd : P.drop i = P.getD i 0 :: P.drop (i + 1) := by
      rw [List.drop_eq_getElem_cons (by omega), List.getD_eq_getElem?_getD, List.getElem?_eq_getElem (by omega)]; rfl
    rw [hd, px_ps]
    obtain ⟨g1, g2, g3⟩ := id hg
    have hn1 := px_st1_n g (P.getD i 0)
    have e0 := hag i (by omega)
    rw [Nat.zero_add] at e0
    generalize P.getD i 0 = x at *
    rw [b_mdl_push_128, if_neg (nI_ge (by omega) (by omega)), px_gR_m_18, px_bs, px_aI_m_18 c hc, px_bs, g1.2.1]
    by_cases hbr : g.1.2.2.2.2 = true
    · have e1 : px_st1 g x = (g, 0) := by
        unfold px_st1 px_tk
        rw [hbr]
        simp
      rw [e1]
      dsimp only
      unfold b_mdl_push_193
      rw [hbr, if_neg (by decide), nI_1, Nat.add_zero]
      exact ih (i + 1) a f g M V (by omega) (by omega) hg hag (by omega) (by omega)
    · have hbr' : g.1.2.2.2.2 = false := by simpa using hbr
      obtain ⟨M1, a1, a2, a3⟩ := pm_take (b := b) (I := I) (V := V) (G := G) (R := R) (p := p) (M := M) c g.1 x hc g2 g1 hbr'
      have hz1 := px_MZ_fc (c' := c) g3 a3
      have hok1 := px_sok_tk g2 x
      rw [hbr', if_pos (by decide), px_gR_m_6, px_bs, px_aI_m_6 i (by omega), px_bs, e0, px_u_sx, px_rc_m, px_bs, px_bnd a1]
      dsimp only
      unfold b_mdl_push_193 b_mdl_push_184 b_mdl_push_193
      by_cases hw : (px_tk g.1 x).2 = true
      · obtain ⟨w1, w2, w3, w4⟩ := px_tk_whole hw
        have fz : ∀ o j, ¬ (o = 316 ∧ j = 26) → px_u2 M1 316 26 (nI c) o j = M1 o j := fun o j q => px_u2_ne _ _ _ _ _ _ q
        have hx : px_rx (px_u2 M1 316 26 (nI c)) c (px_tk g.1 x).1.2.2.2.1 := ⟨hc, px_u2_eq _ _ _ _, by rw [fz _ _ (by omega)]; exact a2.2.2.2.2.1, fun j hj => by rw [fz _ _ (by omega)]; exact a2.2.2.2.2.2.1 j hj, hok1.2.1⟩
        have hz2 : px_MZ (px_u2 M1 316 26 (nI c)) V c g.2 := by
          obtain ⟨⟨r1, r2, r3⟩, ⟨m1, m2, m3⟩, ⟨z3, z4, z5⟩, z6, z7⟩ := hz1
          refine ⟨⟨by rw [fz _ _ (by omega)]; exact r1, r2, fun j hj => px_re_same (r3 j hj) (fz _ _ (by omega)) (fz _ _ (by omega)) (fun q _ => fz _ _ (by omega))⟩, ⟨by rw [fz _ _ (by omega)]; exact m1, m2, fun j hj => ?_⟩, ⟨by rw [fz _ _ (by omega)]; exact z3, by rw [fz _ _ (by omega)]; exact z4, by rw [fz _ _ (by omega)]; exact z5⟩, px_sl_same z6 (fun i => fz _ _ (by omega)) (fun i => fz _ _ (by omega)), by rw [fz _ _ (by omega)]; exact z7⟩
          obtain ⟨q1, q2, q3, q4⟩ := m3 j hj
          exact ⟨q1, by rw [fz _ _ (by omega)]; exact q2, fun i hi => by rw [fz _ _ (by omega)]; exact q3 i hi, q4⟩
        obtain ⟨M2, V2, b1, b2, b3, b4⟩ := pm_serve (b := b) (I := I) (V := V) (G := G) (R := R) (p := p) (M := px_u2 M1 316 26 (nI c)) c (px_tk g.1 x).1.2.2.2.1 g.2 hz2 hx (by omega)
        have e1 : px_st1 g x = ((((px_tk g.1 x).1.1, 0, 0, [], false), (px_sv (px_tk g.1 x).1.2.2.2.1 g.2).1), if (px_sv (px_tk g.1 x).1.2.2.2.1 g.2).2 = true then 1 else 0) := by
          unfold px_st1; rw [if_pos hw]
        have f3 : px_fc c M2 (px_u2 M2 325 c 0) := fun o j q => px_u2_ne _ _ _ _ _ _ (by omega)
        have hcn3 : px_cn (px_u2 M2 325 c 0) c ((px_tk g.1 x).1.1, 0, 0, [], false) := by
          obtain ⟨h1, h2, h3, h4, h5, h6, h7⟩ := a2
          rw [w1] at h3 h4
          rw [w3] at h2
          have bb : ∀ o, 326 ≤ o → o ≤ 331 → px_u2 M2 325 c 0 o c = M1 o c := fun o q1 q2 => by rw [px_u2_ne _ _ _ _ _ _ (by omega), b3 _ _ (by omega), fz _ _ (by omega)]
          refine ⟨by rw [bb _ (by decide) (by decide)]; exact h1, by rw [bb _ (by decide) (by decide)]; exact h2, by rw [bb _ (by decide) (by decide)]; exact h3, by rw [bb _ (by decide) (by decide)]; exact h4, px_u2_eq _ _ _ _, px_agr_nil _ _, fun q => by simp at q⟩
        have hg3 : px_MG (px_u2 M2 325 c 0) V2 c (px_st1 g x).1 := by
          rw [e1]
          exact ⟨hcn3, ⟨by simp, by simp, by simp, by simp, by simp, by simp⟩, px_MZ_fc (c' := c) b2 f3⟩
        have hag3 : px_agr (px_u2 M2 325 c 0 320) 0 P := by
          intro q hq
          rw [px_u2_ne _ _ _ _ _ _ (by omega), b3 _ _ (by omega), fz _ _ (by omega), a3 _ _ (by omega)]
          exact hag q hq
        obtain ⟨M4, V4, d1, d2, d3, d4⟩ := ih (i + 1) (a + (px_st1 g x).2) f (px_st1 g x).1 (px_u2 M2 325 c 0) V2 (by omega) (by omega) hg3 hag3 (by omega) (by omega)
        refine ⟨M4, V4, ?_, d2, a3.fw.tr ((show px_fw c M1 (px_u2 M1 316 26 (nI c)) from fun o j q => fz o j (by omega)).tr (b3.fw.tr (f3.fw.tr d3))), fun o ho => by rw [d4 o ho, b4 o ho]⟩
        rw [← d1, hw, show px_z true = 1 from rfl, if_neg (by decide), px_pI_m_26, px_bs, px_rc_m, px_bs, px_bnd b1]
        dsimp only
        rw [e1]
        dsimp only
        cases hs : (px_sv (px_tk g.1 x).1.2.2.2.1 g.2).2 with
        | true =>
          rw [show px_z true = 1 from rfl, if_neg (by decide), px_gR_m_12, px_bs, px_sI_m_12 c _ hc, px_bs, if_pos rfl, nI_1, nI_1]
        | false =>
          rw [show px_z false = 0 from rfl, if_pos rfl, px_gR_m_12, px_bs, px_sI_m_12 c _ hc, px_bs, if_neg (by simp), nI_1]
          rfl
      · have hw' : (px_tk g.1 x).2 = false := by simpa using hw
        have e1 : px_st1 g x = (((px_tk g.1 x).1, g.2), 0) := by
          unfold px_st1; rw [if_neg hw]
        rw [e1, hw', show px_z false = 0 from rfl, if_pos rfl]
        dsimp only
        rw [Nat.add_zero, nI_1]
        obtain ⟨M4, V4, d1, d2, d3, d4⟩ := ih (i + 1) a f ((px_tk g.1 x).1, g.2) M1 V (by omega) (by omega) ⟨a2, hok1, hz1⟩ (fun q hq => by rw [a3 _ _ (by omega)]; exact hag q hq) (by dsimp only; omega) (by omega)
        exact ⟨M4, V4, d1, d2, a3.fw.tr d3, d4⟩
theorem pm_push (c j f0 n : Nat) (g : px_G) (hc : c < 4) (hj : j < 2 ^ 31) (hg : px_MG M V c g) (hn : g.2.2.2.2.2 + 1600 < 2 ^ 30) (hi : px_is g.2.2.2.2.2 (nI j)) (hf : f0 + n ≤ (g.2.2.2.2.1 (j % 64)).length) : ∃ M' V', f_mdl_push (px_W b I V G R M p) (b + 316) (nI c) (nI j) (nI f0) (nI n) = some (nI (px_ps (((g.2.2.2.2.1 (j % 64)).drop f0).take n) g 0).2, px_W b I V' G R M' p) ∧ px_MG M' V' c (px_ps (((g.2.2.2.2.1 (j % 64)).drop f0).take n) g 0).1 ∧ px_fx c M M' ∧ M' 316 0 = 0 ∧ ∀ o, o ≠ 323 → V' o = V o := by
  obtain ⟨g1, g2, g3⟩ := id hg
  obtain ⟨a1, -⟩ := pm_isSlot (b := b) (I := I) (V := V) (G := G) (R := R) (p := p) (M := M) g.2.2.2.2.2 (nI j) (by omega) g3.2.2.2.2
  obtain ⟨s1, s2, s3⟩ := g3.2.2.2.1 (j % 64) (by omega)
  generalize hBB : g.2.2.2.2.1 (j % 64) = B at *
  have hP : ((B.drop f0).take n).length = n := by rw [List.length_take, List.length_drop]; omega
  have f0' : ∀ o i, ¬ (o = 316 ∧ i = 0) → px_u2 M 316 0 0 o i = M o i := fun o i q => px_u2_ne _ _ _ _ _ _ q
  have f1' : ∀ o i, ¬ ((o = 316 ∧ i = 0) ∨ o = 320) → va_up (px_u2 M 316 0 0) 320 (px_blk (px_u2 M 316 0 0 320) 0 ((B.drop f0).take n)) o i = M o i := fun o i q => by rw [px_va_ne _ _ _ _ (by omega), f0' _ _ (by omega)]
  have hag : px_agr (va_up (px_u2 M 316 0 0) 320 (px_blk (px_u2 M 316 0 0 320) 0 ((B.drop f0).take n)) 320) 0 ((B.drop f0).take n) := by rw [px_va_eq]; exact px_blk_agr _ _ _
  have h00 : va_up (px_u2 M 316 0 0) 320 (px_blk (px_u2 M 316 0 0 320) 0 ((B.drop f0).take n)) 316 0 = 0 := by rw [px_va_ne _ _ _ _ (by decide), px_u2_eq]
  have e1 := pm_push_copy (b := b) (I := I) (V := V) (G := G) (R := R) (p := p) (M := px_u2 M 316 0 0) B c j f0 n hj s1 hf (by rw [px_u2_sl _ _ _ _ _ (by decide)]; exact s3) n 0 5000 (by omega) (by omega)
  rw [List.take_zero, px_blk_nil, px_va_id, nI_0] at e1
  generalize va_up (px_u2 M 316 0 0) 320 (px_blk (px_u2 M 316 0 0 320) 0 ((B.drop f0).take n)) = M1 at *
  have hg1 : px_MG M1 V c g := by
    obtain ⟨⟨r1, r2, r3⟩, ⟨m1, m2, m3⟩, ⟨z3, z4, z5⟩, z6, z7⟩ := g3
    obtain ⟨h1, h2, h3, h4, h5, h6, h7⟩ := g1
    refine ⟨⟨by rw [f1' _ _ (by omega)]; exact h1, by rw [f1' _ _ (by omega)]; exact h2, by rw [f1' _ _ (by omega)]; exact h3, by rw [f1' _ _ (by omega)]; exact h4, by rw [f1' _ _ (by omega)]; exact h5, fun i hi => by rw [f1' _ _ (by omega)]; exact h6 i hi, fun q1 q2 => by rw [f1' _ _ (by omega), f1' _ _ (by omega)]; exact h7 q1 q2⟩, g2, ⟨by rw [f1' _ _ (by omega)]; exact r1, r2, fun j hj => px_re_same (r3 j hj) (f1' _ _ (by omega)) (f1' _ _ (by omega)) (fun q _ => f1' _ _ (by omega))⟩, ⟨by rw [f1' _ _ (by omega)]; exact m1, m2, fun j hj => ?_⟩, ⟨by rw [f1' _ _ (by omega)]; exact z3, by rw [f1' _ _ (by omega)]; exact z4, by rw [f1' _ _ (by omega)]; exact z5⟩, px_sl_same z6 (fun i => f1' _ _ (by omega)) (fun i => f1' _ _ (by omega)), by rw [f1' _ _ (by omega)]; exact z7⟩
    obtain ⟨q1, q2, q3, q4⟩ := m3 j hj
    exact ⟨q1, by rw [f1' _ _ (by omega)]; exact q2, fun i hi => by rw [f1' _ _ (by omega)]; exact q3 i hi, q4⟩
  obtain ⟨M2, V2, b1, b2, b3, b4⟩ := pm_push_go (b := b) (I := I) (G := G) (R := R) (p := p) c hc ((B.drop f0).take n) (by omega) n 0 0 5000 g M1 V (by omega) (by omega) hg1 hag (by omega) (by omega)
  rw [hP, List.drop_zero, nI_0] at b1
  rw [List.drop_zero] at b2
  refine ⟨M2, V2, ?_, b2, fun o i q => (b3 o i (by omega)).trans (f1' o i (by omega)), by rw [b3 _ _ (by omega)]; exact h00, b4⟩
  rw [← b1, ← e1]
  unfold f_mdl_push b_mdl_push_59 b_mdl_push_60 b_mdl_push_73
  have e2 : (nI B.length - nI f0 < nI n) = (B.length < n + f0) := px_msub4 (by omega) (by omega) n (by omega)
  rw [if_neg (nI_pos (by omega)), if_neg (show ¬ (4 : Int32) ≤ nI c from nI_ge hc (by decide)), px_rc_m, px_bs, px_bnd (a1 hi)]
  dsimp only
  rw [if_neg (by decide), if_neg (nI_pos (by omega)), if_neg (nI_pos (by omega)), px_gR_m_4, px_bs, show (64 : Int32) = nI 64 from rfl, px_modG hj (by decide), px_aI_m_4 _ (by omega), px_bs, s2, if_neg (nI_nlt (by omega) (by omega)), px_bs, px_aI_m_4 _ (by omega), px_bs, s2, if_neg (by rw [e2]; omega), if_neg (by decide), px_pI_m_0, px_bs, px_gI_m_0, px_bs, px_u2_eq, if_pos (by decide)]
end PX
