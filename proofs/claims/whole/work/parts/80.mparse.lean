/-! THE REFERENCE, 11: reading a record -/
def px_pw (l : List UInt8) (st : Option Nat) : Int32 × Option Nat := match st with
  | none => (0, none)
  | some a => if a + 4 ≤ l.length then (rc_wd l a, some (a + 4)) else (0, none)
def px_zr (l : List UInt8) : Nat → Nat → Bool
  | 0, _ => true
  | n + 1, i => if l.getD i 0 = 0 then px_zr l n (i + 1) else false
def px_pb (most : Nat) (l : List UInt8) (st : Option Nat) : Int32 × Option Nat := match px_pw l st with
  | (_, none) => (0, none)
  | (n, some a) => if n < 0 ∨ nI most < n then (0, none) else if l.length < a + px_fi n.toNatClampNeg then (0, none) else if px_zr l (px_fi n.toNatClampNeg - n.toNatClampNeg) (a + n.toNatClampNeg) = true then (n, some (a + px_fi n.toNatClampNeg)) else (0, none)
def px_rd (M : Nat → Nat → Int32) (st : Option Nat) : Prop := match st with
  | none => M 316 28 = 0
  | some a => M 316 28 = 1 ∧ M 316 27 = nI a
def px_rx (M : Nat → Nat → Int32) (c : Nat) (l : List UInt8) : Prop := c < 4 ∧ M 316 26 = nI c ∧ M 325 c = nI l.length ∧ px_agr (M 324) (1200 * c) l ∧ l.length ≤ 1200
def px_le' (l : List UInt8) (st : Option Nat) : Prop := ∀ a, st = some a → a ≤ l.length
def px_f2 (M M' : Nat → Nat → Int32) : Prop := ∀ o i, ¬ (o = 316 ∧ 27 ≤ i ∧ i ≤ 28) → M' o i = M o i
def px_f4 (M M' : Nat → Nat → Int32) : Prop := ∀ o i, ¬ (o = 316 ∧ 27 ≤ i ∧ i ≤ 30) → M' o i = M o i
theorem px_f2.f4 {M M' : Nat → Nat → Int32} (h : px_f2 M M') : px_f4 M M' := fun o i q => h o i (by omega)
theorem px_f4.tr {M M1 M2 : Nat → Nat → Int32} (h1 : px_f4 M M1) (h2 : px_f4 M1 M2) : px_f4 M M2 := fun o i h => (h2 o i h).trans (h1 o i h)
theorem px_f2.tr {M M1 M2 : Nat → Nat → Int32} (h1 : px_f2 M M1) (h2 : px_f2 M1 M2) : px_f2 M M2 := fun o i h => (h2 o i h).trans (h1 o i h)
theorem px_f4.rx {M M' : Nat → Nat → Int32} {c : Nat} {l : List UInt8} (h : px_f4 M M') (hx : px_rx M c l) : px_rx M' c l := by
  obtain ⟨h1, h2, h3, h4, h5⟩ := hx
  exact ⟨h1, by rw [h _ _ (by omega)]; exact h2, by rw [h _ _ (by omega)]; exact h3, fun i hi => by rw [h _ _ (by omega)]; exact h4 i hi, h5⟩
theorem px_u2_id (M : Nat → Nat → Int32) (o k : Nat) (x : Int32) (h : M o k = x) : px_u2 M o k x = M := by
  funext o' k'; unfold px_u2; split
  · rename_i q; rw [q.1, q.2, h]
  · rfl
theorem px_pw_le {l : List UInt8} {st : Option Nat} : px_le' l (px_pw l st).2 := by
  intro a h
  unfold px_pw at h
  split at h
  · cases h
  · split at h
    · rename_i q; simp at h; omega
    · cases h
theorem px_pb_le {most : Nat} {l : List UInt8} {st : Option Nat} : px_le' l (px_pb most l st).2 := by
  intro a h
  unfold px_pb at h
  split at h
  · cases h
  · split at h
    · cases h
    · split at h
      · cases h
      · split at h
        · rename_i q _; simp at h; omega
        · cases h
section PX
variable {b : Nat} {I : Nat → Nat → Int32} {V : Nat → Nat → Int64} {G : Nat → Nat → Nat} {R : Nat → List UInt8} {M : Nat → Nat → Int32} {p : px_P} {e : Nat}
theorem pm_nextWord (c : Nat) (l : List UInt8) (st : Option Nat) (hx : px_rx M c l) (hs : px_rd M st) (hle : px_le' l st) : ∃ M', f_mdl_nextWord (px_W b I V G R M p) (b + 316) = some ((px_pw l st).1, px_W b I V G R M' p) ∧ px_rd M' (px_pw l st).2 ∧ px_f2 M M' := by
  obtain ⟨hc, x1, x2, x3, x4⟩ := hx
  unfold f_mdl_nextWord b_mdl_nextWord_20 b_mdl_nextWord_21
  cases st with
  | none =>
    have h28 : M 316 28 = 0 := hs
    simp (disch := omega) only [↓reduceIte, ↓px_bs, ↓px_mB, px_10, px_modG, px_lit, px_mul, nI_add, px_u2_ne, px_u2_eq, nI_1, nI_clamp, px_lt0, px_nle, or_self, false_or, or_false, true_or, or_true, rc_b2, px_sxl, px_low_sx, px_low_u, px_nar0, px_nar1, px_z01, if_true, if_false, h28]
    rw [px_u2_id _ _ _ _ h28]
    exact ⟨M, rfl, h28, fun _ _ _ => rfl⟩
  | some a =>
    obtain ⟨h28, h27⟩ := hs
    have ha := hle a rfl
    have e1 : (nI l.length - nI a < nI 4) = (l.length < 4 + a) := px_msub4 (by omega) (by omega) 4 (by decide)
    have e4 : ((4 : Int32) < 0) = False := by decide
    unfold f_mdl_hasBytes b_mdl_hasBytes_26 b_mdl_hasBytes_27 rc_z1
    simp only [e4, if_false]
    by_cases h4 : a + 4 ≤ l.length
    · have e2 : ¬ (l.length < 4 + a) := by omega
      have hw := pm_recordWord (b := b) (I := I) (V := V) (G := G) (R := R) (p := p) (M := px_u2 M 316 27 (nI (a + 4))) c a l hc (by rw [px_u2_ne _ _ _ _ _ _ (by omega)]; exact x1) x4 (by omega) (by rw [px_u2_sl _ _ _ _ _ (by decide)]; exact x3)
      have e5 : nI (a + 4) - nI 4 = nI a := by rw [px_sub (by omega)]; congr 1
      have e6 : px_u2 M 316 28 1 = M := px_u2_id _ _ _ _ h28
      simp (disch := omega) only [↓reduceIte, ↓px_bs, ↓px_mB, px_10, px_modG, px_lit, px_mul, nI_add, px_u2_ne, px_u2_eq, nI_1, nI_clamp, px_lt0, px_nle, or_self, false_or, or_false, true_or, or_true, rc_b2, px_sxl, px_low_sx, px_low_u, px_nar0, px_nar1, px_z01, if_true, if_false, h28, x1, x2, h27, e1, e2, e5, e6, ↓px_bnd hw]
      unfold px_pw
      simp only [h4, if_true]
      refine ⟨_, rfl, ⟨?_, ?_⟩, fun o i q => px_u2_ne _ _ _ _ _ _ (by omega)⟩
      · rw [px_u2_ne _ _ _ _ _ _ (by omega)]; exact h28
      · rw [px_u2_eq]
    · have e2 : (l.length < 4 + a) := by omega
      simp (disch := omega) only [↓reduceIte, ↓px_bs, ↓px_mB, px_10, px_modG, px_lit, px_mul, nI_add, px_u2_ne, px_u2_eq, nI_1, nI_clamp, px_lt0, px_nle, or_self, false_or, or_false, true_or, or_true, rc_b2, px_sxl, px_low_sx, px_low_u, px_nar0, px_nar1, px_z01, if_true, if_false, h28, x1, x2, h27, e1, e2]
      unfold px_pw
      simp only [h4, if_false]
      exact ⟨_, rfl, px_u2_eq _ _ _ _, fun o i q => px_u2_ne _ _ _ _ _ _ (by omega)⟩
theorem pm_nextLong (c : Nat) (l : List UInt8) (st : Option Nat) (hx : px_rx M c l) (hs : px_rd M st) (hle : px_le' l st) : ∃ M', f_mdl_nextLong (px_W b I V G R M p) (b + 316) = some (((px_pw l st).1.toInt64 <<< ((32 : Int32).toInt64 &&& 63)) ||| ((px_pw l (px_pw l st).2).1.toInt64 &&& 4294967295), px_W b I V G R M' p) ∧ px_rd M' (px_pw l (px_pw l st).2).2 ∧ px_f2 M M' := by
  obtain ⟨M1, a1, a2, a3⟩ := pm_nextWord (b := b) (I := I) (V := V) (G := G) (R := R) (p := p) c l st hx hs hle
  obtain ⟨M2, b1, b2, b3⟩ := pm_nextWord (b := b) (I := I) (V := V) (G := G) (R := R) (p := p) c l _ (a3.f4.rx hx) a2 px_pw_le
  unfold f_mdl_nextLong
  rw [px_rc_m, px_bs, px_bnd a1, px_rc_m, px_bs, px_bnd b1]
  exact ⟨M2, rfl, b2, a3.tr b3⟩
theorem pm_nb_loop (c : Nat) (l : List UInt8) (a n : Nat) (hx : px_rx M c l) (h28 : M 316 28 = 1) (h27 : M 316 27 = nI a) (hn : n ≤ 400) (ha : a + px_fi n ≤ l.length) : ∀ (m i f : Nat), px_fi n = i + m → m + 1 < f → b_mdl_nextBytes_65 f (px_W b I V G R M p) (b + 316) (nI n) (nI (px_fi n)) (nI i) = b_mdl_nextBytes_117 (px_W b I V G R (if px_zr l m (a + i) = true then M else px_u2 M 316 28 0) p) (b + 316) (nI n) (nI (px_fi n)) := by
  obtain ⟨hc, x1, x2, x3, x4⟩ := hx
  have hfi : px_fi n ≤ 403 := by unfold px_fi; omega
  have e6 : px_u2 M 316 28 1 = M := px_u2_id _ _ _ _ h28
  intro m
  induction m with
  | zero =>
    intro i f hi hf
    obtain ⟨f, rfl⟩ : ∃ q, f = q + 1 := ⟨f - 1, by omega⟩
    rw [b_mdl_nextBytes_65]
    have e1 : px_fi n ≤ i := by omega
    simp (disch := omega) only [↓reduceIte, ↓px_bs, ↓px_mB, px_10, px_modG, px_lit, px_mul, nI_add, px_u2_ne, px_u2_eq, nI_1, nI_clamp, px_lt0, px_nle, or_self, false_or, or_false, true_or, or_true, rc_b2, px_sxl, px_low_sx, px_low_u, px_nar0, px_nar1, px_z01, if_true, if_false, px_le, px_lt, px_eq, px_lt0, px_le0, px_0le, px_eq0, px_eq1, px_msub2, px_msub3, h28, e1, px_zr]
  | succ m ih =>
    intro i f hi hf
    obtain ⟨f, rfl⟩ : ∃ q, f = q + 1 := ⟨f - 1, by omega⟩
    rw [b_mdl_nextBytes_65]
    unfold b_mdl_nextBytes_108
    have e1 : ¬ px_fi n ≤ i := by omega
    have e2 := x3 (a + i) (by omega)
    rw [← Nat.add_assoc] at e2
    simp (disch := omega) only [↓reduceIte, ↓px_bs, ↓px_mB, px_10, px_modG, px_lit, px_mul, nI_add, px_u2_ne, px_u2_eq, nI_1, nI_clamp, px_lt0, px_nle, or_self, false_or, or_false, true_or, or_true, rc_b2, px_sxl, px_low_sx, px_low_u, px_nar0, px_nar1, px_z01, if_true, if_false, px_le, px_lt, px_eq, px_lt0, px_le0, px_0le, px_eq0, px_eq1, px_msub2, px_msub3, h28, h27, x1, e1, e2, e6]
    rw [px_zr]
    by_cases q : l.getD (a + i) 0 = 0
    · rw [if_pos (by rw [q]; rfl), ih (i + 1) f (by omega) (by omega), if_pos q, Nat.add_assoc]
    · rw [if_neg (fun z => q (px_sx0 _ z)), if_neg q]
      obtain ⟨f, rfl⟩ : ∃ q, f = q + 1 := ⟨f - 1, by omega⟩
      rw [b_mdl_nextBytes_65]
      simp (disch := omega) only [↓reduceIte, ↓px_bs, ↓px_mB, px_10, px_modG, px_lit, px_mul, nI_add, px_u2_ne, px_u2_eq, nI_1, nI_clamp, px_lt0, px_nle, or_self, false_or, or_false, true_or, or_true, rc_b2, px_sxl, px_low_sx, px_low_u, px_nar0, px_nar1, px_z01, if_true, if_false, Bool.false_eq_true]
theorem pm_nb_end (n fi : Int32) (a : Nat) (h28 : M 316 28 = 1) (h27 : M 316 27 = nI a) (fn : Nat) (hfi : fi = nI fn) : ∃ M', b_mdl_nextBytes_117 (px_W b I V G R M p) (b + 316) n fi = some (n, px_W b I V G R M' p) ∧ px_rd M' (some (a + fn)) ∧ px_f4 M M' ∧ M' 316 30 = n ∧ M' 316 29 = nI a := by
  subst hfi
  unfold b_mdl_nextBytes_117 b_mdl_nextBytes_151
  simp (disch := omega) only [↓reduceIte, ↓px_bs, ↓px_mB, px_10, px_modG, px_lit, px_mul, nI_add, px_u2_ne, px_u2_eq, nI_1, nI_clamp, px_lt0, px_nle, or_self, false_or, or_false, true_or, or_true, rc_b2, px_sxl, px_low_sx, px_low_u, px_nar0, px_nar1, px_z01, if_true, if_false, h28, h27]
  refine ⟨_, rfl, ⟨?_, ?_⟩, ?_, ?_, ?_⟩
  · simp (disch := omega) only [↓reduceIte, ↓px_bs, ↓px_mB, px_10, px_modG, px_lit, px_mul, nI_add, px_u2_ne, px_u2_eq, nI_1, nI_clamp, px_lt0, px_nle, or_self, false_or, or_false, true_or, or_true, rc_b2, px_sxl, px_low_sx, px_low_u, px_nar0, px_nar1, px_z01, if_true, if_false, h28]
  · simp (disch := omega) only [↓reduceIte, ↓px_bs, ↓px_mB, px_10, px_modG, px_lit, px_mul, nI_add, px_u2_ne, px_u2_eq, nI_1, nI_clamp, px_lt0, px_nle, or_self, false_or, or_false, true_or, or_true, rc_b2, px_sxl, px_low_sx, px_low_u, px_nar0, px_nar1, px_z01, if_true, if_false]
  · intro o i q
    simp (disch := omega) only [px_u2_ne]
  · simp (disch := omega) only [↓reduceIte, ↓px_bs, ↓px_mB, px_10, px_modG, px_lit, px_mul, nI_add, px_u2_ne, px_u2_eq, nI_1, nI_clamp, px_lt0, px_nle, or_self, false_or, or_false, true_or, or_true, rc_b2, px_sxl, px_low_sx, px_low_u, px_nar0, px_nar1, px_z01, if_true, if_false]
  · simp (disch := omega) only [↓reduceIte, ↓px_bs, ↓px_mB, px_10, px_modG, px_lit, px_mul, nI_add, px_u2_ne, px_u2_eq, nI_1, nI_clamp, px_lt0, px_nle, or_self, false_or, or_false, true_or, or_true, rc_b2, px_sxl, px_low_sx, px_low_u, px_nar0, px_nar1, px_z01, if_true, if_false]
theorem pm_nb_bad (n fi : Int32) (h28 : M 316 28 = 0) : ∃ M', b_mdl_nextBytes_117 (px_W b I V G R M p) (b + 316) n fi = some (n, px_W b I V G R M' p) ∧ px_rd M' none ∧ px_f4 M M' := by
  unfold b_mdl_nextBytes_117 b_mdl_nextBytes_151
  simp (disch := omega) only [↓reduceIte, ↓px_bs, ↓px_mB, px_10, px_modG, px_lit, px_mul, nI_add, px_u2_ne, px_u2_eq, nI_1, nI_clamp, px_lt0, px_nle, or_self, false_or, or_false, true_or, or_true, rc_b2, px_sxl, px_low_sx, px_low_u, px_nar0, px_nar1, px_z01, if_true, if_false, h28]
  refine ⟨_, rfl, ?_, ?_⟩
  · show _ = _
    simp (disch := omega) only [↓reduceIte, ↓px_bs, ↓px_mB, px_10, px_modG, px_lit, px_mul, nI_add, px_u2_ne, px_u2_eq, nI_1, nI_clamp, px_lt0, px_nle, or_self, false_or, or_false, true_or, or_true, rc_b2, px_sxl, px_low_sx, px_low_u, px_nar0, px_nar1, px_z01, if_true, if_false, h28]
  · intro o i q
    simp (disch := omega) only [px_u2_ne]
theorem pm_nb_bad2 (n : Int32) : ∃ v M', b_mdl_nextBytes_26 (px_W b I V G R M p) (b + 316) n (some (b + 316)) = some (v, px_W b I V G R M' p) ∧ px_rd M' none ∧ px_f4 M M' := by
  unfold b_mdl_nextBytes_26 b_mdl_nextBytes_27 b_mdl_nextBytes_58 b_mdl_nextBytes_59
  have h0 : ∀ f x y z, b_mdl_nextBytes_65 (f + 1) (px_W b I V G R (px_u2 (px_u2 M 316 28 0) 316 28 0) p) (b + 316) x y z = b_mdl_nextBytes_117 (px_W b I V G R (px_u2 (px_u2 M 316 28 0) 316 28 0) p) (b + 316) x y := by
    intro f x y z
    rw [b_mdl_nextBytes_65]
    simp (disch := omega) only [↓reduceIte, ↓px_bs, ↓px_mB, px_10, px_modG, px_lit, px_mul, nI_add, px_u2_ne, px_u2_eq, nI_1, nI_clamp, px_lt0, px_nle, or_self, false_or, or_false, true_or, or_true, rc_b2, px_sxl, px_low_sx, px_low_u, px_nar0, px_nar1, px_z01, if_true, if_false]
  have h1 := fun x y z => h0 4999 x y z
  obtain ⟨M', a1, a2, a3⟩ := pm_nb_bad (b := b) (I := I) (V := V) (G := G) (R := R) (p := p) (M := px_u2 (px_u2 M 316 28 0) 316 28 0) n ((n + 3) / 4 * 4) (px_u2_eq _ _ _ _)
  refine ⟨n, M', ?_, a2, fun o i q => ?_⟩
  · rw [px_pZ_m_28, if_pos (Or.inl rfl), px_bs, px_gI_m_28, px_bs, px_u2_eq, if_pos rfl, px_pZ_m_28, if_pos (Or.inl rfl), px_bs]
    rw [show (5000 : Nat) = 4999 + 1 from rfl, h0, a1]
  · rw [a3 o i q]
    simp (disch := omega) only [px_u2_ne]
theorem pm_nextBytes (most c : Nat) (l : List UInt8) (st : Option Nat) (hmost : most ≤ 400) (hx : px_rx M c l) (hs : px_rd M st) (hle : px_le' l st) : ∃ v M', f_mdl_nextBytes (px_W b I V G R M p) (b + 316) (nI most) = some (v, px_W b I V G R M' p) ∧ px_rd M' (px_pb most l st).2 ∧ px_f4 M M' ∧ ∀ a', (px_pb most l st).2 = some a' → v = (px_pb most l st).1 ∧ M' 316 30 = v ∧ M' 316 29 = nI (a' - px_fi v.toNatClampNeg) := by
  obtain ⟨M1, a1, a2, a3⟩ := pm_nextWord (b := b) (I := I) (V := V) (G := G) (R := R) (p := p) c l st hx hs hle
  have hx1 := a3.f4.rx hx
  unfold f_mdl_nextBytes
  rw [px_rc_m, px_bs, px_bnd a1]
  simp only
  have hlp := px_pw_le (l := l) (st := st)
  unfold px_pb
  generalize px_pw l st = r at *
  obtain ⟨n, s⟩ := r
  simp only at a1 a2 hlp ⊢
  obtain ⟨v0, M0, z1, z2, z3⟩ := pm_nb_bad2 (b := b) (I := I) (V := V) (G := G) (R := R) (p := p) (M := M1) n
  cases s with
  | none =>
    have h28 : M1 316 28 = 0 := a2
    rw [px_gI_m_28, px_bs, h28, if_pos rfl, z1]
    exact ⟨v0, M0, rfl, z2, a3.f4.tr z3, fun _ q => by cases q⟩
  | some a =>
    obtain ⟨h28, h27⟩ := a2
    have hal := hlp a rfl
    dsimp only
    rw [px_gI_m_28, px_bs, h28, if_neg (by decide)]
    by_cases c1 : n < 0
    · rw [if_pos c1, z1, if_pos (Or.inl c1)]
      exact ⟨v0, M0, rfl, z2, a3.f4.tr z3, fun _ q => by cases q⟩
    · rw [if_neg c1]
      by_cases c2 : nI most < n
      · rw [if_pos c2, z1, if_pos (Or.inr c2)]
        exact ⟨v0, M0, rfl, z2, a3.f4.tr z3, fun _ q => by cases q⟩
      · rw [if_neg c2, if_neg (show ¬ (n < 0 ∨ nI most < n) from fun q => q.elim c1 c2)]
        obtain ⟨k, hk, rfl⟩ := nI_of c1
        rw [px_lt (by omega) hk] at c2
        rw [nI_clamp hk]
        have hk400 : k ≤ 400 := by omega
        have hfi : px_fi k ≤ 403 ∧ k ≤ px_fi k := by unfold px_fi; omega
        obtain ⟨hc, x1, x2, x3, x4⟩ := id hx1
        have e6 : px_u2 M1 316 28 1 = M1 := px_u2_id _ _ _ _ h28
        have efi : (nI k + 3) / 4 * 4 = nI (px_fi k) := by
          rw [show (3 : Int32) = nI 3 from rfl, show (4 : Int32) = nI 4 from rfl, nI_add, px_div (by omega) (by decide), px_mul]; rfl
        have e1 : (nI l.length - nI a < nI (px_fi k)) = (l.length < px_fi k + a) := px_msub4 (by omega) (by omega) _ (by omega)
        have hb : f_mdl_hasBytes (px_W b I V G R M1 p) (b + 316) (nI (px_fi k)) = some (if l.length < px_fi k + a then 0 else 1, px_W b I V G R M1 p) := by
          unfold f_mdl_hasBytes b_mdl_hasBytes_26 b_mdl_hasBytes_27 rc_z1
          simp (disch := omega) only [↓reduceIte, ↓px_bs, ↓px_mB, px_10, px_modG, px_lit, px_mul, nI_add, px_u2_ne, px_u2_eq, nI_1, nI_clamp, px_lt0, px_nle, or_self, false_or, or_false, true_or, or_true, rc_b2, px_sxl, px_low_sx, px_low_u, px_nar0, px_nar1, px_z01, if_true, if_false, x1, x2, h27, e1]
          by_cases q : l.length < px_fi k + a
          · simp only [q, if_true]
          · simp only [q, if_false]
        unfold b_mdl_nextBytes_27
        rw [px_pZ_m_28, if_pos (Or.inr rfl), px_bs, e6, px_gI_m_28, px_bs, h28, if_neg (by decide), px_rc_m, px_bs, efi, px_bnd hb]
        simp only
        by_cases c3 : l.length < a + px_fi k
        · rw [if_pos (show l.length < px_fi k + a by omega), if_pos rfl, if_pos c3]
          unfold b_mdl_nextBytes_58 b_mdl_nextBytes_59
          have h0 : ∀ f x y z, b_mdl_nextBytes_65 (f + 1) (px_W b I V G R (px_u2 M1 316 28 0) p) (b + 316) x y z = b_mdl_nextBytes_117 (px_W b I V G R (px_u2 M1 316 28 0) p) (b + 316) x y := by
            intro f x y z
            rw [b_mdl_nextBytes_65]
            simp (disch := omega) only [↓reduceIte, ↓px_bs, ↓px_mB, px_10, px_modG, px_lit, px_mul, nI_add, px_u2_ne, px_u2_eq, nI_1, nI_clamp, px_lt0, px_nle, or_self, false_or, or_false, true_or, or_true, rc_b2, px_sxl, px_low_sx, px_low_u, px_nar0, px_nar1, px_z01, if_true, if_false]
          obtain ⟨M', d1, d2, d3⟩ := pm_nb_bad (b := b) (I := I) (V := V) (G := G) (R := R) (p := p) (M := px_u2 M1 316 28 0) (nI k) (nI (px_fi k)) (px_u2_eq _ _ _ _)
          refine ⟨nI k, M', ?_, d2, fun o i q => ?_, fun _ q => by cases q⟩
          · rw [px_pZ_m_28, if_pos (Or.inl rfl), px_bs, show (5000 : Nat) = 4999 + 1 from rfl, h0, d1]
          · rw [d3 o i q, px_u2_ne _ _ _ _ _ _ (by omega), a3.f4 o i q]
        · rw [if_neg (show ¬ l.length < px_fi k + a by omega), if_neg (by decide), if_neg c3]
          unfold b_mdl_nextBytes_59
          rw [px_pZ_m_28, if_pos (Or.inr rfl), px_bs, e6]
          rw [pm_nb_loop c l a k hx1 h28 h27 hk400 (by omega) (px_fi k - k) k 5000 (by omega) (by omega)]
          by_cases c4 : px_zr l (px_fi k - k) (a + k) = true
          · rw [if_pos c4, if_pos c4]
            obtain ⟨M', d1, d2, d3, d4, d5⟩ := pm_nb_end (b := b) (I := I) (V := V) (G := G) (R := R) (p := p) (M := M1) (nI k) (nI (px_fi k)) a h28 h27 (px_fi k) rfl
            refine ⟨nI k, M', d1, d2, a3.f4.tr d3, fun a' q => ⟨rfl, d4, ?_⟩⟩
            simp only [Option.some.injEq] at q
            rw [d5, nI_clamp hk, ← q]
            congr 1; omega
          · rw [if_neg c4, if_neg c4]
            obtain ⟨M', d1, d2, d3⟩ := pm_nb_bad (b := b) (I := I) (V := V) (G := G) (R := R) (p := p) (M := px_u2 M1 316 28 0) (nI k) (nI (px_fi k)) (px_u2_eq _ _ _ _)
            refine ⟨nI k, M', d1, d2, fun o i q => ?_, fun _ q => by cases q⟩
            rw [d3 o i q, px_u2_ne _ _ _ _ _ _ (by omega), a3.f4 o i q]
end PX
