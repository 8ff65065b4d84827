/-! THE REFERENCE, 12: what it writes; what a call takes -/
def px_mo (M : Nat → Nat → Int32) (l : List UInt8) : Nat → Nat → Int32 := px_u2 (va_up M 336 (px_blk (M 336) 0 l)) 316 32 (nI l.length)
def px_ot (M : Nat → Nat → Int32) (l : List UInt8) : Prop := M 316 32 = nI l.length ∧ px_agr (M 336) 0 l
def px_fo (M M' : Nat → Nat → Int32) : Prop := ∀ o i, ¬ (o = 336 ∨ (o = 316 ∧ i = 32)) → M' o i = M o i
theorem px_fo.tr {M M1 M2 : Nat → Nat → Int32} (h1 : px_fo M M1) (h2 : px_fo M1 M2) : px_fo M M2 := fun o i h => (h2 o i h).trans (h1 o i h)
theorem px_fo.rf (M : Nat → Nat → Int32) : px_fo M M := fun _ _ _ => rfl
theorem px_mo_id {M : Nat → Nat → Int32} {l : List UInt8} (h : px_ot M l) : px_mo M l = M := by
  unfold px_mo
  have e : px_blk (M 336) 0 l = M 336 := by
    funext i
    unfold px_blk
    split
    · rename_i q
      have := h.2 i (by omega)
      rw [Nat.zero_add] at this
      rw [this, Nat.sub_zero]
    · rfl
  rw [e, px_va_id, px_u2_id _ _ _ _ h.1]
theorem px_mo_ot (M : Nat → Nat → Int32) (l : List UInt8) : px_ot (px_mo M l) l := by
  refine ⟨by unfold px_mo; rw [px_u2_eq], ?_⟩
  unfold px_mo
  rw [px_u2_sl _ _ _ _ _ (by decide), px_va_eq]
  exact px_blk_agr _ _ _
theorem px_mo_fo (M : Nat → Nat → Int32) (l : List UInt8) : px_fo M (px_mo M l) := by
  intro o i h
  unfold px_mo
  rw [px_u2_ne _ _ _ _ _ _ (by omega), px_va_ne _ _ _ _ (by omega)]
theorem px_mo_snoc (M : Nat → Nat → Int32) (l : List UInt8) (x : UInt8) : px_u2 (px_u2 (px_mo M l) 336 l.length (rc_sx x)) 316 32 (nI (l.length + 1)) = px_mo M (l ++ [x]) := by
  have e := px_blk_snoc (M 336) 0 l x
  rw [Nat.zero_add] at e
  unfold px_mo
  rw [← e, List.length_append, List.length_singleton]
  funext o i
  by_cases h : o = 336
  · subst h
    simp [px_u2, va_up, upd]
  · by_cases h2 : o = 316 ∧ i = 32
    · rw [h2.1, h2.2, px_u2_eq, px_u2_eq]
    · rw [px_u2_ne _ _ _ _ _ _ h2, px_u2_ne _ _ _ _ _ _ (by omega), px_u2_ne _ _ _ _ _ _ h2, px_u2_ne _ _ _ _ _ _ h2, px_va_ne _ _ _ _ h, px_va_ne _ _ _ _ h]
section PX
variable {b : Nat} {I : Nat → Nat → Int32} {V : Nat → Nat → Int64} {G : Nat → Nat → Nat} {R : Nat → List UInt8} {M : Nat → Nat → Int32} {p : px_P} {e : Nat}
theorem pm_out_step (f : Nat) (x k : Int32) (l : List UInt8) (hk : ¬ k < 0) (hl : l.length < 400) : b_mdl_outWord_3 (f + 1) (px_W b I V G R (px_mo M l) p) (b + 316) x k = b_mdl_outWord_3 f (px_W b I V G R (px_mo M (l ++ [rc_lowb (x >>> (k &&& 31))])) p) (b + 316) x (k - 8) := by
  have h32 : px_mo M l 316 32 = nI l.length := (px_mo_ot M l).1
  rw [b_mdl_outWord_3, if_neg hk]
  simp (disch := omega) only [↓reduceIte, ↓px_bs, ↓px_mB, px_10, px_modG, px_mul, nI_add, px_u2_ne, px_u2_eq, nI_1, nI_clamp, px_lt0, px_nle, or_self, false_or, or_false, true_or, or_true, rc_b2, px_sxl, px_low_sx, px_low_u, px_nar0, px_nar1, px_z01, if_true, if_false, h32, px_mo_snoc]
theorem pm_outWord (x : Int32) (l : List UInt8) (h : px_ot M l) (hl : l.length + 4 ≤ 400) : ∃ M', f_mdl_outWord (px_W b I V G R M p) (b + 316) x = some (px_W b I V G R M' p) ∧ px_ot M' (l ++ rc_bw x) ∧ px_fo M M' := by
  refine ⟨px_mo M (l ++ rc_bw x), ?_, px_mo_ot _ _, px_mo_fo _ _⟩
  have h0 : ∀ f : Nat, b_mdl_outWord_3 (f + 5) (px_W b I V G R (px_mo M l) p) (b + 316) x 24 = some (px_W b I V G R (px_mo M (l ++ rc_bw x)) p) := by
    intro f
    rw [pm_out_step _ _ _ _ (by decide) (by omega), pm_out_step _ _ _ _ (by decide) (by simp; omega), pm_out_step _ _ _ _ (by decide) (by simp; omega), pm_out_step _ _ _ _ (by decide) (by simp; omega), b_mdl_outWord_3, if_pos (by decide)]
    simp only [show (24 : Int32) - 8 = 16 by decide, show (16 : Int32) - 8 = 8 by decide, show (8 : Int32) - 8 = 0 by decide, px_sh24, px_sh16, px_sh8, px_sh0, List.append_assoc]
    rfl
  have := h0 4995
  rw [px_mo_id h] at this
  exact this
theorem pm_outLong (v : Int64) (l : List UInt8) (h : px_ot M l) (hl : l.length + 8 ≤ 400) : ∃ M', f_mdl_outLong (px_W b I V G R M p) (b + 316) v = some (px_W b I V G R M' p) ∧ px_ot M' (l ++ px_bl v) ∧ px_fo M M' := by
  obtain ⟨M1, a1, a2, a3⟩ := pm_outWord (b := b) (I := I) (V := V) (G := G) (R := R) (p := p) ((v >>> ((32 : Int32).toInt64 &&& 63)).toInt32) l h (by omega)
  obtain ⟨M2, b1, b2, b3⟩ := pm_outWord (b := b) (I := I) (V := V) (G := G) (R := R) (p := p) v.toInt32 _ a2 (by rw [List.length_append, px_bw_len]; omega)
  refine ⟨M2, ?_, by unfold px_bl; rw [← List.append_assoc]; exact b2, a3.tr b3⟩
  unfold f_mdl_outLong
  rw [px_rc_m, px_bs, px_bnd a1, px_rc_m, px_bs, px_bnd b1]
def px_hd (number v : Int32) : List UInt8 := rc_bw number ++ rc_bw 1 ++ (if v = 5 then rc_bw 1 ++ rc_bw 0 ++ rc_bw 2 ++ rc_bw 2 else if v ≤ 10 then rc_bw 0 ++ rc_bw 0 ++ rc_bw 0 ++ rc_bw v else rc_bw 1 ++ rc_bw 1 ++ rc_bw (v - 10)) ++ (if v = 2 then rc_bw 1 ++ rc_bw 2 else [])
theorem pm_accept (number v : Int32) (h : px_ot M []) (hv5 : v ≠ 5) (hv : v ≤ 10) : ∃ M', f_mdl_accept (px_W b I V G R M p) (b + 316) number v = some (1, px_W b I V G R M' p) ∧ px_ot M' (px_hd number v) ∧ px_fo M M' := by
  obtain ⟨M1, a1, a2, a3⟩ := pm_outWord (b := b) (I := I) (V := V) (G := G) (R := R) (p := p) number _ h (by simp)
  obtain ⟨M2, b1, b2, b3⟩ := pm_outWord (b := b) (I := I) (V := V) (G := G) (R := R) (p := p) 1 _ a2 (by simp [px_bw_len])
  obtain ⟨M3, c1, c2, c3⟩ := pm_outWord (b := b) (I := I) (V := V) (G := G) (R := R) (p := p) 0 _ b2 (by simp [px_bw_len])
  obtain ⟨M4, d1, d2, d3⟩ := pm_outWord (b := b) (I := I) (V := V) (G := G) (R := R) (p := p) 0 _ c2 (by simp [px_bw_len])
  obtain ⟨M5, e1, e2, e3⟩ := pm_outWord (b := b) (I := I) (V := V) (G := G) (R := R) (p := p) 0 _ d2 (by simp [px_bw_len])
  obtain ⟨M6, f1, f2, f3⟩ := pm_outWord (b := b) (I := I) (V := V) (G := G) (R := R) (p := p) v _ e2 (by simp [px_bw_len])
  unfold f_mdl_accept b_mdl_accept_45 rc_z1
  rw [px_rc_m, px_bs, px_bnd a1, px_rc_m, px_bs, px_bnd b1, px_rc_m, px_bs, px_bnd c1, px_rc_m, px_bs, px_bnd d1, px_rc_m, px_bs, px_bnd e1, px_rc_m, px_bs, px_bnd f1]
  have hf := a3.tr (b3.tr (c3.tr (d3.tr (e3.tr f3))))
  by_cases q : v = 2
  · obtain ⟨M7, g1, g2, g3⟩ := pm_outWord (b := b) (I := I) (V := V) (G := G) (R := R) (p := p) 1 _ f2 (by simp [px_bw_len])
    obtain ⟨M8, h1, h2, h3⟩ := pm_outWord (b := b) (I := I) (V := V) (G := G) (R := R) (p := p) 2 _ g2 (by simp [px_bw_len])
    rw [if_pos q, px_rc_m, px_bs, px_bnd g1, px_rc_m, px_bs, px_bnd h1, if_pos (Or.inr rfl)]
    refine ⟨M8, rfl, ?_, hf.tr (g3.tr h3)⟩
    unfold px_hd
    rw [if_neg hv5, if_pos hv, if_pos q]
    simp only [List.append_assoc, List.nil_append] at h2 ⊢
    exact h2
  · rw [if_neg q, if_pos (Or.inr rfl)]
    refine ⟨M6, rfl, ?_, hf⟩
    unfold px_hd
    rw [if_neg hv5, if_pos hv, if_neg q]
    simp only [List.append_assoc, List.nil_append, List.append_nil] at f2 ⊢
    exact f2
theorem pm_refuse (number x c v : Int32) (h : px_ot M []) (hv : (x = 0 ∧ c = 2 ∧ v = 5) ∨ (x = 1 ∧ c = 1 ∧ v = 11) ∨ (x = 1 ∧ c = 3 ∧ v = 13)) : ∃ M', f_mdl_refuse (px_W b I V G R M p) (b + 316) number x c = some (1, px_W b I V G R M' p) ∧ px_ot M' (px_hd number v) ∧ px_fo M M' := by
  obtain ⟨M1, a1, a2, a3⟩ := pm_outWord (b := b) (I := I) (V := V) (G := G) (R := R) (p := p) number _ h (by simp)
  obtain ⟨M2, b1, b2, b3⟩ := pm_outWord (b := b) (I := I) (V := V) (G := G) (R := R) (p := p) 1 _ a2 (by simp [px_bw_len])
  obtain ⟨M3, c1, c2, c3⟩ := pm_outWord (b := b) (I := I) (V := V) (G := G) (R := R) (p := p) 1 _ b2 (by simp [px_bw_len])
  obtain ⟨M4, d1, d2, d3⟩ := pm_outWord (b := b) (I := I) (V := V) (G := G) (R := R) (p := p) x _ c2 (by simp [px_bw_len])
  obtain ⟨M5, e1, e2, e3⟩ := pm_outWord (b := b) (I := I) (V := V) (G := G) (R := R) (p := p) c _ d2 (by simp [px_bw_len])
  unfold f_mdl_refuse b_mdl_refuse_34 rc_z1
  rw [px_rc_m, px_bs, px_bnd a1, px_rc_m, px_bs, px_bnd b1, px_rc_m, px_bs, px_bnd c1, px_rc_m, px_bs, px_bnd d1, px_rc_m, px_bs, px_bnd e1]
  have hf := a3.tr (b3.tr (c3.tr (d3.tr e3)))
  rcases hv with ⟨rfl, rfl, rfl⟩ | ⟨rfl, rfl, rfl⟩ | ⟨rfl, rfl, rfl⟩
  · obtain ⟨M7, g1, g2, g3⟩ := pm_outWord (b := b) (I := I) (V := V) (G := G) (R := R) (p := p) 2 _ e2 (by simp [px_bw_len])
    rw [if_pos rfl, px_rc_m, px_bs, px_bnd g1, if_pos (Or.inr rfl)]
    refine ⟨M7, rfl, ?_, hf.tr g3⟩
    have ee : px_hd number 5 = rc_bw number ++ rc_bw 1 ++ (rc_bw 1 ++ rc_bw 0 ++ rc_bw 2 ++ rc_bw 2) ++ [] := rfl
    rw [ee]
    simp only [List.append_assoc, List.nil_append, List.append_nil] at g2 ⊢
    exact g2
  · rw [if_neg (by decide), if_pos (Or.inr rfl)]
    refine ⟨M5, rfl, ?_, hf⟩
    have ee : px_hd number 11 = rc_bw number ++ rc_bw 1 ++ (rc_bw 1 ++ rc_bw 1 ++ rc_bw 1) ++ [] := rfl
    rw [ee]
    simp only [List.append_assoc, List.nil_append, List.append_nil] at e2 ⊢
    exact e2
  · rw [if_neg (by decide), if_pos (Or.inr rfl)]
    refine ⟨M5, rfl, ?_, hf⟩
    have ee : px_hd number 13 = rc_bw number ++ rc_bw 1 ++ (rc_bw 1 ++ rc_bw 1 ++ rc_bw 3) ++ [] := rfl
    rw [ee]
    simp only [List.append_assoc, List.nil_append, List.append_nil] at e2 ⊢
    exact e2
/-- the keys that one call names -/
def px_pbs (l : List UInt8) : Nat → Option Nat → Option Nat
  | 0, st => st
  | n + 1, st => px_pbs l n (px_pb 16 l st).2
def px_end (proc : Int32) (l : List UInt8) (a : Nat) : Option Nat :=
  if proc = 1 ∨ proc = 3 then (px_pw l (px_pw l (px_pb 16 l (some a)).2).2).2
  else if proc = 2 ∨ proc = 6 then (px_pb 16 l (some a)).2
  else if proc = 4 then (match px_pw l (some a) with
    | (_, none) => none
    | (n, some a') => if n < 0 ∨ 8 < n then none else px_pbs l n.toNatClampNeg (some a'))
  else if proc = 5 then (px_pw l (px_pw l (some a)).2).2
  else some a
theorem px_pbs_none (l : List UInt8) (n : Nat) : px_pbs l n none = none := by
  induction n with
  | zero => rfl
  | succ n ih => rw [px_pbs]; exact ih
theorem pm_takes_end (c : Nat) (l : List UInt8) (st : Option Nat) (hx : px_rx M c l) (hs : px_rd M st) (hle : px_le' l st) : b_mdl_takes_129 (px_W b I V G R M p) (b + 316) = some (if st = some l.length then 1 else 0, px_W b I V G R M p) := by
  obtain ⟨hc, x1, x2, x3, x4⟩ := hx
  unfold b_mdl_takes_129 b_mdl_takes_156 b_mdl_takes_157 rc_z1
  cases st with
  | none =>
    have h28 : M 316 28 = 0 := hs
    simp (disch := omega) only [↓reduceIte, ↓px_bs, ↓px_mB, px_10, px_modG, px_lit, px_mul, nI_add, px_u2_ne, px_u2_eq, nI_1, nI_clamp, px_lt0, px_nle, or_self, false_or, or_false, true_or, or_true, rc_b2, px_sxl, px_low_sx, px_low_u, px_nar0, px_nar1, px_z01, if_true, if_false, h28]
    rfl
  | some a =>
    obtain ⟨h28, h27⟩ := hs
    have ha := hle a rfl
    simp (disch := omega) only [↓reduceIte, ↓px_bs, ↓px_mB, px_10, px_modG, px_lit, px_mul, nI_add, px_u2_ne, px_u2_eq, nI_1, nI_clamp, px_lt0, px_nle, or_self, false_or, or_false, true_or, or_true, rc_b2, px_sxl, px_low_sx, px_low_u, px_nar0, px_nar1, px_z01, if_true, if_false, px_le, px_lt, px_eq, px_lt0, px_le0, px_0le, px_eq0, px_eq1, px_msub2, px_msub3, h28, h27, x1, x2]
    by_cases q : a = l.length
    · simp [q]
    · simp [q]
theorem pm_takes_loop (c : Nat) (l : List UInt8) (n : Nat) (hn : n ≤ 8) : ∀ (m k f : Nat) (st : Option Nat) (M : Nat → Nat → Int32), n = k + m → m + 1 < f → px_rx M c l → px_rd M st → px_le' l st → ∃ M', b_mdl_takes_89 f (px_W b I V G R M p) (b + 316) 4 (nI n) (nI k) = b_mdl_takes_114 (px_W b I V G R M' p) (b + 316) 4 ∧ px_rd M' (px_pbs l m st) ∧ px_f4 M M' ∧ px_le' l (px_pbs l m st) := by
  intro m
  induction m with
  | zero =>
    intro k f st M hk hf hx hs hle
    obtain ⟨f, rfl⟩ : ∃ q, f = q + 1 := ⟨f - 1, by omega⟩
    rw [b_mdl_takes_89]
    refine ⟨M, ?_, hs, fun _ _ _ => rfl, hle⟩
    have e1 : n ≤ k := by omega
    cases st with
    | none =>
      have h28 : M 316 28 = 0 := hs
      simp (disch := omega) only [↓reduceIte, ↓px_bs, ↓px_mB, px_10, px_modG, px_mul, nI_add, px_u2_ne, px_u2_eq, nI_1, nI_clamp, px_lt0, px_nle, or_self, false_or, or_false, true_or, or_true, rc_b2, px_sxl, px_low_sx, px_low_u, px_nar0, px_nar1, px_z01, if_true, if_false, h28]
    | some a =>
      obtain ⟨h28, h27⟩ := hs
      simp (disch := omega) only [↓reduceIte, ↓px_bs, ↓px_mB, px_10, px_modG, px_mul, nI_add, px_u2_ne, px_u2_eq, nI_1, nI_clamp, px_lt0, px_nle, or_self, false_or, or_false, true_or, or_true, rc_b2, px_sxl, px_low_sx, px_low_u, px_nar0, px_nar1, px_z01, if_true, if_false, px_le, px_lt, px_eq, px_lt0, px_le0, px_0le, px_eq0, px_eq1, px_msub2, px_msub3, h28, e1]
  | succ m ih =>
    intro k f st M hk hf hx hs hle
    obtain ⟨f, rfl⟩ : ∃ q, f = q + 1 := ⟨f - 1, by omega⟩
    rw [b_mdl_takes_89]
    cases st with
    | none =>
      have h28 : M 316 28 = 0 := hs
      rw [px_pbs_none]
      refine ⟨M, ?_, h28, fun _ _ _ => rfl, fun _ q => by cases q⟩
      simp (disch := omega) only [↓reduceIte, ↓px_bs, ↓px_mB, px_10, px_modG, px_mul, nI_add, px_u2_ne, px_u2_eq, nI_1, nI_clamp, px_lt0, px_nle, or_self, false_or, or_false, true_or, or_true, rc_b2, px_sxl, px_low_sx, px_low_u, px_nar0, px_nar1, px_z01, if_true, if_false, h28]
    | some a =>
      obtain ⟨h28, h27⟩ := id hs
      have e1 : ¬ n ≤ k := by omega
      obtain ⟨v, M1, a1, a2, a3, a4⟩ := pm_nextBytes (b := b) (I := I) (V := V) (G := G) (R := R) (p := p) 16 c l (some a) (by omega) hx hs hle
      have a1' : f_mdl_nextBytes (px_W b I V G R M p) (b + 316) 16 = some (v, px_W b I V G R M1 p) := a1
      obtain ⟨M2, b1, b2, b3, b4⟩ := ih (k + 1) f _ M1 (by omega) (by omega) (a3.rx hx) a2 px_pb_le
      refine ⟨M2, ?_, b2, a3.tr b3, b4⟩
      rw [← b1]
      simp (disch := omega) only [↓reduceIte, ↓px_bs, ↓px_mB, px_10, px_modG, px_mul, nI_add, px_u2_ne, px_u2_eq, nI_1, nI_clamp, px_lt0, px_nle, or_self, false_or, or_false, true_or, or_true, rc_b2, px_sxl, px_low_sx, px_low_u, px_nar0, px_nar1, px_z01, if_true, if_false, px_le, px_lt, px_eq, px_lt0, px_le0, px_0le, px_eq0, px_eq1, px_msub2, px_msub3, h28, e1, ↓px_bnd a1']
end PX
