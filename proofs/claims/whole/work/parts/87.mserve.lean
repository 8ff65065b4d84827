/-! THE REFERENCE, 18: replies kept, serve, push -/
abbrev px_Rp : Type := List (Int32 × List UInt8)
def px_q (rp : px_Rp) (k : Nat) : Int32 × List UInt8 := rp.getD k (0, [])
def px_fng (rp : px_Rp) (x : Int32) : Nat → Nat → Option Nat
  | 0, _ => none
  | n + 1, k => if (px_q rp k).1 = x then some k else px_fng rp x n (k + 1)
def px_fn (rp : px_Rp) (x : Int32) : Option Nat := px_fng rp x rp.length 0
theorem px_fng_lt {rp : px_Rp} {x : Int32} : ∀ {n k i : Nat}, px_fng rp x n k = some i → k ≤ i ∧ i < k + n ∧ (px_q rp i).1 = x := by
  intro n
  induction n with
  | zero => intro k i h; cases h
  | succ n ih =>
    intro k i h
    rw [px_fng] at h
    split at h
    · rename_i q; cases h; exact ⟨by omega, by omega, q⟩
    · have := ih h; exact ⟨by omega, by omega, this.2.2⟩
theorem px_fn_lt {rp : px_Rp} {x : Int32} {i : Nat} (h : px_fn rp x = some i) : i < rp.length ∧ (px_q rp i).1 = x := by
  have := px_fng_lt h; exact ⟨by omega, this.2.2⟩
def px_re (M : Nat → Nat → Int32) (i : Nat) (e : Int32 × List UInt8) : Prop := M 332 i = e.1 ∧ M 333 i = nI e.2.length ∧ e.2.length ≤ 400 ∧ px_agr (M 334) (400 * i) e.2
def px_rp (M : Nat → Nat → Int32) (c : Nat) (rp : px_Rp) : Prop := M 335 c = nI rp.length ∧ rp.length ≤ 8 ∧ ∀ k, k < rp.length → px_re M (8 * c + k) (px_q rp k)
def px_kp (rp : px_Rp) (number : Int32) (B : List UInt8) : px_Rp := (if rp.length = 8 then rp.drop 1 else rp) ++ [(number, B)]
def px_fp (c : Nat) (M M' : Nat → Nat → Int32) : Prop := ∀ o i, ¬ (o = 318 ∨ o = 319 ∨ (o = 316 ∧ i = 5) ∨ ((o = 332 ∨ o = 333) ∧ 8 * c ≤ i ∧ i < 8 * c + 8) ∨ (o = 334 ∧ 3200 * c ≤ i ∧ i < 3200 * c + 3200) ∨ (o = 335 ∧ i = c)) → M' o i = M o i
theorem px_fp.tr {c : Nat} {M M1 M2 : Nat → Nat → Int32} (h1 : px_fp c M M1) (h2 : px_fp c M1 M2) : px_fp c M M2 := fun o i h => (h2 o i h).trans (h1 o i h)
theorem px_re_same {M M' : Nat → Nat → Int32} {i : Nat} {e : Int32 × List UInt8} (h : px_re M i e) (h1 : M' 332 i = M 332 i) (h2 : M' 333 i = M 333 i) (h3 : ∀ j, j < 400 → M' 334 (400 * i + j) = M 334 (400 * i + j)) : px_re M' i e := ⟨h1.trans h.1, h2.trans h.2.1, h.2.2.1, fun j hj => (h3 j (by have := h.2.2.1; omega)).trans (h.2.2.2 j hj)⟩
theorem px_sl_ms {M : Nat → Nat → Int32} {s : Nat → List UInt8} {k : Nat} {l : List UInt8} (h : px_sl M s) (hk : k < 64) (hl : l.length ≤ 1600) : px_sl (px_ms M k l) (va_up s k l) := by
  intro j hj
  by_cases e : j = k
  · subst e
    rw [px_va_eq]
    refine ⟨hl, px_ms_len _ _ _, ?_⟩
    have : px_ms M j l 318 = px_blk (M 318) (1600 * j) l := by simp [px_ms, va_up]
    rw [this]
    exact px_blk_agr _ _ _
  · rw [px_va_ne _ _ _ _ e]
    obtain ⟨h1, h2, h3⟩ := h j hj
    refine ⟨h1, ?_, ?_⟩
    · rw [← h2]; simp [px_ms, va_up, upd, e]
    · have : px_ms M k l 318 = px_blk (M 318) (1600 * k) l := by simp [px_ms, va_up]
      rw [this]
      exact px_agr_out h3 (by omega)
theorem px_sl_same {M M' : Nat → Nat → Int32} {s : Nat → List UInt8} (h : px_sl M s) (h1 : ∀ i, M' 318 i = M 318 i) (h2 : ∀ i, M' 319 i = M 319 i) : px_sl M' s := fun k hk => ⟨(h k hk).1, (h2 k).trans (h k hk).2.1, fun i hi => (h1 _).trans ((h k hk).2.2 i hi)⟩
theorem px_one_len (B : List UInt8) : (px_one B).length = 4 + B.length := by unfold px_one; rw [List.length_append, px_bw_len]
section PX
variable {b : Nat} {I : Nat → Nat → Int32} {V : Nat → Nat → Int64} {G : Nat → Nat → Nat} {R : Nat → List UInt8} {M : Nat → Nat → Int32} {p : px_P} {e : Nat}
theorem pm_keep_in (K : rc_M → Nat → Int32 → Int32 → Int32 → Option rc_M) (k : Nat) (x1 x2 : Int32) (hk : k < 31) : ∀ (m j f : Nat) (M : Nat → Nat → Int32), 400 = j + m → m < f → ∃ M', b_mdl_keep_58 K f (px_W b I V G R M p) (b + 316) x1 x2 (nI k) (nI j) = K (px_W b I V G R M' p) (b + 316) x1 x2 (nI (k + 1)) ∧ (∀ o i, ¬ (o = 334 ∧ 400 * k + j ≤ i ∧ i < 400 * k + 400) → M' o i = M o i) ∧ ∀ i, 400 * k + j ≤ i → i < 400 * k + 400 → M' 334 i = rc_sx (rc_lowb (M 334 (i + 400))) := by
  intro m
  induction m with
  | zero =>
    intro j f M hj hf
    obtain ⟨f, rfl⟩ : ∃ q, f = q + 1 := ⟨f - 1, by omega⟩
    rw [b_mdl_keep_58]
    have e1 : 400 ≤ j := by omega
    simp (disch := omega) only [↓reduceIte, ↓px_bs, ↓px_mB, px_10, px_modG, px_lit, px_mul, nI_add, px_u2_ne, px_u2_eq, nI_1, nI_clamp, px_lt0, px_nle, or_self, false_or, or_false, true_or, or_true, rc_b2, px_sxl, px_low_sx, px_low_u, px_nar0, px_nar1, px_z01, if_true, if_false, px_le, px_lt, px_eq, px_lt0, px_le0, px_0le, px_eq0, px_eq1, px_msub2, px_msub3, e1]
    exact ⟨M, rfl, fun _ _ _ => rfl, fun i h1 h2 => by omega⟩
  | succ m ih =>
    intro j f M hj hf
    obtain ⟨f, rfl⟩ : ∃ q, f = q + 1 := ⟨f - 1, by omega⟩
    obtain ⟨M', a1, a2, a3⟩ := ih (j + 1) f (px_u2 M 334 (400 * k + j) (rc_sx (rc_lowb (M 334 (400 * k + 400 + j))))) (by omega) (by omega)
    refine ⟨M', ?_, fun o i h => ?_, fun i h1 h2 => ?_⟩
    · rw [b_mdl_keep_58]
      have e1 : ¬ 400 ≤ j := by omega
      simp (disch := omega) only [↓reduceIte, ↓px_bs, ↓px_mB, px_10, px_modG, px_lit, px_mul, nI_add, px_u2_ne, px_u2_eq, nI_1, nI_clamp, px_lt0, px_nle, or_self, false_or, or_false, true_or, or_true, rc_b2, px_sxl, px_low_sx, px_low_u, px_nar0, px_nar1, px_z01, if_true, if_false, px_le, px_lt, px_eq, px_lt0, px_le0, px_0le, px_eq0, px_eq1, px_msub2, px_msub3, e1]
      exact a1
    · rw [a2 o i (by omega), px_u2_ne _ _ _ _ _ _ (by omega)]
    · by_cases e : i = 400 * k + j
      · subst e
        rw [a2 _ _ (by omega), px_u2_eq, show 400 * k + j + 400 = 400 * k + 400 + j by omega]
      · rw [a3 i (by omega) h2, px_u2_ne _ _ _ _ _ _ (by omega)]
theorem pm_keep_go (c : Nat) (hc : c < 4) (rp : px_Rp) (h8 : rp.length = 8) (x2 : Int32) : ∀ (m k f : Nat) (M : Nat → Nat → Int32), 7 = k + m → m < f → (∀ j, j < k → px_re M (8 * c + j) (px_q rp (j + 1))) → (∀ j, k < j → j < 8 → px_re M (8 * c + j) (px_q rp j)) → ∃ M', b_mdl_keep_16 f (px_W b I V G R M p) (b + 316) (nI c) x2 (nI (8 * c + k)) = b_mdl_keep_116 (px_W b I V G R M' p) (b + 316) (nI c) x2 ∧ (∀ j, j < 7 → px_re M' (8 * c + j) (px_q rp (j + 1))) ∧ M' 335 c = nI 7 ∧ px_fp c M M' ∧ (∀ i, M' 318 i = M 318 i) ∧ (∀ i, M' 319 i = M 319 i) ∧ M' 316 5 = M 316 5 := by
  intro m
  induction m with
  | zero =>
    intro k f M hk hf h1 h2
    obtain ⟨f, rfl⟩ : ∃ q, f = q + 1 := ⟨f - 1, by omega⟩
    rw [b_mdl_keep_16]
    have e1 : 8 * c + 7 ≤ 8 * c + k := by omega
    simp (disch := omega) only [↓reduceIte, ↓px_bs, ↓px_mB, px_10, px_modG, px_lit, px_mul, nI_add, px_u2_ne, px_u2_eq, nI_1, nI_clamp, px_lt0, px_nle, or_self, false_or, or_false, true_or, or_true, rc_b2, px_sxl, px_low_sx, px_low_u, px_nar0, px_nar1, px_z01, if_true, if_false, px_le, px_lt, px_eq, px_lt0, px_le0, px_0le, px_eq0, px_eq1, px_msub2, px_msub3, e1]
    refine ⟨_, rfl, fun j hj => ?_, px_u2_eq _ _ _ _, fun o i h => px_u2_ne _ _ _ _ _ _ (by omega), fun i => px_u2_ne _ _ _ _ _ _ (by omega), fun i => px_u2_ne _ _ _ _ _ _ (by omega), px_u2_ne _ _ _ _ _ _ (by omega)⟩
    exact px_re_same (h1 j (by omega)) (px_u2_ne _ _ _ _ _ _ (by omega)) (px_u2_ne _ _ _ _ _ _ (by omega)) (fun j _ => px_u2_ne _ _ _ _ _ _ (by omega))
  | succ m ih =>
    intro k f M hk hf h1 h2
    obtain ⟨f, rfl⟩ : ∃ q, f = q + 1 := ⟨f - 1, by omega⟩
    rw [b_mdl_keep_16]
    have e1 : ¬ 8 * c + 7 ≤ 8 * c + k := by omega
    obtain ⟨n1, n2, n3, n4⟩ := h2 (k + 1) (by omega) (by omega)
    generalize hF : (5000 : Nat) = fu
    obtain ⟨M1, a1, a2, a3⟩ := pm_keep_in (b := b) (I := I) (V := V) (G := G) (R := R) (p := p) (b_mdl_keep_16 f) (8 * c + k) (nI c) x2 (by omega) 400 0 fu (px_u2 (px_u2 M 332 (8 * c + k) (M 332 (8 * c + k + 1))) 333 (8 * c + k) (M 333 (8 * c + k + 1))) (by omega) (by omega)
    have hme : px_re M1 (8 * c + k) (px_q rp (k + 1)) := by
      refine ⟨?_, ?_, n3, fun i hi => ?_⟩
      · rw [a2 _ _ (by omega), px_u2_ne _ _ _ _ _ _ (by omega), px_u2_eq]; exact n1
      · rw [a2 _ _ (by omega), px_u2_eq]; exact n2
      · rw [a3 _ (by omega) (by omega), px_u2_ne _ _ _ _ _ _ (by omega), px_u2_ne _ _ _ _ _ _ (by omega), show 400 * (8 * c + k) + i + 400 = 400 * (8 * c + (k + 1)) + i by omega, n4 i hi, px_low_sx]
    obtain ⟨M2, b1, b2, b3, b4, b5, b6, b7⟩ := ih (k + 1) f M1 (by omega) (by omega) (fun j hj => by
        by_cases e : j = k
        · subst e; exact hme
        · exact px_re_same (h1 j (by omega)) (by rw [a2 _ _ (by omega), px_u2_ne _ _ _ _ _ _ (by omega), px_u2_ne _ _ _ _ _ _ (by omega)]) (by rw [a2 _ _ (by omega), px_u2_ne _ _ _ _ _ _ (by omega), px_u2_ne _ _ _ _ _ _ (by omega)]) (fun q hq => by rw [a2 _ _ (by omega), px_u2_ne _ _ _ _ _ _ (by omega), px_u2_ne _ _ _ _ _ _ (by omega)])) (fun j hj hj2 => by
        exact px_re_same (h2 j (by omega) hj2) (by rw [a2 _ _ (by omega), px_u2_ne _ _ _ _ _ _ (by omega), px_u2_ne _ _ _ _ _ _ (by omega)]) (by rw [a2 _ _ (by omega), px_u2_ne _ _ _ _ _ _ (by omega), px_u2_ne _ _ _ _ _ _ (by omega)]) (fun q hq => by rw [a2 _ _ (by omega), px_u2_ne _ _ _ _ _ _ (by omega), px_u2_ne _ _ _ _ _ _ (by omega)]))
    refine ⟨M2, ?_, b2, b3, fun o i h => ?_, fun i => ?_, fun i => ?_, ?_⟩
    · rw [← b1]
      simp (disch := omega) only [↓reduceIte, ↓px_bs, ↓px_mB, px_10, px_modG, px_lit, px_mul, nI_add, px_u2_ne, px_u2_eq, nI_1, nI_clamp, px_lt0, px_nle, or_self, false_or, or_false, true_or, or_true, rc_b2, px_sxl, px_low_sx, px_low_u, px_nar0, px_nar1, px_z01, if_true, if_false, px_le, px_lt, px_eq, px_lt0, px_le0, px_0le, px_eq0, px_eq1, px_msub2, px_msub3, e1]
      rw [← nI_0, a1, Nat.add_assoc]
    · rw [b4 o i h, a2 o i (by omega), px_u2_ne _ _ _ _ _ _ (by omega), px_u2_ne _ _ _ _ _ _ (by omega)]
    · rw [b5, a2 _ _ (by omega), px_u2_ne _ _ _ _ _ _ (by omega), px_u2_ne _ _ _ _ _ _ (by omega)]
    · rw [b6, a2 _ _ (by omega), px_u2_ne _ _ _ _ _ _ (by omega), px_u2_ne _ _ _ _ _ _ (by omega)]
    · rw [b7, a2 _ _ (by omega), px_u2_ne _ _ _ _ _ _ (by omega), px_u2_ne _ _ _ _ _ _ (by omega)]
theorem pm_keep_out (B : List UInt8) (k : Nat) (hk : k < 32) (hB : B.length ≤ 400) (ho : px_ot M B) : ∀ (m j f : Nat), B.length = j + m → m < f → b_mdl_keep_158 f (px_W b I V G R (va_up M 334 (px_blk (M 334) (400 * k) (B.take j))) p) (b + 316) (nI k) (nI j) = (f_mdl_send (px_W b I V G R (va_up M 334 (px_blk (M 334) (400 * k) B)) p) (b + 316) (nI k)).bind fun w6 => some w6 := by
  obtain ⟨h1, h2⟩ := ho
  intro m
  induction m with
  | zero =>
    intro j f hj hf
    obtain ⟨f, rfl⟩ : ∃ q, f = q + 1 := ⟨f - 1, by omega⟩
    rw [b_mdl_keep_158]
    have e1 : B.length ≤ j := by omega
    simp (disch := omega) only [↓reduceIte, ↓px_bs, ↓px_mB, px_10, px_modG, px_lit, px_mul, nI_add, px_u2_ne, px_u2_eq, nI_1, nI_clamp, px_lt0, px_nle, or_self, false_or, or_false, true_or, or_true, rc_b2, px_sxl, px_low_sx, px_low_u, px_nar0, px_nar1, px_z01, if_true, if_false, px_le, px_lt, px_eq, px_lt0, px_le0, px_0le, px_eq0, px_eq1, px_msub2, px_msub3, px_va_ne, h1, e1]
    rw [List.take_of_length_le e1]
  | succ m ih =>
    intro j f hj hf
    obtain ⟨f, rfl⟩ : ∃ q, f = q + 1 := ⟨f - 1, by omega⟩
    rw [b_mdl_keep_158]
    have e1 : ¬ B.length ≤ j := by omega
    have e2 := h2 j (by omega)
    rw [Nat.zero_add] at e2
    have e3 : px_u2 (va_up M 334 (px_blk (M 334) (400 * k) (B.take j))) 334 (400 * k + j) (rc_sx (B.getD j 0)) = va_up M 334 (px_blk (M 334) (400 * k) (B.take (j + 1))) := by
      rw [px_u2_va, px_va_va, px_va_eq]
      have := px_blk_snoc (M 334) (400 * k) (B.take j) (B.getD j 0)
      rw [List.length_take, Nat.min_eq_left (by omega), px_take_snoc _ _ (by omega)] at this
      rw [this]
    simp (disch := omega) only [↓reduceIte, ↓px_bs, ↓px_mB, px_10, px_modG, px_lit, px_mul, nI_add, px_u2_ne, px_u2_eq, nI_1, nI_clamp, px_lt0, px_nle, or_self, false_or, or_false, true_or, or_true, rc_b2, px_sxl, px_low_sx, px_low_u, px_nar0, px_nar1, px_z01, if_true, if_false, px_le, px_lt, px_eq, px_lt0, px_le0, px_0le, px_eq0, px_eq1, px_msub2, px_msub3, px_va_ne, h1, e1, e2, e3]
    exact ih (j + 1) f (by omega) (by omega)
theorem pm_keep (c n : Nat) (hc : c < 4) (rp : px_Rp) (number : Int32) (B : List UInt8) (s : Nat → List UInt8) (hr : px_rp M c rp) (ho : px_ot M B) (hB : B.length ≤ 400) (hn : n < 2 ^ 30) (h5 : M 316 5 = nI n) (hs : px_sl M s) : ∃ M', f_mdl_keep (px_W b I V G R M p) (b + 316) (nI c) number = some (px_W b I V G R M' p) ∧ px_rp M' c (px_kp rp number B) ∧ px_sl M' (va_up s (n % 64) (px_one B)) ∧ M' 316 5 = nI (n + 1) ∧ px_fp c M M' := by
  have main : ∀ (M1 : Nat → Nat → Int32) (rq : px_Rp), rq.length ≤ 7 → px_rp M1 c rq → px_fp c M M1 → (∀ i, M1 318 i = M 318 i) → (∀ i, M1 319 i = M 319 i) → M1 316 5 = M 316 5 → ∃ M', b_mdl_keep_116 (px_W b I V G R M1 p) (b + 316) (nI c) number = some (px_W b I V G R M' p) ∧ px_rp M' c (rq ++ [(number, B)]) ∧ px_sl M' (va_up s (n % 64) (px_one B)) ∧ M' 316 5 = nI (n + 1) ∧ px_fp c M M' := by
    intro M1 rq hq hr1 hf1 hs1 hs2 hs5
    obtain ⟨r1, r2, r3⟩ := hr1
    have ho1 : px_ot M1 B := ⟨by rw [hf1 _ _ (by omega)]; exact ho.1, fun i hi => by rw [hf1 _ _ (by omega)]; exact ho.2 i hi⟩
    have hfe : ∀ o i, ¬ ((o = 335 ∧ i = c) ∨ ((o = 332 ∨ o = 333) ∧ i = 8 * c + rq.length)) → px_u2 (px_u2 (px_u2 M1 335 c (nI (rq.length + 1))) 332 (8 * c + rq.length) number) 333 (8 * c + rq.length) (nI B.length) o i = M1 o i := by
      intro o i h
      rw [px_u2_ne _ _ _ _ _ _ (by omega), px_u2_ne _ _ _ _ _ _ (by omega), px_u2_ne _ _ _ _ _ _ (by omega)]
    have v335 : px_u2 (px_u2 (px_u2 M1 335 c (nI (rq.length + 1))) 332 (8 * c + rq.length) number) 333 (8 * c + rq.length) (nI B.length) 335 c = nI (rq.length + 1) := by
      rw [px_u2_ne _ _ _ _ _ _ (by omega), px_u2_ne _ _ _ _ _ _ (by omega), px_u2_eq]
    have v332 : px_u2 (px_u2 (px_u2 M1 335 c (nI (rq.length + 1))) 332 (8 * c + rq.length) number) 333 (8 * c + rq.length) (nI B.length) 332 (8 * c + rq.length) = number := by
      rw [px_u2_ne _ _ _ _ _ _ (by omega), px_u2_eq]
    have v333 : px_u2 (px_u2 (px_u2 M1 335 c (nI (rq.length + 1))) 332 (8 * c + rq.length) number) 333 (8 * c + rq.length) (nI B.length) 333 (8 * c + rq.length) = nI B.length := px_u2_eq _ _ _ _
    unfold b_mdl_keep_116
    generalize hF : (5000 : Nat) = fu
    have h32 := ho1.1
    simp (disch := omega) only [↓reduceIte, ↓px_bs, ↓px_mB, px_10, px_modG, px_lit, px_mul, nI_add, px_u2_ne, px_u2_eq, nI_1, nI_clamp, px_lt0, px_nle, or_self, false_or, or_false, true_or, or_true, rc_b2, px_sxl, px_low_sx, px_low_u, px_nar0, px_nar1, px_z01, if_true, if_false, r1, h32]
    generalize px_u2 (px_u2 (px_u2 M1 335 c (nI (rq.length + 1))) 332 (8 * c + rq.length) number) 333 (8 * c + rq.length) (nI B.length) = M2 at *
    have ho2 : px_ot M2 B := ⟨by rw [hfe _ _ (by omega)]; exact ho1.1, fun i hi => by rw [hfe _ _ (by omega)]; exact ho1.2 i hi⟩
    have e1 := pm_keep_out (b := b) (I := I) (V := V) (G := G) (R := R) (p := p) (M := M2) B (8 * c + rq.length) (by omega) hB ho2 B.length 0 fu (by omega) (by omega)
    rw [List.take_zero, px_blk_nil, px_va_id, nI_0] at e1
    have e2 := pm_send (b := b) (I := I) (V := V) (G := G) (R := R) (p := p) (M := va_up M2 334 (px_blk (M2 334) (400 * (8 * c + rq.length)) B)) B (8 * c + rq.length) n hn (by rw [px_va_ne _ _ _ _ (by decide), hfe _ _ (by omega), hs5]; exact h5) (by omega) (by rw [px_va_ne _ _ _ _ (by decide)]; exact v333) (by rw [px_va_eq]; exact px_blk_agr _ _ _) hB
    rw [e1, e2, px_bs]
    refine ⟨_, rfl, ?_, ?_, ?_, ?_⟩
    · refine ⟨?_, by rw [List.length_append, List.length_singleton]; omega, fun k hk => ?_⟩
      · rw [px_ms_ne _ _ _ _ (by decide) (by decide), px_u2_ne _ _ _ _ _ _ (by omega), px_va_ne _ _ _ _ (by decide), v335, List.length_append, List.length_singleton]
      · rw [List.length_append, List.length_singleton] at hk
        have hqk : px_q (rq ++ [(number, B)]) k = if k = rq.length then (number, B) else px_q rq k := by
          unfold px_q
          simp only [List.getD_eq_getElem?_getD]
          by_cases h : k = rq.length
          · subst h; simp
          · rw [List.getElem?_append_left (by omega), if_neg h]
        rw [hqk]
        have f332 : ∀ i, px_ms (px_u2 (va_up M2 334 (px_blk (M2 334) (400 * (8 * c + rq.length)) B)) 316 5 (nI (n + 1))) (n % 64) (px_one B) 332 i = M2 332 i := fun i => by rw [px_ms_ne _ _ _ _ (by decide) (by decide), px_u2_ne _ _ _ _ _ _ (by omega), px_va_ne _ _ _ _ (by decide)]
        have f333 : ∀ i, px_ms (px_u2 (va_up M2 334 (px_blk (M2 334) (400 * (8 * c + rq.length)) B)) 316 5 (nI (n + 1))) (n % 64) (px_one B) 333 i = M2 333 i := fun i => by rw [px_ms_ne _ _ _ _ (by decide) (by decide), px_u2_ne _ _ _ _ _ _ (by omega), px_va_ne _ _ _ _ (by decide)]
        have f334 : ∀ i, px_ms (px_u2 (va_up M2 334 (px_blk (M2 334) (400 * (8 * c + rq.length)) B)) 316 5 (nI (n + 1))) (n % 64) (px_one B) 334 i = px_blk (M2 334) (400 * (8 * c + rq.length)) B i := fun i => by rw [px_ms_ne _ _ _ _ (by decide) (by decide), px_u2_ne _ _ _ _ _ _ (by omega), px_va_eq]
        by_cases h : k = rq.length
        · rw [if_pos h, h]
          refine ⟨by rw [f332]; exact v332, by rw [f333]; exact v333, hB, fun i hi => by rw [f334]; exact px_blk_agr _ _ _ i hi⟩
        · rw [if_neg h]
          refine px_re_same (r3 k (by omega)) (by rw [f332, hfe _ _ (by omega)]) (by rw [f333, hfe _ _ (by omega)]) (fun j hj => by rw [f334, px_blk_out _ _ _ _ (by omega), hfe _ _ (by omega)])
    · refine px_sl_ms (px_sl_same hs (fun i => ?_) (fun i => ?_)) (by omega) (by rw [px_one_len]; omega)
      · rw [px_u2_ne _ _ _ _ _ _ (by omega), px_va_ne _ _ _ _ (by decide), hfe _ _ (by omega), hs1]
      · rw [px_u2_ne _ _ _ _ _ _ (by omega), px_va_ne _ _ _ _ (by decide), hfe _ _ (by omega), hs2]
    · rw [px_ms_ne _ _ _ _ (by decide) (by decide), px_u2_eq]
    · intro o i h
      rw [px_ms_ne _ _ _ _ (by omega) (by omega), px_u2_ne _ _ _ _ _ _ (by omega)]
      by_cases h4 : o = 334
      · subst h4
        rw [px_va_eq, px_blk_out _ _ _ _ (by omega), hfe _ _ (by omega)]
        exact hf1 _ _ h
      · rw [px_va_ne _ _ _ _ h4, hfe _ _ (by omega)]
        exact hf1 _ _ h
  obtain ⟨r1, r2, r3⟩ := id hr
  unfold f_mdl_keep px_kp
  rw [px_gR_m_22, px_bs, px_aI_m_22 c (by omega), px_bs, r1]
  have e8 : (nI rp.length = 8) = (rp.length = 8) := px_eq (by omega) (by decide)
  by_cases h8 : rp.length = 8
  · rw [if_pos (by rw [e8]; exact h8), if_pos h8]
    obtain ⟨M1, a1, a2, a3, a4, a5, a6, a7⟩ := pm_keep_go (b := b) (I := I) (V := V) (G := G) (R := R) (p := p) c hc rp h8 number 7 0 5000 M (by omega) (by omega) (fun j hj => by omega) (fun j hj hj2 => r3 j (by omega))
    rw [show (8 : Int32) = nI 8 from rfl, px_mul]
    have hdl : (rp.drop 1).length = 7 := by rw [List.length_drop]; omega
    rw [show 8 * c + 0 = 8 * c from rfl] at a1
    rw [a1]
    refine main M1 (rp.drop 1) (by omega) ⟨by rw [hdl]; exact a3, by omega, fun k hk => ?_⟩ a4 a5 a6 a7
    have : px_q (rp.drop 1) k = px_q rp (k + 1) := by
      unfold px_q
      simp only [List.getD_eq_getElem?_getD, List.getElem?_drop]
      rw [Nat.add_comm]
    rw [this]
    exact a2 k (by omega)
  · rw [if_neg (by rw [e8]; exact h8), if_neg h8]
    exact main M rp (by omega) hr (fun _ _ _ => rfl) (fun _ => rfl) (fun _ => rfl) rfl
end PX
