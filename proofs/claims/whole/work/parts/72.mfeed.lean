/-! THE REFERENCE, 3: feed -/
def px_blu (f : Nat → Int32) (a : Nat) (l : List UInt8) : Nat → Int32 := fun i => if a ≤ i ∧ i < a + l.length then rc_u (l.getD (i - a) 0) else f i
theorem px_blu_nil (f : Nat → Int32) (a : Nat) : px_blu f a [] = f := by
  funext i; unfold px_blu; rw [if_neg]; simp
theorem px_blu_snoc (f : Nat → Int32) (a : Nat) (l : List UInt8) (x : UInt8) : upd (px_blu f a l) (a + l.length) (rc_u x) = px_blu f a (l ++ [x]) := by
  funext i
  unfold upd px_blu
  by_cases h : i = a + l.length
  · subst h
    simp
  · rw [if_neg h]
    by_cases h2 : a ≤ i ∧ i < a + l.length
    · rw [if_pos h2, if_pos (by simp; omega)]
      rw [List.getD_eq_getElem?_getD, List.getD_eq_getElem?_getD, List.getElem?_append_left (by omega)]
    · rw [if_neg h2, if_neg (by simp; omega)]
def px_fd (x1 x2 x3 x4 x5 : Int32) : List UInt8 := rc_bw x1 ++ rc_bw x2 ++ rc_bw x3 ++ rc_bw x4 ++ rc_bw x5
theorem px_f24 (x : Int32) : (x >>> ((nI 24 - nI (8 * 0)) &&& 31)) &&& 255 = rc_u (rc_lowb (rc_sh x 24)) := by
  rw [show nI 24 - nI (8 * 0) = 24 by decide, ← px_sh24, px_u_lowb]
theorem px_f16 (x : Int32) : (x >>> ((nI 24 - nI (8 * 1)) &&& 31)) &&& 255 = rc_u (rc_lowb (rc_sh x 16)) := by
  rw [show nI 24 - nI (8 * 1) = 16 by decide, ← px_sh16, px_u_lowb]
theorem px_f8 (x : Int32) : (x >>> ((nI 24 - nI (8 * 2)) &&& 31)) &&& 255 = rc_u (rc_lowb (rc_sh x 8)) := by
  rw [show nI 24 - nI (8 * 2) = 8 by decide, ← px_sh8, px_u_lowb]
theorem px_f0 (x : Int32) : (x >>> ((nI 24 - nI (8 * 3)) &&& 31)) &&& 255 = rc_u (rc_lowb x) := by
  rw [show nI 24 - nI (8 * 3) = 0 by decide, ← px_sh0, px_u_lowb]
section PX
variable {b : Nat} {I : Nat → Nat → Int32} {V : Nat → Nat → Int64} {G : Nat → Nat → Nat} {R : Nat → List UInt8} {M : Nat → Nat → Int32} {p : px_P} {e : Nat}
theorem pm_feed_step (x1 x2 x3 x4 x5 : Int32) (f k n : Nat) (hk : k < 20) (hn : n + 20 ≤ 1600) (h : M 316 2 = nI n) : b_mdl_feed_34 (f + 1) (px_W b I V G R M p) (b + 316) x1 x2 x3 x4 x5 (nI k) = b_mdl_feed_34 f (px_W b I V G R (px_u2 M 317 (n + k) (rc_u ((px_fd x1 x2 x3 x4 x5).getD k 0))) p) (b + 316) x1 x2 x3 x4 x5 (nI (k + 1)) := by
  rw [b_mdl_feed_34]
  unfold b_mdl_feed_87
  rcases (by omega : k = 0 ∨ k = 1 ∨ k = 2 ∨ k = 3 ∨ k = 4 ∨ k = 5 ∨ k = 6 ∨ k = 7 ∨ k = 8 ∨ k = 9 ∨ k = 10 ∨ k = 11 ∨ k = 12 ∨ k = 13 ∨ k = 14 ∨ k = 15 ∨ k = 16 ∨ k = 17 ∨ k = 18 ∨ k = 19) with rfl | rfl | rfl | rfl | rfl | rfl | rfl | rfl | rfl | rfl | rfl | rfl | rfl | rfl | rfl | rfl | rfl | rfl | rfl | rfl
  · rw [if_neg (by decide), if_neg (by decide)]
    simp (disch := omega) only [px_mS, px_bs, px_lit, h, nI_add]
    rw [px_modG (by decide) (by decide), px_mul, nI_1, px_f24 _]
    rfl
  · rw [if_neg (by decide), if_neg (by decide)]
    simp (disch := omega) only [px_mS, px_bs, px_lit, h, nI_add]
    rw [px_modG (by decide) (by decide), px_mul, nI_1, px_f16 _]
    rfl
  · rw [if_neg (by decide), if_neg (by decide)]
    simp (disch := omega) only [px_mS, px_bs, px_lit, h, nI_add]
    rw [px_modG (by decide) (by decide), px_mul, nI_1, px_f8 _]
    rfl
  · rw [if_neg (by decide), if_neg (by decide)]
    simp (disch := omega) only [px_mS, px_bs, px_lit, h, nI_add]
    rw [px_modG (by decide) (by decide), px_mul, nI_1, px_f0 _]
    rfl
  · rw [if_neg (by decide), if_pos (by decide), if_neg (by decide)]
    simp (disch := omega) only [px_mS, px_bs, px_lit, h, nI_add]
    rw [px_modG (by decide) (by decide), px_mul, nI_1, px_f24 _]
    rfl
  · rw [if_neg (by decide), if_pos (by decide), if_neg (by decide)]
    simp (disch := omega) only [px_mS, px_bs, px_lit, h, nI_add]
    rw [px_modG (by decide) (by decide), px_mul, nI_1, px_f16 _]
    rfl
  · rw [if_neg (by decide), if_pos (by decide), if_neg (by decide)]
    simp (disch := omega) only [px_mS, px_bs, px_lit, h, nI_add]
    rw [px_modG (by decide) (by decide), px_mul, nI_1, px_f8 _]
    rfl
  · rw [if_neg (by decide), if_pos (by decide), if_neg (by decide)]
    simp (disch := omega) only [px_mS, px_bs, px_lit, h, nI_add]
    rw [px_modG (by decide) (by decide), px_mul, nI_1, px_f0 _]
    rfl
  · rw [if_neg (by decide), if_pos (by decide), if_pos (by decide), if_neg (by decide)]
    simp (disch := omega) only [px_mS, px_bs, px_lit, h, nI_add]
    rw [px_modG (by decide) (by decide), px_mul, nI_1, px_f24 _]
    rfl
  · rw [if_neg (by decide), if_pos (by decide), if_pos (by decide), if_neg (by decide)]
    simp (disch := omega) only [px_mS, px_bs, px_lit, h, nI_add]
    rw [px_modG (by decide) (by decide), px_mul, nI_1, px_f16 _]
    rfl
  · rw [if_neg (by decide), if_pos (by decide), if_pos (by decide), if_neg (by decide)]
    simp (disch := omega) only [px_mS, px_bs, px_lit, h, nI_add]
    rw [px_modG (by decide) (by decide), px_mul, nI_1, px_f8 _]
    rfl
  · rw [if_neg (by decide), if_pos (by decide), if_pos (by decide), if_neg (by decide)]
    simp (disch := omega) only [px_mS, px_bs, px_lit, h, nI_add]
    rw [px_modG (by decide) (by decide), px_mul, nI_1, px_f0 _]
    rfl
  · rw [if_neg (by decide), if_pos (by decide), if_pos (by decide), if_pos (by decide), if_neg (by decide)]
    simp (disch := omega) only [px_mS, px_bs, px_lit, h, nI_add]
    rw [px_modG (by decide) (by decide), px_mul, nI_1, px_f24 _]
    rfl
  · rw [if_neg (by decide), if_pos (by decide), if_pos (by decide), if_pos (by decide), if_neg (by decide)]
    simp (disch := omega) only [px_mS, px_bs, px_lit, h, nI_add]
    rw [px_modG (by decide) (by decide), px_mul, nI_1, px_f16 _]
    rfl
  · rw [if_neg (by decide), if_pos (by decide), if_pos (by decide), if_pos (by decide), if_neg (by decide)]
    simp (disch := omega) only [px_mS, px_bs, px_lit, h, nI_add]
    rw [px_modG (by decide) (by decide), px_mul, nI_1, px_f8 _]
    rfl
  · rw [if_neg (by decide), if_pos (by decide), if_pos (by decide), if_pos (by decide), if_neg (by decide)]
    simp (disch := omega) only [px_mS, px_bs, px_lit, h, nI_add]
    rw [px_modG (by decide) (by decide), px_mul, nI_1, px_f0 _]
    rfl
  · rw [if_neg (by decide), if_pos (by decide), if_pos (by decide), if_pos (by decide), if_pos (by decide)]
    simp (disch := omega) only [px_mS, px_bs, px_lit, h, nI_add]
    rw [px_modG (by decide) (by decide), px_mul, nI_1, px_f24 _]
    rfl
  · rw [if_neg (by decide), if_pos (by decide), if_pos (by decide), if_pos (by decide), if_pos (by decide)]
    simp (disch := omega) only [px_mS, px_bs, px_lit, h, nI_add]
    rw [px_modG (by decide) (by decide), px_mul, nI_1, px_f16 _]
    rfl
  · rw [if_neg (by decide), if_pos (by decide), if_pos (by decide), if_pos (by decide), if_pos (by decide)]
    simp (disch := omega) only [px_mS, px_bs, px_lit, h, nI_add]
    rw [px_modG (by decide) (by decide), px_mul, nI_1, px_f8 _]
    rfl
  · rw [if_neg (by decide), if_pos (by decide), if_pos (by decide), if_pos (by decide), if_pos (by decide)]
    simp (disch := omega) only [px_mS, px_bs, px_lit, h, nI_add]
    rw [px_modG (by decide) (by decide), px_mul, nI_1, px_f0 _]
    rfl
theorem px_fd_len (x1 x2 x3 x4 x5 : Int32) : (px_fd x1 x2 x3 x4 x5).length = 20 := rfl
theorem pm_feed_go (T : List UInt8) (x1 x2 x3 x4 x5 : Int32) (hT : px_tp M T) (hn : T.length + 20 ≤ 1600) : ∀ (n k f : Nat), 20 = k + n → n < f → b_mdl_feed_34 f (px_W b I V G R (va_up M 317 (px_blu (M 317) T.length ((px_fd x1 x2 x3 x4 x5).take k))) p) (b + 316) x1 x2 x3 x4 x5 (nI k) = some (nI (T.length + 20), px_W b I V G R (px_u2 (va_up M 317 (px_blu (M 317) T.length (px_fd x1 x2 x3 x4 x5))) 316 2 (nI (T.length + 20))) p) := by
  have h1 : ∀ l : List UInt8, va_up M 317 (px_blu (M 317) T.length l) 316 2 = nI T.length := fun l => by rw [px_va_ne _ _ _ _ (by decide), hT.1]
  intro n
  induction n with
  | zero =>
    intro k f hk hf
    obtain ⟨f, rfl⟩ : ∃ g, f = g + 1 := ⟨f - 1, by omega⟩
    have hk' : k = 20 := by omega
    subst hk'
    rw [b_mdl_feed_34, if_pos (by decide)]
    simp (disch := omega) only [px_mS, px_bs, px_modG, px_lit, px_mul, nI_add, px_u2_ne, px_u2_eq, nI_1, rc_b2, px_sxl, px_low_sx, px_low_u, if_true, if_false, h1]
    rw [List.take_of_length_le (by rw [px_fd_len]; omega)]
  | succ n ih =>
    intro k f hk hf
    obtain ⟨f, rfl⟩ : ∃ g, f = g + 1 := ⟨f - 1, by omega⟩
    rw [pm_feed_step x1 x2 x3 x4 x5 f k T.length (by omega) hn (h1 _)]
    have e1 : px_u2 (va_up M 317 (px_blu (M 317) T.length ((px_fd x1 x2 x3 x4 x5).take k))) 317 (T.length + k) (rc_u ((px_fd x1 x2 x3 x4 x5).getD k 0)) = va_up M 317 (px_blu (M 317) T.length ((px_fd x1 x2 x3 x4 x5).take (k + 1))) := by
      rw [px_u2_va, px_va_va, px_va_eq]
      have e2 := px_blu_snoc (M 317) T.length ((px_fd x1 x2 x3 x4 x5).take k) ((px_fd x1 x2 x3 x4 x5).getD k 0)
      rw [px_take_snoc _ _ (by rw [px_fd_len]; omega), List.length_take, px_fd_len, Nat.min_eq_left (by omega)] at e2
      rw [e2]
    rw [e1]
    exact ih (k + 1) f (by omega) (by omega)
theorem pm_feed (T : List UInt8) (x1 x2 x3 x4 x5 : Int32) (hT : px_tp M T) : f_mdl_feed (px_W b I V G R M p) (b + 316) x1 x2 x3 x4 x5 = if T.length + 20 ≤ 1600 then some (nI (T.length + 20), px_W b I V G R (px_u2 (va_up (px_u2 M 316 0 0) 317 (px_blu (M 317) T.length (px_fd x1 x2 x3 x4 x5))) 316 2 (nI (T.length + 20))) p) else some (0, px_W b I V G R (px_u2 M 316 0 1) p) := by
  have hl := hT.2.1
  unfold f_mdl_feed b_mdl_feed_19
  generalize hF : (5000 : Nat) = fu
  simp (disch := omega) only [px_mS, px_bs, px_modG, px_lit, px_mul, nI_add, px_u2_ne, px_u2_eq, nI_1, rc_b2, px_sxl, px_low_sx, px_low_u, if_true, if_false, hT.1, px_le, px_lt, px_eq, px_lt0, px_le0, px_0le, px_eq0, px_eq1, px_msub2, px_msub3]
  by_cases c : T.length + 20 ≤ 1600
  · rw [if_pos c, if_pos c, if_pos (by decide)]
    have hT' : px_tp (px_u2 M 316 0 0) T := ⟨by simp (disch := omega) only [px_mS, px_bs, px_modG, px_lit, px_mul, nI_add, px_u2_ne, px_u2_eq, nI_1, rc_b2, px_sxl, px_low_sx, px_low_u, if_true, if_false, hT.1], hT.2.1, fun i hi => by simp (disch := omega) only [px_mS, px_bs, px_modG, px_lit, px_mul, nI_add, px_u2_ne, px_u2_eq, nI_1, rc_b2, px_sxl, px_low_sx, px_low_u, if_true, if_false]; exact hT.2.2 i hi⟩
    have h0 := pm_feed_go (b := b) (I := I) (V := V) (G := G) (R := R) (p := p) T x1 x2 x3 x4 x5 hT' c 20 0 fu (by omega) (by omega)
    rw [List.take_zero, px_blu_nil, px_va_id, nI_0] at h0
    rw [h0, px_u2_sl _ _ _ _ _ (by decide)]
  · rw [if_neg c, if_neg c, if_neg (by decide)]
theorem px_tp_feed (T : List UInt8) (x1 x2 x3 x4 x5 : Int32) (hT : px_tp M T) (hn : T.length + 20 ≤ 1600) : px_tp (px_u2 (va_up (px_u2 M 316 0 0) 317 (px_blu (M 317) T.length (px_fd x1 x2 x3 x4 x5))) 316 2 (nI (T.length + 20))) (T ++ px_fd x1 x2 x3 x4 x5) := by
  refine ⟨by rw [px_u2_eq, List.length_append, px_fd_len], by rw [List.length_append, px_fd_len]; exact hn, fun i hi => ?_⟩
  rw [px_u2_ne _ _ _ _ _ _ (by omega), px_va_eq]
  rw [List.length_append, px_fd_len] at hi
  unfold px_blu
  rw [px_fd_len]
  by_cases h : i < T.length
  · rw [if_neg (by omega), hT.2.2 i h, List.getD_eq_getElem?_getD, List.getD_eq_getElem?_getD, List.getElem?_append_left h]
  · rw [if_pos (by omega), List.getD_eq_getElem?_getD, List.getD_eq_getElem?_getD, List.getElem?_append_right (by omega)]
end PX
