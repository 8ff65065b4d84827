/-! THE REFERENCE, 6: call, send -/
/-- a long as bytes -/
def px_bl (v : Int64) : List UInt8 := rc_bw ((v >>> ((32 : Int32).toInt64 &&& 63)).toInt32) ++ rc_bw v.toInt32
def px_fi (n : Nat) : Nat := (n + 3) / 4 * 4
def px_cb (x1 x2 x3 : Int32) (T : List UInt8) (z : Int32) (v : Int64) : List UInt8 := rc_bw x1 ++ rc_bw 0 ++ rc_bw 2 ++ rc_bw 400100 ++ rc_bw x2 ++ rc_bw x3 ++ rc_bw 0 ++ rc_bw 0 ++ rc_bw 0 ++ rc_bw 0 ++ rc_bw (nI T.length) ++ (T ++ List.replicate (px_fi T.length - T.length) 0) ++ (if z = 0 then [] else px_bl v)
def px_one (l : List UInt8) : List UInt8 := rc_bw ((-2147483648) ||| nI l.length) ++ l
theorem px_bl_len (v : Int64) : (px_bl v).length = 8 := rfl
section PX
variable {b : Nat} {I : Nat → Nat → Int32} {V : Nat → Nat → Int64} {G : Nat → Nat → Nat} {R : Nat → List UInt8} {M : Nat → Nat → Int32} {p : px_P} {e : Nat}
theorem pm_call_fill (T : List UInt8) (hT : px_tp M T) (z : Int32) (v : Int64) (j k : Nat) (l : List UInt8) (hk : j % 64 = k) (hj : j < 2 ^ 31) (h16 : T.length ≤ 16) (hl : l.length ≤ 100) : ∀ (m i f : Nat), px_fi T.length = i + m → m < f → b_mdl_call_151 f (px_W b I V G R (px_ms M k (l ++ (T ++ List.replicate (px_fi T.length - T.length) 0).take i)) p) (b + 316) z v (nI (px_fi T.length)) (nI j) (nI i) = some (nI j, px_W b I V G R (px_u2 (px_ms M k (l ++ (T ++ List.replicate (px_fi T.length - T.length) 0) ++ (if z = 0 then [] else px_bl v))) 316 2 0) p) := by
  obtain ⟨h1, h2, h3⟩ := id hT
  have hfl : (T ++ List.replicate (px_fi T.length - T.length) (0 : UInt8)).length = px_fi T.length := by
    rw [List.length_append, List.length_replicate]; unfold px_fi; omega
  have hf20 : px_fi T.length ≤ 20 := by unfold px_fi; omega
  intro m
  induction m with
  | zero =>
    intro i f hi hf
    obtain ⟨f, rfl⟩ : ∃ g, f = g + 1 := ⟨f - 1, by omega⟩
    have hin : i = px_fi T.length := by omega
    subst hin
    rw [b_mdl_call_151]
    unfold b_mdl_call_216
    rw [List.take_of_length_le (by omega)]
    simp (disch := omega) only [px_mS, px_bs, px_modG, px_lit, px_mul, nI_add, px_u2_ne, px_u2_eq, nI_1, rc_b2, px_sxl, px_low_sx, px_low_u, if_true, if_false, px_le, px_lt, px_eq, px_lt0, px_le0, px_0le, px_eq0, px_eq1, px_msub2, px_msub3, Nat.le_refl]
    by_cases hz : z = 0
    · simp only [hz, if_true, List.append_nil]
    · simp only [hz, if_false]
      rw [pm_slotWord j k _ _ hk hj (by simp only [List.length_append] at hfl ⊢; omega), px_bs]
      simp (disch := omega) only [px_mS, px_bs, px_modG, px_lit, px_mul, nI_add, px_u2_ne, px_u2_eq, nI_1, rc_b2, px_sxl, px_low_sx, px_low_u, if_true, if_false]
      rw [pm_slotWord j k _ _ hk hj (by simp only [List.length_append, px_bw_len] at hfl ⊢; omega), px_bs]
      simp (disch := omega) only [px_mS, px_bs, px_modG, px_lit, px_mul, nI_add, px_u2_ne, px_u2_eq, nI_1, rc_b2, px_sxl, px_low_sx, px_low_u, if_true, if_false]
      unfold px_bl
      simp only [List.append_assoc, px_lit]
  | succ m ih =>
    intro i f hi hf
    obtain ⟨f, rfl⟩ : ∃ g, f = g + 1 := ⟨f - 1, by omega⟩
    have hs := px_take_snoc (T ++ List.replicate (px_fi T.length - T.length) (0 : UInt8)) i (by omega)
    have hlt : (l ++ (T ++ List.replicate (px_fi T.length - T.length) (0 : UInt8)).take i).length < 1600 := by
      rw [List.length_append, List.length_take]; omega
    rw [b_mdl_call_151]
    unfold b_mdl_call_181
    simp (disch := omega) only [px_mS, px_bs, px_modG, px_lit, px_mul, nI_add, px_u2_ne, px_u2_eq, nI_1, rc_b2, px_sxl, px_low_sx, px_low_u, if_true, if_false, px_le, px_lt, px_eq, px_lt0, px_le0, px_0le, px_eq0, px_eq1, px_msub2, px_msub3, px_ms_ne, h1]
    rw [if_neg (by omega)]
    by_cases c : T.length ≤ i
    · rw [if_pos c, pm_slotByte j k _ _ hk hj hlt, px_bs]
      have e0 : (T ++ List.replicate (px_fi T.length - T.length) (0 : UInt8)).getD i 0 = rc_lowb 0 := by
        rw [List.getD_eq_getElem?_getD, List.getElem?_append_right c, List.getElem?_replicate]
        split <;> rfl
      rw [e0] at hs
      rw [List.append_assoc, hs]
      exact ih (i + 1) f (by omega) (by omega)
    · rw [if_neg c]
      have e0 : (T ++ List.replicate (px_fi T.length - T.length) (0 : UInt8)).getD i 0 = T.getD i 0 := by
        rw [List.getD_eq_getElem?_getD, List.getD_eq_getElem?_getD, List.getElem?_append_left (by omega)]
      simp (disch := omega) only [px_mS, px_bs, px_modG, px_lit, px_mul, nI_add, px_u2_ne, px_u2_eq, nI_1, rc_b2, px_sxl, px_low_sx, px_low_u, if_true, if_false, h3]
      rw [pm_slotByte j k _ _ hk hj hlt, px_bs, px_low_u]
      rw [e0] at hs
      rw [List.append_assoc, hs]
      exact ih (i + 1) f (by omega) (by omega)
theorem pm_call_0 (f j k : Nat) (z : Int32) (v : Int64) (x7 : Int32) (l : List UInt8) (hk : j % 64 = k) (hj : j < 2 ^ 31) (hl : l.length ≤ 100) (n : Nat) (h : M 316 2 = nI n) : b_mdl_call_119 (f + 5) (px_W b I V G R (px_ms M k l) p) (b + 316) z v x7 (nI j) 0 = b_mdl_call_151 5000 (px_W b I V G R (px_ms M k (l ++ rc_bw 0 ++ rc_bw 0 ++ rc_bw 0 ++ rc_bw 0 ++ rc_bw (nI n))) p) (b + 316) z v x7 (nI j) 0 := by
  rw [b_mdl_call_119, if_neg (by decide), px_rc_m, px_bs, pm_slotWord j k _ _ hk hj (by omega), px_bs]
  rw [b_mdl_call_119, if_neg (by decide), px_rc_m, px_bs, pm_slotWord j k _ _ hk hj (by simp only [List.length_append, px_bw_len]; omega), px_bs]
  rw [b_mdl_call_119, if_neg (by decide), px_rc_m, px_bs, pm_slotWord j k _ _ hk hj (by simp only [List.length_append, px_bw_len]; omega), px_bs]
  rw [b_mdl_call_119, if_neg (by decide), px_rc_m, px_bs, pm_slotWord j k _ _ hk hj (by simp only [List.length_append, px_bw_len]; omega), px_bs]
  rw [b_mdl_call_119, if_pos (by decide)]
  generalize hF : (5000 : Nat) = fu
  simp (disch := omega) only [px_mS, px_bs, px_ms_ne, h]
  rw [pm_slotWord j k _ _ hk hj (by simp only [List.length_append, px_bw_len]; omega), px_bs]
theorem pm_call (T : List UInt8) (hT : px_tp M T) (x1 x2 x3 z : Int32) (v : Int64) (n : Nat) (hn : n < 2 ^ 30) (h : M 316 5 = nI n) : f_mdl_call (px_W b I V G R M p) (b + 316) x1 x2 x3 z v = if T.length ≤ 16 then some (nI n, px_W b I V G R (px_u2 (px_ms (px_u2 (px_u2 M 316 0 0) 316 5 (nI (n + 1))) (n % 64) (px_one (px_cb x1 x2 x3 T z v))) 316 2 0) p) else some (0, px_W b I V G R (px_u2 M 316 0 1) p) := by
  obtain ⟨h1, h2, h3⟩ := id hT
  unfold f_mdl_call b_mdl_call_15
  by_cases c : T.length ≤ 16
  · have hT' : px_tp (px_u2 (px_u2 M 316 0 0) 316 5 (nI (n + 1))) T := ⟨by simp (disch := omega) only [px_mS, px_bs, px_modG, px_lit, px_mul, nI_add, px_u2_ne, px_u2_eq, nI_1, rc_b2, px_sxl, px_low_sx, px_low_u, if_true, if_false, h1], h2, fun i hi => by simp (disch := omega) only [px_mS, px_bs, px_modG, px_lit, px_mul, nI_add, px_u2_ne, px_u2_eq, nI_1, rc_b2, px_sxl, px_low_sx, px_low_u, if_true, if_false]; exact h3 i hi⟩
    have key : ∀ (x : Nat) (hx : x = 44 + px_fi T.length + (if z = 0 then 0 else 8)), b_mdl_call_64 (px_W b I V G R (px_ms (px_u2 (px_u2 M 316 0 0) 316 5 (nI (n + 1))) (n % 64) []) p) (b + 316) x1 x2 x3 z v (nI (px_fi T.length)) (nI n) (some (b + 316)) (nI n) (nI (44 + px_fi T.length)) (nI (if z = 0 then 0 else 8)) = some (nI n, px_W b I V G R (px_u2 (px_ms (px_u2 (px_u2 M 316 0 0) 316 5 (nI (n + 1))) (n % 64) (px_one (px_cb x1 x2 x3 T z v))) 316 2 0) p) := by
      intro x hx
      unfold b_mdl_call_64
      have hf20 : px_fi T.length ≤ 20 := by unfold px_fi; omega
      have hx80 : x ≤ 80 := by split at hx <;> omega
      rw [nI_add, ← hx]
      rw [px_rc_m, px_bs, px_last _ (by omega), pm_slotWord n (n % 64) _ _ rfl (by omega) (by simp), px_bs]
      rw [px_rc_m, px_bs, pm_slotWord n (n % 64) _ _ rfl (by omega) (by simp only [List.length_append, px_bw_len, List.length_nil]; omega), px_bs]
      rw [px_rc_m, px_bs, pm_slotWord n (n % 64) _ _ rfl (by omega) (by simp only [List.length_append, px_bw_len, List.length_nil]; omega), px_bs]
      rw [px_rc_m, px_bs, pm_slotWord n (n % 64) _ _ rfl (by omega) (by simp only [List.length_append, px_bw_len, List.length_nil]; omega), px_bs]
      rw [px_rc_m, px_bs, pm_slotWord n (n % 64) _ _ rfl (by omega) (by simp only [List.length_append, px_bw_len, List.length_nil]; omega), px_bs]
      rw [px_rc_m, px_bs, pm_slotWord n (n % 64) _ _ rfl (by omega) (by simp only [List.length_append, px_bw_len, List.length_nil]; omega), px_bs]
      rw [px_rc_m, px_bs, pm_slotWord n (n % 64) _ _ rfl (by omega) (by simp only [List.length_append, px_bw_len, List.length_nil]; omega), px_bs]
      have e1 := fun l hl => pm_call_0 (b := b) (I := I) (V := V) (G := G) (R := R) (p := p) (M := px_u2 (px_u2 M 316 0 0) 316 5 (nI (n + 1))) 4995 n (n % 64) z v (nI (px_fi T.length)) l rfl (by omega) hl T.length hT'.1
      have e2 := fun l hl => pm_call_fill (b := b) (I := I) (V := V) (G := G) (R := R) (p := p) T hT' z v n (n % 64) l rfl (by omega) c hl (px_fi T.length) 0 5000 (by omega) (by omega)
      simp only [List.take_zero, List.append_nil, nI_0] at e2
      rw [e1 _ (by simp only [List.length_append, px_bw_len, List.length_nil]; omega), e2 _ (by simp only [List.length_append, px_bw_len, List.length_nil]; omega)]
      have hlen : (px_cb x1 x2 x3 T z v).length = x := by
        unfold px_cb
        have hff : T.length + (px_fi T.length - T.length) = px_fi T.length := by unfold px_fi; omega
        by_cases hz : z = 0
        · simp only [hz, if_true, List.length_append, px_bw_len, List.length_replicate, List.length_nil] at hx ⊢
          omega
        · simp only [hz, if_false, List.length_append, px_bw_len, List.length_replicate, px_bl_len] at hx ⊢
          omega
      unfold px_one
      rw [hlen]
      unfold px_cb
      simp only [List.append_assoc, List.nil_append]
    have k1 := key _ rfl
    generalize b_mdl_call_64 = K at *
    simp (disch := omega) only [px_mS, px_bs, px_modG, px_lit, px_mul, nI_add, px_u2_ne, px_u2_eq, nI_1, rc_b2, px_sxl, px_low_sx, px_low_u, if_true, if_false, px_le, px_lt, px_eq, px_lt0, px_le0, px_0le, px_eq0, px_eq1, px_msub2, px_msub3, h1]
    rw [if_pos c, if_pos c, if_pos (by decide)]
    rw [pm_newSlot n (by omega) (by simp (disch := omega) only [px_mS, px_bs, px_modG, px_lit, px_mul, nI_add, px_u2_ne, px_u2_eq, nI_1, rc_b2, px_sxl, px_low_sx, px_low_u, if_true, if_false, h])]
    simp (disch := omega) only [px_mS, px_bs, px_modG, px_lit, px_mul, nI_add, px_u2_ne, px_u2_eq, nI_1, rc_b2, px_sxl, px_low_sx, px_low_u, if_true, if_false, px_div]
    unfold px_fi at k1
    by_cases hz : z = 0
    · simp only [hz, if_true] at k1 ⊢
      exact k1
    · simp only [hz, if_false] at k1 ⊢
      exact k1
  · generalize b_mdl_call_64 = K
    simp (disch := omega) only [px_mS, px_bs, px_modG, px_lit, px_mul, nI_add, px_u2_ne, px_u2_eq, nI_1, rc_b2, px_sxl, px_low_sx, px_low_u, if_true, if_false, px_le, px_lt, px_eq, px_lt0, px_le0, px_0le, px_eq0, px_eq1, px_msub2, px_msub3, h1]
    rw [if_neg c, if_neg c, if_neg (by decide)]
theorem pm_send_go (B : List UInt8) (j k x : Nat) (l : List UInt8) (hk : j % 64 = k) (hj : j < 2 ^ 31) (hx : x < 32) (h1 : M 333 x = nI B.length) (h2 : px_agr (M 334) (400 * x) B) (hB : B.length ≤ 400) (hl : l.length ≤ 100) : ∀ (m i f : Nat), B.length = i + m → m < f → b_mdl_send_23 f (px_W b I V G R (px_ms M k (l ++ B.take i)) p) (b + 316) (nI x) (nI j) (nI i) = some (px_W b I V G R (px_ms M k (l ++ B)) p) := by
  intro m
  induction m with
  | zero =>
    intro i f hi hf
    obtain ⟨f, rfl⟩ : ∃ g, f = g + 1 := ⟨f - 1, by omega⟩
    rw [b_mdl_send_23]
    simp (disch := omega) only [px_mS, px_bs, px_modG, px_lit, px_mul, nI_add, px_u2_ne, px_u2_eq, nI_1, rc_b2, px_sxl, px_low_sx, px_low_u, if_true, if_false, px_le, px_lt, px_eq, px_lt0, px_le0, px_0le, px_eq0, px_eq1, px_msub2, px_msub3, px_ms_ne, h1]
    rw [if_pos (by omega), List.take_of_length_le (by omega)]
  | succ m ih =>
    intro i f hi hf
    obtain ⟨f, rfl⟩ : ∃ g, f = g + 1 := ⟨f - 1, by omega⟩
    have h3 := h2 i (by omega)
    rw [b_mdl_send_23]
    simp (disch := omega) only [px_mS, px_bs, px_modG, px_lit, px_mul, nI_add, px_u2_ne, px_u2_eq, nI_1, rc_b2, px_sxl, px_low_sx, px_low_u, if_true, if_false, px_le, px_lt, px_eq, px_lt0, px_le0, px_0le, px_eq0, px_eq1, px_msub2, px_msub3, px_ms_ne, h1, h3]
    rw [if_neg (by omega), pm_slotByte j k _ _ hk hj (by rw [List.length_append, List.length_take]; omega), px_bs, px_low_sx, List.append_assoc, px_take_snoc _ _ (by omega)]
    exact ih (i + 1) f (by omega) (by omega)
theorem pm_send (B : List UInt8) (x n : Nat) (hn : n < 2 ^ 30) (h : M 316 5 = nI n) (hx : x < 32) (h1 : M 333 x = nI B.length) (h2 : px_agr (M 334) (400 * x) B) (hB : B.length ≤ 400) : f_mdl_send (px_W b I V G R M p) (b + 316) (nI x) = some (px_W b I V G R (px_ms (px_u2 M 316 5 (nI (n + 1))) (n % 64) (px_one B)) p) := by
  unfold f_mdl_send
  generalize hF : (5000 : Nat) = fu
  simp (disch := omega) only [px_mS, px_bs, px_modG, px_lit, px_mul, nI_add, px_u2_ne, px_u2_eq, nI_1, rc_b2, px_sxl, px_low_sx, px_low_u, if_true, if_false]
  rw [pm_newSlot n (by omega) h]
  simp (disch := omega) only [px_mS, px_bs, px_modG, px_lit, px_mul, nI_add, px_u2_ne, px_u2_eq, nI_1, rc_b2, px_sxl, px_low_sx, px_low_u, if_true, if_false, px_ms_ne, h1]
  rw [px_last _ (by omega), pm_slotWord n (n % 64) _ _ rfl (by omega) (by simp), px_bs, List.nil_append]
  have e1 := pm_send_go (b := b) (I := I) (V := V) (G := G) (R := R) (p := p) (M := px_u2 M 316 5 (nI (n + 1))) B n (n % 64) x (rc_bw ((-2147483648) ||| nI B.length)) rfl (by omega) hx (by rw [px_u2_ne _ _ _ _ _ _ (by omega)]; exact h1) (by rw [px_u2_sl _ _ _ _ _ (by decide)]; exact h2) hB (by rw [px_bw_len]; omega) B.length 0 fu (by omega) (by omega)
  rw [List.take_zero, List.append_nil, nI_0] at e1
  exact e1
end PX
