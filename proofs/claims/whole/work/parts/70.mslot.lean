/-! THE REFERENCE, 1: its slots -/
def px_ms (M : Nat → Nat → Int32) (k : Nat) (l : List UInt8) : Nat → Nat → Int32 := va_up (va_up M 318 (px_blk (M 318) (1600 * k) l)) 319 (upd (M 319) k (nI l.length))
theorem px_ms_len (M : Nat → Nat → Int32) (k : Nat) (l : List UInt8) : px_ms M k l 319 k = nI l.length := by simp [px_ms, va_up, upd]
theorem px_ms_ne (M : Nat → Nat → Int32) (k : Nat) (l : List UInt8) (o : Nat) (h : o ≠ 318) (h' : o ≠ 319) : px_ms M k l o = M o := by simp [px_ms, va_up, h, h']
theorem px_ms_snoc (M : Nat → Nat → Int32) (k : Nat) (l : List UInt8) (x : UInt8) : px_u2 (px_u2 (px_ms M k l) 318 (1600 * k + l.length) (rc_sx x)) 319 k (nI (l.length + 1)) = px_ms M k (l ++ [x]) := by
  rw [px_u2_va, px_u2_va]
  have e1 : px_ms M k l 318 = px_blk (M 318) (1600 * k) l := by simp [px_ms, va_up]
  rw [e1, px_blk_snoc]
  funext o i
  by_cases h9 : o = 319
  · subst h9
    simp [va_up, px_ms, upd]
    by_cases hi : i = k <;> simp [hi]
  · by_cases h8 : o = 318
    · subst h8; simp [va_up, px_ms]
    · simp [va_up, px_ms, h8, h9]
section PX
variable {b : Nat} {I : Nat → Nat → Int32} {V : Nat → Nat → Int64} {G : Nat → Nat → Nat} {R : Nat → List UInt8} {M : Nat → Nat → Int32} {p : px_P} {e : Nat}
theorem pm_slotByte (j k : Nat) (l : List UInt8) (x : Int32) (hk : j % 64 = k) (hj : j < 2 ^ 31) (hl : l.length < 1600) : f_mdl_slotByte (px_W b I V G R (px_ms M k l) p) (b + 316) (nI j) x = some (px_W b I V G R (px_ms M k (l ++ [rc_lowb x])) p) := by
  subst hk
  have e1 := px_ms_len M (j % 64) l
  simp (disch := omega) only [f_mdl_slotByte, f_mdl_base, px_mS, px_bs, px_modG, px_lit, px_mul, nI_add, px_u2_ne, px_u2_eq, nI_1, rc_b2, px_sxl, px_low_sx, px_low_u, if_true, if_false, e1, px_ms_snoc]
theorem pm_slotWord_go (f j k : Nat) (l : List UInt8) (x : Int32) (hk : j % 64 = k) (hj : j < 2 ^ 31) (hl : l.length + 4 ≤ 1600) : b_mdl_slotWord_3 (f + 5) (px_W b I V G R (px_ms M k l) p) (b + 316) (nI j) x 24 = some (px_W b I V G R (px_ms M k (l ++ rc_bw x)) p) := by
  rw [b_mdl_slotWord_3, if_neg (by decide), px_rc_m, Option.bind_some, pm_slotByte j k l _ hk hj (by omega), Option.bind_some]
  rw [b_mdl_slotWord_3, if_neg (by decide), px_rc_m, Option.bind_some, pm_slotByte j k _ _ hk hj (by simp; omega), Option.bind_some]
  rw [b_mdl_slotWord_3, if_neg (by decide), px_rc_m, Option.bind_some, pm_slotByte j k _ _ hk hj (by simp; omega), Option.bind_some]
  rw [b_mdl_slotWord_3, if_neg (by decide), px_rc_m, Option.bind_some, pm_slotByte j k _ _ hk hj (by simp; omega), Option.bind_some]
  rw [b_mdl_slotWord_3, if_pos (by decide)]
  simp only [show (24 : Int32) - 8 = 16 by decide, show (16 : Int32) - 8 = 8 by decide, show (8 : Int32) - 8 = 0 by decide, px_sh24, px_sh16, px_sh8, px_sh0, List.append_assoc]
  rfl
theorem pm_slotWord (j k : Nat) (l : List UInt8) (x : Int32) (hk : j % 64 = k) (hj : j < 2 ^ 31) (hl : l.length + 4 ≤ 1600) : f_mdl_slotWord (px_W b I V G R (px_ms M k l) p) (b + 316) (nI j) x = some (px_W b I V G R (px_ms M k (l ++ rc_bw x)) p) := pm_slotWord_go 4995 j k l x hk hj hl
theorem pm_newSlot (n : Nat) (hn : n < 2 ^ 31) (h : M 316 5 = nI n) : f_mdl_newSlot (px_W b I V G R M p) (b + 316) = some (nI n, px_W b I V G R (px_ms (px_u2 M 316 5 (nI (n + 1))) (n % 64) []) p) := by
  simp (disch := omega) only [f_mdl_newSlot, px_mS, px_bs, px_modG, px_lit, px_mul, nI_add, px_u2_ne, px_u2_eq, nI_1, rc_b2, px_sxl, px_low_sx, px_low_u, if_true, if_false, h, nI_pred]
  congr 3
  funext o i
  unfold px_ms px_u2 va_up upd
  rw [px_blk_nil]
  by_cases h9 : o = 319
  · subst h9; simp; rfl
  · by_cases h8 : o = 318
    · subst h8; simp
    · simp [h8, h9]
end PX
