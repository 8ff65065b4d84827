/-! THE CLASS, 2: longs, truths, bytes into rows -/
theorem px_hi (v : Int64) : ((v.toUInt64 >>> ((32 : Int32).toInt64.toUInt64 &&& Int64.toUInt64 63)).toInt64).toInt32 = (v >>> ((32 : Int32).toInt64 &&& 63)).toInt32 := by
  apply Int32.toBitVec_inj.mp
  simp
  apply BitVec.eq_of_getLsbD_eq
  intro i hi
  rw [BitVec.getLsbD_signExtend, BitVec.getLsbD_signExtend, BitVec.getLsbD_sshiftRight, BitVec.getLsbD_ushiftRight]
  simp [show 32 + i < 64 by omega, show ¬ 64 ≤ i by omega, show i < 64 by omega]
section PX
variable {b : Nat} {I : Nat → Nat → Int32} {V : Nat → Nat → Int64} {G : Nat → Nat → Nat} {R : Nat → List UInt8} {M : Nat → Nat → Int32} {p : px_P} {e : Nat}
theorem pc_addLong (o : Nat) (v : Int64) (h : px_rw o = true) (hw : px_Wf b p e) (hl : (R o).length + 8 ≤ 2048) : ∃ p', px_Wf b p' e ∧ g_row_addLong (px_W b I V G R M p) (b + o) v = some (px_W b I V G (va_up R o (R o ++ px_bl v)) M p') := by
  unfold g_row_addLong
  rw [px_rcR o h, px_bs, px_hi]
  obtain ⟨p1, w1, h1⟩ := px_addWord (b := b) (I := I) (V := V) (G := G) (R := R) (M := M) o ((v >>> ((32 : Int32).toInt64 &&& 63)).toInt32) h hw (by omega)
  rw [px_bnd h1, px_rcR o h, px_bs]
  obtain ⟨p2, w2, h2⟩ := px_addWord (b := b) (I := I) (V := V) (G := G) (R := va_up R o (R o ++ rc_bw ((v >>> ((32 : Int32).toInt64 &&& 63)).toInt32))) (M := M) o v.toInt32 h w1 (by rw [px_va_eq, List.length_append, px_bw_len]; omega)
  rw [px_bnd h2, px_va_va, px_va_eq, List.append_assoc]
  exact ⟨p2, w2, rfl⟩
theorem pc_addNobody (o : Nat) (h : px_rw o = true) (hw : px_Wf b p e) (hl : (R o).length + 8 ≤ 2048) : ∃ p', px_Wf b p' e ∧ f_rec_addNobody (px_W b I V G R M p) (some (b + o)) = some (px_W b I V G (va_up R o (R o ++ (rc_bw 0 ++ rc_bw 0))) M p') := by
  unfold f_rec_addNobody
  rw [px_rcR o h, px_bs]
  obtain ⟨p1, w1, h1⟩ := px_addWord (b := b) (I := I) (V := V) (G := G) (R := R) (M := M) o 0 h hw (by omega)
  rw [px_bnd h1, px_rcR o h, px_bs]
  obtain ⟨p2, w2, h2⟩ := px_addWord (b := b) (I := I) (V := V) (G := G) (R := va_up R o (R o ++ rc_bw 0)) (M := M) o 0 h w1 (by rw [px_va_eq, List.length_append, px_bw_len]; omega)
  rw [px_bnd h2, px_va_va, px_va_eq, List.append_assoc]
  exact ⟨p2, w2, rfl⟩
theorem pc_addTruth (o : Nat) (x : Int32) (h : px_rw o = true) (hw : px_Wf b p e) (hl : (R o).length + 4 ≤ 2048) : ∃ p', px_Wf b p' e ∧ g_row_addTruth (px_W b I V G R M p) (b + o) x = some (px_W b I V G (va_up R o (R o ++ rc_bw (if x = 0 then 0 else 1))) M p') := by
  obtain ⟨p1, w1, h1⟩ := px_addWord (b := b) (I := I) (V := V) (G := G) (R := R) (M := M) o (if x = 0 then 0 else 1) h hw hl
  refine ⟨p1, w1, ?_⟩
  unfold g_row_addTruth bg_row_addTruth_10
  by_cases q : x = 0
  · rw [if_pos q] at h1 ⊢
    rw [px_rcR o h, px_bs, px_bnd h1, if_pos q]
  · rw [if_neg q] at h1 ⊢
    rw [px_rcR o h, px_bs, px_bnd h1, if_neg q]
theorem pc_ab_loop (o n : Nat) (h : px_rw o = true) (hn : n ≤ 400) : ∀ (m i f : Nat) (R : Nat → List UInt8) (p : px_P), px_fi n = i + m → m < f → px_Wf b p e → (R o).length + m ≤ 2048 → ∃ p', px_Wf b p' e ∧ bg_row_addBytes_15 f (px_W b I V G R M p) (b + o) (nI n) (nI i) = some (px_W b I V G (va_up R o (R o ++ List.replicate m 0)) M p') := by
  have hfi : px_fi n ≤ 403 ∧ n ≤ px_fi n := by unfold px_fi; omega
  intro m
  induction m with
  | zero =>
    intro i f R p hi hf hw hl
    obtain ⟨f, rfl⟩ : ∃ q, f = q + 1 := ⟨f - 1, by omega⟩
    rw [bg_row_addBytes_15, px_bnd (px_filled n hn)]
    dsimp only
    rw [if_pos (nI_le (by omega) (by omega)), List.replicate_zero, List.append_nil, px_va_id]
    exact ⟨p, hw, rfl⟩
  | succ m ih =>
    intro i f R p hi hf hw hl
    obtain ⟨f, rfl⟩ : ∃ q, f = q + 1 := ⟨f - 1, by omega⟩
    rw [bg_row_addBytes_15, px_bnd (px_filled n hn)]
    dsimp only
    obtain ⟨p1, w1, h1⟩ := px_add (b := b) (I := I) (V := V) (G := G) (R := R) (M := M) o 0 h hw (by omega)
    rw [if_neg (nI_ge (by omega) (by omega)), px_rcR o h, px_bs, px_bnd h1, nI_1]
    obtain ⟨p2, w2, h2⟩ := ih (i + 1) f (va_up R o (R o ++ [rc_lowb 0])) p1 (by omega) (by omega) w1 (by rw [px_va_eq, List.length_append]; simp; omega)
    rw [h2, px_va_va, px_va_eq, List.append_assoc]
    exact ⟨p2, w2, rfl⟩
theorem pc_addBytes (o o' s n : Nat) (h : px_rw o = true) (h' : px_rw o' = true) (hne : o ≠ o') (hn : n ≤ 400) (hw : px_Wf b p e) (hs : s + n ≤ (R o').length) (hb : (R o').length < 2 ^ 31) (hl : (R o).length + 410 ≤ 2048) : ∃ p', px_Wf b p' e ∧ g_row_addBytes (px_W b I V G R M p) (b + o) (some (b + o')) (nI s) (nI n) = some (px_W b I V G (va_up R o (R o ++ (rc_bw (nI n) ++ (((R o').drop s).take n ++ List.replicate (px_fi n - n) 0)))) M p') := by
  have hfi : px_fi n ≤ 403 ∧ n ≤ px_fi n ∧ px_fi n ≤ n + 3 := by unfold px_fi; omega
  unfold g_row_addBytes
  generalize hF : (5000 : Nat) = fu
  rw [px_rcR o h, px_bs]
  obtain ⟨p1, w1, h1⟩ := px_addWord (b := b) (I := I) (V := V) (G := G) (R := R) (M := M) o (nI n) h hw (by omega)
  rw [px_bnd h1, px_rcR o h, px_bs]
  obtain ⟨p2, w2, h2⟩ := px_addPart (b := b) (I := I) (V := V) (G := G) (R := va_up R o (R o ++ rc_bw (nI n))) (M := M) o o' s n h h' hne w1 (by rw [px_va_ne _ _ _ _ (Ne.symm hne)]; exact hs) (by rw [px_va_ne _ _ _ _ (Ne.symm hne)]; exact hb) (by rw [px_va_eq, List.length_append, px_bw_len]; omega)
  rw [px_va_ne _ _ _ _ (Ne.symm hne), px_va_va, px_va_eq] at h2
  rw [px_bnd h2]
  obtain ⟨p3, w3, h3⟩ := pc_ab_loop (b := b) (I := I) (V := V) (G := G) (M := M) o n h hn (px_fi n - n) n fu (va_up R o (R o ++ rc_bw (nI n) ++ ((R o').drop s).take n)) p2 (by omega) (by omega) w2 (by rw [px_va_eq, List.length_append, List.length_append, px_bw_len, List.length_take, List.length_drop]; omega)
  rw [h3, px_va_va, px_va_eq, List.append_assoc, List.append_assoc]
  exact ⟨p3, w3, rfl⟩
end PX
