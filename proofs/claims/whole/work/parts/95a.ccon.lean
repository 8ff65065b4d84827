/-! THE CLASS, 10: connections and slots -/
theorem px_sgn (x : Int32) : (x &&& (-2147483648) = 0) = ¬ (x < 0) := by
  apply propext
  rw [Int32.lt_iff_toInt_lt]
  have e : (x &&& (-2147483648)).toBitVec = x.toBitVec &&& 2147483648#32 := by simp
  have hm : x.toBitVec.msb = decide (x.toInt < 0) := BitVec.msb_eq_toInt
  have h31 : x.toBitVec.msb = x.toBitVec.getLsbD 31 := by rw [BitVec.msb_eq_getLsbD_last]
  constructor
  · intro h hx
    have hx : x.toInt < 0 := hx
    have h2 : (x.toBitVec &&& 2147483648#32).getLsbD 31 = false := by rw [← e, h]; decide
    rw [BitVec.getLsbD_and, ← h31, hm, decide_eq_true hx, show (2147483648#32).getLsbD 31 = true by decide] at h2
    cases h2
  · intro h
    have h : ¬ x.toInt < 0 := h
    apply Int32.toBitVec_inj.mp
    rw [e]
    apply BitVec.eq_of_getLsbD_eq
    intro i hi
    rw [BitVec.getLsbD_and]
    by_cases q : i = 31
    · rw [q, ← h31, hm, decide_eq_false h]; rfl
    · have : (2147483648#32).getLsbD i = false := by
        have : ∀ j : Fin 31, (2147483648#32).getLsbD j.val = false := by decide
        exact this ⟨i, by omega⟩
      rw [this, Bool.and_false]
      rw [show Int32.toBitVec 0 = 0#32 by decide, BitVec.getLsbD_zero]
theorem px_and63 (n : Nat) (h : n < 2 ^ 31) : nI n &&& 63 = nI (n % 64) := by
  apply Int32.toBitVec_inj.mp
  unfold nI
  simp
  apply BitVec.eq_of_toNat_eq
  simp only [BitVec.toNat_and, BitVec.toNat_ofNat]
  rw [Nat.mod_eq_of_lt (show n < 2 ^ 32 by omega), Nat.mod_eq_of_lt (show 63 < 2 ^ 32 by decide), Nat.mod_eq_of_lt (show n % 64 < 2 ^ 32 by omega)]
  exact Nat.and_two_pow_sub_one_eq_mod n 6
def px_cc (I : Nat → Nat → Int32) (R : Nat → List UInt8) (c : Nat) (s : px_S) : Prop := I (228 + 22 * c) 2 = px_z s.2.2.2.2 ∧ I (228 + 22 * c) 3 = s.1 ∧ I (228 + 22 * c) 4 = nI s.2.1 ∧ I (228 + 22 * c) 5 = nI s.2.2.1 ∧ R (229 + 22 * c) = s.2.2.2.1
def px_kf (c : Nat) (I I' : Nat → Nat → Int32) (R R' : Nat → List UInt8) : Prop := (∀ o k, o ≠ 228 + 22 * c → I' o k = I o k) ∧ (∀ o, o ≠ 229 + 22 * c → R' o = R o)
theorem px_cc.same {I I' : Nat → Nat → Int32} {R R' : Nat → List UInt8} {c : Nat} {s : px_S} (h : px_cc I R c s) (h1 : ∀ k, I' (228 + 22 * c) k = I (228 + 22 * c) k) (h2 : R' (229 + 22 * c) = R (229 + 22 * c)) : px_cc I' R' c s := by
  obtain ⟨a1, a2, a3, a4, a5⟩ := h
  exact ⟨(h1 _).trans a1, (h1 _).trans a2, (h1 _).trans a3, (h1 _).trans a4, h2.trans a5⟩
section PX
variable {b : Nat} {I : Nat → Nat → Int32} {V : Nat → Nat → Int64} {G : Nat → Nat → Nat} {R : Nat → List UInt8} {M : Nat → Nat → Int32} {p : px_P} {e : Nat}
theorem pc_whole_end (c : Nat) (hc : c < 4) (hd : Int32) (lf : Nat) (hlf : lf < 2 ^ 31) (h2 : I (228 + 22 * c) 2 = 0) (h3 : I (228 + 22 * c) 3 = hd) (h4 : I (228 + 22 * c) 4 = nI 4) (h5 : I (228 + 22 * c) 5 = nI lf) : b_con_isWholeWith_43 (px_W b I V G R M p) (b + (228 + 22 * c)) = some (if lf = 0 then px_z (decide (hd < 0)) else 0, if lf = 0 then px_W b (px_u2 I (228 + 22 * c) 4 0) V G R M p else px_W b I V G R M p) := by
  unfold b_con_isWholeWith_43 b_con_isWholeWith_65 b_con_isWholeWith_87 rc_z1
  rw [px_gI_c_2 c hc, px_bs, h2, if_pos rfl, px_gI_c_4 c hc, px_bs, h4, if_neg (by decide), px_gI_c_5 c hc, px_bs, h5]
  by_cases q : lf = 0
  · rw [if_pos (by rw [q]; decide), px_pI_c_4 c hc, px_bs, px_gI_c_3 c hc, px_bs, px_u2_ne _ _ _ _ _ _ (by omega), h3, if_pos q, if_pos q]
    by_cases s : hd < 0
    · rw [if_neg (by rw [px_sgn]; exact fun u => u s), if_pos (Or.inr rfl), decide_eq_true s]; rfl
    · rw [if_pos (by rw [px_sgn]; exact s), if_pos (Or.inl rfl), decide_eq_false s]; rfl
  · rw [if_neg (by rw [px_le0 hlf]; exact q), if_pos (Or.inl rfl), if_neg q, if_neg q]
theorem pc_isWhole (c : Nat) (hc : c < 4) (s : px_S) (y : UInt8) (h : px_cc I R c s) (ok : px_sok s) (hw : px_Wf b p e) : ∃ I' R' p', px_Wf b p' e ∧ f_con_isWholeWith (px_W b I V G R M p) (b + (228 + 22 * c)) (rc_u y) = some (px_z (px_tk s y).2, px_W b I' V G R' M p') ∧ px_cc I' R' c (px_tk s y).1 ∧ px_kf c I I' R R' := by
  obtain ⟨hd, hb, lf, g, br⟩ := s
  obtain ⟨a2, a3, a4, a5, aR⟩ := h
  obtain ⟨k1, k2, k3, k4, k5, k6⟩ := ok
  dsimp only at a2 a3 a4 a5 aR k1 k2 k3 k4 k5 k6
  have hg := px_rG c hc
  unfold f_con_isWholeWith
  rw [px_gI_c_2 c hc, px_bs, a2]
  cases br with
  | true =>
    unfold px_tk rc_z1
    rw [if_pos rfl, if_neg (by decide), if_pos (Or.inl rfl)]
    exact ⟨I, R, p, hw, rfl, ⟨a2, a3, a4, a5, aR⟩, fun _ _ _ => rfl, fun _ _ => rfl⟩
  | false =>
    rw [if_pos (show px_z false = 0 from rfl), px_gI_c_4 c hc, px_bs, a4]
    have a2 : I (228 + 22 * c) 2 = 0 := a2
    have ht : ∀ s : px_S, s.2.2.2.2 = false → px_tk s y = if s.2.1 = 4 then
    if s.2.2.1 = 1 then ((s.1, 0, 0, s.2.2.2.1 ++ [y], false), decide (s.1 < 0)) else ((s.1, 4, s.2.2.1 - 1, s.2.2.2.1 ++ [y], false), false)
  else if s.2.1 < 3 then (((s.1 <<< ((8 : Int32) &&& 31)) ||| rc_u y, s.2.1 + 1, s.2.2.1, s.2.2.2.1, false), false)
  else if 1200 < s.2.2.2.1.length + (((s.1 <<< ((8 : Int32) &&& 31)) ||| rc_u y) &&& 2147483647).toNatClampNeg then (((s.1 <<< ((8 : Int32) &&& 31)) ||| rc_u y, 4, (((s.1 <<< ((8 : Int32) &&& 31)) ||| rc_u y) &&& 2147483647).toNatClampNeg, s.2.2.2.1, true), false)
  else if (((s.1 <<< ((8 : Int32) &&& 31)) ||| rc_u y) &&& 2147483647).toNatClampNeg = 0 then (((s.1 <<< ((8 : Int32) &&& 31)) ||| rc_u y, 0, 0, s.2.2.2.1, false), decide (((s.1 <<< ((8 : Int32) &&& 31)) ||| rc_u y) < 0))
  else (((s.1 <<< ((8 : Int32) &&& 31)) ||| rc_u y, 4, (((s.1 <<< ((8 : Int32) &&& 31)) ||| rc_u y) &&& 2147483647).toNatClampNeg, s.2.2.2.1, false), false) := by
      intro s hs
      unfold px_tk
      rw [if_neg (by rw [hs]; decide)]
    rw [ht _ rfl]
    dsimp only
    by_cases h4 : hb = 4
    · obtain ⟨l0, l1⟩ := k4 h4 rfl
      rw [if_pos h4]
      rw [h4] at a4 ⊢
      obtain ⟨p1, w1, h1⟩ := px_add (b := b) (I := I) (V := V) (G := G) (R := R) (M := M) (229 + 22 * c) (rc_u y) hg hw (by rw [aR]; omega)
      rw [px_low_u, aR] at h1
      rw [if_pos (by decide), px_gR_c_0 c hc, px_bs, px_rcR _ hg, px_bs, px_bnd h1, px_gI_c_5 c hc, px_bs, a5, px_pI_c_5 c hc, px_bs, show (1 : Int32) = nI 1 from rfl, px_sub (by omega)]
      rw [pc_whole_end c hc hd (lf - 1) (by omega) (by rw [px_u2_ne _ _ _ _ _ _ (by omega)]; exact a2) (by rw [px_u2_ne _ _ _ _ _ _ (by omega)]; exact a3) (by rw [px_u2_ne _ _ _ _ _ _ (by omega)]; exact a4) (px_u2_eq _ _ _ _)]
      by_cases q : lf = 1
      · rw [if_pos (show lf - 1 = 0 by omega), if_pos (show lf - 1 = 0 by omega), if_pos q]
        refine ⟨_, _, p1, w1, rfl, ⟨?_, ?_, px_u2_eq _ _ _ _, ?_, px_va_eq _ _ _⟩, fun o k z => by rw [px_u2_ne _ _ _ _ _ _ (by omega), px_u2_ne _ _ _ _ _ _ (by omega)], fun o z => px_va_ne _ _ _ _ z⟩
        · rw [px_u2_ne _ _ _ _ _ _ (by omega), px_u2_ne _ _ _ _ _ _ (by omega)]; exact a2
        · rw [px_u2_ne _ _ _ _ _ _ (by omega), px_u2_ne _ _ _ _ _ _ (by omega)]; exact a3
        · rw [px_u2_ne _ _ _ _ _ _ (by omega), px_u2_eq, q]
      · rw [if_neg (show ¬ lf - 1 = 0 by omega), if_neg (show ¬ lf - 1 = 0 by omega), if_neg q]
        refine ⟨_, _, p1, w1, rfl, ⟨?_, ?_, ?_, px_u2_eq _ _ _ _, px_va_eq _ _ _⟩, fun o k z => px_u2_ne _ _ _ _ _ _ (by omega), fun o z => px_va_ne _ _ _ _ z⟩
        · rw [px_u2_ne _ _ _ _ _ _ (by omega)]; exact a2
        · rw [px_u2_ne _ _ _ _ _ _ (by omega)]; exact a3
        · rw [px_u2_ne _ _ _ _ _ _ (by omega)]; exact a4
    · rw [if_neg h4, if_neg (by rw [show (4 : Int32) = nI 4 from rfl]; exact nI_ge (by omega) (by decide)), px_rc_c c hc, px_bs]
      have l0 : lf = 0 := k3 (by omega)
      unfold f_con_takeHead b_con_takeHead_69 b_con_takeHead_66 b_con_takeHead_69
      rw [px_gI_c_3 c hc, px_bs, a3, px_pI_c_3 c hc, px_bs, px_gI_c_4 c hc, px_bs, px_u2_ne _ _ _ _ _ _ (by omega), a4, px_pI_c_4 c hc, px_bs, px_gI_c_4 c hc, px_bs, px_u2_eq, nI_1]
      generalize hH : hd <<< ((8 : Int32) &&& 31) ||| rc_u y = H
      by_cases h3 : hb < 3
      · rw [if_neg (by rw [show (4 : Int32) = nI 4 from rfl, px_eq (by omega) (by decide)]; omega), px_bs, if_pos h3]
        unfold b_con_isWholeWith_43 b_con_isWholeWith_65 rc_z1
        rw [px_gI_c_2 c hc, px_bs, px_u2_ne _ _ _ _ _ _ (by omega), px_u2_ne _ _ _ _ _ _ (by omega), a2, if_pos rfl, px_gI_c_4 c hc, px_bs, px_u2_eq, if_pos (by rw [show (4 : Int32) = nI 4 from rfl]; exact nI_lt (by omega) (by decide)), if_pos (Or.inl rfl)]
        refine ⟨_, _, p, hw, rfl, ⟨?_, ?_, px_u2_eq _ _ _ _, ?_, aR⟩, fun o k z => by rw [px_u2_ne _ _ _ _ _ _ (by omega), px_u2_ne _ _ _ _ _ _ (by omega)], fun o z => rfl⟩
        · rw [px_u2_ne _ _ _ _ _ _ (by omega), px_u2_ne _ _ _ _ _ _ (by omega)]; exact a2
        · rw [px_u2_ne _ _ _ _ _ _ (by omega), px_u2_eq]
        · rw [px_u2_ne _ _ _ _ _ _ (by omega), px_u2_ne _ _ _ _ _ _ (by omega)]; exact a5
      · have hb3 : hb = 3 := by omega
        subst hb3
        obtain ⟨hn, en⟩ := px_and31_lt H
        rw [if_pos (by decide), if_neg (show ¬ 3 < 3 by omega), px_gI_c_3 c hc, px_bs, px_u2_ne _ _ _ _ _ _ (by omega), px_u2_eq, px_pI_c_5 c hc, px_bs, px_gI_c_5 c hc, px_bs, px_u2_eq, px_gR_c_0 c hc, px_bs, px_rcR _ hg, px_bs, px_bnd (px_size _ hg hw), aR, en]
        rw [nI_clamp hn]
        generalize (H &&& 2147483647).toNatClampNeg = n at hn
        dsimp only
        have e1 : (nI n ≤ nI 1200 - nI g.length) = (n + g.length ≤ 1200) := px_msub3 (by decide) (by omega) n hn
        by_cases q1 : 1200 < g.length + n
        · rw [if_neg (by rw [show (1200 : Int32) = nI 1200 from rfl, e1]; omega), if_pos q1, px_pZ_c_2 c hc, if_pos (Or.inr rfl), px_bs, px_bs]
          unfold b_con_isWholeWith_43 b_con_isWholeWith_65 rc_z1
          rw [px_gI_c_2 c hc, px_bs, px_u2_eq, if_neg (by decide), if_pos (Or.inl rfl)]
          refine ⟨_, _, p, hw, rfl, ⟨px_u2_eq _ _ _ _, ?_, ?_, ?_, aR⟩, fun o k z => by rw [px_u2_ne _ _ _ _ _ _ (by omega), px_u2_ne _ _ _ _ _ _ (by omega), px_u2_ne _ _ _ _ _ _ (by omega), px_u2_ne _ _ _ _ _ _ (by omega)], fun o z => rfl⟩
          · rw [px_u2_ne _ _ _ _ _ _ (by omega), px_u2_ne _ _ _ _ _ _ (by omega), px_u2_ne _ _ _ _ _ _ (by omega), px_u2_eq]
          · rw [px_u2_ne _ _ _ _ _ _ (by omega), px_u2_ne _ _ _ _ _ _ (by omega), px_u2_eq]
          · rw [px_u2_ne _ _ _ _ _ _ (by omega), px_u2_eq]
        · rw [if_pos (by rw [show (1200 : Int32) = nI 1200 from rfl, e1]; omega), if_neg q1, px_pZ_c_2 c hc, if_pos (Or.inl rfl), px_bs, px_bs]
          rw [pc_whole_end c hc H n hn (px_u2_eq _ _ _ _) (by rw [px_u2_ne _ _ _ _ _ _ (by omega), px_u2_ne _ _ _ _ _ _ (by omega), px_u2_ne _ _ _ _ _ _ (by omega), px_u2_eq]) (by rw [px_u2_ne _ _ _ _ _ _ (by omega), px_u2_ne _ _ _ _ _ _ (by omega), px_u2_eq]) (by rw [px_u2_ne _ _ _ _ _ _ (by omega), px_u2_eq])]
          by_cases q : n = 0
          · rw [if_pos q, if_pos q, if_pos q]
            refine ⟨_, _, p, hw, rfl, ⟨?_, ?_, px_u2_eq _ _ _ _, ?_, aR⟩, fun o k z => by rw [px_u2_ne _ _ _ _ _ _ (by omega), px_u2_ne _ _ _ _ _ _ (by omega), px_u2_ne _ _ _ _ _ _ (by omega), px_u2_ne _ _ _ _ _ _ (by omega), px_u2_ne _ _ _ _ _ _ (by omega)], fun o z => rfl⟩
            · rw [px_u2_ne _ _ _ _ _ _ (by omega), px_u2_eq]; rfl
            · rw [px_u2_ne _ _ _ _ _ _ (by omega), px_u2_ne _ _ _ _ _ _ (by omega), px_u2_ne _ _ _ _ _ _ (by omega), px_u2_ne _ _ _ _ _ _ (by omega), px_u2_eq]
            · rw [px_u2_ne _ _ _ _ _ _ (by omega), px_u2_ne _ _ _ _ _ _ (by omega), px_u2_eq, q]
          · rw [if_neg q, if_neg q, if_neg q]
            refine ⟨_, _, p, hw, rfl, ⟨px_u2_eq _ _ _ _, ?_, ?_, ?_, aR⟩, fun o k z => by rw [px_u2_ne _ _ _ _ _ _ (by omega), px_u2_ne _ _ _ _ _ _ (by omega), px_u2_ne _ _ _ _ _ _ (by omega), px_u2_ne _ _ _ _ _ _ (by omega)], fun o z => rfl⟩
            · rw [px_u2_ne _ _ _ _ _ _ (by omega), px_u2_ne _ _ _ _ _ _ (by omega), px_u2_ne _ _ _ _ _ _ (by omega), px_u2_eq]
            · rw [px_u2_ne _ _ _ _ _ _ (by omega), px_u2_ne _ _ _ _ _ _ (by omega), px_u2_eq]
            · rw [px_u2_ne _ _ _ _ _ _ (by omega), px_u2_eq]
theorem pc_forget (c : Nat) (hc : c < 4) (hw : px_Wf b p e) : f_con_forgetRecord (px_W b I V G R M p) (b + (228 + 22 * c)) = some (px_W b (px_u2 (px_u2 I (228 + 22 * c) 4 0) (228 + 22 * c) 5 0) V G (va_up R (229 + 22 * c) []) M p) := by
  have hg := px_rG c hc
  unfold f_con_forgetRecord
  rw [px_gR_c_0 c hc, px_bs, px_rcR _ hg, px_bs, px_bnd (px_clear _ hg hw), px_pI_c_4 c hc, px_bs, px_pI_c_5 c hc, px_bs]
theorem px_cc_forget (c : Nat) (s : px_S) (h : px_cc I R c s) : px_cc (px_u2 (px_u2 I (228 + 22 * c) 4 0) (228 + 22 * c) 5 0) (va_up R (229 + 22 * c) []) c (s.1, 0, 0, [], s.2.2.2.2) ∧ px_kf c I (px_u2 (px_u2 I (228 + 22 * c) 4 0) (228 + 22 * c) 5 0) R (va_up R (229 + 22 * c) []) := by
  obtain ⟨a2, a3, a4, a5, aR⟩ := h
  refine ⟨⟨?_, ?_, ?_, px_u2_eq _ _ _ _, px_va_eq _ _ _⟩, fun o k z => by rw [px_u2_ne _ _ _ _ _ _ (by omega), px_u2_ne _ _ _ _ _ _ (by omega)], fun o z => px_va_ne _ _ _ _ z⟩
  · rw [px_u2_ne _ _ _ _ _ _ (by omega), px_u2_ne _ _ _ _ _ _ (by omega)]; exact a2
  · rw [px_u2_ne _ _ _ _ _ _ (by omega), px_u2_ne _ _ _ _ _ _ (by omega)]; exact a3
  · rw [px_u2_ne _ _ _ _ _ _ (by omega), px_u2_eq]; rfl
theorem pc_openAnew (c : Nat) (hc : c < 4) (s : px_S) (h : px_cc I R c s) (hw : px_Wf b p e) : ∃ I' R', f_con_openAnew (px_W b I V G R M p) (b + (228 + 22 * c)) = some (px_z s.2.2.2.2, px_W b I' V G R' M p) ∧ px_cc I' R' c (s.1, 0, 0, [], false) ∧ px_kf c I I' R R' := by
  obtain ⟨a2, a3, a4, a5, aR⟩ := h
  unfold f_con_openAnew rc_z1
  have h1 : px_cc (px_u2 I (228 + 22 * c) 2 0) R c (s.1, s.2.1, s.2.2.1, s.2.2.2.1, false) := ⟨px_u2_eq _ _ _ _, by rw [px_u2_ne _ _ _ _ _ _ (by omega)]; exact a3, by rw [px_u2_ne _ _ _ _ _ _ (by omega)]; exact a4, by rw [px_u2_ne _ _ _ _ _ _ (by omega)]; exact a5, aR⟩
  obtain ⟨h2, h3, h4⟩ := px_cc_forget c _ h1
  rw [px_gI_c_2 c hc, px_bs, a2, px_pZ_c_2 c hc, if_pos (Or.inl rfl), px_bs, px_rc_c c hc, px_bs, px_bnd (pc_forget c hc hw), if_pos (by cases s.2.2.2.2 <;> decide)]
  exact ⟨_, _, rfl, h2, fun o k z => by rw [h3 o k z, px_u2_ne _ _ _ _ _ _ (by omega)], h4⟩
theorem pc_waiting (c : Nat) (hc : c < 4) (s : px_S) (h : px_cc I R c s) (hw : px_Wf b p e) : f_con_bytesWaiting (px_W b I V G R M p) (b + (228 + 22 * c)) = some (if s.2.2.2.2 = true then -1 else nI s.2.2.2.1.length, px_W b I V G R M p) := by
  obtain ⟨a2, a3, a4, a5, aR⟩ := h
  have hg := px_rG c hc
  unfold f_con_bytesWaiting b_con_bytesWaiting_18
  rw [px_gI_c_2 c hc, px_bs, a2]
  cases s.2.2.2.2 with
  | true => rfl
  | false =>
    rw [if_pos (show px_z false = 0 from rfl), px_gR_c_0 c hc, px_bs, px_rcR _ hg, px_bs, px_bnd (px_size _ hg hw), aR]
    rfl
end PX
