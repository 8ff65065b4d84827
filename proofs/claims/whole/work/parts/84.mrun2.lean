/-! THE REFERENCE, 15: sum, list, run -/
def px_sm (l : List UInt8) (mp : px_Mp) : Nat → Nat → Int64 → Int32 → List UInt8
  | 0, _, s, m => px_bl s ++ rc_bw m
  | n + 1, a, s, m => match px_pl mp (px_key l a) with
    | none => px_sm l mp n (px_nx l a) s (m + 1)
    | some i => px_sm l mp n (px_nx l a) (s + (px_k mp i).2) m
def px_kv (e : List UInt8 × Int64) : List UInt8 := rc_bw (nI e.1.length) ++ (e.1 ++ List.replicate (px_fi e.1.length - e.1.length) 0) ++ px_bl e.2
def px_els (mp : px_Mp) : Nat → Nat → List UInt8
  | 0, _ => []
  | n + 1, k => px_kv (px_k mp k) ++ px_els mp n (k + 1)
def px_th (x : Int32) (n : Nat) : Nat := if x < 0 then 0 else n - x.toNatClampNeg
def px_wt (x : Int32) : Nat := if x < 0 then 8 else min x.toNatClampNeg 8
def px_ls (mp : px_Mp) (x y : Int32) : List UInt8 := rc_bw (nI (min (px_th x mp.length) (px_wt y))) ++ px_els mp (min (px_th x mp.length) (px_wt y)) x.toNatClampNeg ++ rc_bw (if min (px_th x mp.length) (px_wt y) < px_th x mp.length then 1 else 0)
def px_run (proc : Int32) (l : List UInt8) (a : Nat) (mp : px_Mp) : List UInt8 × px_Mp :=
  if proc = 4 then (px_sm l mp (rc_wd l a).toNatClampNeg (a + 4) 0 0, mp)
  else if proc = 5 then (px_ls mp (rc_wd l a) (rc_wd l (a + 4)), mp)
  else if proc ≤ 0 then ([], mp)
  else match px_pl mp (px_key l a) with
    | none => if proc = 1 then (if mp.length = 40 then (rc_bw 1, mp) else (rc_bw 0 ++ rc_bw 0, mp ++ [(px_key l a, px_lng l (px_nx l a))])) else if proc = 6 then (rc_bw 0, mp) else (rc_bw 2, mp)
    | some i => if proc = 1 then (rc_bw 0 ++ rc_bw 1 ++ px_bl (px_k mp i).2, mp.set i ((px_k mp i).1, px_lng l (px_nx l a))) else if proc = 6 then (rc_bw 1, mp.eraseIdx i) else if proc = 3 then (rc_bw 0 ++ px_bl ((px_k mp i).2 + px_lng l (px_nx l a)), mp.set i ((px_k mp i).1, (px_k mp i).2 + px_lng l (px_nx l a))) else (rc_bw 0 ++ px_bl (px_k mp i).2, mp)
theorem px_msk (x : Int32) : ∃ n : Nat, n < 2 ^ 32 ∧ (x.toInt64 &&& 4294967295) = lN n ∧ (x < 0 → 2 ^ 31 ≤ n) ∧ (¬ x < 0 → x = nI n ∧ n < 2 ^ 31) := by
  have e1 : (x.toInt64 &&& 4294967295) = lN x.toBitVec.toNat := by
    apply Int64.toBitVec_inj.mp
    unfold lN
    simp
    apply BitVec.eq_of_getLsbD_eq
    intro i hi
    rw [BitVec.getLsbD_and, BitVec.getLsbD_setWidth, BitVec.getLsbD_signExtend]
    have em : (4294967295#64).getLsbD i = decide (i < 32) := by
      rw [BitVec.getLsbD_ofNat, show 4294967295 = 2 ^ 32 - 1 from rfl, Nat.testBit_two_pow_sub_one]
      simp [hi]
    rw [em]
    by_cases h : i < 32
    · simp [h, hi]
    · simp [h, hi]
      exact BitVec.getLsbD_of_ge _ _ (by omega)
  refine ⟨x.toBitVec.toNat, x.toBitVec.isLt, e1, fun h => ?_, fun h => ?_⟩
  · rw [Int32.lt_iff_toInt_lt] at h
    have h2 : x.toBitVec.toInt < 0 := h
    rw [BitVec.toInt_eq_toNat_cond] at h2
    split at h2
    · have : (0 : Int) ≤ (x.toBitVec.toNat : Int) := Int.natCast_nonneg _
      omega
    · omega
  · obtain ⟨j, hj, rfl⟩ := nI_of h
    have : (nI j).toBitVec.toNat = j := by
      unfold nI
      simp
      omega
    rw [this]
    exact ⟨rfl, hj⟩
theorem px_lN_toInt {n : Nat} (h : n < 2 ^ 33) : (lN n).toInt = (n : Int) := lg_ofNat_toInt (by omega)
theorem px_lN_le {a c : Nat} (ha : a < 2 ^ 33) (hc : c < 2 ^ 33) : (lN a ≤ lN c) = (a ≤ c) := by
  rw [Int64.le_iff_toInt_le, px_lN_toInt ha, px_lN_toInt hc]; simp
section PX
variable {b : Nat} {I : Nat → Nat → Int32} {V : Nat → Nat → Int64} {G : Nat → Nat → Nat} {R : Nat → List UInt8} {M : Nat → Nat → Int32} {p : px_P} {e : Nat}
theorem pm_sum_go (c : Nat) (l : List UInt8) (mp : px_Mp) (n : Nat) (hn : n ≤ 8) (out : List UInt8) (hol : out.length ≤ 200) : ∀ (m k a f : Nat) (s : Int64) (ms : Int32) (M : Nat → Nat → Int32), n = k + m → m < f → px_rx M c l → px_rd M (some a) → a ≤ l.length → px_mm M V mp → px_ot M out → (px_pbs l m (some a)).isSome = true → ∃ M', b_mdl_runSum_13 f (px_W b I V G R M p) (b + 316) (nI n) s ms (nI k) = some (px_W b I V G R M' p) ∧ px_ot M' (out ++ px_sm l mp m a s ms) ∧ px_mm M' V mp ∧ px_fj M M' := by
  intro m
  induction m with
  | zero =>
    intro k a f s ms M hk hf hx hs ha hm ho hp
    obtain ⟨f, rfl⟩ : ∃ q, f = q + 1 := ⟨f - 1, by omega⟩
    obtain ⟨M1, a1, a2, a3⟩ := pm_outLong (b := b) (I := I) (V := V) (G := G) (R := R) (p := p) s out ho (by omega)
    obtain ⟨M2, b1, b2, b3⟩ := pm_outWord (b := b) (I := I) (V := V) (G := G) (R := R) (p := p) ms _ a2 (by rw [List.length_append, px_bl_len]; omega)
    rw [b_mdl_runSum_13, if_pos (nI_le (by omega) (by omega)), px_rc_m, px_bs, px_bnd a1, px_rc_m, px_bs, px_bnd b1]
    refine ⟨M2, rfl, ?_, (a3.tr b3).mm hm, (a3.tr b3).fj⟩
    rw [px_sm, ← List.append_assoc]; exact b2
  | succ m ih =>
    intro k a f s ms M hk hf hx hs ha hm ho hp
    obtain ⟨f, rfl⟩ : ∃ q, f = q + 1 := ⟨f - 1, by omega⟩
    rw [px_pbs] at hp
    obtain ⟨a', hpb⟩ : ∃ a', (px_pb 16 l (some a)).2 = some a' := by
      cases h : (px_pb 16 l (some a)).2 with
      | none => rw [h, px_pbs_none] at hp; cases hp
      | some a' => exact ⟨a', rfl⟩
    rw [hpb] at hp
    obtain ⟨v, M1, a1, a2, a3, a4, -, -⟩ := pm_key (b := b) (I := I) (V := V) (G := G) (R := R) (p := p) c a a' l mp hx hs ha hm hpb
    obtain ⟨kk, c1, c2, c3, c4, c5, c6, c7, c8⟩ := px_pb_some (by decide) hpb
    rw [b_mdl_runSum_13, if_neg (nI_ge (by omega) (by omega)), px_rc_m, px_bs, px_bnd a1]
    simp only
    rw [px_rc_m, px_bs, px_bnd a2]
    simp only
    rw [px_sm]
    unfold b_mdl_runSum_50 b_mdl_runSum_65
    have hm1 := a4.mm hm
    cases hpl : px_pl mp (px_key l a) with
    | none =>
      obtain ⟨M2, d1, d2, d3, d4⟩ := ih (k + 1) a' f s (ms + 1) M1 (by omega) (by omega) (a4.rx hx) a3 c6 hm1 (a4.ot ho) hp
      refine ⟨M2, ?_, by dsimp only; rw [← c5]; exact d2, d3, a4.fj.tr d4⟩
      rw [← d1, show px_pi none = -1 from rfl, if_pos (by decide), if_pos (by decide), nI_1]
    | some i =>
      have hi := (px_pl_lt hpl).1
      have h40 := hm.2.1
      obtain ⟨M2, d1, d2, d3, d4⟩ := ih (k + 1) a' f (s + (px_k mp i).2) ms M1 (by omega) (by omega) (a4.rx hx) a3 c6 hm1 (a4.ot ho) hp
      refine ⟨M2, ?_, by dsimp only; rw [← c5]; exact d2, d3, a4.fj.tr d4⟩
      rw [← d1, show px_pi (some i) = nI i from rfl, if_neg (nI_pos (by omega)), px_gR_m_9, px_bs, px_aL_323 i (by omega), px_bs, (hm.2.2 i hi).2.2.2, if_neg (nI_pos (by omega)), nI_1]
theorem pm_list_in (K : rc_M → Nat → Int64 → Int64 → Int32 → Int32 → Option rc_M) (mp : px_Mp) (k : Nat) (x1 x5 : Int64) (x7 x8 : Int32) (hk : k < mp.length) (out : List UInt8) (hol : out.length ≤ 300) : ∀ (m j f : Nat) (M : Nat → Nat → Int32), px_fi (px_k mp k).1.length = j + m → m < f → px_mm M V mp → px_ot M (out ++ ((px_k mp k).1 ++ List.replicate (px_fi (px_k mp k).1.length - (px_k mp k).1.length) 0).take j) → ∃ M', b_mdl_runList_112 K f (px_W b I V G R M p) (b + 316) x1 x5 x7 x8 (nI k) (nI j) = K (px_W b I V G R M' p) (b + 316) x1 x5 x7 (x8 + 1) ∧ px_ot M' (out ++ ((px_k mp k).1 ++ List.replicate (px_fi (px_k mp k).1.length - (px_k mp k).1.length) 0) ++ px_bl (px_k mp k).2) ∧ px_fo M M' := by
  intro m
  induction m with
  | zero =>
    intro j f M hj hf hm ho
    obtain ⟨f, rfl⟩ : ∃ q, f = q + 1 := ⟨f - 1, by omega⟩
    obtain ⟨m1, m2, m3⟩ := id hm
    obtain ⟨q1, q2, q3, q4⟩ := m3 k hk
    have hfl : ((px_k mp k).1 ++ List.replicate (px_fi (px_k mp k).1.length - (px_k mp k).1.length) (0 : UInt8)).length = px_fi (px_k mp k).1.length := by
      rw [List.length_append, List.length_replicate]; unfold px_fi; omega
    have hf20 : px_fi (px_k mp k).1.length ≤ 20 := by unfold px_fi; omega
    rw [List.take_of_length_le (by omega)] at ho
    obtain ⟨M1, a1, a2, a3⟩ := pm_outLong (b := b) (I := I) (V := V) (G := G) (R := R) (p := p) (px_k mp k).2 _ ho (by rw [List.length_append]; omega)
    refine ⟨M1, ?_, a2, a3⟩
    rw [b_mdl_runList_112, px_gR_m_8, px_bs, px_aI_m_8 k (by omega), px_bs, q2]
    rw [show (3 : Int32) = nI 3 from rfl, show (4 : Int32) = nI 4 from rfl, nI_add, px_div (by omega) (by decide), px_mul, if_pos (nI_le (by unfold px_fi at hj; omega) (by omega)), px_gR_m_9, px_bs, px_aL_323 k (by omega), px_bs, q4, px_rc_m, px_bs, px_bnd a1]
  | succ m ih =>
    intro j f M hj hf hm ho
    obtain ⟨f, rfl⟩ : ∃ q, f = q + 1 := ⟨f - 1, by omega⟩
    obtain ⟨m1, m2, m3⟩ := id hm
    obtain ⟨q1, q2, q3, q4⟩ := m3 k hk
    have hfl : ((px_k mp k).1 ++ List.replicate (px_fi (px_k mp k).1.length - (px_k mp k).1.length) (0 : UInt8)).length = px_fi (px_k mp k).1.length := by
      rw [List.length_append, List.length_replicate]; unfold px_fi; omega
    have hf20 : px_fi (px_k mp k).1.length ≤ 20 := by unfold px_fi; omega
    have hts := px_take_snoc ((px_k mp k).1 ++ List.replicate (px_fi (px_k mp k).1.length - (px_k mp k).1.length) (0 : UInt8)) j (by omega)
    have hol2 : (out ++ ((px_k mp k).1 ++ List.replicate (px_fi (px_k mp k).1.length - (px_k mp k).1.length) (0 : UInt8)).take j).length = out.length + j := by
      rw [List.length_append, List.length_take]; omega
    generalize hFF : (px_k mp k).1 ++ List.replicate (px_fi (px_k mp k).1.length - (px_k mp k).1.length) (0 : UInt8) = FF at *
    have key : ∀ x : Int32, rc_lowb x = FF.getD j 0 → ∃ M', b_mdl_runList_167 K (b_mdl_runList_112 K f) (px_W b I V G R M p) (b + 316) x1 x5 x7 x8 (nI k) (nI j) (some (b + 336)) (nI (out.length + j)) x = K (px_W b I V G R M' p) (b + 316) x1 x5 x7 (x8 + 1) ∧ px_ot M' (out ++ FF ++ px_bl (px_k mp k).2) ∧ px_fo M M' := by
      intro x hx
      have e3 : px_u2 (px_u2 (px_mo M (out ++ FF.take j)) 336 (out.length + j) (rc_sx (rc_lowb x))) 316 32 (nI (out.length + j + 1)) = px_mo M (out ++ FF.take (j + 1)) := by
        have := px_mo_snoc M (out ++ FF.take j) (FF.getD j 0)
        rw [hol2, List.append_assoc, hts] at this
        rw [hx]; exact this
      rw [px_mo_id ho] at e3
      obtain ⟨M1, a1, a2, a3⟩ := ih (j + 1) f (px_mo M (out ++ FF.take (j + 1))) (by omega) (by omega) ((px_mo_fo _ _).mm hm) (px_mo_ot _ _)
      refine ⟨M1, ?_, a2, (px_mo_fo _ _).tr a3⟩
      have h32 : M 316 32 = nI (out.length + j) := by rw [ho.1, hol2]
      unfold b_mdl_runList_167
      rw [px_sI_m_31 _ _ (by omega), px_bs, px_gI_m_32, px_bs, px_u2_ne _ _ _ _ _ _ (by omega), h32, px_pI_m_32, px_bs, px_sxl, nI_1, e3, nI_1]
      exact a1
    have h32 : M 316 32 = nI (out.length + j) := by rw [ho.1, hol2]
    rw [b_mdl_runList_112, px_gR_m_8, px_bs, px_aI_m_8 k (by omega), px_bs, q2]
    rw [show (3 : Int32) = nI 3 from rfl, show (4 : Int32) = nI 4 from rfl, nI_add, px_div (by omega) (by decide), px_mul, if_neg (nI_ge (by unfold px_fi at hj; omega) (by omega)), px_gR_m_31, px_bs, px_gI_m_32, px_bs, px_bs, px_aI_m_8 k (by omega), px_bs, q2, h32]
    by_cases d : (px_k mp k).1.length ≤ j
    · rw [if_pos (nI_le d (by omega))]
      refine key 0 ?_
      rw [← hFF, List.getD_eq_getElem?_getD, List.getElem?_append_right d, List.getElem?_replicate]
      split <;> rfl
    · rw [if_neg (nI_ge (by omega) (by omega)), px_gR_m_7, px_bs, show (16 : Int32) = nI 16 from rfl, px_mul, nI_add, px_aI_m_7 _ (by omega), px_bs, q3 j (by omega)]
      refine key _ ?_
      rw [px_low_sx, ← hFF, List.getD_eq_getElem?_getD, List.getD_eq_getElem?_getD, List.getElem?_append_left (by omega)]
theorem px_kv_len (e : List UInt8 × Int64) (h : e.1.length ≤ 16) : (px_kv e).length ≤ 32 := by
  unfold px_kv
  simp only [List.length_append, px_bw_len, px_bl_len, List.length_replicate]
  unfold px_fi; omega
theorem pm_list_go (mp : px_Mp) (x1 x5 : Int64) (a0 n : Nat) (t : Nat) (h1 : x1.toInt32 = nI a0) (hn : n ≤ 8) (ht : x5 = lN t) (ht40 : t ≤ 40) (hna : n = 0 ∨ a0 + n ≤ mp.length) : ∀ (m k f : Nat) (M : Nat → Nat → Int32) (out : List UInt8), n = k + m → m < f → px_mm M V mp → px_ot M out → out.length + 32 * m ≤ 300 → ∃ M', b_mdl_runList_84 f (px_W b I V G R M p) (b + 316) x1 x5 (nI n) (nI k) = some (px_W b I V G R M' p) ∧ px_ot M' (out ++ px_els mp m (a0 + k) ++ rc_bw (if n < t then 1 else 0)) ∧ px_fo M M' := by
  intro m
  induction m with
  | zero =>
    intro k f M out hk hf hm ho hol
    obtain ⟨f, rfl⟩ : ∃ q, f = q + 1 := ⟨f - 1, by omega⟩
    obtain ⟨M1, a1, a2, a3⟩ := pm_outWord (b := b) (I := I) (V := V) (G := G) (R := R) (p := p) (if n < t then 1 else 0) out ho (by omega)
    refine ⟨M1, ?_, by rw [px_els, List.append_nil]; exact a2, a3⟩
    rw [b_mdl_runList_84, if_pos (nI_le (by omega) (by omega)), ht, nI_l (by omega)]
    have e : (lg_cmp (lN t) (lN n) ≤ 0) = (t ≤ n) := by rw [lg_cmp_le, px_lN_le (by omega) (by omega)]
    unfold b_mdl_runList_216
    by_cases q : n < t
    · rw [if_neg (by rw [e]; omega), px_rc_m, px_bs]
      rw [if_pos q] at a1
      rw [px_bnd a1]
    · rw [if_pos (by rw [e]; omega), px_rc_m, px_bs]
      rw [if_neg q] at a1
      rw [px_bnd a1]
  | succ m ih =>
    intro k f M out hk hf hm ho hol
    obtain ⟨f, rfl⟩ : ∃ q, f = q + 1 := ⟨f - 1, by omega⟩
    obtain ⟨m1, m2, m3⟩ := id hm
    have hkk : a0 + k < mp.length := by omega
    obtain ⟨q1, q2, q3, q4⟩ := m3 (a0 + k) hkk
    obtain ⟨M1, a1, a2, a3⟩ := pm_outWord (b := b) (I := I) (V := V) (G := G) (R := R) (p := p) (nI (px_k mp (a0 + k)).1.length) out ho (by omega)
    obtain ⟨M2, b1, b2, b3⟩ := pm_list_in (b := b) (I := I) (V := V) (G := G) (R := R) (p := p) (b_mdl_runList_84 f) mp (a0 + k) x1 x5 (nI n) (nI k) hkk (out ++ rc_bw (nI (px_k mp (a0 + k)).1.length)) (by rw [List.length_append, px_bw_len]; omega) (px_fi (px_k mp (a0 + k)).1.length) 0 5000 M1 (by omega) (by unfold px_fi; omega) (a3.mm hm) (by rw [List.take_zero, List.append_nil]; exact a2)
    have hkv := px_kv_len _ q1
    obtain ⟨M3, c1, c2, c3⟩ := ih (k + 1) f M2 (out ++ px_kv (px_k mp (a0 + k))) (by omega) (by omega) ((a3.tr b3).mm hm) (by
      unfold px_kv
      simp only [List.append_assoc] at b2 ⊢
      exact b2) (by rw [List.length_append]; omega)
    refine ⟨M3, ?_, ?_, a3.tr (b3.tr c3)⟩
    · rw [b_mdl_runList_84, if_neg (nI_ge (by omega) (by omega)), px_gR_m_8, px_bs, h1, nI_add, px_aI_m_8 _ (by omega), px_bs, q2, px_rc_m, px_bs, px_bnd a1, ← nI_0, b1, nI_1]
      exact c1
    · rw [px_els]
      simp only [List.append_assoc] at c2 ⊢
      rw [Nat.add_assoc]
      exact c2
theorem pm_runList (c a : Nat) (l : List UInt8) (mp : px_Mp) (out : List UInt8) (hol : out.length ≤ 30) (hx : px_rx M c l) (hs : px_rd M (some a)) (ha : a ≤ l.length) (hm : px_mm M V mp) (ho : px_ot M out) (he : (px_pw l (px_pw l (some a)).2).2.isSome = true) : ∃ M', f_mdl_runList (px_W b I V G R M p) (b + 316) = some (px_W b I V G R M' p) ∧ px_ot M' (out ++ px_ls mp (rc_wd l a) (rc_wd l (a + 4))) ∧ px_mm M' V mp ∧ px_fj M M' := by
  obtain ⟨M1, a1, a2, a3⟩ := pm_nextWord (b := b) (I := I) (V := V) (G := G) (R := R) (p := p) c l (some a) hx hs (fun a' q => by cases q; exact ha)
  obtain ⟨M2, b1, b2, b3⟩ := pm_nextWord (b := b) (I := I) (V := V) (G := G) (R := R) (p := p) c l _ (a3.f4.rx hx) a2 px_pw_le
  obtain ⟨a', ha'⟩ : ∃ a', (px_pw l (some a)).2 = some a' := by
    cases h : (px_pw l (some a)).2 with
    | none => rw [h] at he; cases he
    | some a' => exact ⟨a', rfl⟩
  obtain ⟨e1, e2, e3⟩ := px_pw_some ha'
  rw [ha'] at he b1 b2
  obtain ⟨a'', ha''⟩ : ∃ a'', (px_pw l (some a')).2 = some a'' := by
    cases h : (px_pw l (some a')).2 with
    | none => rw [h] at he; cases he
    | some a'' => exact ⟨a'', rfl⟩
  obtain ⟨f1, f2, f3⟩ := px_pw_some ha''
  rw [e3] at a1
  rw [f3, e1] at b1
  have hf := a3.tr b3
  have hm2 := hf.f4.mm hm
  have ho2 := hf.f4.ot ho
  obtain ⟨m1, m2, m3⟩ := id hm2
  unfold f_mdl_runList
  rw [px_rc_m, px_bs, px_bnd a1]
  simp only
  rw [px_rc_m, px_bs, px_bnd b1]
  simp only
  rw [px_gI_m_10, px_bs, m1, nI_l (by omega)]
  generalize rc_wd l a = x at *
  generalize rc_wd l (a + 4) = y at *
  obtain ⟨nx, x1, x2, x3, x4⟩ := px_msk x
  obtain ⟨ny, y1, y2, y3, y4⟩ := px_msk y
  rw [x2, y2]
  have ec : (0 ≤ lg_cmp (lN nx) (lN mp.length)) = (mp.length ≤ nx) := by rw [lg_cmp_ge, px_lN_le (by omega) (by omega)]
  have hth : px_th x mp.length = mp.length - nx := by
    unfold px_th
    by_cases q : x < 0
    · rw [if_pos q]; have := x3 q; omega
    · rw [if_neg q]; obtain ⟨q1, q2⟩ := x4 q; rw [q1, nI_clamp q2]
  have hwt : min (mp.length - nx) (px_wt y) = min (min (mp.length - nx) ny) 8 := by
    unfold px_wt
    by_cases q : y < 0
    · rw [if_pos q]; have := y3 q; omega
    · rw [if_neg q]; obtain ⟨q1, q2⟩ := y4 q; rw [q1, nI_clamp q2]; omega
  have main : b_mdl_runList_41 (px_W b I V G R M2 p) (b + 316) (lN nx) (lN ny) (lN (mp.length - nx)) = (if 0 ≤ lg_cmp (lN nx) (lN mp.length) then b_mdl_runList_41 (px_W b I V G R M2 p) (b + 316) (lN nx) (lN ny) 0 else (some (nI mp.length)).bind fun v12 => b_mdl_runList_41 (px_W b I V G R M2 p) (b + 316) (lN nx) (lN ny) (v12.toInt64 - lN nx)) := by
    by_cases q : mp.length ≤ nx
    · rw [if_pos (by rw [ec]; exact q), show mp.length - nx = 0 by omega]; rfl
    · rw [if_neg (by rw [ec]; exact q), px_bs, nI_l (by omega), lN_sub (by omega)]
  rw [← main]
  obtain ⟨M3, g1, g2, g3⟩ := pm_outWord (b := b) (I := I) (V := V) (G := G) (R := R) (p := p) (nI (min (min (mp.length - nx) ny) 8)) out ho2 (by omega)
  have hcl : (x.toNatClampNeg = nx ∨ mp.length - nx = 0) := by
    by_cases q : x < 0
    · have := x3 q; right; omega
    · obtain ⟨q1, q2⟩ := x4 q; left; rw [q1, nI_clamp q2]
  obtain ⟨M4, i1, i2, i3⟩ := pm_list_go (b := b) (I := I) (V := V) (G := G) (R := R) (p := p) mp (lN nx) (lN (mp.length - nx)) nx (min (min (mp.length - nx) ny) 8) (mp.length - nx) (lN_i nx) (by omega) rfl (by omega) (by omega) (min (min (mp.length - nx) ny) 8) 0 5000 M3 _ (by omega) (by omega) (g3.mm hm2) g2 (by rw [List.length_append, px_bw_len]; omega)
  rw [nI_0] at i1
  refine ⟨M4, ?_, ?_, (g3.tr i3).mm hm2, hf.fj.tr (g3.tr i3).fj⟩
  · unfold b_mdl_runList_41 b_mdl_runList_56 b_mdl_runList_73
    have ec2 : (0 ≤ lg_cmp (lN (mp.length - nx)) (lN ny)) = (ny ≤ mp.length - nx) := by rw [lg_cmp_ge, px_lN_le (by omega) (by omega)]
    have fin : ∀ k : Nat, k = min (mp.length - nx) ny → (if (lN k).toInt32 ≤ 8 then (rc_rc (px_W b I V G R M2 p) (some (b + 316)) 7).bind fun a1 => (f_mdl_outWord (px_W b I V G R M2 p) a1 (lN k).toInt32).bind fun w3 => b_mdl_runList_84 5000 w3 (b + 316) (lN nx) (lN (mp.length - nx)) (lN k).toInt32 0 else (rc_rc (px_W b I V G R M2 p) (some (b + 316)) 7).bind fun a1 => (f_mdl_outWord (px_W b I V G R M2 p) a1 8).bind fun w3 => b_mdl_runList_84 5000 w3 (b + 316) (lN nx) (lN (mp.length - nx)) 8 0) = some (px_W b I V G R M4 p) := by
      intro k hk
      rw [lN_i, show (8 : Int32) = nI 8 from rfl]
      by_cases q : k ≤ 8
      · rw [if_pos (nI_le q (by decide))]
        rw [show min (min (mp.length - nx) ny) 8 = k by omega] at g1 i1
        rw [px_rc_m, px_bs, px_bnd g1, i1]
      · rw [if_neg (nI_ge (by omega) (by omega))]
        rw [show min (min (mp.length - nx) ny) 8 = 8 by omega] at g1 i1
        rw [px_rc_m, px_bs, px_bnd g1, i1]
    by_cases q : ny ≤ mp.length - nx
    · rw [if_pos (by rw [ec2]; exact q)]
      exact fin ny (by omega)
    · rw [if_neg (by rw [ec2]; exact q)]
      exact fin (mp.length - nx) (by omega)
  · unfold px_ls
    rw [hth, hwt]
    simp only [List.append_assoc, Nat.add_zero] at i2 ⊢
    rcases hcl with hcl | hcl
    · rw [hcl]; exact i2
    · rw [hcl] at i2 ⊢
      exact i2
end PX
