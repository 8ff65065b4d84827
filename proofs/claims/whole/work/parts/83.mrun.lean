/-! THE REFERENCE, 14: the map changed: put and remove -/
def px_key (l : List UInt8) (a : Nat) : List UInt8 := (l.drop (a + 4)).take (rc_wd l a).toNatClampNeg
def px_nx (l : List UInt8) (a : Nat) : Nat := a + 4 + px_fi (rc_wd l a).toNatClampNeg
def px_lng (l : List UInt8) (a : Nat) : Int64 := ((rc_wd l a).toInt64 <<< ((32 : Int32).toInt64 &&& 63)) ||| ((rc_wd l (a + 4)).toInt64 &&& 4294967295)
theorem px_pw_some {l : List UInt8} {a a' : Nat} (h : (px_pw l (some a)).2 = some a') : a' = a + 4 ∧ a + 4 ≤ l.length ∧ (px_pw l (some a)).1 = rc_wd l a := by
  unfold px_pw at h ⊢
  simp only at h ⊢
  split at h
  · rename_i q; simp at h; rw [if_pos q]; exact ⟨h.symm, q, rfl⟩
  · cases h
theorem px_pb_some {most : Nat} {l : List UInt8} {a a' : Nat} (hmost : most < 2 ^ 31) (h : (px_pb most l (some a)).2 = some a') : ∃ k, k ≤ most ∧ rc_wd l a = nI k ∧ (px_pb most l (some a)).1 = nI k ∧ a' = a + 4 + px_fi k ∧ a' = px_nx l a ∧ a' ≤ l.length ∧ (px_key l a).length = k ∧ px_key l a = (l.drop (a + 4)).take k := by
  have hle := px_pb_le a' h
  unfold px_pb at h ⊢
  unfold px_pw at h ⊢
  dsimp only at h ⊢
  by_cases q : a + 4 ≤ l.length
  · rw [if_pos q] at h ⊢
    dsimp only at h ⊢
    split at h
    · cases h
    · rename_i c1
      rw [if_neg c1]
      split at h
      · cases h
      · rename_i c2
        rw [if_neg c2]
        split at h
        · rename_i c3
          rw [if_pos c3]
          obtain ⟨k, hk, e⟩ := nI_of (fun z => c1 (Or.inl z))
          simp only [Option.some.injEq] at h
          have hk2 : k ≤ most := by
            have : ¬ nI most < nI k := fun z => c1 (Or.inr (by rw [e]; exact z))
            rw [px_lt hmost hk] at this
            omega
          have hc : (rc_wd l a).toNatClampNeg = k := by rw [e, nI_clamp hk]
          rw [hc] at h
          have hkf : k ≤ px_fi k := by unfold px_fi; omega
          refine ⟨k, hk2, e, e, h.symm, by unfold px_nx; rw [hc]; exact h.symm, hle, ?_, by unfold px_key; rw [hc]⟩
          unfold px_key
          rw [hc, List.length_take, List.length_drop]
          omega
        · cases h
  · rw [if_neg q] at h
    cases h
theorem px_agr_part {f : Nat → Int32} {a s n : Nat} {l : List UInt8} (h : px_agr f a l) (hs : s + n ≤ l.length) : px_agr f (a + s) ((l.drop s).take n) := by
  intro i hi
  rw [List.length_take, List.length_drop] at hi
  have := h (s + i) (by omega)
  rw [Nat.add_assoc, this]
  simp only [List.getD_eq_getElem?_getD]
  rw [List.getElem?_take_of_lt (by omega), List.getElem?_drop]
def px_me (M : Nat → Nat → Int32) (V : Nat → Nat → Int64) (k : Nat) (e : List UInt8 × Int64) : Prop := e.1.length ≤ 16 ∧ M 322 k = nI e.1.length ∧ px_agr (M 321) (16 * k) e.1 ∧ V 323 k = e.2
theorem px_mm_iff {M : Nat → Nat → Int32} {V : Nat → Nat → Int64} {mp : px_Mp} : px_mm M V mp ↔ (M 316 10 = nI mp.length ∧ mp.length ≤ 40 ∧ ∀ k, k < mp.length → px_me M V k (px_k mp k)) := Iff.rfl
theorem px_k_set {mp : px_Mp} {i k : Nat} (x : List UInt8 × Int64) (hi : i < mp.length) : px_k (mp.set i x) k = if k = i then x else px_k mp k := by
  unfold px_k
  simp only [List.getD_eq_getElem?_getD, List.getElem?_set]
  by_cases h : i = k
  · subst h; simp [hi]
  · rw [if_neg h, if_neg (fun q => h q.symm)]
theorem px_k_app {mp : px_Mp} {k : Nat} (x : List UInt8 × Int64) (hk : k < mp.length + 1) : px_k (mp ++ [x]) k = if k = mp.length then x else px_k mp k := by
  unfold px_k
  simp only [List.getD_eq_getElem?_getD]
  by_cases h : k = mp.length
  · subst h; simp
  · rw [List.getElem?_append_left (by omega), if_neg h]
theorem px_k_era {mp : px_Mp} {i k : Nat} : px_k (mp.eraseIdx i) k = if k < i then px_k mp k else px_k mp (k + 1) := by
  unfold px_k
  simp only [List.getD_eq_getElem?_getD, List.getElem?_eraseIdx]
  split <;> rfl
section PX
variable {b : Nat} {I : Nat → Nat → Int32} {V : Nat → Nat → Int64} {G : Nat → Nat → Nat} {R : Nat → List UInt8} {M : Nat → Nat → Int32} {p : px_P} {e : Nat}
/-- a key read and looked up -/
theorem pm_key (c a a' : Nat) (l : List UInt8) (mp : px_Mp) (hx : px_rx M c l) (hs : px_rd M (some a)) (ha : a ≤ l.length) (hm : px_mm M V mp) (hp : (px_pb 16 l (some a)).2 = some a') : ∃ v M', f_mdl_nextBytes (px_W b I V G R M p) (b + 316) 16 = some (v, px_W b I V G R M' p) ∧ f_mdl_place (px_W b I V G R M' p) (b + 316) = some (px_pi (px_pl mp (px_key l a)), px_W b I V G R M' p) ∧ px_rd M' (some a') ∧ px_f4 M M' ∧ M' 316 30 = nI (px_key l a).length ∧ M' 316 29 = nI (a + 4) := by
  obtain ⟨v, M1, a1, a2, a3, a4⟩ := pm_nextBytes (b := b) (I := I) (V := V) (G := G) (R := R) (p := p) 16 c l (some a) (by omega) hx hs (fun a' q => by cases q; exact ha)
  obtain ⟨b1, b2, b3⟩ := a4 a' hp
  obtain ⟨k, c1, c2, c3, c4, c5, c6, c7, c8⟩ := px_pb_some (by decide) hp
  rw [c3] at b1
  subst b1
  rw [nI_clamp (by omega)] at b3
  have h30 : M1 316 30 = nI (px_key l a).length := by rw [c7]; exact b2
  have h29 : M1 316 29 = nI (a + 4) := by rw [b3, c4]; congr 1; omega
  have hx1 := a3.rx hx
  have hkf : k ≤ px_fi k := by unfold px_fi; omega
  refine ⟨nI k, M1, a1, ?_, by rw [hp] at a2; exact a2, a3, h30, h29⟩
  refine pm_place mp (px_key l a) c (a + 4) (a3.mm hm) hx1.1 ?_ (by omega) h30 h29 hx1.2.1 ?_
  · have := hx1.2.2.2.2; omega
  · rw [c8]; exact px_agr_part hx1.2.2.2.1 (by omega)
theorem pm_put_go (key : List UInt8) (c a n : Nat) (v : Int64) (hn : n < 41) (hc : c < 4) (ha : a + key.length ≤ 1200) (hk16 : key.length ≤ 16) (h30 : M 316 30 = nI key.length) (h29 : M 316 29 = nI a) (h26 : M 316 26 = nI c) (h10 : M 316 10 = nI n) (h2 : px_agr (M 324) (1200 * c + a) key) : ∀ (m j f : Nat), key.length = j + m → m < f → b_mdl_runPut_62 f (px_W b I V G R (va_up M 321 (px_blk (M 321) (16 * n) (key.take j))) p) (b + 316) v (nI j) = some (px_W b I (px_u2 V 323 n v) G R (px_u2 (px_u2 (va_up M 321 (px_blk (M 321) (16 * n) key)) 322 n (nI key.length)) 316 10 (nI (n + 1))) p) := by
  intro m
  induction m with
  | zero =>
    intro j f hj hf
    obtain ⟨f, rfl⟩ : ∃ q, f = q + 1 := ⟨f - 1, by omega⟩
    rw [b_mdl_runPut_62]
    have e1 : key.length ≤ j := by omega
    simp (disch := omega) only [↓reduceIte, ↓px_bs, ↓px_mB, px_10, px_modG, px_lit, px_mul, nI_add, px_u2_ne, px_u2_eq, nI_1, nI_clamp, px_lt0, px_nle, or_self, false_or, or_false, true_or, or_true, rc_b2, px_sxl, px_low_sx, px_low_u, px_nar0, px_nar1, px_z01, if_true, if_false, px_le, px_lt, px_eq, px_lt0, px_le0, px_0le, px_eq0, px_eq1, px_msub2, px_msub3, px_va_ne, h30, e1, h10]
    rw [List.take_of_length_le e1]
  | succ m ih =>
    intro j f hj hf
    obtain ⟨f, rfl⟩ : ∃ q, f = q + 1 := ⟨f - 1, by omega⟩
    rw [b_mdl_runPut_62]
    have e1 : ¬ key.length ≤ j := by omega
    have e2 := h2 j (by omega)
    have e3 : px_u2 (va_up M 321 (px_blk (M 321) (16 * n) (key.take j))) 321 (16 * n + j) (rc_sx (key.getD j 0)) = va_up M 321 (px_blk (M 321) (16 * n) (key.take (j + 1))) := by
      rw [px_u2_va, px_va_va, px_va_eq]
      have := px_blk_snoc (M 321) (16 * n) (key.take j) (key.getD j 0)
      rw [List.length_take, Nat.min_eq_left (by omega), px_take_snoc _ _ (by omega)] at this
      rw [this]
    simp (disch := omega) only [↓reduceIte, ↓px_bs, ↓px_mB, px_10, px_modG, px_lit, px_mul, nI_add, px_u2_ne, px_u2_eq, nI_1, nI_clamp, px_lt0, px_nle, or_self, false_or, or_false, true_or, or_true, rc_b2, px_sxl, px_low_sx, px_low_u, px_nar0, px_nar1, px_z01, if_true, if_false, px_le, px_lt, px_eq, px_lt0, px_le0, px_0le, px_eq0, px_eq1, px_msub2, px_msub3, px_va_ne, h30, h29, h26, e1, h10, e2, e3]
    exact ih (j + 1) f (by omega) (by omega)
theorem pm_runPut_none (key : List UInt8) (c a : Nat) (v : Int64) (mp : px_Mp) (out : List UInt8) (hm : px_mm M V mp) (ho : px_ot M out) (hol : out.length ≤ 200) (hc : c < 4) (ha : a + key.length ≤ 1200) (hk16 : key.length ≤ 16) (h30 : M 316 30 = nI key.length) (h29 : M 316 29 = nI a) (h26 : M 316 26 = nI c) (h2 : px_agr (M 324) (1200 * c + a) key) : ∃ M' V', f_mdl_runPut (px_W b I V G R M p) (b + 316) (-1) v = some (px_W b I V' G R M' p) ∧ px_ot M' (out ++ if mp.length = 40 then rc_bw 1 else rc_bw 0 ++ rc_bw 0) ∧ px_mm M' V' (if mp.length = 40 then mp else mp ++ [(key, v)]) ∧ px_fj M M' ∧ ∀ o, o ≠ 323 → V' o = V o := by
  obtain ⟨m1, m2, m3⟩ := id hm
  have e10 : (nI mp.length = 40) = (mp.length = 40) := px_eq (by omega) (by decide)
  unfold f_mdl_runPut
  rw [if_neg (by decide), px_gI_m_10, px_bs, m1]
  by_cases q : mp.length = 40
  · obtain ⟨M1, a1, a2, a3⟩ := pm_outWord (b := b) (I := I) (V := V) (G := G) (R := R) (p := p) 1 out ho (by omega)
    rw [if_pos (by rw [e10]; exact q), px_rc_m, px_bs, px_bnd a1]
    simp only [q, if_true]
    exact ⟨M1, V, rfl, a2, a3.mm hm, a3.fj, fun _ _ => rfl⟩
  · obtain ⟨M1, a1, a2, a3⟩ := pm_outWord (b := b) (I := I) (V := V) (G := G) (R := R) (p := p) 0 out ho (by omega)
    obtain ⟨M2, b1, b2, b3⟩ := pm_outWord (b := b) (I := I) (V := V) (G := G) (R := R) (p := p) 0 _ a2 (by rw [List.length_append, px_bw_len]; omega)
    have hf := a3.tr b3
    rw [if_neg (by rw [e10]; exact q)]
    unfold b_mdl_runPut_19 b_mdl_runPut_34
    have g := pm_put_go (b := b) (I := I) (V := V) (G := G) (R := R) (p := p) (M := M2) key c a mp.length v (by omega) hc ha hk16 (by rw [hf _ _ (by omega)]; exact h30) (by rw [hf _ _ (by omega)]; exact h29) (by rw [hf _ _ (by omega)]; exact h26) (by rw [hf _ _ (by omega)]; exact m1) (fun i hi => by rw [hf _ _ (by omega)]; exact h2 i hi) key.length 0 5000 (by omega) (by omega)
    rw [List.take_zero, px_blk_nil, px_va_id, nI_0] at g
    rw [px_rc_m, px_bs, px_bnd a1, if_pos (by decide), px_rc_m, px_bs, px_bnd b1, if_pos (by decide), g]
    simp only [q, if_false]
    refine ⟨_, _, rfl, ?_, ?_, ?_, fun o ho => px_u2_sl _ _ _ _ _ ho⟩
    · refine ⟨?_, fun i hi => ?_⟩
      · simp (disch := omega) only [px_u2_ne, px_va_ne]
        rw [← List.append_assoc]; exact b2.1
      · simp (disch := omega) only [px_u2_ne, px_va_ne]
        rw [← List.append_assoc] at hi ⊢; exact b2.2 i hi
    · rw [px_mm_iff]
      refine ⟨by rw [px_u2_eq, List.length_append, List.length_singleton], by rw [List.length_append, List.length_singleton]; omega, fun k hk => ?_⟩
      rw [List.length_append, List.length_singleton] at hk
      rw [px_k_app _ hk]
      by_cases hkm : k = mp.length
      · subst hkm
        rw [if_pos rfl]
        refine ⟨hk16, ?_, ?_, ?_⟩
        · simp (disch := omega) only [px_u2_ne, px_u2_eq]
        · intro i hi
          simp (disch := omega) only [px_u2_ne, px_va_eq]
          exact px_blk_agr _ _ _ i hi
        · rw [px_u2_eq]
      · rw [if_neg hkm]
        obtain ⟨q1, q2, q3, q4⟩ := m3 k (by omega)
        refine ⟨q1, ?_, ?_, ?_⟩
        · simp (disch := omega) only [px_u2_ne, px_va_ne]
          rw [hf _ _ (by omega)]; exact q2
        · intro i hi
          simp (disch := omega) only [px_u2_ne, px_va_eq]
          rw [px_blk_out _ _ _ _ (by omega), hf _ _ (by omega)]
          exact q3 i hi
        · rw [px_u2_ne _ _ _ _ _ _ (by omega)]; exact q4
    · intro o i h
      rw [px_u2_ne _ _ _ _ _ _ (by omega), px_u2_ne _ _ _ _ _ _ (by omega), px_va_ne _ _ _ _ (by omega)]
      exact hf.fj o i h
/-- a value changed -/
theorem px_mm_set {mp : px_Mp} {i : Nat} {v : Int64} (hm : px_mm M V mp) (hi : i < mp.length) : px_mm M (px_u2 V 323 i v) (mp.set i ((px_k mp i).1, v)) := by
  obtain ⟨m1, m2, m3⟩ := hm
  refine ⟨by rw [List.length_set]; exact m1, by rw [List.length_set]; exact m2, fun k hk => ?_⟩
  rw [List.length_set] at hk
  obtain ⟨q1, q2, q3, q4⟩ := m3 k hk
  rw [px_k_set _ hi]
  by_cases e : k = i
  · subst e
    rw [if_pos rfl]
    exact ⟨q1, q2, q3, px_u2_eq _ _ _ _⟩
  · rw [if_neg e]
    exact ⟨q1, q2, q3, by rw [px_u2_ne _ _ _ _ _ _ (by omega)]; exact q4⟩
theorem pm_runPut_some (i : Nat) (v : Int64) (mp : px_Mp) (out : List UInt8) (hm : px_mm M V mp) (hi : i < mp.length) (ho : px_ot M out) (hol : out.length ≤ 200) : ∃ M' V', f_mdl_runPut (px_W b I V G R M p) (b + 316) (nI i) v = some (px_W b I V' G R M' p) ∧ px_ot M' (out ++ (rc_bw 0 ++ rc_bw 1 ++ px_bl (px_k mp i).2)) ∧ px_mm M' V' (mp.set i ((px_k mp i).1, v)) ∧ px_fj M M' ∧ ∀ o, o ≠ 323 → V' o = V o := by
  obtain ⟨m1, m2, m3⟩ := id hm
  obtain ⟨M1, a1, a2, a3⟩ := pm_outWord (b := b) (I := I) (V := V) (G := G) (R := R) (p := p) 0 out ho (by omega)
  obtain ⟨M2, b1, b2, b3⟩ := pm_outWord (b := b) (I := I) (V := V) (G := G) (R := R) (p := p) 1 _ a2 (by rw [List.length_append, px_bw_len]; omega)
  obtain ⟨M3, c1, c2, c3⟩ := pm_outLong (b := b) (I := I) (V := V) (G := G) (R := R) (p := p) (px_k mp i).2 _ b2 (by simp only [List.length_append, px_bw_len]; omega)
  have hf := a3.tr (b3.tr c3)
  unfold f_mdl_runPut b_mdl_runPut_19 b_mdl_runPut_34
  rw [if_pos (nI_pos' (by omega)), px_rc_m, px_bs, px_bnd a1, if_neg (nI_pos (by omega)), px_rc_m, px_bs, px_bnd b1, if_neg (nI_pos (by omega)), px_gR_m_9, px_bs, px_aL_323 i (by omega), px_bs, (m3 i hi).2.2.2, px_rc_m, px_bs, px_bnd c1, px_gR_m_9, px_bs, px_sL_323 i _ (by omega), px_bs]
  refine ⟨M3, _, rfl, ?_, px_mm_set (hf.mm hm) hi, hf.fj, fun o ho => px_u2_sl _ _ _ _ _ ho⟩
  simp only [List.append_assoc] at c2 ⊢
  exact c2
theorem pm_rem_in (K : rc_M → Nat → Int32 → Option rc_M) (k : Nat) (hk : k < 40) : ∀ (m j f : Nat) (M : Nat → Nat → Int32), 16 = j + m → m < f → ∃ M', b_mdl_remove_42 K f (px_W b I V G R M p) (b + 316) (nI k) (nI j) = K (px_W b I V G R M' p) (b + 316) (nI (k + 1)) ∧ (∀ o i, ¬ (o = 321 ∧ 16 * k + j ≤ i ∧ i < 16 * k + 16) → M' o i = M o i) ∧ ∀ i, 16 * k + j ≤ i → i < 16 * k + 16 → M' 321 i = rc_sx (rc_lowb (M 321 (i + 16))) := by
  intro m
  induction m with
  | zero =>
    intro j f M hj hf
    obtain ⟨f, rfl⟩ : ∃ q, f = q + 1 := ⟨f - 1, by omega⟩
    rw [b_mdl_remove_42]
    have e1 : 16 ≤ j := by omega
    simp (disch := omega) only [↓reduceIte, ↓px_bs, ↓px_mB, px_10, px_modG, px_lit, px_mul, nI_add, px_u2_ne, px_u2_eq, nI_1, nI_clamp, px_lt0, px_nle, or_self, false_or, or_false, true_or, or_true, rc_b2, px_sxl, px_low_sx, px_low_u, px_nar0, px_nar1, px_z01, if_true, if_false, px_le, px_lt, px_eq, px_lt0, px_le0, px_0le, px_eq0, px_eq1, px_msub2, px_msub3, e1]
    exact ⟨M, rfl, fun _ _ _ => rfl, fun i h1 h2 => by omega⟩
  | succ m ih =>
    intro j f M hj hf
    obtain ⟨f, rfl⟩ : ∃ q, f = q + 1 := ⟨f - 1, by omega⟩
    obtain ⟨M', a1, a2, a3⟩ := ih (j + 1) f (px_u2 M 321 (16 * k + j) (rc_sx (rc_lowb (M 321 (16 * k + 16 + j))))) (by omega) (by omega)
    refine ⟨M', ?_, fun o i h => ?_, fun i h1 h2 => ?_⟩
    · rw [b_mdl_remove_42]
      have e1 : ¬ 16 ≤ j := by omega
      simp (disch := omega) only [↓reduceIte, ↓px_bs, ↓px_mB, px_10, px_modG, px_lit, px_mul, nI_add, px_u2_ne, px_u2_eq, nI_1, nI_clamp, px_lt0, px_nle, or_self, false_or, or_false, true_or, or_true, rc_b2, px_sxl, px_low_sx, px_low_u, px_nar0, px_nar1, px_z01, if_true, if_false, px_le, px_lt, px_eq, px_lt0, px_le0, px_0le, px_eq0, px_eq1, px_msub2, px_msub3, e1]
      exact a1
    · rw [a2 o i (by omega), px_u2_ne _ _ _ _ _ _ (by omega)]
    · by_cases e : i = 16 * k + j
      · subst e
        rw [a2 _ _ (by omega), px_u2_eq, show 16 * k + j + 16 = 16 * k + 16 + j by omega]
      · rw [a3 i (by omega) h2, px_u2_ne _ _ _ _ _ _ (by omega)]
theorem pm_rem_go (mp : px_Mp) (i0 : Nat) (hi : i0 < mp.length) (h40 : mp.length ≤ 40) : ∀ (m k f : Nat) (M : Nat → Nat → Int32) (V : Nat → Nat → Int64), mp.length = k + 1 + m → m < f → i0 ≤ k → M 316 10 = nI mp.length → (∀ j, j < k → px_me M V j (px_k (mp.eraseIdx i0) j)) → (∀ j, k < j → j < mp.length → px_me M V j (px_k mp j)) → ∃ M' V', b_mdl_remove_2 f (px_W b I V G R M p) (b + 316) (nI k) = some (px_W b I V' G R M' p) ∧ px_mm M' V' (mp.eraseIdx i0) ∧ (∀ o i, ¬ (o = 321 ∨ o = 322 ∨ (o = 316 ∧ i = 10)) → M' o i = M o i) ∧ ∀ o, o ≠ 323 → V' o = V o := by
  have hlen : (mp.eraseIdx i0).length = mp.length - 1 := by rw [List.length_eraseIdx, if_pos hi]
  intro m
  induction m with
  | zero =>
    intro k f M V hk hf hik h10 h1 h2
    obtain ⟨f, rfl⟩ : ∃ q, f = q + 1 := ⟨f - 1, by omega⟩
    rw [b_mdl_remove_2]
    have e1 : mp.length ≤ k + 1 := by omega
    have e2 : nI mp.length - 1 = nI (mp.length - 1) := by rw [show (1 : Int32) = nI 1 from rfl, px_sub (by omega)]
    simp (disch := omega) only [↓reduceIte, ↓px_bs, ↓px_mB, px_10, px_modG, px_lit, px_mul, nI_add, px_u2_ne, px_u2_eq, nI_1, nI_clamp, px_lt0, px_nle, or_self, false_or, or_false, true_or, or_true, rc_b2, px_sxl, px_low_sx, px_low_u, px_nar0, px_nar1, px_z01, if_true, if_false, px_le, px_lt, px_eq, px_lt0, px_le0, px_0le, px_eq0, px_eq1, px_msub2, px_msub3, h10, e1, e2]
    refine ⟨_, V, rfl, ⟨by rw [px_u2_eq, hlen], by omega, fun j hj => ?_⟩, fun o i h => px_u2_ne _ _ _ _ _ _ (by omega), fun _ _ => rfl⟩
    obtain ⟨q1, q2, q3, q4⟩ := h1 j (by omega)
    exact ⟨q1, by rw [px_u2_ne _ _ _ _ _ _ (by omega)]; exact q2, by rw [px_u2_sl _ _ _ _ _ (by decide)]; exact q3, q4⟩
  | succ m ih =>
    intro k f M V hk hf hik h10 h1 h2
    obtain ⟨f, rfl⟩ : ∃ q, f = q + 1 := ⟨f - 1, by omega⟩
    rw [b_mdl_remove_2]
    have e1 : ¬ mp.length ≤ k + 1 := by omega
    obtain ⟨n1, n2, n3, n4⟩ := h2 (k + 1) (by omega) (by omega)
    generalize hF : (5000 : Nat) = fu
    obtain ⟨M1, a1, a2, a3⟩ := pm_rem_in (b := b) (I := I) (V := px_u2 V 323 k (V 323 (k + 1))) (G := G) (R := R) (p := p) (b_mdl_remove_2 f) k (by omega) 16 0 fu (px_u2 M 322 k (M 322 (k + 1))) (by omega) (by omega)
    have hme : px_me M1 (px_u2 V 323 k (V 323 (k + 1))) k (px_k mp (k + 1)) := by
      refine ⟨n1, ?_, fun i hi => ?_, ?_⟩
      · rw [a2 _ _ (by omega), px_u2_eq]; exact n2
      · rw [a3 _ (by omega) (by omega), px_u2_ne _ _ _ _ _ _ (by omega), show 16 * k + i + 16 = 16 * (k + 1) + i by omega, n3 i hi, px_low_sx]
      · rw [px_u2_eq]; exact n4
    obtain ⟨M2, V2, b1, b2, b3, b4⟩ := ih (k + 1) f M1 (px_u2 V 323 k (V 323 (k + 1))) (by omega) (by omega) (by omega) (by rw [a2 _ _ (by omega), px_u2_ne _ _ _ _ _ _ (by omega)]; exact h10) (fun j hj => by
        by_cases e : j = k
        · subst e
          rw [px_k_era, if_neg (by omega)]
          exact hme
        · obtain ⟨q1, q2, q3, q4⟩ := h1 j (by omega)
          exact ⟨q1, by rw [a2 _ _ (by omega), px_u2_ne _ _ _ _ _ _ (by omega)]; exact q2, fun i hi => by rw [a2 _ _ (by omega), px_u2_ne _ _ _ _ _ _ (by omega)]; exact q3 i hi, by rw [px_u2_ne _ _ _ _ _ _ (by omega)]; exact q4⟩) (fun j hj hj2 => by
        obtain ⟨q1, q2, q3, q4⟩ := h2 j (by omega) hj2
        exact ⟨q1, by rw [a2 _ _ (by omega), px_u2_ne _ _ _ _ _ _ (by omega)]; exact q2, fun i hi => by rw [a2 _ _ (by omega), px_u2_ne _ _ _ _ _ _ (by omega)]; exact q3 i hi, by rw [px_u2_ne _ _ _ _ _ _ (by omega)]; exact q4⟩)
    refine ⟨M2, V2, ?_, b2, fun o i h => ?_, fun o ho => ?_⟩
    · rw [← b1]
      simp (disch := omega) only [↓reduceIte, ↓px_bs, ↓px_mB, px_10, px_modG, px_lit, px_mul, nI_add, px_u2_ne, px_u2_eq, nI_1, nI_clamp, px_lt0, px_nle, or_self, false_or, or_false, true_or, or_true, rc_b2, px_sxl, px_low_sx, px_low_u, px_nar0, px_nar1, px_z01, if_true, if_false, px_le, px_lt, px_eq, px_lt0, px_le0, px_0le, px_eq0, px_eq1, px_msub2, px_msub3, h10, e1]
      rw [← a1, nI_0]
    · rw [b3 o i h, a2 o i (by omega), px_u2_ne _ _ _ _ _ _ (by omega)]
    · rw [b4 o ho, px_u2_sl _ _ _ _ _ ho]
theorem pm_remove (mp : px_Mp) (i : Nat) (hi : i < mp.length) (hm : px_mm M V mp) : ∃ M' V', f_mdl_remove (px_W b I V G R M p) (b + 316) (nI i) = some (px_W b I V' G R M' p) ∧ px_mm M' V' (mp.eraseIdx i) ∧ (∀ o j, ¬ (o = 321 ∨ o = 322 ∨ (o = 316 ∧ j = 10)) → M' o j = M o j) ∧ ∀ o, o ≠ 323 → V' o = V o := by
  obtain ⟨m1, m2, m3⟩ := hm
  unfold f_mdl_remove
  refine pm_rem_go mp i hi m2 (mp.length - (i + 1)) i 5000 M V (by omega) (by omega) (Nat.le_refl i) m1 (fun j hj => ?_) (fun j hj hj2 => m3 j hj2)
  rw [px_k_era, if_pos hj]
  exact m3 j (by omega)
end PX
