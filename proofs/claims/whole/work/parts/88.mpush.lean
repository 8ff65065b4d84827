/-! THE REFERENCE, 19: serve, push -/
abbrev px_Z : Type := px_Rp × px_Mp × (Int32 × Int32 × Int32) × (Nat → List UInt8) × Nat
def px_sv (l : List UInt8) (z : px_Z) : px_Z × Bool :=
  if l.length < 8 ∨ rc_wd l 4 ≠ 0 then ((z.1, z.2.1, (z.2.2.1.1, z.2.2.1.2.1, z.2.2.1.2.2 + 1), z.2.2.2), false)
  else match px_fn z.1 (rc_wd l 0) with
    | some i => ((z.1, z.2.1, (z.2.2.1.1, z.2.2.1.2.1 + 1, z.2.2.1.2.2), va_up z.2.2.2.1 (z.2.2.2.2 % 64) (px_one (px_q z.1 i).2), z.2.2.2.2 + 1), true)
    | none => if px_vd l = -1 then ((z.1, z.2.1, (z.2.2.1.1, z.2.2.1.2.1, z.2.2.1.2.2 + 1), z.2.2.2), false)
      else ((px_kp z.1 (rc_wd l 0) (px_jd l (rc_wd l 0) z.2.1).1, (px_jd l (rc_wd l 0) z.2.1).2, ((if px_vt l = 0 then z.2.2.1.1 + 1 else z.2.2.1.1), z.2.2.1.2.1, z.2.2.1.2.2), va_up z.2.2.2.1 (z.2.2.2.2 % 64) (px_one (px_jd l (rc_wd l 0) z.2.1).1), z.2.2.2.2 + 1), true)
def px_MZ (M : Nat → Nat → Int32) (V : Nat → Nat → Int64) (c : Nat) (z : px_Z) : Prop := px_rp M c z.1 ∧ px_mm M V z.2.1 ∧ (M 316 23 = z.2.2.1.1 ∧ M 316 24 = z.2.2.1.2.1 ∧ M 316 25 = z.2.2.1.2.2) ∧ px_sl M z.2.2.2.1 ∧ M 316 5 = nI z.2.2.2.2
def px_fv (c : Nat) (M M' : Nat → Nat → Int32) : Prop := ∀ o i, ¬ (o = 318 ∨ o = 319 ∨ o = 336 ∨ o = 321 ∨ o = 322 ∨ (o = 316 ∧ (i = 5 ∨ i = 10 ∨ (23 ≤ i ∧ i ≤ 25) ∨ (27 ≤ i ∧ i ≤ 33))) ∨ ((o = 332 ∨ o = 333) ∧ 8 * c ≤ i ∧ i < 8 * c + 8) ∨ (o = 334 ∧ 3200 * c ≤ i ∧ i < 3200 * c + 3200) ∨ (o = 335 ∧ i = c)) → M' o i = M o i
theorem px_fv.tr {c : Nat} {M M1 M2 : Nat → Nat → Int32} (h1 : px_fv c M M1) (h2 : px_fv c M1 M2) : px_fv c M M2 := fun o i h => (h2 o i h).trans (h1 o i h)
theorem px_ls_len (mp : px_Mp) (x y : Int32) (h16 : ∀ k, (px_k mp k).1.length ≤ 16) : (px_ls mp x y).length ≤ 300 := by
  have he : ∀ n k, (px_els mp n k).length ≤ 32 * n := by
    intro n
    induction n with
    | zero => intro k; simp [px_els]
    | succ n ih =>
      intro k
      rw [px_els, List.length_append]
      have := ih (k + 1)
      have := px_kv_len (px_k mp k) (h16 k)
      omega
  have hw : px_wt y ≤ 8 := by unfold px_wt; split <;> omega
  unfold px_ls
  rw [List.length_append, List.length_append, px_bw_len, px_bw_len]
  have := he (min (px_th x mp.length) (px_wt y)) x.toNatClampNeg
  omega
theorem px_sm_len (l : List UInt8) (mp : px_Mp) : ∀ (n a : Nat) (s : Int64) (m : Int32), (px_sm l mp n a s m).length = 12 := by
  intro n
  induction n with
  | zero => intro a s m; rw [px_sm, List.length_append, px_bl_len, px_bw_len]
  | succ n ih =>
    intro a s m
    rw [px_sm]
    split <;> exact ih _ _ _
theorem px_run_len (proc : Int32) (l : List UInt8) (a : Nat) (mp : px_Mp) (h16 : ∀ k, (px_k mp k).1.length ≤ 16) : (px_run proc l a mp).1.length ≤ 300 := by
  unfold px_run
  split
  · simp only; rw [px_sm_len]; omega
  · split
    · exact px_ls_len _ _ _ h16
    · split
      · simp
      · split
        · split
          · split <;> simp [px_bw_len]
          · split <;> simp [px_bw_len]
        · split
          · simp [px_bw_len, px_bl_len]
          · split
            · simp [px_bw_len]
            · split <;> simp [px_bw_len, px_bl_len]
theorem px_mm_16 {M : Nat → Nat → Int32} {V : Nat → Nat → Int64} {mp : px_Mp} (h : px_mm M V mp) : ∀ k, (px_k mp k).1.length ≤ 16 := by
  intro k
  by_cases q : k < mp.length
  · exact (h.2.2 k q).1
  · unfold px_k
    rw [List.getD_eq_getElem?_getD, List.getElem?_eq_none (by omega)]
    simp
theorem px_jd_len (l : List UInt8) (number : Int32) (mp : px_Mp) (h16 : ∀ k, (px_k mp k).1.length ≤ 16) : (px_jd l number mp).1.length ≤ 340 := by
  have h1 := px_run_len (px_r3 l).1 l (px_a0 l) mp h16
  unfold px_jd
  split
  · simp only [List.length_append]
    have := px_hd_len number 0
    omega
  · have := px_hd_len number (px_vt l)
    simp only
    omega
section PX
variable {b : Nat} {I : Nat → Nat → Int32} {V : Nat → Nat → Int64} {G : Nat → Nat → Nat} {R : Nat → List UInt8} {M : Nat → Nat → Int32} {p : px_P} {e : Nat}
theorem pm_serve_go (c : Nat) (hc : c < 4) (l : List UInt8) (z : px_Z) (hz : px_MZ M V c z) (hx : px_rx M c l) (hl8 : 8 ≤ l.length) (hn : z.2.2.2.2 < 2 ^ 30) : ∀ (m k f : Nat), z.1.length = k + m → m < f → ∃ M' V', b_mdl_serve_44 f (px_W b I V G R M p) (b + 316) (nI c) (rc_wd l 0) (nI k) = some (px_z (match px_fng z.1 (rc_wd l 0) m k with | some _ => true | none => if px_vd l = -1 then false else true), px_W b I V' G R M' p) ∧ px_MZ M' V' c (match px_fng z.1 (rc_wd l 0) m k with | some i => (z.1, z.2.1, (z.2.2.1.1, z.2.2.1.2.1 + 1, z.2.2.1.2.2), va_up z.2.2.2.1 (z.2.2.2.2 % 64) (px_one (px_q z.1 i).2), z.2.2.2.2 + 1) | none => if px_vd l = -1 then (z.1, z.2.1, (z.2.2.1.1, z.2.2.1.2.1, z.2.2.1.2.2 + 1), z.2.2.2) else (px_kp z.1 (rc_wd l 0) (px_jd l (rc_wd l 0) z.2.1).1, (px_jd l (rc_wd l 0) z.2.1).2, ((if px_vt l = 0 then z.2.2.1.1 + 1 else z.2.2.1.1), z.2.2.1.2.1, z.2.2.1.2.2), va_up z.2.2.2.1 (z.2.2.2.2 % 64) (px_one (px_jd l (rc_wd l 0) z.2.1).1), z.2.2.2.2 + 1)) ∧ px_fv c M M' ∧ ∀ o, o ≠ 323 → V' o = V o := by
  obtain ⟨rp, mp, ⟨dn, rt, bd⟩, s, n⟩ := z
  obtain ⟨z1, z2, ⟨z3, z4, z5⟩, z6, z7⟩ := hz
  simp only at z1 z2 z3 z4 z5 z6 z7 hn ⊢
  obtain ⟨r1, r2, r3⟩ := id z1
  intro m
  induction m with
  | zero =>
    intro k f hk hf
    obtain ⟨f, rfl⟩ : ∃ q, f = q + 1 := ⟨f - 1, by omega⟩
    rw [b_mdl_serve_44, px_gR_m_22, px_bs, px_aI_m_22 c (by omega), px_bs, r1, if_pos (nI_le (by omega) (by omega)), px_pI_m_32, px_bs, px_rc_m, px_bs]
    have f0 : ∀ o i, ¬ (o = 316 ∧ i = 32) → px_u2 M 316 32 0 o i = M o i := fun o i q => px_u2_ne _ _ _ _ _ _ q
    have ho0 : px_ot (px_u2 M 316 32 0) [] := ⟨px_u2_eq _ _ _ _, fun i hi => by simp at hi⟩
    generalize px_u2 M 316 32 0 = M0 at *
    have fo : px_fo M M0 := fun o i q => f0 o i (by omega)
    obtain ⟨M1, V1, a1, a2, a3, a4, a5, a6⟩ := pm_judge (b := b) (I := I) (V := V) (G := G) (R := R) (p := p) (M := M0) c l (rc_wd l 0) mp (fo.fj.rx hx) hl8 (fo.mm z2) ho0
    rw [px_bnd a1]
    rw [px_fng]
    dsimp only
    by_cases hv : px_vd l = -1
    · have hvt : ¬ px_vt l = 0 := by unfold px_vt; rw [hv, if_neg (fun q => absurd q.1 (by decide))]; decide
      rw [if_pos hv] at a4
      rw [if_neg hvt, f0 _ _ (by omega)] at a6
      rw [if_pos hv, if_pos rfl, px_gI_m_25, px_bs, px_pI_m_25, px_bs]
      unfold rc_z1
      rw [if_pos (Or.inl rfl), if_pos hv, if_pos hv]
      have h25 : M1 316 25 = bd := by rw [a2 _ _ (by omega), f0 _ _ (by omega)]; exact z5
      rw [h25]
      refine ⟨_, V1, rfl, ⟨⟨?_, r2, fun j hj => ?_⟩, ?_, ⟨?_, ?_, px_u2_eq _ _ _ _⟩, px_sl_same z6 (fun i => ?_) (fun i => ?_), ?_⟩, fun o i h => ?_, a3⟩
      · rw [px_u2_ne _ _ _ _ _ _ (by omega), a2 _ _ (by omega), f0 _ _ (by omega)]; exact r1
      · refine px_re_same (r3 j hj) ?_ ?_ (fun q hq => ?_) <;> rw [px_u2_ne _ _ _ _ _ _ (by omega), a2 _ _ (by omega), f0 _ _ (by omega)]
      · obtain ⟨m1, m2, m3⟩ := a4
        refine ⟨by rw [px_u2_ne _ _ _ _ _ _ (by omega)]; exact m1, m2, fun j hj => ?_⟩
        obtain ⟨q1, q2, q3, q4⟩ := m3 j hj
        exact ⟨q1, by rw [px_u2_ne _ _ _ _ _ _ (by omega)]; exact q2, fun i hi => by rw [px_u2_ne _ _ _ _ _ _ (by omega)]; exact q3 i hi, q4⟩
      · rw [px_u2_ne _ _ _ _ _ _ (by omega), a6]; exact z3
      · rw [px_u2_ne _ _ _ _ _ _ (by omega), a2 _ _ (by omega), f0 _ _ (by omega)]; exact z4
      · rw [px_u2_ne _ _ _ _ _ _ (by omega), a2 _ _ (by omega), f0 _ _ (by omega)]
      · rw [px_u2_ne _ _ _ _ _ _ (by omega), a2 _ _ (by omega), f0 _ _ (by omega)]
      · rw [px_u2_ne _ _ _ _ _ _ (by omega), a2 _ _ (by omega), f0 _ _ (by omega)]; exact z7
      · rw [px_u2_ne _ _ _ _ _ _ (by omega), a2 _ _ (by omega), f0 _ _ (by omega)]
    · rw [if_neg hv] at a4
      rw [if_neg hv, if_neg (by decide), px_rc_m, px_bs]
      have hrp1 : px_rp M1 c rp := ⟨by rw [a2 _ _ (by omega), f0 _ _ (by omega)]; exact r1, r2, fun j hj => by
        refine px_re_same (r3 j hj) ?_ ?_ (fun q hq => ?_) <;> rw [a2 _ _ (by omega), f0 _ _ (by omega)]⟩
      obtain ⟨M2, b1, b2, b3, b4, b5⟩ := pm_keep (b := b) (I := I) (V := V1) (G := G) (R := R) (p := p) (M := M1) c n hc rp (rc_wd l 0) (px_jd l (rc_wd l 0) mp).1 s hrp1 (a5 hv) (by have := px_jd_len l (rc_wd l 0) mp (px_mm_16 z2); omega) hn (by rw [a2 _ _ (by omega), f0 _ _ (by omega)]; exact z7) (px_sl_same z6 (fun i => by rw [a2 _ _ (by omega), f0 _ _ (by omega)]) (fun i => by rw [a2 _ _ (by omega), f0 _ _ (by omega)]))
      rw [px_bnd b1]
      unfold rc_z1
      rw [if_pos (Or.inr rfl), if_neg hv, if_neg hv]
      refine ⟨M2, V1, rfl, ⟨b2, ?_, ⟨?_, ?_, ?_⟩, b3, b4⟩, fun o i h => ?_, a3⟩
      · obtain ⟨m1, m2, m3⟩ := a4
        refine ⟨by rw [b5 _ _ (by omega)]; exact m1, m2, fun j hj => ?_⟩
        obtain ⟨q1, q2, q3, q4⟩ := m3 j hj
        exact ⟨q1, by rw [b5 _ _ (by omega)]; exact q2, fun i hi => by rw [b5 _ _ (by omega)]; exact q3 i hi, q4⟩
      · show M2 316 23 = if px_vt l = 0 then dn + 1 else dn
        rw [b5 _ _ (by omega), a6, f0 _ _ (by omega), z3]
      · rw [b5 _ _ (by omega), a2 _ _ (by omega), f0 _ _ (by omega)]; exact z4
      · rw [b5 _ _ (by omega), a2 _ _ (by omega), f0 _ _ (by omega)]; exact z5
      · rw [b5 _ _ (by omega), a2 _ _ (by omega), f0 _ _ (by omega)]
  | succ m ih =>
    intro k f hk hf
    obtain ⟨f, rfl⟩ : ∃ q, f = q + 1 := ⟨f - 1, by omega⟩
    obtain ⟨q1, q2, q3, q4⟩ := r3 k (by omega)
    rw [b_mdl_serve_44, px_gR_m_22, px_bs, px_aI_m_22 c (by omega), px_bs, r1, if_neg (nI_ge (by omega) (by omega)), px_gR_m_19, px_bs, show (8 : Int32) = nI 8 from rfl, px_mul, nI_add, px_aI_m_19 _ (by omega), px_bs, q1]
    rw [px_fng]
    by_cases hq : (px_q rp k).1 = rc_wd l 0
    · rw [if_pos hq, if_pos hq]
      dsimp only
      rw [px_gI_m_24, px_bs, z4, px_pI_m_24, px_bs, px_rc_m, px_bs]
      have e2 := pm_send (b := b) (I := I) (V := V) (G := G) (R := R) (p := p) (M := px_u2 M 316 24 (rt + 1)) (px_q rp k).2 (8 * c + k) n hn (by rw [px_u2_ne _ _ _ _ _ _ (by omega)]; exact z7) (by omega) (by rw [px_u2_ne _ _ _ _ _ _ (by omega)]; exact q2) (by rw [px_u2_sl _ _ _ _ _ (by decide)]; exact q4) q3
      rw [px_bnd e2]
      unfold rc_z1
      rw [if_pos (Or.inr rfl)]
      have hsame : ∀ o i, o ≠ 318 → o ≠ 319 → ¬ (o = 316 ∧ (i = 5 ∨ i = 24)) → px_ms (px_u2 (px_u2 M 316 24 (rt + 1)) 316 5 (nI (n + 1))) (n % 64) (px_one (px_q rp k).2) o i = M o i := by
        intro o i h1 h2 h3
        rw [px_ms_ne _ _ _ _ h1 h2, px_u2_ne _ _ _ _ _ _ (by omega), px_u2_ne _ _ _ _ _ _ (by omega)]
      refine ⟨_, V, rfl, ⟨⟨?_, r2, fun j hj => ?_⟩, ?_, ⟨?_, ?_, ?_⟩, ?_, ?_⟩, fun o i h => hsame o i (by omega) (by omega) (by omega), fun _ _ => rfl⟩
      · rw [hsame _ _ (by decide) (by decide) (by omega)]; exact r1
      · refine px_re_same (r3 j hj) ?_ ?_ (fun q hq => ?_) <;> rw [hsame _ _ (by decide) (by decide) (by omega)]
      · obtain ⟨m1, m2, m3⟩ := z2
        refine ⟨by rw [hsame _ _ (by decide) (by decide) (by omega)]; exact m1, m2, fun j hj => ?_⟩
        obtain ⟨q1, q2, q3, q4⟩ := m3 j hj
        exact ⟨q1, by rw [hsame _ _ (by decide) (by decide) (by omega)]; exact q2, fun i hi => by rw [hsame _ _ (by decide) (by decide) (by omega)]; exact q3 i hi, q4⟩
      · rw [hsame _ _ (by decide) (by decide) (by omega)]; exact z3
      · rw [px_ms_ne _ _ _ _ (by decide) (by decide), px_u2_ne _ _ _ _ _ _ (by omega), px_u2_eq]
      · rw [hsame _ _ (by decide) (by decide) (by omega)]; exact z5
      · refine px_sl_ms (px_sl_same z6 (fun i => ?_) (fun i => ?_)) (by omega) (by rw [px_one_len]; omega)
        · rw [px_u2_ne _ _ _ _ _ _ (by omega), px_u2_ne _ _ _ _ _ _ (by omega)]
        · rw [px_u2_ne _ _ _ _ _ _ (by omega), px_u2_ne _ _ _ _ _ _ (by omega)]
      · rw [px_ms_ne _ _ _ _ (by decide) (by decide), px_u2_eq]
    · rw [if_neg hq, if_neg hq, nI_1]
      exact ih (k + 1) f (by omega) (by omega)
theorem pm_serve (c : Nat) (l : List UInt8) (z : px_Z) (hz : px_MZ M V c z) (hx : px_rx M c l) (hn : z.2.2.2.2 < 2 ^ 30) : ∃ M' V', f_mdl_serve (px_W b I V G R M p) (b + 316) = some (px_z (px_sv l z).2, px_W b I V' G R M' p) ∧ px_MZ M' V' c (px_sv l z).1 ∧ px_fv c M M' ∧ ∀ o, o ≠ 323 → V' o = V o := by
  obtain ⟨hc, x1, x2, x3, x4⟩ := id hx
  have bad : ∃ M' V', b_mdl_serve_24 (px_W b I V G R M p) (b + 316) = some (px_z false, px_W b I V' G R M' p) ∧ px_MZ M' V' c (z.1, z.2.1, (z.2.2.1.1, z.2.2.1.2.1, z.2.2.1.2.2 + 1), z.2.2.2) ∧ px_fv c M M' ∧ ∀ o, o ≠ 323 → V' o = V o := by
    obtain ⟨rp, mp, ⟨dn, rt, bd⟩, s, n⟩ := z
    obtain ⟨z1, z2, ⟨z3, z4, z5⟩, z6, z7⟩ := hz
    simp only at z1 z2 z3 z4 z5 z6 z7 ⊢
    obtain ⟨r1, r2, r3⟩ := id z1
    unfold b_mdl_serve_24 rc_z1
    rw [px_gI_m_25, px_bs, px_pI_m_25, px_bs, if_pos (Or.inl rfl), z5]
    refine ⟨_, V, rfl, ⟨⟨?_, r2, fun j hj => ?_⟩, ?_, ⟨?_, ?_, px_u2_eq _ _ _ _⟩, px_sl_same z6 (fun i => ?_) (fun i => ?_), ?_⟩, fun o i h => ?_, fun _ _ => rfl⟩
    · rw [px_u2_ne _ _ _ _ _ _ (by omega)]; exact r1
    · refine px_re_same (r3 j hj) ?_ ?_ (fun q hq => ?_) <;> rw [px_u2_ne _ _ _ _ _ _ (by omega)]
    · obtain ⟨m1, m2, m3⟩ := z2
      refine ⟨by rw [px_u2_ne _ _ _ _ _ _ (by omega)]; exact m1, m2, fun j hj => ?_⟩
      obtain ⟨q1, q2, q3, q4⟩ := m3 j hj
      exact ⟨q1, by rw [px_u2_ne _ _ _ _ _ _ (by omega)]; exact q2, fun i hi => by rw [px_u2_ne _ _ _ _ _ _ (by omega)]; exact q3 i hi, q4⟩
    · rw [px_u2_ne _ _ _ _ _ _ (by omega)]; exact z3
    · rw [px_u2_ne _ _ _ _ _ _ (by omega)]; exact z4
    · rw [px_u2_ne _ _ _ _ _ _ (by omega)]
    · rw [px_u2_ne _ _ _ _ _ _ (by omega)]
    · rw [px_u2_ne _ _ _ _ _ _ (by omega)]; exact z7
    · rw [px_u2_ne _ _ _ _ _ _ (by omega)]
  unfold f_mdl_serve px_sv
  rw [px_gI_m_26, px_bs, x1, px_gR_m_12, px_bs, px_aI_m_12 c hc, px_bs, x2]
  by_cases h8 : l.length < 8
  · rw [if_pos (by rw [show (8 : Int32) = nI 8 from rfl, px_lt (by omega) (by decide)]; exact h8), if_pos (Or.inl h8)]
    exact bad
  · rw [if_neg (by rw [show (8 : Int32) = nI 8 from rfl, px_lt (by omega) (by decide)]; exact h8), px_rc_m, px_bs]
    have w4 := pm_recordWord (b := b) (I := I) (V := V) (G := G) (R := R) (p := p) (M := M) c 4 l hc x1 x4 (by omega) x3
    have w0 := pm_recordWord (b := b) (I := I) (V := V) (G := G) (R := R) (p := p) (M := M) c 0 l hc x1 x4 (by omega) x3
    rw [px_bnd (show f_mdl_recordWord (px_W b I V G R M p) (b + 316) 4 = _ from w4)]
    dsimp only
    by_cases h4 : rc_wd l 4 = 0
    · rw [if_pos h4, px_rc_m, px_bs, px_bnd (show f_mdl_recordWord (px_W b I V G R M p) (b + 316) 0 = _ from w0)]
      dsimp only
      rw [if_neg (fun q => q.elim h8 (fun z => z h4))]
      obtain ⟨M', V', a1, a2, a3, a4⟩ := pm_serve_go (b := b) (I := I) (V := V) (G := G) (R := R) (p := p) (M := M) c hc l z hz hx (by omega) hn z.1.length 0 5000 (by omega) (by have := hz.1.2.1; omega)
      rw [nI_0] at a1
      refine ⟨M', V', ?_, ?_, a3, a4⟩
      · rw [a1]
        unfold px_fn
        cases px_fng z.1 (rc_wd l 0) (List.length z.1) 0 with
        | some i => rfl
        | none => dsimp only; split <;> rfl
      · unfold px_fn
        cases hq : px_fng z.1 (rc_wd l 0) (List.length z.1) 0 with
        | some i => rw [hq] at a2; exact a2
        | none => rw [hq] at a2; dsimp only at a2 ⊢; split <;> rename_i q <;> simp only [q, if_true, if_false] at a2 <;> exact a2
    · rw [if_neg h4, if_pos (Or.inr h4)]
      exact bad
end PX
