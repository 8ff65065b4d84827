/-! THE LAW, 1: the reference's whole state, and both sides of each method -/
def px_MI (M : Nat → Nat → Int32) (V : Nat → Nat → Int64) (T : List UInt8) (s : Nat → List UInt8) (n : Nat) (mp : px_Mp) (t : Int32 × Int32 × Int32) (S : Nat → px_S) (Q : Nat → px_Rp) : Prop := px_tp M T ∧ px_sl M s ∧ M 316 5 = nI n ∧ px_mm M V mp ∧ (M 316 23 = t.1 ∧ M 316 24 = t.2.1 ∧ M 316 25 = t.2.2) ∧ (∀ c, c < 4 → px_cn M c (S c)) ∧ (∀ c, c < 4 → px_rp M c (Q c)) ∧ (∀ c, c < 4 → px_sok (S c))
theorem px_tp_same {M M' : Nat → Nat → Int32} {T : List UInt8} (h : px_tp M T) (h1 : M' 316 2 = M 316 2) (h2 : ∀ i, M' 317 i = M 317 i) : px_tp M' T := ⟨h1.trans h.1, h.2.1, fun i hi => (h2 i).trans (h.2.2 i hi)⟩
theorem px_mm_same {M M' : Nat → Nat → Int32} {V V' : Nat → Nat → Int64} {mp : px_Mp} (h : px_mm M V mp) (h1 : M' 316 10 = M 316 10) (h2 : ∀ i, M' 321 i = M 321 i) (h3 : ∀ i, M' 322 i = M 322 i) (h4 : ∀ k, V' 323 k = V 323 k) : px_mm M' V' mp := ⟨h1.trans h.1, h.2.1, fun k hk => ⟨(h.2.2 k hk).1, (h3 k).trans (h.2.2 k hk).2.1, fun i hi => (h2 _).trans ((h.2.2 k hk).2.2.1 i hi), (h4 k).trans (h.2.2 k hk).2.2.2⟩⟩
theorem px_cn_same {M M' : Nat → Nat → Int32} {c : Nat} {x : px_S} (h : px_cn M c x) (hl : x.2.2.2.1.length ≤ 1200) (h1 : ∀ o, 325 ≤ o → o ≤ 331 → M' o c = M o c) (h2 : ∀ i, 1200 * c ≤ i → i < 1200 * c + 1200 → M' 324 i = M 324 i) : px_cn M' c x := by
  obtain ⟨a1, a2, a3, a4, a5, a6, a7⟩ := h
  refine ⟨(h1 _ (by omega) (by omega)).trans a1, (h1 _ (by omega) (by omega)).trans a2, (h1 _ (by omega) (by omega)).trans a3, (h1 _ (by omega) (by omega)).trans a4, (h1 _ (by omega) (by omega)).trans a5, fun i hi => (h2 _ (by omega) (by omega)).trans (a6 i hi), fun q1 q2 => ?_⟩
  rw [h1 _ (by omega) (by omega), h1 _ (by omega) (by omega)]
  exact a7 q1 q2
theorem px_rp_same {M M' : Nat → Nat → Int32} {c : Nat} {rp : px_Rp} (h : px_rp M c rp) (h1 : M' 335 c = M 335 c) (h2 : ∀ i, 8 * c ≤ i → i < 8 * c + 8 → M' 332 i = M 332 i ∧ M' 333 i = M 333 i) (h3 : ∀ i, 3200 * c ≤ i → i < 3200 * c + 3200 → M' 334 i = M 334 i) : px_rp M' c rp := by
  obtain ⟨a1, a2, a3⟩ := h
  exact ⟨h1.trans a1, a2, fun k hk => px_re_same (a3 k hk) (h2 _ (by omega) (by omega)).1 (h2 _ (by omega) (by omega)).2 (fun j hj => h3 _ (by omega) (by omega))⟩
section PX
variable {b : Nat} {I : Nat → Nat → Int32} {V : Nat → Nat → Int64} {G : Nat → Nat → Nat} {R : Nat → List UInt8} {M : Nat → Nat → Int32} {p : px_P} {e : Nat}
variable {T : List UInt8} {s : Nat → List UInt8} {n : Nat} {mp : px_Mp} {t : Int32 × Int32 × Int32} {S : Nat → px_S} {Q : Nat → px_Rp}
theorem px_MI.fr0 {M' : Nat → Nat → Int32} {V' : Nat → Nat → Int64} (h : px_MI M V T s n mp t S Q) (hf : ∀ o i, ¬ (o = 320 ∨ (o = 316 ∧ i = 0)) → M' o i = M o i) (hV : ∀ k, V' 323 k = V 323 k) : px_MI M' V' T s n mp t S Q := by
  obtain ⟨h1, h2, h3, h4, h5, h6, h7, h8⟩ := h
  exact ⟨px_tp_same h1 (hf _ _ (by omega)) (fun i => hf _ _ (by omega)), px_sl_same h2 (fun i => hf _ _ (by omega)) (fun i => hf _ _ (by omega)), (hf _ _ (by omega)).trans h3, px_mm_same h4 (hf _ _ (by omega)) (fun i => hf _ _ (by omega)) (fun i => hf _ _ (by omega)) hV, ⟨(hf _ _ (by omega)).trans h5.1, (hf _ _ (by omega)).trans h5.2.1, (hf _ _ (by omega)).trans h5.2.2⟩, fun c hc => px_cn_same (h6 c hc) (h8 c hc).2.1 (fun o q1 q2 => hf _ _ (by omega)) (fun i q1 q2 => hf _ _ (by omega)), fun c hc => px_rp_same (h7 c hc) (hf _ _ (by omega)) (fun i q1 q2 => ⟨hf _ _ (by omega), hf _ _ (by omega)⟩) (fun i q1 q2 => hf _ _ (by omega)), h8⟩
theorem px_MI.zero (h : px_MI M V T s n mp t S Q) (y : Int32) : px_MI (px_u2 M 316 0 y) V T s n mp t S Q := h.fr0 (fun o i q => px_u2_ne _ _ _ _ _ _ (by omega)) (fun _ => rfl)
theorem px_MI.tape {M' : Nat → Nat → Int32} {T' : List UInt8} (h : px_MI M V T s n mp t S Q) (hf : ∀ o i, ¬ (o = 317 ∨ (o = 316 ∧ (i = 0 ∨ i = 2))) → M' o i = M o i) (hT : px_tp M' T') : px_MI M' V T' s n mp t S Q := by
  obtain ⟨h1, h2, h3, h4, h5, h6, h7, h8⟩ := h
  exact ⟨hT, px_sl_same h2 (fun i => hf _ _ (by omega)) (fun i => hf _ _ (by omega)), (hf _ _ (by omega)).trans h3, px_mm_same h4 (hf _ _ (by omega)) (fun i => hf _ _ (by omega)) (fun i => hf _ _ (by omega)) (fun _ => rfl), ⟨(hf _ _ (by omega)).trans h5.1, (hf _ _ (by omega)).trans h5.2.1, (hf _ _ (by omega)).trans h5.2.2⟩, fun c hc => px_cn_same (h6 c hc) (h8 c hc).2.1 (fun o q1 q2 => hf _ _ (by omega)) (fun i q1 q2 => hf _ _ (by omega)), fun c hc => px_rp_same (h7 c hc) (hf _ _ (by omega)) (fun i q1 q2 => ⟨hf _ _ (by omega), hf _ _ (by omega)⟩) (fun i q1 q2 => hf _ _ (by omega)), h8⟩
theorem px_MI.slot (h : px_MI M V T s n mp t S Q) (l : List UInt8) (hl : l.length ≤ 1600) : px_MI (px_u2 (px_ms (px_u2 (px_u2 M 316 0 0) 316 5 (nI (n + 1))) (n % 64) l) 316 2 0) V [] (va_up s (n % 64) l) (n + 1) mp t S Q := by
  have hf : ∀ o i, ¬ (o = 318 ∨ o = 319 ∨ (o = 316 ∧ (i = 0 ∨ i = 2 ∨ i = 5))) → px_u2 (px_ms (px_u2 (px_u2 M 316 0 0) 316 5 (nI (n + 1))) (n % 64) l) 316 2 0 o i = M o i := by
    intro o i q
    unfold px_ms
    rw [px_u2_ne _ _ _ _ _ _ (by omega), px_va_ne _ _ _ _ (by omega), px_va_ne _ _ _ _ (by omega), px_u2_ne _ _ _ _ _ _ (by omega), px_u2_ne _ _ _ _ _ _ (by omega)]
  obtain ⟨h1, h2, h3, h4, h5, h6, h7, h8⟩ := h
  refine ⟨⟨px_u2_eq _ _ _ _, by simp, fun i hi => by simp at hi⟩, ?_, ?_, px_mm_same h4 (hf _ _ (by omega)) (fun i => hf _ _ (by omega)) (fun i => hf _ _ (by omega)) (fun _ => rfl), ⟨(hf _ _ (by omega)).trans h5.1, (hf _ _ (by omega)).trans h5.2.1, (hf _ _ (by omega)).trans h5.2.2⟩, fun c hc => px_cn_same (h6 c hc) (h8 c hc).2.1 (fun o q1 q2 => hf _ _ (by omega)) (fun i q1 q2 => hf _ _ (by omega)), fun c hc => px_rp_same (h7 c hc) (hf _ _ (by omega)) (fun i q1 q2 => ⟨hf _ _ (by omega), hf _ _ (by omega)⟩) (fun i q1 q2 => hf _ _ (by omega)), h8⟩
  · have h20 : px_sl (px_u2 (px_u2 M 316 0 0) 316 5 (nI (n + 1))) s := px_sl_same h2 (fun i => by rw [px_u2_ne _ _ _ _ _ _ (by omega), px_u2_ne _ _ _ _ _ _ (by omega)]) (fun i => by rw [px_u2_ne _ _ _ _ _ _ (by omega), px_u2_ne _ _ _ _ _ _ (by omega)])
    exact px_sl_same (px_sl_ms h20 (by omega) hl) (fun i => px_u2_ne _ _ _ _ _ _ (by omega)) (fun i => px_u2_ne _ _ _ _ _ _ (by omega))
  · unfold px_ms
    rw [px_u2_ne _ _ _ _ _ _ (by omega), px_va_ne _ _ _ _ (by omega), px_va_ne _ _ _ _ (by omega), px_u2_eq]
theorem px_MI.opn {M' : Nat → Nat → Int32} {c : Nat} {x : px_S} (h : px_MI M V T s n mp t S Q) (hc : c < 4) (hf : px_fc c (px_u2 M 316 0 0) M') (hx : px_cn M' c x) (ok : px_sok x) : px_MI M' V T s n mp t (va_up S c x) Q := by
  have hf : ∀ o i, ¬ ((o = 324 ∧ 1200 * c ≤ i ∧ i < 1200 * c + 1200) ∨ (325 ≤ o ∧ o ≤ 331 ∧ i = c) ∨ (o = 316 ∧ i = 0)) → M' o i = M o i := fun o i q => by rw [hf o i (by omega), px_u2_ne _ _ _ _ _ _ (by omega)]
  obtain ⟨h1, h2, h3, h4, h5, h6, h7, h8⟩ := h
  refine ⟨px_tp_same h1 (hf _ _ (by omega)) (fun i => hf _ _ (by omega)), px_sl_same h2 (fun i => hf _ _ (by omega)) (fun i => hf _ _ (by omega)), (hf _ _ (by omega)).trans h3, px_mm_same h4 (hf _ _ (by omega)) (fun i => hf _ _ (by omega)) (fun i => hf _ _ (by omega)) (fun _ => rfl), ⟨(hf _ _ (by omega)).trans h5.1, (hf _ _ (by omega)).trans h5.2.1, (hf _ _ (by omega)).trans h5.2.2⟩, fun c' hc' => ?_, fun c' hc' => px_rp_same (h7 c' hc') (hf _ _ (by omega)) (fun i q1 q2 => ⟨hf _ _ (by omega), hf _ _ (by omega)⟩) (fun i q1 q2 => hf _ _ (by omega)), fun c' hc' => ?_⟩
  · by_cases q : c' = c
    · subst q; rw [px_va_eq]; exact hx
    · rw [px_va_ne _ _ _ _ q]
      exact px_cn_same (h6 c' hc') (h8 c' hc').2.1 (fun o q1 q2 => hf _ _ (by omega)) (fun i q1 q2 => hf _ _ (by omega))
  · by_cases q : c' = c
    · subst q; rw [px_va_eq]; exact ok
    · rw [px_va_ne _ _ _ _ q]; exact h8 c' hc'
theorem px_MI.push {M' : Nat → Nat → Int32} {V' : Nat → Nat → Int64} {c : Nat} {g : px_G} (h : px_MI M V T s n mp t S Q) (hc : c < 4) (hf : px_fx c M M') (hg : px_MG M' V' c g) : px_MI M' V' T g.2.2.2.2.1 g.2.2.2.2.2 g.2.2.1 g.2.2.2.1 (va_up S c g.1) (va_up Q c g.2.1) := by
  obtain ⟨h1, h2, h3, h4, h5, h6, h7, h8⟩ := h
  obtain ⟨g1, g2, g3, g4, g5, g6, g7⟩ := hg
  refine ⟨px_tp_same h1 (hf _ _ (by omega)) (fun i => hf _ _ (by omega)), g6, g7, g4, g5, fun c' hc' => ?_, fun c' hc' => ?_, fun c' hc' => ?_⟩
  · by_cases q : c' = c
    · subst q; rw [px_va_eq]; exact g1
    · rw [px_va_ne _ _ _ _ q]
      exact px_cn_same (h6 c' hc') (h8 c' hc').2.1 (fun o q1 q2 => hf _ _ (by omega)) (fun i q1 q2 => hf _ _ (by omega))
  · by_cases q : c' = c
    · subst q; rw [px_va_eq]; exact g3
    · rw [px_va_ne _ _ _ _ q]
      exact px_rp_same (h7 c' hc') (hf _ _ (by omega)) (fun i q1 q2 => ⟨hf _ _ (by omega), hf _ _ (by omega)⟩) (fun i q1 q2 => hf _ _ (by omega))
  · by_cases q : c' = c
    · subst q; rw [px_va_eq]; exact g2
    · rw [px_va_ne _ _ _ _ q]; exact h8 c' hc'
end PX
/-- both sides of a method: what the class answers (none: it throws), what the reference answers, and that both states are the same afterwards -/
def px_both (b : Nat) (I : Nat → Nat → Int32) (V : Nat → Nat → Int64) (G : Nat → Nat → Nat) (R : Nat → List UInt8) (M : Nat → Nat → Int32) (p : px_P) (e : Nat) (T : List UInt8) (s : Nat → List UInt8) (n : Nat) (mp : px_Mp) (t : Int32 × Int32 × Int32) (S : Nat → px_S) (Q : Nat → px_Rp) (F : rc_M → Nat → Option (Option Int32 × rc_M)) (Fm : rc_M → Nat → Option (Int32 × rc_M)) : Prop :=
  ∃ r T' s' n' mp' t' S' Q', n' ≤ n + 1600 ∧ (∃ I' V' G' R' p', px_Wf b p' e ∧ F (px_W b I V G R M p) (b + 0) = some (r, px_W b I' V' G' R' M p') ∧ px_CI I' V' G' R' T' s' n' mp' t' S' Q' ∧ ∀ o, o ≠ 5 → o ≠ 8 → V' o = V o) ∧ (∀ I V G R p, px_MI M V T s n mp t S Q → ∃ M' V', Fm (px_W b I V G R M p) (b + 316) = some (r.getD 0, px_W b I V' G R M' p) ∧ px_MI M' V' T' s' n' mp' t' S' Q' ∧ M' 316 0 = (if r = none then 1 else 0) ∧ ∀ o, o ≠ 323 → V' o = V o)
section PX
variable {b : Nat} {I : Nat → Nat → Int32} {V : Nat → Nat → Int64} {G : Nat → Nat → Nat} {R : Nat → List UInt8} {M : Nat → Nat → Int32} {p : px_P} {e : Nat}
variable {T : List UInt8} {s : Nat → List UInt8} {n : Nat} {mp : px_Mp} {t : Int32 × Int32 × Int32} {S : Nat → px_S} {Q : Nat → px_Rp}
/-- both throw -/
theorem px_both.bad {F : rc_M → Nat → Option (Option Int32 × rc_M)} {Fm : rc_M → Nat → Option (Int32 × rc_M)} (hC : px_CI I V G R T s n mp t S Q) (h1 : ∃ p', px_Wf b p' e ∧ F (px_W b I V G R M p) (b + 0) = some (none, px_W b I V G R M p')) (h2 : ∀ I V G R p, px_MI M V T s n mp t S Q → Fm (px_W b I V G R M p) (b + 316) = some (0, px_W b I V G R (px_u2 M 316 0 1) p)) : px_both b I V G R M p e T s n mp t S Q F Fm := by
  obtain ⟨p', w', h⟩ := h1
  exact ⟨none, T, s, n, mp, t, S, Q, by omega, ⟨I, V, G, R, p', w', h, hC, fun _ _ _ => rfl⟩, fun I V G R p hM => ⟨_, V, h2 I V G R p hM, hM.zero 1, px_u2_eq _ _ _ _, fun _ _ => rfl⟩⟩
/-- both tell something of a state that stays -/
theorem px_both.tell {F : rc_M → Nat → Option (Option Int32 × rc_M)} {Fm : rc_M → Nat → Option (Int32 × rc_M)} (v : Int32) (hC : px_CI I V G R T s n mp t S Q) (hw : px_Wf b p e) (h1 : F (px_W b I V G R M p) (b + 0) = some (some v, px_W b I V G R M p)) (h2 : ∀ I V G R p, px_MI M V T s n mp t S Q → Fm (px_W b I V G R M p) (b + 316) = some (v, px_W b I V G R (px_u2 M 316 0 0) p)) : px_both b I V G R M p e T s n mp t S Q F Fm :=
  ⟨some v, T, s, n, mp, t, S, Q, by omega, ⟨I, V, G, R, p, hw, h1, hC, fun _ _ _ => rfl⟩, fun I V G R p hM => ⟨_, V, h2 I V G R p hM, hM.zero 0, px_u2_eq _ _ _ _, fun _ _ => rfl⟩⟩
theorem pj_feed (hC : px_CI I V G R T s n mp t S Q) (hw : px_Wf b p (e + 1)) (x1 x2 x3 x4 x5 : Int32) : px_both b I V G R M p e T s n mp t S Q (fun w a => f_rec_feed w a x1 x2 x3 x4 x5) (fun w a => f_mdl_feed w a x1 x2 x3 x4 x5) := by
  by_cases q : T.length + 20 ≤ 1600
  · obtain ⟨p', w', h⟩ := pc_feed (b := b) (M := M) hC x1 x2 x3 x4 x5 q (hw.less (Nat.le_succ e))
    have hl : (T ++ px_fd x1 x2 x3 x4 x5).length ≤ 1600 := by
      unfold px_fd
      simp only [List.length_append, px_bw_len]
      omega
    refine ⟨some (nI (T.length + 20)), T ++ px_fd x1 x2 x3 x4 x5, s, n, mp, t, S, Q, by omega, ⟨I, V, G, _, p', w', h, hC.tape _ hl, fun _ _ _ => rfl⟩, fun I V G R p hM => ⟨_, V, ?_, hM.tape (fun o i z => ?_) (px_tp_feed T x1 x2 x3 x4 x5 hM.1 q), ?_, fun _ _ => rfl⟩⟩
    · show f_mdl_feed _ _ x1 x2 x3 x4 x5 = _
      rw [pm_feed T x1 x2 x3 x4 x5 hM.1, if_pos q]
      rfl
    · rw [px_u2_ne _ _ _ _ _ _ (by omega), px_va_ne _ _ _ _ (by omega), px_u2_ne _ _ _ _ _ _ (by omega)]
    · rw [px_u2_ne _ _ _ _ _ _ (by omega), px_va_ne _ _ _ _ (by omega), px_u2_eq]
      rfl
  · exact px_both.bad hC (pc_feed_bad hC x1 x2 x3 x4 x5 q hw) (fun I V G R p hM => by
      show f_mdl_feed _ _ x1 x2 x3 x4 x5 = _
      rw [pm_feed T x1 x2 x3 x4 x5 hM.1, if_neg q])
theorem pj_record (hC : px_CI I V G R T s n mp t S Q) (hw : px_Wf b p (e + 1)) (hn : n < 2 ^ 30) (y : Int32) : px_both b I V G R M p e T s n mp t S Q (fun w a => f_rec_record w a y) (fun w a => f_mdl_record w a y) := by
  by_cases q : y < 1
  · exact px_both.bad hC (pc_record_bad hC y (Or.inl q) hw) (fun I V G R p hM => pm_record_bad y q)
  · have q0 : ¬ y < 0 := fun z => q (Int32.lt_trans z (by decide))
    obtain ⟨cut, hc2, rfl⟩ := nI_of q0
    have hc1 : 1 ≤ cut := by
      rw [show (1 : Int32) = nI 1 from rfl, px_lt hc2 (by decide)] at q
      omega
    by_cases ql : T.length + 4 * px_nf cut T ≤ 1600
    · obtain ⟨I', R', p', w', h, hC'⟩ := pc_record (b := b) (M := M) hC hn cut hc1 hc2 ql (hw.less (Nat.le_succ e))
      have hfl := px_fr_len cut T (px_nf cut T) 0 (by omega)
      refine ⟨some (nI n), [], _, n + 1, mp, t, S, Q, by omega, ⟨I', V, G, R', p', w', h, hC', fun _ _ _ => rfl⟩, fun I V G R p hM => ⟨_, V, ?_, hM.slot _ (by omega), ?_, fun _ _ => rfl⟩⟩
      · show f_mdl_record _ _ (nI cut) = _
        rw [pm_record T hM.1 cut n hc1 hc2 hn hM.2.2.1, if_pos ql]
        rfl
      · unfold px_ms
        rw [px_u2_ne _ _ _ _ _ _ (by omega), px_va_ne _ _ _ _ (by omega), px_va_ne _ _ _ _ (by omega), px_u2_ne _ _ _ _ _ _ (by omega), px_u2_eq]
        rfl
    · exact px_both.bad hC (pc_record_bad hC (nI cut) (Or.inr ⟨cut, rfl, hc1, hc2, ql⟩) hw) (fun I V G R p hM => by
        show f_mdl_record _ _ (nI cut) = _
        rw [pm_record T hM.1 cut n hc1 hc2 hn hM.2.2.1, if_neg ql])
theorem px_cb_len (x1 x2 x3 : Int32) (T : List UInt8) (z : Int32) (v : Int64) (h : T.length ≤ 16) : (px_cb x1 x2 x3 T z v).length ≤ 100 := by
  have hfi : px_fi T.length ≤ 19 := by unfold px_fi; omega
  unfold px_cb
  simp only [List.length_append, px_bw_len, List.length_replicate]
  split
  · simp; omega
  · rw [px_bl_len]; omega
theorem pj_call (hC : px_CI I V G R T s n mp t S Q) (hw : px_Wf b p (e + 1)) (hn : n < 2 ^ 30) (x1 x2 x3 z : Int32) (v : Int64) : px_both b I V G R M p e T s n mp t S Q (fun w a => f_rec_call w a x1 x2 x3 z v) (fun w a => f_mdl_call w a x1 x2 x3 z v) := by
  by_cases q : T.length ≤ 16
  · obtain ⟨I', R', p', w', h, hC'⟩ := pc_call (b := b) (M := M) hC hn x1 x2 x3 z v q (hw.less (Nat.le_succ e))
    have hcl := px_cb_len x1 x2 x3 T z v q
    refine ⟨some (nI n), [], _, n + 1, mp, t, S, Q, by omega, ⟨I', V, G, R', p', w', h, hC', fun _ _ _ => rfl⟩, fun I V G R p hM => ⟨_, V, ?_, hM.slot _ (by rw [px_one_len]; omega), ?_, fun _ _ => rfl⟩⟩
    · show f_mdl_call _ _ x1 x2 x3 z v = _
      rw [pm_call T hM.1 x1 x2 x3 z v n hn hM.2.2.1, if_pos q]
      rfl
    · unfold px_ms
      rw [px_u2_ne _ _ _ _ _ _ (by omega), px_va_ne _ _ _ _ (by omega), px_va_ne _ _ _ _ (by omega), px_u2_ne _ _ _ _ _ _ (by omega), px_u2_eq]
      rfl
  · exact px_both.bad hC (pc_call_bad hC x1 x2 x3 z v q hw) (fun I V G R p hM => by
      show f_mdl_call _ _ x1 x2 x3 z v = _
      rw [pm_call T hM.1 x1 x2 x3 z v n hn hM.2.2.1, if_neg q])
theorem pj_length (hC : px_CI I V G R T s n mp t S Q) (hw : px_Wf b p (e + 1)) (hn : n < 2 ^ 30) (y : Int32) : px_both b I V G R M p e T s n mp t S Q (fun w a => f_rec_length w a y) (fun w a => f_mdl_length w a y) := by
  by_cases q : px_is n y
  · obtain ⟨j, rfl, e2, e3⟩ := id q
    exact px_both.tell _ hC (hw.less (Nat.le_succ e)) (pc_length hC hn j (by omega) q hw) (fun I V G R p hM => (pm_length n s (nI j) hn hM.2.2.1 hM.2.1).1 j q rfl (by omega))
  · exact px_both.bad hC (pc_length_bad hC hn y q hw) (fun I V G R p hM => (pm_length n s y hn hM.2.2.1 hM.2.1).2 q)
theorem pj_byteAt (hC : px_CI I V G R T s n mp t S Q) (hw : px_Wf b p (e + 1)) (hn : n < 2 ^ 30) (y y2 : Int32) : px_both b I V G R M p e T s n mp t S Q (fun w a => f_rec_byteAt w a y y2) (fun w a => f_mdl_byteAt w a y y2) := by
  have bad : (¬ px_is n y ∨ y2 < 0 ∨ ∃ j i, y = nI j ∧ j < 2 ^ 31 ∧ y2 = nI i ∧ i < 2 ^ 31 ∧ (s (j % 64)).length ≤ i) → px_both b I V G R M p e T s n mp t S Q (fun w a => f_rec_byteAt w a y y2) (fun w a => f_mdl_byteAt w a y y2) := fun q => px_both.bad hC (pc_byteAt_bad hC hn y y2 q hw) (fun I V G R p hM => (pm_byteAt n s y y2 hn hM.2.2.1 hM.2.1).2 q)
  by_cases q : px_is n y
  · by_cases q2 : y2 < 0
    · exact bad (Or.inr (Or.inl q2))
    · obtain ⟨j, rfl, e2, e3⟩ := id q
      obtain ⟨i, hi, rfl⟩ := nI_of q2
      by_cases q3 : i < (s (j % 64)).length
      · exact px_both.tell _ hC (hw.less (Nat.le_succ e)) (pc_byteAt hC hn j i (by omega) q q3 hw) (fun I V G R p hM => (pm_byteAt n s (nI j) (nI i) hn hM.2.2.1 hM.2.1).1 j i q rfl (by omega) rfl q3)
      · exact bad (Or.inr (Or.inr ⟨j, i, rfl, by omega, rfl, hi, by omega⟩))
  · exact bad (Or.inl q)
theorem pj_word (hC : px_CI I V G R T s n mp t S Q) (hw : px_Wf b p (e + 1)) (hn : n < 2 ^ 30) (y y2 : Int32) : px_both b I V G R M p e T s n mp t S Q (fun w a => f_rec_word w a y y2) (fun w a => f_mdl_word w a y y2) := by
  have bad : (¬ px_is n y ∨ y2 < 0 ∨ ∃ j i, y = nI j ∧ j < 2 ^ 31 ∧ y2 = nI i ∧ i < 2 ^ 31 ∧ (s (j % 64)).length < i + 4) → px_both b I V G R M p e T s n mp t S Q (fun w a => f_rec_word w a y y2) (fun w a => f_mdl_word w a y y2) := fun q => px_both.bad hC (pc_word_bad hC hn y y2 q hw) (fun I V G R p hM => (pm_word n s y y2 hn hM.2.2.1 hM.2.1).2 q)
  by_cases q : px_is n y
  · by_cases q2 : y2 < 0
    · exact bad (Or.inr (Or.inl q2))
    · obtain ⟨j, rfl, e2, e3⟩ := id q
      obtain ⟨i, hi, rfl⟩ := nI_of q2
      by_cases q3 : i + 4 ≤ (s (j % 64)).length
      · exact px_both.tell _ hC (hw.less (Nat.le_succ e)) (pc_word hC hn j i (by omega) q q3 hw) (fun I V G R p hM => (pm_word n s (nI j) (nI i) hn hM.2.2.1 hM.2.1).1 j i q rfl (by omega) rfl q3)
      · exact bad (Or.inr (Or.inr ⟨j, i, rfl, by omega, rfl, hi, by omega⟩))
  · exact bad (Or.inl q)
theorem pj_says (hC : px_CI I V G R T s n mp t S Q) (hw : px_Wf b p (e + 1)) (hn : n < 2 ^ 30) (y y2 : Int32) : px_both b I V G R M p e T s n mp t S Q (fun w a => f_rec_says w a y y2) (fun w a => f_mdl_says w a y y2) := by
  by_cases q : px_is n y
  · obtain ⟨j, rfl, e2, e3⟩ := id q
    obtain ⟨R', p', w', h, hC'⟩ := pc_says (b := b) (M := M) hC hn j y2 (by omega) q (hw.less (Nat.le_succ e))
    refine ⟨some _, T, s, n, mp, t, S, Q, by omega, ⟨I, V, G, R', p', w', h, hC', fun _ _ _ => rfl⟩, fun I V G R p hM => ?_⟩
    obtain ⟨M', m1, m2⟩ := pm_says (b := b) (I := I) (V := V) (G := G) (R := R) (p := p) n s j y2 hn hM.2.2.1 hM.2.1 q (by omega)
    exact ⟨M', V, m1, hM.fr0 (fun o i z => by rw [m2 o (by omega), px_u2_ne _ _ _ _ _ _ (by omega)]) (fun _ => rfl), by rw [m2 316 (by omega), px_u2_eq]; rfl, fun _ _ => rfl⟩
  · exact px_both.bad hC (pc_says_bad hC hn y y2 q hw) (fun I V G R p hM => pm_says_bad n y y2 hn hM.2.2.1 q)
theorem pj_count (hC : px_CI I V G R T s n mp t S Q) (hw : px_Wf b p (e + 1)) (y : Int32) : px_both b I V G R M p e T s n mp t S Q (fun w a => f_rec_count w a y) (fun w a => f_mdl_count w a y) := by
  by_cases q : y < 0 ∨ 8 < y
  · exact px_both.bad hC (pc_count_bad y q hw) (fun I V G R p hM => (pm_count y S hM.2.2.2.2.2.1).2 q)
  · obtain ⟨k, hk, rfl⟩ := nI_of (fun z => q (Or.inl z))
    have hk8 : k ≤ 8 := by
      have h8 : ¬ 8 < nI k := fun z => q (Or.inr z)
      rw [show (8 : Int32) = nI 8 from rfl, px_lt (by decide) hk] at h8
      omega
    refine px_both.tell _ hC (hw.less (Nat.le_succ e)) (pc_count hC k hk8 hw) (fun I V G R p hM => ?_)
    have := (pm_count (b := b) (I := I) (V := V) (G := G) (R := R) (p := p) (nI k) S hM.2.2.2.2.2.1).1 k rfl hk8
    rw [hM.2.2.1, hM.2.2.2.1.1, hM.2.2.2.2.1.1, hM.2.2.2.2.1.2.1, hM.2.2.2.2.1.2.2] at this
    exact this
theorem pj_push (hC : px_CI I V G R T s n mp t S Q) (ok : ∀ c, c < 4 → px_sok (S c)) (hw : px_Wf b p (e + 1)) (hn : n + 1600 < 2 ^ 30) (x1 x2 x3 x4 : Int32) : px_both b I V G R M p e T s n mp t S Q (fun w a => f_rec_push w a x1 x2 x3 x4) (fun w a => f_mdl_push w a x1 x2 x3 x4) := by
  have bad : (x1 < 0 ∨ 4 ≤ x1 ∨ ¬ px_is n x2 ∨ x4 < 0 ∨ x3 < 0 ∨ ∃ j f0 k, x2 = nI j ∧ j < 2 ^ 31 ∧ x3 = nI f0 ∧ f0 < 2 ^ 31 ∧ x4 = nI k ∧ k < 2 ^ 31 ∧ (s (j % 64)).length < f0 + k) → px_both b I V G R M p e T s n mp t S Q (fun w a => f_rec_push w a x1 x2 x3 x4) (fun w a => f_mdl_push w a x1 x2 x3 x4) := fun q => px_both.bad hC (pc_push_bad hC (by omega) x1 x2 x3 x4 q hw) (fun I V G R p hM => pm_push_bad n s x1 x2 x3 x4 (by omega) hM.2.2.1 hM.2.1 q)
  by_cases q1 : x1 < 0
  · exact bad (Or.inl q1)
  · by_cases q2 : 4 ≤ x1
    · exact bad (Or.inr (Or.inl q2))
    · by_cases q3 : px_is n x2
      · by_cases q4 : x4 < 0
        · exact bad (Or.inr (Or.inr (Or.inr (Or.inl q4))))
        · by_cases q5 : x3 < 0
          · exact bad (Or.inr (Or.inr (Or.inr (Or.inr (Or.inl q5)))))
          · obtain ⟨c, hc0, rfl⟩ := nI_of q1
            have hc : c < 4 := by
              rw [show (4 : Int32) = nI 4 from rfl, px_le (by decide) hc0] at q2
              omega
            obtain ⟨j, rfl, e2, e3⟩ := id q3
            obtain ⟨f0, hf0, rfl⟩ := nI_of q5
            obtain ⟨k, hk, rfl⟩ := nI_of q4
            by_cases q6 : f0 + k ≤ (s (j % 64)).length
            · obtain ⟨I', V', G', R', p', w', h, hC', hV'⟩ := pc_push (b := b) (M := M) hC c j f0 k hc (by omega) (ok c hc) hn q3 q6 (hw.less (Nat.le_succ e))
              have hnn : ∀ (P : List UInt8) (g : px_G) (a : Nat), (px_ps P g a).1.2.2.2.2.2 ≤ g.2.2.2.2.2 + P.length := by
                intro P
                induction P with
                | nil => intro g a; rw [px_ps]; simp
                | cons y P ih =>
                  intro g a
                  rw [px_ps]
                  have h1 := ih (px_st1 g y).1 (a + (px_st1 g y).2)
                  have h2 := (px_st1_n g y).1
                  rw [List.length_cons]
                  omega
              have hlen := (hC.2.1.2 (j % 64) (by omega)).2
              have hnp := hnn (((s (j % 64)).drop f0).take k) (S c, Q c, mp, t, s, n) 0
              rw [List.length_take, List.length_drop] at hnp
              dsimp only at hnp
              refine ⟨some _, T, _, _, _, _, _, _, ?_, ⟨I', V', G', R', p', w', h, hC', hV'⟩, fun I V G R p hM => ?_⟩
              · omega
              · have hg : px_MG M V c (S c, Q c, mp, t, s, n) := ⟨hM.2.2.2.2.2.1 c hc, ok c hc, hM.2.2.2.2.2.2.1 c hc, hM.2.2.2.1, hM.2.2.2.2.1, hM.2.1, hM.2.2.1⟩
                obtain ⟨M', V', m1, m2, m3, m4, m5⟩ := pm_push (b := b) (I := I) (V := V) (G := G) (R := R) (p := p) c j f0 k (S c, Q c, mp, t, s, n) hc (by omega) hg hn q3 q6
                exact ⟨M', V', m1, hM.push hc m3 m2, m4, m5⟩
            · exact bad (Or.inr (Or.inr (Or.inr (Or.inr (Or.inr ⟨j, f0, k, rfl, by omega, rfl, hf0, rfl, hk, by omega⟩)))))
      · exact bad (Or.inr (Or.inr (Or.inl q3)))
end PX
