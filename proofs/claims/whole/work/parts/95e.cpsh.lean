/-! THE CLASS, 14: push -/
def px_CG (I : Nat → Nat → Int32) (V : Nat → Nat → Int64) (G : Nat → Nat → Nat) (R : Nat → List UInt8) (T : List UInt8) (S : Nat → px_S) (Q : Nat → px_Rp) (c : Nat) (g : px_G) : Prop := px_CI I V G R T g.2.2.2.2.1 g.2.2.2.2.2 g.2.2.1 g.2.2.2.1 (va_up S c g.1) (va_up Q c g.2.1)
theorem px_drop_cons (P : List UInt8) (i : Nat) (h : i < P.length) : P.drop i = P.getD i 0 :: P.drop (i + 1) := by
  rw [List.drop_eq_getElem_cons h, List.getD_eq_getElem?_getD, List.getElem?_eq_getElem h]
  rfl
theorem px_sok_st1 {g : px_G} (h : px_sok g.1) (y : UInt8) : px_sok (px_st1 g y).1.1 := by
  unfold px_st1
  by_cases q : (px_tk g.1 y).2 = true
  · rw [if_pos q]
    refine ⟨by show 0 ≤ 4; omega, by show ([] : List UInt8).length ≤ 1200; simp, fun _ => rfl, fun q => absurd q (by show ¬ 0 = 4; omega), by show 0 < 2 ^ 31; decide, fun q => absurd q (show ¬ false = true by decide)⟩
  · rw [if_neg q]
    exact px_sok_tk h y
section PX
variable {b : Nat} {I : Nat → Nat → Int32} {V : Nat → Nat → Int64} {G : Nat → Nat → Nat} {R : Nat → List UInt8} {M : Nat → Nat → Int32} {p : px_P} {e : Nat}
variable {T : List UInt8} {s : Nat → List UInt8} {n : Nat} {mp : px_Mp} {t : Int32 × Int32 × Int32} {S : Nat → px_S} {Q : Nat → px_Rp}
theorem px_CI.sf {I' : Nat → Nat → Int32} {V' : Nat → Nat → Int64} {G' : Nat → Nat → Nat} {R' : Nat → List UInt8} {c : Nat} {rp' : px_Rp} {mp' : px_Mp} {t' : Int32 × Int32 × Int32} (h : px_CI I V G R T s n mp t S Q) (hc : c < 4) (h1 : px_sf c I I' V V' R R') (h2 : px_cp I' R' c rp') (h3 : px_cm I' V' G' R' mp') (h4 : px_ct I' t') : px_CI I' V' G' R' T s n mp' t' S (va_up Q c rp') := by
  obtain ⟨g1, g2, g3, g4, g5, g6⟩ := h
  obtain ⟨k1, k2, k3⟩ := h1
  refine ⟨⟨by rw [k3 _ (by omega) (by omega) (by omega)]; exact g1.1, g1.2⟩, ⟨by rw [k1 _ _ (by omega)]; exact g2.1, fun k hk => by rw [k3 _ (by omega) (by omega) (by omega)]; exact g2.2 k hk⟩, h3, h4, fun c' hc' => (g5 c' hc').same (fun _ => k1 _ _ (by omega)) (k3 _ (by omega) (by omega) (by omega)), fun c' hc' => ?_⟩
  by_cases q : c' = c
  · subst q; rw [px_va_eq]; exact h2
  · rw [px_va_ne _ _ _ _ q]; exact (g6 c' hc').same (fun _ => k1 _ _ (by omega)) (fun _ => k1 _ _ (by omega)) (fun o q1 q2 => k3 _ (by omega) (by omega) (by omega))
theorem pc_step (c : Nat) (hc : c < 4) (P : List UInt8) (hP : P.length ≤ 1600) (h96 : R 96 = P) (i a f : Nat) (hi : i < P.length) (g : px_G) (hg : px_CG I V G R T S Q c g) (ok : px_sok g.1) (hn : g.2.2.2.2.2 < 2 ^ 30) (hw : px_Wf b p e) : ∃ I' V' G' R' p', px_Wf b p' e ∧ b_rec_push_92 (f + 1) (px_W b I V G R M p) (b + 0) (nI P.length) (some (b + (228 + 22 * c))) (nI a) (nI i) = b_rec_push_92 f (px_W b I' V' G' R' M p') (b + 0) (nI P.length) (some (b + (228 + 22 * c))) (nI (a + (px_st1 g (P.getD i 0)).2)) (nI (i + 1)) ∧ px_CG I' V' G' R' T S Q c (px_st1 g (P.getD i 0)).1 ∧ R' 96 = P ∧ (∀ o, o ≠ 5 → o ≠ 8 → V' o = V o) := by
  have hcc : px_cc I R c g.1 := by have := hg.2.2.2.2.1 c hc; rw [px_va_eq] at this; exact this
  have hcp : px_cp I R c g.2.1 := by have := hg.2.2.2.2.2 c hc; rw [px_va_eq] at this; exact this
  have e96 : rc_atR P (nI i) = rc_u (P.getD i 0) := rc_atR_in hi (by omega)
  generalize P.getD i 0 = y at *
  obtain ⟨I1, R1, p1, w1, a1, a2, a3⟩ := pc_isWhole (b := b) (V := V) (G := G) (M := M) (p := p) c hc g.1 y hcc ok hw
  have ok1 := px_sok_tk ok y
  have hg1 : px_CI I1 V G R1 T g.2.2.2.2.1 g.2.2.2.2.2 g.2.2.1 g.2.2.2.1 (va_up S c (px_tk g.1 y).1) (va_up Q c g.2.1) := by
    have := px_CI.kf hg hc a3 a2
    rw [px_va_va] at this
    exact this
  have h961 : R1 96 = P := by rw [a3.2 96 (by omega)]; exact h96
  rw [b_rec_push_92, if_neg (nI_ge hi (by omega)), px_gR_0_4, px_bs, px_rcR 96 px_r96, px_bs, px_bnd (px_rowAt 96 _ px_r96 hw), h96, e96]
  dsimp only
  rw [px_rc_c c hc, px_bs, px_bnd a1]
  dsimp only
  unfold b_rec_push_151
  rw [nI_1]
  cases htk : (px_tk g.1 y).2 with
  | false =>
    have hst : px_st1 g y = (((px_tk g.1 y).1, g.2), 0) := by unfold px_st1; rw [if_neg (by rw [htk]; decide)]
    rw [hst, if_pos (show px_z false = 0 from rfl)]
    exact ⟨I1, V, G, R1, p1, w1, rfl, hg1, h961, fun _ _ _ => rfl⟩
  | true =>
    obtain ⟨k1, k2, k3, k4⟩ := px_tk_whole htk
    have hst : px_st1 g y = ((((px_tk g.1 y).1.1, 0, 0, [], false), (px_sv (px_tk g.1 y).1.2.2.2.1 g.2).1), if (px_sv (px_tk g.1 y).1.2.2.2.1 g.2).2 = true then 1 else 0) := by unfold px_st1; rw [if_pos htk]
    rw [if_neg (show ¬ px_z true = 0 by decide)]
    obtain ⟨o, I2, V2, G2, R2, p2, w2, b1, b2, b3, b4, b5, b6⟩ := pc_replyTo (b := b) (V := V) (G := G) (M := M) c hc (px_tk g.1 y).1.2.2.2.1 g.2 ok1.2.1 a2.2.2.2.2 (by have := hg1.2.2.2.2.2 c hc; rw [px_va_eq] at this; exact this) hg1.2.2.1 hg1.2.2.2.1 w1
    have hg2 := px_CI.sf hg1 hc b5 b2 b3 b4
    rw [px_va_va] at hg2
    have hcc2 : px_cc I2 R2 c (px_tk g.1 y).1 := by have := hg2.2.2.2.2.1 c hc; rw [px_va_eq] at this; exact this
    obtain ⟨c1, c2⟩ := px_cc_forget c _ hcc2
    rw [k3] at c1
    have hg3 := px_CI.kf hg2 hc c2 c1
    rw [px_va_va] at hg3
    have h962 : va_up R2 (229 + 22 * c) [] 96 = P := by rw [px_va_ne _ _ _ _ (by omega), b5.2.2 96 (by omega) (by omega) (by omega)]; exact h961
    rw [px_gR_0_3, px_bs, px_gR_c_0 c hc, px_bs, px_gR_c_1 c hc, px_bs, px_rc_5, px_bs, px_bnd b1]
    dsimp only
    rw [px_rc_c c hc, px_bs, px_bnd (pc_forget c hc w2), px_rc_0, px_bs, hst]
    unfold f_rec_addReply
    rcases b6 with ⟨d1, d2, d3⟩ | ⟨ro, B, d1, d2, d3, d4, d5, d6, d7⟩
    · rw [d2, if_pos rfl, px_bs, d1]
      dsimp only
      rw [if_neg (by decide), Nat.add_zero, show nI a + 0 = nI a from Int32.add_zero _]
      refine ⟨_, V2, G2, _, p2, w2, rfl, ?_, h962, b5.2.1⟩
      unfold px_CG
      dsimp only
      rw [d3]
      exact hg3
    · have hR3 : va_up R2 (229 + 22 * c) [] ro = B := by rw [px_va_ne _ _ _ _ (by omega)]; exact d5
      obtain ⟨p3, w3, f1⟩ := pc_addOne (b := b) (V := V2) (G := G2) (M := M) ro B d3 (by omega) hR3 (by omega) hn hg3.2.1.1 w2
      rw [d2, if_neg (Option.some_ne_none _), px_rc_0, px_bs, px_bnd f1, px_bs, d1]
      dsimp only
      rw [if_pos rfl, nI_1]
      refine ⟨_, V2, G2, _, p3, w3, rfl, ?_, by rw [px_va_ne _ _ _ _ (by omega)]; exact h962, b5.2.1⟩
      unfold px_CG
      dsimp only
      rw [d7]
      exact px_CI.slot hg3 _ (by rw [px_one_len]; omega)
theorem pc_push_go (c : Nat) (hc : c < 4) (P : List UInt8) (hP : P.length ≤ 1600) : ∀ (m i a f : Nat) (g : px_G) (I : Nat → Nat → Int32) (V : Nat → Nat → Int64) (G : Nat → Nat → Nat) (R : Nat → List UInt8) (p : px_P), P.length = i + m → m < f → px_CG I V G R T S Q c g → px_sok g.1 → R 96 = P → g.2.2.2.2.2 + m < 2 ^ 30 → px_Wf b p e → ∃ I' V' G' R' p', px_Wf b p' e ∧ b_rec_push_92 f (px_W b I V G R M p) (b + 0) (nI P.length) (some (b + (228 + 22 * c))) (nI a) (nI i) = some (some (nI (px_ps (P.drop i) g a).2), px_W b I' V' G' R' M p') ∧ px_CG I' V' G' R' T S Q c (px_ps (P.drop i) g a).1 ∧ (∀ o, o ≠ 5 → o ≠ 8 → V' o = V o) := by
  intro m
  induction m with
  | zero =>
    intro i a f g I V G R p hi hf hg ok h96 hn hw
    obtain ⟨f, rfl⟩ : ∃ q, f = q + 1 := ⟨f - 1, by omega⟩
    rw [b_rec_push_92, if_pos (nI_le (by omega) (by omega)), List.drop_eq_nil_of_le (by omega), px_ps]
    exact ⟨I, V, G, R, p, hw, rfl, hg, fun _ _ _ => rfl⟩
  | succ m ih =>
    intro i a f g I V G R p hi hf hg ok h96 hn hw
    obtain ⟨f, rfl⟩ : ∃ q, f = q + 1 := ⟨f - 1, by omega⟩
    obtain ⟨I1, V1, G1, R1, p1, w1, a1, a2, a3, a4⟩ := pc_step (b := b) (M := M) (p := p) c hc P hP h96 i a f (by omega) g hg ok (by omega) hw
    have hn1 := (px_st1_n g (P.getD i 0)).1
    obtain ⟨I2, V2, G2, R2, p2, w2, b1, b2, b3⟩ := ih (i + 1) (a + (px_st1 g (P.getD i 0)).2) f (px_st1 g (P.getD i 0)).1 I1 V1 G1 R1 p1 (by omega) (by omega) a2 (px_sok_st1 ok _) a3 (by omega) w1
    rw [a1, b1, px_drop_cons P i (by omega), px_ps]
    exact ⟨I2, V2, G2, R2, p2, w2, rfl, b2, fun o q1 q2 => by rw [b3 o q1 q2, a4 o q1 q2]⟩
theorem pc_push (h : px_CI I V G R T s n mp t S Q) (c j f0 k : Nat) (hc : c < 4) (hj : j < 2 ^ 31) (ok : px_sok (S c)) (hn : n + 1600 < 2 ^ 30) (hi : px_is n (nI j)) (hf : f0 + k ≤ (s (j % 64)).length) (hw : px_Wf b p e) : ∃ I' V' G' R' p', px_Wf b p' e ∧ f_rec_push (px_W b I V G R M p) (b + 0) (nI c) (nI j) (nI f0) (nI k) = some (some (nI (px_ps (((s (j % 64)).drop f0).take k) (S c, Q c, mp, t, s, n) 0).2), px_W b I' V' G' R' M p') ∧ px_CG I' V' G' R' T S Q c (px_ps (((s (j % 64)).drop f0).take k) (S c, Q c, mp, t, s, n) 0).1 ∧ (∀ o, o ≠ 5 → o ≠ 8 → V' o = V o) := by
  have hr := px_rS (j % 64) (by omega)
  obtain ⟨s1, s2⟩ := h.2.1.2 (j % 64) (by omega)
  have hne : 100 + 2 * (j % 64) ≠ 96 := by omega
  have hlP : (((s (j % 64)).drop f0).take k).length = k := by rw [List.length_take, List.length_drop]; omega
  unfold f_rec_push
  generalize hF : (5000 : Nat) = fu
  rw [px_bnd ((pc_isConn (nI c)).1 c hc rfl)]
  dsimp only
  rw [if_neg (by decide), px_rc_0, px_bs, px_bnd ((pc_isSlot (by omega) h.2.1.1 _).1 hi)]
  dsimp only
  rw [if_neg (by decide), px_rc_0, px_bs, px_bnd (pc_slotRow j hj)]
  dsimp only
  have e1 : (nI f0 ≤ nI (s (j % 64)).length - nI k) = (f0 + k ≤ (s (j % 64)).length) := px_msub3 (by omega) (by omega) f0 (by omega)
  obtain ⟨p1, w1, h1⟩ := px_addPart (b := b) (I := I) (V := V) (G := G) (R := va_up R 96 []) (M := M) 96 (100 + 2 * (j % 64)) f0 k px_r96 hr (Ne.symm hne) hw (by rw [px_va_ne _ _ _ _ hne, s1]; exact hf) (by rw [px_va_ne _ _ _ _ hne, s1]; omega) (by rw [px_va_eq]; simp; omega)
  rw [px_va_ne _ _ _ _ hne, px_va_va, px_va_eq, List.nil_append, s1] at h1
  rw [if_neg (nI_pos (by omega)), if_neg (nI_pos (by omega)), px_rcR _ hr, px_bs, px_bnd (px_size _ hr hw), s1]
  dsimp only
  rw [if_pos (by rw [e1]; exact hf), px_gR_0_4, px_bs, px_rcR 96 px_r96, px_bs, px_bnd (px_clear 96 px_r96 hw), px_gR_0_4, px_bs, px_rcR 96 px_r96, px_bs, px_bnd h1, px_gR_0_2, px_bs, px_aR_4 c hc, px_bs]
  have hg : px_CG I V G (va_up R 96 (((s (j % 64)).drop f0).take k)) T S Q c (S c, Q c, mp, t, s, n) := by
    unfold px_CG
    dsimp only
    rw [px_va_id, px_va_id]
    exact h.scr 96 (by omega) _
  obtain ⟨I2, V2, G2, R2, p2, w2, b1, b2, b3⟩ := pc_push_go (b := b) (M := M) c hc _ (by omega) k 0 0 fu (S c, Q c, mp, t, s, n) I V G _ p1 (by omega) (by omega) hg ok (px_va_eq _ _ _) (by show n + k < 2 ^ 30; omega) w1
  rw [hlP, nI_0, List.drop_zero] at b1
  rw [List.drop_zero] at b2
  rw [b1]
  exact ⟨I2, V2, G2, R2, p2, w2, rfl, b2, b3⟩
theorem pc_push_bad (h : px_CI I V G R T s n mp t S Q) (hn : n < 2 ^ 30) (x1 x2 x3 x4 : Int32) (hb : x1 < 0 ∨ 4 ≤ x1 ∨ ¬ px_is n x2 ∨ x4 < 0 ∨ x3 < 0 ∨ ∃ j f0 k, x2 = nI j ∧ j < 2 ^ 31 ∧ x3 = nI f0 ∧ f0 < 2 ^ 31 ∧ x4 = nI k ∧ k < 2 ^ 31 ∧ (s (j % 64)).length < f0 + k) (hw : px_Wf b p (e + 1)) : ∃ p', px_Wf b p' e ∧ f_rec_push (px_W b I V G R M p) (b + 0) x1 x2 x3 x4 = some (none, px_W b I V G R M p') := by
  obtain ⟨p1, w1, h1⟩ := px_throw (b := b) (I := I) (V := V) (G := G) (R := R) (M := M) hw
  refine ⟨p1, w1, ?_⟩
  unfold f_rec_push b_rec_push_15 b_rec_push_51
  generalize hF : (5000 : Nat) = fu
  by_cases q1 : x1 < 0 ∨ 4 ≤ x1
  · rw [px_bnd ((pc_isConn x1).2 q1)]
    dsimp only
    rw [if_pos rfl, px_bnd h1]
  · have q2 : ¬ x1 < 0 := fun z => q1 (Or.inl z)
    have q3 : ¬ 4 ≤ x1 := fun z => q1 (Or.inr z)
    obtain ⟨c, hc0, rfl⟩ := nI_of q2
    have hc : c < 4 := by
      rw [show (4 : Int32) = nI 4 from rfl, px_le (by decide) hc0] at q3
      omega
    rw [px_bnd ((pc_isConn (nI c)).1 c hc rfl)]
    dsimp only
    rw [if_neg (by decide), px_rc_0, px_bs]
    by_cases q : px_is n x2
    · obtain ⟨j, hj, rfl⟩ : ∃ j, j < 2 ^ 31 ∧ x2 = nI j := by
        obtain ⟨j, e1, e2, e3⟩ := q
        exact ⟨j, by omega, e1⟩
      have hr := px_rS (j % 64) (by omega)
      obtain ⟨s1, s2⟩ := h.2.1.2 (j % 64) (by omega)
      rw [px_bnd ((pc_isSlot hn h.2.1.1 _).1 q)]
      dsimp only
      rw [if_neg (by decide), px_rc_0, px_bs, px_bnd (pc_slotRow j hj)]
      dsimp only
      by_cases q4 : x4 < 0
      · rw [if_pos q4, px_bnd h1]
      · rw [if_neg q4]
        by_cases q5 : x3 < 0
        · rw [if_pos q5, px_bnd h1]
        · rw [if_neg q5]
          obtain ⟨j', f0, k, e1, e2, e3, e4, e5, e6, e7⟩ := ((((hb.resolve_left q2).resolve_left q3).resolve_left (fun z => z q)).resolve_left q4).resolve_left q5
          have hjj : j = j' := by rw [px_eq hj e2] at e1; exact e1
          subst hjj
          rw [e3, e5, px_rcR _ hr, px_bs, px_bnd (px_size _ hr hw), s1]
          dsimp only
          have e8 : (nI f0 ≤ nI (s (j % 64)).length - nI k) = (f0 + k ≤ (s (j % 64)).length) := px_msub3 (by omega) e6 f0 e4
          rw [if_neg (by rw [e8]; omega), px_bnd h1]
    · rw [px_bnd ((pc_isSlot hn h.2.1.1 _).2 q)]
      dsimp only
      rw [if_pos rfl, px_bnd h1]
end PX
