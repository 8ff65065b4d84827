/-! THE CLASS, 11: its whole state, slots, the plain methods -/
def px_cs (I : Nat → Nat → Int32) (R : Nat → List UInt8) (s : Nat → List UInt8) (n : Nat) : Prop := I 0 6 = nI n ∧ ∀ k, k < 64 → R (100 + 2 * k) = s k ∧ (s k).length ≤ 1600
def px_CI (I : Nat → Nat → Int32) (V : Nat → Nat → Int64) (G : Nat → Nat → Nat) (R : Nat → List UInt8) (T : List UInt8) (s : Nat → List UInt8) (n : Nat) (mp : px_Mp) (t : Int32 × Int32 × Int32) (S : Nat → px_S) (Q : Nat → px_Rp) : Prop := (R 1 = T ∧ T.length ≤ 1600) ∧ px_cs I R s n ∧ px_cm I V G R mp ∧ px_ct I t ∧ (∀ c, c < 4 → px_cc I R c (S c)) ∧ (∀ c, c < 4 → px_cp I R c (Q c))
section PX
variable {b : Nat} {I : Nat → Nat → Int32} {V : Nat → Nat → Int64} {G : Nat → Nat → Nat} {R : Nat → List UInt8} {M : Nat → Nat → Int32} {p : px_P} {e : Nat}
variable {T : List UInt8} {s : Nat → List UInt8} {n : Nat} {mp : px_Mp} {t : Int32 × Int32 × Int32} {S : Nat → px_S} {Q : Nat → px_Rp}
theorem px_CI.tape (h : px_CI I V G R T s n mp t S Q) (T' : List UInt8) (hT : T'.length ≤ 1600) : px_CI I V G (va_up R 1 T') T' s n mp t S Q := by
  obtain ⟨h1, h2, h3, h4, h5, h6⟩ := h
  refine ⟨⟨px_va_eq _ _ _, hT⟩, ⟨h2.1, fun k hk => by rw [px_va_ne _ _ _ _ (by omega)]; exact h2.2 k hk⟩, h3.same rfl (fun _ => rfl) (fun _ => rfl) (fun o q1 q2 => px_va_ne _ _ _ _ (by omega)), h4, fun c hc => (h5 c hc).same (fun _ => rfl) (px_va_ne _ _ _ _ (by omega)), fun c hc => (h6 c hc).same (fun _ => rfl) (fun _ => rfl) (fun o q1 q2 => px_va_ne _ _ _ _ (by omega))⟩
theorem px_CI.scr (h : px_CI I V G R T s n mp t S Q) (o : Nat) (ho : o = 92 ∨ o = 96 ∨ o = 98) (l : List UInt8) : px_CI I V G (va_up R o l) T s n mp t S Q := by
  obtain ⟨h1, h2, h3, h4, h5, h6⟩ := h
  refine ⟨⟨by rw [px_va_ne _ _ _ _ (by omega)]; exact h1.1, h1.2⟩, ⟨h2.1, fun k hk => by rw [px_va_ne _ _ _ _ (by omega)]; exact h2.2 k hk⟩, h3.same rfl (fun _ => rfl) (fun _ => rfl) (fun o q1 q2 => px_va_ne _ _ _ _ (by omega)), h4, fun c hc => (h5 c hc).same (fun _ => rfl) (px_va_ne _ _ _ _ (by omega)), fun c hc => (h6 c hc).same (fun _ => rfl) (fun _ => rfl) (fun o q1 q2 => px_va_ne _ _ _ _ (by omega))⟩
theorem px_cs.slot (h : px_cs I R s n) (l : List UInt8) (hl : l.length ≤ 1600) : px_cs (px_u2 I 0 6 (nI (n + 1))) (va_up R (100 + 2 * (n % 64)) l) (va_up s (n % 64) l) (n + 1) := by
  refine ⟨px_u2_eq _ _ _ _, fun k hk => ?_⟩
  by_cases q : k = n % 64
  · rw [q, px_va_eq, px_va_eq]; exact ⟨rfl, hl⟩
  · rw [px_va_ne _ _ _ _ (by omega), px_va_ne _ _ _ _ q]; exact h.2 k hk
theorem px_CI.slot (h : px_CI I V G R T s n mp t S Q) (l : List UInt8) (hl : l.length ≤ 1600) : px_CI (px_u2 I 0 6 (nI (n + 1))) V G (va_up R (100 + 2 * (n % 64)) l) T (va_up s (n % 64) l) (n + 1) mp t S Q := by
  obtain ⟨h1, h2, h3, h4, h5, h6⟩ := h
  refine ⟨⟨by rw [px_va_ne _ _ _ _ (by omega)]; exact h1.1, h1.2⟩, h2.slot l hl, h3.same (px_u2_ne _ _ _ _ _ _ (by omega)) (fun _ => rfl) (fun _ => rfl) (fun o q1 q2 => px_va_ne _ _ _ _ (by omega)), ⟨by rw [px_u2_ne _ _ _ _ _ _ (by omega)]; exact h4.1, by rw [px_u2_ne _ _ _ _ _ _ (by omega)]; exact h4.2.1, by rw [px_u2_ne _ _ _ _ _ _ (by omega)]; exact h4.2.2⟩, fun c hc => (h5 c hc).same (fun _ => px_u2_ne _ _ _ _ _ _ (by omega)) (px_va_ne _ _ _ _ (by omega)), fun c hc => (h6 c hc).same (fun _ => px_u2_ne _ _ _ _ _ _ (by omega)) (fun _ => px_u2_ne _ _ _ _ _ _ (by omega)) (fun o q1 q2 => px_va_ne _ _ _ _ (by omega))⟩
theorem pc_slotRow (j : Nat) (hj : j < 2 ^ 31) : f_rec_slotRow (px_W b I V G R M p) (b + 0) (nI j) = some (some (b + (100 + 2 * (j % 64))), px_W b I V G R M p) := by
  unfold f_rec_slotRow
  rw [px_gR_0_1, px_bs, px_and63 j hj, px_aR_3 _ (by omega), px_bs]
theorem pc_newSlot (hn : n < 2 ^ 30) (h : I 0 6 = nI n) (hw : px_Wf b p e) : f_rec_newSlot (px_W b I V G R M p) (b + 0) = some (some (b + (100 + 2 * (n % 64))), px_W b (px_u2 I 0 6 (nI (n + 1))) V G (va_up R (100 + 2 * (n % 64)) []) M p) := by
  have hr := px_rS (n % 64) (by omega)
  unfold f_rec_newSlot
  rw [px_gI_0_6, px_bs, h, px_rc_0, px_bs, px_bnd (pc_slotRow n (by omega))]
  dsimp only
  rw [px_gI_0_6, px_bs, h, px_pI_0_6, px_bs, px_rcR _ hr, px_bs, px_bnd (px_clear _ hr hw), nI_1]
theorem pc_addOne (o : Nat) (B : List UInt8) (ho : px_rw o = true) (hne : o < 100 ∨ 228 ≤ o) (hB : R o = B) (hBl : B.length ≤ 1596) (hn : n < 2 ^ 30) (h : I 0 6 = nI n) (hw : px_Wf b p e) : ∃ p', px_Wf b p' e ∧ f_rec_addOneFragment (px_W b I V G R M p) (b + 0) (some (b + o)) = some (px_W b (px_u2 I 0 6 (nI (n + 1))) V G (va_up R (100 + 2 * (n % 64)) (px_one B)) M p') := by
  have hr := px_rS (n % 64) (by omega)
  have hne' : 100 + 2 * (n % 64) ≠ o := by omega
  unfold f_rec_addOneFragment
  rw [px_rc_0, px_bs, px_bnd (pc_newSlot hn h hw)]
  dsimp only
  obtain ⟨p1, w1, h1⟩ := px_addWord (b := b) (I := px_u2 I 0 6 (nI (n + 1))) (V := V) (G := G) (R := va_up R (100 + 2 * (n % 64)) []) (M := M) (100 + 2 * (n % 64)) ((-2147483648) ||| nI B.length) hr hw (by rw [px_va_eq]; simp)
  rw [px_va_va, px_va_eq, List.nil_append] at h1
  obtain ⟨p2, w2, h2⟩ := px_addPart (b := b) (I := px_u2 I 0 6 (nI (n + 1))) (V := V) (G := G) (R := va_up R (100 + 2 * (n % 64)) (rc_bw ((-2147483648) ||| nI B.length))) (M := M) (100 + 2 * (n % 64)) o 0 B.length hr ho hne' w1 (by rw [px_va_ne _ _ _ _ (Ne.symm hne'), hB]; omega) (by rw [px_va_ne _ _ _ _ (Ne.symm hne'), hB]; omega) (by rw [px_va_eq, px_bw_len]; omega)
  rw [px_va_ne _ _ _ _ (Ne.symm hne'), px_va_va, px_va_eq, hB, List.drop_zero, List.take_length, nI_0] at h2
  rw [px_rcR o ho, px_bs, px_bnd (px_size o ho hw), px_va_ne _ _ _ _ (Ne.symm hne'), hB]
  dsimp only
  rw [px_rcR _ hr, px_bs, px_bnd h1, px_rcR o ho, px_bs, px_bnd (px_size o ho w1), px_va_ne _ _ _ _ (Ne.symm hne'), hB]
  dsimp only
  rw [px_rcR _ hr, px_bs, px_bnd h2]
  exact ⟨p2, w2, rfl⟩
theorem pc_tapeIsSlot (h : I 0 6 = nI (n + 1)) (hw : px_Wf b p e) : f_rec_tapeIsSlot (px_W b I V G R M p) (b + 0) = some (nI n, px_W b I V G (va_up R 1 []) M p) := by
  unfold f_rec_tapeIsSlot
  rw [px_gR_0_0, px_bs, px_rcR 1 px_rT, px_bs, px_bnd (px_clear 1 px_rT hw), px_gI_0_6, px_bs, h, show (1 : Int32) = nI 1 from rfl, px_sub (by omega), Nat.add_sub_cancel]
theorem pc_isSlot (hn : n < 2 ^ 30) (h : I 0 6 = nI n) (y : Int32) : (px_is n y → f_rec_isSlot (px_W b I V G R M p) (b + 0) y = some (1, px_W b I V G R M p)) ∧ (¬ px_is n y → f_rec_isSlot (px_W b I V G R M p) (b + 0) y = some (0, px_W b I V G R M p)) := by
  unfold f_rec_isSlot b_rec_isSlot_27 b_rec_isSlot_28 rc_z1
  rcases px_is_cases hn y with ⟨q1, q2⟩ | ⟨j, hj, rfl, hi⟩
  · exact ⟨fun z => absurd z q2, fun _ => by rw [if_pos q1, if_pos (Or.inl rfl)]⟩
  · rw [if_neg (nI_pos hj), px_gI_0_6, px_bs, px_bs, h, hi]
    by_cases q : j < n
    · rw [if_neg (nI_ge q (by omega))]
      have e1 : (nI j < nI n - nI 64) = (j + 64 < n) := px_msub (by omega) (by decide) j (by omega)
      rw [show (64 : Int32) = nI 64 from rfl]
      refine ⟨fun z => ?_, fun z => ?_⟩
      · rw [if_neg (by rw [e1]; omega), if_pos (Or.inr rfl)]
      · rw [if_pos (by rw [e1]; omega), if_pos (Or.inl rfl)]
    · rw [if_pos (nI_le (by omega) hj), if_pos (Or.inl rfl)]
      exact ⟨fun z => absurd z.1 q, fun _ => rfl⟩
theorem pc_isConn (y : Int32) : (∀ c, c < 4 → y = nI c → f_rec_isConnection (px_W b I V G R M p) y = some (1, px_W b I V G R M p)) ∧ ((y < 0 ∨ 4 ≤ y) → f_rec_isConnection (px_W b I V G R M p) y = some (0, px_W b I V G R M p)) := by
  unfold f_rec_isConnection b_rec_isConnection_13 b_rec_isConnection_14 rc_z1
  refine ⟨fun c hc e => ?_, fun q => ?_⟩
  · rw [e, if_neg (nI_pos (by omega)), if_neg (by rw [show (4 : Int32) = nI 4 from rfl]; exact nI_ge hc (by decide)), if_pos (Or.inr rfl)]
  · rw [if_pos (Or.inl rfl)]
    by_cases q1 : y < 0
    · rw [if_pos q1]
    · rw [if_neg q1, if_pos (q.resolve_left q1)]
-- feed, end, raw
theorem pc_feed (h : px_CI I V G R T s n mp t S Q) (x1 x2 x3 x4 x5 : Int32) (hl : T.length + 20 ≤ 1600) (hw : px_Wf b p e) : ∃ p', px_Wf b p' e ∧ f_rec_feed (px_W b I V G R M p) (b + 0) x1 x2 x3 x4 x5 = some (some (nI (T.length + 20)), px_W b I V G (va_up R 1 (T ++ px_fd x1 x2 x3 x4 x5)) M p') := by
  have hT := h.1.1
  have hva : va_up R 1 T = R := by rw [← hT]; exact px_va_id R 1
  have step : ∀ (L : List UInt8) (x : Int32) (p : px_P), px_Wf b p e → L.length ≤ 1596 → ∃ p', px_Wf b p' e ∧ g_row_addWord (px_W b I V G (va_up R 1 L) M p) (b + 1) x = some (px_W b I V G (va_up R 1 (L ++ rc_bw x)) M p') := by
    intro L x p hw hL
    obtain ⟨p', w', h⟩ := px_addWord (b := b) (I := I) (V := V) (G := G) (R := va_up R 1 L) (M := M) 1 x px_rT hw (by rw [px_va_eq]; omega)
    rw [px_va_va, px_va_eq] at h
    exact ⟨p', w', h⟩
  obtain ⟨p1, w1, h1⟩ := step T x1 p hw (by omega)
  rw [hva] at h1
  obtain ⟨p2, w2, h2⟩ := step (T ++ rc_bw x1) x2 p1 w1 (by simp only [List.length_append, px_bw_len]; omega)
  obtain ⟨p3, w3, h3⟩ := step (T ++ rc_bw x1 ++ rc_bw x2) x3 p2 w2 (by simp only [List.length_append, px_bw_len]; omega)
  obtain ⟨p4, w4, h4⟩ := step (T ++ rc_bw x1 ++ rc_bw x2 ++ rc_bw x3) x4 p3 w3 (by simp only [List.length_append, px_bw_len]; omega)
  obtain ⟨p5, w5, h5⟩ := step (T ++ rc_bw x1 ++ rc_bw x2 ++ rc_bw x3 ++ rc_bw x4) x5 p4 w4 (by simp only [List.length_append, px_bw_len]; omega)
  unfold f_rec_feed
  rw [px_gR_0_0, px_bs, px_rcR 1 px_rT, px_bs, px_bnd (px_size 1 px_rT hw), hT]
  dsimp only
  rw [if_pos (by rw [show (20 : Int32) = nI 20 from rfl, show (1600 : Int32) = nI 1600 from rfl, nI_add]; exact nI_le hl (by decide)), px_gR_0_0, px_bs, px_rcR 1 px_rT, px_bs, px_bnd h1, px_gR_0_0, px_bs, px_rcR 1 px_rT, px_bs, px_bnd h2, px_gR_0_0, px_bs, px_rcR 1 px_rT, px_bs, px_bnd h3, px_gR_0_0, px_bs, px_rcR 1 px_rT, px_bs, px_bnd h4, px_gR_0_0, px_bs, px_rcR 1 px_rT, px_bs, px_bnd h5, px_gR_0_0, px_bs, px_rcR 1 px_rT, px_bs, px_bnd (px_size 1 px_rT w5), px_va_eq]
  dsimp only
  refine ⟨p5, w5, ?_⟩
  have e1 : (T ++ rc_bw x1 ++ rc_bw x2 ++ rc_bw x3 ++ rc_bw x4 ++ rc_bw x5).length = T.length + 20 := by simp only [List.length_append, px_bw_len]
  rw [e1]
  unfold px_fd
  simp only [List.append_assoc]
theorem pc_feed_bad (h : px_CI I V G R T s n mp t S Q) (x1 x2 x3 x4 x5 : Int32) (hl : ¬ T.length + 20 ≤ 1600) (hw : px_Wf b p (e + 1)) : ∃ p', px_Wf b p' e ∧ f_rec_feed (px_W b I V G R M p) (b + 0) x1 x2 x3 x4 x5 = some (none, px_W b I V G R M p') := by
  have hT := h.1.1
  have hTl := h.1.2
  obtain ⟨p1, w1, h1⟩ := px_throw (b := b) (I := I) (V := V) (G := G) (R := R) (M := M) hw
  unfold f_rec_feed
  rw [px_gR_0_0, px_bs, px_rcR 1 px_rT, px_bs, px_bnd (px_size 1 px_rT hw), hT]
  dsimp only
  rw [if_neg (by rw [show (20 : Int32) = nI 20 from rfl, show (1600 : Int32) = nI 1600 from rfl, nI_add]; exact nI_ge (by omega) (by omega)), px_bnd h1]
  exact ⟨p1, w1, rfl⟩
theorem pc_end (h : px_CI I V G R T s n mp t S Q) (j : Nat) (hj : j ≤ T.length) (hw : px_Wf b p e) : f_rec_end (px_W b I V G R M p) (b + 0) (nI j) = some (some (), px_W b I V G (va_up R 1 (T.take j)) M p) := by
  have hT := h.1.1
  have hTl := h.1.2
  unfold f_rec_end
  rw [if_neg (nI_pos (by omega)), px_gR_0_0, px_bs, px_rcR 1 px_rT, px_bs, px_bnd (px_size 1 px_rT hw), hT]
  dsimp only
  rw [if_pos (nI_le hj (by omega)), px_gR_0_0, px_bs, px_rcR 1 px_rT, px_bs, px_bnd (px_cutTo 1 j px_rT hw (by rw [hT]; exact hj) (by rw [hT]; omega)), hT]
theorem pc_end_bad (h : px_CI I V G R T s n mp t S Q) (y : Int32) (hy : y < 0 ∨ nI T.length < y) (hw : px_Wf b p (e + 1)) : ∃ p', px_Wf b p' e ∧ f_rec_end (px_W b I V G R M p) (b + 0) y = some (none, px_W b I V G R M p') := by
  have hT := h.1.1
  obtain ⟨p1, w1, h1⟩ := px_throw (b := b) (I := I) (V := V) (G := G) (R := R) (M := M) hw
  unfold f_rec_end b_rec_end_15
  by_cases q : y < 0
  · rw [if_pos q, px_bnd h1]
    exact ⟨p1, w1, rfl⟩
  · rw [if_neg q, px_gR_0_0, px_bs, px_rcR 1 px_rT, px_bs, px_bnd (px_size 1 px_rT hw), hT]
    dsimp only
    rw [if_neg (Int32.not_le.mpr (hy.resolve_left q)), px_bnd h1]
    exact ⟨p1, w1, rfl⟩
theorem pc_raw (h : px_CI I V G R T s n mp t S Q) (hn : n < 2 ^ 30) (hw : px_Wf b p e) : ∃ I' R' p', px_Wf b p' e ∧ f_rec_raw (px_W b I V G R M p) (b + 0) = some (nI n, px_W b I' V G R' M p') ∧ px_CI I' V G R' [] (va_up s (n % 64) T) (n + 1) mp t S Q := by
  have hT := h.1.1
  have hTl := h.1.2
  have hr := px_rS (n % 64) (by omega)
  have hne : 100 + 2 * (n % 64) ≠ 1 := by omega
  obtain ⟨p1, w1, h1⟩ := px_addPart (b := b) (I := px_u2 I 0 6 (nI (n + 1))) (V := V) (G := G) (R := va_up R (100 + 2 * (n % 64)) []) (M := M) (100 + 2 * (n % 64)) 1 0 T.length hr px_rT hne hw (by rw [px_va_ne _ _ _ _ (Ne.symm hne), hT]; omega) (by rw [px_va_ne _ _ _ _ (Ne.symm hne), hT]; omega) (by rw [px_va_eq]; simp; omega)
  rw [px_va_ne _ _ _ _ (Ne.symm hne), px_va_va, px_va_eq, hT, List.drop_zero, List.take_length, nI_0, List.nil_append] at h1
  unfold f_rec_raw
  rw [px_rc_0, px_bs, px_bnd (pc_newSlot hn h.2.1.1 hw)]
  dsimp only
  rw [px_gR_0_0, px_bs, px_bs, px_rcR 1 px_rT, px_bs, px_bnd (px_size 1 px_rT hw), px_va_ne _ _ _ _ (Ne.symm hne), hT]
  dsimp only
  rw [px_rcR _ hr, px_bs, px_bnd h1, px_rc_0, px_bs, px_bnd (pc_tapeIsSlot (px_u2_eq _ _ _ _) w1)]
  exact ⟨_, _, p1, w1, rfl, (h.slot T hTl).tape [] (by simp)⟩
-- what is told of slots
theorem pc_length (h : px_CI I V G R T s n mp t S Q) (hn : n < 2 ^ 30) (j : Nat) (hj : j < 2 ^ 31) (hi : px_is n (nI j)) (hw : px_Wf b p e) : f_rec_length (px_W b I V G R M p) (b + 0) (nI j) = some (some (nI (s (j % 64)).length), px_W b I V G R M p) := by
  have hr := px_rS (j % 64) (by omega)
  unfold f_rec_length
  rw [px_rc_0, px_bs, px_bnd ((pc_isSlot hn h.2.1.1 _).1 hi)]
  dsimp only
  rw [if_neg (by decide), px_rc_0, px_bs, px_bnd (pc_slotRow j hj)]
  dsimp only
  rw [px_rcR _ hr, px_bs, px_bnd (px_size _ hr hw), (h.2.1.2 (j % 64) (by omega)).1]
theorem pc_length_bad (h : px_CI I V G R T s n mp t S Q) (hn : n < 2 ^ 30) (y : Int32) (hi : ¬ px_is n y) (hw : px_Wf b p (e + 1)) : ∃ p', px_Wf b p' e ∧ f_rec_length (px_W b I V G R M p) (b + 0) y = some (none, px_W b I V G R M p') := by
  obtain ⟨p1, w1, h1⟩ := px_throw (b := b) (I := I) (V := V) (G := G) (R := R) (M := M) hw
  unfold f_rec_length
  rw [px_rc_0, px_bs, px_bnd ((pc_isSlot hn h.2.1.1 _).2 hi)]
  dsimp only
  rw [if_pos rfl, px_bnd h1]
  exact ⟨p1, w1, rfl⟩
theorem pc_byteAt (h : px_CI I V G R T s n mp t S Q) (hn : n < 2 ^ 30) (j i : Nat) (hj : j < 2 ^ 31) (hi : px_is n (nI j)) (hil : i < (s (j % 64)).length) (hw : px_Wf b p e) : f_rec_byteAt (px_W b I V G R M p) (b + 0) (nI j) (nI i) = some (some (rc_u ((s (j % 64)).getD i 0)), px_W b I V G R M p) := by
  have hr := px_rS (j % 64) (by omega)
  obtain ⟨s1, s2⟩ := h.2.1.2 (j % 64) (by omega)
  unfold f_rec_byteAt
  rw [px_rc_0, px_bs, px_bnd ((pc_isSlot hn h.2.1.1 _).1 hi)]
  dsimp only
  rw [if_neg (by decide), if_neg (nI_pos (by omega)), px_rc_0, px_bs, px_bnd (pc_slotRow j hj)]
  dsimp only
  rw [px_rcR _ hr, px_bs, px_bnd (px_size _ hr hw), s1]
  dsimp only
  rw [if_pos (nI_lt hil (by omega)), px_rc_0, px_bs, px_bnd (pc_slotRow j hj)]
  dsimp only
  rw [px_rcR _ hr, px_bs, px_bnd (px_rowAt _ _ hr hw), s1, rc_atR_in hil (by omega)]
theorem pc_byteAt_bad (h : px_CI I V G R T s n mp t S Q) (hn : n < 2 ^ 30) (y y2 : Int32) (hb : ¬ px_is n y ∨ y2 < 0 ∨ ∃ j i, y = nI j ∧ j < 2 ^ 31 ∧ y2 = nI i ∧ i < 2 ^ 31 ∧ (s (j % 64)).length ≤ i) (hw : px_Wf b p (e + 1)) : ∃ p', px_Wf b p' e ∧ f_rec_byteAt (px_W b I V G R M p) (b + 0) y y2 = some (none, px_W b I V G R M p') := by
  obtain ⟨p1, w1, h1⟩ := px_throw (b := b) (I := I) (V := V) (G := G) (R := R) (M := M) hw
  refine ⟨p1, w1, ?_⟩
  unfold f_rec_byteAt b_rec_byteAt_24
  by_cases q : px_is n y
  · rw [px_rc_0, px_bs, px_bnd ((pc_isSlot hn h.2.1.1 _).1 q)]
    dsimp only
    rw [if_neg (by decide)]
    by_cases q2 : y2 < 0
    · rw [if_pos q2, px_bnd h1]
    · obtain ⟨j, i, rfl, hj, rfl, hi, hle⟩ := (hb.resolve_left (fun z => z q)).resolve_left q2
      have hr := px_rS (j % 64) (by omega)
      obtain ⟨s1, s2⟩ := h.2.1.2 (j % 64) (by omega)
      rw [if_neg q2, px_rc_0, px_bs, px_bnd (pc_slotRow j hj)]
      dsimp only
      rw [px_rcR _ hr, px_bs, px_bnd (px_size _ hr hw), s1]
      dsimp only
      rw [if_neg (by rw [px_lt hi (by omega)]; omega), px_bnd h1]
  · rw [px_rc_0, px_bs, px_bnd ((pc_isSlot hn h.2.1.1 _).2 q)]
    dsimp only
    rw [if_pos rfl, px_bnd h1]
theorem pc_word (h : px_CI I V G R T s n mp t S Q) (hn : n < 2 ^ 30) (j i : Nat) (hj : j < 2 ^ 31) (hi : px_is n (nI j)) (hil : i + 4 ≤ (s (j % 64)).length) (hw : px_Wf b p e) : f_rec_word (px_W b I V G R M p) (b + 0) (nI j) (nI i) = some (some (rc_wd (s (j % 64)) i), px_W b I V G R M p) := by
  have hr := px_rS (j % 64) (by omega)
  obtain ⟨s1, s2⟩ := h.2.1.2 (j % 64) (by omega)
  unfold f_rec_word
  rw [px_rc_0, px_bs, px_bnd ((pc_isSlot hn h.2.1.1 _).1 hi)]
  dsimp only
  rw [if_neg (by decide), if_neg (nI_pos (by omega)), px_rc_0, px_bs, px_bnd (pc_slotRow j hj)]
  dsimp only
  rw [px_rcR _ hr, px_bs, px_bnd (px_size _ hr hw), s1]
  dsimp only
  have e1 : (nI i ≤ nI (s (j % 64)).length - nI 4) = (i + 4 ≤ (s (j % 64)).length) := px_msub3 (by omega) (by decide) i (by omega)
  rw [if_pos (by rw [show (4 : Int32) = nI 4 from rfl, e1]; exact hil), px_rc_0, px_bs, px_bnd (pc_slotRow j hj)]
  dsimp only
  rw [px_rcR _ hr, px_bs, px_bnd (px_wordAt _ _ hr hw), s1, px_wdR _ _ (by omega), if_neg (by omega)]
theorem pc_word_bad (h : px_CI I V G R T s n mp t S Q) (hn : n < 2 ^ 30) (y y2 : Int32) (hb : ¬ px_is n y ∨ y2 < 0 ∨ ∃ j i, y = nI j ∧ j < 2 ^ 31 ∧ y2 = nI i ∧ i < 2 ^ 31 ∧ (s (j % 64)).length < i + 4) (hw : px_Wf b p (e + 1)) : ∃ p', px_Wf b p' e ∧ f_rec_word (px_W b I V G R M p) (b + 0) y y2 = some (none, px_W b I V G R M p') := by
  obtain ⟨p1, w1, h1⟩ := px_throw (b := b) (I := I) (V := V) (G := G) (R := R) (M := M) hw
  refine ⟨p1, w1, ?_⟩
  unfold f_rec_word b_rec_word_26
  by_cases q : px_is n y
  · rw [px_rc_0, px_bs, px_bnd ((pc_isSlot hn h.2.1.1 _).1 q)]
    dsimp only
    rw [if_neg (by decide)]
    by_cases q2 : y2 < 0
    · rw [if_pos q2, px_bnd h1]
    · obtain ⟨j, i, rfl, hj, rfl, hi, hle⟩ := (hb.resolve_left (fun z => z q)).resolve_left q2
      have hr := px_rS (j % 64) (by omega)
      obtain ⟨s1, s2⟩ := h.2.1.2 (j % 64) (by omega)
      rw [if_neg q2, px_rc_0, px_bs, px_bnd (pc_slotRow j hj)]
      dsimp only
      rw [px_rcR _ hr, px_bs, px_bnd (px_size _ hr hw), s1]
      dsimp only
      have e1 : (nI i ≤ nI (s (j % 64)).length - nI 4) = (i + 4 ≤ (s (j % 64)).length) := px_msub3 (by omega) (by decide) i hi
      rw [if_neg (by rw [show (4 : Int32) = nI 4 from rfl, e1]; omega), px_bnd h1]
  · rw [px_rc_0, px_bs, px_bnd ((pc_isSlot hn h.2.1.1 _).2 q)]
    dsimp only
    rw [if_pos rfl, px_bnd h1]
-- value, has, count, open
theorem pc_placeOfTape (h : px_CI I V G R T s n mp t S Q) (hw : px_Wf b p e) : f_rec_placeOfTape (px_W b I V G R M p) (b + 0) = some (px_pi (px_pl mp T), px_W b I V G R M p) := by
  have hT := h.1.1
  have hTl := h.1.2
  have h1 := pc_placeOf (b := b) (M := M) (p := p) mp h.2.2.1 1 0 T.length px_rT (by omega) hw (by rw [hT]; omega) (by rw [hT]; omega)
  rw [hT, List.drop_zero, List.take_length, nI_0] at h1
  unfold f_rec_placeOfTape
  rw [px_gR_0_3, px_bs, px_gR_5_0, px_bs, px_gR_0_0, px_bs, px_bs, px_rcR 1 px_rT, px_bs, px_bnd (px_size 1 px_rT hw), hT]
  dsimp only
  rw [px_rc_6, px_bs, px_bnd h1]
theorem pc_value (h : px_CI I V G R T s n mp t S Q) (hw : px_Wf b p e) : f_rec_value (px_W b I V G R M p) (b + 0) = some (px_val mp (px_pl mp T), px_W b I V G R M p) := by
  unfold f_rec_value
  rw [px_gR_0_3, px_bs, px_gR_5_0, px_bs, px_rc_0, px_bs, px_bnd (pc_placeOfTape h hw)]
  dsimp only
  rw [px_rc_6, px_bs, px_bnd (pc_valueAt mp h.2.2.1 _ (fun i q => (px_pl_lt q).1))]
theorem pc_has (h : px_CI I V G R T s n mp t S Q) (hw : px_Wf b p e) : f_rec_has (px_W b I V G R M p) (b + 0) = some (px_z (px_pl mp T).isSome, px_W b I V G R M p) := by
  have h40 := h.2.2.1.2.1
  unfold f_rec_has b_rec_has_13 rc_z1
  rw [px_rc_0, px_bs, px_bnd (pc_placeOfTape h hw)]
  dsimp only
  cases hp : px_pl mp T with
  | none => rw [if_pos (show px_pi none = -1 from rfl), if_pos (Or.inl rfl)]; rfl
  | some i =>
    have := (px_pl_lt hp).1
    rw [if_neg (px_pi_some i (by omega)), if_pos (Or.inr rfl)]; rfl
theorem pc_count (h : px_CI I V G R T s n mp t S Q) (k : Nat) (hk : k ≤ 8) (hw : px_Wf b p e) : f_rec_count (px_W b I V G R M p) (b + 0) (nI k) = some (some (if k = 0 then nI n else if k = 1 then nI mp.length else if k = 2 then t.1 else if k = 3 then t.2.1 else if k = 4 then t.2.2 else if (S (k - 5)).2.2.2.2 = true then -1 else nI (S (k - 5)).2.2.2.1.length), px_W b I V G R M p) := by
  obtain ⟨h1, h2, h3, h4, h5, h6⟩ := h
  have ne : ∀ a, a < 5 → k ≠ a → ¬ nI k = nI a := fun a ha q z => by rw [px_eq (by omega) (by omega)] at z; exact q z
  unfold f_rec_count f_map_size
  by_cases k0 : k = 0
  · rw [k0, if_pos nI_0, px_gI_0_6, px_bs, h2.1, if_pos rfl]
  · rw [if_neg (show ¬ nI k = 0 from ne 0 (by omega) k0), if_neg k0]
    by_cases k1 : k = 1
    · rw [k1, if_pos (show nI 1 = 1 from rfl), px_gR_0_3, px_bs, px_gR_5_0, px_bs, px_rc_6, px_bs, px_gI_6_2, px_bs, px_bs, h3.1, if_pos rfl]
    · rw [if_neg (show ¬ nI k = 1 from ne 1 (by omega) k1), if_neg k1]
      by_cases k2 : k = 2
      · rw [k2, if_pos (show nI 2 = 2 from rfl), px_gR_0_3, px_bs, px_gI_5_3, px_bs, h4.1, if_pos rfl]
      · rw [if_neg (show ¬ nI k = 2 from ne 2 (by omega) k2), if_neg k2]
        by_cases k3 : k = 3
        · rw [k3, if_pos (show nI 3 = 3 from rfl), px_gR_0_3, px_bs, px_gI_5_4, px_bs, h4.2.1, if_pos rfl]
        · rw [if_neg (show ¬ nI k = 3 from ne 3 (by omega) k3), if_neg k3]
          by_cases k4 : k = 4
          · rw [k4, if_pos (show nI 4 = 4 from rfl), px_gR_0_3, px_bs, px_gI_5_5, px_bs, h4.2.2, if_pos rfl]
          · rw [if_neg (show ¬ nI k = 4 from ne 4 (by omega) k4), if_neg k4]
            rw [show (5 : Int32) = nI 5 from rfl, px_sub (by omega), px_bnd ((pc_isConn (nI (k - 5))).1 (k - 5) (by omega) rfl)]
            dsimp only
            rw [if_neg (by decide), px_gR_0_2, px_bs, px_aR_4 _ (by omega), px_bs, px_rc_c _ (by omega), px_bs, px_bnd (pc_waiting _ (by omega) _ (h5 (k - 5) (by omega)) hw)]
theorem pc_count_bad (y : Int32) (hy : y < 0 ∨ 8 < y) (hw : px_Wf b p (e + 1)) : ∃ p', px_Wf b p' e ∧ f_rec_count (px_W b I V G R M p) (b + 0) y = some (none, px_W b I V G R M p') := by
  obtain ⟨p1, w1, h1⟩ := px_throw (b := b) (I := I) (V := V) (G := G) (R := R) (M := M) hw
  refine ⟨p1, w1, ?_⟩
  have hi := Int32.le_toInt y
  have hs := Int32.toInt_lt y
  have hy' : y.toInt < 0 ∨ 8 < y.toInt := hy.imp (fun q => Int32.lt_iff_toInt_lt.mp q) (fun q => by have := Int32.lt_iff_toInt_lt.mp q; rw [show (8 : Int32).toInt = 8 by decide] at this; exact this)
  have ne : ∀ a : Int32, 0 ≤ a.toInt → a.toInt ≤ 8 → ¬ y = a := fun a h1 h2 q => by rw [q] at hy'; omega
  have hb : (y - 5) < 0 ∨ 4 ≤ (y - 5) := by
    rw [Int32.lt_iff_toInt_lt, Int32.le_iff_toInt_le, Int32.toInt_sub]
    show (y.toInt - 5).bmod (2 ^ 32) < 0 ∨ 4 ≤ (y.toInt - 5).bmod (2 ^ 32)
    rcases hy' with q | q
    · by_cases q5 : -2147483648 ≤ y.toInt - 5
      · rw [Int.bmod_eq_of_le (by omega) (by omega)]; omega
      · right
        rw [Int.bmod_def]
        omega
    · rw [Int.bmod_eq_of_le (by omega) (by omega)]; omega
  unfold f_rec_count
  rw [if_neg (ne 0 (by decide) (by decide)), if_neg (ne 1 (by decide) (by decide)), if_neg (ne 2 (by decide) (by decide)), if_neg (ne 3 (by decide) (by decide)), if_neg (ne 4 (by decide) (by decide)), px_bnd ((pc_isConn _).2 hb)]
  dsimp only
  rw [if_pos rfl, px_bnd h1]
theorem px_CI.kf {I' : Nat → Nat → Int32} {R' : Nat → List UInt8} {c : Nat} {x : px_S} (h : px_CI I V G R T s n mp t S Q) (hc : c < 4) (h1 : px_kf c I I' R R') (h2 : px_cc I' R' c x) : px_CI I' V G R' T s n mp t (va_up S c x) Q := by
  obtain ⟨g1, g2, g3, g4, g5, g6⟩ := h
  obtain ⟨k1, k2⟩ := h1
  refine ⟨⟨by rw [k2 _ (by omega)]; exact g1.1, g1.2⟩, ⟨by rw [k1 _ _ (by omega)]; exact g2.1, fun k hk => by rw [k2 _ (by omega)]; exact g2.2 k hk⟩, g3.same (k1 _ _ (by omega)) (fun _ => rfl) (fun _ => rfl) (fun o q1 q2 => k2 _ (by omega)), ⟨by rw [k1 _ _ (by omega)]; exact g4.1, by rw [k1 _ _ (by omega)]; exact g4.2.1, by rw [k1 _ _ (by omega)]; exact g4.2.2⟩, fun c' hc' => ?_, fun c' hc' => (g6 c' hc').same (fun _ => k1 _ _ (by omega)) (fun _ => k1 _ _ (by omega)) (fun o q1 q2 => k2 _ (by omega))⟩
  by_cases q : c' = c
  · subst q; rw [px_va_eq]; exact h2
  · rw [px_va_ne _ _ _ _ q]; exact (g5 c' hc').same (fun _ => k1 _ _ (by omega)) (k2 _ (by omega))
theorem pc_open (h : px_CI I V G R T s n mp t S Q) (c : Nat) (hc : c < 4) (hw : px_Wf b p e) : ∃ I' R', f_rec_open (px_W b I V G R M p) (b + 0) (nI c) = some (some (px_z (S c).2.2.2.2), px_W b I' V G R' M p) ∧ px_CI I' V G R' T s n mp t (va_up S c ((S c).1, 0, 0, [], false)) Q := by
  obtain ⟨I', R', h1, h2, h3⟩ := pc_openAnew (b := b) (V := V) (G := G) (M := M) (p := p) c hc _ (h.2.2.2.2.1 c hc) hw
  unfold f_rec_open rc_z1T
  rw [px_bnd ((pc_isConn (nI c)).1 c hc rfl)]
  dsimp only
  rw [if_neg (by decide), px_gR_0_2, px_bs, px_aR_4 c hc, px_bs, px_rc_c c hc, px_bs, px_bnd h1]
  dsimp only
  rw [if_pos (by cases (S c).2.2.2.2 <;> decide)]
  exact ⟨I', R', rfl, h.kf hc h3 h2⟩
theorem pc_open_bad (y : Int32) (hy : y < 0 ∨ 4 ≤ y) (hw : px_Wf b p (e + 1)) : ∃ p', px_Wf b p' e ∧ f_rec_open (px_W b I V G R M p) (b + 0) y = some (none, px_W b I V G R M p') := by
  obtain ⟨p1, w1, h1⟩ := px_throw (b := b) (I := I) (V := V) (G := G) (R := R) (M := M) hw
  refine ⟨p1, w1, ?_⟩
  unfold f_rec_open
  rw [px_bnd ((pc_isConn y).2 hy)]
  dsimp only
  rw [if_pos rfl, px_bnd h1]
end PX
