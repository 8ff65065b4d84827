/-! THE CLASS, 12: record, call -/
section PX
variable {b : Nat} {I : Nat → Nat → Int32} {V : Nat → Nat → Int64} {G : Nat → Nat → Nat} {R : Nat → List UInt8} {M : Nat → Nat → Int32} {p : px_P} {e : Nat}
variable {T : List UInt8} {s : Nat → List UInt8} {n : Nat} {mp : px_Mp} {t : Int32 × Int32 × Int32} {S : Nat → px_S} {Q : Nat → px_Rp}
theorem pc_fragments (w : rc_M) (T : List UInt8) (cut : Nat) (h1 : 1 ≤ cut) (h2 : cut < 2 ^ 31) (hT : T.length ≤ 1600) : f_rec_fragments w (nI T.length) (nI cut) = some (nI (px_nf cut T), w) := by
  unfold f_rec_fragments b_rec_fragments_9 px_nf
  by_cases q : T.length = 0
  · rw [q, if_pos nI_0, if_pos rfl]; rfl
  · rw [if_neg (by rw [px_eq0 (by omega)]; exact q), if_pos (by rw [show (1 : Int32) = nI 1 from rfl]; exact nI_le h1 h2), if_neg (by rw [px_eq0 h2]; omega), if_neg q]
    rw [show (1 : Int32) = nI 1 from rfl, px_sub (by omega), px_div (by omega) h2, nI_add]
theorem px_nf_le (cut : Nat) (T : List UInt8) : px_nf cut T ≤ T.length + 1 := by
  unfold px_nf
  split
  · omega
  · have := Nat.div_le_self (T.length - 1) cut
    omega
theorem pc_rec_go (cut so : Nat) (hc1 : 1 ≤ cut) (hc2 : cut < 2 ^ 31) (hso : px_rw so = true) (hso1 : so ≠ 1) (hT : R 1 = T) (hTl : T.length + 4 * px_nf cut T ≤ 1600) (h6 : I 0 6 = nI (n + 1)) : ∀ (m k a f : Nat) (L : List UInt8) (p : px_P), px_nf cut T = k + m → m < f → px_Wf b p e → (0 < m → a = cut * k) → a ≤ T.length → L.length = a + 4 * k → ∃ p', px_Wf b p' e ∧ b_rec_record_66 f (px_W b I V G (va_up R so L) M p) (b + 0) (nI cut) (some (b + so)) (nI T.length) (nI (px_nf cut T)) (nI a) (nI (k + 1)) = some (some (nI n), px_W b I V G (va_up (va_up R so (L ++ px_fr cut T a m)) 1 []) M p') := by
  have hnf := px_nf_le cut T
  intro m
  induction m with
  | zero =>
    intro k a f L p hk hf hw ha hal hL
    obtain ⟨f, rfl⟩ : ∃ q, f = q + 1 := ⟨f - 1, by omega⟩
    rw [b_rec_record_66, if_pos (nI_lt (by omega) (by omega)), px_rc_0, px_bs, px_bnd (pc_tapeIsSlot h6 hw), px_fr, List.append_nil]
    exact ⟨p, hw, rfl⟩
  | succ m ih =>
    intro k a f L p hk hf hw ha hal hL
    obtain ⟨f, rfl⟩ : ∃ q, f = q + 1 := ⟨f - 1, by omega⟩
    have ha' := ha (by omega)
    have hmul := px_nf_mul cut T
    -- how long this fragment is
    have hlen : (m = 0 → T.length - a ≤ cut) ∧ (0 < m → a + cut ≤ T.length) := by
      refine ⟨fun q => ?_, fun q => ?_⟩
      · rw [ha']
        have hk1 : px_nf cut T = k + 1 := by omega
        unfold px_nf at hk1
        by_cases q0 : T.length = 0
        · omega
        · rw [if_neg q0] at hk1
          have hk2 : k = (T.length - 1) / cut := by omega
          have hd := Nat.div_add_mod (T.length - 1) cut
          have hm := Nat.mod_lt (T.length - 1) (show cut > 0 by omega)
          rw [← hk2] at hd
          omega
      · have : cut * (k + 1) ≤ cut * (px_nf cut T - 1) := Nat.mul_le_mul_left _ (by omega)
        rw [Nat.mul_succ] at this
        omega
    have hgo : ∀ (x w1 : Int32) (d : Nat), x = nI d → a + d ≤ T.length → (0 < m → a + d = cut * (k + 1)) → px_fr cut T a (m + 1) = rc_bw w1 ++ (T.drop a).take d ++ px_fr cut T (a + d) m → ∃ p', px_Wf b p' e ∧ b_rec_record_101 (b_rec_record_66 f) (px_W b I V G (va_up R so L) M p) (b + 0) (nI cut) (some (b + so)) (nI T.length) (nI (px_nf cut T)) (nI a) (nI (k + 1)) x (some (b + so)) w1 = some (some (nI n), px_W b I V G (va_up (va_up R so (L ++ px_fr cut T a (m + 1))) 1 []) M p') := by
      intro x w1 d hx hd hd2 hfr
      obtain ⟨p1, u1, h1⟩ := px_addWord (b := b) (I := I) (V := V) (G := G) (R := va_up R so L) (M := M) so w1 hso hw (by rw [px_va_eq]; omega)
      rw [px_va_va, px_va_eq] at h1
      have e1 : va_up R so (L ++ rc_bw w1) 1 = T := by rw [px_va_ne _ _ _ _ (Ne.symm hso1), hT]
      obtain ⟨p2, u2, h2⟩ := px_addPart (b := b) (I := I) (V := V) (G := G) (R := va_up R so (L ++ rc_bw w1)) (M := M) so 1 a d hso px_rT hso1 u1 (by rw [e1]; exact hd) (by rw [e1]; omega) (by rw [px_va_eq, List.length_append, px_bw_len]; omega)
      rw [px_va_va, px_va_eq, e1] at h2
      unfold b_rec_record_101
      rw [px_rcR so hso, px_bs, px_bnd h1, px_gR_0_0, px_bs, px_rcR so hso, px_bs, hx, px_bnd h2, nI_add, nI_1]
      obtain ⟨p3, u3, h3⟩ := ih (k + 1) (a + d) f (L ++ rc_bw w1 ++ (T.drop a).take d) p2 (by omega) (by omega) u2 hd2 hd (by simp only [List.length_append, px_bw_len, List.length_take, List.length_drop]; omega)
      rw [h3, hfr]
      refine ⟨p3, u3, ?_⟩
      simp only [List.append_assoc]
    rw [b_rec_record_66, if_neg (by rw [px_lt (by omega) (by omega)]; omega), px_sub hal]
    unfold f_mat_min b_mat_min_10
    by_cases q : m = 0
    · have hmn : (if nI (T.length - a) < nI cut then some (nI (T.length - a), px_W b I V G (va_up R so L) M p) else some (nI cut, px_W b I V G (va_up R so L) M p)) = some (nI (T.length - a), px_W b I V G (va_up R so L) M p) := by
        have := hlen.1 q
        by_cases z : T.length - a < cut
        · rw [if_pos (nI_lt z hc2)]
        · rw [if_neg (by rw [px_lt (by omega) hc2]; exact z), show cut = T.length - a by omega]
      rw [px_bnd hmn]
      dsimp only
      rw [if_pos (by rw [hk, q])]
      refine hgo _ _ (T.length - a) rfl (by omega) (fun z => by omega) ?_
      rw [px_fr, if_pos q, if_pos q]
    · have hmn : (if nI (T.length - a) < nI cut then some (nI (T.length - a), px_W b I V G (va_up R so L) M p) else some (nI cut, px_W b I V G (va_up R so L) M p)) = some (nI cut, px_W b I V G (va_up R so L) M p) := by
        have := hlen.2 (by omega)
        rw [if_neg (by rw [px_lt (by omega) hc2]; omega)]
      rw [px_bnd hmn]
      dsimp only
      rw [if_neg (by rw [px_eq (by omega) (by omega)]; omega)]
      refine hgo _ _ cut rfl (hlen.2 (by omega)) (fun z => by rw [ha', Nat.mul_succ]) ?_
      rw [px_fr, if_neg q, if_neg q]
theorem px_fr_len (cut : Nat) (T : List UInt8) : ∀ (r a : Nat), a ≤ T.length → (px_fr cut T a r).length ≤ T.length - a + 4 * r := by
  intro r
  induction r with
  | zero => intro a _; rw [px_fr]; simp
  | succ r ih =>
    intro a ha
    rw [px_fr]
    by_cases q : r = 0
    · subst q
      rw [if_pos rfl, if_pos rfl, px_fr, List.append_nil]
      simp only [List.length_append, px_bw_len, List.length_take, List.length_drop]
      omega
    · rw [if_neg q, if_neg q]
      by_cases h : a + cut ≤ T.length
      · have := ih (a + cut) h
        simp only [List.length_append, px_bw_len, List.length_take, List.length_drop]
        omega
      · have h2 : ∀ (r b : Nat), T.length ≤ b → (px_fr cut T b r).length ≤ 4 * r := by
          intro r
          induction r with
          | zero => intro b _; rw [px_fr]; simp
          | succ r ih =>
            intro b hb
            rw [px_fr]
            have e0 : ∀ d, ((T.drop b).take d).length = 0 := fun d => by simp only [List.length_take, List.length_drop]; omega
            by_cases q2 : r = 0
            · have := ih (b + (T.length - b)) (by omega)
              rw [if_pos q2, if_pos q2, List.length_append, List.length_append, px_bw_len, e0]
              omega
            · have := ih (b + cut) (by omega)
              rw [if_neg q2, if_neg q2, List.length_append, List.length_append, px_bw_len, e0]
              omega
        have := h2 r (a + cut) (by omega)
        simp only [List.length_append, px_bw_len, List.length_take, List.length_drop]
        omega
theorem pc_record (h : px_CI I V G R T s n mp t S Q) (hn : n < 2 ^ 30) (cut : Nat) (hc1 : 1 ≤ cut) (hc2 : cut < 2 ^ 31) (hl : T.length + 4 * px_nf cut T ≤ 1600) (hw : px_Wf b p e) : ∃ I' R' p', px_Wf b p' e ∧ f_rec_record (px_W b I V G R M p) (b + 0) (nI cut) = some (some (nI n), px_W b I' V G R' M p') ∧ px_CI I' V G R' [] (va_up s (n % 64) (px_fr cut T 0 (px_nf cut T))) (n + 1) mp t S Q := by
  have hT := h.1.1
  have hTl := h.1.2
  have hnf := px_nf_le cut T
  have hr := px_rS (n % 64) (by omega)
  have hne : 100 + 2 * (n % 64) ≠ 1 := by omega
  have hfl := px_fr_len cut T (px_nf cut T) 0 (by omega)
  unfold f_rec_record
  generalize hF : (5000 : Nat) = fu
  rw [if_neg (by rw [show (1 : Int32) = nI 1 from rfl, px_lt hc2 (by decide)]; omega), px_gR_0_0, px_bs, px_rcR 1 px_rT, px_bs, px_bnd (px_size 1 px_rT hw), hT]
  dsimp only
  rw [px_gR_0_0, px_bs, px_rcR 1 px_rT, px_bs, px_bnd (px_size 1 px_rT hw), hT]
  dsimp only
  rw [px_bnd (pc_fragments _ T cut hc1 hc2 hTl)]
  dsimp only
  rw [if_pos (by rw [show (4 : Int32) = nI 4 from rfl, show (1600 : Int32) = nI 1600 from rfl, px_mul, nI_add]; exact nI_le hl (by decide)), px_rc_0, px_bs, px_bnd (pc_newSlot hn h.2.1.1 hw)]
  dsimp only
  rw [px_gR_0_0, px_bs, px_rcR 1 px_rT, px_bs, px_bnd (px_size 1 px_rT hw), px_va_ne _ _ _ _ (Ne.symm hne), hT]
  dsimp only
  rw [px_bnd (pc_fragments _ T cut hc1 hc2 hTl)]
  dsimp only
  obtain ⟨p1, w1, h1⟩ := pc_rec_go (b := b) (I := px_u2 I 0 6 (nI (n + 1))) (V := V) (G := G) (R := R) (M := M) (T := T) (n := n) cut (100 + 2 * (n % 64)) hc1 hc2 hr hne hT hl (px_u2_eq _ _ _ _) (px_nf cut T) 0 0 fu [] p (by omega) (by omega) hw (fun _ => by omega) (by omega) (by simp)
  rw [nI_0, List.nil_append] at h1
  rw [show (1 : Int32) = nI (0 + 1) from rfl, h1]
  exact ⟨_, _, p1, w1, rfl, (h.slot _ (by omega)).tape [] (by simp)⟩
theorem pc_record_bad (h : px_CI I V G R T s n mp t S Q) (y : Int32) (hb : y < 1 ∨ ∃ cut, y = nI cut ∧ 1 ≤ cut ∧ cut < 2 ^ 31 ∧ ¬ T.length + 4 * px_nf cut T ≤ 1600) (hw : px_Wf b p (e + 1)) : ∃ p', px_Wf b p' e ∧ f_rec_record (px_W b I V G R M p) (b + 0) y = some (none, px_W b I V G R M p') := by
  have hT := h.1.1
  have hTl := h.1.2
  obtain ⟨p1, w1, h1⟩ := px_throw (b := b) (I := I) (V := V) (G := G) (R := R) (M := M) hw
  refine ⟨p1, w1, ?_⟩
  unfold f_rec_record b_rec_record_32
  generalize hF : (5000 : Nat) = fu
  by_cases q : y < 1
  · rw [if_pos q, px_bnd h1]
  · obtain ⟨cut, rfl, hc1, hc2, hl⟩ := hb.resolve_left q
    have hnf := px_nf_le cut T
    rw [if_neg q, px_gR_0_0, px_bs, px_rcR 1 px_rT, px_bs, px_bnd (px_size 1 px_rT hw), hT]
    dsimp only
    rw [px_gR_0_0, px_bs, px_rcR 1 px_rT, px_bs, px_bnd (px_size 1 px_rT hw), hT]
    dsimp only
    rw [px_bnd (pc_fragments _ T cut hc1 hc2 hTl)]
    dsimp only
    rw [if_neg (by rw [show (4 : Int32) = nI 4 from rfl, show (1600 : Int32) = nI 1600 from rfl, px_mul, nI_add]; exact nI_ge (by omega) (by omega)), px_bnd h1]
theorem pc_w98 (L : List UInt8) (y : Int32) (hw : px_Wf b p e) (hl : L.length ≤ 2000) : ∃ p', px_Wf b p' e ∧ g_row_addWord (px_W b I V G (va_up R 98 L) M p) (b + 98) y = some (px_W b I V G (va_up R 98 (L ++ rc_bw y)) M p') := by
  obtain ⟨p', w', h⟩ := px_addWord (b := b) (I := I) (V := V) (G := G) (R := va_up R 98 L) (M := M) 98 y px_r98 hw (by rw [px_va_eq]; omega)
  rw [px_va_va, px_va_eq] at h
  exact ⟨p', w', h⟩
theorem pc_n98 (L : List UInt8) (hw : px_Wf b p e) (hl : L.length ≤ 2000) : ∃ p', px_Wf b p' e ∧ f_rec_addNobody (px_W b I V G (va_up R 98 L) M p) (some (b + 98)) = some (px_W b I V G (va_up R 98 (L ++ (rc_bw 0 ++ rc_bw 0))) M p') := by
  obtain ⟨p', w', h⟩ := pc_addNobody (b := b) (I := I) (V := V) (G := G) (R := va_up R 98 L) (M := M) 98 px_r98 hw (by rw [px_va_eq]; omega)
  rw [px_va_va, px_va_eq] at h
  exact ⟨p', w', h⟩
theorem pc_call_end (h : px_CI I V G R T s n mp t S Q) (hn : n < 2 ^ 30) (B : List UInt8) (hB : B.length ≤ 1000) (hw : px_Wf b p e) : ∃ I' R' p', px_Wf b p' e ∧ b_rec_call_123 (px_W b I V G (va_up R 98 B) M p) (b + 0) = some (some (nI n), px_W b I' V G R' M p') ∧ px_CI I' V G R' [] (va_up s (n % 64) (px_one B)) (n + 1) mp t S Q := by
  obtain ⟨p1, w1, h1⟩ := pc_addOne (b := b) (V := V) (G := G) (R := va_up R 98 B) (M := M) 98 B px_r98 (by omega) (px_va_eq _ _ _) (by omega) hn h.2.1.1 hw
  unfold b_rec_call_123
  rw [px_gR_0_5, px_bs, px_rc_0, px_bs, px_bnd h1, px_rc_0, px_bs, px_bnd (pc_tapeIsSlot (px_u2_eq _ _ _ _) w1)]
  exact ⟨_, _, p1, w1, rfl, ((h.scr 98 (by omega) B).slot _ (by rw [px_one_len]; omega)).tape [] (by simp)⟩
theorem pc_call (h : px_CI I V G R T s n mp t S Q) (hn : n < 2 ^ 30) (x1 x2 x3 z : Int32) (v : Int64) (hl : T.length ≤ 16) (hw : px_Wf b p e) : ∃ I' R' p', px_Wf b p' e ∧ f_rec_call (px_W b I V G R M p) (b + 0) x1 x2 x3 z v = some (some (nI n), px_W b I' V G R' M p') ∧ px_CI I' V G R' [] (va_up s (n % 64) (px_one (px_cb x1 x2 x3 T z v))) (n + 1) mp t S Q := by
  have hT := h.1.1
  have hfi : px_fi T.length ≤ 19 := by unfold px_fi; omega
  unfold f_rec_call
  obtain ⟨p1, w1, h1⟩ := pc_w98 (b := b) (I := I) (V := V) (G := G) (R := R) (M := M) [] x1 hw (by simp)
  rw [List.nil_append] at h1
  obtain ⟨p2, w2, h2⟩ := pc_w98 (b := b) (I := I) (V := V) (G := G) (R := R) (M := M) (rc_bw x1) 0 w1 (by rw [px_bw_len]; omega)
  obtain ⟨p3, w3, h3⟩ := pc_w98 (b := b) (I := I) (V := V) (G := G) (R := R) (M := M) (rc_bw x1 ++ rc_bw 0) 2 w2 (by simp only [List.length_append, px_bw_len]; omega)
  obtain ⟨p4, w4, h4⟩ := pc_w98 (b := b) (I := I) (V := V) (G := G) (R := R) (M := M) (rc_bw x1 ++ rc_bw 0 ++ rc_bw 2) 400100 w3 (by simp only [List.length_append, px_bw_len]; omega)
  obtain ⟨p5, w5, h5⟩ := pc_w98 (b := b) (I := I) (V := V) (G := G) (R := R) (M := M) (rc_bw x1 ++ rc_bw 0 ++ rc_bw 2 ++ rc_bw 400100) x2 w4 (by simp only [List.length_append, px_bw_len]; omega)
  obtain ⟨p6, w6, h6⟩ := pc_w98 (b := b) (I := I) (V := V) (G := G) (R := R) (M := M) (rc_bw x1 ++ rc_bw 0 ++ rc_bw 2 ++ rc_bw 400100 ++ rc_bw x2) x3 w5 (by simp only [List.length_append, px_bw_len]; omega)
  generalize hB6 : rc_bw x1 ++ rc_bw 0 ++ rc_bw 2 ++ rc_bw 400100 ++ rc_bw x2 ++ rc_bw x3 = B6 at h6
  have hl6 : B6.length = 24 := by rw [← hB6]; simp only [List.length_append, px_bw_len]
  obtain ⟨p7, w7, h7⟩ := pc_n98 (b := b) (I := I) (V := V) (G := G) (R := R) (M := M) B6 w6 (by omega)
  obtain ⟨p8, w8, h8⟩ := pc_n98 (b := b) (I := I) (V := V) (G := G) (R := R) (M := M) (B6 ++ (rc_bw 0 ++ rc_bw 0)) w7 (by simp only [List.length_append, px_bw_len]; omega)
  generalize hB8 : B6 ++ (rc_bw 0 ++ rc_bw 0) ++ (rc_bw 0 ++ rc_bw 0) = B8 at h8
  have hl8 : B8.length = 40 := by rw [← hB8]; simp only [List.length_append, px_bw_len]; omega
  have e1 : va_up R 98 B8 1 = T := by rw [px_va_ne _ _ _ _ (by omega), hT]
  obtain ⟨p9, w9, h9⟩ := pc_addBytes (b := b) (I := I) (V := V) (G := G) (R := va_up R 98 B8) (M := M) 98 1 0 T.length px_r98 px_rT (by omega) (by omega) w8 (by rw [e1]; omega) (by rw [e1]; omega) (by rw [px_va_eq]; omega)
  rw [px_va_va, px_va_eq, e1, List.drop_zero, List.take_length, nI_0] at h9
  generalize hB9 : B8 ++ (rc_bw (nI T.length) ++ (T ++ List.replicate (px_fi T.length - T.length) 0)) = B9 at h9
  have hl9 : B9.length ≤ 100 := by rw [← hB9]; simp only [List.length_append, px_bw_len, List.length_replicate]; omega
  have hcb : px_cb x1 x2 x3 T z v = B9 ++ (if z = 0 then [] else px_bl v) := by
    rw [← hB9, ← hB8, ← hB6]
    unfold px_cb
    simp only [List.append_assoc]
  rw [hcb]
  rw [px_gR_0_0, px_bs, px_rcR 1 px_rT, px_bs, px_bnd (px_size 1 px_rT hw), hT]
  dsimp only
  rw [if_pos (by rw [show (16 : Int32) = nI 16 from rfl]; exact nI_le hl (by decide)), px_gR_0_5, px_bs, px_rcR 98 px_r98, px_bs, px_bnd (px_clear 98 px_r98 hw), px_gR_0_5, px_bs, px_rcR 98 px_r98, px_bs, px_bnd h1, px_gR_0_5, px_bs, px_rcR 98 px_r98, px_bs, px_bnd h2, px_gR_0_5, px_bs, px_rcR 98 px_r98, px_bs, px_bnd h3, px_gR_0_5, px_bs, px_rcR 98 px_r98, px_bs, px_bnd h4, px_gR_0_5, px_bs, px_rcR 98 px_r98, px_bs, px_bnd h5, px_gR_0_5, px_bs, px_rcR 98 px_r98, px_bs, px_bnd h6, px_gR_0_5, px_bs, px_bnd h7, px_gR_0_5, px_bs, px_bnd h8, px_gR_0_5, px_bs, px_gR_0_0, px_bs, px_bs, px_rcR 1 px_rT, px_bs, px_bnd (px_size 1 px_rT w8), e1]
  dsimp only
  rw [px_rcR 98 px_r98, px_bs, px_bnd h9]
  by_cases q : z = 0
  · rw [if_pos q, if_pos q, List.append_nil]
    exact pc_call_end h hn B9 (by omega) w9
  · obtain ⟨p10, w10, h10⟩ := pc_addLong (b := b) (I := I) (V := V) (G := G) (R := va_up R 98 B9) (M := M) 98 v px_r98 w9 (by rw [px_va_eq]; omega)
    rw [px_va_va, px_va_eq] at h10
    rw [if_neg q, if_neg q, px_gR_0_5, px_bs, px_rcR 98 px_r98, px_bs, px_bnd h10]
    exact pc_call_end h hn _ (by rw [List.length_append, px_bl_len]; omega) w10
theorem pc_call_bad (h : px_CI I V G R T s n mp t S Q) (x1 x2 x3 z : Int32) (v : Int64) (hl : ¬ T.length ≤ 16) (hw : px_Wf b p (e + 1)) : ∃ p', px_Wf b p' e ∧ f_rec_call (px_W b I V G R M p) (b + 0) x1 x2 x3 z v = some (none, px_W b I V G R M p') := by
  have hT := h.1.1
  have hTl := h.1.2
  obtain ⟨p1, w1, h1⟩ := px_throw (b := b) (I := I) (V := V) (G := G) (R := R) (M := M) hw
  refine ⟨p1, w1, ?_⟩
  unfold f_rec_call
  rw [px_gR_0_0, px_bs, px_rcR 1 px_rT, px_bs, px_bnd (px_size 1 px_rT hw), hT]
  dsimp only
  rw [if_neg (by rw [show (16 : Int32) = nI 16 from rfl]; exact nI_ge (by omega) (by omega)), px_bnd h1]
end PX
