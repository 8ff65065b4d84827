/-! THE CLASS, 7: the reply's first words, and what a procedure gives -/
theorem px_cm.r92 {I : Nat → Nat → Int32} {V : Nat → Nat → Int64} {G : Nat → Nat → Nat} {R : Nat → List UInt8} {mp : px_Mp} (h : px_cm I V G R mp) (L : List UInt8) : px_cm I V G (va_up R 92 L) mp := h.same rfl (fun _ => rfl) (fun _ => rfl) (fun o h1 h2 => px_va_ne _ _ _ _ (by omega))
theorem px_cx.r92 {G : Nat → Nat → Nat} {R : Nat → List UInt8} {rr : Nat} {l : List UInt8} (h : px_cx G R rr l) (hr : 229 ≤ rr) (L : List UInt8) : px_cx G (va_up R 92 L) rr l := ⟨h.1, h.2.1, by rw [px_va_ne _ _ _ _ (by omega)]; exact h.2.2.1, h.2.2.2⟩
def px_gv (mp : px_Mp) (o : Option Nat) : List UInt8 := match o with | none => rc_bw 2 | some i => rc_bw 0 ++ px_bl (px_k mp i).2
theorem px_pl_set {mp : px_Mp} {i : Nat} (hi : i < mp.length) (y : Int64) (key : List UInt8) : px_pl (mp.set i ((px_k mp i).1, y)) key = px_pl mp key := by
  unfold px_pl
  rw [List.length_set]
  have : ∀ n k, px_plg (mp.set i ((px_k mp i).1, y)) key n k = px_plg mp key n k := by
    intro n
    induction n with
    | zero => intro k; rfl
    | succ n ih =>
      intro k
      rw [px_plg, px_plg, ih, px_k_set _ hi]
      by_cases q : k = i
      · rw [if_pos q, q]
      · rw [if_neg q]
  exact this _ _
section PX
variable {b : Nat} {I : Nat → Nat → Int32} {V : Nat → Nat → Int64} {G : Nat → Nat → Nat} {R : Nat → List UInt8} {M : Nat → Nat → Int32} {p : px_P} {e : Nat}
theorem pc_w92 (L : List UInt8) (x : Int32) (hw : px_Wf b p e) (hl : L.length ≤ 2000) : ∃ p', px_Wf b p' e ∧ g_row_addWord (px_W b I V G (va_up R 92 L) M p) (b + 92) x = some (px_W b I V G (va_up R 92 (L ++ rc_bw x)) M p') := by
  obtain ⟨p', w', h⟩ := px_addWord (b := b) (I := I) (V := V) (G := G) (R := va_up R 92 L) (M := M) 92 x px_r92 hw (by rw [px_va_eq]; omega)
  rw [px_va_va, px_va_eq] at h
  exact ⟨p', w', h⟩
theorem pc_l92 (L : List UInt8) (x : Int64) (hw : px_Wf b p e) (hl : L.length ≤ 2000) : ∃ p', px_Wf b p' e ∧ g_row_addLong (px_W b I V G (va_up R 92 L) M p) (b + 92) x = some (px_W b I V G (va_up R 92 (L ++ px_bl x)) M p') := by
  obtain ⟨p', w', h⟩ := pc_addLong (b := b) (I := I) (V := V) (G := G) (R := va_up R 92 L) (M := M) 92 x px_r92 hw (by rw [px_va_eq]; omega)
  rw [px_va_va, px_va_eq] at h
  exact ⟨p', w', h⟩
theorem pc_t92 (L : List UInt8) (x : Int32) (hw : px_Wf b p e) (hl : L.length ≤ 2000) : ∃ p', px_Wf b p' e ∧ g_row_addTruth (px_W b I V G (va_up R 92 L) M p) (b + 92) x = some (px_W b I V G (va_up R 92 (L ++ rc_bw (if x = 0 then 0 else 1))) M p') := by
  obtain ⟨p', w', h⟩ := pc_addTruth (b := b) (I := I) (V := V) (G := G) (R := va_up R 92 L) (M := M) 92 x px_r92 hw (by rw [px_va_eq]; omega)
  rw [px_va_va, px_va_eq] at h
  exact ⟨p', w', h⟩
theorem pc_br_end (L : List UInt8) (x : Int32) (hw : px_Wf b p e) (hl : L.length ≤ 100) : ∃ p', px_Wf b p' e ∧ b_srv_beginReply_122 (px_W b I V G (va_up R 92 L) M p) (b + 5) x = some (px_W b I V G (va_up R 92 (L ++ if x = 2 then rc_bw 1 ++ rc_bw 2 else [])) M p') := by
  unfold b_srv_beginReply_122 b_srv_beginReply_143
  by_cases q : x = 2
  · obtain ⟨p1, w1, h1⟩ := pc_w92 (b := b) (I := I) (V := V) (G := G) (R := R) (M := M) L 1 hw (by omega)
    obtain ⟨p2, w2, h2⟩ := pc_w92 (b := b) (I := I) (V := V) (G := G) (R := R) (M := M) (L ++ rc_bw 1) 2 w1 (by rw [List.length_append, px_bw_len]; omega)
    rw [if_pos q, px_gR_5_2, px_bs, px_rcR 92 px_r92, px_bs, px_bnd h1, px_gR_5_2, px_bs, px_rcR 92 px_r92, px_bs, px_bnd h2, if_pos q, List.append_assoc]
    exact ⟨p2, w2, rfl⟩
  · rw [if_neg q, if_neg q, List.append_nil]
    exact ⟨p, hw, rfl⟩
theorem pc_beginReply (number v : Int32) (hw : px_Wf b p e) : ∃ p', px_Wf b p' e ∧ f_srv_beginReply (px_W b I V G R M p) (b + 5) number v = some (px_W b I V G (va_up R 92 (px_hd number v)) M p') := by
  unfold f_srv_beginReply
  obtain ⟨p1, w1, h1⟩ := pc_w92 (b := b) (I := I) (V := V) (G := G) (R := R) (M := M) [] number hw (by simp)
  rw [List.nil_append] at h1
  obtain ⟨p2, w2, h2⟩ := pc_w92 (b := b) (I := I) (V := V) (G := G) (R := R) (M := M) (rc_bw number) 1 w1 (by rw [px_bw_len]; omega)
  rw [px_gR_5_2, px_bs, px_rcR 92 px_r92, px_bs, px_bnd (px_clear 92 px_r92 hw), px_gR_5_2, px_bs, px_rcR 92 px_r92, px_bs, px_bnd h1, px_gR_5_2, px_bs, px_rcR 92 px_r92, px_bs, px_bnd h2]
  unfold px_hd
  have l2 : (rc_bw number ++ rc_bw 1).length = 8 := by rw [List.length_append, px_bw_len, px_bw_len]
  generalize rc_bw number ++ rc_bw 1 = L2 at *
  by_cases q5 : v = 5
  · obtain ⟨p3, w3, h3⟩ := pc_w92 (b := b) (I := I) (V := V) (G := G) (R := R) (M := M) L2 1 w2 (by omega)
    obtain ⟨p4, w4, h4⟩ := pc_w92 (b := b) (I := I) (V := V) (G := G) (R := R) (M := M) (L2 ++ rc_bw 1) 0 w3 (by simp only [List.length_append, px_bw_len]; omega)
    obtain ⟨p5, w5, h5⟩ := pc_w92 (b := b) (I := I) (V := V) (G := G) (R := R) (M := M) (L2 ++ rc_bw 1 ++ rc_bw 0) 2 w4 (by simp only [List.length_append, px_bw_len]; omega)
    obtain ⟨p6, w6, h6⟩ := pc_w92 (b := b) (I := I) (V := V) (G := G) (R := R) (M := M) (L2 ++ rc_bw 1 ++ rc_bw 0 ++ rc_bw 2) 2 w5 (by simp only [List.length_append, px_bw_len]; omega)
    obtain ⟨p7, w7, h7⟩ := pc_br_end (b := b) (I := I) (V := V) (G := G) (R := R) (M := M) (L2 ++ rc_bw 1 ++ rc_bw 0 ++ rc_bw 2 ++ rc_bw 2) v w6 (by simp only [List.length_append, px_bw_len]; omega)
    rw [if_pos q5, px_gR_5_2, px_bs, px_rcR 92 px_r92, px_bs, px_bnd h3, px_gR_5_2, px_bs, px_rcR 92 px_r92, px_bs, px_bnd h4, px_gR_5_2, px_bs, px_rcR 92 px_r92, px_bs, px_bnd h5, px_gR_5_2, px_bs, px_rcR 92 px_r92, px_bs, px_bnd h6, h7, if_pos q5]
    simp only [List.append_assoc]
    exact ⟨p7, w7, rfl⟩
  · rw [if_neg q5, if_neg q5]
    by_cases q10 : v ≤ 10
    · obtain ⟨p3, w3, h3⟩ := pc_w92 (b := b) (I := I) (V := V) (G := G) (R := R) (M := M) L2 0 w2 (by omega)
      obtain ⟨p4, w4, h4⟩ := pc_addNobody (b := b) (I := I) (V := V) (G := G) (R := va_up R 92 (L2 ++ rc_bw 0)) (M := M) 92 px_r92 w3 (by rw [px_va_eq]; simp only [List.length_append, px_bw_len]; omega)
      rw [px_va_va, px_va_eq] at h4
      obtain ⟨p5, w5, h5⟩ := pc_w92 (b := b) (I := I) (V := V) (G := G) (R := R) (M := M) (L2 ++ rc_bw 0 ++ (rc_bw 0 ++ rc_bw 0)) v w4 (by simp only [List.length_append, px_bw_len]; omega)
      obtain ⟨p7, w7, h7⟩ := pc_br_end (b := b) (I := I) (V := V) (G := G) (R := R) (M := M) (L2 ++ rc_bw 0 ++ (rc_bw 0 ++ rc_bw 0) ++ rc_bw v) v w5 (by simp only [List.length_append, px_bw_len]; omega)
      rw [if_pos q10, px_gR_5_2, px_bs, px_rcR 92 px_r92, px_bs, px_bnd h3, px_gR_5_2, px_bs, px_bnd h4, px_gR_5_2, px_bs, px_rcR 92 px_r92, px_bs, px_bnd h5, h7, if_pos q10]
      simp only [List.append_assoc]
      exact ⟨p7, w7, rfl⟩
    · obtain ⟨p3, w3, h3⟩ := pc_w92 (b := b) (I := I) (V := V) (G := G) (R := R) (M := M) L2 1 w2 (by omega)
      obtain ⟨p4, w4, h4⟩ := pc_w92 (b := b) (I := I) (V := V) (G := G) (R := R) (M := M) (L2 ++ rc_bw 1) 1 w3 (by simp only [List.length_append, px_bw_len]; omega)
      obtain ⟨p5, w5, h5⟩ := pc_w92 (b := b) (I := I) (V := V) (G := G) (R := R) (M := M) (L2 ++ rc_bw 1 ++ rc_bw 1) (v - 10) w4 (by simp only [List.length_append, px_bw_len]; omega)
      obtain ⟨p7, w7, h7⟩ := pc_br_end (b := b) (I := I) (V := V) (G := G) (R := R) (M := M) (L2 ++ rc_bw 1 ++ rc_bw 1 ++ rc_bw (v - 10)) v w5 (by simp only [List.length_append, px_bw_len]; omega)
      rw [if_neg q10, px_gR_5_2, px_bs, px_rcR 92 px_r92, px_bs, px_bnd h3, px_gR_5_2, px_bs, px_rcR 92 px_r92, px_bs, px_bnd h4, px_gR_5_2, px_bs, px_rcR 92 px_r92, px_bs, px_bnd h5, h7, if_neg q10]
      simp only [List.append_assoc]
      exact ⟨p7, w7, rfl⟩
theorem pc_placeTaken (i rr a : Nat) (l : List UInt8) (mp : px_Mp) (hi : i < 8) (hk : px_kt I l a i) (hx : px_cx G R rr l) (hrr : 229 ≤ rr) (hm : px_cm I V G R mp) (hw : px_Wf b p e) : f_srv_placeTaken (px_W b I V G R M p) (b + 5) (nI i) = some (px_pi (px_pl mp (px_key l a)), px_W b I V G R M p) := by
  obtain ⟨n, a1, a2, a3, a4, a5, a6⟩ := hk
  obtain ⟨hG, hr, hR, hl⟩ := hx
  have h := pc_placeOf (b := b) (M := M) (p := p) mp hm rr (a + 4) n hr (by omega) hw (by rw [hR]; omega) (by rw [hR]; omega)
  rw [hR, ← a6] at h
  unfold f_srv_placeTaken f_rdr_row
  rw [px_gR_5_0, px_bs, px_gR_5_1, px_bs, px_rc_89, px_bs, px_gR_89_0, px_bs, px_bs, hG]
  dsimp only
  rw [px_gR_5_6, px_bs, px_aI_94 i hi, px_bs, px_gR_5_7, px_bs, px_aI_95 i hi, px_bs, px_rc_6, px_bs, a4, a5, px_bnd h]
theorem px_pi_none : (px_pi none = -1) = True := eq_true rfl
theorem px_pi_some (i : Nat) (h : i < 2 ^ 31) : ¬ px_pi (some i) = -1 := fun q => by
  have : nI i = -1 := q
  exact nI_pos h (by rw [this]; decide)
theorem pc_giveValueAt (L : List UInt8) (o : Option Nat) (mp : px_Mp) (ho : ∀ i, o = some i → i < mp.length) (hm : px_cm I V G R mp) (hw : px_Wf b p e) (hl : L.length ≤ 1000) : ∃ p', px_Wf b p' e ∧ f_srv_giveValueAt (px_W b I V G (va_up R 92 L) M p) (b + 5) (px_pi o) = some (px_W b I V G (va_up R 92 (L ++ px_gv mp o)) M p') := by
  have h40 := hm.2.1
  unfold f_srv_giveValueAt
  cases o with
  | none =>
    obtain ⟨p1, w1, h1⟩ := pc_w92 (b := b) (I := I) (V := V) (G := G) (R := R) (M := M) L 2 hw (by omega)
    rw [if_pos (show px_pi none = -1 from rfl), px_gR_5_2, px_bs, px_rcR 92 px_r92, px_bs, px_bnd h1]
    exact ⟨p1, w1, rfl⟩
  | some i =>
    have hi := ho i rfl
    obtain ⟨p1, w1, h1⟩ := pc_w92 (b := b) (I := I) (V := V) (G := G) (R := R) (M := M) L 0 hw (by omega)
    have hv := pc_valueAt (b := b) (M := M) (p := p1) mp (hm.r92 (L ++ rc_bw 0)) (some i) ho
    obtain ⟨p2, w2, h2⟩ := pc_l92 (b := b) (I := I) (V := V) (G := G) (R := R) (M := M) (L ++ rc_bw 0) (px_val mp (some i)) w1 (by rw [List.length_append, px_bw_len]; omega)
    rw [if_neg (px_pi_some i (by omega)), px_gR_5_2, px_bs, px_rcR 92 px_r92, px_bs, px_bnd h1, px_gR_5_2, px_bs, px_gR_5_0, px_bs, px_rc_6, px_bs, px_bnd hv]
    dsimp only
    rw [px_rcR 92 px_r92, px_bs, px_bnd h2, List.append_assoc]
    exact ⟨p2, w2, rfl⟩
theorem pc_sum_go (rr n : Nat) (l : List UInt8) (mp : px_Mp) (L : List UInt8) (hn : n ≤ 8) (h9 : I 5 9 = nI n) (hx : px_cx G R rr l) (hrr : 229 ≤ rr) (hm : px_cm I V G R mp) (hw : px_Wf b p e) (hl : L.length ≤ 1000) : ∀ (m i f a : Nat) (s : Int64) (x : Int32), n = i + m → m < f → (∀ j, j < m → px_kt I l (px_ka l a j) (i + j)) → ∃ p', px_Wf b p' e ∧ b_srv_giveSum_7 f (px_W b I V G (va_up R 92 L) M p) (b + 5) s x (nI i) = some (px_W b I V G (va_up R 92 (L ++ px_sm l mp m a s x)) M p') := by
  intro m
  induction m with
  | zero =>
    intro i f a s x hi hf hk
    obtain ⟨f, rfl⟩ : ∃ q, f = q + 1 := ⟨f - 1, by omega⟩
    obtain ⟨p1, w1, h1⟩ := pc_l92 (b := b) (I := I) (V := V) (G := G) (R := R) (M := M) L s hw (by omega)
    obtain ⟨p2, w2, h2⟩ := pc_w92 (b := b) (I := I) (V := V) (G := G) (R := R) (M := M) (L ++ px_bl s) x w1 (by rw [List.length_append, px_bl_len]; omega)
    rw [b_srv_giveSum_7, px_gI_5_9, px_bs, h9, if_pos (nI_le (by omega) (by omega)), px_gR_5_2, px_bs, px_rcR 92 px_r92, px_bs, px_bnd h1, px_gR_5_2, px_bs, px_rcR 92 px_r92, px_bs, px_bnd h2, List.append_assoc]
    exact ⟨p2, w2, rfl⟩
  | succ m ih =>
    intro i f a s x hi hf hk
    obtain ⟨f, rfl⟩ : ∃ q, f = q + 1 := ⟨f - 1, by omega⟩
    have h0 := hk 0 (by omega)
    rw [Nat.add_zero] at h0
    have h0 : px_kt I l a i := h0
    have hpt := pc_placeTaken (b := b) (M := M) (p := p) i rr a l mp (by omega) h0 (hx.r92 hrr L) hrr (hm.r92 L) hw
    have hv := pc_valueAt (b := b) (M := M) (p := p) mp (hm.r92 L) (px_pl mp (px_key l a)) (fun i q => (px_pl_lt q).1)
    have hk' : ∀ j, j < m → px_kt I l (px_ka l (px_nx l a) j) (i + 1 + j) := fun j hj => by
      have := hk (j + 1) (by omega)
      rw [show i + (j + 1) = i + 1 + j by omega] at this
      exact this
    rw [b_srv_giveSum_7, px_gI_5_9, px_bs, h9, if_neg (nI_ge (by omega) (by omega)), px_rc_5, px_bs, px_bnd hpt]
    dsimp only
    rw [px_gR_5_0, px_bs, px_rc_6, px_bs, px_bnd hv]
    dsimp only
    unfold b_srv_giveSum_48
    rw [nI_1, px_sm]
    cases hp : px_pl mp (px_key l a) with
    | none =>
      rw [if_pos (show px_pi none = -1 from rfl)]
      dsimp only
      rw [show s + px_val mp none = s from Int64.add_zero s]
      exact ih (i + 1) f (px_nx l a) s (x + 1) (by omega) (by omega) hk'
    | some j =>
      have h40 := hm.2.1
      have hj := (px_pl_lt hp).1
      rw [if_neg (px_pi_some j (by omega))]
      dsimp only
      rw [show x + 0 = x from Int32.add_zero x]
      exact ih (i + 1) f (px_nx l a) (s + (px_k mp j).2) x (by omega) (by omega) hk'
theorem pc_list_go (n k th : Nat) (mp : px_Mp) (hn : n ≤ 8) (hth : th < 2 ^ 31) (hk : ∀ i, i < n → I 5 11 + nI i = nI (k + i) ∧ k + i < mp.length) (hm : px_cm I V G R mp) : ∀ (m i f : Nat) (L : List UInt8) (p : px_P), n = i + m → m < f → px_Wf b p e → L.length + 40 * m ≤ 1000 → ∃ p', px_Wf b p' e ∧ b_srv_giveList_67 f (px_W b I V G (va_up R 92 L) M p) (b + 5) (nI th) (nI n) (nI i) = some (px_W b I V G (va_up R 92 (L ++ (px_els mp m (k + i) ++ rc_bw (if n < th then 1 else 0)))) M p') := by
  intro m
  induction m with
  | zero =>
    intro i f L p hi hf hw hl
    obtain ⟨f, rfl⟩ : ∃ q, f = q + 1 := ⟨f - 1, by omega⟩
    rw [b_srv_giveList_67, if_pos (nI_le (by omega) (by omega)), px_gR_5_2, px_bs]
    unfold b_srv_giveList_150
    rw [px_els, List.nil_append]
    by_cases q : th ≤ n
    · obtain ⟨p1, w1, h1⟩ := pc_t92 (b := b) (I := I) (V := V) (G := G) (R := R) (M := M) L 0 hw (by omega)
      rw [if_pos rfl] at h1
      rw [if_pos (nI_le q (by omega)), px_rcR 92 px_r92, px_bs, px_bnd h1, if_neg (show ¬ n < th by omega)]
      exact ⟨p1, w1, rfl⟩
    · obtain ⟨p1, w1, h1⟩ := pc_t92 (b := b) (I := I) (V := V) (G := G) (R := R) (M := M) L 1 hw (by omega)
      rw [if_neg (by decide)] at h1
      rw [if_neg (nI_ge (by omega) hth), px_rcR 92 px_r92, px_bs, px_bnd h1, if_pos (show n < th by omega)]
      exact ⟨p1, w1, rfl⟩
  | succ m ih =>
    intro i f L p hi hf hw hl
    obtain ⟨f, rfl⟩ : ∃ q, f = q + 1 := ⟨f - 1, by omega⟩
    have h40 := hm.2.1
    obtain ⟨e1, e2⟩ := hk i (by omega)
    have hrow := hm.row (k := k + i) (by omega)
    have hkk := hm.2.2.2.2 (k + i) e2
    have hka := pc_keyAt (b := b) (M := M) (p := p) mp (hm.r92 L) (k + i) e2
    have hne : G 7 (k + i) ≠ 92 := by omega
    have hR : va_up R 92 L (G 7 (k + i)) = (px_k mp (k + i)).1 := by rw [px_va_ne _ _ _ _ hne, hkk.1]
    have hfi : px_fi (px_k mp (k + i)).1.length ≤ (px_k mp (k + i)).1.length + 3 := by unfold px_fi; omega
    obtain ⟨p1, w1, h1⟩ := pc_addBytes (b := b) (I := I) (V := V) (G := G) (R := va_up R 92 L) (M := M) 92 (G 7 (k + i)) 0 (px_k mp (k + i)).1.length px_r92 hrow.1 (Ne.symm hne) (by omega) hw (by rw [hR]; omega) (by rw [hR]; omega) (by rw [px_va_eq]; omega)
    rw [px_va_va, px_va_eq, hR, List.drop_zero, List.take_length, nI_0] at h1
    generalize hL1 : L ++ (rc_bw (nI (px_k mp (k + i)).1.length) ++ ((px_k mp (k + i)).1 ++ List.replicate (px_fi (px_k mp (k + i)).1.length - (px_k mp (k + i)).1.length) 0)) = L1 at h1
    have hl1 : L1.length ≤ L.length + 4 + (px_k mp (k + i)).1.length + 3 := by
      rw [← hL1]
      simp only [List.length_append, px_bw_len, List.length_replicate]
      omega
    have hv := pc_valueAt (b := b) (M := M) (p := p1) mp (hm.r92 L1) (some (k + i)) (fun j q => by cases q; exact e2)
    obtain ⟨p2, w2, h2⟩ := pc_l92 (b := b) (I := I) (V := V) (G := G) (R := R) (M := M) L1 (px_val mp (some (k + i))) w1 (by omega)
    obtain ⟨p3, w3, h3⟩ := ih (i + 1) f (L1 ++ px_bl (px_val mp (some (k + i)))) p2 (by omega) (by omega) w2 (by rw [List.length_append, px_bl_len]; omega)
    rw [b_srv_giveList_67, if_neg (nI_ge (by omega) (by omega)), px_gR_5_0, px_bs, px_gI_5_11, px_bs, e1, px_rc_6, px_bs, px_bnd hka]
    dsimp only
    rw [if_neg (Option.some_ne_none _), px_gR_5_2, px_bs, px_rcR _ hrow.1, px_bs, px_bnd (px_size _ hrow.1 hw), hR]
    dsimp only
    rw [px_rcR 92 px_r92, px_bs, px_bnd h1, px_gR_5_2, px_bs, px_gR_5_0, px_bs, px_gI_5_11, px_bs, e1, px_rc_6, px_bs]
    rw [show nI (k + i) = px_pi (some (k + i)) from rfl, px_bnd hv]
    dsimp only
    rw [px_rcR 92 px_r92, px_bs, px_bnd h2]
    unfold b_srv_giveList_130
    rw [nI_1, h3]
    refine ⟨p3, w3, ?_⟩
    rw [← hL1, px_els, px_kv]
    simp only [List.append_assoc, Nat.add_assoc]
    rfl
theorem px_lt1 (y : Int32) : (0 < y) = (nI 1 ≤ y) := by
  apply propext
  rw [Int32.lt_iff_toInt_lt, Int32.le_iff_toInt_le]
  show (0 : Int) < _ ↔ (1 : Int) ≤ _
  omega
theorem pc_giveList (L : List UInt8) (mp : px_Mp) (hm : px_cm I V G R mp) (hw : px_Wf b p e) (hl : L.length ≤ 100) : ∃ p', px_Wf b p' e ∧ f_srv_giveList (px_W b I V G (va_up R 92 L) M p) (b + 5) = some (px_W b I V G (va_up R 92 (L ++ px_ls mp (I 5 11) (I 5 12))) M p') := by
  have h40 := hm.2.1
  have hwt : px_wt (I 5 12) ≤ 8 := by unfold px_wt; split <;> omega
  have hth : px_th (I 5 11) mp.length ≤ 40 := by unfold px_th; split <;> omega
  -- the rest, when the number of keys there is known
  have rest : ∃ p', px_Wf b p' e ∧ b_srv_giveList_27 (px_W b I V G (va_up R 92 L) M p) (b + 5) (nI (px_th (I 5 11) mp.length)) = some (px_W b I V G (va_up R 92 (L ++ px_ls mp (I 5 11) (I 5 12))) M p') := by
    have r49 : ∃ p', px_Wf b p' e ∧ b_srv_giveList_49 (px_W b I V G (va_up R 92 L) M p) (b + 5) (nI (px_th (I 5 11) mp.length)) (nI (px_wt (I 5 12))) = some (px_W b I V G (va_up R 92 (L ++ px_ls mp (I 5 11) (I 5 12))) M p') := by
      unfold b_srv_giveList_49
      generalize hF : (5000 : Nat) = fu
      have hmin : f_mat_min (px_W b I V G (va_up R 92 L) M p) (nI (px_th (I 5 11) mp.length)) (nI (px_wt (I 5 12))) = some (nI (min (px_th (I 5 11) mp.length) (px_wt (I 5 12))), px_W b I V G (va_up R 92 L) M p) := by
        unfold f_mat_min b_mat_min_10
        by_cases q : px_wt (I 5 12) < px_th (I 5 11) mp.length
        · rw [if_pos (nI_lt q (by omega)), Nat.min_eq_right (by omega)]
        · rw [if_neg (by rw [px_lt (by omega) (by omega)]; exact q), Nat.min_eq_left (by omega)]
      generalize hnn : min (px_th (I 5 11) mp.length) (px_wt (I 5 12)) = n at hmin
      have hn8 : n ≤ 8 := by omega
      obtain ⟨p1, w1, h1⟩ := pc_w92 (b := b) (I := I) (V := V) (G := G) (R := R) (M := M) L (nI n) hw (by omega)
      have hk : ∀ i, i < n → I 5 11 + nI i = nI ((I 5 11).toNatClampNeg + i) ∧ (I 5 11).toNatClampNeg + i < mp.length := by
        intro i hi
        have hlt : i < px_th (I 5 11) mp.length := by omega
        unfold px_th at hlt
        by_cases q : I 5 11 < 0
        · rw [if_pos q] at hlt; omega
        · rw [if_neg q] at hlt
          refine ⟨?_, by omega⟩
          obtain ⟨j, hj, e⟩ := nI_of q
          rw [e, nI_clamp hj, nI_add]
      obtain ⟨p2, w2, h2⟩ := pc_list_go (b := b) (M := M) n (I 5 11).toNatClampNeg (px_th (I 5 11) mp.length) mp hn8 (by omega) hk hm n 0 fu (L ++ rc_bw (nI n)) p1 (by omega) (by omega) w1 (by rw [List.length_append, px_bw_len]; omega)
      rw [nI_0, Nat.add_zero] at h2
      rw [px_bnd hmin]
      dsimp only
      rw [px_gR_5_2, px_bs, px_rcR 92 px_r92, px_bs, px_bnd h1, h2]
      refine ⟨p2, w2, ?_⟩
      unfold px_ls
      rw [hnn]
      simp only [List.append_assoc, Nat.add_zero]
    unfold b_srv_giveList_27
    rw [px_gI_5_12, px_bs, px_bs]
    by_cases q : I 5 12 < 0
    · rw [if_neg (Int32.not_le.mpr q)]
      have : px_wt (I 5 12) = 8 := by unfold px_wt; rw [if_pos q]
      rw [this] at r49
      exact r49
    · rw [if_pos (Int32.not_lt.mp q)]
      obtain ⟨j, hj, ej⟩ := nI_of q
      have hmin : f_mat_min (px_W b I V G (va_up R 92 L) M p) (I 5 12) 8 = some (nI (px_wt (I 5 12)), px_W b I V G (va_up R 92 L) M p) := by
        unfold f_mat_min b_mat_min_10 px_wt
        rw [if_neg q, ej, nI_clamp hj, show (8 : Int32) = nI 8 from rfl]
        by_cases q8 : 8 < j
        · rw [if_pos (nI_lt q8 hj), Nat.min_eq_right (by omega)]
        · rw [if_neg (by rw [px_lt (by omega) hj]; exact q8), Nat.min_eq_left (by omega)]
      rw [px_bnd hmin]
      exact r49
  unfold f_srv_giveList
  rw [px_gI_5_11, px_bs]
  by_cases q : I 5 11 < 0
  · rw [if_neg (Int32.not_le.mpr q)]
    have : px_th (I 5 11) mp.length = 0 := by unfold px_th; rw [if_pos q]
    rw [this, nI_0] at rest
    exact rest
  · rw [if_pos (Int32.not_lt.mp q), px_gR_5_0, px_bs, px_rc_6, px_bs]
    unfold f_map_size
    rw [px_gI_6_2, px_bs, hm.1, px_bs]
    dsimp only
    rw [px_gI_5_11, px_bs]
    obtain ⟨j, hj, ej⟩ := nI_of q
    have hmax : f_mat_max (px_W b I V G (va_up R 92 L) M p) 0 (nI mp.length - I 5 11) = some (nI (px_th (I 5 11) mp.length), px_W b I V G (va_up R 92 L) M p) := by
      unfold f_mat_max b_mat_max_10 px_th
      rw [if_neg q, ej, nI_clamp hj]
      by_cases q8 : 1 + j ≤ mp.length
      · rw [if_pos (by rw [px_lt1, px_msub3 (by omega) hj 1 (by decide)]; exact q8), px_sub (by omega)]
      · rw [if_neg (by rw [px_lt1, px_msub3 (by omega) hj 1 (by decide)]; exact q8), show mp.length - j = 0 by omega, nI_0]
    rw [px_bnd hmax]
    exact rest
end PX
