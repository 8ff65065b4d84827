/-! THE CLASS, 1: its reader -/
def px_cd (I : Nat → Nat → Int32) (st : Option Nat) : Prop := match st with
  | none => I 89 2 = 0
  | some a => I 89 2 = 1 ∧ I 89 1 = nI a
def px_g2 (I I' : Nat → Nat → Int32) : Prop := ∀ o k, ¬ (o = 89 ∧ (k = 1 ∨ k = 2)) → I' o k = I o k
theorem px_g2.tr {I I1 I2 : Nat → Nat → Int32} (h1 : px_g2 I I1) (h2 : px_g2 I1 I2) : px_g2 I I2 := fun o i h => (h2 o i h).trans (h1 o i h)
theorem px_g2.rf (I : Nat → Nat → Int32) : px_g2 I I := fun _ _ _ => rfl
/-- the record that the reader reads -/
def px_cx (G : Nat → Nat → Nat) (R : Nat → List UInt8) (rr : Nat) (l : List UInt8) : Prop := G 89 0 = rr ∧ px_rw rr = true ∧ R rr = l ∧ l.length ≤ 1200
theorem px_filled_all : ∀ n : Fin 401, ((nI n.val + 4) - 1) &&& (-4) = nI (px_fi n.val) := by decide +kernel
theorem px_filled {w : rc_M} (n : Nat) (h : n ≤ 400) : f_rec_filled w (nI n) = some (nI (px_fi n), w) := by
  unfold f_rec_filled
  rw [px_filled_all ⟨n, by omega⟩]
section PX
variable {b : Nat} {I : Nat → Nat → Int32} {V : Nat → Nat → Int64} {G : Nat → Nat → Nat} {R : Nat → List UInt8} {M : Nat → Nat → Int32} {p : px_P} {e : Nat}
theorem pc_nextWord (rr : Nat) (l : List UInt8) (st : Option Nat) (hx : px_cx G R rr l) (hw : px_Wf b p e) (hs : px_cd I st) (hle : px_le' l st) : ∃ I', f_rdr_nextWord (px_W b I V G R M p) (b + 89) = some ((px_pw l st).1, px_W b I' V G R M p) ∧ px_cd I' (px_pw l st).2 ∧ px_g2 I I' := by
  obtain ⟨hG, hr, hR, hl⟩ := hx
  unfold f_rdr_nextWord b_rdr_nextWord_23
  cases st with
  | none =>
    have h2 : I 89 2 = 0 := hs
    rw [px_gI_89_2, px_bs, h2, if_pos rfl, px_pZ_89_2, if_pos (Or.inl rfl), px_bs, px_u2_id _ _ _ _ h2]
    exact ⟨I, rfl, h2, px_g2.rf I⟩
  | some a =>
    obtain ⟨h2, h1⟩ := hs
    have ha := hle a rfl
    rw [px_gI_89_2, px_bs, h2, if_neg (by decide), px_gI_89_1, px_bs, h1, px_gR_89_0, px_bs, hG, px_rcR rr hr, px_bs, px_bnd (px_size rr hr hw), hR]
    dsimp only
    have e1 : (nI a ≤ nI l.length - nI 4) = (a + 4 ≤ l.length) := px_msub3 (by omega) (by decide) a (by omega)
    unfold px_pw
    dsimp only
    by_cases h4 : a + 4 ≤ l.length
    · rw [if_pos (by rw [show (4 : Int32) = nI 4 from rfl, e1]; exact h4), if_pos h4, px_gI_89_1, px_bs, h1, px_pI_89_1, px_bs, px_gR_89_0, px_bs, hG, px_gI_89_1, px_bs, px_u2_eq, px_rcR rr hr, px_bs, px_bnd (px_wordAt rr _ hr hw), hR]
      rw [show (4 : Int32) = nI 4 from rfl, nI_add, px_sub (by omega), show a + 4 - 4 = a by omega, px_wdR l a (by omega), if_neg (by omega)]
      refine ⟨_, rfl, ⟨?_, px_u2_eq _ _ _ _⟩, fun o k q => px_u2_ne _ _ _ _ _ _ (by omega)⟩
      rw [px_u2_ne _ _ _ _ _ _ (by omega)]; exact h2
    · rw [if_neg (by rw [show (4 : Int32) = nI 4 from rfl, e1]; exact h4), if_neg h4, px_pZ_89_2, if_pos (Or.inl rfl), px_bs]
      exact ⟨_, rfl, px_u2_eq _ _ _ _, fun o k q => px_u2_ne _ _ _ _ _ _ (by omega)⟩
theorem pc_nextLong (rr : Nat) (l : List UInt8) (st : Option Nat) (hx : px_cx G R rr l) (hw : px_Wf b p e) (hs : px_cd I st) (hle : px_le' l st) : ∃ I', f_rdr_nextLong (px_W b I V G R M p) (b + 89) = some (((px_pw l st).1.toInt64 <<< ((32 : Int32).toInt64 &&& 63)) ||| ((px_pw l (px_pw l st).2).1.toInt64 &&& 4294967295), px_W b I' V G R M p) ∧ px_cd I' (px_pw l (px_pw l st).2).2 ∧ px_g2 I I' := by
  obtain ⟨I1, a1, a2, a3⟩ := pc_nextWord (V := V) (M := M) rr l st hx hw hs hle
  obtain ⟨I2, b1, b2, b3⟩ := pc_nextWord (V := V) (M := M) rr l _ hx hw a2 px_pw_le
  unfold f_rdr_nextLong
  rw [px_rc_89, px_bs, px_bnd a1]
  dsimp only
  rw [px_rc_89, px_bs, px_bnd b1]
  exact ⟨I2, rfl, b2, a3.tr b3⟩
theorem pc_nb_loop (rr : Nat) (l : List UInt8) (a n : Nat) (hx : px_cx G R rr l) (hw : px_Wf b p e) (hn : n ≤ 400) (ha : a + px_fi n ≤ l.length) : ∀ (m i f : Nat) (I : Nat → Nat → Int32), px_fi n = i + m → m < f → I 89 1 = nI a → ∃ I', b_rdr_nextBytes_49 f (px_W b I V G R M p) (b + 89) (nI n) (nI i) = some (nI n, px_W b I' V G R M p) ∧ I' 89 1 = nI (a + px_fi n) ∧ I' 89 2 = (if px_zr l m (a + i) = true then I 89 2 else 0) ∧ px_g2 I I' := by
  obtain ⟨hG, hr, hR, hl⟩ := hx
  have hfi : px_fi n ≤ 403 ∧ n ≤ px_fi n := by unfold px_fi; omega
  intro m
  induction m with
  | zero =>
    intro i f I hi hf h1
    obtain ⟨f, rfl⟩ : ∃ q, f = q + 1 := ⟨f - 1, by omega⟩
    rw [b_rdr_nextBytes_49, px_bnd (px_filled n (by omega))]
    dsimp only
    rw [if_pos (nI_le (by omega) (by omega)), px_gI_89_1, px_bs, h1, px_bnd (px_filled n (by omega))]
    dsimp only
    rw [px_pI_89_1, px_bs, nI_add]
    refine ⟨_, rfl, px_u2_eq _ _ _ _, ?_, fun o k q => px_u2_ne _ _ _ _ _ _ (by omega)⟩
    rw [px_u2_ne _ _ _ _ _ _ (by omega), px_zr, if_pos rfl]
  | succ m ih =>
    intro i f I hi hf h1
    obtain ⟨f, rfl⟩ : ∃ q, f = q + 1 := ⟨f - 1, by omega⟩
    have e0 : rc_atR l (nI (a + i)) = rc_u (l.getD (a + i) 0) := rc_atR_in (by omega) (by omega)
    rw [b_rdr_nextBytes_49, px_bnd (px_filled n (by omega))]
    unfold b_rdr_nextBytes_78
    dsimp only
    rw [if_neg (nI_ge (by omega) (by omega)), px_gR_89_0, px_bs, hG, px_gI_89_1, px_bs, h1, px_rcR rr hr, px_bs, px_bnd (px_rowAt rr _ hr hw), hR, nI_add]
    dsimp only
    rw [e0, px_zr]
    by_cases q : l.getD (a + i) 0 = 0
    · obtain ⟨I', a1, a2, a3, a4⟩ := ih (i + 1) f I (by omega) (by omega) h1
      rw [if_pos (by rw [q]; rfl), nI_1]
      refine ⟨I', a1, a2, ?_, a4⟩
      rw [a3, if_pos q, Nat.add_assoc]
    · obtain ⟨I', a1, a2, a3, a4⟩ := ih (i + 1) f (px_u2 I 89 2 0) (by omega) (by omega) (by rw [px_u2_ne _ _ _ _ _ _ (by omega)]; exact h1)
      rw [if_neg (fun z => q (px_u0 _ z)), px_pZ_89_2, if_pos (Or.inl rfl), px_bs, nI_1]
      refine ⟨I', a1, a2, ?_, fun o k z => by rw [a4 o k z, px_u2_ne _ _ _ _ _ _ (by omega)]⟩
      rw [a3, px_u2_eq, if_neg q]
      split <;> simp
theorem pc_nextBytes (most rr : Nat) (l : List UInt8) (st : Option Nat) (hmost : most ≤ 400) (hx : px_cx G R rr l) (hw : px_Wf b p e) (hs : px_cd I st) (hle : px_le' l st) : ∃ v I', f_rdr_nextBytes (px_W b I V G R M p) (b + 89) (nI most) = some (v, px_W b I' V G R M p) ∧ px_cd I' (px_pb most l st).2 ∧ px_g2 I I' ∧ (∀ a', (px_pb most l st).2 = some a' → v = (px_pb most l st).1) ∧ ∃ k, v = nI k ∧ k ≤ 400 := by
  obtain ⟨I1, a1, a2, a3⟩ := pc_nextWord (V := V) (M := M) rr l st hx hw hs hle
  obtain ⟨hG, hr, hR, hl⟩ := id hx
  unfold f_rdr_nextBytes b_rdr_nextBytes_40
  rw [px_rc_89, px_bs, px_bnd a1]
  dsimp only
  have hlp := px_pw_le (l := l) (st := st)
  unfold px_pb
  generalize px_pw l st = r at *
  obtain ⟨n, s⟩ := r
  simp only at a1 a2 hlp ⊢
  have z0 : (rc_pZ (px_W b I1 V G R M p) (some (b + 89)) 4 2 0).bind (fun w1 => some ((0 : Int32), w1)) = some (0, px_W b (px_u2 I1 89 2 0) V G R M p) := by rw [px_pZ_89_2, if_pos (Or.inl rfl), px_bs]
  have z1 : px_cd (px_u2 I1 89 2 0) none := px_u2_eq _ _ _ _
  have z2 : px_g2 I (px_u2 I1 89 2 0) := fun o k q => by rw [px_u2_ne _ _ _ _ _ _ (by omega), a3 o k q]
  cases s with
  | none =>
    have h2 : I1 89 2 = 0 := a2
    rw [px_gI_89_2, px_bs, h2, if_pos rfl, z0]
    exact ⟨0, _, rfl, z1, z2, fun _ q => (by cases q), 0, rfl, by omega⟩
  | some a =>
    obtain ⟨h2, h1⟩ := id a2
    have hal := hlp a rfl
    dsimp only
    rw [px_gI_89_2, px_bs, h2, if_neg (by decide)]
    by_cases c1 : n < 0
    · rw [if_pos c1, z0, if_pos (Or.inl c1)]
      exact ⟨0, _, rfl, z1, z2, fun _ q => (by cases q), 0, rfl, by omega⟩
    · rw [if_neg c1]
      by_cases c2 : nI most < n
      · rw [if_pos c2, z0, if_pos (Or.inr c2)]
        exact ⟨0, _, rfl, z1, z2, fun _ q => (by cases q), 0, rfl, by omega⟩
      · rw [if_neg c2, if_neg (show ¬ (n < 0 ∨ nI most < n) from fun q => q.elim c1 c2)]
        obtain ⟨k, hk, rfl⟩ := nI_of c1
        rw [px_lt (by omega) hk] at c2
        rw [nI_clamp hk]
        have hfi : px_fi k ≤ 403 ∧ k ≤ px_fi k := by unfold px_fi; omega
        have e1 : (nI (px_fi k) ≤ nI l.length - nI a) = (px_fi k + a ≤ l.length) := px_msub3 (by omega) (by omega) _ (by omega)
        rw [px_bnd (px_filled k (by omega))]
        dsimp only
        rw [px_gR_89_0, px_bs, hG, px_rcR rr hr, px_bs, px_bnd (px_size rr hr hw), hR]
        dsimp only
        rw [px_gI_89_1, px_bs, h1]
        by_cases c3 : l.length < a + px_fi k
        · rw [if_neg (by rw [e1]; omega), if_pos c3, z0]
          exact ⟨0, _, rfl, z1, z2, fun _ q => (by cases q), 0, rfl, by omega⟩
        · rw [if_pos (by rw [e1]; omega), if_neg c3]
          obtain ⟨I2, b1, b2, b3, b4⟩ := pc_nb_loop (V := V) (M := M) rr l a k hx hw (by omega) (by omega) (px_fi k - k) k 5000 I1 (by omega) (by omega) h1
          rw [b1]
          by_cases c4 : px_zr l (px_fi k - k) (a + k) = true
          · rw [if_pos c4] at b3 ⊢
            exact ⟨nI k, I2, rfl, ⟨b3.trans h2, b2⟩, a3.tr b4, fun _ _ => rfl, k, rfl, by omega⟩
          · rw [if_neg c4] at b3 ⊢
            exact ⟨nI k, I2, rfl, b3, a3.tr b4, fun _ q => (by cases q), k, rfl, by omega⟩
end PX
