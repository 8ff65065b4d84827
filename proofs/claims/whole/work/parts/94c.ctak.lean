/-! THE CLASS, 6: what a call takes -/
def px_kt (I : Nat → Nat → Int32) (l : List UInt8) (a i : Nat) : Prop := ∃ n, n ≤ 16 ∧ rc_wd l a = nI n ∧ a + 4 + n ≤ l.length ∧ I 94 i = nI (a + 4) ∧ I 95 i = nI n ∧ px_key l a = (l.drop (a + 4)).take n
def px_ka (l : List UInt8) : Nat → Nat → Nat
  | a, 0 => a
  | a, j + 1 => px_ka l (px_nx l a) j
def px_tkn (I : Nat → Nat → Int32) (V : Nat → Nat → Int64) (proc : Int32) (l : List UInt8) (a : Nat) : Prop := ((proc = 1 ∨ proc = 2 ∨ proc = 3 ∨ proc = 6) → px_kt I l a 0) ∧ ((proc = 1 ∨ proc = 3) → V 5 10 = px_lng l (px_nx l a)) ∧ (proc = 4 → ∃ n, n ≤ 8 ∧ rc_wd l a = nI n ∧ I 5 9 = nI n ∧ ∀ j, j < n → px_kt I l (px_ka l (a + 4) j) j) ∧ (proc = 5 → I 5 11 = rc_wd l a ∧ I 5 12 = rc_wd l (a + 4))
theorem px_kt.same {I I' : Nat → Nat → Int32} {l : List UInt8} {a i : Nat} (h : px_kt I l a i) (h1 : I' 94 i = I 94 i) (h2 : I' 95 i = I 95 i) : px_kt I' l a i := by
  obtain ⟨n, a1, a2, a3, a4, a5, a6⟩ := h
  exact ⟨n, a1, a2, a3, h1.trans a4, h2.trans a5, a6⟩
theorem px_cd.same {I I' : Nat → Nat → Int32} {st : Option Nat} (h : px_cd I st) (h1 : I' 89 1 = I 89 1) (h2 : I' 89 2 = I 89 2) : px_cd I' st := by
  cases st with
  | none => exact h2.trans h
  | some a => exact ⟨h2.trans h.1, h1.trans h.2⟩
section PX
variable {b : Nat} {I : Nat → Nat → Int32} {V : Nat → Nat → Int64} {G : Nat → Nat → Nat} {R : Nat → List UInt8} {M : Nat → Nat → Int32} {p : px_P} {e : Nat}
theorem pc_takeKey (i rr : Nat) (l : List UInt8) (st : Option Nat) (hi : i < 8) (h9 : I 5 9 = nI i) (hx : px_cx G R rr l) (hw : px_Wf b p e) (hs : px_cd I st) (hle : px_le' l st) : ∃ I', f_srv_takeKey (px_W b I V G R M p) (b + 5) = some (px_W b I' V G R M p) ∧ px_cd I' (px_pb 16 l st).2 ∧ I' 5 9 = nI (i + 1) ∧ (∀ o k, ¬ (o = 89 ∨ (o = 5 ∧ k = 9) ∨ ((o = 94 ∨ o = 95) ∧ k = i)) → I' o k = I o k) ∧ (∀ a a', st = some a → (px_pb 16 l st).2 = some a' → px_kt I' l a i) := by
  obtain ⟨v, N, n1, n2, n3, n4, kk, n5, n6⟩ := pc_nextBytes (b := b) (I := I) (V := V) (M := M) (p := p) 16 rr l st (by omega) hx hw hs hle
  have n1' : f_rdr_nextBytes (px_W b I V G R M p) (b + 89) 16 = some (v, px_W b N V G R M p) := n1
  have h9' : N 5 9 = nI i := by rw [n3 5 9 (by omega), h9]
  unfold f_srv_takeKey
  rw [px_gI_5_9, px_bs, h9, if_pos (by rw [show (8 : Int32) = nI 8 from rfl]; exact nI_lt hi (by decide)), px_gR_5_1, px_bs, px_rc_89, px_bs, px_bnd n1']
  dsimp only
  have hst : f_rdr_startOfBytes (px_W b (px_u2 N 95 i v) V G R M p) (b + 89) v = some (N 89 1 - nI (px_fi kk), px_W b (px_u2 N 95 i v) V G R M p) := by
    unfold f_rdr_startOfBytes
    rw [px_gI_89_1, px_bs, px_u2_ne _ _ _ _ _ _ (by omega), n5, px_bnd (px_filled kk n6)]
  rw [px_gR_5_7, px_bs, px_gI_5_9, px_bs, h9', px_sI_95 i _ hi, px_bs, px_gR_5_6, px_bs, px_gI_5_9, px_bs, px_u2_ne _ _ _ _ _ _ (by omega), h9', px_gR_5_1, px_bs, px_rc_89, px_bs, px_bnd hst]
  dsimp only
  rw [px_sI_94 i _ hi, px_bs, px_gI_5_9, px_bs, px_u2_ne _ _ _ _ _ _ (by omega), px_u2_ne _ _ _ _ _ _ (by omega), h9', px_pI_5_9, px_bs, nI_1]
  refine ⟨_, rfl, n2.same ?_ ?_, px_u2_eq _ _ _ _, fun o k q => ?_, fun a a' ha ha' => ?_⟩
  · rw [px_u2_ne _ _ _ _ _ _ (by omega), px_u2_ne _ _ _ _ _ _ (by omega), px_u2_ne _ _ _ _ _ _ (by omega)]
  · rw [px_u2_ne _ _ _ _ _ _ (by omega), px_u2_ne _ _ _ _ _ _ (by omega), px_u2_ne _ _ _ _ _ _ (by omega)]
  · rw [px_u2_ne _ _ _ _ _ _ (by omega), px_u2_ne _ _ _ _ _ _ (by omega), px_u2_ne _ _ _ _ _ _ (by omega), n3 o k (by omega)]
  · have hv := n4 a' ha'
    subst ha
    obtain ⟨k, c1, c2, c3, c4, c5, c6, c7, c8⟩ := px_pb_some (by decide) ha'
    have hfi : k ≤ px_fi k := by unfold px_fi; omega
    have hkk : kk = k := by
      have := n5.symm.trans (hv.trans c3)
      rwa [px_eq (by omega) (by omega)] at this
    subst hkk
    rw [ha'] at n2
    refine ⟨kk, c1, c2, by omega, ?_, ?_, c8⟩
    · rw [px_u2_ne _ _ _ _ _ _ (by omega), px_u2_eq, n2.2, px_sub (by omega), c4, show a + 4 + px_fi kk - px_fi kk = a + 4 by omega]
    · rw [px_u2_ne _ _ _ _ _ _ (by omega), px_u2_ne _ _ _ _ _ _ (by omega), px_u2_eq, n5]
theorem pc_tks_go (n rr : Nat) (l : List UInt8) (hn : n ≤ 8) (hx : px_cx G R rr l) (hw : px_Wf b p e) : ∀ (m i f : Nat) (I : Nat → Nat → Int32) (st : Option Nat), n = i + m → m < f → I 5 9 = nI i → px_cd I st → px_le' l st → ∃ I', b_srv_takeKeys_28 f (px_W b I V G R M p) (b + 5) (nI n) (nI i) = some (px_W b I' V G R M p) ∧ px_cd I' (px_pbs l m st) ∧ I' 5 9 = nI n ∧ (∀ o k, ¬ (o = 89 ∨ (o = 5 ∧ k = 9) ∨ ((o = 94 ∨ o = 95) ∧ i ≤ k)) → I' o k = I o k) ∧ px_le' l (px_pbs l m st) ∧ (∀ a a', st = some a → px_pbs l m st = some a' → ∀ j, j < m → px_kt I' l (px_ka l a j) (i + j)) := by
  intro m
  induction m with
  | zero =>
    intro i f I st hi hf h9 hs hle
    obtain ⟨f, rfl⟩ : ∃ q, f = q + 1 := ⟨f - 1, by omega⟩
    rw [b_srv_takeKeys_28, if_pos (nI_le (by omega) (by omega))]
    exact ⟨I, rfl, hs, by rw [h9, hi, Nat.add_zero], fun _ _ _ => rfl, hle, fun _ _ _ _ j hj => absurd hj (by omega)⟩
  | succ m ih =>
    intro i f I st hi hf h9 hs hle
    obtain ⟨f, rfl⟩ : ∃ q, f = q + 1 := ⟨f - 1, by omega⟩
    obtain ⟨I1, a1, a2, a3, a4, a5⟩ := pc_takeKey (b := b) (V := V) (M := M) (p := p) i rr l st (by omega) h9 hx hw hs hle
    obtain ⟨I2, b1, b2, b3, b4, b5, b6⟩ := ih (i + 1) f I1 (px_pb 16 l st).2 (by omega) (by omega) a3 a2 px_pb_le
    rw [b_srv_takeKeys_28, if_neg (nI_ge (by omega) (by omega)), px_rc_5, px_bs, px_bnd a1, nI_1, b1]
    refine ⟨I2, rfl, b2, b3, fun o k q => by rw [b4 o k (by omega), a4 o k (by omega)], b5, fun a a' ha ha' j hj => ?_⟩
    have ha2 : px_pbs l m (px_pb 16 l st).2 = some a' := ha'
    cases hq : (px_pb 16 l st).2 with
    | none =>
      exfalso
      rw [hq] at ha2
      have : ∀ m, px_pbs l m none = none := by
        intro m
        induction m with
        | zero => rfl
        | succ m ih => rw [px_pbs]; exact ih
      rw [this] at ha2
      cases ha2
    | some a'' =>
      have h1 := a5 a a'' ha hq
      cases j with
      | zero => exact h1.same (b4 _ _ (by omega)) (b4 _ _ (by omega))
      | succ j =>
        have h2 := b6 a'' a' hq ha2 j (by omega)
        rw [ha] at hq
        obtain ⟨k, c1, c2, c3, c4, c5, c6, c7, c8⟩ := px_pb_some (by decide) hq
        rw [c5] at h2
        rw [show i + (j + 1) = i + 1 + j by omega]
        exact h2
theorem pc_tk_end (rr : Nat) (l : List UInt8) (st : Option Nat) (hx : px_cx G R rr l) (hw : px_Wf b p e) (hs : px_cd I st) (hle : px_le' l st) : b_srv_isTaken_105 (px_W b I V G R M p) (b + 5) = some (px_z (decide (st = some l.length)), px_W b I V G R M p) := by
  obtain ⟨hG, hr, hR, hl⟩ := hx
  unfold b_srv_isTaken_105 b_srv_isTaken_129 b_srv_isTaken_130 f_rdr_isGood f_rdr_isAtEnd b_rdr_isAtEnd_19 rc_z1
  rw [px_gR_5_1, px_bs, px_rc_89, px_bs, px_gI_89_2, px_bs]
  cases st with
  | none =>
    have h2 : I 89 2 = 0 := hs
    rw [h2]
    rfl
  | some a =>
    have ha := hle a rfl
    rw [hs.1, if_pos (Or.inr rfl), px_bs]
    dsimp only
    rw [if_neg (by decide), px_gR_5_1, px_bs, px_rc_89, px_bs, px_gI_89_1, px_bs, px_gR_89_0, px_bs, hG, px_rcR rr hr, px_bs, px_bnd (px_size rr hr hw), hs.2, hR]
    dsimp only
    by_cases q : a = l.length
    · rw [if_pos (by rw [q]), if_pos (Or.inr rfl), px_bs]
      dsimp only
      rw [if_neg (by decide), if_pos (Or.inr rfl), decide_eq_true (by rw [q])]
      rfl
    · rw [if_neg (by rw [px_eq (by omega) (by omega)]; exact q), if_pos (Or.inl rfl), px_bs]
      dsimp only
      rw [if_pos rfl, if_pos (Or.inl rfl), decide_eq_false (by intro z; cases z; exact q rfl)]
      rfl
theorem pc_isTaken (rr a : Nat) (l : List UInt8) (proc : Int32) (hx : px_cx G R rr l) (hw : px_Wf b p e) (hs : px_cd I (some a)) (hle : px_le' l (some a)) (h8 : I 5 8 = proc) : ∃ I' V', f_srv_isTaken (px_W b I V G R M p) (b + 5) = some (px_z (decide (px_end proc l a = some l.length)), px_W b I' V' G R M p) ∧ px_g3 I I' ∧ I' 5 8 = proc ∧ (∀ o, o ≠ 5 → V' o = V o) ∧ (px_end proc l a = some l.length → px_tkn I' V' proc l a) := by
  have g0 : px_g3 I (px_u2 I 5 9 0) := fun o k q => px_u2_ne _ _ _ _ _ _ (by omega)
  have s0 : px_cd (px_u2 I 5 9 0) (some a) := hs.same (px_u2_ne _ _ _ _ _ _ (by omega)) (px_u2_ne _ _ _ _ _ _ (by omega))
  have e8 : px_u2 I 5 9 0 5 8 = proc := by rw [px_u2_ne _ _ _ _ _ _ (by omega), h8]
  have e9 : px_u2 I 5 9 0 5 9 = nI 0 := px_u2_eq _ _ _ _
  unfold f_srv_isTaken
  rw [px_pI_5_9, px_bs, px_gI_5_8, px_bs, e8]
  generalize px_u2 I 5 9 0 = I0 at *
  obtain ⟨I1, a1, a2, a3, a4, a5⟩ := pc_takeKey (b := b) (I := I0) (V := V) (M := M) (p := p) 0 rr l (some a) (by omega) e9 hx hw s0 hle
  have A8 : I1 5 8 = proc := by rw [a4 5 8 (by omega), e8]
  have A3 : px_g3 I I1 := g0.tr (fun o k q => a4 o k (by omega))
  -- a key and a long one
  have k48 : (proc = 1 ∨ proc = 3) → ∃ I' V', b_srv_isTaken_48 (px_W b I0 V G R M p) (b + 5) = some (px_z (decide (px_end proc l a = some l.length)), px_W b I' V' G R M p) ∧ px_g3 I I' ∧ I' 5 8 = proc ∧ (∀ o, o ≠ 5 → V' o = V o) ∧ (px_end proc l a = some l.length → px_tkn I' V' proc l a) := by
    intro hp
    obtain ⟨I2, b1, b2, b3⟩ := pc_nextLong (b := b) (I := I1) (V := V) (M := M) (p := p) rr l _ hx hw a2 px_pb_le
    have he : px_end proc l a = (px_pw l (px_pw l (px_pb 16 l (some a)).2).2).2 := by unfold px_end; rw [if_pos hp]
    unfold b_srv_isTaken_48
    rw [px_rc_5, px_bs, px_bnd a1, px_gR_5_1, px_bs, px_rc_89, px_bs, px_bnd b1]
    dsimp only
    rw [px_pL_5, px_bs, pc_tk_end rr l _ hx hw b2 px_pw_le, he]
    refine ⟨_, _, rfl, A3.tr b3.g3, by rw [b3 5 8 (by omega), A8], fun o q => px_u2_sl _ _ _ _ _ q, fun q => ?_⟩
    obtain ⟨a', ha'⟩ : ∃ a', (px_pb 16 l (some a)).2 = some a' := by
      cases z : (px_pb 16 l (some a)).2 with
      | none => rw [z] at q; cases q
      | some a' => exact ⟨a', rfl⟩
    obtain ⟨k, c1, c2, c3, c4, c5, c6, c7, c8⟩ := px_pb_some (by decide) ha'
    refine ⟨fun _ => (a5 a a' rfl ha').same (b3 _ _ (by omega)) (b3 _ _ (by omega)), fun _ => ?_, fun z => by rcases hp with h | h <;> rw [h] at z <;> exact absurd z (by decide), fun z => by rcases hp with h | h <;> rw [h] at z <;> exact absurd z (by decide)⟩
    rw [px_u2_eq, ha']
    rw [ha'] at q
    rw [(px_lng_of q).1, c5]
  have k66 : (proc = 2 ∨ proc = 6) → ∃ I' V', b_srv_isTaken_66 (px_W b I0 V G R M p) (b + 5) = some (px_z (decide (px_end proc l a = some l.length)), px_W b I' V' G R M p) ∧ px_g3 I I' ∧ I' 5 8 = proc ∧ (∀ o, o ≠ 5 → V' o = V o) ∧ (px_end proc l a = some l.length → px_tkn I' V' proc l a) := by
    intro hp
    have he : px_end proc l a = (px_pb 16 l (some a)).2 := by unfold px_end; rw [if_neg (by rcases hp with h | h <;> rw [h] <;> decide), if_pos hp]
    unfold b_srv_isTaken_66
    rw [px_rc_5, px_bs, px_bnd a1, pc_tk_end rr l _ hx hw a2 px_pb_le, he]
    refine ⟨_, _, rfl, A3, A8, fun o q => rfl, fun q => ⟨fun _ => a5 a _ rfl q, fun z => by rcases hp with h | h <;> rw [h] at z <;> exact absurd z (by decide), fun z => by rcases hp with h | h <;> rw [h] at z <;> exact absurd z (by decide), fun z => by rcases hp with h | h <;> rw [h] at z <;> exact absurd z (by decide)⟩⟩
  by_cases p1 : proc = 1
  · rw [if_pos p1]; exact k48 (Or.inl p1)
  · rw [if_neg p1]
    by_cases p2 : proc = 2
    · rw [if_pos p2]; exact k66 (Or.inl p2)
    · rw [if_neg p2]
      by_cases p3 : proc = 3
      · rw [if_pos p3]; exact k48 (Or.inr p3)
      · rw [if_neg p3]
        by_cases p4 : proc = 4
        · rw [if_pos p4, px_rc_5, px_bs]
          have he : px_end proc l a = (match px_pw l (some a) with
    | (_, none) => none
    | (n, some a') => if n < 0 ∨ 8 < n then none else px_pbs l n.toNatClampNeg (some a')) := by
            unfold px_end
            rw [if_neg (by rw [p4]; decide), if_neg (by rw [p4]; decide), if_pos p4]
            rfl
          obtain ⟨I2, b1, b2, b3⟩ := pc_nextWord (b := b) (I := I0) (V := V) (M := M) (p := p) rr l _ hx hw s0 hle
          have hpw := px_pw_le (l := l) (st := some a)
          have hps := @px_pw_some l a
          unfold f_srv_takeKeys
          generalize hF : (5000 : Nat) = fu
          rw [px_gR_5_1, px_bs, px_rc_89, px_bs, px_bnd b1]
          dsimp only
          generalize hg : px_pw l (some a) = r at *
          obtain ⟨n, s⟩ := r
          dsimp only at b1 b2 he hpw hps ⊢
          have h9' : I2 5 9 = nI 0 := by rw [b3 5 9 (by omega), e9]
          have G2 : px_g3 I I2 := g0.tr b3.g3
          have B8 : I2 5 8 = proc := by rw [b3 5 8 (by omega), e8]
          have fail : px_end proc l a = none → ∃ I' V', ((b_srv_takeKeys_18 (px_W b I2 V G R M p) (b + 5)).bind fun w11 => b_srv_isTaken_105 w11 (b + 5)) = some (px_z (decide (px_end proc l a = some l.length)), px_W b I' V' G R M p) ∧ px_g3 I I' ∧ I' 5 8 = proc ∧ (∀ o, o ≠ 5 → V' o = V o) ∧ (px_end proc l a = some l.length → px_tkn I' V' proc l a) := by
            intro q
            unfold b_srv_takeKeys_18 f_rdr_fail
            rw [px_gR_5_1, px_bs, px_rc_89, px_bs, px_pZ_89_2, if_pos (Or.inl rfl), px_bs, px_bs, px_bs, q]
            have z1 : px_cd (px_u2 I2 89 2 0) none := px_u2_eq _ _ _ _
            rw [pc_tk_end rr l none hx hw z1 (fun _ z => by cases z)]
            exact ⟨_, _, rfl, G2.tr (fun o k z => px_u2_ne _ _ _ _ _ _ (by omega)), by rw [px_u2_ne _ _ _ _ _ _ (by omega), B8], fun _ _ => rfl, fun z => by cases z⟩
          by_cases n0 : n < 0
          · rw [if_pos n0]
            refine fail ?_
            rw [he]
            cases s with
            | none => rfl
            | some a' => dsimp only; rw [if_pos (Or.inl n0)]
          · rw [if_neg n0]
            by_cases n8 : n ≤ 8
            · rw [if_pos n8]
              obtain ⟨k, hk, rfl⟩ := nI_of n0
              have hk8 : k ≤ 8 := by
                rw [show (8 : Int32) = nI 8 from rfl, px_le hk (by decide)] at n8
                exact n8
              obtain ⟨I3, d1, d2, d3, d4, d5, d6⟩ := pc_tks_go (b := b) (V := V) (M := M) (p := p) k rr l hk8 hx hw k 0 fu I2 s (by omega) (by omega) h9' b2 hpw
              rw [nI_0] at d1
              rw [px_bnd d1, pc_tk_end rr l _ hx hw d2 d5]
              have he2 : px_end proc l a = px_pbs l k s := by
                rw [he]
                cases s with
                | none =>
                  have : ∀ m, px_pbs l m none = none := by
                    intro m
                    induction m with
                    | zero => rfl
                    | succ m ih => rw [px_pbs]; exact ih
                  rw [this]
                | some a' =>
                  dsimp only
                  rw [if_neg (fun z => z.elim n0 (fun u => (Int32.not_lt.mpr n8) u)), nI_clamp hk]
              rw [he2]
              refine ⟨_, _, rfl, G2.tr (fun o k z => d4 o k (by omega)), by rw [d4 5 8 (by omega), B8], fun _ _ => rfl, fun z => ⟨fun u => by rw [p4] at u; exact absurd u (by decide), fun u => by rw [p4] at u; exact absurd u (by decide), fun _ => ?_, fun u => by rw [p4] at u; exact absurd u (by decide)⟩⟩
              cases s with
              | none =>
                exfalso
                have : ∀ m, px_pbs l m none = none := by
                  intro m
                  induction m with
                  | zero => rfl
                  | succ m ih => rw [px_pbs]; exact ih
                rw [this] at z
                cases z
              | some a' =>
                obtain ⟨u1, u2, u3⟩ := hps rfl
                refine ⟨k, hk8, u3.symm, d3, fun j hj => ?_⟩
                have := d6 a' _ rfl z j hj
                rw [u1, Nat.zero_add] at this
                exact this
            · rw [if_neg n8]
              refine fail ?_
              rw [he]
              cases s with
              | none => rfl
              | some a' => dsimp only; rw [if_pos (Or.inr (Int32.not_le.mp n8))]
        · rw [if_neg p4]
          by_cases p5 : proc = 5
          · rw [if_pos p5]
            have he : px_end proc l a = (px_pw l (px_pw l (some a)).2).2 := by
              unfold px_end
              rw [if_neg (by rw [p5]; decide), if_neg (by rw [p5]; decide), if_neg (by rw [p5]; decide), if_pos p5]
            obtain ⟨I2, b1, b2, b3⟩ := pc_nextWord (b := b) (I := I0) (V := V) (M := M) (p := p) rr l _ hx hw s0 hle
            have s2 : px_cd (px_u2 I2 5 11 (px_pw l (some a)).1) (px_pw l (some a)).2 := b2.same (px_u2_ne _ _ _ _ _ _ (by omega)) (px_u2_ne _ _ _ _ _ _ (by omega))
            obtain ⟨I3, c1, c2, c3⟩ := pc_nextWord (b := b) (I := px_u2 I2 5 11 (px_pw l (some a)).1) (V := V) (M := M) (p := p) rr l _ hx hw s2 px_pw_le
            rw [px_gR_5_1, px_bs, px_rc_89, px_bs, px_bnd b1]
            dsimp only
            rw [px_pI_5_11, px_bs, px_gR_5_1, px_bs, px_rc_89, px_bs, px_bnd c1]
            dsimp only
            rw [px_pI_5_12, px_bs]
            have s3 := c2.same (I' := px_u2 I3 5 12 (px_pw l (px_pw l (some a)).2).1) (px_u2_ne _ _ _ _ _ _ (by omega)) (px_u2_ne _ _ _ _ _ _ (by omega))
            rw [pc_tk_end rr l _ hx hw s3 px_pw_le, he]
            refine ⟨_, _, rfl, fun o k z => by rw [px_u2_ne _ _ _ _ _ _ (by omega), c3 o k (by omega), px_u2_ne _ _ _ _ _ _ (by omega), b3 o k (by omega), g0 o k z], by rw [px_u2_ne _ _ _ _ _ _ (by omega), c3 5 8 (by omega), px_u2_ne _ _ _ _ _ _ (by omega), b3 5 8 (by omega), e8], fun _ _ => rfl, fun z => ⟨fun u => by rw [p5] at u; exact absurd u (by decide), fun u => by rw [p5] at u; exact absurd u (by decide), fun u => by rw [p5] at u; exact absurd u (by decide), fun _ => ?_⟩⟩
            obtain ⟨a', ha'⟩ : ∃ a', (px_pw l (some a)).2 = some a' := by
              cases q : (px_pw l (some a)).2 with
              | none => rw [q] at z; cases z
              | some a' => exact ⟨a', rfl⟩
            obtain ⟨e1, e2, e3⟩ := px_pw_some ha'
            rw [ha'] at z
            obtain ⟨f1, f2, f3⟩ := px_pw_some z
            refine ⟨?_, ?_⟩
            · rw [px_u2_ne _ _ _ _ _ _ (by omega), c3 5 11 (by omega), px_u2_eq, e3]
            · rw [px_u2_eq, ha', f3, e1]
          · rw [if_neg p5]
            by_cases p6 : proc = 6
            · rw [if_pos p6]; exact k66 (Or.inr p6)
            · rw [if_neg p6]
              have he : px_end proc l a = some a := by
                unfold px_end
                rw [if_neg (fun z => z.elim p1 p3), if_neg (fun z => z.elim p2 p6), if_neg p4, if_neg p5]
              rw [pc_tk_end rr l _ hx hw s0 hle, he]
              exact ⟨_, _, rfl, g0, e8, fun _ _ => rfl, fun _ => ⟨fun z => by rcases z with z | z | z | z <;> contradiction, fun z => by rcases z with z | z <;> contradiction, fun z => absurd z p4, fun z => absurd z p5⟩⟩
end PX
