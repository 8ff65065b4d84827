/-! THE REFERENCE, 13: takes; the map changed -/
/-- the reader's cells, what is taken, the bytes written, the map: what judging a record may change -/
def px_fj (M M' : Nat → Nat → Int32) : Prop := ∀ o i, ¬ (o = 336 ∨ o = 321 ∨ o = 322 ∨ (o = 316 ∧ (i = 10 ∨ (27 ≤ i ∧ i ≤ 33)))) → M' o i = M o i
theorem px_fj.tr {M M1 M2 : Nat → Nat → Int32} (h1 : px_fj M M1) (h2 : px_fj M1 M2) : px_fj M M2 := fun o i h => (h2 o i h).trans (h1 o i h)
theorem px_fj.rf (M : Nat → Nat → Int32) : px_fj M M := fun _ _ _ => rfl
theorem px_f4.fj {M M' : Nat → Nat → Int32} (h : px_f4 M M') : px_fj M M' := fun o i q => h o i (by omega)
theorem px_f2.fj {M M' : Nat → Nat → Int32} (h : px_f2 M M') : px_fj M M' := fun o i q => h o i (by omega)
theorem px_fo.fj {M M' : Nat → Nat → Int32} (h : px_fo M M') : px_fj M M' := fun o i q => h o i (by omega)
theorem px_fj.rx {M M' : Nat → Nat → Int32} {c : Nat} {l : List UInt8} (h : px_fj M M') (hx : px_rx M c l) : px_rx M' c l := by
  obtain ⟨h1, h2, h3, h4, h5⟩ := hx
  exact ⟨h1, by rw [h _ _ (by omega)]; exact h2, by rw [h _ _ (by omega)]; exact h3, fun i hi => by rw [h _ _ (by omega)]; exact h4 i hi, h5⟩
theorem px_f4.mm {M M' : Nat → Nat → Int32} {V : Nat → Nat → Int64} {mp : px_Mp} (h : px_f4 M M') (hm : px_mm M V mp) : px_mm M' V mp := by
  obtain ⟨m1, m2, m3⟩ := hm
  refine ⟨by rw [h _ _ (by omega)]; exact m1, m2, fun k hk => ?_⟩
  obtain ⟨q1, q2, q3, q4⟩ := m3 k hk
  exact ⟨q1, by rw [h _ _ (by omega)]; exact q2, fun i hi => by rw [h _ _ (by omega)]; exact q3 i hi, q4⟩
theorem px_fo.mm {M M' : Nat → Nat → Int32} {V : Nat → Nat → Int64} {mp : px_Mp} (h : px_fo M M') (hm : px_mm M V mp) : px_mm M' V mp := by
  obtain ⟨m1, m2, m3⟩ := hm
  refine ⟨by rw [h _ _ (by omega)]; exact m1, m2, fun k hk => ?_⟩
  obtain ⟨q1, q2, q3, q4⟩ := m3 k hk
  exact ⟨q1, by rw [h _ _ (by omega)]; exact q2, fun i hi => by rw [h _ _ (by omega)]; exact q3 i hi, q4⟩
theorem px_f4.ot {M M' : Nat → Nat → Int32} {l : List UInt8} (h : px_f4 M M') (ho : px_ot M l) : px_ot M' l := ⟨by rw [h _ _ (by omega)]; exact ho.1, fun i hi => by rw [h _ _ (by omega)]; exact ho.2 i hi⟩
theorem px_fo.rd {M M' : Nat → Nat → Int32} {st : Option Nat} (h : px_fo M M') (hs : px_rd M st) : px_rd M' st := by
  cases st with
  | none => show M' 316 28 = 0; rw [h _ _ (by omega)]; exact hs
  | some a => exact ⟨by rw [h _ _ (by omega)]; exact hs.1, by rw [h _ _ (by omega)]; exact hs.2⟩
section PX
variable {b : Nat} {I : Nat → Nat → Int32} {V : Nat → Nat → Int64} {G : Nat → Nat → Nat} {R : Nat → List UInt8} {M : Nat → Nat → Int32} {p : px_P} {e : Nat}
theorem pm_takes (c a : Nat) (l : List UInt8) (proc : Int32) (hx : px_rx M c l) (hs : px_rd M (some a)) (ha : a ≤ l.length) : ∃ M', f_mdl_takes (px_W b I V G R M p) (b + 316) proc = some (if px_end proc l a = some l.length then 1 else 0, px_W b I V G R M' p) ∧ (∀ o i, ¬ (o = 316 ∧ ((27 ≤ i ∧ i ≤ 30) ∨ i = 33)) → M' o i = M o i) ∧ M' 316 33 = nI a ∧ M' 316 28 = (if (px_end proc l a).isSome then 1 else 0) := by
  obtain ⟨h28, h27⟩ := id hs
  have hf0 : ∀ o i, ¬ (o = 316 ∧ i = 33) → px_u2 M 316 33 (nI a) o i = M o i := fun o i q => px_u2_ne _ _ _ _ _ _ q
  generalize hM0 : px_u2 M 316 33 (nI a) = M0 at *
  have h33 : M0 316 33 = nI a := by rw [← hM0, px_u2_eq]
  have hs0 : px_rd M0 (some a) := ⟨by rw [hf0 _ _ (by omega)]; exact h28, by rw [hf0 _ _ (by omega)]; exact h27⟩
  have hx0 : px_rx M0 c l := by
    obtain ⟨h1, h2, h3, h4, h5⟩ := hx
    exact ⟨h1, by rw [hf0 _ _ (by omega)]; exact h2, by rw [hf0 _ _ (by omega)]; exact h3, fun i hi => by rw [hf0 _ _ (by omega)]; exact h4 i hi, h5⟩
  have hle0 : px_le' l (some a) := fun a' q => by cases q; exact ha
  have fin : ∀ (M1 : Nat → Nat → Int32) (st : Option Nat), px_f4 M0 M1 → px_rd M1 st → px_le' l st → px_end proc l a = st → ∃ M', b_mdl_takes_129 (px_W b I V G R M1 p) (b + 316) = some (if px_end proc l a = some l.length then 1 else 0, px_W b I V G R M' p) ∧ (∀ o i, ¬ (o = 316 ∧ ((27 ≤ i ∧ i ≤ 30) ∨ i = 33)) → M' o i = M o i) ∧ M' 316 33 = nI a ∧ M' 316 28 = (if (px_end proc l a).isSome then 1 else 0) := by
    intro M1 st hf hr hl he
    refine ⟨M1, ?_, fun o i q => ?_, ?_, ?_⟩
    · rw [pm_takes_end c l st (hf.rx hx0) hr hl, he]
    · rw [hf o i (by omega), hf0 o i (by omega)]
    · rw [hf _ _ (by omega)]; exact h33
    · rw [he]
      cases st with
      | none => exact hr
      | some a' => exact hr.1
  unfold f_mdl_takes
  rw [px_gI_m_27, px_bs, h27, px_pI_m_33, px_bs, hM0]
  have n13 : ¬ (1 : Int32) = 3 := by decide
  obtain ⟨v1, M1, a1, a2, a3, a4⟩ := pm_nextBytes (b := b) (I := I) (V := V) (G := G) (R := R) (p := p) (M := M0) 16 c l (some a) (by omega) hx0 hs0 hle0
  have a1' : f_mdl_nextBytes (px_W b I V G R M0 p) (b + 316) 16 = some (v1, px_W b I V G R M1 p) := a1
  have T51 : ∀ M2, proc ≠ 4 → proc ≠ 5 → b_mdl_takes_51 (px_W b I V G R M2 p) (b + 316) proc = b_mdl_takes_129 (px_W b I V G R M2 p) (b + 316) := by
    intro M2 q1 q2
    unfold b_mdl_takes_51 b_mdl_takes_114
    rw [if_neg q1, if_neg q2]
  by_cases c1 : proc = 1 ∨ proc = 3
  · obtain ⟨M2, b1, b2, b3⟩ := pm_nextLong (b := b) (I := I) (V := V) (G := G) (R := R) (p := p) (M := M1) c l _ (a3.rx hx0) a2 px_pb_le
    have e1 : (if proc = 1 then b_mdl_takes_29 (px_W b I V G R M0 p) (b + 316) proc else if proc = 2 then b_mdl_takes_29 (px_W b I V G R M0 p) (b + 316) proc else if proc = 3 then b_mdl_takes_29 (px_W b I V G R M0 p) (b + 316) proc else if proc = 6 then b_mdl_takes_29 (px_W b I V G R M0 p) (b + 316) proc else b_mdl_takes_36 (px_W b I V G R M0 p) (b + 316) proc) = b_mdl_takes_129 (px_W b I V G R M2 p) (b + 316) := by
      have e2 : b_mdl_takes_29 (px_W b I V G R M0 p) (b + 316) proc = b_mdl_takes_129 (px_W b I V G R M2 p) (b + 316) := by
        unfold b_mdl_takes_29 b_mdl_takes_36 b_mdl_takes_46
        rw [px_rc_m, px_bs, px_bnd a1']
        simp only
        rw [px_rc_m, px_bs, px_bnd b1]
        simp only
        rcases c1 with rfl | rfl
        · rw [if_pos rfl, T51 _ (by decide) (by decide)]
        · rw [if_neg (by decide), if_pos rfl, T51 _ (by decide) (by decide)]
      rcases c1 with rfl | rfl
      · rw [if_pos rfl, e2]
      · rw [if_neg (by decide), if_neg (by decide), if_pos rfl, e2]
    rw [e1]
    exact fin M2 _ (a3.tr b3.f4) b2 px_pw_le (by unfold px_end; rw [if_pos c1])
  · by_cases c2 : proc = 2 ∨ proc = 6
    · have e1 : (if proc = 1 then b_mdl_takes_29 (px_W b I V G R M0 p) (b + 316) proc else if proc = 2 then b_mdl_takes_29 (px_W b I V G R M0 p) (b + 316) proc else if proc = 3 then b_mdl_takes_29 (px_W b I V G R M0 p) (b + 316) proc else if proc = 6 then b_mdl_takes_29 (px_W b I V G R M0 p) (b + 316) proc else b_mdl_takes_36 (px_W b I V G R M0 p) (b + 316) proc) = b_mdl_takes_129 (px_W b I V G R M1 p) (b + 316) := by
        have e2 : b_mdl_takes_29 (px_W b I V G R M0 p) (b + 316) proc = b_mdl_takes_129 (px_W b I V G R M1 p) (b + 316) := by
          unfold b_mdl_takes_29 b_mdl_takes_36
          rw [px_rc_m, px_bs, px_bnd a1']
          simp only
          rcases c2 with rfl | rfl
          · rw [if_neg (by decide), if_neg (by decide), T51 _ (by decide) (by decide)]
          · rw [if_neg (by decide), if_neg (by decide), T51 _ (by decide) (by decide)]
        rcases c2 with rfl | rfl
        · rw [if_neg (by decide), if_pos rfl, e2]
        · rw [if_neg (by decide), if_neg (by decide), if_neg (by decide), if_pos rfl, e2]
      rw [e1]
      exact fin M1 _ a3 a2 px_pb_le (by unfold px_end; rw [if_neg c1, if_pos c2])
    · have c1a : ¬ proc = 1 := fun q => c1 (Or.inl q)
      have c1b : ¬ proc = 3 := fun q => c1 (Or.inr q)
      have c2a : ¬ proc = 2 := fun q => c2 (Or.inl q)
      have c2b : ¬ proc = 6 := fun q => c2 (Or.inr q)
      rw [if_neg c1a, if_neg c2a, if_neg c1b, if_neg c2b]
      unfold b_mdl_takes_36
      rw [if_neg c1a, if_neg c1b]
      obtain ⟨M2, b1, b2, b3⟩ := pm_nextWord (b := b) (I := I) (V := V) (G := G) (R := R) (p := p) (M := M0) c l (some a) hx0 hs0 hle0
      by_cases c4 : proc = 4
      · subst c4
        have hend : px_end 4 l a = (match px_pw l (some a) with | (_, none) => none | (n, some a') => if n < 0 ∨ 8 < n then none else px_pbs l n.toNatClampNeg (some a')) := by
          unfold px_end
          rw [if_neg c1, if_neg c2, if_pos rfl]
          rfl
        have hlp := px_pw_le (l := l) (st := some a)
        unfold b_mdl_takes_51
        rw [if_pos rfl, px_rc_m, px_bs, px_bnd b1]
        simp only
        generalize px_pw l (some a) = r at *
        obtain ⟨n, s⟩ := r
        simp only at b1 b2 hlp hend ⊢
        have T114 : ∀ M2, b_mdl_takes_114 (px_W b I V G R M2 p) (b + 316) 4 = b_mdl_takes_129 (px_W b I V G R M2 p) (b + 316) := by
          intro M2
          unfold b_mdl_takes_114
          rw [if_neg (by decide)]
        have bad : ∀ x, px_end 4 l a = none → ∃ M', b_mdl_takes_83 (px_W b I V G R M2 p) (b + 316) 4 x (some (b + 316)) = some (if px_end 4 l a = some l.length then 1 else 0, px_W b I V G R M' p) ∧ (∀ o i, ¬ (o = 316 ∧ ((27 ≤ i ∧ i ≤ 30) ∨ i = 33)) → M' o i = M o i) ∧ M' 316 33 = nI a ∧ M' 316 28 = (if (px_end 4 l a).isSome then 1 else 0) := by
          intro x he
          have h0 : ∀ f, b_mdl_takes_89 (f + 1) (px_W b I V G R (px_u2 M2 316 28 0) p) (b + 316) 4 x 0 = b_mdl_takes_114 (px_W b I V G R (px_u2 M2 316 28 0) p) (b + 316) 4 := by
            intro f
            rw [b_mdl_takes_89]
            simp (disch := omega) only [↓reduceIte, ↓px_bs, ↓px_mB, px_10, px_modG, px_mul, nI_add, px_u2_ne, px_u2_eq, nI_1, nI_clamp, px_lt0, px_nle, or_self, false_or, or_false, true_or, or_true, rc_b2, px_sxl, px_low_sx, px_low_u, px_nar0, px_nar1, px_z01, if_true, if_false]
          have h1 : b_mdl_takes_83 (px_W b I V G R M2 p) (b + 316) 4 x (some (b + 316)) = b_mdl_takes_129 (px_W b I V G R (px_u2 M2 316 28 0) p) (b + 316) := by
            unfold b_mdl_takes_83 b_mdl_takes_84
            rw [px_pZ_m_28, if_pos (Or.inl rfl), px_bs, show (5000 : Nat) = 4999 + 1 from rfl, h0, T114]
          rw [h1]
          refine fin _ none (fun o i q => ?_) (px_u2_eq _ _ _ _) (fun _ q => by cases q) he
          rw [px_u2_ne _ _ _ _ _ _ (by omega), b3.f4 o i q]
        cases s with
        | none =>
          have h28' : M2 316 28 = 0 := b2
          rw [px_gI_m_28, px_bs, h28', if_pos rfl]
          exact bad n hend
        | some a' =>
          obtain ⟨h28', h27'⟩ := id b2
          rw [px_gI_m_28, px_bs, h28', if_neg (by decide)]
          dsimp only at hend
          by_cases d1 : n < 0
          · rw [if_pos d1]
            exact bad n (by rw [hend, if_pos (Or.inl d1)])
          · rw [if_neg d1]
            by_cases d2 : 8 < n
            · rw [if_pos d2]
              exact bad n (by rw [hend, if_pos (Or.inr d2)])
            · rw [if_neg d2]
              rw [if_neg (fun q => q.elim d1 d2)] at hend
              obtain ⟨k, hk, rfl⟩ := nI_of d1
              rw [show (8 : Int32) = nI 8 from rfl, px_lt (by decide) hk] at d2
              rw [nI_clamp hk] at hend
              obtain ⟨M3, e1, e2, e3, e4⟩ := pm_takes_loop (b := b) (I := I) (V := V) (G := G) (R := R) (p := p) c l k (by omega) k 0 5000 (some a') M2 (by omega) (by omega) (b3.f4.rx hx0) b2 hlp
              have h1 : b_mdl_takes_84 (px_W b I V G R M2 p) (b + 316) 4 (nI k) (some (b + 316)) 1 = b_mdl_takes_129 (px_W b I V G R M3 p) (b + 316) := by
                unfold b_mdl_takes_84
                rw [px_pZ_m_28, if_pos (Or.inr rfl), px_bs, px_u2_id _ _ _ _ h28', ← T114, ← e1]
                rfl
              rw [h1]
              exact fin M3 _ (b3.f4.tr e3) e2 e4 hend
      · unfold b_mdl_takes_51 b_mdl_takes_114
        rw [if_neg c4]
        by_cases c5 : proc = 5
        · obtain ⟨M3, e1, e2, e3⟩ := pm_nextWord (b := b) (I := I) (V := V) (G := G) (R := R) (p := p) (M := M2) c l _ (b3.f4.rx hx0) b2 px_pw_le
          rw [if_pos c5, px_rc_m, px_bs, px_bnd b1]
          simp only
          rw [px_rc_m, px_bs, px_bnd e1]
          exact fin M3 _ (b3.tr e3).f4 e2 px_pw_le (by unfold px_end; rw [if_neg c1, if_neg c2, if_neg c4, if_pos c5])
        · rw [if_neg c5]
          exact fin M0 _ (fun _ _ _ => rfl) hs0 hle0 (by unfold px_end; rw [if_neg c1, if_neg c2, if_neg c4, if_neg c5])
end PX
