/-! THE REFERENCE, 21: push refused; its start -/
section PX
variable {b : Nat} {I : Nat → Nat → Int32} {V : Nat → Nat → Int64} {G : Nat → Nat → Nat} {R : Nat → List UInt8} {M : Nat → Nat → Int32} {p : px_P} {e : Nat}
theorem pm_push_bad (n : Nat) (s : Nat → List UInt8) (x1 x2 x3 x4 : Int32) (hn : n < 2 ^ 30) (h5 : M 316 5 = nI n) (hs : px_sl M s) (hb : x1 < 0 ∨ 4 ≤ x1 ∨ ¬ px_is n x2 ∨ x4 < 0 ∨ x3 < 0 ∨ ∃ j f0 k, x2 = nI j ∧ j < 2 ^ 31 ∧ x3 = nI f0 ∧ f0 < 2 ^ 31 ∧ x4 = nI k ∧ k < 2 ^ 31 ∧ (s (j % 64)).length < f0 + k) : f_mdl_push (px_W b I V G R M p) (b + 316) x1 x2 x3 x4 = some (0, px_W b I V G R (px_u2 M 316 0 1) p) := by
  have T : b_mdl_push_59 (px_W b I V G R M p) (b + 316) x1 x2 x3 x4 = some (0, px_W b I V G R (px_u2 M 316 0 1) p) := by
    unfold b_mdl_push_59 b_mdl_push_60 b_mdl_push_73
    generalize hF : (5000 : Nat) = fu
    rw [if_pos rfl, px_pI_m_0, px_bs, px_gI_m_0, px_bs, px_u2_eq, if_neg (by decide)]
  unfold f_mdl_push
  rw [T]
  by_cases c1 : x1 < 0
  · rw [if_pos c1]
  · rw [if_neg c1]
    by_cases c2 : 4 ≤ x1
    · rw [if_pos c2]
    · rw [if_neg c2, px_rc_m, px_bs]
      obtain ⟨a1, a2⟩ := pm_isSlot (b := b) (I := I) (V := V) (G := G) (R := R) (p := p) (M := M) n x2 hn h5
      by_cases c3 : px_is n x2
      · rw [px_bnd (a1 c3)]
        dsimp only
        rw [if_neg (by decide), T]
        by_cases c4 : x4 < 0
        · rw [if_pos c4]
        · rw [if_neg c4]
          by_cases c5 : x3 < 0
          · rw [if_pos c5]
          · rw [if_neg c5]
            obtain ⟨j, f0, k, rfl, hj, rfl, hf, rfl, hk, hlt⟩ := ((((hb.resolve_left c1).resolve_left c2).resolve_left (fun q => q c3)).resolve_left c4).resolve_left c5
            obtain ⟨s1, s2, s3⟩ := hs (j % 64) (by omega)
            rw [px_gR_m_4, px_bs, show (64 : Int32) = nI 64 from rfl, px_modG hj (by decide), px_aI_m_4 _ (by omega), px_bs, s2]
            by_cases c6 : (s (j % 64)).length < f0
            · rw [if_pos (nI_lt c6 (by omega))]
            · have e2 : (nI (s (j % 64)).length - nI f0 < nI k) = ((s (j % 64)).length < k + f0) := px_msub4 (by omega) (by omega) k hk
              rw [if_neg (nI_nlt (by omega) (by omega)), px_bs, px_aI_m_4 _ (by omega), px_bs, s2, if_pos (by rw [e2]; omega)]
      · rw [px_bnd (a2 c3)]
        dsimp only
        rw [if_pos rfl, T]
end PX
