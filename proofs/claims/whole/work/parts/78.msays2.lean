/-! THE REFERENCE, 9: says -/
theorem px_bnd {α : Type} {x : Option α} {v : α} (h : x = some v) {β : Type} (k : α → Option β) : x.bind k = k v := by rw [h, px_bs]
theorem px_say_cases (l : List UInt8) : px_say l = -1 ∨ ¬ px_say l < 0 := by
  unfold px_say
  repeat' split
  all_goals first | (left; rfl) | (right; decide) | skip
  · rename_i h
    rcases h.1 with h | h | h <;> rw [h] <;> right <;> decide
  · rename_i h
    rcases h.2 with h | h <;> rw [h] <;> right <;> decide
section PX
variable {b : Nat} {I : Nat → Nat → Int32} {V : Nat → Nat → Int64} {G : Nat → Nat → Nat} {R : Nat → List UInt8} {M : Nat → Nat → Int32} {p : px_P} {e : Nat}
theorem pm_says_tail (r : List UInt8) (number : Int32) (hr : r.length ≤ 1600) (h : px_agr (M 320) 0 r) : (if nI r.length < 20 then b_mdl_says_47 (px_W b I V G R M p) else (rc_rc (px_W b I V G R M p) (some (b + 316)) 7).bind fun a11 => (f_mdl_pushedWord (px_W b I V G R M p) a11 1).bind fun p13 =>
      if p13.1 = 1 then
        (rc_rc p13.2 (some (b + 316)) 7).bind fun a16 =>
        (f_mdl_pushedWord p13.2 a16 2).bind fun p18 =>
        (rc_rc p18.2 (some (b + 316)) 7).bind fun a20 =>
        (f_mdl_pushedWord p18.2 a20 3).bind fun p22 =>
        (rc_rc p22.2 (some (b + 316)) 7).bind fun a24 =>
        (f_mdl_pushedWord p22.2 a24 4).bind fun p26 =>
        if p18.1 = 0 then
          if nI r.length < 24 then
            b_mdl_says_185 p26.2 (b + 316) number (nI r.length) ((-1)) p18.1 p22.1 p26.1
          else
            if p22.1 = 0 then
              if p26.1 = 0 then
                (rc_rc p26.2 (some (b + 316)) 7).bind fun a32 =>
                (f_mdl_pushedWord p26.2 a32 5).bind fun p34 =>
                if p34.1 = 0 then
                  b_mdl_says_162 p34.2 (b + 316) number p34.1
                else
                  if p34.1 = 1 then
                    b_mdl_says_124 p34.2 (b + 316) number (nI r.length) p34.1
                  else
                    if p34.1 = 3 then
                      b_mdl_says_124 p34.2 (b + 316) number (nI r.length) p34.1
                    else
                      if p34.1 = 4 then
                        b_mdl_says_124 p34.2 (b + 316) number (nI r.length) p34.1
                      else
                        b_mdl_says_130 p34.2 (b + 316) number (nI r.length) p34.1
              else
                b_mdl_says_185 p26.2 (b + 316) number (nI r.length) ((-1)) p18.1 p22.1 p26.1
            else
              b_mdl_says_185 p26.2 (b + 316) number (nI r.length) ((-1)) p18.1 p22.1 p26.1
        else
          b_mdl_says_185 p26.2 (b + 316) number (nI r.length) ((-1)) p18.1 p22.1 p26.1
      else
        b_mdl_says_47 p13.2) = some (px_say2 (some r) number, px_W b I V G R M p) := by
  have hfin : ∀ v : Int32, v = px_say r → 4 ≤ r.length → b_mdl_says_268 (px_W b I V G R M p) (b + 316) number v = some (px_say2 (some r) number, px_W b I V G R M p) := by
    intro v hvr hr4
    have hv := px_say_cases r
    rw [← hvr] at hv
    have hw := pm_pushedWord (b := b) (I := I) (V := V) (G := G) (R := R) (p := p) (M := M) 0 r hr (by omega) h
    unfold b_mdl_says_268 b_mdl_says_287 b_mdl_says_289 px_say2
    simp only
    rw [← hvr]
    rcases hv with rfl | hv
    · simp
    · have hne : ¬ v = -1 := fun q => hv (by rw [q]; decide)
      rw [if_neg hv, px_rc_m, px_bs]
      rw [px_bnd (show f_mdl_pushedWord (px_W b I V G R M p) (b + 316) 0 = _ from hw)]
      simp only [hne, if_false, Nat.mul_zero]
      split <;> rfl
  have e20 : (nI r.length < 20) = (r.length < 20) := px_lt (by omega) (by decide)
  have e24 : (nI r.length < 24) = (r.length < 24) := px_lt (by omega) (by decide)
  have e24' : (nI r.length = 24) = (r.length = 24) := px_eq (by omega) (by decide)
  have e20' : (nI r.length = 20) = (r.length = 20) := px_eq (by omega) (by decide)
  have e32' : (nI r.length = 32) = (r.length = 32) := px_eq (by omega) (by decide)
  have neg1 : px_say r = -1 → px_say2 (some r) number = -1 := fun q => by unfold px_say2; simp [q]
  by_cases hN : r.length < 20
  · simp only [e20, hN, if_true]
    unfold b_mdl_says_47
    rw [neg1 (by unfold px_say; simp [hN])]
  · have w1 := px_bnd (show f_mdl_pushedWord (px_W b I V G R M p) (b + 316) 1 = _ from pm_pushedWord (b := b) (I := I) (V := V) (G := G) (R := R) (p := p) (M := M) 1 r hr (by omega) h) (β := Int32 × rc_M)
    have w2 := px_bnd (show f_mdl_pushedWord (px_W b I V G R M p) (b + 316) 2 = _ from pm_pushedWord (b := b) (I := I) (V := V) (G := G) (R := R) (p := p) (M := M) 2 r hr (by omega) h) (β := Int32 × rc_M)
    have w3 := px_bnd (show f_mdl_pushedWord (px_W b I V G R M p) (b + 316) 3 = _ from pm_pushedWord (b := b) (I := I) (V := V) (G := G) (R := R) (p := p) (M := M) 3 r hr (by omega) h) (β := Int32 × rc_M)
    have w4 := px_bnd (show f_mdl_pushedWord (px_W b I V G R M p) (b + 316) 4 = _ from pm_pushedWord (b := b) (I := I) (V := V) (G := G) (R := R) (p := p) (M := M) 4 r hr (by omega) h) (β := Int32 × rc_M)
    simp only [Nat.reduceMul] at w1 w2 w3 w4
    have hsay := hfin (px_say r) rfl (by omega)
    have hm : px_say r = -1 → b_mdl_says_268 (px_W b I V G R M p) (b + 316) number (-1) = some (px_say2 (some r) number, px_W b I V G R M p) := fun q => by rw [q] at hsay; exact hsay
    by_cases c1 : rc_wd r 4 = 1
    · simp only [↓reduceIte, e20, hN, px_rc_m, ↓px_bs, ↓w1, c1, ↓w2, ↓w3, ↓w4]
      by_cases c2 : rc_wd r 8 = 0
      · have L : b_mdl_says_185 (px_W b I V G R M p) (b + 316) number (nI r.length) (-1) (rc_wd r 8) (rc_wd r 12) (rc_wd r 16) = b_mdl_says_268 (px_W b I V G R M p) (b + 316) number (-1) := by
          unfold b_mdl_says_185 b_mdl_says_227
          rw [if_neg (by rw [c2]; decide), if_neg (by rw [c2]; decide)]
        rw [if_pos c2, L]
        by_cases c24 : r.length < 24
        · rw [if_pos (by rw [e24]; exact c24)]
          exact hm (by unfold px_say; simp [hN, c1, c2, c24])
        · rw [if_neg (by rw [e24]; exact c24)]
          by_cases c3 : rc_wd r 12 = 0
          · rw [if_pos c3]
            by_cases c4 : rc_wd r 16 = 0
            · rw [if_pos c4]
              have w5 := px_bnd (show f_mdl_pushedWord (px_W b I V G R M p) (b + 316) 5 = _ from pm_pushedWord (b := b) (I := I) (V := V) (G := G) (R := R) (p := p) (M := M) 5 r hr (by omega) h) (β := Int32 × rc_M)
              simp only [Nat.reduceMul] at w5
              simp only [px_rc_m, ↓px_bs, ↓w5]
              unfold b_mdl_says_124
              have L1 : b_mdl_says_162 (px_W b I V G R M p) (b + 316) number (rc_wd r 20) = b_mdl_says_268 (px_W b I V G R M p) (b + 316) number (rc_wd r 20) := by
                unfold b_mdl_says_162 b_mdl_says_167 b_mdl_says_180
                rw [if_neg (by decide)]
              have L2 : b_mdl_says_166 (px_W b I V G R M p) (b + 316) number (rc_wd r 20) = b_mdl_says_268 (px_W b I V G R M p) (b + 316) number (-1) := by
                unfold b_mdl_says_166 b_mdl_says_167 b_mdl_says_180
                rw [if_pos (by decide)]
              have L3 : ¬ rc_wd r 20 = 2 → b_mdl_says_130 (px_W b I V G R M p) (b + 316) number (nI r.length) (rc_wd r 20) = b_mdl_says_268 (px_W b I V G R M p) (b + 316) number (-1) := by
                intro q
                unfold b_mdl_says_130
                rw [if_neg q, L2]
              rw [L1]
              by_cases d0 : rc_wd r 20 = 0
              · rw [if_pos d0, d0]
                exact hfin 0 (by unfold px_say; simp [hN, c1, c2, c24, c3, c4, d0]) (by omega)
              · rw [if_neg d0]
                have T : ∀ v : Int32, rc_wd r 20 = v → (v = 1 ∨ v = 3 ∨ v = 4) → (if nI r.length = 24 then b_mdl_says_268 (px_W b I V G R M p) (b + 316) number (rc_wd r 20) else b_mdl_says_130 (px_W b I V G R M p) (b + 316) number (nI r.length) (rc_wd r 20)) = some (px_say2 (some r) number, px_W b I V G R M p) := by
                  intro v hv hv3
                  have hn2 : ¬ rc_wd r 20 = 2 := by rw [hv]; rcases hv3 with rfl | rfl | rfl <;> decide
                  simp only [e24']
                  by_cases q : r.length = 24
                  · rw [if_pos q]
                    refine hfin _ ?_ (by omega)
                    unfold px_say
                    rw [if_neg hN, if_neg (by simp [c1]), if_pos c2, if_neg c24, if_neg (by simp [c3]), if_neg (by simp [c4]), if_neg d0, if_pos ⟨by rw [hv]; exact hv3, q⟩]
                  · rw [if_neg q, L3 hn2]
                    refine hm ?_
                    unfold px_say
                    rw [if_neg hN, if_neg (by simp [c1]), if_pos c2, if_neg c24, if_neg (by simp [c3]), if_neg (by simp [c4]), if_neg d0, if_neg (fun z => q z.2), if_neg (fun z => hn2 z.1)]
                by_cases d1 : rc_wd r 20 = 1
                · rw [if_pos d1]; exact T 1 d1 (Or.inl rfl)
                · rw [if_neg d1]
                  by_cases d3 : rc_wd r 20 = 3
                  · rw [if_pos d3]; exact T 3 d3 (Or.inr (Or.inl rfl))
                  · rw [if_neg d3]
                    by_cases d4 : rc_wd r 20 = 4
                    · rw [if_pos d4]; exact T 4 d4 (Or.inr (Or.inr rfl))
                    · rw [if_neg d4]
                      have hsp : px_say r = if rc_wd r 20 = 2 ∧ r.length = 32 ∧ rc_wd r 24 = 1 ∧ rc_wd r 28 = 2 then 2 else -1 := by
                        unfold px_say
                        rw [if_neg hN, if_neg (by simp [c1]), if_pos c2, if_neg c24, if_neg (by simp [c3]), if_neg (by simp [c4]), if_neg d0, if_neg (fun z => z.1.elim d1 (fun z => z.elim d3 d4))]
                      by_cases d2 : rc_wd r 20 = 2
                      · unfold b_mdl_says_130
                        rw [if_pos d2]
                        simp only [e32']
                        by_cases d32 : r.length = 32
                        · rw [if_pos d32]
                          have w6 := px_bnd (show f_mdl_pushedWord (px_W b I V G R M p) (b + 316) 6 = _ from pm_pushedWord (b := b) (I := I) (V := V) (G := G) (R := R) (p := p) (M := M) 6 r hr (by omega) h) (β := Int32 × rc_M)
                          have w7 := px_bnd (show f_mdl_pushedWord (px_W b I V G R M p) (b + 316) 7 = _ from pm_pushedWord (b := b) (I := I) (V := V) (G := G) (R := R) (p := p) (M := M) 7 r hr (by omega) h) (β := Int32 × rc_M)
                          simp only [Nat.reduceMul] at w6 w7
                          simp only [px_rc_m, ↓px_bs, ↓w6, ↓w7, L1, L2]
                          by_cases d6 : rc_wd r 24 = 1
                          · rw [if_pos d6]
                            by_cases d7 : rc_wd r 28 = 2
                            · rw [if_pos d7, d2]
                              exact hfin 2 (by rw [hsp, if_pos ⟨d2, d32, d6, d7⟩]) (by omega)
                            · rw [if_neg d7]
                              exact hm (by rw [hsp, if_neg (fun z => d7 z.2.2.2)])
                          · rw [if_neg d6]
                            exact hm (by rw [hsp, if_neg (fun z => d6 z.2.2.1)])
                        · rw [if_neg d32, L2]
                          exact hm (by rw [hsp, if_neg (fun z => d32 z.2.1)])
                      · rw [L3 d2]
                        exact hm (by rw [hsp, if_neg (fun z => d2 z.1)])
            · rw [if_neg c4]
              exact hm (by unfold px_say; simp [hN, c1, c2, c24, c3, c4])
          · rw [if_neg c3]
            exact hm (by unfold px_say; simp [hN, c1, c2, c24, c3])
      · rw [if_neg c2]
        unfold b_mdl_says_185 b_mdl_says_227
        have hsp : px_say r = if rc_wd r 8 = 1 then (if rc_wd r 12 = 0 then (if r.length = 24 ∧ rc_wd r 16 = 2 ∧ rc_wd r 20 = 2 then 5 else -1) else if rc_wd r 12 = 1 then (if r.length = 20 ∧ (rc_wd r 16 = 1 ∨ rc_wd r 16 = 3) then 10 + rc_wd r 16 else -1) else -1) else -1 := by
          unfold px_say
          rw [if_neg hN, if_neg (by simp [c1]), if_neg c2]
        by_cases f1 : rc_wd r 8 = 1
        · rw [if_pos f1, if_pos f1]
          rw [if_pos f1] at hsp
          by_cases f2 : rc_wd r 12 = 0
          · rw [if_pos f2]
            simp only [e24']
            rw [if_pos f2] at hsp
            have L4 : b_mdl_says_221 (px_W b I V G R M p) (b + 316) number = b_mdl_says_268 (px_W b I V G R M p) (b + 316) number (-1) := rfl
            by_cases f3 : r.length = 24
            · rw [if_pos f3]
              have w5 := px_bnd (show f_mdl_pushedWord (px_W b I V G R M p) (b + 316) 5 = _ from pm_pushedWord (b := b) (I := I) (V := V) (G := G) (R := R) (p := p) (M := M) 5 r hr (by omega) h) (β := Int32 × rc_M)
              simp only [Nat.reduceMul] at w5
              by_cases f4 : rc_wd r 16 = 2
              · rw [if_pos f4]
                simp only [px_rc_m, ↓px_bs, ↓w5]
                by_cases f5 : rc_wd r 20 = 2
                · rw [if_pos f5]
                  unfold b_mdl_says_222
                  exact hfin 5 (by rw [hsp, if_pos ⟨f3, f4, f5⟩]) (by omega)
                · rw [if_neg f5, L4]
                  exact hm (by rw [hsp, if_neg (fun z => f5 z.2.2)])
              · rw [if_neg f4, L4]
                exact hm (by rw [hsp, if_neg (fun z => f4 z.2.1)])
            · rw [if_neg f3, L4]
              exact hm (by rw [hsp, if_neg (fun z => f3 z.1)])
          · rw [if_neg f2]
            rw [if_neg f2] at hsp
            unfold b_mdl_says_265 b_mdl_says_257 b_mdl_says_266
            by_cases f3 : rc_wd r 12 = 1
            · rw [if_pos f3]
              simp only [e20']
              rw [if_pos f3] at hsp
              by_cases f4 : r.length = 20
              · rw [if_pos f4]
                by_cases f5 : rc_wd r 16 = 1
                · rw [if_pos f5]
                  exact hfin _ (by rw [hsp, if_pos ⟨f4, Or.inl f5⟩]) (by omega)
                · rw [if_neg f5]
                  by_cases f6 : rc_wd r 16 = 3
                  · rw [if_pos f6]
                    exact hfin _ (by rw [hsp, if_pos ⟨f4, Or.inr f6⟩]) (by omega)
                  · rw [if_neg f6]
                    exact hm (by rw [hsp, if_neg (fun z => z.2.elim f5 f6)])
              · rw [if_neg f4]
                exact hm (by rw [hsp, if_neg (fun z => f4 z.1)])
            · rw [if_neg f3]
              rw [if_neg f3] at hsp
              exact hm hsp
        · rw [if_neg f1, if_neg f1]
          rw [if_neg f1] at hsp
          exact hm hsp
    · simp only [↓reduceIte, e20, hN, px_rc_m, ↓px_bs, ↓w1, c1]
      unfold b_mdl_says_47
      rw [neg1 (by unfold px_say; simp [hN, c1])]
theorem pm_says (n : Nat) (s : Nat → List UInt8) (j : Nat) (number : Int32) (hn : n < 2 ^ 30) (h : M 316 5 = nI n) (hs : px_sl M s) (hi : px_is n (nI j)) (hj : j < 2 ^ 31) : ∃ M', f_mdl_says (px_W b I V G R M p) (b + 316) (nI j) number = some (px_say2 (px_jn (s (j % 64)) 2000 0 []) number, px_W b I V G R M' p) ∧ ∀ o, o ≠ 320 → M' o = px_u2 M 316 0 0 o := by
  obtain ⟨h2, h3, h4⟩ := hs (j % 64) (by omega)
  obtain ⟨a1, -⟩ := pm_isSlot (b := b) (I := I) (V := V) (G := G) (R := R) (p := p) n (nI j) hn h
  obtain ⟨l', k1, k2, k3⟩ := pm_whole (b := b) (I := I) (V := V) (G := G) (R := R) (p := p) (M := px_u2 M 316 0 0) (s (j % 64)) j hj h2 (by rw [px_u2_sl _ _ _ _ _ (by decide)]; exact h3) (by rw [px_u2_sl _ _ _ _ _ (by decide)]; exact h4)
  refine ⟨va_up (px_u2 M 316 0 0) 320 (px_blk (px_u2 M 316 0 0 320) 0 l'), ?_, fun o ho => px_va_ne _ _ _ _ ho⟩
  unfold f_mdl_says b_mdl_says_14
  rw [px_rc_m, px_bs, px_bnd (a1 hi)]
  rw [if_neg (show ¬ (1 : Int32) = 0 by decide), px_pI_m_0, px_bs, px_gI_m_0, px_bs, px_u2_eq, if_pos (by decide), px_rc_m, px_bs, px_bnd k2]
  cases hc : px_jn (s (j % 64)) 2000 0 [] with
  | none =>
    simp only
    rw [if_pos (by decide)]
    rfl
  | some r =>
    have hrl := k3 r hc
    subst hrl
    simp only
    exact pm_says_tail r number k1 (by rw [px_va_eq]; exact px_blk_agr _ _ _)
theorem pm_says_bad (n : Nat) (x number : Int32) (hn : n < 2 ^ 30) (h : M 316 5 = nI n) (hi : ¬ px_is n x) : f_mdl_says (px_W b I V G R M p) (b + 316) x number = some (0, px_W b I V G R (px_u2 M 316 0 1) p) := by
  obtain ⟨-, a2⟩ := pm_isSlot (b := b) (I := I) (V := V) (G := G) (R := R) (p := p) n x hn h
  unfold f_mdl_says b_mdl_says_14
  rw [px_rc_m, px_bs, px_bnd (a2 hi)]
  rw [if_pos rfl, px_pI_m_0, px_bs, px_gI_m_0, px_bs, px_u2_eq, if_neg (by decide)]
end PX
