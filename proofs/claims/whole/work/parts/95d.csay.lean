/-! THE CLASS, 13: says -/
section PX
variable {b : Nat} {I : Nat → Nat → Int32} {V : Nat → Nat → Int64} {G : Nat → Nat → Nat} {R : Nat → List UInt8} {M : Nat → Nat → Int32} {p : px_P} {e : Nat}
variable {T : List UInt8} {s : Nat → List UInt8} {n : Nat} {mp : px_Mp} {t : Int32 × Int32 × Int32} {S : Nat → px_S} {Q : Nat → px_Rp}
theorem pc_joined_go (B : List UInt8) (so : Nat) (hso : px_rw so = true) (hne : so ≠ 98) (hB : R so = B) (hBl : B.length ≤ 1600) : ∀ (m a f g : Nat) (l : List UInt8) (p : px_P), B.length < a + m → a ≤ B.length → m < f → m < g → l.length ≤ a → px_Wf b p e → ∃ l' p', px_Wf b p' e ∧ l'.length ≤ 1600 ∧ b_rec_isJoined_14 f (px_W b I V G (va_up R 98 l) M p) (b + 0) (some (b + so)) (nI B.length) (nI a) = some (px_z (px_jn B g a l).isSome, px_W b I V G (va_up R 98 l') M p') ∧ ∀ r, px_jn B g a l = some r → r = l' := by
  intro m
  induction m with
  | zero => intro a f g l p h1 h2; omega
  | succ m ih =>
    intro a f g l p h1 h2 hf hg hl hw
    obtain ⟨f, rfl⟩ : ∃ q, f = q + 1 := ⟨f - 1, by omega⟩
    obtain ⟨g, rfl⟩ : ∃ q, g = q + 1 := ⟨g - 1, by omega⟩
    have hB' : va_up R 98 l so = B := by rw [px_va_ne _ _ _ _ hne, hB]
    rw [b_rec_isJoined_14, px_jn]
    unfold b_rec_isJoined_82 rc_z1
    have e4 : (nI B.length - nI 4 < nI a) = (B.length < a + 4) := px_msub2 (by omega) (by decide) a (by omega)
    rw [show (4 : Int32) = nI 4 from rfl]
    by_cases c1 : a + 4 ≤ B.length
    · obtain ⟨hnn, en⟩ := px_and31_lt (rc_wd B a)
      generalize (rc_wd B a &&& 2147483647).toNatClampNeg = k at hnn en ⊢
      have e6 : (nI k ≤ nI B.length - nI (a + 4)) = (k + (a + 4) ≤ B.length) := px_msub3 (by omega) (by omega) k hnn
      rw [if_neg (by rw [e4]; omega), px_rcR so hso, px_bs, px_bnd (px_wordAt so _ hso hw), hB', px_wdR B a (by omega), if_neg (show ¬ B.length < a + 4 by omega), if_pos c1]
      dsimp only
      rw [en, nI_add]
      by_cases c2 : a + 4 + k ≤ B.length
      · obtain ⟨p1, w1, h3⟩ := px_addPart (b := b) (I := I) (V := V) (G := G) (R := va_up R 98 l) (M := M) 98 so (a + 4) k px_r98 hso (Ne.symm hne) hw (by rw [hB']; omega) (by rw [hB']; omega) (by rw [px_va_eq]; omega)
        rw [px_va_va, px_va_eq, hB'] at h3
        have hll : (l ++ (B.drop (a + 4)).take k).length ≤ a + 4 + k := by simp only [List.length_append, List.length_take, List.length_drop]; omega
        rw [if_pos (by rw [e6]; omega), if_pos c2, px_gR_0_5, px_bs, px_rcR 98 px_r98, px_bs, px_bnd h3, nI_add]
        by_cases c3 : rc_wd B a < 0
        · rw [if_neg (by rw [px_sgn]; exact fun u => u c3), if_pos c3]
          by_cases c5 : a + 4 + k = B.length
          · rw [if_pos (by rw [c5]), if_pos (Or.inr rfl), if_pos c5]
            exact ⟨_, p1, w1, by omega, rfl, fun r q => by cases q; rfl⟩
          · rw [if_neg (by rw [px_eq (by omega) (by omega)]; exact c5), if_pos (Or.inl rfl), if_neg c5]
            exact ⟨_, p1, w1, by omega, rfl, fun r q => by cases q⟩
        · rw [if_pos (by rw [px_sgn]; exact c3), if_neg c3]
          exact ih (a + 4 + k) f g _ p1 (by omega) c2 (by omega) (by omega) hll w1
      · rw [if_neg (by rw [e6]; omega), if_pos (Or.inl rfl), if_neg c2]
        exact ⟨l, p, hw, by omega, rfl, fun r q => by cases q⟩
    · rw [if_pos (by rw [e4]; omega), if_pos (Or.inl rfl), if_neg c1]
      exact ⟨l, p, hw, by omega, rfl, fun r q => by cases q⟩
theorem pc_isJoined (B : List UInt8) (so : Nat) (hso : px_rw so = true) (hne : so ≠ 98) (hB : R so = B) (hBl : B.length ≤ 1600) (hw : px_Wf b p e) : ∃ l' p', px_Wf b p' e ∧ l'.length ≤ 1600 ∧ f_rec_isJoined (px_W b I V G R M p) (b + 0) (some (b + so)) = some (px_z (px_jn B 2000 0 []).isSome, px_W b I V G (va_up R 98 l') M p') ∧ ∀ r, px_jn B 2000 0 [] = some r → r = l' := by
  unfold f_rec_isJoined
  generalize hF : (5000 : Nat) = fu
  rw [px_gR_0_5, px_bs, px_rcR 98 px_r98, px_bs, px_bnd (px_clear 98 px_r98 hw), px_rcR so hso, px_bs, px_bnd (px_size so hso hw), px_va_ne _ _ _ _ hne, hB]
  dsimp only
  rw [← nI_0]
  exact pc_joined_go B so hso hne hB hBl (B.length + 1) 0 fu 2000 [] p (by omega) (by omega) (by omega) (by omega) (by simp) hw
theorem pc_saidBy (l : List UInt8) (h98 : R 98 = l) (hl : l.length ≤ 1600) (hw : px_Wf b p e) : f_rec_saidBy (px_W b I V G R M p) (some (b + 98)) = some (px_say l, px_W b I V G R M p) := by
  have hwd : ∀ i : Nat, i < 100 → g_row_wordAt (px_W b I V G R M p) (b + 98) (nI i) = some (if l.length < i + 4 then 0 else rc_wd l i, px_W b I V G R M p) := fun i hi => by rw [px_wordAt 98 _ px_r98 hw, h98, px_wdR _ _ (by omega)]
  have hsz : g_row_size (px_W b I V G R M p) (b + 98) = some (nI l.length, px_W b I V G R M p) := by rw [px_size 98 px_r98 hw, h98]
  have w4 : g_row_wordAt (px_W b I V G R M p) (b + 98) 4 = some (if l.length < 8 then 0 else rc_wd l 4, px_W b I V G R M p) := hwd 4 (by omega)
  have w8 : g_row_wordAt (px_W b I V G R M p) (b + 98) 8 = some (if l.length < 12 then 0 else rc_wd l 8, px_W b I V G R M p) := hwd 8 (by omega)
  have w12 : g_row_wordAt (px_W b I V G R M p) (b + 98) 12 = some (if l.length < 16 then 0 else rc_wd l 12, px_W b I V G R M p) := hwd 12 (by omega)
  have w16 : g_row_wordAt (px_W b I V G R M p) (b + 98) 16 = some (if l.length < 20 then 0 else rc_wd l 16, px_W b I V G R M p) := hwd 16 (by omega)
  have w20 : g_row_wordAt (px_W b I V G R M p) (b + 98) 20 = some (if l.length < 24 then 0 else rc_wd l 20, px_W b I V G R M p) := hwd 20 (by omega)
  have w24 : g_row_wordAt (px_W b I V G R M p) (b + 98) 24 = some (if l.length < 28 then 0 else rc_wd l 24, px_W b I V G R M p) := hwd 24 (by omega)
  have w28 : g_row_wordAt (px_W b I V G R M p) (b + 98) 28 = some (if l.length < 32 then 0 else rc_wd l 28, px_W b I V G R M p) := hwd 28 (by omega)
  have eqL : ∀ k : Nat, k < 100 → (nI l.length = nI k) = (l.length = k) := fun k hk => px_eq (by omega) (by omega)
  unfold f_rec_saidBy b_rec_saidBy_18
  rw [px_rcR 98 px_r98, px_bs, px_bnd hsz]
  dsimp only
  unfold px_say
  by_cases l12 : l.length < 12
  · rw [if_pos (by rw [show (12 : Int32) = nI 12 from rfl]; exact nI_lt l12 (by decide)), if_pos (by omega)]
  · rw [if_neg (by rw [show (12 : Int32) = nI 12 from rfl, px_lt (by omega) (by decide)]; exact l12), px_rcR 98 px_r98, px_bs, px_bnd w4, if_neg (show ¬ l.length < 8 by omega)]
    dsimp only
    by_cases v4 : rc_wd l 4 = 1
    · rw [if_pos v4, px_rcR 98 px_r98, px_bs, px_bnd w8, if_neg l12]
      dsimp only
      have hne4 : ¬ rc_wd l 4 ≠ 1 := fun z => z v4
      by_cases v8 : rc_wd l 8 = 0
      · rw [if_pos v8]
        unfold f_rec_saidByAccepted b_rec_saidByAccepted_23 b_rec_saidByAccepted_28 b_rec_saidByAccepted_39
        rw [px_rcR 98 px_r98, px_bs, px_bnd hsz]
        dsimp only
        rw [px_rcR 98 px_r98, px_bs, px_bnd w12]
        dsimp only
        by_cases l24 : l.length < 24
        · have hm : (if l.length < 20 then (-1 : Int32) else if rc_wd l 4 ≠ 1 then -1 else if rc_wd l 8 = 0 then (if l.length < 24 then -1 else if rc_wd l 12 ≠ 0 then -1 else if rc_wd l 16 ≠ 0 then -1 else if rc_wd l 20 = 0 then 0 else if (rc_wd l 20 = 1 ∨ rc_wd l 20 = 3 ∨ rc_wd l 20 = 4) ∧ l.length = 24 then rc_wd l 20 else if rc_wd l 20 = 2 ∧ l.length = 32 ∧ rc_wd l 24 = 1 ∧ rc_wd l 28 = 2 then 2 else -1) else if rc_wd l 8 = 1 then (if rc_wd l 12 = 0 then (if l.length = 24 ∧ rc_wd l 16 = 2 ∧ rc_wd l 20 = 2 then 5 else -1) else if rc_wd l 12 = 1 then (if l.length = 20 ∧ (rc_wd l 16 = 1 ∨ rc_wd l 16 = 3) then 10 + rc_wd l 16 else -1) else -1) else -1) = -1 := by
            by_cases l20 : l.length < 20
            · rw [if_pos l20]
            · rw [if_neg l20, if_neg hne4, if_pos v8, if_pos l24]
          rw [hm]
          have h24 : nI l.length < 24 := by rw [show (24 : Int32) = nI 24 from rfl]; exact nI_lt l24 (by decide)
          rw [if_pos h24, px_rcR 98 px_r98, px_bs, px_bnd w16]
          dsimp only
          rw [if_pos h24]
          (repeat' split) <;> rfl
        · have h24 : ¬ nI l.length < 24 := by rw [show (24 : Int32) = nI 24 from rfl, px_lt (by omega) (by decide)]; exact l24
          rw [if_neg h24, if_neg (show ¬ l.length < 16 by omega), px_rcR 98 px_r98, px_bs, px_bnd w16, if_neg (show ¬ l.length < 20 by omega), if_neg (show ¬ l.length < 20 by omega), if_neg hne4, if_pos v8, if_neg l24]
          dsimp only
          rw [if_neg h24]
          by_cases v12 : rc_wd l 12 = 0
          · rw [if_pos v12, if_neg (show ¬ rc_wd l 12 ≠ 0 from fun z => z v12)]
            by_cases v16 : rc_wd l 16 = 0
            · rw [if_pos v16, if_pos rfl, if_neg (show ¬ rc_wd l 16 ≠ 0 from fun z => z v16), px_rcR 98 px_r98, px_bs, px_bnd w20, if_neg l24]
              dsimp only
              unfold b_rec_saidByAccepted_126 b_rec_saidByAccepted_120 b_rec_saidByAccepted_121 b_rec_saidByAccepted_137 b_rec_saidByAccepted_145 b_rec_saidByAccepted_155
              rw [show (24 : Int32) = nI 24 from rfl, show (32 : Int32) = nI 32 from rfl]
              have n1 : ¬ (1 : Int32) = 0 := by decide
              by_cases a0 : rc_wd l 20 = 0
              · rw [if_pos a0, if_neg n1, if_pos a0, px_bs, a0]
              · rw [if_neg a0, if_neg a0]
                have c24 : ∀ v : Int32, rc_wd l 20 = v → (v = 1 ∨ v = 3 ∨ v = 4) → ((if nI l.length = nI 24 then (if (1 : Int32) = 0 then some ((-1 : Int32), px_W b I V G R M p) else some (rc_wd l 20, px_W b I V G R M p)) else (if (0 : Int32) = 0 then some ((-1 : Int32), px_W b I V G R M p) else some (rc_wd l 20, px_W b I V G R M p))).bind fun p16 => some (p16.1, p16.2)) = some (if (rc_wd l 20 = 1 ∨ rc_wd l 20 = 3 ∨ rc_wd l 20 = 4) ∧ l.length = 24 then rc_wd l 20 else if rc_wd l 20 = 2 ∧ l.length = 32 ∧ rc_wd l 24 = 1 ∧ rc_wd l 28 = 2 then 2 else -1, px_W b I V G R M p) := by
                  intro v e1 e2
                  have e3 : rc_wd l 20 = 1 ∨ rc_wd l 20 = 3 ∨ rc_wd l 20 = 4 := by rw [e1]; exact e2
                  by_cases q : l.length = 24
                  · rw [if_pos (by rw [q]), if_neg n1, px_bs, if_pos ⟨e3, q⟩]
                  · rw [if_neg (by rw [eqL 24 (by omega)]; exact q), if_pos rfl, px_bs, if_neg (fun z => q z.2), if_neg (fun z => by rw [z.1] at e3; revert e3; decide)]
                by_cases a1 : rc_wd l 20 = 1
                · rw [if_pos a1]; exact c24 1 a1 (Or.inl rfl)
                · rw [if_neg a1]
                  by_cases a2 : rc_wd l 20 = 2
                  · have e3 : ¬ (rc_wd l 20 = 1 ∨ rc_wd l 20 = 3 ∨ rc_wd l 20 = 4) := by rw [a2]; decide
                    rw [if_pos a2, if_neg (show ¬ ((rc_wd l 20 = 1 ∨ rc_wd l 20 = 3 ∨ rc_wd l 20 = 4) ∧ l.length = 24) from fun z => e3 z.1)]
                    by_cases q : l.length = 32
                    · have w24' : g_row_wordAt (px_W b I V G R M p) (b + 98) (nI 24) = some (if l.length < 28 then 0 else rc_wd l 24, px_W b I V G R M p) := w24
                      rw [if_pos (by rw [q]), px_rcR 98 px_r98, px_bs, px_bnd w24', if_neg (show ¬ l.length < 28 by omega)]
                      dsimp only
                      by_cases a24 : rc_wd l 24 = 1
                      · rw [if_pos a24, px_rcR 98 px_r98, px_bs, px_bnd w28, if_neg (show ¬ l.length < 32 by omega)]
                        dsimp only
                        by_cases a28 : rc_wd l 28 = 2
                        · rw [if_pos a28, if_neg n1, px_bs, if_pos ⟨a2, q, a24, a28⟩, a2]
                        · rw [if_neg a28, if_pos rfl, px_bs, if_neg (fun z => a28 z.2.2.2)]
                      · rw [if_neg a24, if_pos rfl, px_bs, if_neg (fun z => a24 z.2.2.1)]
                    · rw [if_neg (by rw [eqL 32 (by omega)]; exact q), if_pos rfl, px_bs, if_neg (fun z => q z.2.1)]
                  · rw [if_neg a2]
                    by_cases a3 : rc_wd l 20 = 3
                    · rw [if_pos a3]; exact c24 3 a3 (Or.inr (Or.inl rfl))
                    · rw [if_neg a3]
                      by_cases a4 : rc_wd l 20 = 4
                      · rw [if_pos a4]; exact c24 4 a4 (Or.inr (Or.inr rfl))
                      · rw [if_neg a4, if_pos rfl, px_bs, if_neg (fun z => z.1.elim a1 (fun u => u.elim a3 a4)), if_neg (fun z => a2 z.1)]
            · rw [if_neg v16, if_neg (show ¬ (1 : Int32) = 0 by decide), if_pos v16, if_neg h24, px_bs]
          · rw [if_neg v12, if_neg (show ¬ (1 : Int32) = 0 by decide), if_pos v12, px_bs]
      · rw [if_neg v8]
        by_cases v81 : rc_wd l 8 = 1
        · rw [if_pos v81]
          have b44 : ∀ y1 y2 : Int32, b_rec_saidByRefused_44 (px_W b I V G R M p) (some (b + 98)) y1 y2 = some (if l.length = 20 ∧ y1 = 1 ∧ (y2 = 1 ∨ y2 = 3) then 10 + y2 else -1, px_W b I V G R M p) := by
            intro y1 y2
            unfold b_rec_saidByRefused_44 b_rec_saidByRefused_68 b_rec_saidByRefused_73
            rw [px_rcR 98 px_r98, px_bs, px_bnd hsz]
            dsimp only
            rw [show (20 : Int32) = nI 20 from rfl]
            by_cases q : l.length = 20
            · rw [if_pos (by rw [q])]
              by_cases q1 : y1 = 1
              · rw [if_pos q1]
                by_cases q2 : y2 = 1
                · rw [if_pos q2, if_pos ⟨q, q1, Or.inl q2⟩]
                · rw [if_neg q2]
                  by_cases q3 : y2 = 3
                  · rw [if_pos q3, if_pos ⟨q, q1, Or.inr q3⟩]
                  · rw [if_neg q3, if_neg (fun z => z.2.2.elim q2 q3)]
              · rw [if_neg q1, if_neg (fun z => q1 z.2.1)]
            · rw [if_neg (by rw [eqL 20 (by omega)]; exact q), if_neg (fun z => q z.1)]
          unfold f_rec_saidByRefused
          rw [px_rcR 98 px_r98, px_bs, px_bnd w12]
          dsimp only
          rw [px_rcR 98 px_r98, px_bs, px_bnd w16]
          dsimp only
          rw [px_rcR 98 px_r98, px_bs, px_bnd hsz]
          dsimp only
          rw [b44, show (24 : Int32) = nI 24 from rfl]
          by_cases l20 : l.length < 20
          · rw [if_neg (by rw [eqL 24 (by omega)]; omega), px_bs, if_neg (fun z => by omega), if_pos l20]
          · have e12 : (if l.length < 16 then (0 : Int32) else rc_wd l 12) = rc_wd l 12 := if_neg (by omega)
            have e16 : (if l.length < 20 then (0 : Int32) else rc_wd l 16) = rc_wd l 16 := if_neg l20
            rw [e12, e16, if_neg l20, if_neg hne4, if_neg v8, if_pos v81]
            by_cases q : l.length = 24
            · rw [if_pos (by rw [q])]
              by_cases q1 : rc_wd l 12 = 0
              · rw [if_pos q1, if_pos q1]
                by_cases q2 : rc_wd l 16 = 2
                · rw [if_pos q2, px_rcR 98 px_r98, px_bs, px_bnd w20, if_neg (show ¬ l.length < 24 by omega)]
                  dsimp only
                  by_cases q3 : rc_wd l 20 = 2
                  · rw [if_pos q3, px_bs, if_pos ⟨q, q2, q3⟩]
                  · rw [if_neg q3, b44, px_bs, if_neg (fun z => by omega), if_neg (fun z => q3 z.2.2)]
                · rw [if_neg q2, px_bs, if_neg (fun z => by omega), if_neg (fun z => q2 z.2.1)]
              · rw [if_neg q1, if_neg q1, px_bs, if_neg (fun z => by omega)]
                by_cases q2 : rc_wd l 12 = 1
                · rw [if_pos q2, if_neg (fun z => by omega)]
                · rw [if_neg q2]
            · rw [if_neg (by rw [eqL 24 (by omega)]; exact q), px_bs]
              by_cases q1 : rc_wd l 12 = 0
              · rw [if_neg (fun z => by rw [q1] at z; exact absurd z.2.1 (by decide)), if_pos q1, if_neg (fun z => q z.1)]
              · rw [if_neg q1]
                by_cases q2 : rc_wd l 12 = 1
                · rw [if_pos q2]
                  by_cases q3 : l.length = 20 ∧ (rc_wd l 16 = 1 ∨ rc_wd l 16 = 3)
                  · rw [if_pos ⟨q3.1, q2, q3.2⟩, if_pos q3]
                  · rw [if_neg (fun z => q3 ⟨z.1, z.2.2⟩), if_neg q3]
                · rw [if_neg (fun z => q2 z.2.1), if_neg q2]
        · rw [if_neg v81, if_neg hne4, if_neg v8, if_neg v81]
          by_cases l20 : l.length < 20
          · rw [if_pos l20]
          · rw [if_neg l20]
    · rw [if_neg v4]
      by_cases l20 : l.length < 20
      · rw [if_pos l20]
      · rw [if_neg l20, if_pos v4]
theorem pc_says (h : px_CI I V G R T s n mp t S Q) (hn : n < 2 ^ 30) (j : Nat) (number : Int32) (hj : j < 2 ^ 31) (hi : px_is n (nI j)) (hw : px_Wf b p e) : ∃ R' p', px_Wf b p' e ∧ f_rec_says (px_W b I V G R M p) (b + 0) (nI j) number = some (some (px_say2 (px_jn (s (j % 64)) 2000 0 []) number), px_W b I V G R' M p') ∧ px_CI I V G R' T s n mp t S Q := by
  have hr := px_rS (j % 64) (by omega)
  obtain ⟨s1, s2⟩ := h.2.1.2 (j % 64) (by omega)
  obtain ⟨l', p1, w1, g1, g2, g3⟩ := pc_isJoined (b := b) (I := I) (V := V) (G := G) (M := M) (p := p) _ _ hr (by omega) s1 s2 hw
  unfold f_rec_says b_rec_says_55
  rw [px_rc_0, px_bs, px_bnd ((pc_isSlot hn h.2.1.1 _).1 hi)]
  dsimp only
  rw [if_neg (by decide), px_rc_0, px_bs, px_bnd (pc_slotRow j hj)]
  dsimp only
  rw [px_rc_0, px_bs, px_bnd g2]
  dsimp only
  refine ⟨va_up R 98 l', p1, w1, ?_, h.scr 98 (by omega) l'⟩
  cases hjn : px_jn (s (j % 64)) 2000 0 [] with
  | none => rw [if_pos (show px_z (none : Option (List UInt8)).isSome = 0 from rfl)]; rfl
  | some r =>
    have hrl := g3 r hjn
    subst hrl
    rw [if_neg (px_zs r), px_gR_0_5, px_bs, px_bnd (pc_saidBy r (px_va_eq _ _ _) g1 w1)]
    dsimp only
    unfold px_say2
    dsimp only
    by_cases q : px_say r = -1
    · rw [if_pos q, if_pos q, q]
    · have h4 : 4 ≤ r.length := by
        by_cases z : r.length < 20
        · exact absurd (show px_say r = -1 by unfold px_say; rw [if_pos z]) q
        · omega
      rw [if_neg q, if_neg q, px_gR_0_5, px_bs, px_rcR 98 px_r98, px_bs, px_bnd (px_wordAt 98 _ px_r98 w1), px_va_eq]
      rw [show (0 : Int32) = nI 0 from rfl, px_wdR r 0 (by decide), if_neg (show ¬ r.length < 0 + 4 by omega)]
      dsimp only
      by_cases q2 : rc_wd r 0 = number
      · rw [if_pos q2, if_pos q2]
      · rw [if_neg q2, if_neg q2]
theorem pc_says_bad (h : px_CI I V G R T s n mp t S Q) (hn : n < 2 ^ 30) (y number : Int32) (hi : ¬ px_is n y) (hw : px_Wf b p (e + 1)) : ∃ p', px_Wf b p' e ∧ f_rec_says (px_W b I V G R M p) (b + 0) y number = some (none, px_W b I V G R M p') := by
  obtain ⟨p1, w1, h1⟩ := px_throw (b := b) (I := I) (V := V) (G := G) (R := R) (M := M) hw
  refine ⟨p1, w1, ?_⟩
  unfold f_rec_says
  rw [px_rc_0, px_bs, px_bnd ((pc_isSlot hn h.2.1.1 _).2 hi)]
  dsimp only
  rw [if_pos rfl, px_bnd h1]
end PX
