/-! THE CLASS, 5: what it says of a record -/
def px_g3 (I I' : Nat → Nat → Int32) : Prop := ∀ o k, ¬ (o = 89 ∨ (o = 5 ∧ 8 ≤ k) ∨ o = 94 ∨ o = 95) → I' o k = I o k
theorem px_g2.g3 {I I' : Nat → Nat → Int32} (h : px_g2 I I') : px_g3 I I' := fun o k q => h o k (by omega)
theorem px_g3.tr {I I1 I2 : Nat → Nat → Int32} (h1 : px_g3 I I1) (h2 : px_g3 I1 I2) : px_g3 I I2 := fun o i h => (h2 o i h).trans (h1 o i h)
section PX
variable {b : Nat} {I : Nat → Nat → Int32} {V : Nat → Nat → Int64} {G : Nat → Nat → Nat} {R : Nat → List UInt8} {M : Nat → Nat → Int32} {p : px_P} {e : Nat}
theorem pc_verdictOn (rr : Nat) (l : List UInt8) (hr : px_rw rr = true) (hR : R rr = l) (hl : l.length ≤ 1200) (hw : px_Wf b p e) : ∃ I' G', f_srv_verdictOn (px_W b I V G R M p) (b + 5) (some (b + rr)) = some (px_vd l, px_W b I' V G' R M p) ∧ px_g3 I I' ∧ (∀ k, G' 7 k = G 7 k) ∧ (px_vd l = 0 → px_cx G' R rr l ∧ px_cd I' (some (px_a0 l)) ∧ px_le' l (some (px_a0 l)) ∧ I' 5 8 = (px_r3 l).1 ∧ ¬ (px_r3 l).1 < 0 ∧ (px_r3 l).1 ≤ 6) := by
  unfold f_srv_verdictOn
  rw [px_rcR rr hr, px_bs, px_bnd (px_size rr hr hw), hR]
  dsimp only
  by_cases l12 : l.length < 12
  · have hv : px_vd l = -1 := by unfold px_vd; rw [if_pos l12]
    rw [if_neg (by rw [show (12 : Int32) = nI 12 from rfl]; exact nI_ge l12 (by decide)), hv]
    exact ⟨I, G, rfl, (px_g2.rf I).g3, fun _ => rfl, fun q => absurd q (by decide)⟩
  · rw [if_pos (by rw [show (12 : Int32) = nI 12 from rfl]; exact nI_le (by omega) (by omega)), px_rcR rr hr, px_bs, px_bnd (px_wordAt rr _ hr hw), hR, show (8 : Int32) = nI 8 from rfl, px_wdR l 8 (by decide), if_neg (show ¬ l.length < 8 + 4 by omega)]
    dsimp only
    by_cases w2 : rc_wd l 8 = 2
    · rw [if_pos w2, px_gR_5_1, px_bs, px_rc_89, px_bs]
      have hb : f_rdr_begin (px_W b I V G R M p) (b + 89) (some (b + rr)) 12 = some (px_W b (px_u2 (px_u2 I 89 1 12) 89 2 1) V (px_u2 G 89 0 rr) R M p) := by
        unfold f_rdr_begin
        rw [px_pR_89, px_bs, px_pI_89_1, px_bs, px_pZ_89_2, if_pos (Or.inr rfl), px_bs]
      rw [px_bnd hb]
      have hf0 : px_g2 I (px_u2 (px_u2 I 89 1 12) 89 2 1) := fun o i q => by
        rw [px_u2_ne _ _ _ _ _ _ (by omega), px_u2_ne _ _ _ _ _ _ (by omega)]
      have hs0 : px_cd (px_u2 (px_u2 I 89 1 12) 89 2 1) (some 12) := ⟨px_u2_eq _ _ _ _, by rw [px_u2_ne _ _ _ _ _ _ (by omega), px_u2_eq]; rfl⟩
      have hG7 : ∀ k, px_u2 G 89 0 rr 7 k = G 7 k := fun k => px_u2_ne _ _ _ _ _ _ (by omega)
      have hx : px_cx (px_u2 G 89 0 rr) R rr l := ⟨px_u2_eq _ _ _ _, hr, hR, hl⟩
      generalize px_u2 (px_u2 I 89 1 12) 89 2 1 = I0 at *
      generalize px_u2 G 89 0 rr = G0 at *
      obtain ⟨N1, n11, n12, n13⟩ := pc_nextWord (b := b) (I := I0) (V := V) (M := M) (p := p) rr l (some 12) hx hw hs0 (fun a q => by cases q; omega)
      obtain ⟨N2, n21, n22, n23⟩ := pc_nextWord (b := b) (I := N1) (V := V) (M := M) (p := p) rr l _ hx hw n12 px_pw_le
      obtain ⟨N3, n31, n32, n33⟩ := pc_nextWord (b := b) (I := N2) (V := V) (M := M) (p := p) rr l _ hx hw n22 px_pw_le
      have hs3 : px_cd (px_u2 N3 5 8 (px_r3 l).1) (px_r3 l).2 := by
        revert n32
        show px_cd N3 (px_r3 l).2 → _
        cases (px_r3 l).2 with
        | none => intro q; show px_u2 N3 5 8 _ 89 2 = 0; rw [px_u2_ne _ _ _ _ _ _ (by omega)]; exact q
        | some a => intro q; exact ⟨by rw [px_u2_ne _ _ _ _ _ _ (by omega)]; exact q.1, by rw [px_u2_ne _ _ _ _ _ _ (by omega)]; exact q.2⟩
      obtain ⟨N4, n41, n42, n43⟩ := pc_nextWord (b := b) (I := px_u2 N3 5 8 (px_r3 l).1) (V := V) (M := M) (p := p) rr l _ hx hw hs3 px_pw_le
      obtain ⟨v5, N5, n51, n52, n53, n54, -⟩ := pc_nextBytes (b := b) (I := N4) (V := V) (M := M) (p := p) 400 rr l _ (by omega) hx hw n42 px_pw_le
      obtain ⟨N6, n61, n62, n63⟩ := pc_nextWord (b := b) (I := N5) (V := V) (M := M) (p := p) rr l _ hx hw n52 px_pb_le
      obtain ⟨v7, N7, n71, n72, n73, n74, -⟩ := pc_nextBytes (b := b) (I := N6) (V := V) (M := M) (p := p) 400 rr l _ (by omega) hx hw n62 px_pw_le
      have n51' : f_rdr_nextBytes (px_W b N4 V G0 R M p) (b + 89) 400 = some (v5, px_W b N5 V G0 R M p) := n51
      have n71' : f_rdr_nextBytes (px_W b N6 V G0 R M p) (b + 89) 400 = some (v7, px_W b N7 V G0 R M p) := n71
      change f_rdr_nextWord _ _ = some ((px_r1 l).1, _) at n11
      change f_rdr_nextWord _ _ = some ((px_r2 l).1, _) at n21
      change f_rdr_nextWord _ _ = some ((px_r3 l).1, _) at n31
      change f_rdr_nextWord _ _ = some ((px_r4 l).1, _) at n41
      change f_rdr_nextWord _ _ = some ((px_r6 l).1, _) at n61
      change px_cd N7 (px_r7 l).2 at n72
      have n54 : ∀ a', (px_r5 l).2 = some a' → v5 = (px_r5 l).1 := n54
      have n74 : ∀ a', (px_r7 l).2 = some a' → v7 = (px_r7 l).1 := n74
      have hF : px_g3 I N7 := fun o k q => by
        rw [n73 o k (by omega), n63 o k (by omega), n53 o k (by omega), n43 o k (by omega), px_u2_ne _ _ _ _ _ _ (by omega), n33 o k (by omega), n23 o k (by omega), n13 o k (by omega), hf0 o k (by omega)]
      have h58 : N7 5 8 = (px_r3 l).1 := by
        rw [n73 5 8 (by omega), n63 5 8 (by omega), n53 5 8 (by omega), n43 5 8 (by omega), px_u2_eq]
      rw [px_gR_5_1, px_bs, px_rc_89, px_bs, px_bnd n11]
      dsimp only
      rw [px_gR_5_1, px_bs, px_rc_89, px_bs, px_bnd n21]
      dsimp only
      rw [px_gR_5_1, px_bs, px_rc_89, px_bs, px_bnd n31]
      dsimp only
      rw [px_pI_5_8, px_bs, px_gR_5_1, px_bs, px_rc_89, px_bs, px_bnd n41]
      dsimp only
      rw [px_gR_5_1, px_bs, px_rc_89, px_bs, px_bnd n51']
      dsimp only
      rw [px_gR_5_1, px_bs, px_rc_89, px_bs, px_bnd n61]
      dsimp only
      rw [px_gR_5_1, px_bs, px_rc_89, px_bs, px_bnd n71']
      dsimp only
      rw [px_gR_5_1, px_bs, px_rc_89, px_bs]
      unfold f_rdr_isGood rc_z1
      rw [px_gI_89_2, px_bs]
      have hvd : px_vd l = if (px_r7 l).2 = none then -1
  else if ((px_r4 l).1 ≠ 0 ∧ (px_r4 l).1 ≠ 1) ∨ ((px_r4 l).1 = 0 ∧ 0 < (px_r5 l).1) then 11
  else if (px_r6 l).1 ≠ 0 ∨ 0 < (px_r7 l).1 then 13
  else if (px_r1 l).1 ≠ 400100 then 1
  else if (px_r2 l).1 ≠ 1 ∧ (px_r2 l).1 ≠ 2 then 2
  else if (px_r3 l).1 < 0 ∨ (if (px_r2 l).1 = 1 then 4 else 6) < (px_r3 l).1 then 3 else 0 := by
        unfold px_vd
        rw [if_neg l12, if_neg (fun q => q w2)]
      cases h7 : (px_r7 l).2 with
      | none =>
        rw [h7] at n72
        have n72 : N7 89 2 = 0 := n72
        rw [n72, if_pos (Or.inl rfl), px_bs]
        dsimp only
        rw [if_pos rfl, hvd, if_pos h7]
        exact ⟨N7, G0, rfl, hF, hG7, fun q => absurd q (by decide)⟩
      | some a =>
        rw [h7] at n72
        obtain ⟨m2, m1⟩ := id n72
        rw [m2, if_pos (Or.inr rfl), px_bs]
        dsimp only
        rw [if_neg (by decide)]
        have h5 : ∃ a', (px_r5 l).2 = some a' := by
          cases q5 : (px_r5 l).2 with
          | some a' => exact ⟨a', rfl⟩
          | none =>
            exfalso
            unfold px_r7 px_r6 at h7
            rw [q5] at h7
            cases h7
        obtain ⟨a5, h5⟩ := h5
        rw [if_neg (show ¬ (px_r7 l).2 = none by rw [h7]; exact Option.some_ne_none a)] at hvd
        rw [n54 a5 h5, n74 a h7, hvd]
        have key : ∀ v : Int32, v ≠ 0 → ∃ I' G', some (v, px_W b N7 V G0 R M p) = some (v, px_W b I' V G' R M p) ∧ px_g3 I I' ∧ (∀ k, G' 7 k = G 7 k) ∧ (v = 0 → px_cx G' R rr l ∧ px_cd I' (some (px_a0 l)) ∧ px_le' l (some (px_a0 l)) ∧ I' 5 8 = (px_r3 l).1 ∧ ¬ (px_r3 l).1 < 0 ∧ (px_r3 l).1 ≤ 6) := fun v hv => ⟨N7, G0, rfl, hF, hG7, fun q => absurd q hv⟩
        have key0 : ¬ (px_r3 l).1 < 0 → (px_r3 l).1 ≤ 6 → ∃ I' G', some ((0 : Int32), px_W b N7 V G0 R M p) = some (0, px_W b I' V G' R M p) ∧ px_g3 I I' ∧ (∀ k, G' 7 k = G 7 k) ∧ ((0 : Int32) = 0 → px_cx G' R rr l ∧ px_cd I' (some (px_a0 l)) ∧ px_le' l (some (px_a0 l)) ∧ I' 5 8 = (px_r3 l).1 ∧ ¬ (px_r3 l).1 < 0 ∧ (px_r3 l).1 ≤ 6) := fun u1 u2 => by
          refine ⟨N7, G0, rfl, hF, hG7, fun _ => ⟨hx, ?_, ?_, h58, u1, u2⟩⟩
          · unfold px_a0; rw [h7]; exact n72
          · unfold px_a0; rw [h7]; intro a' q; cases q; exact px_pb_le (most := 400) (l := l) (st := (px_r6 l).2) a h7
        generalize (px_r1 l).1 = x1 at *
        generalize (px_r2 l).1 = x2 at *
        generalize (px_r3 l).1 = x3 at *
        generalize (px_r4 l).1 = x4 at *
        generalize (px_r5 l).1 = x5 at *
        generalize (px_r6 l).1 = x6 at *
        generalize (px_r7 l).1 = x7 at *
        have nle : ∀ x : Int32, (x ≤ 0) = ¬ (0 < x) := fun x => by rw [Int32.not_lt]
        have tail : ∃ I' G', b_srv_verdictOn_138 (px_W b N7 V G0 R M p) (b + 5) x1 x2 x6 x7 = some (if x6 ≠ 0 ∨ 0 < x7 then 13
  else if x1 ≠ 400100 then 1
  else if x2 ≠ 1 ∧ x2 ≠ 2 then 2
  else if x3 < 0 ∨ (if x2 = 1 then 4 else 6) < x3 then 3 else 0, px_W b I' V G' R M p) ∧ px_g3 I I' ∧ (∀ k, G' 7 k = G 7 k) ∧ ((if x6 ≠ 0 ∨ 0 < x7 then 13
  else if x1 ≠ 400100 then 1
  else if x2 ≠ 1 ∧ x2 ≠ 2 then 2
  else if x3 < 0 ∨ (if x2 = 1 then 4 else 6) < x3 then (3 : Int32) else 0) = 0 → px_cx G' R rr l ∧ px_cd I' (some (px_a0 l)) ∧ px_le' l (some (px_a0 l)) ∧ I' 5 8 = x3 ∧ ¬ x3 < 0 ∧ x3 ≤ 6) := by
          unfold b_srv_verdictOn_138 b_srv_verdictOn_148
          by_cases t6 : x6 = 0
          · rw [if_pos t6]
            by_cases t7 : 0 < x7
            · rw [if_neg (by rw [nle]; exact fun z => z t7), if_pos (Or.inr t7)]
              exact key 13 (by decide)
            · rw [if_pos (by rw [nle]; exact t7), if_neg (show ¬ (x6 ≠ 0 ∨ 0 < x7) from fun z => z.elim (fun u => u t6) t7)]
              by_cases t1 : x1 = 400100
              · rw [if_pos t1, px_rc_5, px_bs, if_neg (show ¬ x1 ≠ 400100 from fun z => z t1)]
                unfold f_srv_verdictOnVersion b_srv_verdictOnVersion_12 b_srv_verdictOnVersion_23 b_srv_verdictOnVersion_39 b_srv_verdictOnVersion_44
                rw [px_gI_5_8, h58]
                by_cases t2 : x2 = 1
                · rw [if_pos t2, if_pos t2, px_bs, if_neg (show ¬ (x2 ≠ 1 ∧ x2 ≠ 2) from fun z => z.1 t2), if_pos t2]
                  by_cases t3 : x3 < 0
                  · rw [if_pos t3, px_bs, if_pos (Or.inl t3)]
                    exact key 3 (by decide)
                  · rw [if_neg t3, px_bs]
                    by_cases t4 : x3 ≤ 4
                    · rw [if_pos t4, px_bs, if_neg (show ¬ (x3 < 0 ∨ 4 < x3) from fun z => z.elim t3 (fun u => (Int32.not_lt.mpr t4) u))]
                      exact key0 t3 (Int32.le_trans t4 (by decide))
                    · rw [if_neg t4, px_bs, if_pos (Or.inr (Int32.not_le.mp t4))]
                      exact key 3 (by decide)
                · rw [if_neg t2, if_neg t2, if_neg t2]
                  by_cases t22 : x2 = 2
                  · rw [if_pos t22, px_bs, if_neg (show ¬ (x2 ≠ 1 ∧ x2 ≠ 2) from fun z => z.2 t22)]
                    by_cases t3 : x3 < 0
                    · rw [if_pos t3, px_bs, if_pos (Or.inl t3)]
                      exact key 3 (by decide)
                    · rw [if_neg t3, px_bs]
                      by_cases t4 : x3 ≤ 6
                      · rw [if_pos t4, px_bs, if_neg (show ¬ (x3 < 0 ∨ 6 < x3) from fun z => z.elim t3 (fun u => (Int32.not_lt.mpr t4) u))]
                        exact key0 t3 t4
                      · rw [if_neg t4, px_bs, if_pos (Or.inr (Int32.not_le.mp t4))]
                        exact key 3 (by decide)
                  · rw [if_neg t22, px_bs, if_pos ⟨t2, t22⟩]
                    exact key 2 (by decide)
              · rw [if_neg t1, if_pos t1]
                exact key 1 (by decide)
          · rw [if_neg t6, if_pos (Or.inl t6)]
            exact key 13 (by decide)
        unfold b_srv_verdictOn_125 b_srv_verdictOn_135
        by_cases t4 : x4 = 0
        · rw [if_pos t4, if_pos t4]
          by_cases t5 : 0 < x5
          · rw [if_neg (by rw [nle]; exact fun z => z t5), if_pos (Or.inr ⟨t4, t5⟩)]
            exact key 11 (by decide)
          · rw [if_pos (by rw [nle]; exact t5), if_neg (show ¬ ((x4 ≠ 0 ∧ x4 ≠ 1) ∨ (x4 = 0 ∧ 0 < x5)) from fun z => z.elim (fun u => u.1 t4) (fun u => t5 u.2))]
            exact tail
        · rw [if_neg t4]
          by_cases t41 : x4 = 1
          · rw [if_pos t41, if_neg t4, if_neg (show ¬ ((x4 ≠ 0 ∧ x4 ≠ 1) ∨ (x4 = 0 ∧ 0 < x5)) from fun z => z.elim (fun u => u.2 t41) (fun u => t4 u.1))]
            exact tail
          · rw [if_neg t41, if_pos (Or.inl ⟨t4, t41⟩)]
            exact key 11 (by decide)
    · have hv : px_vd l = 5 := by unfold px_vd; rw [if_neg l12, if_pos w2]
      rw [if_neg w2, hv]
      exact ⟨I, G, rfl, (px_g2.rf I).g3, fun _ => rfl, fun q => absurd q (by decide)⟩
end PX
