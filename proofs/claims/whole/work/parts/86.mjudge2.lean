/-! THE REFERENCE, 17: judge -/
def px_r1 (l : List UInt8) : Int32 × Option Nat := px_pw l (some 12)
def px_r2 (l : List UInt8) : Int32 × Option Nat := px_pw l (px_r1 l).2
def px_r3 (l : List UInt8) : Int32 × Option Nat := px_pw l (px_r2 l).2
def px_r4 (l : List UInt8) : Int32 × Option Nat := px_pw l (px_r3 l).2
def px_r5 (l : List UInt8) : Int32 × Option Nat := px_pb 400 l (px_r4 l).2
def px_r6 (l : List UInt8) : Int32 × Option Nat := px_pw l (px_r5 l).2
def px_r7 (l : List UInt8) : Int32 × Option Nat := px_pb 400 l (px_r6 l).2
/-- the verdict before a look at what the procedure takes -/
def px_vd (l : List UInt8) : Int32 :=
  if l.length < 12 then -1
  else if rc_wd l 8 ≠ 2 then 5
  else if (px_r7 l).2 = none then -1
  else if ((px_r4 l).1 ≠ 0 ∧ (px_r4 l).1 ≠ 1) ∨ ((px_r4 l).1 = 0 ∧ 0 < (px_r5 l).1) then 11
  else if (px_r6 l).1 ≠ 0 ∨ 0 < (px_r7 l).1 then 13
  else if (px_r1 l).1 ≠ 400100 then 1
  else if (px_r2 l).1 ≠ 1 ∧ (px_r2 l).1 ≠ 2 then 2
  else if (px_r3 l).1 < 0 ∨ (if (px_r2 l).1 = 1 then 4 else 6) < (px_r3 l).1 then 3 else 0
def px_a0 (l : List UInt8) : Nat := (px_r7 l).2.getD 0
def px_vt (l : List UInt8) : Int32 := if px_vd l = 0 ∧ px_end (px_r3 l).1 l (px_a0 l) ≠ some l.length then 4 else px_vd l
/-- the reply's bytes, and the map behind it -/
def px_jd (l : List UInt8) (number : Int32) (mp : px_Mp) : List UInt8 × px_Mp :=
  if px_vt l = 0 then (px_hd number 0 ++ (px_run (px_r3 l).1 l (px_a0 l) mp).1, (px_run (px_r3 l).1 l (px_a0 l) mp).2) else (px_hd number (px_vt l), mp)
def px_fk (M M' : Nat → Nat → Int32) : Prop := ∀ o i, ¬ (o = 336 ∨ o = 321 ∨ o = 322 ∨ (o = 316 ∧ (i = 10 ∨ i = 23 ∨ (27 ≤ i ∧ i ≤ 33)))) → M' o i = M o i
theorem px_fk.tr {M M1 M2 : Nat → Nat → Int32} (h1 : px_fk M M1) (h2 : px_fk M1 M2) : px_fk M M2 := fun o i h => (h2 o i h).trans (h1 o i h)
theorem px_fj.fk {M M' : Nat → Nat → Int32} (h : px_fj M M') : px_fk M M' := fun o i q => h o i (by omega)
theorem px_pb_none (most : Nat) (l : List UInt8) : (px_pb most l none).2 = none := rfl
theorem px_hd_len (number v : Int32) : (px_hd number v).length ≤ 32 := by
  unfold px_hd
  simp only [List.length_append, px_bw_len]
  split <;> split <;> (try split) <;> simp [px_bw_len]
section PX
variable {b : Nat} {I : Nat → Nat → Int32} {V : Nat → Nat → Int64} {G : Nat → Nat → Nat} {R : Nat → List UInt8} {M : Nat → Nat → Int32} {p : px_P} {e : Nat}
theorem pm_judge (c : Nat) (l : List UInt8) (number : Int32) (mp : px_Mp) (hx : px_rx M c l) (hl8 : 8 ≤ l.length) (hm : px_mm M V mp) (ho : px_ot M []) : ∃ M' V', f_mdl_judge (px_W b I V G R M p) (b + 316) number = some (if px_vd l = -1 then 0 else 1, px_W b I V' G R M' p) ∧ px_fk M M' ∧ (∀ o, o ≠ 323 → V' o = V o) ∧ px_mm M' V' (if px_vd l = -1 then mp else (px_jd l number mp).2) ∧ (px_vd l ≠ -1 → px_ot M' (px_jd l number mp).1) ∧ M' 316 23 = (if px_vt l = 0 then M 316 23 + 1 else M 316 23) := by
  have hf0 : px_f4 M (px_u2 (px_u2 M 316 27 8) 316 28 1) := fun o i q => by
    rw [px_u2_ne _ _ _ _ _ _ (by omega), px_u2_ne _ _ _ _ _ _ (by omega)]
  have hs0 : px_rd (px_u2 (px_u2 M 316 27 8) 316 28 1) (some 8) := ⟨px_u2_eq _ _ _ _, by rw [px_u2_ne _ _ _ _ _ _ (by omega), px_u2_eq]; rfl⟩
  have h23 : px_u2 (px_u2 M 316 27 8) 316 28 1 316 23 = M 316 23 := hf0 _ _ (by omega)
  unfold f_mdl_judge
  rw [px_pI_m_27, px_bs, px_pZ_m_28, if_pos (Or.inr rfl), px_bs]
  have hx0 := hf0.rx hx
  have hm0 := hf0.mm hm
  have ho0 := hf0.ot ho
  generalize px_u2 (px_u2 M 316 27 8) 316 28 1 = M0 at *
  obtain ⟨M1, a1, a2, a3⟩ := pm_nextWord (b := b) (I := I) (V := V) (G := G) (R := R) (p := p) (M := M0) c l (some 8) hx0 hs0 (fun a q => by cases q; exact hl8)
  rw [px_rc_m, px_bs, px_bnd a1]
  simp only
  have hF1 : px_fj M M1 := hf0.fj.tr a3.fj
  have h23' : M1 316 23 = M 316 23 := by rw [a3 _ _ (by omega), h23]
  by_cases l12 : l.length < 12
  · have e1 : px_pw l (some 8) = (0, none) := by unfold px_pw; dsimp only; rw [if_neg (by omega)]
    have hv : px_vd l = -1 := by unfold px_vd; rw [if_pos l12]
    have hvt : px_vt l = -1 := by unfold px_vt; rw [hv, if_neg (fun q => absurd q.1 (by decide))]
    rw [e1] at a2
    have h28 : M1 316 28 = 0 := a2
    rw [px_gI_m_28, px_bs, h28, if_pos rfl]
    unfold rc_z1
    rw [if_pos (Or.inl rfl), hv, hvt, if_pos rfl, if_pos rfl, if_neg (by decide)]
    exact ⟨M1, V, rfl, hF1.fk, fun _ _ => rfl, a3.f4.mm hm0, fun q => absurd rfl q, h23'⟩
  · have e1 : px_pw l (some 8) = (rc_wd l 8, some 12) := by unfold px_pw; dsimp only; rw [if_pos (by omega)]
    rw [e1] at a1 a2 ⊢
    dsimp only at a1 a2 ⊢
    obtain ⟨h28, h27⟩ := id a2
    rw [px_gI_m_28, px_bs, h28, if_neg (by decide)]
    have hx1 := a3.f4.rx hx0
    have hm1 := a3.f4.mm hm0
    have ho1 := a3.f4.ot ho0
    have fin_ref : ∀ (M2 : Nat → Nat → Int32) (x cc v : Int32), px_f4 M1 M2 → px_vd l = v → ((x = 0 ∧ cc = 2 ∧ v = 5) ∨ (x = 1 ∧ cc = 1 ∧ v = 11) ∨ (x = 1 ∧ cc = 3 ∧ v = 13)) → ∃ M' V', ((rc_rc (px_W b I V G R M2 p) (some (b + 316)) 7).bind fun a1 => (f_mdl_refuse (px_W b I V G R M2 p) a1 number x cc).bind fun p3 => rc_z1 p3.1 p3.2) = some (if px_vd l = -1 then 0 else 1, px_W b I V' G R M' p) ∧ px_fk M M' ∧ (∀ o, o ≠ 323 → V' o = V o) ∧ px_mm M' V' (if px_vd l = -1 then mp else (px_jd l number mp).2) ∧ (px_vd l ≠ -1 → px_ot M' (px_jd l number mp).1) ∧ M' 316 23 = (if px_vt l = 0 then M 316 23 + 1 else M 316 23) := by
      intro M2 x cc v hf2 hv hxc
      obtain ⟨M3, b1, b2, b3⟩ := pm_refuse (b := b) (I := I) (V := V) (G := G) (R := R) (p := p) (M := M2) number x cc v (hf2.ot ho1) hxc
      have hv0 : ¬ v = 0 := by rcases hxc with ⟨-, -, rfl⟩ | ⟨-, -, rfl⟩ | ⟨-, -, rfl⟩ <;> decide
      have hvm : ¬ v = -1 := by rcases hxc with ⟨-, -, rfl⟩ | ⟨-, -, rfl⟩ | ⟨-, -, rfl⟩ <;> decide
      have hvt : px_vt l = v := by unfold px_vt; rw [hv, if_neg (fun q => hv0 q.1)]
      have hjd : px_jd l number mp = (px_hd number v, mp) := by unfold px_jd; rw [hvt, if_neg hv0]
      rw [px_rc_m, px_bs, px_bnd b1]
      unfold rc_z1
      dsimp only
      rw [if_pos (Or.inr rfl), hv, if_neg hvm, if_neg hvm, hjd, hvt, if_neg hv0]
      refine ⟨M3, V, rfl, (hF1.tr (hf2.fj.tr b3.fj)).fk, fun _ _ => rfl, b3.mm (hf2.mm hm1), fun _ => b2, ?_⟩
      rw [b3 _ _ (by omega), hf2 _ _ (by omega), h23']
    have fin_acc : ∀ (M2 : Nat → Nat → Int32) (v : Int32), px_f4 M1 M2 → px_vd l = v → (v = 1 ∨ v = 2 ∨ v = 3) → ∃ M' V', ((rc_rc (px_W b I V G R M2 p) (some (b + 316)) 7).bind fun a1 => (f_mdl_accept (px_W b I V G R M2 p) a1 number v).bind fun p3 => rc_z1 p3.1 p3.2) = some (if px_vd l = -1 then 0 else 1, px_W b I V' G R M' p) ∧ px_fk M M' ∧ (∀ o, o ≠ 323 → V' o = V o) ∧ px_mm M' V' (if px_vd l = -1 then mp else (px_jd l number mp).2) ∧ (px_vd l ≠ -1 → px_ot M' (px_jd l number mp).1) ∧ M' 316 23 = (if px_vt l = 0 then M 316 23 + 1 else M 316 23) := by
      intro M2 v hf2 hv hxc
      obtain ⟨M3, b1, b2, b3⟩ := pm_accept (b := b) (I := I) (V := V) (G := G) (R := R) (p := p) (M := M2) number v (hf2.ot ho1) (by rcases hxc with rfl | rfl | rfl <;> decide) (by rcases hxc with rfl | rfl | rfl <;> decide)
      have hv0 : ¬ v = 0 := by rcases hxc with rfl | rfl | rfl <;> decide
      have hvm : ¬ v = -1 := by rcases hxc with rfl | rfl | rfl <;> decide
      have hvt : px_vt l = v := by unfold px_vt; rw [hv, if_neg (fun q => hv0 q.1)]
      have hjd : px_jd l number mp = (px_hd number v, mp) := by unfold px_jd; rw [hvt, if_neg hv0]
      rw [px_rc_m, px_bs, px_bnd b1]
      unfold rc_z1
      dsimp only
      rw [if_pos (Or.inr rfl), hv, if_neg hvm, if_neg hvm, hjd, hvt, if_neg hv0]
      refine ⟨M3, V, rfl, (hF1.tr (hf2.fj.tr b3.fj)).fk, fun _ _ => rfl, b3.mm (hf2.mm hm1), fun _ => b2, ?_⟩
      rw [b3 _ _ (by omega), hf2 _ _ (by omega), h23']
    by_cases w2 : rc_wd l 8 = 2
    · rw [if_pos w2]
      obtain ⟨N1, n11, n12, n13⟩ := pm_nextWord (b := b) (I := I) (V := V) (G := G) (R := R) (p := p) (M := M1) c l (some 12) hx1 a2 (fun a q => by cases q; omega)
      obtain ⟨N2, n21, n22, n23⟩ := pm_nextWord (b := b) (I := I) (V := V) (G := G) (R := R) (p := p) (M := N1) c l _ (n13.f4.rx hx1) n12 px_pw_le
      have F2 := n13.tr n23
      obtain ⟨N3, n31, n32, n33⟩ := pm_nextWord (b := b) (I := I) (V := V) (G := G) (R := R) (p := p) (M := N2) c l _ (F2.f4.rx hx1) n22 px_pw_le
      have F3 := F2.tr n33
      obtain ⟨N4, n41, n42, n43⟩ := pm_nextWord (b := b) (I := I) (V := V) (G := G) (R := R) (p := p) (M := N3) c l _ (F3.f4.rx hx1) n32 px_pw_le
      have F4 := F3.tr n43
      obtain ⟨v5, N5, n51, n52, n53, n54⟩ := pm_nextBytes (b := b) (I := I) (V := V) (G := G) (R := R) (p := p) (M := N4) 400 c l _ (by omega) (F4.f4.rx hx1) n42 px_pw_le
      have F5 := F4.f4.tr n53
      obtain ⟨N6, n61, n62, n63⟩ := pm_nextWord (b := b) (I := I) (V := V) (G := G) (R := R) (p := p) (M := N5) c l _ (F5.rx hx1) n52 px_pb_le
      have F6 := F5.tr n63.f4
      obtain ⟨v7, N7, n71, n72, n73, n74⟩ := pm_nextBytes (b := b) (I := I) (V := V) (G := G) (R := R) (p := p) (M := N6) 400 c l _ (by omega) (F6.rx hx1) n62 px_pw_le
      have F7 := F6.tr n73
      have n51' : f_mdl_nextBytes (px_W b I V G R N4 p) (b + 316) 400 = some (v5, px_W b I V G R N5 p) := n51
      have n71' : f_mdl_nextBytes (px_W b I V G R N6 p) (b + 316) 400 = some (v7, px_W b I V G R N7 p) := n71
      change f_mdl_nextWord _ _ = some ((px_r1 l).1, _) at n11
      change f_mdl_nextWord _ _ = some ((px_r2 l).1, _) at n21
      change f_mdl_nextWord _ _ = some ((px_r3 l).1, _) at n31
      change f_mdl_nextWord _ _ = some ((px_r4 l).1, _) at n41
      change f_mdl_nextWord _ _ = some ((px_r6 l).1, _) at n61
      change ∀ a', (px_r5 l).2 = some a' → v5 = (px_r5 l).1 ∧ _ at n54
      change ∀ a', (px_r7 l).2 = some a' → v7 = (px_r7 l).1 ∧ _ at n74
      change px_rd N7 (px_r7 l).2 at n72
      rw [px_rc_m, px_bs, px_bnd n11]
      dsimp only
      rw [px_rc_m, px_bs, px_bnd n21]
      dsimp only
      rw [px_rc_m, px_bs, px_bnd n31]
      dsimp only
      rw [px_rc_m, px_bs, px_bnd n41]
      dsimp only
      rw [px_rc_m, px_bs, px_bnd n51']
      dsimp only
      rw [px_rc_m, px_bs, px_bnd n61]
      dsimp only
      rw [px_rc_m, px_bs, px_bnd n71']
      dsimp only
      rw [px_gI_m_28, px_bs]
      have hvd : px_vd l = if (px_r7 l).2 = none then -1
          else if ((px_r4 l).1 ≠ 0 ∧ (px_r4 l).1 ≠ 1) ∨ ((px_r4 l).1 = 0 ∧ 0 < (px_r5 l).1) then 11
          else if (px_r6 l).1 ≠ 0 ∨ 0 < (px_r7 l).1 then 13
          else if (px_r1 l).1 ≠ 400100 then 1
          else if (px_r2 l).1 ≠ 1 ∧ (px_r2 l).1 ≠ 2 then 2
          else if (px_r3 l).1 < 0 ∨ (if (px_r2 l).1 = 1 then 4 else 6) < (px_r3 l).1 then 3 else 0 := by
        unfold px_vd
        rw [if_neg l12, if_neg (by simp [w2])]
      cases h7 : (px_r7 l).2 with
      | none =>
        rw [h7, if_pos rfl] at hvd
        rw [h7] at n72
        have h28' : N7 316 28 = 0 := n72
        have hvt : px_vt l = -1 := by unfold px_vt; rw [hvd, if_neg (fun q => absurd q.1 (by decide))]
        rw [h28', if_pos rfl]
        unfold rc_z1
        rw [if_pos (Or.inl rfl), hvd, hvt, if_pos rfl, if_pos rfl, if_neg (by decide)]
        exact ⟨N7, V, rfl, (hF1.tr F7.fj).fk, fun _ _ => rfl, F7.mm hm1, fun q => absurd rfl q, by rw [F7 _ _ (by omega), h23']⟩
      | some a =>
        rw [h7, if_neg (by simp)] at hvd
        rw [h7] at n72
        obtain ⟨h28', h27'⟩ := n72
        have e7 := (n74 a h7).1
        have e5 : v5 = (px_r5 l).1 := by
          cases h5 : (px_r5 l).2 with
          | none =>
            exfalso
            have q6 : (px_r6 l).2 = none := by unfold px_r6; rw [h5]; rfl
            have q7 : (px_r7 l).2 = none := by unfold px_r7; rw [q6]; rfl
            rw [q7] at h7; cases h7
          | some a5 => exact (n54 a5 h5).1
        subst e7 e5
        have ha : a ≤ l.length := px_pb_le a h7
        have ha0 : px_a0 l = a := by unfold px_a0; rw [h7]; rfl
        rw [h28', if_neg (by decide)]
        have J105 : (¬ ((px_r4 l).1 ≠ 0 ∧ (px_r4 l).1 ≠ 1)) → ∃ M' V', b_mdl_judge_105 (px_W b I V G R N7 p) (b + 316) number (px_r1 l).1 (px_r2 l).1 (px_r3 l).1 (px_r4 l).1 (px_r5 l).1 (px_r6 l).1 (px_r7 l).1 = some (if px_vd l = -1 then 0 else 1, px_W b I V' G R M' p) ∧ px_fk M M' ∧ (∀ o, o ≠ 323 → V' o = V o) ∧ px_mm M' V' (if px_vd l = -1 then mp else (px_jd l number mp).2) ∧ (px_vd l ≠ -1 → px_ot M' (px_jd l number mp).1) ∧ M' 316 23 = (if px_vt l = 0 then M 316 23 + 1 else M 316 23) := by
          intro hw
          have J123 : ¬ (((px_r4 l).1 ≠ 0 ∧ (px_r4 l).1 ≠ 1) ∨ ((px_r4 l).1 = 0 ∧ 0 < (px_r5 l).1)) → ∃ M' V', b_mdl_judge_123 (px_W b I V G R N7 p) (b + 316) number (px_r1 l).1 (px_r2 l).1 (px_r3 l).1 (px_r6 l).1 (px_r7 l).1 = some (if px_vd l = -1 then 0 else 1, px_W b I V' G R M' p) ∧ px_fk M M' ∧ (∀ o, o ≠ 323 → V' o = V o) ∧ px_mm M' V' (if px_vd l = -1 then mp else (px_jd l number mp).2) ∧ (px_vd l ≠ -1 → px_ot M' (px_jd l number mp).1) ∧ M' 316 23 = (if px_vt l = 0 then M 316 23 + 1 else M 316 23) := by
            intro hw2
            rw [if_neg hw2] at hvd
            unfold b_mdl_judge_123 b_mdl_judge_133
            by_cases k6 : (px_r6 l).1 = 0
            · rw [if_pos k6]
              by_cases k7 : (px_r7 l).1 ≤ 0
              · rw [if_pos k7]
                rw [if_neg (fun q => q.elim (fun z => z k6) (fun z => absurd k7 (Int32.not_le.mpr z)))] at hvd
                by_cases k1 : (px_r1 l).1 = 400100
                · rw [if_pos k1]
                  rw [if_neg (by simp [k1])] at hvd
                  have J173 : ((px_r2 l).1 = 1 ∨ (px_r2 l).1 = 2) → ∃ M' V', b_mdl_judge_173 (px_W b I V G R N7 p) (b + 316) number (px_r2 l).1 (px_r3 l).1 = some (if px_vd l = -1 then 0 else 1, px_W b I V' G R M' p) ∧ px_fk M M' ∧ (∀ o, o ≠ 323 → V' o = V o) ∧ px_mm M' V' (if px_vd l = -1 then mp else (px_jd l number mp).2) ∧ (px_vd l ≠ -1 → px_ot M' (px_jd l number mp).1) ∧ M' 316 23 = (if px_vt l = 0 then M 316 23 + 1 else M 316 23) := by
                    intro hv12
                    rw [if_neg (fun q => hv12.elim q.1 q.2)] at hvd
                    unfold b_mdl_judge_173
                    by_cases k3 : (px_r3 l).1 < 0
                    · rw [if_pos k3]
                      rw [if_pos (Or.inl k3)] at hvd
                      exact fin_acc N7 3 F7 hvd (Or.inr (Or.inr rfl))
                    · rw [if_neg k3]
                      have J192 : ∀ lim : Int32, lim = (if (px_r2 l).1 = 1 then 4 else 6) → ∃ M' V', b_mdl_judge_192 (px_W b I V G R N7 p) (b + 316) number (px_r3 l).1 (px_r3 l).1 lim = some (if px_vd l = -1 then 0 else 1, px_W b I V' G R M' p) ∧ px_fk M M' ∧ (∀ o, o ≠ 323 → V' o = V o) ∧ px_mm M' V' (if px_vd l = -1 then mp else (px_jd l number mp).2) ∧ (px_vd l ≠ -1 → px_ot M' (px_jd l number mp).1) ∧ M' 316 23 = (if px_vt l = 0 then M 316 23 + 1 else M 316 23) := by
                        intro lim hlim
                        rw [← hlim] at hvd
                        unfold b_mdl_judge_192 b_mdl_judge_195
                        by_cases k4 : (px_r3 l).1 ≤ lim
                        · rw [if_pos k4]
                          rw [if_neg (fun q => q.elim k3 (fun z => absurd k4 (Int32.not_le.mpr z)))] at hvd
                          have hp6 : (px_r3 l).1 ≤ 6 := by
                            refine Int32.le_trans k4 ?_
                            rw [hlim]; split <;> decide
                          have hx7 := F7.rx hx1
                          have hm7 := F7.mm hm1
                          have ho7 := F7.ot ho1
                          obtain ⟨T1, t1, t2, t3, t4⟩ := pm_takes (b := b) (I := I) (V := V) (G := G) (R := R) (p := p) (M := N7) c a l (px_r3 l).1 hx7 ⟨h28', h27'⟩ ha
                          have ft : px_fj N7 T1 := fun o i q => t2 o i (by omega)
                          have hot : px_ot T1 [] := ⟨by rw [t2 _ _ (by omega)]; exact ho7.1, fun i hi => by simp at hi⟩
                          have hmt : px_mm T1 V mp := by
                            obtain ⟨m1, m2, m3⟩ := hm7
                            refine ⟨by rw [t2 _ _ (by omega)]; exact m1, m2, fun k hk => ?_⟩
                            obtain ⟨q1, q2, q3, q4⟩ := m3 k hk
                            exact ⟨q1, by rw [t2 _ _ (by omega)]; exact q2, fun i hi => by rw [t2 _ _ (by omega)]; exact q3 i hi, q4⟩
                          have h23t : T1 316 23 = M 316 23 := by rw [t2 _ _ (by omega), F7 _ _ (by omega), h23']
                          rw [px_rc_m, px_bs, px_bnd t1]
                          dsimp only
                          by_cases ke : px_end (px_r3 l).1 l a = some l.length
                          · have hvt : px_vt l = 0 := by unfold px_vt; rw [hvd, ha0, if_neg (fun q => q.2 ke)]
                            have hjd : px_jd l number mp = (px_hd number 0 ++ (px_run (px_r3 l).1 l a mp).1, (px_run (px_r3 l).1 l a mp).2) := by unfold px_jd; rw [hvt, if_pos rfl, ha0]
                            rw [if_pos ke, if_neg (by decide), px_gI_m_23, px_bs, px_pI_m_23, px_bs]
                            have fd : ∀ o i, ¬ (o = 316 ∧ i = 23) → px_u2 T1 316 23 (T1 316 23 + 1) o i = T1 o i := fun o i q => px_u2_ne _ _ _ _ _ _ q
                            have fd23 : px_u2 T1 316 23 (T1 316 23 + 1) 316 23 = M 316 23 + 1 := by rw [px_u2_eq, h23t]
                            generalize px_u2 T1 316 23 (T1 316 23 + 1) = T2 at fd fd23 ⊢
                            have hot2 : px_ot T2 [] := ⟨by rw [fd _ _ (by omega)]; exact hot.1, fun i hi => by simp at hi⟩
                            have hmt2 : px_mm T2 V mp := by
                              obtain ⟨m1, m2, m3⟩ := hmt
                              refine ⟨by rw [fd _ _ (by omega)]; exact m1, m2, fun k hk => ?_⟩
                              obtain ⟨q1, q2, q3, q4⟩ := m3 k hk
                              exact ⟨q1, by rw [fd _ _ (by omega)]; exact q2, fun i hi => by rw [fd _ _ (by omega)]; exact q3 i hi, q4⟩
                            obtain ⟨T3, u1, u2, u3⟩ := pm_accept (b := b) (I := I) (V := V) (G := G) (R := R) (p := p) (M := T2) number 0 hot2 (by decide) (by decide)
                            have hx3 : px_rx T3 c l := (u3.fj.rx (by obtain ⟨h1, h2, h3, h4, h5⟩ := ft.rx hx7; exact ⟨h1, by rw [fd _ _ (by omega)]; exact h2, by rw [fd _ _ (by omega)]; exact h3, fun i hi => by rw [fd _ _ (by omega)]; exact h4 i hi, h5⟩))
                            obtain ⟨T4, V4, r1, r2, r3, r4, r5⟩ := pm_run (b := b) (I := I) (V := V) (G := G) (R := R) (p := p) (M := T3) c a l mp (px_hd number 0) (px_r3 l).1 (by have : (px_hd number 0).length = 24 := rfl; omega) hx3 (by rw [u3 _ _ (by omega), fd _ _ (by omega)]; exact t3) (by rw [u3 _ _ (by omega), fd _ _ (by omega), t4, ke]; rfl) ha (u3.mm hmt2) u2 ke k3 hp6
                            rw [px_rc_m, px_bs, px_bnd u1]
                            dsimp only
                            rw [px_rc_m, px_bs, px_bnd r1]
                            unfold rc_z1
                            rw [if_pos (Or.inr rfl), hvd, hvt, hjd, if_neg (by decide), if_neg (by decide), if_pos rfl]
                            refine ⟨T4, V4, rfl, ((hF1.tr (F7.fj.tr ft)).fk).tr ((show px_fk T1 T2 from fun o i q => fd o i (by omega)).tr (u3.fj.tr r4).fk), r5, r3, fun _ => r2, ?_⟩
                            rw [r4 _ _ (by omega), u3 _ _ (by omega), fd23]
                          · have hvt : px_vt l = 4 := by unfold px_vt; rw [hvd, ha0, if_pos ⟨rfl, ke⟩]
                            have hjd : px_jd l number mp = (px_hd number 4, mp) := by unfold px_jd; rw [hvt, if_neg (by decide)]
                            obtain ⟨T3, u1, u2, u3⟩ := pm_accept (b := b) (I := I) (V := V) (G := G) (R := R) (p := p) (M := T1) number 4 hot (by decide) (by decide)
                            rw [if_neg ke, if_pos rfl, px_rc_m, px_bs, px_bnd u1]
                            unfold rc_z1
                            dsimp only
                            rw [if_pos (Or.inr rfl), hvd, hvt, hjd, if_neg (by decide), if_neg (by decide), if_neg (by decide)]
                            exact ⟨T3, V, rfl, (hF1.tr (F7.fj.tr (ft.tr u3.fj))).fk, fun _ _ => rfl, u3.mm hmt, fun _ => u2, by rw [u3 _ _ (by omega), h23t]⟩
                        · rw [if_neg k4]
                          rw [if_pos (Or.inr (Int32.not_le.mp k4))] at hvd
                          exact fin_acc N7 3 F7 hvd (Or.inr (Or.inr rfl))
                      by_cases kv : (px_r2 l).1 = 1
                      · rw [if_pos kv]; exact J192 4 (by rw [if_pos kv])
                      · rw [if_neg kv]; exact J192 6 (by rw [if_neg kv])
                  by_cases kv : (px_r2 l).1 = 1
                  · rw [if_pos kv]; exact J173 (Or.inl kv)
                  · rw [if_neg kv]
                    by_cases kv2 : (px_r2 l).1 = 2
                    · rw [if_pos kv2]; exact J173 (Or.inr kv2)
                    · rw [if_neg kv2]
                      rw [if_pos ⟨kv, kv2⟩] at hvd
                      exact fin_acc N7 2 F7 hvd (Or.inr (Or.inl rfl))
                · rw [if_neg k1]
                  rw [if_pos k1] at hvd
                  exact fin_acc N7 1 F7 hvd (Or.inl rfl)
              · rw [if_neg k7]
                rw [if_pos (Or.inr (Int32.not_le.mp k7))] at hvd
                exact fin_ref N7 1 3 13 F7 hvd (Or.inr (Or.inr ⟨rfl, rfl, rfl⟩))
            · rw [if_neg k6]
              rw [if_pos (Or.inl k6)] at hvd
              exact fin_ref N7 1 3 13 F7 hvd (Or.inr (Or.inr ⟨rfl, rfl, rfl⟩))
          unfold b_mdl_judge_105 b_mdl_judge_115
          by_cases k4 : (px_r4 l).1 = 0
          · rw [if_pos k4]
            by_cases k5 : (px_r5 l).1 ≤ 0
            · rw [if_pos k5]
              exact J123 (fun q => q.elim hw (fun z => absurd k5 (Int32.not_le.mpr z.2)))
            · rw [if_neg k5]
              rw [if_pos (Or.inr ⟨k4, Int32.not_le.mp k5⟩)] at hvd
              exact fin_ref N7 1 1 11 F7 hvd (Or.inr (Or.inl ⟨rfl, rfl, rfl⟩))
          · rw [if_neg k4]
            exact J123 (fun q => q.elim hw (fun z => k4 z.1))
        by_cases k4 : (px_r4 l).1 = 0
        · rw [if_pos k4]; exact J105 (fun q => q.1 k4)
        · rw [if_neg k4]
          by_cases k4' : (px_r4 l).1 = 1
          · rw [if_pos k4']; exact J105 (fun q => q.2 k4')
          · rw [if_neg k4']
            rw [if_pos (Or.inl ⟨k4, k4'⟩)] at hvd
            unfold b_mdl_judge_115
            exact fin_ref N7 1 1 11 F7 hvd (Or.inr (Or.inl ⟨rfl, rfl, rfl⟩))
    · rw [if_neg w2]
      exact fin_ref M1 0 2 5 (fun _ _ _ => rfl) (by unfold px_vd; rw [if_neg l12, if_pos w2]) (Or.inl ⟨rfl, rfl, rfl⟩)
end PX
