/-! THE REFERENCE, 16: run and judge -/
theorem px_lng_of {l : List UInt8} {a a2 : Nat} (h : (px_pw l (px_pw l (some a)).2).2 = some a2) : ((px_pw l (some a)).1.toInt64 <<< ((32 : Int32).toInt64 &&& 63)) ||| ((px_pw l (px_pw l (some a)).2).1.toInt64 &&& 4294967295) = px_lng l a ∧ a2 = a + 8 ∧ a + 8 ≤ l.length := by
  obtain ⟨a', ha'⟩ : ∃ a', (px_pw l (some a)).2 = some a' := by
    cases q : (px_pw l (some a)).2 with
    | none => rw [q] at h; cases h
    | some a' => exact ⟨a', rfl⟩
  obtain ⟨e1, e2, e3⟩ := px_pw_some ha'
  rw [ha'] at h ⊢
  obtain ⟨f1, f2, f3⟩ := px_pw_some h
  rw [e3, f3, e1]
  exact ⟨rfl, by omega, by omega⟩
section PX
variable {b : Nat} {I : Nat → Nat → Int32} {V : Nat → Nat → Int64} {G : Nat → Nat → Nat} {R : Nat → List UInt8} {M : Nat → Nat → Int32} {p : px_P} {e : Nat}
theorem pm_run (c a : Nat) (l : List UInt8) (mp : px_Mp) (out : List UInt8) (proc : Int32) (hol : out.length ≤ 30) (hx : px_rx M c l) (h33 : M 316 33 = nI a) (h28 : M 316 28 = 1) (ha : a ≤ l.length) (hm : px_mm M V mp) (ho : px_ot M out) (he : px_end proc l a = some l.length) (hp0 : ¬ proc < 0) (hp6 : proc ≤ 6) : ∃ M' V', f_mdl_run (px_W b I V G R M p) (b + 316) proc = some (px_W b I V' G R M' p) ∧ px_ot M' (out ++ (px_run proc l a mp).1) ∧ px_mm M' V' (px_run proc l a mp).2 ∧ px_fj M M' ∧ ∀ o, o ≠ 323 → V' o = V o := by
  have hf0 : px_f4 M (px_u2 M 316 27 (nI a)) := fun o i q => px_u2_ne _ _ _ _ _ _ (by omega)
  have hs0 : px_rd (px_u2 M 316 27 (nI a)) (some a) := ⟨by rw [px_u2_ne _ _ _ _ _ _ (by omega)]; exact h28, px_u2_eq _ _ _ _⟩
  have hx0 := hf0.rx hx
  have hm0 := hf0.mm hm
  have ho0 := hf0.ot ho
  have hle0 : px_le' l (some a) := fun a' q => by cases q; exact ha
  unfold f_mdl_run b_mdl_run_149
  rw [px_gI_m_33, px_bs, h33, px_pI_m_27, px_bs]
  generalize px_u2 M 316 27 (nI a) = M0 at *
  unfold px_run
  by_cases c4 : proc = 4
  · subst c4
    unfold px_end at he
    rw [if_neg (by decide), if_neg (by decide), if_pos rfl] at he
    obtain ⟨M1, a1, a2, a3⟩ := pm_nextWord (b := b) (I := I) (V := V) (G := G) (R := R) (p := p) (M := M0) c l (some a) hx0 hs0 hle0
    obtain ⟨a', ha'⟩ : ∃ a', (px_pw l (some a)).2 = some a' := by
      cases q : px_pw l (some a) with
      | mk n s => cases s with
        | none => rw [q] at he; cases he
        | some a' => exact ⟨a', rfl⟩
    obtain ⟨e1, e2, e3⟩ := px_pw_some ha'
    have hpw : px_pw l (some a) = (rc_wd l a, some a') := Prod.ext e3 ha'
    rw [hpw] at he a1 a2
    dsimp only at he a1 a2
    split at he
    · cases he
    · rename_i d
      obtain ⟨k, hk, e⟩ := nI_of (fun z => d (Or.inl z))
      have hk8 : k ≤ 8 := by
        have : ¬ (8 : Int32) < nI k := fun z => d (Or.inr (by rw [e]; exact z))
        rw [show (8 : Int32) = nI 8 from rfl, px_lt (by decide) hk] at this
        omega
      rw [e] at he a1 ⊢
      rw [nI_clamp hk] at he
      obtain ⟨M2, b1, b2, b3, b4⟩ := pm_sum_go (b := b) (I := I) (V := V) (G := G) (R := R) (p := p) c l mp k hk8 out (by omega) k 0 a' 5000 0 0 M1 (by omega) (by omega) (a3.f4.rx hx0) a2 (by omega) (a3.f4.mm hm0) (a3.f4.ot ho0) (by rw [he]; rfl)
      rw [nI_0] at b1
      refine ⟨M2, V, ?_, ?_, ?_, hf0.fj.tr (a3.fj.tr b4), fun _ _ => rfl⟩
      · rw [if_pos rfl, px_rc_m, px_bs]
        unfold f_mdl_runSum
        rw [px_rc_m, px_bs, px_bnd a1]
        simp only
        rw [b1, px_bs]
      · rw [if_pos rfl, nI_clamp hk, ← e1]; exact b2
      · rw [if_pos rfl]; exact b3
  · rw [if_neg c4]
    by_cases c5 : proc = 5
    · subst c5
      unfold px_end at he
      rw [if_neg (by decide), if_neg (by decide), if_neg (by decide), if_pos rfl] at he
      obtain ⟨M1, a1, a2, a3, a4⟩ := pm_runList (b := b) (I := I) (V := V) (G := G) (R := R) (p := p) (M := M0) c a l mp out hol hx0 hs0 ha hm0 ho0 (by rw [he]; rfl)
      refine ⟨M1, V, ?_, ?_, ?_, hf0.fj.tr a4, fun _ _ => rfl⟩
      · rw [if_pos rfl, px_rc_m, px_bs, px_bnd a1]
      · rw [if_neg (by decide), if_pos rfl]; exact a2
      · rw [if_neg (by decide), if_pos rfl]; exact a3
    · rw [if_neg c5, if_neg c4, if_neg c5]
      by_cases c0 : proc ≤ 0
      · rw [if_pos c0, if_pos c0]
        refine ⟨M0, V, rfl, ?_, hm0, hf0.fj, fun _ _ => rfl⟩
        rw [List.append_nil]; exact ho0
      · rw [if_neg c0, if_neg c0]
        have hcase : proc = 1 ∨ proc = 2 ∨ proc = 3 ∨ proc = 6 := by
          obtain ⟨j, hj, rfl⟩ := nI_of hp0
          rw [show (6 : Int32) = nI 6 from rfl, px_le hj (by decide)] at hp6
          rw [px_le0 hj] at c0
          rw [show (4 : Int32) = nI 4 from rfl, px_eq hj (by decide)] at c4
          rw [show (5 : Int32) = nI 5 from rfl, px_eq hj (by decide)] at c5
          rw [show (6 : Int32) = nI 6 from rfl, show (2 : Int32) = nI 2 from rfl, show (3 : Int32) = nI 3 from rfl, show (1 : Int32) = nI 1 from rfl, px_eq hj (by decide), px_eq hj (by decide), px_eq hj (by decide), px_eq hj (by decide)]
          omega
        obtain ⟨a', hpb⟩ : ∃ a', (px_pb 16 l (some a)).2 = some a' := by
          unfold px_end at he
          cases q : (px_pb 16 l (some a)).2 with
          | none =>
            rw [q] at he
            rcases hcase with rfl | rfl | rfl | rfl
            · rw [if_pos (Or.inl rfl)] at he; cases he
            · rw [if_neg (by decide), if_pos (Or.inl rfl)] at he; cases he
            · rw [if_pos (Or.inr rfl)] at he; cases he
            · rw [if_neg (by decide), if_pos (Or.inr rfl)] at he; cases he
          | some a' => exact ⟨a', rfl⟩
        obtain ⟨v, M1, a1, a2, a3, a4, a5, a6⟩ := pm_key (b := b) (I := I) (V := V) (G := G) (R := R) (p := p) (M := M0) c a a' l mp hx0 hs0 ha hm0 hpb
        obtain ⟨kk, c1, c2, c3, cc4, cc5, cc6, cc7, cc8⟩ := px_pb_some (by decide) hpb
        have hx1 := a4.rx hx0
        have hm1 := a4.mm hm0
        have ho1 := a4.ot ho0
        rw [px_rc_m, px_bs, px_bnd a1]
        simp only
        rw [px_rc_m, px_bs, px_bnd a2]
        simp only
        have h40 := hm.2.1
        have hlg : (proc = 1 ∨ proc = 3) → ∃ M2, f_mdl_nextLong (px_W b I V G R M1 p) (b + 316) = some (px_lng l (px_nx l a), px_W b I V G R M2 p) ∧ px_f2 M1 M2 := by
          intro q
          obtain ⟨M2, b1, b2, b3⟩ := pm_nextLong (b := b) (I := I) (V := V) (G := G) (R := R) (p := p) (M := M1) c l (some a') hx1 a3 (fun _ q => by cases q; exact cc6)
          unfold px_end at he
          rw [if_pos q, hpb] at he
          obtain ⟨l1, l2, l3⟩ := px_lng_of he
          rw [l1, cc5] at b1
          exact ⟨M2, b1, b3⟩
        cases hpl : px_pl mp (px_key l a) with
        | none =>
          rw [show px_pi none = -1 from rfl]
          have hneg : ((-1 : Int32) < 0) := by decide
          by_cases p1 : proc = 1
          · obtain ⟨M2, b1, b3⟩ := hlg (Or.inl p1)
            have hx2 := b3.f4.rx hx1
            have hkf : kk ≤ px_fi kk := by unfold px_fi; omega
            obtain ⟨M3, V3, d1, d2, d3, d4, d5⟩ := pm_runPut_none (b := b) (I := I) (V := V) (G := G) (R := R) (p := p) (M := M2) (px_key l a) c (a + 4) (px_lng l (px_nx l a)) mp out (b3.f4.mm hm1) (b3.f4.ot ho1) (by omega) hx2.1 (by have := hx2.2.2.2.2; omega) (by omega) (by rw [b3 _ _ (by omega)]; exact a5) (by rw [b3 _ _ (by omega)]; exact a6) hx2.2.1 (by rw [cc8]; exact px_agr_part hx2.2.2.2.1 (by omega))
            refine ⟨M3, V3, ?_, ?_, ?_, hf0.fj.tr (a4.fj.tr (b3.fj.tr d4)), d5⟩
            · rw [if_pos p1, px_rc_m, px_bs, px_bnd b1]
              simp only
              rw [px_rc_m, px_bs, px_bnd d1]
            · dsimp only
              rw [if_pos p1]
              split at d2 <;> rename_i q <;> simp only [q, if_true, if_false] <;> exact d2
            · dsimp only
              rw [if_pos p1]
              split at d3 <;> rename_i q <;> simp only [q, if_true, if_false] <;> exact d3
          · rw [if_neg p1]
            dsimp only
            rw [if_neg p1, if_pos hneg]
            by_cases p6 : proc = 6
            · obtain ⟨M2, b1, b2, b3⟩ := pm_outWord (b := b) (I := I) (V := V) (G := G) (R := R) (p := p) 0 out ho1 (by omega)
              refine ⟨M2, V, ?_, ?_, ?_, hf0.fj.tr (a4.fj.tr b3.fj), fun _ _ => rfl⟩
              · rw [if_pos p6]
                unfold b_mdl_run_81 b_mdl_run_149
                rw [px_rc_m, px_bs, px_bnd b1, if_pos hneg]
              · rw [if_pos p6]; exact b2
              · rw [if_pos p6]; exact b3.mm hm1
            · obtain ⟨M2, b1, b2, b3⟩ := pm_outWord (b := b) (I := I) (V := V) (G := G) (R := R) (p := p) 2 out ho1 (by omega)
              refine ⟨M2, V, ?_, ?_, ?_, hf0.fj.tr (a4.fj.tr b3.fj), fun _ _ => rfl⟩
              · rw [if_neg p6, if_pos hneg]
                unfold b_mdl_run_122 b_mdl_run_132 b_mdl_run_149
                rw [if_pos hneg, px_rc_m, px_bs, px_bnd b1, if_pos hneg]
              · rw [if_neg p6]; exact b2
              · rw [if_neg p6]; exact b3.mm hm1
        | some i =>
          have hi := (px_pl_lt hpl).1
          have hneg : ¬ (nI i < 0) := nI_pos (by omega)
          rw [show px_pi (some i) = nI i from rfl]
          by_cases p1 : proc = 1
          · obtain ⟨M2, b1, b3⟩ := hlg (Or.inl p1)
            obtain ⟨M3, V3, d1, d2, d3, d4, d5⟩ := pm_runPut_some (b := b) (I := I) (V := V) (G := G) (R := R) (p := p) (M := M2) i (px_lng l (px_nx l a)) mp out (b3.f4.mm hm1) hi (b3.f4.ot ho1) (by omega)
            refine ⟨M3, V3, ?_, ?_, ?_, hf0.fj.tr (a4.fj.tr (b3.fj.tr d4)), d5⟩
            · rw [if_pos p1, px_rc_m, px_bs, px_bnd b1]
              simp only
              rw [px_rc_m, px_bs, px_bnd d1]
            · dsimp only
              rw [if_pos p1]; exact d2
            · dsimp only
              rw [if_pos p1]; exact d3
          · rw [if_neg p1]
            dsimp only
            rw [if_neg p1, if_neg hneg]
            by_cases p6 : proc = 6
            · obtain ⟨M2, b1, b2, b3⟩ := pm_outWord (b := b) (I := I) (V := V) (G := G) (R := R) (p := p) 1 out ho1 (by omega)
              obtain ⟨M3, V3, d1, d2, d3, d4⟩ := pm_remove (b := b) (I := I) (V := V) (G := G) (R := R) (p := p) mp i hi (b3.mm hm1)
              refine ⟨M3, V3, ?_, ?_, ?_, hf0.fj.tr (a4.fj.tr (b3.fj.tr (fun o j q => d3 o j (by omega)))), d4⟩
              · rw [if_pos p6]
                unfold b_mdl_run_81 b_mdl_run_149
                rw [px_rc_m, px_bs, px_bnd b1, if_neg hneg, px_rc_m, px_bs, px_bnd d1]
              · rw [if_pos p6]
                exact ⟨by rw [d3 _ _ (by omega)]; exact b2.1, fun j hj => by rw [d3 _ _ (by omega)]; exact b2.2 j hj⟩
              · rw [if_pos p6]; exact d2
            · rw [if_neg p6, if_neg hneg]
              rw [if_neg p6]
              by_cases p3 : proc = 3
              · obtain ⟨M2, b1, b3⟩ := hlg (Or.inr p3)
                have hm2 := px_mm_set (v := (px_k mp i).2 + px_lng l (px_nx l a)) (b3.f4.mm hm1) hi
                have ho2 := b3.f4.ot ho1
                obtain ⟨M3, d1, d2, d3⟩ := pm_outWord (b := b) (I := I) (V := px_u2 V 323 i ((px_k mp i).2 + px_lng l (px_nx l a))) (G := G) (R := R) (p := p) 0 out ho2 (by omega)
                obtain ⟨M4, e1, e2, e3⟩ := pm_outLong (b := b) (I := I) (V := px_u2 V 323 i ((px_k mp i).2 + px_lng l (px_nx l a))) (G := G) (R := R) (p := p) ((px_k mp i).2 + px_lng l (px_nx l a)) _ d2 (by rw [List.length_append, px_bw_len]; omega)
                refine ⟨M4, px_u2 V 323 i ((px_k mp i).2 + px_lng l (px_nx l a)), ?_, ?_, ?_, hf0.fj.tr (a4.fj.tr (b3.fj.tr (d3.tr e3).fj)), fun o ho => px_u2_sl _ _ _ _ _ ho⟩
                · rw [if_pos p3, px_gR_m_9, px_bs, px_bs, px_aL_323 i (by omega), px_bs, px_rc_m, px_bs, px_bnd b1]
                  simp only
                  rw [px_sL_323 i _ (by omega), px_bs, (hm1.2.2 i hi).2.2.2]
                  unfold b_mdl_run_122 b_mdl_run_132 b_mdl_run_149
                  rw [if_neg hneg, px_rc_m, px_bs, px_bnd d1, if_neg hneg, px_gR_m_9, px_bs, px_aL_323 i (by omega), px_bs, px_u2_eq, px_rc_m, px_bs, px_bnd e1]
                · rw [if_pos p3, ← List.append_assoc]; exact e2
                · rw [if_pos p3]; exact (d3.tr e3).mm hm2
              · obtain ⟨M3, d1, d2, d3⟩ := pm_outWord (b := b) (I := I) (V := V) (G := G) (R := R) (p := p) 0 out ho1 (by omega)
                obtain ⟨M4, e1, e2, e3⟩ := pm_outLong (b := b) (I := I) (V := V) (G := G) (R := R) (p := p) (px_k mp i).2 _ d2 (by rw [List.length_append, px_bw_len]; omega)
                refine ⟨M4, V, ?_, ?_, ?_, hf0.fj.tr (a4.fj.tr (d3.tr e3).fj), fun _ _ => rfl⟩
                · rw [if_neg p3]
                  unfold b_mdl_run_122 b_mdl_run_132 b_mdl_run_149
                  rw [if_neg hneg, px_rc_m, px_bs, px_bnd d1, if_neg hneg, px_gR_m_9, px_bs, px_aL_323 i (by omega), px_bs, (hm1.2.2 i hi).2.2.2, px_rc_m, px_bs, px_bnd e1]
                · rw [if_neg p3, ← List.append_assoc]; exact e2
                · rw [if_neg p3]; exact (d3.tr e3).mm hm1
end PX
