/-! THE CLASS, 8: give -/
def px_gf (I I' : Nat → Nat → Int32) (V V' : Nat → Nat → Int64) (G G' : Nat → Nat → Nat) (R R' : Nat → List UInt8) : Prop := (∀ o k, o ≠ 6 → I' o k = I o k) ∧ (∀ o, o ≠ 8 → V' o = V o) ∧ (∀ o, o ≠ 7 → G' o = G o) ∧ (∀ o, ¬ (9 ≤ o ∧ o < 89) → o ≠ 92 → R' o = R o)
section PX
variable {b : Nat} {I : Nat → Nat → Int32} {V : Nat → Nat → Int64} {G : Nat → Nat → Nat} {R : Nat → List UInt8} {M : Nat → Nat → Int32} {p : px_P} {e : Nat}
theorem pc_giveSet (rr a : Nat) (l : List UInt8) (mp : px_Mp) (L : List UInt8) (hk : px_kt I l a 0) (h10 : V 5 10 = px_lng l (px_nx l a)) (hx : px_cx G R rr l) (hrr : 229 ≤ rr) (hm : px_cm I V G R mp) (hw : px_Wf b p e) (hl : L.length ≤ 100) (hR : R 92 = L) : ∃ I' V' G' R' p', px_Wf b p' e ∧ f_srv_giveSet (px_W b I V G R M p) (b + 5) = some (px_W b I' V' G' R' M p') ∧ R' 92 = L ++ (px_run 1 l a mp).1 ∧ px_cm I' V' G' R' (px_run 1 l a mp).2 ∧ px_gf I I' V V' G G' R R' := by
  have h40 := hm.2.1
  have hpt := pc_placeTaken (b := b) (M := M) (p := p) 0 rr a l mp (by omega) hk hx hrr hm hw
  rw [nI_0] at hpt
  have hrun : px_run 1 l a mp = match px_pl mp (px_key l a) with
    | none => (if mp.length = 40 then (rc_bw 1, mp) else (rc_bw 0 ++ rc_bw 0, mp ++ [(px_key l a, px_lng l (px_nx l a))]))
    | some i => (rc_bw 0 ++ rc_bw 1 ++ px_bl (px_k mp i).2, mp.set i ((px_k mp i).1, px_lng l (px_nx l a))) := by
    unfold px_run
    rw [if_neg (by decide), if_neg (by decide), if_neg (by decide)]
    cases px_pl mp (px_key l a) <;> rfl
  have hva : va_up R 92 L = R := by rw [← hR]; exact px_va_id R 92
  rw [hrun]
  unfold f_srv_giveSet
  rw [px_rc_5, px_bs, px_bnd hpt]
  dsimp only
  cases hp : px_pl mp (px_key l a) with
  | none =>
    rw [if_pos (show px_pi none = -1 from rfl)]
    unfold b_srv_giveSet_16
    rw [if_pos rfl, px_gR_5_0, px_bs, px_rc_6, px_bs, px_bnd (pc_isFull mp hm)]
    dsimp only
    by_cases q : mp.length = 40
    · obtain ⟨p1, w1, h1⟩ := pc_w92 (b := b) (I := I) (V := V) (G := G) (R := R) (M := M) L 1 hw (by omega)
      rw [hva] at h1
      rw [decide_eq_true q, if_neg (by decide), px_gR_5_2, px_bs, px_rcR 92 px_r92, px_bs, px_bnd h1, if_pos q]
      exact ⟨I, V, G, _, p1, w1, rfl, px_va_eq _ _ _, hm.r92 _, fun _ _ _ => rfl, fun _ _ => rfl, fun _ _ => rfl, fun o _ q => px_va_ne _ _ _ _ q⟩
    · rw [decide_eq_false q, if_pos (show px_z false = 0 from rfl), if_neg q]
      obtain ⟨p1, w1, h1⟩ := pc_w92 (b := b) (I := I) (V := V) (G := G) (R := R) (M := M) L 0 hw (by omega)
      rw [hva] at h1
      obtain ⟨p2, w2, h2⟩ := pc_t92 (b := b) (I := I) (V := V) (G := G) (R := R) (M := M) (L ++ rc_bw 0) 0 w1 (by rw [List.length_append, px_bw_len]; omega)
      rw [if_pos rfl] at h2
      obtain ⟨n, a1, a2, a3, a4, a5, a6⟩ := hk
      obtain ⟨hG, hr, hRr, hl1⟩ := hx
      have hRr' : va_up R 92 (L ++ rc_bw 0 ++ rc_bw 0) rr = l := by rw [px_va_ne _ _ _ _ (by omega)]; exact hRr
      obtain ⟨I', V', R', p3, w3, h3, h4, h5, h6, h7⟩ := pc_addNew (b := b) (I := I) (V := V) (G := G) (R := va_up R 92 (L ++ rc_bw 0 ++ rc_bw 0)) (M := M) mp (hm.r92 _) (by omega) rr (a + 4) n (px_lng l (px_nx l a)) hr (by omega) w2 (by rw [hRr']; omega) (by rw [hRr']; omega) a1
      rw [hRr', ← a6] at h4
      unfold b_srv_giveSet_40 b_srv_giveSet_120 f_rdr_row
      rw [px_gR_5_2, px_bs, px_rcR 92 px_r92, px_bs, px_bnd h1, px_gR_5_2, px_bs, px_rcR 92 px_r92, px_bs, px_bnd h2, if_pos rfl, px_gR_5_0, px_bs, px_gR_5_1, px_bs, px_rc_89, px_bs, px_gR_89_0, px_bs, px_bs, hG]
      dsimp only
      rw [px_gR_5_6, px_bs]
      rw [show (0 : Int32) = nI 0 from rfl, px_aI_94 0 (by omega), px_bs, px_gR_5_7, px_bs, px_aI_95 0 (by omega), px_bs, px_gL_5, px_bs, px_rc_6, px_bs, a4, a5, h10]
      rw [show nI 0 = (0 : Int32) from rfl]
      rw [px_bnd h3]
      refine ⟨I', V', G, R', p3, w3, rfl, ?_, h4, h5, h6, fun _ _ => rfl, fun o q1 q2 => by rw [h7 o q1, px_va_ne _ _ _ _ q2]⟩
      rw [h7 92 (by omega), px_va_eq, List.append_assoc]
  | some i =>
    have hi := (px_pl_lt hp).1
    rw [if_neg (px_pi_some i (by omega))]
    unfold b_srv_giveSet_16
    rw [if_neg (by decide)]
    obtain ⟨p1, w1, h1⟩ := pc_w92 (b := b) (I := I) (V := V) (G := G) (R := R) (M := M) L 0 hw (by omega)
    rw [hva] at h1
    obtain ⟨p2, w2, h2⟩ := pc_t92 (b := b) (I := I) (V := V) (G := G) (R := R) (M := M) (L ++ rc_bw 0) 1 w1 (by rw [List.length_append, px_bw_len]; omega)
    rw [if_neg (by decide)] at h2
    have hv := pc_valueAt (b := b) (M := M) (p := p2) mp (hm.r92 (L ++ rc_bw 0 ++ rc_bw 1)) (some i) (fun j q => by cases q; exact hi)
    obtain ⟨p3, w3, h3⟩ := pc_l92 (b := b) (I := I) (V := V) (G := G) (R := R) (M := M) (L ++ rc_bw 0 ++ rc_bw 1) (px_val mp (some i)) w2 (by simp only [List.length_append, px_bw_len]; omega)
    have h4 := pc_setValue (b := b) (M := M) (p := p3) mp (hm.r92 (L ++ rc_bw 0 ++ rc_bw 1 ++ px_bl (px_val mp (some i)))) i hi (px_lng l (px_nx l a))
    unfold b_srv_giveSet_40 b_srv_giveSet_120
    rw [px_gR_5_2, px_bs, px_rcR 92 px_r92, px_bs, px_bnd h1, px_gR_5_2, px_bs, px_rcR 92 px_r92, px_bs, px_bnd h2, if_neg (by decide), px_gR_5_2, px_bs, px_gR_5_0, px_bs, px_rc_6, px_bs, px_bnd hv]
    dsimp only
    rw [px_rcR 92 px_r92, px_bs, px_bnd h3, px_gR_5_0, px_bs, px_gL_5, px_bs, px_rc_6, px_bs, h10, show px_pi (some i) = nI i from rfl, px_bnd h4]
    refine ⟨I, _, G, _, p3, w3, rfl, ?_, (px_cm_set mp hm i hi _).r92 _, fun _ _ _ => rfl, fun o q => px_u2_sl _ _ _ _ _ q, fun _ _ => rfl, fun o _ q => px_va_ne _ _ _ _ q⟩
    rw [px_va_eq]
    simp only [List.append_assoc]
    rfl
theorem pc_giveRemoved (rr a : Nat) (l : List UInt8) (mp : px_Mp) (L : List UInt8) (hk : px_kt I l a 0) (hx : px_cx G R rr l) (hrr : 229 ≤ rr) (hm : px_cm I V G R mp) (hw : px_Wf b p e) (hl : L.length ≤ 100) (hR : R 92 = L) : ∃ I' V' G' R' p', px_Wf b p' e ∧ f_srv_giveRemoved (px_W b I V G R M p) (b + 5) = some (px_W b I' V' G' R' M p') ∧ R' 92 = L ++ (px_run 6 l a mp).1 ∧ px_cm I' V' G' R' (px_run 6 l a mp).2 ∧ px_gf I I' V V' G G' R R' := by
  have h40 := hm.2.1
  have hpt := pc_placeTaken (b := b) (M := M) (p := p) 0 rr a l mp (by omega) hk hx hrr hm hw
  rw [nI_0] at hpt
  have hrun : px_run 6 l a mp = match px_pl mp (px_key l a) with
    | none => (rc_bw 0, mp)
    | some i => (rc_bw 1, mp.eraseIdx i) := by
    unfold px_run
    rw [if_neg (by decide), if_neg (by decide), if_neg (by decide)]
    cases px_pl mp (px_key l a) <;> rfl
  have hva : va_up R 92 L = R := by rw [← hR]; exact px_va_id R 92
  rw [hrun]
  unfold f_srv_giveRemoved b_srv_giveRemoved_20
  rw [px_rc_5, px_bs, px_bnd hpt]
  dsimp only
  rw [px_gR_5_2, px_bs]
  cases hp : px_pl mp (px_key l a) with
  | none =>
    obtain ⟨p1, w1, h1⟩ := pc_t92 (b := b) (I := I) (V := V) (G := G) (R := R) (M := M) L 0 hw (by omega)
    rw [hva, if_pos rfl] at h1
    rw [if_pos (show px_pi none = -1 from rfl), px_rcR 92 px_r92, px_bs, px_bnd h1, px_gR_5_0, px_bs, px_rc_6, px_bs, show px_pi none = -1 from rfl, px_bnd (pc_removeNone mp (hm.r92 _))]
    exact ⟨I, V, G, _, p1, w1, rfl, px_va_eq _ _ _, hm.r92 _, fun _ _ _ => rfl, fun _ _ => rfl, fun _ _ => rfl, fun o _ q => px_va_ne _ _ _ _ q⟩
  | some i =>
    have hi := (px_pl_lt hp).1
    obtain ⟨p1, w1, h1⟩ := pc_t92 (b := b) (I := I) (V := V) (G := G) (R := R) (M := M) L 1 hw (by omega)
    rw [hva, if_neg (by decide)] at h1
    obtain ⟨I', V', G', h2, h3, h4, h5, h6⟩ := pc_remove (b := b) (M := M) (p := p1) mp (hm.r92 (L ++ rc_bw 1)) i hi
    rw [if_neg (px_pi_some i (by omega)), px_rcR 92 px_r92, px_bs, px_bnd h1, px_gR_5_0, px_bs, px_rc_6, px_bs, show px_pi (some i) = nI i from rfl, px_bnd h2]
    exact ⟨I', V', G', _, p1, w1, rfl, px_va_eq _ _ _, h3, h4, h5, h6, fun o _ q => px_va_ne _ _ _ _ q⟩
theorem pc_give (rr a : Nat) (l : List UInt8) (mp : px_Mp) (L : List UInt8) (proc : Int32) (h8 : I 5 8 = proc) (hp0 : ¬ proc < 0) (hp6 : proc ≤ 6) (ht : px_tkn I V proc l a) (hx : px_cx G R rr l) (hrr : 229 ≤ rr) (hm : px_cm I V G R mp) (hw : px_Wf b p e) (hl : L.length ≤ 100) (hR : R 92 = L) : ∃ I' V' G' R' p', px_Wf b p' e ∧ f_srv_give (px_W b I V G R M p) (b + 5) = some (px_W b I' V' G' R' M p') ∧ R' 92 = L ++ (px_run proc l a mp).1 ∧ px_cm I' V' G' R' (px_run proc l a mp).2 ∧ px_gf I I' V V' G G' R R' := by
  have h40 := hm.2.1
  have hva : va_up R 92 L = R := by rw [← hR]; exact px_va_id R 92
  obtain ⟨t1, t2, t3, t4⟩ := ht
  unfold f_srv_give b_srv_give_112
  rw [px_gI_5_8, px_bs, h8]
  by_cases p1 : proc = 1
  · rw [if_pos p1, px_rc_5, px_bs]
    obtain ⟨I', V', G', R', p', w', h1, h2, h3, h4⟩ := pc_giveSet (b := b) (M := M) rr a l mp L (t1 (Or.inl p1)) (t2 (Or.inl p1)) hx hrr hm hw hl hR
    rw [px_bnd h1, p1]
    exact ⟨I', V', G', R', p', w', rfl, h2, h3, h4⟩
  · rw [if_neg p1]
    by_cases p2 : proc = 2
    · have hk := t1 (Or.inr (Or.inl p2))
      have hpt := pc_placeTaken (b := b) (M := M) (p := p) 0 rr a l mp (by omega) hk hx hrr hm hw
      rw [nI_0] at hpt
      obtain ⟨p', w', h1⟩ := pc_giveValueAt (b := b) (I := I) (V := V) (G := G) (R := R) (M := M) L (px_pl mp (px_key l a)) mp (fun i q => (px_pl_lt q).1) hm hw (by omega)
      rw [hva] at h1
      have hrun : px_run proc l a mp = (px_gv mp (px_pl mp (px_key l a)), mp) := by
        unfold px_run
        rw [p2, if_neg (by decide), if_neg (by decide), if_neg (by decide)]
        cases px_pl mp (px_key l a) <;> rfl
      rw [if_pos p2, px_rc_5, px_bs, px_bnd hpt]
      dsimp only
      rw [px_rc_5, px_bs, px_bnd h1, hrun]
      exact ⟨I, V, G, _, p', w', rfl, px_va_eq _ _ _, hm.r92 _, fun _ _ _ => rfl, fun _ _ => rfl, fun _ _ => rfl, fun o _ q => px_va_ne _ _ _ _ q⟩
    · rw [if_neg p2]
      by_cases p3 : proc = 3
      · have hk := t1 (Or.inr (Or.inr (Or.inl p3)))
        have h10 := t2 (Or.inr p3)
        have hpt := pc_placeTaken (b := b) (M := M) (p := p) 0 rr a l mp (by omega) hk hx hrr hm hw
        rw [nI_0] at hpt
        rw [if_pos p3, px_gR_5_0, px_bs, px_rc_5, px_bs, px_bnd hpt]
        dsimp only
        rw [px_gL_5, px_bs, px_rc_6, px_bs, h10]
        cases hp : px_pl mp (px_key l a) with
        | none =>
          rw [hp] at hpt
          obtain ⟨p', w', h1⟩ := pc_giveValueAt (b := b) (I := I) (V := V) (G := G) (R := R) (M := M) L none mp (fun i q => by cases q) hm hw (by omega)
          rw [hva] at h1
          have hrun : px_run proc l a mp = (px_gv mp none, mp) := by
            unfold px_run
            rw [p3, if_neg (by decide), if_neg (by decide), if_neg (by decide), hp]
            rfl
          rw [show px_pi none = -1 from rfl, px_bnd (pc_addToNone mp hm _), px_rc_5, px_bs, px_bnd hpt]
          dsimp only
          rw [px_rc_5, px_bs, px_bnd h1, hrun]
          exact ⟨I, V, G, _, p', w', rfl, px_va_eq _ _ _, hm.r92 _, fun _ _ _ => rfl, fun _ _ => rfl, fun _ _ => rfl, fun o _ q => px_va_ne _ _ _ _ q⟩
        | some i =>
          have hi := (px_pl_lt hp).1
          have hm2 := px_cm_set mp hm i hi ((px_k mp i).2 + px_lng l (px_nx l a))
          have hpt2 := pc_placeTaken (b := b) (M := M) (p := p) 0 rr a l _ (by omega) hk hx hrr hm2 hw
          rw [nI_0, px_pl_set hi, hp] at hpt2
          obtain ⟨p', w', h1⟩ := pc_giveValueAt (b := b) (G := G) (M := M) L (some i) _ (fun j q => by cases q; rw [List.length_set]; exact hi) hm2 hw (by omega)
          rw [hva] at h1
          have hrun : px_run proc l a mp = (px_gv (mp.set i ((px_k mp i).1, (px_k mp i).2 + px_lng l (px_nx l a))) (some i), mp.set i ((px_k mp i).1, (px_k mp i).2 + px_lng l (px_nx l a))) := by
            unfold px_run
            rw [p3, if_neg (by decide), if_neg (by decide), if_neg (by decide), hp]
            unfold px_gv
            dsimp only
            rw [if_neg (show ¬ (3 : Int32) = 1 by decide), if_neg (show ¬ (3 : Int32) = 6 by decide), if_pos rfl, px_k_set _ hi, if_pos rfl]
          rw [show px_pi (some i) = nI i from rfl, px_bnd (pc_addToValue mp hm i hi _), px_rc_5, px_bs, px_bnd hpt2]
          dsimp only
          rw [px_rc_5, px_bs, px_bnd h1, hrun]
          exact ⟨I, _, G, _, p', w', rfl, px_va_eq _ _ _, hm2.r92 _, fun _ _ _ => rfl, fun o q => px_u2_sl _ _ _ _ _ q, fun _ _ => rfl, fun o _ q => px_va_ne _ _ _ _ q⟩
      · rw [if_neg p3]
        by_cases p4 : proc = 4
        · obtain ⟨n, n8, n1, n2, n3⟩ := t3 p4
          unfold f_srv_giveSum
          generalize hF : (5000 : Nat) = fu
          obtain ⟨p', w', h1⟩ := pc_sum_go (b := b) (M := M) rr n l mp L n8 n2 hx hrr hm hw (by omega) n 0 fu (a + 4) 0 0 (by omega) (by omega) (fun j hj => by rw [Nat.zero_add]; exact n3 j hj)
          rw [hva, nI_0] at h1
          have hrun : px_run proc l a mp = (px_sm l mp n (a + 4) 0 0, mp) := by
            unfold px_run
            rw [if_pos p4, n1, nI_clamp (by omega)]
          rw [if_pos p4, px_rc_5, px_bs, px_bnd h1, hrun]
          exact ⟨I, V, G, _, p', w', rfl, px_va_eq _ _ _, hm.r92 _, fun _ _ _ => rfl, fun _ _ => rfl, fun _ _ => rfl, fun o _ q => px_va_ne _ _ _ _ q⟩
        · rw [if_neg p4]
          by_cases p5 : proc = 5
          · obtain ⟨n1, n2⟩ := t4 p5
            obtain ⟨p', w', h1⟩ := pc_giveList (b := b) (M := M) L mp hm hw hl
            rw [hva, n1, n2] at h1
            have hrun : px_run proc l a mp = (px_ls mp (rc_wd l a) (rc_wd l (a + 4)), mp) := by
              unfold px_run
              rw [if_neg p4, if_pos p5]
            rw [if_pos p5, px_rc_5, px_bs, px_bnd h1, hrun]
            exact ⟨I, V, G, _, p', w', rfl, px_va_eq _ _ _, hm.r92 _, fun _ _ _ => rfl, fun _ _ => rfl, fun _ _ => rfl, fun o _ q => px_va_ne _ _ _ _ q⟩
          · rw [if_neg p5]
            by_cases p6 : proc = 6
            · rw [if_pos p6, px_rc_5, px_bs]
              obtain ⟨I', V', G', R', p', w', h1, h2, h3, h4⟩ := pc_giveRemoved (b := b) (M := M) rr a l mp L (t1 (Or.inr (Or.inr (Or.inr p6)))) hx hrr hm hw hl hR
              rw [px_bnd h1, p6]
              exact ⟨I', V', G', R', p', w', rfl, h2, h3, h4⟩
            · rw [if_neg p6]
              have h0 : proc ≤ 0 := by
                obtain ⟨j, hj, e⟩ := nI_of hp0
                subst e
                have q6 : j ≤ 6 := by
                  rw [show (6 : Int32) = nI 6 from rfl, px_le hj (by decide)] at hp6
                  exact hp6
                have : j = 0 := by
                  rcases j with _ | _ | _ | _ | _ | _ | _ | j
                  · rfl
                  · exact absurd rfl p1
                  · exact absurd rfl p2
                  · exact absurd rfl p3
                  · exact absurd rfl p4
                  · exact absurd rfl p5
                  · exact absurd rfl p6
                  · omega
                rw [this]
                decide
              have hrun : px_run proc l a mp = ([], mp) := by
                unfold px_run
                rw [if_neg p4, if_neg p5, if_pos h0]
              rw [hrun, List.append_nil]
              exact ⟨I, V, G, R, p, hw, rfl, hR, hm, fun _ _ _ => rfl, fun _ _ => rfl, fun _ _ => rfl, fun _ _ _ => rfl⟩
end PX
