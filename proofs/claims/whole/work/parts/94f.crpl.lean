/-! THE CLASS, 9: the reply to a record -/
def px_ct (I : Nat → Nat → Int32) (t : Int32 × Int32 × Int32) : Prop := I 5 3 = t.1 ∧ I 5 4 = t.2.1 ∧ I 5 5 = t.2.2
def px_sf (c : Nat) (I I' : Nat → Nat → Int32) (V V' : Nat → Nat → Int64) (R R' : Nat → List UInt8) : Prop := (∀ o k, ¬ (o = 89 ∨ o = 5 ∨ o = 6 ∨ o = 94 ∨ o = 95 ∨ o = 231 + 22 * c ∨ o = 233 + 22 * c) → I' o k = I o k) ∧ (∀ o, o ≠ 5 → o ≠ 8 → V' o = V o) ∧ (∀ o, ¬ (9 ≤ o ∧ o < 89) → o ≠ 92 → ¬ (234 + 22 * c ≤ o ∧ o < 250 + 22 * c) → R' o = R o)
section PX
variable {b : Nat} {I : Nat → Nat → Int32} {V : Nat → Nat → Int64} {G : Nat → Nat → Nat} {R : Nat → List UInt8} {M : Nat → Nat → Int32} {p : px_P} {e : Nat}
theorem pc_replyTo (c : Nat) (hc : c < 4) (l : List UInt8) (z : px_Z) (hl : l.length ≤ 1200) (hR : R (229 + 22 * c) = l) (hp : px_cp I R c z.1) (hm : px_cm I V G R z.2.1) (ht : px_ct I z.2.2.1) (hw : px_Wf b p e) : ∃ o I' V' G' R' p', px_Wf b p' e ∧ f_srv_replyTo (px_W b I V G R M p) (b + 5) (some (b + (229 + 22 * c))) (some (b + (231 + 22 * c))) = some (o, px_W b I' V' G' R' M p') ∧ px_cp I' R' c (px_sv l z).1.1 ∧ px_cm I' V' G' R' (px_sv l z).1.2.1 ∧ px_ct I' (px_sv l z).1.2.2.1 ∧ px_sf c I I' V V' R R' ∧ (((px_sv l z).2 = false ∧ o = none ∧ (px_sv l z).1.2.2.2 = z.2.2.2) ∨ ∃ ro B, (px_sv l z).2 = true ∧ o = some (b + ro) ∧ px_rw ro = true ∧ (ro = 92 ∨ 234 + 22 * c ≤ ro) ∧ R' ro = B ∧ B.length ≤ 400 ∧ (px_sv l z).1.2.2.2 = (va_up z.2.2.2.1 (z.2.2.2.2 % 64) (px_one B), z.2.2.2.2 + 1)) := by
  have hg := px_rG c hc
  obtain ⟨t1, t2, t3⟩ := ht
  -- one more bad one
  have bad : ∀ (I1 : Nat → Nat → Int32) (G1 : Nat → Nat → Nat), px_g3 I I1 → (∀ k, G1 7 k = G 7 k) → px_sv l z = ((z.1, z.2.1, (z.2.2.1.1, z.2.2.1.2.1, z.2.2.1.2.2 + 1), z.2.2.2), false) → ∃ o I' V' G' R' p', px_Wf b p' e ∧ b_srv_replyTo_17 (px_W b I1 V G1 R M p) (b + 5) = some (o, px_W b I' V' G' R' M p') ∧ px_cp I' R' c (px_sv l z).1.1 ∧ px_cm I' V' G' R' (px_sv l z).1.2.1 ∧ px_ct I' (px_sv l z).1.2.2.1 ∧ px_sf c I I' V V' R R' ∧ (((px_sv l z).2 = false ∧ o = none ∧ (px_sv l z).1.2.2.2 = z.2.2.2) ∨ ∃ ro B, (px_sv l z).2 = true ∧ o = some (b + ro) ∧ px_rw ro = true ∧ (ro = 92 ∨ 234 + 22 * c ≤ ro) ∧ R' ro = B ∧ B.length ≤ 400 ∧ (px_sv l z).1.2.2.2 = (va_up z.2.2.2.1 (z.2.2.2.2 % 64) (px_one B), z.2.2.2.2 + 1)) := by
    intro I1 G1 h3 h7 hs
    unfold b_srv_replyTo_17
    rw [px_gI_5_5, px_bs, px_pI_5_5, px_bs, hs, h3 5 5 (by omega), t3]
    refine ⟨none, _, V, G1, R, p, hw, rfl, ?_, ?_, ⟨?_, ?_, px_u2_eq _ _ _ _⟩, ⟨fun o k q => ?_, fun _ _ _ => rfl, fun _ _ _ _ => rfl⟩, Or.inl ⟨rfl, rfl, rfl⟩⟩
    · exact hp.same (fun k => by rw [px_u2_ne _ _ _ _ _ _ (by omega), h3 _ _ (by omega)]) (fun k => by rw [px_u2_ne _ _ _ _ _ _ (by omega), h3 _ _ (by omega)]) (fun _ _ _ => rfl)
    · exact hm.same (by rw [px_u2_ne _ _ _ _ _ _ (by omega), h3 _ _ (by omega)]) (fun _ => rfl) h7 (fun _ _ _ => rfl)
    · rw [px_u2_ne _ _ _ _ _ _ (by omega), h3 _ _ (by omega), t1]
    · rw [px_u2_ne _ _ _ _ _ _ (by omega), h3 _ _ (by omega), t2]
    · rw [px_u2_ne _ _ _ _ _ _ (by omega), h3 _ _ (by omega)]
  unfold f_srv_replyTo
  rw [px_rcR _ hg, px_bs, px_bnd (px_size _ hg hw), hR]
  dsimp only
  by_cases l8 : l.length < 8
  · rw [if_pos (by rw [show (8 : Int32) = nI 8 from rfl]; exact nI_lt l8 (by decide))]
    refine bad I G (px_g2.rf I).g3 (fun _ => rfl) ?_
    unfold px_sv
    rw [if_pos (Or.inl l8)]
  · rw [if_neg (by rw [show (8 : Int32) = nI 8 from rfl, px_lt (by omega) (by decide)]; exact l8), px_rcR _ hg, px_bs, px_bnd (px_wordAt _ _ hg hw), hR]
    rw [show (4 : Int32) = nI 4 from rfl, px_wdR l 4 (by decide), if_neg (show ¬ l.length < 4 + 4 by omega)]
    dsimp only
    by_cases w0 : rc_wd l 4 = 0
    · have hsv : px_sv l z = match px_fn z.1 (rc_wd l 0) with
    | some i => ((z.1, z.2.1, (z.2.2.1.1, z.2.2.1.2.1 + 1, z.2.2.1.2.2), va_up z.2.2.2.1 (z.2.2.2.2 % 64) (px_one (px_q z.1 i).2), z.2.2.2.2 + 1), true)
    | none => if px_vd l = -1 then ((z.1, z.2.1, (z.2.2.1.1, z.2.2.1.2.1, z.2.2.1.2.2 + 1), z.2.2.2), false)
      else ((px_kp z.1 (rc_wd l 0) (px_jd l (rc_wd l 0) z.2.1).1, (px_jd l (rc_wd l 0) z.2.1).2, ((if px_vt l = 0 then z.2.2.1.1 + 1 else z.2.2.1.1), z.2.2.1.2.1, z.2.2.1.2.2), va_up z.2.2.2.1 (z.2.2.2.2 % 64) (px_one (px_jd l (rc_wd l 0) z.2.1).1), z.2.2.2.2 + 1), true) := by
        unfold px_sv
        rw [if_neg (fun q => q.elim l8 (fun u => u w0))]
        rfl
      rw [if_pos w0, px_rcR _ hg, px_bs, px_bnd (px_wordAt _ _ hg hw), hR]
      rw [show (0 : Int32) = nI 0 from rfl, px_wdR l 0 (by decide), if_neg (show ¬ l.length < 0 + 4 by omega)]
      rw [show nI 0 = (0 : Int32) from rfl]
      dsimp only
      obtain ⟨o, f1, f2, f3⟩ := pc_find (b := b) (V := V) (G := G) (R := R) (M := M) (p := p) c hc z.1 hp (rc_wd l 0)
      rw [px_rc_r c hc, px_bs, px_bnd f1]
      dsimp only
      cases hfn : px_fn z.1 (rc_wd l 0) with
      | some k =>
        obtain ⟨j, j8, e1, e2, e3⟩ := f3 k hfn
        rw [hfn] at hsv
        dsimp only at hsv
        rw [e1, if_neg (Option.some_ne_none _), px_gI_5_4, px_bs, px_pI_5_4, px_bs, hsv, t2]
        refine ⟨_, _, V, G, R, p, hw, rfl, ?_, ?_, ⟨?_, px_u2_eq _ _ _ _, ?_⟩, ⟨fun o k q => px_u2_ne _ _ _ _ _ _ (by omega), fun _ _ _ => rfl, fun _ _ _ _ => rfl⟩, Or.inr ⟨234 + 22 * c + 2 * j, (px_q z.1 k).2, rfl, rfl, px_rP c j hc j8, Or.inr (by omega), e2, e3, rfl⟩⟩
        · exact hp.same (fun k => px_u2_ne _ _ _ _ _ _ (by omega)) (fun k => px_u2_ne _ _ _ _ _ _ (by omega)) (fun _ _ _ => rfl)
        · exact hm.same (px_u2_ne _ _ _ _ _ _ (by omega)) (fun _ => rfl) (fun _ => rfl) (fun _ _ _ => rfl)
        · rw [px_u2_ne _ _ _ _ _ _ (by omega), t1]
        · rw [px_u2_ne _ _ _ _ _ _ (by omega), t3]
      | none =>
        rw [hfn] at hsv
        dsimp only at hsv
        rw [f2 hfn, if_pos rfl, px_rc_5, px_bs]
        obtain ⟨I1, G1, v1, v2, v3, v4⟩ := pc_verdictOn (b := b) (I := I) (V := V) (G := G) (R := R) (M := M) (p := p) (229 + 22 * c) l hg hR hl hw
        rw [px_bnd v1]
        dsimp only
        by_cases vm : px_vd l = -1
        · rw [if_pos vm]
          rw [if_pos vm] at hsv
          exact bad I1 G1 v2 v3 hsv
        · rw [if_neg vm]
          rw [if_neg vm] at hsv
          have hm1 : px_cm I1 V G1 R z.2.1 := hm.same (v2 _ _ (by omega)) (fun _ => rfl) v3 (fun _ _ _ => rfl)
          have h16 : ∀ k, (px_k z.2.1 k).1.length ≤ 16 := fun k => by
            by_cases q : k < z.2.1.length
            · exact (hm.2.2.2.2 k q).2.2
            · unfold px_k
              rw [List.getD_eq_getElem?_getD, List.getElem?_eq_none (by omega)]
              simp
          have hlen := px_jd_len l (rc_wd l 0) z.2.1 h16
          -- the end: keep
          have fin : ∀ (I2 : Nat → Nat → Int32) (V2 : Nat → Nat → Int64) (G2 : Nat → Nat → Nat) (R2 : Nat → List UInt8) (p2 : px_P), px_Wf b p2 e → R2 92 = (px_jd l (rc_wd l 0) z.2.1).1 → px_cm I2 V2 G2 R2 (px_jd l (rc_wd l 0) z.2.1).2 → (∀ o k, ¬ (o = 89 ∨ o = 5 ∨ o = 6 ∨ o = 94 ∨ o = 95) → I2 o k = I o k) → (∀ o, o ≠ 5 → o ≠ 8 → V2 o = V o) → (∀ o, ¬ (9 ≤ o ∧ o < 89) → o ≠ 92 → R2 o = R o) → I2 5 3 = (if px_vt l = 0 then z.2.2.1.1 + 1 else z.2.2.1.1) → I2 5 4 = I 5 4 → I2 5 5 = I 5 5 → ∃ o I' V' G' R' p', px_Wf b p' e ∧ b_srv_replyTo_126 (px_W b I2 V2 G2 R2 M p2) (b + 5) (some (b + (231 + 22 * c))) (rc_wd l 0) = some (o, px_W b I' V' G' R' M p') ∧ px_cp I' R' c (px_sv l z).1.1 ∧ px_cm I' V' G' R' (px_sv l z).1.2.1 ∧ px_ct I' (px_sv l z).1.2.2.1 ∧ px_sf c I I' V V' R R' ∧ (((px_sv l z).2 = false ∧ o = none ∧ (px_sv l z).1.2.2.2 = z.2.2.2) ∨ ∃ ro B, (px_sv l z).2 = true ∧ o = some (b + ro) ∧ px_rw ro = true ∧ (ro = 92 ∨ 234 + 22 * c ≤ ro) ∧ R' ro = B ∧ B.length ≤ 400 ∧ (px_sv l z).1.2.2.2 = (va_up z.2.2.2.1 (z.2.2.2.2 % 64) (px_one B), z.2.2.2.2 + 1)) := by
            intro I2 V2 G2 R2 p2 hw2 h92 hm2 hI2 hV2 hR2 c3 c4 c5
            have hp2 : px_cp I2 R2 c z.1 := hp.same (fun k => hI2 _ _ (by omega)) (fun k => hI2 _ _ (by omega)) (fun o q1 q2 => hR2 o (by omega) (by omega))
            obtain ⟨I3, R3, p3, w3, k1, k2, k3, k4⟩ := pc_keep (b := b) (V := V2) (G := G2) (M := M) c hc z.1 hp2 (rc_wd l 0) hfn _ (by omega) h92 hw2
            unfold b_srv_replyTo_126
            rw [px_gR_5_2, px_bs, px_rc_r c hc, px_bs, px_bnd k1, px_gR_5_2, px_bs, hsv]
            refine ⟨_, I3, V2, G2, R3, p3, w3, rfl, k2, ?_, ⟨?_, ?_, ?_⟩, ⟨fun o k q => ?_, hV2, fun o q1 q2 q3 => ?_⟩, Or.inr ⟨92, _, rfl, rfl, px_r92, Or.inl rfl, by rw [k4 92 (by omega)]; exact h92, by omega, rfl⟩⟩
            · exact hm2.same (k3 _ _ (by omega) (by omega)) (fun _ => rfl) (fun _ => rfl) (fun o q1 q2 => k4 o (by omega))
            · rw [k3 _ _ (by omega) (by omega), c3]
            · rw [k3 _ _ (by omega) (by omega), c4, t2]
            · rw [k3 _ _ (by omega) (by omega), c5, t3]
            · rw [k3 o k (by omega) (by omega), hI2 o k (by omega)]
            · rw [k4 o q3, hR2 o q1 q2]
          -- a reply without what a procedure gives
          have plain : ∀ (v : Int32) (I2 : Nat → Nat → Int32) (V2 : Nat → Nat → Int64) (G2 : Nat → Nat → Nat), px_vt l = v → v ≠ 0 → px_g3 I I2 → (∀ o, o ≠ 5 → V2 o = V o) → (∀ k, G2 7 k = G 7 k) → ∃ o I' V' G' R' p', px_Wf b p' e ∧ b_srv_replyTo_100 (px_W b I2 V2 G2 R M p) (b + 5) (some (b + (231 + 22 * c))) (rc_wd l 0) v = some (o, px_W b I' V' G' R' M p') ∧ px_cp I' R' c (px_sv l z).1.1 ∧ px_cm I' V' G' R' (px_sv l z).1.2.1 ∧ px_ct I' (px_sv l z).1.2.2.1 ∧ px_sf c I I' V V' R R' ∧ (((px_sv l z).2 = false ∧ o = none ∧ (px_sv l z).1.2.2.2 = z.2.2.2) ∨ ∃ ro B, (px_sv l z).2 = true ∧ o = some (b + ro) ∧ px_rw ro = true ∧ (ro = 92 ∨ 234 + 22 * c ≤ ro) ∧ R' ro = B ∧ B.length ≤ 400 ∧ (px_sv l z).1.2.2.2 = (va_up z.2.2.2.1 (z.2.2.2.2 % 64) (px_one B), z.2.2.2.2 + 1)) := by
            intro v I2 V2 G2 hv hv0 h3 hV2 hG2
            have hjd : px_jd l (rc_wd l 0) z.2.1 = (px_hd (rc_wd l 0) v, z.2.1) := by unfold px_jd; rw [hv, if_neg hv0]
            obtain ⟨p2, w2, b1⟩ := pc_beginReply (b := b) (I := I2) (V := V2) (G := G2) (R := R) (M := M) (rc_wd l 0) v hw
            unfold b_srv_replyTo_100
            rw [px_rc_5, px_bs, px_bnd b1, if_neg hv0]
            refine fin I2 V2 G2 _ p2 w2 (by rw [px_va_eq, hjd]) ?_ (fun o k q => h3 o k (by omega)) (fun o q1 q2 => hV2 o q1) (fun o q1 q2 => px_va_ne _ _ _ _ q2) ?_ (h3 _ _ (by omega)) (h3 _ _ (by omega))
            · rw [hjd]
              exact hm.same (h3 _ _ (by omega)) (fun k => by rw [hV2 8 (by omega)]) hG2 (fun o q1 q2 => px_va_ne _ _ _ _ (by omega))
            · rw [hv, if_neg hv0, h3 _ _ (by omega), t1]
          by_cases v0 : px_vd l = 0
          · obtain ⟨u1, u2, u3, u4, u5, u6⟩ := v4 v0
            rw [v0, if_pos rfl, px_rc_5, px_bs]
            obtain ⟨I2, V2, s1, s2, s3, s4, s5⟩ := pc_isTaken (b := b) (V := V) (M := M) (p := p) (229 + 22 * c) (px_a0 l) l (px_r3 l).1 u1 hw u2 u3 u4
            rw [px_bnd s1]
            dsimp only
            by_cases he : px_end (px_r3 l).1 l (px_a0 l) = some l.length
            · have hvt : px_vt l = 0 := by unfold px_vt; rw [if_neg (fun q => q.2 he), v0]
              have hjd : px_jd l (rc_wd l 0) z.2.1 = (px_hd (rc_wd l 0) 0 ++ (px_run (px_r3 l).1 l (px_a0 l) z.2.1).1, (px_run (px_r3 l).1 l (px_a0 l) z.2.1).2) := by unfold px_jd; rw [if_pos hvt]
              rw [decide_eq_true he, if_neg (by decide)]
              obtain ⟨p2, w2, b1⟩ := pc_beginReply (b := b) (I := I2) (V := V2) (G := G1) (R := R) (M := M) (rc_wd l 0) 0 hw
              have h23 : px_g3 I I2 := v2.tr s2
              have hm2 : px_cm (px_u2 I2 5 3 (I2 5 3 + 1)) V2 G1 (va_up R 92 (px_hd (rc_wd l 0) 0)) z.2.1 := hm.same (by rw [px_u2_ne _ _ _ _ _ _ (by omega), h23 _ _ (by omega)]) (fun k => by rw [s4 8 (by omega)]) v3 (fun o q1 q2 => px_va_ne _ _ _ _ (by omega))
              have ht2 : px_tkn (px_u2 I2 5 3 (I2 5 3 + 1)) V2 (px_r3 l).1 l (px_a0 l) := by
                obtain ⟨x1, x2, x3, x4⟩ := s5 he
                refine ⟨fun q => (x1 q).same (px_u2_ne _ _ _ _ _ _ (by omega)) (px_u2_ne _ _ _ _ _ _ (by omega)), x2, fun q => ?_, fun q => ?_⟩
                · obtain ⟨n, y1, y2, y3, y4⟩ := x3 q
                  exact ⟨n, y1, y2, by rw [px_u2_ne _ _ _ _ _ _ (by omega)]; exact y3, fun j hj => (y4 j hj).same (px_u2_ne _ _ _ _ _ _ (by omega)) (px_u2_ne _ _ _ _ _ _ (by omega))⟩
                · rw [px_u2_ne _ _ _ _ _ _ (by omega), px_u2_ne _ _ _ _ _ _ (by omega)]
                  exact x4 q
              have hhd := px_hd_len (rc_wd l 0) 0
              obtain ⟨I3, V3, G3, R3, p3, w3, g1, g2, g3, g4, g5, g6, g7⟩ := pc_give (b := b) (M := M) (229 + 22 * c) (px_a0 l) l z.2.1 _ (px_r3 l).1 (by rw [px_u2_ne _ _ _ _ _ _ (by omega)]; exact s3) u5 u6 ht2 (u1.r92 (by omega) _) (by omega) hm2 w2 (by omega) (px_va_eq _ _ _)
              unfold b_srv_replyTo_100
              rw [px_rc_5, px_bs, px_bnd b1, if_pos rfl, px_gI_5_3, px_bs, px_pI_5_3, px_bs, px_rc_5, px_bs, px_bnd g1]
              refine fin I3 V3 G3 R3 p3 w3 (by rw [hjd]; exact g2) (by rw [hjd]; exact g3) (fun o k q => ?_) (fun o q1 q2 => by rw [g5 o q2, s4 o q1]) (fun o q1 q2 => by rw [g7 o q1 q2, px_va_ne _ _ _ _ q2]) ?_ ?_ ?_
              · rw [g4 o k (by omega), px_u2_ne _ _ _ _ _ _ (by omega), h23 o k (by omega)]
              · rw [g4 _ _ (by omega), px_u2_eq, hvt, if_pos rfl, h23 _ _ (by omega), t1]
              · rw [g4 _ _ (by omega), px_u2_ne _ _ _ _ _ _ (by omega), h23 _ _ (by omega)]
              · rw [g4 _ _ (by omega), px_u2_ne _ _ _ _ _ _ (by omega), h23 _ _ (by omega)]
            · have hvt : px_vt l = 4 := by unfold px_vt; rw [if_pos ⟨v0, he⟩]
              rw [decide_eq_false he, if_pos (show px_z false = 0 from rfl)]
              exact plain 4 I2 V2 G1 hvt (by decide) (v2.tr s2) s4 v3
          · rw [if_neg v0]
            exact plain _ I1 V G1 (by unfold px_vt; rw [if_neg (fun q => v0 q.1)]) v0 v2 (fun _ _ => rfl) v3
    · rw [if_neg w0]
      refine bad I G (px_g2.rf I).g3 (fun _ => rfl) ?_
      unfold px_sv
      rw [if_pos (Or.inr w0)]
end PX
