/-! THE LAW, 2: its loop -/
section PX
variable {b : Nat} {I : Nat → Nat → Int32} {V : Nat → Nat → Int64} {G : Nat → Nat → Nat} {R : Nat → List UInt8} {M : Nat → Nat → Int32} {p : px_P} {e : Nat}
variable {T : List UInt8} {s : Nat → List UInt8} {n : Nat} {mp : px_Mp} {t : Int32 × Int32 × Int32} {S : Nat → px_S} {Q : Nat → px_Rp}
theorem pl_cmp (v : Int64) : lg_cmp v v = 0 := (lg_cmp_eq v v).mpr rfl
theorem pl_nine {F : rc_M → Nat → Option (Option Int32 × rc_M)} {Fm : rc_M → Nat → Option (Int32 × rc_M)} {K : rc_M → Option (Int32 × rc_M)} (H : Option (Int32 × rc_M))
    (hH : H = ((rc_rc (px_W b I V G R M p) (some (b + 0)) 0).bind fun a1 => (F (px_W b I V G R M p) a1).bind fun p3 => if p3.1 = none then some (1, p3.2) else (rc_sL p3.2 (some (b + 337)) 0 ((p3.1.getD 0).toInt64)).bind fun w7 => some (0, w7)))
    (hB : px_both b I V G R M p e T s n mp t S Q F Fm) (hM : px_MI M V T s n mp t S Q)
    (hK : ∀ I V G R M p T s n' mp t S Q, n' ≤ n + 1600 → px_CI I V G R T s n' mp t S Q → px_MI M V T s n' mp t S Q → px_Wf b p e → ∃ w, K (px_W b I V G R M p) = some (1, w)) :
    ∃ w, (H.bind fun p15 => (rc_rc p15.2 (some (b + 316)) 7).bind fun a27 => (Fm p15.2 a27).bind fun p29 => (rc_rc p29.2 (some (b + 316)) 7).bind fun a31 => (f_mdl_thrown p29.2 a31).bind fun p33 => if p33.1 = p15.1 then if p15.1 = 0 then (rc_aL p33.2 (some (b + 337)) 0).bind fun v37 => if (lg_cmp v37 p29.1.toInt64) = 0 then K p33.2 else some (0, p33.2) else K p33.2 else some (0, p33.2)) = some (1, w) := by
  obtain ⟨r, T', s', n', mp', t', S', Q', hn', ⟨I', V', G', R', p', w', h1, hC', hV'⟩, hm⟩ := hB
  rw [hH, px_rc_0, px_bs, px_bnd h1]
  dsimp only
  cases r with
  | none =>
    rw [if_pos rfl, px_bs]
    dsimp only
    have hM1 : px_MI M V' T s n mp t S Q := hM.fr0 (fun _ _ _ => rfl) (fun k => by rw [hV' 323 (by omega) (by omega)])
    obtain ⟨M', V'', m1, m2, m3, m4⟩ := hm I' V' G' R' p' hM1
    rw [if_pos rfl] at m3
    rw [px_rc_m, px_bs, px_bnd m1]
    dsimp only
    rw [px_rc_m, px_bs, px_bnd pm_thrown]
    dsimp only
    rw [m3, if_pos rfl, if_neg (show ¬ (1 : Int32) = 0 by decide)]
    have hC2 : px_CI I' V'' G' R' T' s' n' mp' t' S' Q' := ⟨hC'.1, hC'.2.1, hC'.2.2.1.same rfl (fun k => by rw [m4 8 (by omega)]) (fun _ => rfl) (fun _ _ _ => rfl), hC'.2.2.2⟩
    exact hK I' V'' G' R' M' p' T' s' n' mp' t' S' Q' hn' hC2 m2 w'
  | some v =>
    rw [if_neg (show ¬ (some v : Option Int32) = none from Option.some_ne_none v)]
    rw [show (0 : Int32) = nI 0 from rfl, px_sL_337 0 _ (by omega)]
    rw [show nI 0 = (0 : Int32) from rfl, px_bs, px_bs]
    dsimp only
    have hM1 : px_MI M (px_u2 V' 337 0 (((some v : Option Int32).getD 0).toInt64)) T s n mp t S Q := hM.fr0 (fun _ _ _ => rfl) (fun k => by rw [px_u2_ne _ _ _ _ _ _ (by omega), hV' 323 (by omega) (by omega)])
    obtain ⟨M', V'', m1, m2, m3, m4⟩ := hm I' (px_u2 V' 337 0 (((some v : Option Int32).getD 0).toInt64)) G' R' p' hM1
    rw [if_neg (Option.some_ne_none v)] at m3
    rw [px_rc_m, px_bs, px_bnd m1]
    dsimp only
    rw [px_rc_m, px_bs, px_bnd pm_thrown]
    dsimp only
    rw [m3, if_pos rfl, if_pos rfl]
    rw [show (0 : Int32) = nI 0 from rfl, px_aL_337 0 (by omega)]
    rw [show nI 0 = (0 : Int32) from rfl, px_bs, m4 337 (by omega), px_u2_eq, pl_cmp, if_pos rfl]
    have hC2 : px_CI I' V'' G' R' T' s' n' mp' t' S' Q' := ⟨hC'.1, hC'.2.1, hC'.2.2.1.same rfl (fun k => by rw [m4 8 (by omega), px_u2_ne _ _ _ _ _ _ (by omega)]) (fun _ => rfl) (fun _ _ _ => rfl), hC'.2.2.2⟩
    exact hK I' V'' G' R' M' p' T' s' n' mp' t' S' Q' hn' hC2 m2 w'
theorem pl_end (K : rc_M → Option (Int32 × rc_M)) (y : Int32) (hC : px_CI I V G R T s n mp t S Q) (hM : px_MI M V T s n mp t S Q) (hw : px_Wf b p (e + 1))
    (hK : ∀ I V G R M p T s n' mp t S Q, n' ≤ n + 1600 → px_CI I V G R T s n' mp t S Q → px_MI M V T s n' mp t S Q → px_Wf b p e → ∃ w, K (px_W b I V G R M p) = some (1, w)) :
    ∃ w, ((f_law_end (px_W b I V G R M p) (some (b + 0)) y).bind fun p43 => (rc_rc p43.2 (some (b + 316)) 7).bind fun a47 => (f_mdl_end p43.2 a47 y).bind fun w49 => (rc_rc w49 (some (b + 316)) 7).bind fun a51 => (f_mdl_thrown w49 a51).bind fun p53 => if p53.1 = p43.1 then K p53.2 else some (0, p53.2)) = some (1, w) := by
  have hTl := hM.1.2.1
  unfold f_law_end
  rw [px_rc_0, px_bs]
  by_cases q : y < 0 ∨ nI T.length < y
  · obtain ⟨p', w', h1⟩ := pc_end_bad (b := b) (M := M) hC y q hw
    rw [px_bnd h1]
    dsimp only
    rw [if_pos rfl, px_bs]
    dsimp only
    rw [px_rc_m, px_bs, px_bnd (pm_end T hM.1 y), if_pos q, px_rc_m, px_bs, px_bnd pm_thrown]
    dsimp only
    rw [px_u2_ne _ _ _ _ _ _ (by omega), px_u2_eq, if_pos rfl]
    refine hK I V G R _ p' T s n mp t S Q (by omega) hC (hM.tape (fun o i z => by rw [px_u2_ne _ _ _ _ _ _ (by omega), px_u2_ne _ _ _ _ _ _ (by omega)]) ⟨px_u2_eq _ _ _ _, hTl, fun i hi => ?_⟩) w'
    rw [px_u2_ne _ _ _ _ _ _ (by omega), px_u2_ne _ _ _ _ _ _ (by omega)]
    exact hM.1.2.2 i hi
  · obtain ⟨j, hj0, rfl⟩ := nI_of (fun z => q (Or.inl z))
    have hj : j ≤ T.length := by
      have h8 : ¬ nI T.length < nI j := fun z => q (Or.inr z)
      rw [px_lt (by omega) hj0] at h8
      omega
    have hlj : (T.take j).length = j := by rw [List.length_take]; omega
    rw [px_bnd (pc_end hC j hj hw)]
    dsimp only
    rw [if_neg (Option.some_ne_none ()), px_bs]
    dsimp only
    rw [px_rc_m, px_bs, px_bnd (pm_end T hM.1 (nI j)), if_neg q, px_rc_m, px_bs, px_bnd pm_thrown]
    dsimp only
    rw [px_u2_ne _ _ _ _ _ _ (by omega), px_u2_eq, if_pos rfl]
    refine hK I V G _ _ p (T.take j) s n mp t S Q (by omega) (hC.tape _ (by omega)) (hM.tape (fun o i z => by rw [px_u2_ne _ _ _ _ _ _ (by omega), px_u2_ne _ _ _ _ _ _ (by omega)]) ⟨by rw [px_u2_eq, hlj], by omega, fun i hi => ?_⟩) (hw.less (Nat.le_succ e))
    rw [px_u2_ne _ _ _ _ _ _ (by omega), px_u2_ne _ _ _ _ _ _ (by omega), hM.1.2.2 i (by omega), List.getD_eq_getElem?_getD, List.getD_eq_getElem?_getD, List.getElem?_take, if_pos (by omega)]
theorem pl_raw (K : rc_M → Option (Int32 × rc_M)) (hC : px_CI I V G R T s n mp t S Q) (hM : px_MI M V T s n mp t S Q) (hn : n < 2 ^ 30) (hw : px_Wf b p (e + 1))
    (hK : ∀ I V G R M p T s n' mp t S Q, n' ≤ n + 1600 → px_CI I V G R T s n' mp t S Q → px_MI M V T s n' mp t S Q → px_Wf b p e → ∃ w, K (px_W b I V G R M p) = some (1, w)) :
    ∃ w, ((rc_rc (px_W b I V G R M p) (some (b + 0)) 0).bind fun a57 => (f_rec_raw (px_W b I V G R M p) a57).bind fun p59 => (rc_rc p59.2 (some (b + 316)) 7).bind fun a61 => (f_mdl_raw p59.2 a61).bind fun p63 => if p59.1 = p63.1 then K p63.2 else some (0, p63.2)) = some (1, w) := by
  obtain ⟨I', R', p', w', h1, h2⟩ := pc_raw (b := b) (M := M) hC hn (hw.less (Nat.le_succ e))
  rw [px_rc_0, px_bs, px_bnd h1]
  dsimp only
  rw [px_rc_m, px_bs, px_bnd (pm_raw T hM.1 n hn hM.2.2.1)]
  dsimp only
  rw [if_pos rfl]
  exact hK I' V G R' _ p' [] _ (n + 1) mp t S Q (by omega) h2 (hM.slot T hM.1.2.1) w'
theorem pl_value (K : rc_M → Option (Int32 × rc_M)) (hC : px_CI I V G R T s n mp t S Q) (hM : px_MI M V T s n mp t S Q) (hw : px_Wf b p (e + 1))
    (hK : ∀ I V G R M p T s n' mp t S Q, n' ≤ n + 1600 → px_CI I V G R T s n' mp t S Q → px_MI M V T s n' mp t S Q → px_Wf b p e → ∃ w, K (px_W b I V G R M p) = some (1, w)) :
    ∃ w, ((rc_rc (px_W b I V G R M p) (some (b + 0)) 0).bind fun a241 => (f_rec_value (px_W b I V G R M p) a241).bind fun p243 => (rc_rc p243.2 (some (b + 316)) 7).bind fun a245 => (f_mdl_value p243.2 a245).bind fun p247 => if (lg_cmp p243.1 p247.1) = 0 then K p247.2 else some (0, p247.2)) = some (1, w) := by
  rw [px_rc_0, px_bs, px_bnd (pc_value hC hw)]
  dsimp only
  rw [px_rc_m, px_bs, px_bnd (pm_value mp T hM.2.2.2.1 hM.1)]
  dsimp only
  rw [pl_cmp, if_pos rfl]
  exact hK I V G R _ p T s n mp t S Q (by omega) hC (hM.zero 0) (hw.less (Nat.le_succ e))
theorem pl_has (K : rc_M → Option (Int32 × rc_M)) (hC : px_CI I V G R T s n mp t S Q) (hM : px_MI M V T s n mp t S Q) (hw : px_Wf b p (e + 1))
    (hK : ∀ I V G R M p T s n' mp t S Q, n' ≤ n + 1600 → px_CI I V G R T s n' mp t S Q → px_MI M V T s n' mp t S Q → px_Wf b p e → ∃ w, K (px_W b I V G R M p) = some (1, w)) :
    ∃ w, ((rc_rc (px_W b I V G R M p) (some (b + 0)) 0).bind fun a251 => (f_rec_has (px_W b I V G R M p) a251).bind fun p253 => (rc_rc p253.2 (some (b + 316)) 7).bind fun a255 => (f_mdl_has p253.2 a255).bind fun p257 => if p253.1 = p257.1 then K p257.2 else some (0, p257.2)) = some (1, w) := by
  rw [px_rc_0, px_bs, px_bnd (pc_has hC hw)]
  dsimp only
  rw [px_rc_m, px_bs, px_bnd (pm_has mp T hM.2.2.2.1 hM.1)]
  dsimp only
  rw [if_pos rfl]
  exact hK I V G R _ p T s n mp t S Q (by omega) hC (hM.zero 0) (hw.less (Nat.le_succ e))
theorem pl_opn (K : rc_M → Option (Int32 × rc_M)) (y : Int32) (hC : px_CI I V G R T s n mp t S Q) (hM : px_MI M V T s n mp t S Q) (hw : px_Wf b p (e + 1))
    (hK : ∀ I V G R M p T s n' mp t S Q, n' ≤ n + 1600 → px_CI I V G R T s n' mp t S Q → px_MI M V T s n' mp t S Q → px_Wf b p e → ∃ w, K (px_W b I V G R M p) = some (1, w)) :
    ∃ w, ((f_law_open (px_W b I V G R M p) (some (b + 0)) y (some (b + 337))).bind fun p131 => (rc_rc p131.2 (some (b + 316)) 7).bind fun a135 => (f_mdl_open p131.2 a135 y).bind fun p137 => (rc_rc p137.2 (some (b + 316)) 7).bind fun a139 => (f_mdl_thrown p137.2 a139).bind fun p141 => if p141.1 = p131.1 then if p131.1 = 0 then (rc_aL p141.2 (some (b + 337)) 0).bind fun v145 => if p137.1 = 0 then (if (lg_cmp v145 0) = 0 then K p141.2 else some (0, p141.2)) else (if (lg_cmp v145 1) = 0 then K p141.2 else some (0, p141.2)) else K p141.2 else some (0, p141.2)) = some (1, w) := by
  unfold f_law_open b_law_open_15
  rw [px_rc_0, px_bs]
  by_cases q : y < 0 ∨ 4 ≤ y
  · obtain ⟨p', w', h1⟩ := pc_open_bad (b := b) (I := I) (V := V) (G := G) (R := R) (M := M) y q hw
    rw [px_bnd h1]
    dsimp only
    rw [if_pos rfl, px_bs]
    dsimp only
    rw [px_rc_m, px_bs, px_bnd (pm_open_bad y q)]
    dsimp only
    rw [px_rc_m, px_bs, px_bnd pm_thrown]
    dsimp only
    rw [px_u2_eq, if_pos rfl, if_neg (show ¬ (1 : Int32) = 0 by decide)]
    exact hK I V G R _ p' T s n mp t S Q (by omega) hC (hM.zero 1) w'
  · obtain ⟨c, hc0, rfl⟩ := nI_of (fun z => q (Or.inl z))
    have hc : c < 4 := by
      have h8 : ¬ 4 ≤ nI c := fun z => q (Or.inr z)
      rw [show (4 : Int32) = nI 4 from rfl, px_le (by decide) hc0] at h8
      omega
    obtain ⟨I', R', h1, h2⟩ := pc_open (b := b) (M := M) hC c hc hw
    have ok : px_sok ((S c).1, 0, 0, [], false) := ⟨by show 0 ≤ 4; omega, by show ([] : List UInt8).length ≤ 1200; simp, fun _ => rfl, fun q => absurd q (by show ¬ 0 = 4; omega), by show 0 < 2 ^ 31; decide, fun q => absurd q (show ¬ false = true by decide)⟩
    have key : ∀ (v : Int64) (z : Bool), (S c).2.2.2.2 = z → v = (if z = true then 1 else 0) → ∃ w, ((rc_sL (px_W b I' V G R' M p) (some (b + 337)) 0 v).bind fun w1 => some ((0 : Int32), w1)).bind (fun p131 => (rc_rc p131.2 (some (b + 316)) 7).bind fun a135 => (f_mdl_open p131.2 a135 (nI c)).bind fun p137 => (rc_rc p137.2 (some (b + 316)) 7).bind fun a139 => (f_mdl_thrown p137.2 a139).bind fun p141 => if p141.1 = p131.1 then if p131.1 = 0 then (rc_aL p141.2 (some (b + 337)) 0).bind fun v145 => if p137.1 = 0 then (if (lg_cmp v145 0) = 0 then K p141.2 else some (0, p141.2)) else (if (lg_cmp v145 1) = 0 then K p141.2 else some (0, p141.2)) else K p141.2 else some (0, p141.2)) = some (1, w) := by
      intro v z hz hv
      rw [show (0 : Int32) = nI 0 from rfl, px_sL_337 0 _ (by omega)]
      rw [show nI 0 = (0 : Int32) from rfl, px_bs, px_bs]
      dsimp only
      obtain ⟨M', m1, m2, m3⟩ := pm_open (b := b) (I := I') (V := px_u2 V 337 0 v) (G := G) (R := R') (p := p) c (S c) hc (hM.2.2.2.2.2.1 c hc)
      have m0 : M' 316 0 = 0 := by rw [m3 316 0 (by omega), px_u2_eq]
      rw [px_rc_m, px_bs, px_bnd m1]
      dsimp only
      rw [px_rc_m, px_bs, px_bnd pm_thrown]
      dsimp only
      rw [m0, if_pos rfl, if_pos rfl]
      rw [show (0 : Int32) = nI 0 from rfl, px_aL_337 0 (by omega)]
      rw [show nI 0 = (0 : Int32) from rfl, px_bs, px_u2_eq, hz]
      have hM1 : px_MI M (px_u2 V 337 0 v) T s n mp t S Q := hM.fr0 (fun _ _ _ => rfl) (fun k => px_u2_ne _ _ _ _ _ _ (by omega))
      have hC1 : px_CI I' (px_u2 V 337 0 v) G R' T s n mp t (va_up S c ((S c).1, 0, 0, [], false)) Q := ⟨h2.1, h2.2.1, h2.2.2.1.same rfl (fun k => px_u2_ne _ _ _ _ _ _ (by omega)) (fun _ => rfl) (fun _ _ _ => rfl), h2.2.2.2⟩
      have fin := hK I' (px_u2 V 337 0 v) G R' M' p T s n mp t _ Q (by omega) hC1 (hM1.opn hc m3 m2 ok) (hw.less (Nat.le_succ e))
      cases z with
      | false => rw [if_pos (show px_z false = 0 from rfl), hv, if_neg (show ¬ false = true by decide), pl_cmp, if_pos rfl]; rw [hv, if_neg (show ¬ false = true by decide)] at fin; exact fin
      | true => rw [if_neg (show ¬ px_z true = 0 by decide), hv, if_pos rfl, pl_cmp, if_pos rfl]; rw [hv, if_pos rfl] at fin; exact fin
    rw [px_bnd h1]
    dsimp only
    rw [if_neg (Option.some_ne_none _)]
    cases hz : (S c).2.2.2.2 with
    | false =>
      rw [if_pos (show (some (px_z false)).getD 0 = 0 from rfl)]
      exact key 0 false hz rfl
    | true =>
      rw [if_neg (show ¬ (some (px_z true)).getD 0 = 0 by decide)]
      exact key 1 true hz rfl
end PX
theorem pl_sc {xs : Nat → Int32} {L j : Nat} (h : j < L) (hL : L ≤ 3584) : rc_sc xs L (nI j) = some (xs j) := by
  unfold rc_sc
  rw [nI_clamp (by omega), if_neg (fun z => z.elim (nI_pos (by omega)) (fun u => by omega))]
def pl_K (sb : Nat) (xs : Nat → Int32) (L f b i : Nat) : rc_M → Option (Int32 × rc_M) := fun w => b_law_law_23 sb xs L f w (some (b + 0)) (some (b + 316)) (some (b + 337)) (nI i + 7)
theorem pl_K973 (sb : Nat) (xs : Nat → Int32) (L f b i : Nat) (w : rc_M) : b_law_law_973 sb xs L (b_law_law_23 sb xs L f) w (some (b + 0)) (some (b + 316)) (some (b + 337)) (nI i) = pl_K sb xs L f b i w := rfl
theorem pl_K213 (sb : Nat) (xs : Nat → Int32) (L f b i : Nat) (w : rc_M) : b_law_law_213 sb xs L (b_law_law_23 sb xs L f) w (some (b + 0)) (some (b + 316)) (some (b + 337)) (nI i) = pl_K sb xs L f b i w := rfl
theorem pl_K318 (sb : Nat) (xs : Nat → Int32) (L f b i : Nat) (w : rc_M) : b_law_law_318 sb xs L (b_law_law_23 sb xs L f) w (some (b + 0)) (some (b + 316)) (some (b + 337)) (nI i) = pl_K sb xs L f b i w := rfl
theorem pl_K472 (sb : Nat) (xs : Nat → Int32) (L f b i : Nat) (w : rc_M) : b_law_law_472 sb xs L (b_law_law_23 sb xs L f) w (some (b + 0)) (some (b + 316)) (some (b + 337)) (nI i) = pl_K sb xs L f b i w := rfl
theorem pl_K564 (sb : Nat) (xs : Nat → Int32) (L f b i : Nat) (w : rc_M) : b_law_law_564 sb xs L (b_law_law_23 sb xs L f) w (some (b + 0)) (some (b + 316)) (some (b + 337)) (nI i) = pl_K sb xs L f b i w := rfl
theorem pl_K627 (sb : Nat) (xs : Nat → Int32) (L f b i : Nat) (w : rc_M) : b_law_law_627 sb xs L (b_law_law_23 sb xs L f) w (some (b + 0)) (some (b + 316)) (some (b + 337)) (nI i) = pl_K sb xs L f b i w := rfl
theorem pl_K683 (sb : Nat) (xs : Nat → Int32) (L f b i : Nat) (w : rc_M) : b_law_law_683 sb xs L (b_law_law_23 sb xs L f) w (some (b + 0)) (some (b + 316)) (some (b + 337)) (nI i) = pl_K sb xs L f b i w := rfl
theorem pl_K751 (sb : Nat) (xs : Nat → Int32) (L f b i : Nat) (w : rc_M) : b_law_law_751 sb xs L (b_law_law_23 sb xs L f) w (some (b + 0)) (some (b + 316)) (some (b + 337)) (nI i) = pl_K sb xs L f b i w := rfl
theorem pl_K819 (sb : Nat) (xs : Nat → Int32) (L f b i : Nat) (w : rc_M) : b_law_law_819 sb xs L (b_law_law_23 sb xs L f) w (some (b + 0)) (some (b + 316)) (some (b + 337)) (nI i) = pl_K sb xs L f b i w := rfl
theorem pl_K887 (sb : Nat) (xs : Nat → Int32) (L f b i : Nat) (w : rc_M) : b_law_law_887 sb xs L (b_law_law_23 sb xs L f) w (some (b + 0)) (some (b + 316)) (some (b + 337)) (nI i) = pl_K sb xs L f b i w := rfl
theorem pl_K970 (sb : Nat) (xs : Nat → Int32) (L f b i : Nat) (w : rc_M) : b_law_law_970 sb xs L (b_law_law_23 sb xs L f) w (some (b + 0)) (some (b + 316)) (some (b + 337)) (nI i) = pl_K sb xs L f b i w := rfl
theorem pl_e_feed (w : rc_M) (r0 r6 : Option Nat) (x1 x2 x3 x4 x5 : Int32) : f_law_feed w r0 x1 x2 x3 x4 x5 r6 = ((rc_rc w r0 0).bind fun a1 => (f_rec_feed w a1 x1 x2 x3 x4 x5).bind fun p3 => if p3.1 = none then some (1, p3.2) else (rc_sL p3.2 r6 0 ((p3.1.getD 0).toInt64)).bind fun w7 => some (0, w7)) := rfl
theorem pl_e_record (w : rc_M) (r0 r6 : Option Nat) (x1 : Int32) : f_law_record w r0 x1 r6 = ((rc_rc w r0 0).bind fun a1 => (f_rec_record w a1 x1).bind fun p3 => if p3.1 = none then some (1, p3.2) else (rc_sL p3.2 r6 0 ((p3.1.getD 0).toInt64)).bind fun w7 => some (0, w7)) := rfl
theorem pl_e_push (w : rc_M) (r0 r6 : Option Nat) (x1 x2 x3 x4 : Int32) : f_law_push w r0 x1 x2 x3 x4 r6 = ((rc_rc w r0 0).bind fun a1 => (f_rec_push w a1 x1 x2 x3 x4).bind fun p3 => if p3.1 = none then some (1, p3.2) else (rc_sL p3.2 r6 0 ((p3.1.getD 0).toInt64)).bind fun w7 => some (0, w7)) := rfl
theorem pl_e_length (w : rc_M) (r0 r6 : Option Nat) (x1 : Int32) : f_law_length w r0 x1 r6 = ((rc_rc w r0 0).bind fun a1 => (f_rec_length w a1 x1).bind fun p3 => if p3.1 = none then some (1, p3.2) else (rc_sL p3.2 r6 0 ((p3.1.getD 0).toInt64)).bind fun w7 => some (0, w7)) := rfl
theorem pl_e_byteAt (w : rc_M) (r0 r6 : Option Nat) (x1 x2 : Int32) : f_law_byteAt w r0 x1 x2 r6 = ((rc_rc w r0 0).bind fun a1 => (f_rec_byteAt w a1 x1 x2).bind fun p3 => if p3.1 = none then some (1, p3.2) else (rc_sL p3.2 r6 0 ((p3.1.getD 0).toInt64)).bind fun w7 => some (0, w7)) := rfl
theorem pl_e_word (w : rc_M) (r0 r6 : Option Nat) (x1 x2 : Int32) : f_law_word w r0 x1 x2 r6 = ((rc_rc w r0 0).bind fun a1 => (f_rec_word w a1 x1 x2).bind fun p3 => if p3.1 = none then some (1, p3.2) else (rc_sL p3.2 r6 0 ((p3.1.getD 0).toInt64)).bind fun w7 => some (0, w7)) := rfl
theorem pl_e_says (w : rc_M) (r0 r6 : Option Nat) (x1 x2 : Int32) : f_law_says w r0 x1 x2 r6 = ((rc_rc w r0 0).bind fun a1 => (f_rec_says w a1 x1 x2).bind fun p3 => if p3.1 = none then some (1, p3.2) else (rc_sL p3.2 r6 0 ((p3.1.getD 0).toInt64)).bind fun w7 => some (0, w7)) := rfl
theorem pl_e_count (w : rc_M) (r0 r6 : Option Nat) (x1 : Int32) : f_law_count w r0 x1 r6 = ((rc_rc w r0 0).bind fun a1 => (f_rec_count w a1 x1).bind fun p3 => if p3.1 = none then some (1, p3.2) else (rc_sL p3.2 r6 0 ((p3.1.getD 0).toInt64)).bind fun w7 => some (0, w7)) := rfl
theorem pl_e_call (w : rc_M) (r0 r6 : Option Nat) (x1 x2 x3 x4 : Int32) (v : Int64) : f_law_call w r0 x1 x2 x3 x4 v r6 = ((rc_rc w r0 0).bind fun a1 => (f_rec_call w a1 x1 x2 x3 x4 v).bind fun p3 => if p3.1 = none then some (1, p3.2) else (rc_sL p3.2 r6 0 ((p3.1.getD 0).toInt64)).bind fun w7 => some (0, w7)) := rfl
theorem pl_loop (b sb : Nat) (xs : Nat → Int32) (L : Nat) (hL : L ≤ 3584) : ∀ (f i e : Nat) (I : Nat → Nat → Int32) (V : Nat → Nat → Int64) (G : Nat → Nat → Nat) (R : Nat → List UInt8) (M : Nat → Nat → Int32) (p : px_P) (T : List UInt8) (s : Nat → List UInt8) (n : Nat) (mp : px_Mp) (t : Int32 × Int32 × Int32) (S : Nat → px_S) (Q : Nat → px_Rp), i ≤ L → L < i + 7 * f → L < i + 7 * (e + 1) → n ≤ 1600 * i → px_CI I V G R T s n mp t S Q → px_MI M V T s n mp t S Q → px_Wf b p e → ∃ w, b_law_law_23 sb xs L f (px_W b I V G R M p) (some (b + 0)) (some (b + 316)) (some (b + 337)) (nI i) = some (1, w) := by
  intro f
  induction f with
  | zero => intro i e I V G R M p T s n mp t S Q h1 h2; omega
  | succ f ih =>
    intro i e I V G R M p T s n mp t S Q h1 h2 h3 h4 hC hM hw
    rw [b_law_law_23]
    have e7 : (nI L - nI 7 < nI i) = (L < i + 7) := px_msub2 (by omega) (by decide) i (by omega)
    by_cases q : L < i + 7
    · rw [if_pos (by rw [show (7 : Int32) = nI 7 from rfl, e7]; exact q)]
      exact ⟨_, rfl⟩
    · rw [if_neg (by rw [show (7 : Int32) = nI 7 from rfl, e7]; exact q)]
      obtain ⟨e, rfl⟩ : ∃ e', e = e' + 1 := ⟨e - 1, by omega⟩
      have hn : n + 1600 < 2 ^ 30 := by omega
      have hn' : n < 2 ^ 30 := by omega
      have c0 : rc_sc xs L (nI i) = some (xs i) := pl_sc (by omega) hL
      have c1 : rc_sc xs L (nI i + 1) = some (xs (i + 1)) := by rw [nI_1]; exact pl_sc (by omega) hL
      have c2 : rc_sc xs L (nI i + 2) = some (xs (i + 2)) := by rw [show (2 : Int32) = nI 2 from rfl, nI_add]; exact pl_sc (by omega) hL
      have c3 : rc_sc xs L (nI i + 3) = some (xs (i + 3)) := by rw [show (3 : Int32) = nI 3 from rfl, nI_add]; exact pl_sc (by omega) hL
      have c4 : rc_sc xs L (nI i + 4) = some (xs (i + 4)) := by rw [show (4 : Int32) = nI 4 from rfl, nI_add]; exact pl_sc (by omega) hL
      have c5 : rc_sc xs L (nI i + 5) = some (xs (i + 5)) := by rw [show (5 : Int32) = nI 5 from rfl, nI_add]; exact pl_sc (by omega) hL
      have c6 : rc_sc xs L (nI i + 6) = some (xs (i + 6)) := by rw [show (6 : Int32) = nI 6 from rfl, nI_add]; exact pl_sc (by omega) hL
      have hK : ∀ I V G R M p T s n' mp t S Q, n' ≤ n + 1600 → px_CI I V G R T s n' mp t S Q → px_MI M V T s n' mp t S Q → px_Wf b p e → ∃ w, pl_K sb xs L f b i (px_W b I V G R M p) = some (1, w) := by
        intro I V G R M p T s n' mp t S Q g1 g2 g3 g4
        show ∃ w, b_law_law_23 sb xs L f _ _ _ _ (nI i + 7) = _
        rw [show (7 : Int32) = nI 7 from rfl, nI_add]
        exact ih (i + 7) e I V G R M p T s n' mp t S Q (by omega) (by omega) (by omega) (by omega) g2 g3 g4
      rw [c0, px_bs]
      generalize hy : xs i &&& 15 = y
      by_cases y0 : y = 0
      · rw [if_pos y0]
        simp only [c1, c2, c3, c4, c5, px_bs, pl_K213]
        exact pl_nine (K := pl_K sb xs L f b i) (F := fun w a => f_rec_feed w a (xs (i + 1)) (xs (i + 2)) (xs (i + 3)) (xs (i + 4)) (xs (i + 5))) (Fm := fun w a => f_mdl_feed w a (xs (i + 1)) (xs (i + 2)) (xs (i + 3)) (xs (i + 4)) (xs (i + 5))) _ (pl_e_feed _ _ _ (xs (i + 1)) (xs (i + 2)) (xs (i + 3)) (xs (i + 4)) (xs (i + 5))) (pj_feed hC hw _ _ _ _ _) hM hK
      · rw [if_neg y0]
        by_cases y1 : y = 1
        · rw [if_pos y1]
          simp only [c1, px_bs, pl_K973]
          exact pl_end (pl_K sb xs L f b i) _ hC hM hw hK
        · rw [if_neg y1]
          by_cases y2 : y = 2
          · rw [if_pos y2]
            simp only [pl_K973]
            exact pl_raw (pl_K sb xs L f b i) hC hM hn' hw hK
          · rw [if_neg y2]
            by_cases y3 : y = 3
            · rw [if_pos y3]
              simp only [c1, px_bs, pl_K318]
              exact pl_nine (K := pl_K sb xs L f b i) (F := fun w a => f_rec_record w a (xs (i + 1))) (Fm := fun w a => f_mdl_record w a (xs (i + 1))) _ (pl_e_record _ _ _ (xs (i + 1))) (pj_record hC hw hn' _) hM hK
            · rw [if_neg y3]
              by_cases y4 : y = 4
              · rw [if_pos y4]
                simp only [c1, c2, c3, c4, px_bs]
                by_cases z4 : xs (i + 4) = 0
                · rw [if_pos z4]
                  unfold b_law_law_354
                  simp only [c1, c2, c3, c4, c5, c6, px_bs]
                  unfold b_law_law_416
                  simp only [c5, c6, px_bs, if_pos z4, pl_K472]
                  exact pl_nine (K := pl_K sb xs L f b i) (F := fun w a => f_rec_call w a (xs (i + 1)) (xs (i + 2)) (xs (i + 3)) 0 (((xs (i + 5)).toInt64 <<< ((32 : Int32).toInt64 &&& 63)) ||| ((xs (i + 6)).toInt64 &&& 4294967295))) (Fm := fun w a => f_mdl_call w a (xs (i + 1)) (xs (i + 2)) (xs (i + 3)) 0 (((xs (i + 5)).toInt64 <<< ((32 : Int32).toInt64 &&& 63)) ||| ((xs (i + 6)).toInt64 &&& 4294967295))) _ (pl_e_call _ _ _ (xs (i + 1)) (xs (i + 2)) (xs (i + 3)) 0 (((xs (i + 5)).toInt64 <<< ((32 : Int32).toInt64 &&& 63)) ||| ((xs (i + 6)).toInt64 &&& 4294967295))) (pj_call hC hw hn' _ _ _ _ _) hM hK
                · rw [if_neg z4]
                  unfold b_law_law_354
                  simp only [c1, c2, c3, c4, c5, c6, px_bs]
                  unfold b_law_law_416
                  simp only [c5, c6, px_bs, if_neg z4, pl_K472]
                  exact pl_nine (K := pl_K sb xs L f b i) (F := fun w a => f_rec_call w a (xs (i + 1)) (xs (i + 2)) (xs (i + 3)) 1 (((xs (i + 5)).toInt64 <<< ((32 : Int32).toInt64 &&& 63)) ||| ((xs (i + 6)).toInt64 &&& 4294967295))) (Fm := fun w a => f_mdl_call w a (xs (i + 1)) (xs (i + 2)) (xs (i + 3)) 1 (((xs (i + 5)).toInt64 <<< ((32 : Int32).toInt64 &&& 63)) ||| ((xs (i + 6)).toInt64 &&& 4294967295))) _ (pl_e_call _ _ _ (xs (i + 1)) (xs (i + 2)) (xs (i + 3)) 1 (((xs (i + 5)).toInt64 <<< ((32 : Int32).toInt64 &&& 63)) ||| ((xs (i + 6)).toInt64 &&& 4294967295))) (pj_call hC hw hn' _ _ _ _ _) hM hK
              · rw [if_neg y4]
                by_cases y5 : y = 5
                · rw [if_pos y5]
                  simp only [c1, c2, c3, c4, px_bs, pl_K564]
                  exact pl_nine (K := pl_K sb xs L f b i) (F := fun w a => f_rec_push w a (xs (i + 1)) (xs (i + 2)) (xs (i + 3)) (xs (i + 4))) (Fm := fun w a => f_mdl_push w a (xs (i + 1)) (xs (i + 2)) (xs (i + 3)) (xs (i + 4))) _ (pl_e_push _ _ _ (xs (i + 1)) (xs (i + 2)) (xs (i + 3)) (xs (i + 4))) (pj_push hC hM.2.2.2.2.2.2.2 hw hn _ _ _ _) hM hK
                · rw [if_neg y5]
                  by_cases y6 : y = 6
                  · rw [if_pos y6]
                    simp only [c1, px_bs, b_law_law_621, pl_K627]
                    exact pl_opn (pl_K sb xs L f b i) _ hC hM hw hK
                  · rw [if_neg y6]
                    by_cases y7 : y = 7
                    · rw [if_pos y7]
                      simp only [c1, px_bs, pl_K683]
                      exact pl_nine (K := pl_K sb xs L f b i) (F := fun w a => f_rec_length w a (xs (i + 1))) (Fm := fun w a => f_mdl_length w a (xs (i + 1))) _ (pl_e_length _ _ _ (xs (i + 1))) (pj_length hC hw hn' _) hM hK
                    · rw [if_neg y7]
                      by_cases y8 : y = 8
                      · rw [if_pos y8]
                        simp only [c1, c2, px_bs, pl_K751]
                        exact pl_nine (K := pl_K sb xs L f b i) (F := fun w a => f_rec_byteAt w a (xs (i + 1)) (xs (i + 2))) (Fm := fun w a => f_mdl_byteAt w a (xs (i + 1)) (xs (i + 2))) _ (pl_e_byteAt _ _ _ (xs (i + 1)) (xs (i + 2))) (pj_byteAt hC hw hn' _ _) hM hK
                      · rw [if_neg y8]
                        by_cases y9 : y = 9
                        · rw [if_pos y9]
                          simp only [c1, c2, px_bs, pl_K819]
                          exact pl_nine (K := pl_K sb xs L f b i) (F := fun w a => f_rec_word w a (xs (i + 1)) (xs (i + 2))) (Fm := fun w a => f_mdl_word w a (xs (i + 1)) (xs (i + 2))) _ (pl_e_word _ _ _ (xs (i + 1)) (xs (i + 2))) (pj_word hC hw hn' _ _) hM hK
                        · rw [if_neg y9]
                          by_cases y10 : y = 10
                          · rw [if_pos y10]
                            simp only [c1, c2, px_bs, pl_K887]
                            exact pl_nine (K := pl_K sb xs L f b i) (F := fun w a => f_rec_says w a (xs (i + 1)) (xs (i + 2))) (Fm := fun w a => f_mdl_says w a (xs (i + 1)) (xs (i + 2))) _ (pl_e_says _ _ _ (xs (i + 1)) (xs (i + 2))) (pj_says hC hw hn' _ _) hM hK
                          · rw [if_neg y10]
                            by_cases y11 : y = 11
                            · rw [if_pos y11]
                              simp only [pl_K973]
                              exact pl_value (pl_K sb xs L f b i) hC hM hw hK
                            · rw [if_neg y11]
                              by_cases y12 : y = 12
                              · rw [if_pos y12]
                                simp only [pl_K973]
                                exact pl_has (pl_K sb xs L f b i) hC hM hw hK
                              · rw [if_neg y12]
                                by_cases y13 : y = 13
                                · rw [if_pos y13]
                                  simp only [c1, px_bs, pl_K970]
                                  exact pl_nine (K := pl_K sb xs L f b i) (F := fun w a => f_rec_count w a (xs (i + 1))) (Fm := fun w a => f_mdl_count w a (xs (i + 1))) _ (pl_e_count _ _ _ (xs (i + 1))) (pj_count hC hw _) hM hK
                                · rw [if_neg y13]
                                  rw [pl_K973]
                                  exact hK I V G R M p T s n mp t S Q (by omega) hC hM (hw.less (Nat.le_succ e))
