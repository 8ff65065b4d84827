/-! THE CLASS, 4: the replies that a connection keeps -/
def px_cp (I : Nat → Nat → Int32) (R : Nat → List UInt8) (c : Nat) (rp : px_Rp) : Prop := rp.length ≤ 8 ∧ I (231 + 22 * c) 2 = nI rp.length ∧ ∃ od, od < 8 ∧ I (231 + 22 * c) 3 = nI od ∧ (rp.length < 8 → od = 0) ∧ (∀ k, k < rp.length → I (233 + 22 * c) ((od + k) % 8) = (px_q rp k).1 ∧ R (234 + 22 * c + 2 * ((od + k) % 8)) = (px_q rp k).2 ∧ (px_q rp k).2.length ≤ 400) ∧ ∀ k k', k < rp.length → k' < rp.length → (px_q rp k).1 = (px_q rp k').1 → k = k'
theorem px_cp.same {I I' : Nat → Nat → Int32} {R R' : Nat → List UInt8} {c : Nat} {rp : px_Rp} (h : px_cp I R c rp) (h1 : ∀ k, I' (231 + 22 * c) k = I (231 + 22 * c) k) (h2 : ∀ k, I' (233 + 22 * c) k = I (233 + 22 * c) k) (h3 : ∀ o, 234 + 22 * c ≤ o → o < 250 + 22 * c → R' o = R o) : px_cp I' R' c rp := by
  obtain ⟨a1, a2, od, a3, a4, a5, a6, a7⟩ := h
  refine ⟨a1, (h1 _).trans a2, od, a3, (h1 _).trans a4, a5, fun k hk => ?_, a7⟩
  rw [h2, h3 _ (by omega) (by omega)]
  exact a6 k hk
theorem px_fng_none {rp : px_Rp} {x : Int32} : ∀ {n k : Nat}, px_fng rp x n k = none → ∀ i, k ≤ i → i < k + n → (px_q rp i).1 ≠ x := by
  intro n
  induction n with
  | zero => intro k _ i h1 h2; omega
  | succ n ih =>
    intro k h i h1 h2
    rw [px_fng] at h
    by_cases q : (px_q rp k).1 = x
    · rw [if_pos q] at h; cases h
    · rw [if_neg q] at h
      by_cases e : i = k
      · rw [e]; exact q
      · exact ih h i (by omega) (by omega)
theorem px_fn_none {rp : px_Rp} {x : Int32} (h : px_fn rp x = none) : ∀ i, i < rp.length → (px_q rp i).1 ≠ x := fun i hi => px_fng_none h i (by omega) (by omega)
def px_rs (g : Nat → Int32) (x : Int32) : Nat → Nat → Option Nat
  | 0, _ => none
  | n + 1, j => if g j = x then some j else px_rs g x n (j + 1)
theorem px_rs_some {g : Nat → Int32} {x : Int32} : ∀ {n j i : Nat}, px_rs g x n j = some i → j ≤ i ∧ i < j + n ∧ g i = x := by
  intro n
  induction n with
  | zero => intro j i h; cases h
  | succ n ih =>
    intro j i h
    rw [px_rs] at h
    by_cases q : g j = x
    · rw [if_pos q] at h; cases h; exact ⟨Nat.le_refl _, by omega, q⟩
    · rw [if_neg q] at h
      have := ih h
      exact ⟨by omega, by omega, this.2.2⟩
theorem px_rs_none {g : Nat → Int32} {x : Int32} : ∀ {n j : Nat}, px_rs g x n j = none → ∀ i, j ≤ i → i < j + n → g i ≠ x := by
  intro n
  induction n with
  | zero => intro j _ i h1 h2; omega
  | succ n ih =>
    intro j h i h1 h2
    rw [px_rs] at h
    by_cases q : g j = x
    · rw [if_pos q] at h; cases h
    · rw [if_neg q] at h
      by_cases e : i = j
      · rw [e]; exact q
      · exact ih h i (by omega) (by omega)
theorem px_inc8 : ∀ o : Fin 8, (nI o.val + 1) - (nI o.val + 1) / 8 * 8 = nI ((o.val + 1) % 8) := by decide +kernel
theorem px_q_app {rp : px_Rp} {k : Nat} (x : Int32 × List UInt8) (hk : k < rp.length + 1) : px_q (rp ++ [x]) k = if k = rp.length then x else px_q rp k := by
  unfold px_q
  by_cases q : k = rp.length
  · subst q; simp
  · rw [if_neg q, List.getD_eq_getElem?_getD, List.getD_eq_getElem?_getD, List.getElem?_append_left (by omega)]
theorem px_q_drop {rp : px_Rp} {k : Nat} : px_q (rp.drop 1) k = px_q rp (k + 1) := by
  unfold px_q
  rw [List.getD_eq_getElem?_getD, List.getD_eq_getElem?_getD, List.getElem?_drop, Nat.add_comm]
section PX
variable {b : Nat} {I : Nat → Nat → Int32} {V : Nat → Nat → Int64} {G : Nat → Nat → Nat} {R : Nat → List UInt8} {M : Nat → Nat → Int32} {p : px_P} {e : Nat}
theorem pc_find_go (c n : Nat) (hc : c < 4) (hn : n ≤ 8) (h2 : I (231 + 22 * c) 2 = nI n) (x : Int32) : ∀ (m j f : Nat), n = j + m → m < f → b_rpl_find_2 f (px_W b I V G R M p) (b + (231 + 22 * c)) x (nI j) = some ((px_rs (I (233 + 22 * c)) x m j).map (fun j => b + (234 + 22 * c + 2 * j)), px_W b I V G R M p) := by
  intro m
  induction m with
  | zero =>
    intro j f hj hf
    obtain ⟨f, rfl⟩ : ∃ q, f = q + 1 := ⟨f - 1, by omega⟩
    rw [b_rpl_find_2, px_gI_r_2 c hc, px_bs, h2, if_pos (nI_le (by omega) (by omega))]
    rfl
  | succ m ih =>
    intro j f hj hf
    obtain ⟨f, rfl⟩ : ∃ q, f = q + 1 := ⟨f - 1, by omega⟩
    rw [b_rpl_find_2, px_gI_r_2 c hc, px_bs, h2, if_neg (nI_ge (by omega) (by omega)), px_gR_r_1 c hc, px_bs, px_aI_no c hc j (by omega), px_bs, px_rs]
    by_cases q : I (233 + 22 * c) j = x
    · rw [if_pos q, px_gR_r_0 c hc, px_bs, px_aR_p c hc j (by omega), px_bs, if_pos q]
      rfl
    · rw [if_neg q, if_neg q, nI_1]
      exact ih (j + 1) f (by omega) (by omega)
theorem pc_find (c : Nat) (hc : c < 4) (rp : px_Rp) (h : px_cp I R c rp) (x : Int32) : ∃ o, f_rpl_find (px_W b I V G R M p) (b + (231 + 22 * c)) x = some (o, px_W b I V G R M p) ∧ (px_fn rp x = none → o = none) ∧ (∀ k, px_fn rp x = some k → ∃ j, j < 8 ∧ o = some (b + (234 + 22 * c + 2 * j)) ∧ R (234 + 22 * c + 2 * j) = (px_q rp k).2 ∧ (px_q rp k).2.length ≤ 400) := by
  obtain ⟨a1, a2, od, a3, a4, a5, a6, a7⟩ := h
  unfold f_rpl_find
  generalize hF : (5000 : Nat) = fu
  have h0 := pc_find_go (b := b) (V := V) (G := G) (R := R) (M := M) (p := p) c rp.length hc a1 a2 x rp.length 0 fu (by omega) (by omega)
  rw [nI_0] at h0
  refine ⟨_, h0, fun q => ?_, fun k q => ?_⟩
  · cases hr : px_rs (I (233 + 22 * c)) x rp.length 0 with
    | none => rfl
    | some j =>
      exfalso
      obtain ⟨_, b2, b3⟩ := px_rs_some hr
      have hk : (j + 8 - od) % 8 < rp.length ∧ (od + (j + 8 - od) % 8) % 8 = j := by
        by_cases q8 : rp.length < 8
        · have := a5 q8; omega
        · omega
      have := (a6 _ hk.1).1
      rw [hk.2, b3] at this
      exact px_fn_none q _ hk.1 this.symm
  · obtain ⟨c1, c2⟩ := px_fn_lt q
    obtain ⟨d1, d2, d3⟩ := a6 k c1
    have hj : (od + k) % 8 < rp.length := by
      by_cases q8 : rp.length < 8
      · have := a5 q8; omega
      · omega
    cases hr : px_rs (I (233 + 22 * c)) x rp.length 0 with
    | none => exact absurd (d1.trans c2) (px_rs_none hr _ (Nat.zero_le _) (by omega))
    | some j =>
      obtain ⟨_, b2, b3⟩ := px_rs_some hr
      have hk : (j + 8 - od) % 8 < rp.length ∧ (od + (j + 8 - od) % 8) % 8 = j := by
        by_cases q8 : rp.length < 8
        · have := a5 q8; omega
        · omega
      have h1 := a6 _ hk.1
      rw [hk.2] at h1
      have hkk : (j + 8 - od) % 8 = k := a7 _ _ hk.1 c1 (by rw [← h1.1, b3, c2])
      rw [hkk] at h1
      exact ⟨j, by omega, rfl, h1.2⟩
theorem pc_keep_end (c j : Nat) (hc : c < 4) (hj : j < 8) (B : List UInt8) (hB : B.length ≤ 400) (h92 : R 92 = B) (x : Int32) (hw : px_Wf b p e) : ∃ p', px_Wf b p' e ∧ b_rpl_keep_56 (px_W b I V G R M p) (b + (231 + 22 * c)) x (some (b + 92)) (nI j) = some (px_W b (px_u2 I (233 + 22 * c) j x) V G (va_up R (234 + 22 * c + 2 * j) B) M p') := by
  have hne : 234 + 22 * c + 2 * j ≠ 92 := by omega
  have hr := px_rP c j hc hj
  obtain ⟨p1, w1, h1⟩ := px_addPart (b := b) (I := px_u2 I (233 + 22 * c) j x) (V := V) (G := G) (R := va_up R (234 + 22 * c + 2 * j) []) (M := M) (234 + 22 * c + 2 * j) 92 0 B.length hr px_r92 hne hw (by rw [px_va_ne _ _ _ _ (Ne.symm hne), h92]; omega) (by rw [px_va_ne _ _ _ _ (Ne.symm hne), h92]; omega) (by rw [px_va_eq]; simp; omega)
  rw [px_va_ne _ _ _ _ (Ne.symm hne), px_va_va, px_va_eq, List.nil_append, h92, List.drop_zero, List.take_length, nI_0] at h1
  unfold b_rpl_keep_56
  rw [px_gR_r_1 c hc, px_bs, px_sI_no c hc j x hj, px_bs, px_gR_r_0 c hc, px_bs, px_aR_p c hc j hj, px_bs, px_rcR _ hr, px_bs, px_bnd (px_clear _ hr hw), px_gR_r_0 c hc, px_bs, px_aR_p c hc j hj, px_bs, px_rcR 92 px_r92, px_bs, px_bnd (px_size 92 px_r92 hw), px_va_ne _ _ _ _ (Ne.symm hne), h92]
  dsimp only
  rw [px_rcR _ hr, px_bs, px_bnd h1]
  exact ⟨p1, w1, rfl⟩
theorem pc_keep (c : Nat) (hc : c < 4) (rp : px_Rp) (h : px_cp I R c rp) (x : Int32) (hx : px_fn rp x = none) (B : List UInt8) (hB : B.length ≤ 400) (h92 : R 92 = B) (hw : px_Wf b p e) : ∃ I' R' p', px_Wf b p' e ∧ f_rpl_keep (px_W b I V G R M p) (b + (231 + 22 * c)) x (some (b + 92)) = some (px_W b I' V G R' M p') ∧ px_cp I' R' c (px_kp rp x B) ∧ (∀ o k, o ≠ 231 + 22 * c → o ≠ 233 + 22 * c → I' o k = I o k) ∧ (∀ o, ¬ (234 + 22 * c ≤ o ∧ o < 250 + 22 * c) → R' o = R o) := by
  obtain ⟨a1, a2, od, a3, a4, a5, a6, a7⟩ := h
  have hd : ∀ k, k < (px_kp rp x B).length → ∀ k', k' < (px_kp rp x B).length → (px_q (px_kp rp x B) k).1 = (px_q (px_kp rp x B) k').1 → k = k' := by
    unfold px_kp
    generalize hrp : (if rp.length = 8 then rp.drop 1 else rp) = r0
    have hr0 : ∀ k, k < r0.length → ∃ d, d ≤ 1 ∧ px_q r0 k = px_q rp (k + d) ∧ k + d < rp.length ∧ (d = if rp.length = 8 then 1 else 0) := by
      intro k hk
      by_cases q8 : rp.length = 8
      · rw [if_pos q8] at hrp ⊢
        subst hrp
        rw [List.length_drop] at hk
        exact ⟨1, by omega, px_q_drop, by omega, rfl⟩
      · rw [if_neg q8] at hrp ⊢
        subst hrp
        exact ⟨0, by omega, rfl, by omega, rfl⟩
    intro k hk k' hk' q
    rw [List.length_append, List.length_singleton] at hk hk'
    rw [px_q_app _ hk, px_q_app _ hk'] at q
    by_cases q1 : k = r0.length
    · by_cases q2 : k' = r0.length
      · omega
      · rw [if_pos q1, if_neg q2] at q
        obtain ⟨d, _, e1, e2, _⟩ := hr0 k' (by omega)
        rw [e1] at q
        exact absurd q.symm (px_fn_none hx _ e2)
    · by_cases q2 : k' = r0.length
      · rw [if_neg q1, if_pos q2] at q
        obtain ⟨d, _, e1, e2, _⟩ := hr0 k (by omega)
        rw [e1] at q
        exact absurd q (px_fn_none hx _ e2)
      · rw [if_neg q1, if_neg q2] at q
        obtain ⟨d, _, e1, e2, e3⟩ := hr0 k (by omega)
        obtain ⟨d', _, f1, f2, f3⟩ := hr0 k' (by omega)
        rw [e1, f1] at q
        have := a7 _ _ e2 f2 q
        omega
  unfold f_rpl_keep b_rpl_keep_20
  rw [px_gI_r_2 c hc, px_bs, a2]
  by_cases q8 : rp.length = 8
  · rw [if_pos (by rw [q8]; decide), px_gI_r_3 c hc, px_bs, a4, px_bs, if_pos (by rw [q8]; decide), px_bs, px_inc8 ⟨od, a3⟩, px_pI_r_3 c hc, px_bs]
    obtain ⟨p1, w1, h1⟩ := pc_keep_end (b := b) (I := px_u2 I (231 + 22 * c) 3 (nI ((od + 1) % 8))) (V := V) (G := G) (R := R) (M := M) c od hc a3 B hB h92 x hw
    refine ⟨_, _, p1, w1, h1, ?_, fun o k h1 h2 => by rw [px_u2_ne _ _ _ _ _ _ (by omega), px_u2_ne _ _ _ _ _ _ (by omega)], fun o q => px_va_ne _ _ _ _ (by omega)⟩
    have hl : (px_kp rp x B).length = 8 := by unfold px_kp; rw [if_pos q8, List.length_append, List.length_drop, List.length_singleton]; omega
    refine ⟨by omega, ?_, (od + 1) % 8, by omega, ?_, fun q => by omega, fun k hk => ?_, fun k k' h1 h2 q => hd k h1 k' h2 q⟩
    · rw [px_u2_ne _ _ _ _ _ _ (by omega), px_u2_ne _ _ _ _ _ _ (by omega), a2, hl, q8]
    · rw [px_u2_ne _ _ _ _ _ _ (by omega), px_u2_eq]
    · rw [hl] at hk
      have hl7 : (rp.drop 1).length = 7 := by rw [List.length_drop]; omega
      have e0 : px_q (px_kp rp x B) k = if k = 7 then (x, B) else px_q rp (k + 1) := by
        unfold px_kp
        rw [if_pos q8, px_q_app _ (by omega), hl7, px_q_drop]
      rw [e0]
      by_cases q7 : k = 7
      · rw [if_pos q7, show ((od + 1) % 8 + k) % 8 = od by omega, px_u2_eq, px_va_eq]
        exact ⟨rfl, rfl, hB⟩
      · rw [if_neg q7, show ((od + 1) % 8 + k) % 8 = (od + (k + 1)) % 8 by omega, px_u2_ne _ _ _ _ _ _ (by omega), px_u2_ne _ _ _ _ _ _ (by omega), px_va_ne _ _ _ _ (by omega)]
        exact a6 (k + 1) (by omega)
  · rw [if_neg (by rw [show (8 : Int32) = nI 8 from rfl]; exact nI_ge (by omega) (by decide)), px_bs, px_bs, if_neg (by rw [show (8 : Int32) = nI 8 from rfl]; exact nI_ge (by omega) (by decide)), px_bs, px_pI_r_2 c hc, px_bs]
    have o0 : od = 0 := a5 (by omega)
    subst o0
    obtain ⟨p1, w1, h1⟩ := pc_keep_end (b := b) (I := px_u2 I (231 + 22 * c) 2 (nI rp.length + 1)) (V := V) (G := G) (R := R) (M := M) c rp.length hc (by omega) B hB h92 x hw
    refine ⟨_, _, p1, w1, h1, ?_, fun o k h1 h2 => by rw [px_u2_ne _ _ _ _ _ _ (by omega), px_u2_ne _ _ _ _ _ _ (by omega)], fun o q => px_va_ne _ _ _ _ (by omega)⟩
    have hl : (px_kp rp x B).length = rp.length + 1 := by unfold px_kp; rw [if_neg q8, List.length_append, List.length_singleton]
    refine ⟨by omega, ?_, 0, by omega, ?_, fun q => rfl, fun k hk => ?_, fun k k' h1 h2 q => hd k h1 k' h2 q⟩
    · rw [px_u2_ne _ _ _ _ _ _ (by omega), px_u2_eq, hl, nI_1]
    · rw [px_u2_ne _ _ _ _ _ _ (by omega), px_u2_ne _ _ _ _ _ _ (by omega), a4]
    · rw [hl] at hk
      have e0 : px_q (px_kp rp x B) k = if k = rp.length then (x, B) else px_q rp k := by
        unfold px_kp
        rw [if_neg q8, px_q_app _ (by omega)]
      rw [e0]
      by_cases q7 : k = rp.length
      · rw [if_pos q7, show (0 + k) % 8 = rp.length by omega, px_u2_eq, px_va_eq]
        exact ⟨rfl, rfl, hB⟩
      · rw [if_neg q7, px_u2_ne _ _ _ _ _ _ (by omega), px_u2_ne _ _ _ _ _ _ (by omega), px_va_ne _ _ _ _ (by omega)]
        exact a6 k (by omega)
end PX
