/-! THE CLASS, 3: its map -/
def px_cm (I : Nat → Nat → Int32) (V : Nat → Nat → Int64) (G : Nat → Nat → Nat) (R : Nat → List UInt8) (mp : px_Mp) : Prop := I 6 2 = nI mp.length ∧ mp.length ≤ 40 ∧ (∀ k, k < 40 → ∃ j, j < 40 ∧ G 7 k = 9 + 2 * j) ∧ (∀ k k', k < 40 → k' < 40 → G 7 k = G 7 k' → k = k') ∧ ∀ k, k < mp.length → R (G 7 k) = (px_k mp k).1 ∧ V 8 k = (px_k mp k).2 ∧ (px_k mp k).1.length ≤ 16
theorem px_cm.row {I : Nat → Nat → Int32} {V : Nat → Nat → Int64} {G : Nat → Nat → Nat} {R : Nat → List UInt8} {mp : px_Mp} (h : px_cm I V G R mp) {k : Nat} (hk : k < 40) : px_rw (G 7 k) = true ∧ 9 ≤ G 7 k ∧ G 7 k < 89 := by
  obtain ⟨j, hj, e⟩ := h.2.2.1 k hk
  rw [e]
  exact ⟨px_rK j hj, by omega, by omega⟩
theorem px_cm.same {I I' : Nat → Nat → Int32} {V V' : Nat → Nat → Int64} {G G' : Nat → Nat → Nat} {R R' : Nat → List UInt8} {mp : px_Mp} (h : px_cm I V G R mp) (h1 : I' 6 2 = I 6 2) (h2 : ∀ k, V' 8 k = V 8 k) (h3 : ∀ k, G' 7 k = G 7 k) (h4 : ∀ o, 9 ≤ o → o < 89 → R' o = R o) : px_cm I' V' G' R' mp := by
  refine ⟨h1.trans h.1, h.2.1, fun k hk => by rw [h3]; exact h.2.2.1 k hk, fun k k' hk hk' q => h.2.2.2.1 k k' hk hk' (by rw [← h3, ← h3]; exact q), fun k hk => ?_⟩
  have h40 := h.2.1
  have hr := h.row (k := k) (by omega)
  rw [h3, h2, h4 _ hr.2.1 hr.2.2]
  exact h.2.2.2.2 k hk
theorem px_zs {α : Type} (i : α) : ¬ px_z (some i).isSome = 0 := (by decide : ¬ (1 : Int32) = 0)
section PX
variable {b : Nat} {I : Nat → Nat → Int32} {V : Nat → Nat → Int64} {G : Nat → Nat → Nat} {R : Nat → List UInt8} {M : Nat → Nat → Int32} {p : px_P} {e : Nat}
theorem pc_pl_go (mp : px_Mp) (hm : px_cm I V G R mp) (rr s n : Nat) (hr : px_rw rr = true) (hrk : ¬ (9 ≤ rr ∧ rr < 89)) (hw : px_Wf b p e) (hs : s + n ≤ (R rr).length) (hl : (R rr).length < 2 ^ 31) : ∀ (m k f : Nat), mp.length = k + m → m < f → b_map_placeOf_3 f (px_W b I V G R M p) (b + 6) (some (b + rr)) (nI s) (nI n) (nI k) = some (px_pi (px_plg mp (((R rr).drop s).take n) m k), px_W b I V G R M p) := by
  have h40 := hm.2.1
  intro m
  induction m with
  | zero =>
    intro k f hk hf
    obtain ⟨f, rfl⟩ : ∃ q, f = q + 1 := ⟨f - 1, by omega⟩
    rw [b_map_placeOf_3, px_gI_6_2, px_bs, hm.1, if_pos (nI_le (by omega) (by omega))]
    rfl
  | succ m ih =>
    intro k f hk hf
    obtain ⟨f, rfl⟩ : ∃ q, f = q + 1 := ⟨f - 1, by omega⟩
    have hrow := hm.row (k := k) (by omega)
    have hkk := hm.2.2.2.2 k (by omega)
    rw [b_map_placeOf_3, px_gI_6_2, px_bs, hm.1, if_neg (nI_ge (by omega) (by omega)), px_gR_6_0, px_bs, px_aR_7 k (by omega), px_bs, px_rcR _ hrow.1, px_bs, px_bnd (px_isPart (G 7 k) rr s n hrow.1 hr (by omega) hw hs hl (by rw [hkk.1]; omega))]
    dsimp only
    rw [px_plg, hkk.1]
    by_cases q : (px_k mp k).1 = ((R rr).drop s).take n
    · rw [if_pos q, if_neg (by decide), if_pos q]
      rfl
    · rw [if_neg q, if_pos rfl, if_neg q, nI_1]
      exact ih (k + 1) f (by omega) (by omega)
theorem pc_placeOf (mp : px_Mp) (hm : px_cm I V G R mp) (rr s n : Nat) (hr : px_rw rr = true) (hrk : ¬ (9 ≤ rr ∧ rr < 89)) (hw : px_Wf b p e) (hs : s + n ≤ (R rr).length) (hl : (R rr).length < 2 ^ 31) : f_map_placeOf (px_W b I V G R M p) (b + 6) (some (b + rr)) (nI s) (nI n) = some (px_pi (px_pl mp (((R rr).drop s).take n)), px_W b I V G R M p) := by
  have h40 := hm.2.1
  unfold f_map_placeOf
  generalize hF : (5000 : Nat) = fu
  rw [← nI_0]
  exact pc_pl_go mp hm rr s n hr hrk hw hs hl mp.length 0 fu (by omega) (by omega)
theorem pc_isPlace (mp : px_Mp) (hm : px_cm I V G R mp) (o : Option Nat) (ho : ∀ i, o = some i → i < mp.length) : f_map_isPlace (px_W b I V G R M p) (b + 6) (px_pi o) = some (px_z o.isSome, px_W b I V G R M p) := by
  have h40 := hm.2.1
  unfold f_map_isPlace b_map_isPlace_16 b_map_isPlace_17 rc_z1
  cases o with
  | none => rw [if_pos (by decide)]; rfl
  | some i =>
    have hi := ho i rfl
    unfold px_pi
    dsimp only
    rw [if_neg (nI_pos (by omega)), px_gI_6_2, px_bs, hm.1, if_neg (nI_ge hi (by omega))]
    rfl
theorem pc_valueAt (mp : px_Mp) (hm : px_cm I V G R mp) (o : Option Nat) (ho : ∀ i, o = some i → i < mp.length) : f_map_valueAt (px_W b I V G R M p) (b + 6) (px_pi o) = some (px_val mp o, px_W b I V G R M p) := by
  have h40 := hm.2.1
  unfold f_map_valueAt b_map_valueAt_18
  rw [px_rc_6, px_bs, px_bnd (pc_isPlace mp hm o ho)]
  cases o with
  | none => rfl
  | some i =>
    have hi := ho i rfl
    dsimp only
    rw [if_neg (px_zs i), px_gR_6_1, px_bs]
    unfold px_pi
    dsimp only
    rw [px_aL_8 i (by omega), px_bs, (hm.2.2.2.2 i hi).2.1]
    rfl
theorem px_cm_set (mp : px_Mp) (hm : px_cm I V G R mp) (i : Nat) (hi : i < mp.length) (x : Int64) : px_cm I (px_u2 V 8 i x) G R (mp.set i ((px_k mp i).1, x)) := by
  refine ⟨by rw [List.length_set]; exact hm.1, by rw [List.length_set]; exact hm.2.1, hm.2.2.1, hm.2.2.2.1, fun k hk => ?_⟩
  rw [List.length_set] at hk
  have h := hm.2.2.2.2 k hk
  rw [px_k_set _ hi]
  by_cases q : k = i
  · subst q
    rw [if_pos rfl, px_u2_eq]
    exact ⟨h.1, rfl, h.2.2⟩
  · rw [if_neg q, px_u2_ne _ _ _ _ _ _ (by omega)]
    exact h
theorem pc_setValue (mp : px_Mp) (hm : px_cm I V G R mp) (i : Nat) (hi : i < mp.length) (x : Int64) : f_map_setValue (px_W b I V G R M p) (b + 6) (nI i) x = some (px_W b I (px_u2 V 8 i x) G R M p) := by
  have h40 := hm.2.1
  have h1 := pc_isPlace (b := b) (M := M) (p := p) mp hm (some i) (fun j q => by cases q; exact hi)
  unfold f_map_setValue b_map_setValue_15
  rw [px_rc_6, px_bs]
  rw [show nI i = px_pi (some i) from rfl, px_bnd h1]
  dsimp only
  rw [if_neg (px_zs i), px_gR_6_1, px_bs, show px_pi (some i) = nI i from rfl, px_sL_8 i x (by omega), px_bs]
theorem pc_addToValue (mp : px_Mp) (hm : px_cm I V G R mp) (i : Nat) (hi : i < mp.length) (x : Int64) : f_map_addToValue (px_W b I V G R M p) (b + 6) (nI i) x = some (px_W b I (px_u2 V 8 i ((px_k mp i).2 + x)) G R M p) := by
  have h40 := hm.2.1
  have h1 := pc_isPlace (b := b) (M := M) (p := p) mp hm (some i) (fun j q => by cases q; exact hi)
  unfold f_map_addToValue b_map_addToValue_18
  rw [px_rc_6, px_bs]
  rw [show nI i = px_pi (some i) from rfl, px_bnd h1]
  dsimp only
  rw [if_neg (px_zs i), px_gR_6_1, px_bs, show px_pi (some i) = nI i from rfl, px_aL_8 i (by omega), px_bs, px_sL_8 i _ (by omega), px_bs, (hm.2.2.2.2 i hi).2.1]
theorem pc_addToNone (mp : px_Mp) (hm : px_cm I V G R mp) (x : Int64) : f_map_addToValue (px_W b I V G R M p) (b + 6) (-1) x = some (px_W b I V G R M p) := by
  have h1 := pc_isPlace (b := b) (M := M) (p := p) mp hm none (fun j q => by cases q)
  unfold f_map_addToValue b_map_addToValue_18
  rw [px_rc_6, px_bs]
  rw [show (-1 : Int32) = px_pi none from rfl, px_bnd h1]
  rfl
theorem pc_keyAt (mp : px_Mp) (hm : px_cm I V G R mp) (i : Nat) (hi : i < mp.length) : f_map_keyAt (px_W b I V G R M p) (b + 6) (nI i) = some (some (b + G 7 i), px_W b I V G R M p) := by
  have h40 := hm.2.1
  have h1 := pc_isPlace (b := b) (M := M) (p := p) mp hm (some i) (fun j q => by cases q; exact hi)
  unfold f_map_keyAt b_map_keyAt_18
  rw [px_rc_6, px_bs]
  rw [show nI i = px_pi (some i) from rfl, px_bnd h1]
  dsimp only
  rw [if_neg (px_zs i), px_gR_6_0, px_bs, show px_pi (some i) = nI i from rfl, px_aR_7 i (by omega), px_bs]
theorem pc_isFull (mp : px_Mp) (hm : px_cm I V G R mp) : f_map_isFull (px_W b I V G R M p) (b + 6) = some (px_z (decide (mp.length = 40)), px_W b I V G R M p) := by
  have h40 := hm.2.1
  unfold f_map_isFull b_map_isFull_14 rc_z1
  rw [px_gI_6_2, px_bs, hm.1]
  by_cases q : mp.length = 40
  · rw [if_neg (by rw [q]; decide), decide_eq_true q]; rfl
  · rw [if_pos (by rw [show (40 : Int32) = nI 40 from rfl]; exact nI_lt (by omega) (by decide)), decide_eq_false q]; rfl
theorem pc_addNew (mp : px_Mp) (hm : px_cm I V G R mp) (h40 : mp.length < 40) (rr s n : Nat) (x : Int64) (hr : px_rw rr = true) (hrk : ¬ (9 ≤ rr ∧ rr < 89)) (hw : px_Wf b p e) (hs : s + n ≤ (R rr).length) (hl : (R rr).length < 2 ^ 31) (hn : n ≤ 16) : ∃ I' V' R' p', px_Wf b p' e ∧ f_map_addNew (px_W b I V G R M p) (b + 6) (some (b + rr)) (nI s) (nI n) x = some (px_W b I' V' G R' M p') ∧ px_cm I' V' G R' (mp ++ [(((R rr).drop s).take n, x)]) ∧ (∀ o k, o ≠ 6 → I' o k = I o k) ∧ (∀ o, o ≠ 8 → V' o = V o) ∧ (∀ o, ¬ (9 ≤ o ∧ o < 89) → R' o = R o) := by
  have hrow := hm.row h40
  have hne : G 7 mp.length ≠ rr := by omega
  obtain ⟨p1, w1, h1⟩ := px_addPart (b := b) (I := I) (V := V) (G := G) (R := va_up R (G 7 mp.length) []) (M := M) (G 7 mp.length) rr s n hrow.1 hr hne hw (by rw [px_va_ne _ _ _ _ (Ne.symm hne)]; exact hs) (by rw [px_va_ne _ _ _ _ (Ne.symm hne)]; exact hl) (by rw [px_va_eq]; simp; omega)
  rw [px_va_ne _ _ _ _ (Ne.symm hne), px_va_va, px_va_eq, List.nil_append] at h1
  unfold f_map_addNew
  rw [px_rc_6, px_bs, px_bnd (pc_isFull mp hm), decide_eq_false (by omega)]
  dsimp only
  rw [if_pos (by rfl), px_gR_6_0, px_bs, px_gI_6_2, px_bs, hm.1, px_aR_7 _ h40, px_bs, px_rcR _ hrow.1, px_bs, px_bnd (px_clear _ hrow.1 hw), px_gR_6_0, px_bs, px_gI_6_2, px_bs, hm.1, px_aR_7 _ h40, px_bs, px_rcR _ hrow.1, px_bs, px_bnd h1, px_gR_6_1, px_bs, px_gI_6_2, px_bs, hm.1, px_sL_8 _ x h40, px_bs, px_gI_6_2, px_bs, hm.1, px_pI_6_2, px_bs, nI_1]
  refine ⟨_, _, _, p1, w1, rfl, ⟨?_, ?_, hm.2.2.1, hm.2.2.2.1, fun k hk => ?_⟩, fun o k q => px_u2_ne _ _ _ _ _ _ (by omega), fun o q => px_u2_sl _ _ _ _ _ q, fun o q => px_va_ne _ _ _ _ (by omega)⟩
  · rw [px_u2_eq, List.length_append, List.length_singleton]
  · rw [List.length_append, List.length_singleton]; omega
  · rw [List.length_append, List.length_singleton] at hk
    rw [px_k_app _ hk]
    by_cases q : k = mp.length
    · subst q
      rw [if_pos rfl, px_va_eq, px_u2_eq]
      refine ⟨rfl, rfl, ?_⟩
      rw [List.length_take]; omega
    · rw [if_neg q, px_u2_ne _ _ _ _ _ _ (by omega), px_va_ne _ _ _ _ (fun z => q (hm.2.2.2.1 k _ (by omega) h40 z))]
      exact hm.2.2.2.2 k (by omega)
theorem pc_rm_go (mp : px_Mp) (i g0 : Nat) (hi : i < mp.length) (h40 : mp.length ≤ 40) (hg : px_rw g0 = true) : ∀ (m k f : Nat) (V : Nat → Nat → Int64) (G : Nat → Nat → Nat), mp.length = k + m → i < k → m < f → I 6 2 = nI mp.length → (∀ k, k < 40 → px_rw (G 7 k) = true) → ∃ V' G', b_map_remove_20 f (px_W b I V G R M p) (b + 6) (some (b + g0)) (nI k) = some (px_W b (px_u2 I 6 2 (nI (mp.length - 1))) V' G' R M p) ∧ (∀ j, j < k - 1 → V' 8 j = V 8 j ∧ G' 7 j = G 7 j) ∧ (∀ j, k - 1 ≤ j → j < mp.length - 1 → V' 8 j = V 8 (j + 1) ∧ G' 7 j = G 7 (j + 1)) ∧ G' 7 (mp.length - 1) = g0 ∧ (∀ j, mp.length ≤ j → G' 7 j = G 7 j) ∧ (∀ o, o ≠ 8 → V' o = V o) ∧ (∀ o, o ≠ 7 → G' o = G o) := by
  intro m
  induction m with
  | zero =>
    intro k f V G hk hik hf h6 hrow
    obtain ⟨f, rfl⟩ : ∃ q, f = q + 1 := ⟨f - 1, by omega⟩
    rw [b_map_remove_20, px_gI_6_2, px_bs, h6, if_pos (nI_le (by omega) (by omega)), px_bs, px_pI_6_2, px_bs, px_gR_6_0, px_bs, px_gI_6_2, px_bs, px_u2_eq, show (1 : Int32) = nI 1 from rfl, px_sub (by omega), px_sR_7 _ g0 (by omega) hg, px_bs]
    refine ⟨_, _, rfl, fun j hj => ⟨rfl, px_u2_ne _ _ _ _ _ _ (by omega)⟩, fun j h1 h2 => absurd h2 (by omega), px_u2_eq _ _ _ _, fun j hj => px_u2_ne _ _ _ _ _ _ (by omega), fun o _ => rfl, fun o q => px_u2_sl _ _ _ _ _ q⟩
  | succ m ih =>
    intro k f V G hk hik hf h6 hrow
    obtain ⟨f, rfl⟩ : ∃ q, f = q + 1 := ⟨f - 1, by omega⟩
    rw [b_map_remove_20, px_gI_6_2, px_bs, h6, if_neg (nI_ge (by omega) (by omega)), px_gR_6_0, px_bs, px_bs, px_aR_7 k (by omega), px_bs, show (1 : Int32) = nI 1 from rfl, px_sub (by omega), px_sR_7 _ _ (by omega) (hrow k (by omega)), px_bs, px_gR_6_1, px_bs, px_bs, px_aL_8 k (by omega), px_bs, px_sL_8 _ _ (by omega), px_bs, nI_add]
    obtain ⟨V', G', a1, a2, a3, a4, a5, a6, a7⟩ := ih (k + 1) f (px_u2 V 8 (k - 1) (V 8 k)) (px_u2 G 7 (k - 1) (G 7 k)) (by omega) (by omega) (by omega) h6 (fun j hj => by
      by_cases q : j = k - 1
      · rw [q, px_u2_eq]; exact hrow k (by omega)
      · rw [px_u2_ne _ _ _ _ _ _ (by omega)]; exact hrow j hj)
    refine ⟨V', G', a1, fun j hj => ?_, fun j h1 h2 => ?_, a4, fun j hj => ?_, fun o q => by rw [a6 o q, px_u2_sl _ _ _ _ _ q], fun o q => by rw [a7 o q, px_u2_sl _ _ _ _ _ q]⟩
    · obtain ⟨b1, b2⟩ := a2 j (by omega)
      rw [b1, b2, px_u2_ne _ _ _ _ _ _ (by omega), px_u2_ne _ _ _ _ _ _ (by omega)]
      exact ⟨rfl, rfl⟩
    · by_cases q : j = k - 1
      · obtain ⟨b1, b2⟩ := a2 j (by omega)
        rw [b1, b2, q, px_u2_eq, px_u2_eq, show k - 1 + 1 = k by omega]
        exact ⟨rfl, rfl⟩
      · obtain ⟨b1, b2⟩ := a3 j (by omega) h2
        rw [b1, b2, px_u2_ne _ _ _ _ _ _ (by omega), px_u2_ne _ _ _ _ _ _ (by omega)]
        exact ⟨rfl, rfl⟩
    · rw [a5 j hj, px_u2_ne _ _ _ _ _ _ (by omega)]
theorem pc_remove (mp : px_Mp) (hm : px_cm I V G R mp) (i : Nat) (hi : i < mp.length) : ∃ I' V' G', f_map_remove (px_W b I V G R M p) (b + 6) (nI i) = some (px_W b I' V' G' R M p) ∧ px_cm I' V' G' R (mp.eraseIdx i) ∧ (∀ o k, o ≠ 6 → I' o k = I o k) ∧ (∀ o, o ≠ 8 → V' o = V o) ∧ (∀ o, o ≠ 7 → G' o = G o) := by
  have h40 := hm.2.1
  have h1 := pc_isPlace (b := b) (M := M) (p := p) mp hm (some i) (fun j q => by cases q; exact hi)
  obtain ⟨V', G', a1, a2, a3, a4, a5, a6, a7⟩ := pc_rm_go (b := b) (I := I) (R := R) (M := M) (p := p) mp i (G 7 i) hi h40 (hm.row (by omega)).1 (mp.length - (i + 1)) (i + 1) 5000 V G (by omega) (by omega) (by omega) hm.1 (fun k hk => (hm.row hk).1)
  unfold f_map_remove
  generalize hF : (5000 : Nat) = fu at a1 ⊢
  rw [px_rc_6, px_bs]
  rw [show nI i = px_pi (some i) from rfl, px_bnd h1]
  dsimp only
  rw [if_neg (px_zs i), px_gR_6_0, px_bs, show px_pi (some i) = nI i from rfl, px_aR_7 i (by omega), px_bs, nI_1, a1]
  have el : (mp.eraseIdx i).length = mp.length - 1 := by rw [List.length_eraseIdx, if_pos hi]
  have eg : ∀ j, j < 40 → G' 7 j = G 7 (if j < i then j else if j < mp.length - 1 then j + 1 else if j = mp.length - 1 then i else j) := fun j hj => by
    by_cases q1 : j < i
    · rw [if_pos q1, (a2 j (by omega)).2]
    · rw [if_neg q1]
      by_cases q2 : j < mp.length - 1
      · rw [if_pos q2, (a3 j (by omega) q2).2]
      · rw [if_neg q2]
        by_cases q3 : j = mp.length - 1
        · rw [if_pos q3, q3, a4]
        · rw [if_neg q3, a5 j (by omega)]
  refine ⟨_, V', G', rfl, ⟨by rw [px_u2_eq, el], by omega, fun k hk => ?_, fun k k' hk hk' q => ?_, fun k hk => ?_⟩, fun o k q => px_u2_ne _ _ _ _ _ _ (by omega), a6, a7⟩
  · rw [eg k hk]
    exact hm.2.2.1 _ (by (repeat' split) <;> omega)
  · rw [eg k hk, eg k' hk'] at q
    have := hm.2.2.2.1 _ _ (by (repeat' split) <;> omega) (by (repeat' split) <;> omega) q
    revert this
    repeat' split
    all_goals omega
  · rw [el] at hk
    rw [px_k_era]
    by_cases q1 : k < i
    · obtain ⟨b1, b2⟩ := a2 k (by omega)
      rw [if_pos q1, b1, b2]
      exact hm.2.2.2.2 k (by omega)
    · obtain ⟨b1, b2⟩ := a3 k (by omega) hk
      rw [if_neg q1, b1, b2]
      exact hm.2.2.2.2 (k + 1) (by omega)
theorem pc_removeNone (mp : px_Mp) (hm : px_cm I V G R mp) : f_map_remove (px_W b I V G R M p) (b + 6) (-1) = some (px_W b I V G R M p) := by
  have h1 := pc_isPlace (b := b) (M := M) (p := p) mp hm none (fun j q => by cases q)
  unfold f_map_remove
  generalize hF : (5000 : Nat) = fu
  rw [px_rc_6, px_bs]
  rw [show (-1 : Int32) = px_pi none from rfl, px_bnd h1]
  rfl
end PX
