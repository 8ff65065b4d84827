/-! THE REFERENCE, 10: its map: place, tapePlace, value, has -/
abbrev px_Mp : Type := List (List UInt8 × Int64)
def px_k (mp : px_Mp) (k : Nat) : List UInt8 × Int64 := mp.getD k ([], 0)
def px_plg (mp : px_Mp) (key : List UInt8) : Nat → Nat → Option Nat
  | 0, _ => none
  | n + 1, k => if (px_k mp k).1 = key then some k else px_plg mp key n (k + 1)
def px_pl (mp : px_Mp) (key : List UInt8) : Option Nat := px_plg mp key mp.length 0
def px_pi (o : Option Nat) : Int32 := match o with | none => -1 | some k => nI k
theorem px_plg_lt {mp : px_Mp} {key : List UInt8} : ∀ {n k i : Nat}, px_plg mp key n k = some i → k ≤ i ∧ i < k + n ∧ (px_k mp i).1 = key := by
  intro n
  induction n with
  | zero => intro k i h; cases h
  | succ n ih =>
    intro k i h
    rw [px_plg] at h
    split at h
    · rename_i q; cases h; exact ⟨by omega, by omega, q⟩
    · have := ih h; exact ⟨by omega, by omega, this.2.2⟩
theorem px_pl_lt {mp : px_Mp} {key : List UInt8} {i : Nat} (h : px_pl mp key = some i) : i < mp.length ∧ (px_k mp i).1 = key := by
  have := px_plg_lt h; exact ⟨by omega, this.2.2⟩
def px_mm (M : Nat → Nat → Int32) (V : Nat → Nat → Int64) (mp : px_Mp) : Prop := M 316 10 = nI mp.length ∧ mp.length ≤ 40 ∧ ∀ k, k < mp.length → (px_k mp k).1.length ≤ 16 ∧ M 322 k = nI (px_k mp k).1.length ∧ px_agr (M 321) (16 * k) (px_k mp k).1 ∧ V 323 k = (px_k mp k).2
theorem px_drop_eq {l r : List UInt8} {j : Nat} (hl : j < l.length) (hr : j < r.length) : (l.drop j = r.drop j) ↔ (l.getD j 0 = r.getD j 0 ∧ l.drop (j + 1) = r.drop (j + 1)) := by
  rw [List.drop_eq_getElem_cons hl, List.drop_eq_getElem_cons hr]
  simp only [List.getD_eq_getElem?_getD, List.getElem?_eq_getElem hl, List.getElem?_eq_getElem hr, Option.getD_some, List.cons.injEq]
section PX
variable {b : Nat} {I : Nat → Nat → Int32} {V : Nat → Nat → Int64} {G : Nat → Nat → Nat} {R : Nat → List UInt8} {M : Nat → Nat → Int32} {p : px_P} {e : Nat}
theorem pm_place_in (K : rc_M → Nat → Int32 → Option (Int32 × rc_M)) (mk key : List UInt8) (k c a : Nat) (hk : k < 40) (hc : c < 4) (ha : a + key.length ≤ 1200) (hk16 : key.length ≤ 16) (hl : mk.length = key.length) (h30 : M 316 30 = nI key.length) (h29 : M 316 29 = nI a) (h26 : M 316 26 = nI c) (h1 : px_agr (M 321) (16 * k) mk) (h2 : px_agr (M 324) (1200 * c + a) key) : ∀ (m j f : Nat), key.length = j + m → m + 1 < f → b_mdl_place_31 K f (px_W b I V G R M p) (b + 316) (nI k) 1 (nI j) = if mk.drop j = key.drop j then some (nI k, px_W b I V G R M p) else K (px_W b I V G R M p) (b + 316) (nI (k + 1)) := by
  intro m
  induction m with
  | zero =>
    intro j f hj hf
    obtain ⟨f, rfl⟩ : ∃ q, f = q + 1 := ⟨f - 1, by omega⟩
    rw [b_mdl_place_31]
    unfold b_mdl_place_89
    have e1 : key.length ≤ j := by omega
    simp (disch := omega) only [↓reduceIte, ↓px_bs, ↓px_mB, px_10, px_modG, px_lit, px_mul, nI_add, px_u2_ne, px_u2_eq, nI_1, nI_clamp, px_lt0, px_nle, or_self, false_or, or_false, true_or, or_true, rc_b2, px_sxl, px_low_sx, px_low_u, px_nar0, px_nar1, px_z01, if_true, if_false, px_le, px_lt, px_eq, px_lt0, px_le0, px_0le, px_eq0, px_eq1, px_msub2, px_msub3, h30, e1]
    rw [List.drop_eq_nil_of_le (by omega), List.drop_eq_nil_of_le (by omega), if_pos rfl]
  | succ m ih =>
    intro j f hj hf
    obtain ⟨f, rfl⟩ : ∃ q, f = q + 1 := ⟨f - 1, by omega⟩
    have e1 : ¬ key.length ≤ j := by omega
    have e2 := h1 j (by omega)
    have e3 := h2 j (by omega)
    rw [b_mdl_place_31]
    unfold b_mdl_place_82
    simp (disch := omega) only [↓reduceIte, ↓px_bs, ↓px_mB, px_10, px_modG, px_lit, px_mul, nI_add, px_u2_ne, px_u2_eq, nI_1, nI_clamp, px_lt0, px_nle, or_self, false_or, or_false, true_or, or_true, rc_b2, px_sxl, px_low_sx, px_low_u, px_nar0, px_nar1, px_z01, if_true, if_false, px_le, px_lt, px_eq, px_lt0, px_le0, px_0le, px_eq0, px_eq1, px_msub2, px_msub3, h30, h29, h26, e1, e2, e3]
    simp only [px_drop_eq (show j < mk.length by omega) (show j < key.length by omega)]
    by_cases q : mk.getD j 0 = key.getD j 0
    · rw [if_pos (by rw [q]), ih (j + 1) f (by omega) (by omega)]
      simp only [q, true_and]
    · rw [if_neg (fun z => q (px_sx_inj z))]
      obtain ⟨f, rfl⟩ : ∃ q, f = q + 1 := ⟨f - 1, by omega⟩
      rw [b_mdl_place_31]
      unfold b_mdl_place_89
      simp (disch := omega) only [↓reduceIte, ↓px_bs, ↓px_mB, px_10, px_modG, px_lit, px_mul, nI_add, px_u2_ne, px_u2_eq, nI_1, nI_clamp, px_lt0, px_nle, or_self, false_or, or_false, true_or, or_true, rc_b2, px_sxl, px_low_sx, px_low_u, px_nar0, px_nar1, px_z01, if_true, if_false, q, false_and]
theorem pm_place_go (mp : px_Mp) (key : List UInt8) (c a : Nat) (hm : px_mm M V mp) (hc : c < 4) (ha : a + key.length ≤ 1200) (hk16 : key.length ≤ 16) (h30 : M 316 30 = nI key.length) (h29 : M 316 29 = nI a) (h26 : M 316 26 = nI c) (h2 : px_agr (M 324) (1200 * c + a) key) : ∀ (n k f : Nat), mp.length = k + n → n < f → b_mdl_place_2 f (px_W b I V G R M p) (b + 316) (nI k) = some (px_pi (px_plg mp key n k), px_W b I V G R M p) := by
  obtain ⟨m1, m2, m3⟩ := hm
  intro n
  induction n with
  | zero =>
    intro k f hk hf
    obtain ⟨f, rfl⟩ : ∃ q, f = q + 1 := ⟨f - 1, by omega⟩
    rw [b_mdl_place_2]
    have e1 : mp.length ≤ k := by omega
    simp (disch := omega) only [↓reduceIte, ↓px_bs, ↓px_mB, px_10, px_modG, px_lit, px_mul, nI_add, px_u2_ne, px_u2_eq, nI_1, nI_clamp, px_lt0, px_nle, or_self, false_or, or_false, true_or, or_true, rc_b2, px_sxl, px_low_sx, px_low_u, px_nar0, px_nar1, px_z01, if_true, if_false, px_le, px_lt, px_eq, px_lt0, px_le0, px_0le, px_eq0, px_eq1, px_msub2, px_msub3, m1, e1]
    rfl
  | succ n ih =>
    intro k f hk hf
    obtain ⟨f, rfl⟩ : ∃ q, f = q + 1 := ⟨f - 1, by omega⟩
    obtain ⟨q1, q2, q3, q4⟩ := m3 k (by omega)
    rw [b_mdl_place_2]
    have e1 : ¬ mp.length ≤ k := by omega
    unfold b_mdl_place_28
    generalize hF : (5000 : Nat) = fu
    simp (disch := omega) only [↓reduceIte, ↓px_bs, ↓px_mB, px_10, px_modG, px_lit, px_mul, nI_add, px_u2_ne, px_u2_eq, nI_1, nI_clamp, px_lt0, px_nle, or_self, false_or, or_false, true_or, or_true, rc_b2, px_sxl, px_low_sx, px_low_u, px_nar0, px_nar1, px_z01, if_true, if_false, px_le, px_lt, px_eq, px_lt0, px_le0, px_0le, px_eq0, px_eq1, px_msub2, px_msub3, m1, e1, q2, h30]
    rw [px_plg]
    by_cases hl : (px_k mp k).1.length = key.length
    · rw [if_pos hl, ← nI_0, pm_place_in _ (px_k mp k).1 key k c a (by omega) hc ha hk16 hl h30 h29 h26 q3 h2 key.length 0 fu (by omega) (by omega)]
      simp only [List.drop_zero]
      by_cases q : (px_k mp k).1 = key
      · rw [if_pos q, if_pos q]; rfl
      · rw [if_neg q, if_neg q]
        exact ih (k + 1) f (by omega) (by omega)
    · rw [if_neg hl]
      obtain ⟨fu, rfl⟩ : ∃ q, fu = q + 1 := ⟨fu - 1, by omega⟩
      rw [b_mdl_place_31]
      unfold b_mdl_place_89
      rw [if_pos rfl, if_pos rfl, nI_1, ih (k + 1) f (by omega) (by omega), if_neg (fun q => hl (by rw [q]))]
theorem pm_place (mp : px_Mp) (key : List UInt8) (c a : Nat) (hm : px_mm M V mp) (hc : c < 4) (ha : a + key.length ≤ 1200) (hk16 : key.length ≤ 16) (h30 : M 316 30 = nI key.length) (h29 : M 316 29 = nI a) (h26 : M 316 26 = nI c) (h2 : px_agr (M 324) (1200 * c + a) key) : f_mdl_place (px_W b I V G R M p) (b + 316) = some (px_pi (px_pl mp key), px_W b I V G R M p) := by
  unfold f_mdl_place
  have := hm.2.1
  exact pm_place_go mp key c a hm hc ha hk16 h30 h29 h26 h2 mp.length 0 5000 (by omega) (by omega)
theorem pm_tplace_in (K : rc_M → Nat → Int32 → Option (Int32 × rc_M)) (mk T : List UInt8) (k : Nat) (hk : k < 40) (hT : px_tp M T) (hT16 : T.length ≤ 16) (hl : mk.length = T.length) (h1 : px_agr (M 321) (16 * k) mk) : ∀ (m j f : Nat), T.length = j + m → m + 1 < f → b_mdl_tapePlace_31 K f (px_W b I V G R M p) (b + 316) (nI k) 1 (nI j) = if mk.drop j = T.drop j then some (nI k, px_W b I V G R M p) else K (px_W b I V G R M p) (b + 316) (nI (k + 1)) := by
  obtain ⟨t1, t2, t3⟩ := hT
  intro m
  induction m with
  | zero =>
    intro j f hj hf
    obtain ⟨f, rfl⟩ : ∃ q, f = q + 1 := ⟨f - 1, by omega⟩
    rw [b_mdl_tapePlace_31]
    unfold b_mdl_tapePlace_79
    have e1 : T.length ≤ j := by omega
    simp (disch := omega) only [↓reduceIte, ↓px_bs, ↓px_mB, px_10, px_modG, px_lit, px_mul, nI_add, px_u2_ne, px_u2_eq, nI_1, nI_clamp, px_lt0, px_nle, or_self, false_or, or_false, true_or, or_true, rc_b2, px_sxl, px_low_sx, px_low_u, px_nar0, px_nar1, px_z01, if_true, if_false, px_le, px_lt, px_eq, px_lt0, px_le0, px_0le, px_eq0, px_eq1, px_msub2, px_msub3, t1, e1]
    rw [List.drop_eq_nil_of_le (by omega), List.drop_eq_nil_of_le (by omega), if_pos rfl]
  | succ m ih =>
    intro j f hj hf
    obtain ⟨f, rfl⟩ : ∃ q, f = q + 1 := ⟨f - 1, by omega⟩
    have e1 : ¬ T.length ≤ j := by omega
    have e2 := h1 j (by omega)
    have e3 := t3 j (by omega)
    rw [b_mdl_tapePlace_31]
    unfold b_mdl_tapePlace_72
    simp (disch := omega) only [↓reduceIte, ↓px_bs, ↓px_mB, px_10, px_modG, px_lit, px_mul, nI_add, px_u2_ne, px_u2_eq, nI_1, nI_clamp, px_lt0, px_nle, or_self, false_or, or_false, true_or, or_true, rc_b2, px_sxl, px_low_sx, px_low_u, px_nar0, px_nar1, px_z01, if_true, if_false, px_le, px_lt, px_eq, px_lt0, px_le0, px_0le, px_eq0, px_eq1, px_msub2, px_msub3, t1, e1, e2, e3, px_u_sx]
    simp only [px_drop_eq (show j < mk.length by omega) (show j < T.length by omega)]
    by_cases q : mk.getD j 0 = T.getD j 0
    · rw [if_pos (by rw [q]), ih (j + 1) f (by omega) (by omega)]
      simp only [q, true_and]
    · rw [if_neg (fun z => q (px_u_inj z))]
      obtain ⟨f, rfl⟩ : ∃ q, f = q + 1 := ⟨f - 1, by omega⟩
      rw [b_mdl_tapePlace_31]
      unfold b_mdl_tapePlace_79
      simp (disch := omega) only [↓reduceIte, ↓px_bs, ↓px_mB, px_10, px_modG, px_lit, px_mul, nI_add, px_u2_ne, px_u2_eq, nI_1, nI_clamp, px_lt0, px_nle, or_self, false_or, or_false, true_or, or_true, rc_b2, px_sxl, px_low_sx, px_low_u, px_nar0, px_nar1, px_z01, if_true, if_false, q, false_and]
theorem pm_tplace_go (mp : px_Mp) (T : List UInt8) (hm : px_mm M V mp) (hT : px_tp M T) : ∀ (n k f : Nat), mp.length = k + n → n < f → b_mdl_tapePlace_2 f (px_W b I V G R M p) (b + 316) (nI k) = some (px_pi (px_plg mp T n k), px_W b I V G R M p) := by
  obtain ⟨m1, m2, m3⟩ := hm
  obtain ⟨t1, t2, t3⟩ := id hT
  intro n
  induction n with
  | zero =>
    intro k f hk hf
    obtain ⟨f, rfl⟩ : ∃ q, f = q + 1 := ⟨f - 1, by omega⟩
    rw [b_mdl_tapePlace_2]
    have e1 : mp.length ≤ k := by omega
    simp (disch := omega) only [↓reduceIte, ↓px_bs, ↓px_mB, px_10, px_modG, px_lit, px_mul, nI_add, px_u2_ne, px_u2_eq, nI_1, nI_clamp, px_lt0, px_nle, or_self, false_or, or_false, true_or, or_true, rc_b2, px_sxl, px_low_sx, px_low_u, px_nar0, px_nar1, px_z01, if_true, if_false, px_le, px_lt, px_eq, px_lt0, px_le0, px_0le, px_eq0, px_eq1, px_msub2, px_msub3, m1, e1]
    rfl
  | succ n ih =>
    intro k f hk hf
    obtain ⟨f, rfl⟩ : ∃ q, f = q + 1 := ⟨f - 1, by omega⟩
    obtain ⟨q1, q2, q3, q4⟩ := m3 k (by omega)
    rw [b_mdl_tapePlace_2]
    have e1 : ¬ mp.length ≤ k := by omega
    unfold b_mdl_tapePlace_28
    generalize hF : (5000 : Nat) = fu
    simp (disch := omega) only [↓reduceIte, ↓px_bs, ↓px_mB, px_10, px_modG, px_lit, px_mul, nI_add, px_u2_ne, px_u2_eq, nI_1, nI_clamp, px_lt0, px_nle, or_self, false_or, or_false, true_or, or_true, rc_b2, px_sxl, px_low_sx, px_low_u, px_nar0, px_nar1, px_z01, if_true, if_false, px_le, px_lt, px_eq, px_lt0, px_le0, px_0le, px_eq0, px_eq1, px_msub2, px_msub3, m1, e1, q2, t1]
    rw [px_plg]
    by_cases hl : (px_k mp k).1.length = T.length
    · rw [if_pos hl, ← nI_0, pm_tplace_in _ (px_k mp k).1 T k (by omega) hT (by omega) hl q3 T.length 0 fu (by omega) (by omega)]
      simp only [List.drop_zero]
      by_cases q : (px_k mp k).1 = T
      · rw [if_pos q, if_pos q]; rfl
      · rw [if_neg q, if_neg q]
        exact ih (k + 1) f (by omega) (by omega)
    · rw [if_neg hl]
      obtain ⟨fu, rfl⟩ : ∃ q, fu = q + 1 := ⟨fu - 1, by omega⟩
      rw [b_mdl_tapePlace_31]
      unfold b_mdl_tapePlace_79
      rw [if_pos rfl, if_pos rfl, nI_1, ih (k + 1) f (by omega) (by omega), if_neg (fun q => hl (by rw [q]))]
theorem pm_tplace (mp : px_Mp) (T : List UInt8) (hm : px_mm M V mp) (hT : px_tp M T) : f_mdl_tapePlace (px_W b I V G R M p) (b + 316) = some (px_pi (px_pl mp T), px_W b I V G R M p) := by
  unfold f_mdl_tapePlace
  have := hm.2.1
  exact pm_tplace_go mp T hm hT mp.length 0 5000 (by omega) (by omega)
def px_val (mp : px_Mp) (o : Option Nat) : Int64 := match o with | none => 0 | some i => (px_k mp i).2
theorem px_mm_0 {mp : px_Mp} (hm : px_mm M V mp) (x : Int32) : px_mm (px_u2 M 316 0 x) V mp := by
  obtain ⟨m1, m2, m3⟩ := hm
  refine ⟨by rw [px_u2_ne _ _ _ _ _ _ (by omega)]; exact m1, m2, fun k hk => ?_⟩
  obtain ⟨q1, q2, q3, q4⟩ := m3 k hk
  exact ⟨q1, by rw [px_u2_ne _ _ _ _ _ _ (by omega)]; exact q2, by rw [px_u2_sl _ _ _ _ _ (by decide)]; exact q3, q4⟩
theorem px_tp_0 {T : List UInt8} (hT : px_tp M T) (x : Int32) : px_tp (px_u2 M 316 0 x) T := by
  obtain ⟨t1, t2, t3⟩ := hT
  exact ⟨by rw [px_u2_ne _ _ _ _ _ _ (by omega)]; exact t1, t2, fun i hi => by rw [px_u2_ne _ _ _ _ _ _ (by omega)]; exact t3 i hi⟩
theorem pm_value (mp : px_Mp) (T : List UInt8) (hm : px_mm M V mp) (hT : px_tp M T) : f_mdl_value (px_W b I V G R M p) (b + 316) = some (px_val mp (px_pl mp T), px_W b I V G R (px_u2 M 316 0 0) p) := by
  have h1 := pm_tplace (b := b) (I := I) (V := V) (G := G) (R := R) (p := p) mp T (px_mm_0 hm 0) (px_tp_0 hT 0)
  unfold f_mdl_value b_mdl_value_25
  rw [px_pI_m_0, px_bs, px_rc_m, px_bs, px_bnd h1]
  simp only
  cases hp : px_pl mp T with
  | none => rw [hp] at h1; rw [if_pos (by decide)]; rfl
  | some i =>
    have hi := (px_pl_lt hp).1
    have h40 := hm.2.1
    rw [hp] at h1
    rw [if_neg (by unfold px_pi; exact nI_pos (by omega)), px_gR_m_9, px_bs, px_rc_m, px_bs, px_bnd h1]
    simp only [px_pi]
    rw [px_aL_323 i (by omega), px_bs, (hm.2.2 i hi).2.2.2]
    rfl
theorem pm_has (mp : px_Mp) (T : List UInt8) (hm : px_mm M V mp) (hT : px_tp M T) : f_mdl_has (px_W b I V G R M p) (b + 316) = some (px_z (px_pl mp T).isSome, px_W b I V G R (px_u2 M 316 0 0) p) := by
  have h1 := pm_tplace (b := b) (I := I) (V := V) (G := G) (R := R) (p := p) mp T (px_mm_0 hm 0) (px_tp_0 hT 0)
  unfold f_mdl_has b_mdl_has_17 rc_z1
  rw [px_pI_m_0, px_bs, px_rc_m, px_bs, px_bnd h1]
  simp only
  cases hp : px_pl mp T with
  | none => rw [if_pos (by decide)]; rfl
  | some i =>
    have hi := (px_pl_lt hp).1
    have h40 := hm.2.1
    rw [if_neg (by unfold px_pi; exact nI_pos (by omega))]; rfl
end PX
