/-! THE WORLD: addresses to cells (objects, arrays, rows with their bytes hidden), how many cells there are, how many slots since the start, the limits of both -/
abbrev rc_A : Type := (Nat → Int32) ⊕ (Nat → Int64) ⊕ (Nat → Option Nat)
abbrev rc_E : Type := (Nat × (Nat → Value)) ⊕ (Nat × Nat × rc_A) ⊕ (Nat × List UInt8)
abbrev rc_M : Type := (Nat → Option rc_E) × Nat × Nat × Nat × Nat
abbrev rc_z (w : rc_M) : Nat := w.2.1
abbrev rc_tz (w : rc_M) : Nat := w.2.2.1
abbrev rc_zc (w : rc_M) : Nat := w.2.2.2.1
abbrev rc_zs (w : rc_M) : Nat := w.2.2.2.2
/-- the classes' numbers and slots, the array classes' numbers, the first own address, the limits -/
abbrev rc_G : Type := va_G × (Nat → ClassId) × Nat × Nat × Nat
abbrev rc_b (G : rc_G) : Nat := G.2.2.1
def rc_sx (b : UInt8) : Int32 := b.toInt8.toInt32
def rc_cell (cA : ClassId) (n : Nat) (a : rc_A) : Cell := match a with
  | .inl f => arrV cA n (fun j => .int (f j))
  | .inr (.inl f) => arrV cA n (fun j => .long (f j))
  | .inr (.inr f) => arrV cA n (fun j => va_rf (f j))
theorem rc_cell_size (cA : ClassId) (n : Nat) (a : rc_A) : (rc_cell cA n a).slots.size = n := by
  rcases a with f | f | f <;> exact arrV_size _ _ _
def rc_at (G : rc_G) (β : Nat → Nat) (a : Nat) (e : rc_E) (H : Heap) : Prop := match e with
  | .inl o => o.1 < 8 ∧ t_OB a (G.1.1 o.1) (rc_N o.1) (G.1.2 o.1) H o.2
  | .inr (.inl x) => H[a]? = some (rc_cell (G.2.1 x.1) x.2.1 x.2.2)
  | .inr (.inr w) => t_OB a (G.1.1 1) 2 (G.1.2 1) H (fun j => if j = 0 then .ref (β a) else .int (nI w.2.length)) ∧ w.2.length ≤ w.1 ∧
      ∃ f : Nat → Int32, H[β a]? = some (rc_cell (G.2.1 2) w.1 (.inl f)) ∧ sb_Fit f ∧ ∀ (i : Nat) (x : UInt8), w.2[i]? = some x → f i = rc_sx x
def rc_isRow (e : Option rc_E) : Prop := ∃ w, e = some (.inr (.inr w))
/-- the slots of the cells from z on -/
def rc_nw (z : Nat) (H : Heap) : Nat := ((H.toList.drop z).map (·.slots.size)).sum
def rc_B (G : rc_G) (M : Nat → Option rc_E) (β : Nat → Nat) (H : Heap) : Prop :=
  (∀ (a : Nat) (e : rc_E), M a = some e → rc_b G ≤ a ∧ rc_at G β a e H) ∧
  ∀ a : Nat, rc_isRow (M a) → rc_b G ≤ β a ∧ M (β a) = none ∧ ∀ a' : Nat, rc_isRow (M a') → β a = β a' → a = a'
/-- no cell from b on is a class's statics -/
def rc_pl (b : Nat) (H : Heap) : Prop := ∀ (q : Nat) (c : Cell), b ≤ q → H[q]? = some c → c.vm = .none
def rc_H (G : rc_G) (w : rc_M) (H : Heap) : Prop :=
  rc_b G ≤ H.size ∧ w.2.1 = H.size ∧ w.2.2.1 = rc_nw (rc_b G) H ∧ (w.2.1 ≤ rc_zc w ∧ w.2.2.1 ≤ rc_zs w ∧ rc_pl (rc_b G) H) ∧ w.2.2.2 = G.2.2.2 ∧ ∃ β : Nat → Nat, rc_B G w.1 β H
theorem rc_at.kept {G : rc_G} {β : Nat → Nat} {a : Nat} {e : rc_E} {H H1 : Heap} (h : rc_at G β a e H) (h1 : H1[a]? = H[a]?) (h2 : rc_isRow (some e) → H1[β a]? = H[β a]?) : rc_at G β a e H1 := by
  rcases e with o | x | w
  · exact ⟨h.1, h.2.kept h1⟩
  · exact h1.trans h
  · obtain ⟨q1, q2, f, q3, q4⟩ := h
    exact ⟨q1.kept h1, q2, f, (h2 ⟨w, rfl⟩).trans q3, q4⟩
theorem rc_at.lt {G : rc_G} {β : Nat → Nat} {a : Nat} {e : rc_E} {H : Heap} (h : rc_at G β a e H) : a < H.size := by
  rcases e with o | x | w
  · obtain ⟨-, cell, q, -⟩ := h
    exact (Array.getElem?_eq_some_iff.mp q).1
  · exact (Array.getElem?_eq_some_iff.mp h).1
  · obtain ⟨⟨cell, q, -⟩, -⟩ := h
    exact (Array.getElem?_eq_some_iff.mp q).1
theorem rc_at.plain {G : rc_G} {β : Nat → Nat} {a : Nat} {e : rc_E} {H : Heap} (h : rc_at G β a e H) (hr : ¬ rc_isRow (some e)) {c : Cell} (hc : H[a]? = some c) : c.vm = .none := by
  rcases e with o | x | w
  · obtain ⟨-, cell, q, -, q3, -⟩ := h
    cases q.symm.trans hc
    exact q3
  · have h' : H[a]? = some (rc_cell (G.2.1 x.1) x.2.1 x.2.2) := h
    cases h'.symm.trans hc
    rcases x.2.2 with f | f | f <;> rfl
  · exact absurd ⟨w, rfl⟩ hr
theorem rc_at.bytes {G : rc_G} {β : Nat → Nat} {a : Nat} {e : rc_E} {H : Heap} (h : rc_at G β a e H) (hr : rc_isRow (some e)) : β a < H.size := by
  obtain ⟨w, hw⟩ := hr
  cases hw
  obtain ⟨-, -, f, q, -⟩ := h
  exact (Array.getElem?_eq_some_iff.mp q).1
/-- of what is no row the hidden addresses say nothing -/
theorem rc_at.beta {G : rc_G} {β β' : Nat → Nat} {a : Nat} {e : rc_E} {H : Heap} (h : rc_at G β a e H) (hr : rc_isRow (some e) → β' a = β a) : rc_at G β' a e H := by
  rcases e with o | x | w
  · exact h
  · exact h
  · have e1 := hr ⟨w, rfl⟩
    unfold rc_at at h ⊢
    simp only [e1]
    exact h
theorem rc_nw_set {z : Nat} {H H1 : Heap} (hz : H1.size = H.size) (h : ∀ q : Nat, (H1[q]?).map (fun c : Cell => c.slots.size) = (H[q]?).map (fun c : Cell => c.slots.size)) : rc_nw z H1 = rc_nw z H := by
  unfold rc_nw
  congr 1
  apply List.ext_getElem?
  intro i
  have := h (z + i)
  simp only [List.getElem?_map, List.getElem?_drop, Array.getElem?_toList] at this ⊢
  exact this
theorem rc_nw_push {z : Nat} {H H1 : Heap} {c : Cell} (hb : z ≤ H.size) (hz : H1.size = H.size + 1) (hn : H1[H.size]? = some c) (h : ∀ q : Nat, q < H.size → H1[q]? = H[q]?) : rc_nw z H1 = rc_nw z H + c.slots.size := by
  have e1 : H1.toList = H.toList ++ [c] := by
    apply List.ext_getElem?
    intro i
    rcases Nat.lt_trichotomy i H.size with hi | hi | hi
    · rw [Array.getElem?_toList, h i hi, List.getElem?_append_left (by simpa using hi), Array.getElem?_toList]
    · subst hi
      rw [Array.getElem?_toList, hn]
      simp
    · rw [List.getElem?_eq_none (by simp; omega), List.getElem?_eq_none (by simp; omega)]
  unfold rc_nw
  rw [e1, List.drop_append_of_le_length (by simpa using hb)]
  simp
theorem rc_nw_split {z : Nat} {H0 H : Heap} (hz : z ≤ H0.size) (h01 : H0.size ≤ H.size) (h : ∀ q : Nat, q < H0.size → (H[q]?).map (fun c : Cell => c.slots.size) = (H0[q]?).map (fun c : Cell => c.slots.size)) : rc_nw z H = rc_nw z H0 + rc_nw H0.size H := by
  unfold rc_nw
  have e1 : (H.toList.drop z).map (fun c : Cell => c.slots.size) = (H0.toList.drop z).map (fun c : Cell => c.slots.size) ++ (H.toList.drop H0.size).map (fun c : Cell => c.slots.size) := by
    apply List.ext_getElem?
    intro i
    by_cases hi : z + i < H0.size
    · rw [List.getElem?_append_left (by simp; omega)]
      have := h (z + i) hi
      simp only [List.getElem?_map, List.getElem?_drop, Array.getElem?_toList] at this ⊢
      exact this
    · rw [List.getElem?_append_right (by simp; omega)]
      simp only [List.getElem?_map, List.getElem?_drop, Array.getElem?_toList, List.length_map, List.length_drop, Array.length_toList]
      congr 2
      omega
  rw [e1, List.sum_append]
/-- one cell of a world is another one -/
def rc_up (w : rc_M) (a : Nat) (e : rc_E) : rc_M := (va_up w.1 a (some e), w.2)
theorem rc_H.set {G : rc_G} {w : rc_M} {H H1 : Heap} {a : Nat} {e0 e : rc_E} (h : rc_H G w H) (h0 : w.1 a = some e0) (hr0 : ¬ rc_isRow (some e0)) (hr : ¬ rc_isRow (some e)) (hz : H1.size = H.size)
    (hs : ∀ c0 : Cell, H[a]? = some c0 → ∃ c1 : Cell, H1[a]? = some c1 ∧ c1.slots.size = c0.slots.size) (ho : ∀ q : Nat, q ≠ a → H1[q]? = H[q]?) (he : ∀ β : Nat → Nat, rc_at G β a e H1) : rc_H G (rc_up w a e) H1 := by
  obtain ⟨h1, h2, h3, h4, h5, β, hB, hR⟩ := h
  have hlt : a < H.size := (hB a e0 h0).2.lt
  have rowne : ∀ q : Nat, rc_isRow (va_up w.1 a (some e) q) → q ≠ a ∧ rc_isRow (w.1 q) := by
    intro q hq
    by_cases e1 : q = a
    · subst e1
      rw [va_up, if_pos rfl] at hq
      exact absurd hq hr
    · rw [va_up, if_neg e1] at hq
      exact ⟨e1, hq⟩
  refine ⟨by rw [hz]; exact h1, by rw [hz]; exact h2, ?_, ⟨h4.1, h4.2.1, fun q c hq hc => ?_⟩, h5, β, fun q x hx => ?_, fun q hq => ?_⟩
  · rw [rc_nw_set hz]
    · exact h3
    · intro q
      by_cases e1 : q = a
      · subst e1
        obtain ⟨c1, g1, g2⟩ := hs _ (Array.getElem?_eq_getElem hlt)
        rw [g1, Array.getElem?_eq_getElem hlt]
        simp [g2]
      · rw [ho q e1]
  · by_cases e1 : q = a
    · subst e1
      exact (he β).plain hr hc
    · rw [ho q e1] at hc
      exact h4.2.2 q c hq hc
  · by_cases e1 : q = a
    · subst e1
      rw [show (rc_up w q e).1 q = some e by simp [rc_up, va_up]] at hx
      cases hx
      exact ⟨(hB q e0 h0).1, he β⟩
    · rw [show (rc_up w a e).1 q = w.1 q by simp [rc_up, va_up, e1]] at hx
      obtain ⟨g1, g2⟩ := hB q x hx
      refine ⟨g1, g2.kept (ho q e1) (fun hrw => ho _ (fun e2 => ?_))⟩
      have := (hR q (by rw [hx]; exact hrw)).2.1
      rw [e2, h0] at this
      cases this
  · obtain ⟨g0, g1⟩ := rowne q hq
    obtain ⟨g2, g3, g4⟩ := hR q g1
    refine ⟨g2, ?_, fun q' hq' => g4 q' (rowne q' hq').2⟩
    by_cases e2 : β q = a
    · rw [e2, h0] at g3
      cases g3
    · rw [show (rc_up w a e).1 (β q) = w.1 (β q) by simp [rc_up, va_up, e2]]
      exact g3
/-- one cell more -/
def rc_push (w : rc_M) (e : rc_E) (n : Nat) : rc_M := (va_up w.1 w.2.1 (some e), w.2.1 + 1, w.2.2.1 + n, w.2.2.2)
theorem rc_H.push {G : rc_G} {w : rc_M} {H H1 : Heap} {e : rc_E} {c : Cell} (h : rc_H G w H) (hr : ¬ rc_isRow (some e)) (hz : H1.size = H.size + 1) (hn : H1[H.size]? = some c) (ho : ∀ q : Nat, q < H.size → H1[q]? = H[q]?)
    (hc : w.2.1 + 1 ≤ rc_zc w) (hs : w.2.2.1 + c.slots.size ≤ rc_zs w) (he : ∀ β : Nat → Nat, rc_at G β H.size e H1) : rc_H G (rc_push w e c.slots.size) H1 := by
  obtain ⟨h1, h2, h3, h4, h5, β, hB, hR⟩ := h
  have hlt : ∀ (q : Nat) (x : rc_E), w.1 q = some x → q < H.size := fun q x hx => (hB q x hx).2.lt
  have old : ∀ q : Nat, q < H.size → (rc_push w e c.slots.size).1 q = w.1 q := by
    intro q hq
    simp [rc_push, va_up, h2, Nat.ne_of_lt hq]
  have rowne : ∀ q : Nat, rc_isRow ((rc_push w e c.slots.size).1 q) → q < H.size ∧ rc_isRow (w.1 q) := by
    intro q hq
    by_cases e1 : q = H.size
    · subst e1
      rw [show (rc_push w e c.slots.size).1 H.size = some e by simp [rc_push, va_up, h2]] at hq
      exact absurd hq hr
    · have e2 : (rc_push w e c.slots.size).1 q = w.1 q := by simp [rc_push, va_up, h2, e1]
      rw [e2] at hq
      obtain ⟨x, hx⟩ := hq
      exact ⟨hlt q _ hx, x, hx⟩
  refine ⟨by omega, by show w.2.1 + 1 = _; omega, ?_, ⟨hc, hs, fun q c' hq hc' => ?_⟩, h5, β, fun q x hx => ?_, fun q hq => ?_⟩
  · show w.2.2.1 + c.slots.size = _
    rw [rc_nw_push h1 hz hn ho, h3]
  · by_cases e1 : q = H.size
    · subst e1
      exact (he β).plain hr hc'
    · have hl : q < H1.size := (Array.getElem?_eq_some_iff.mp hc').1
      rw [ho q (by omega)] at hc'
      exact h4.2.2 q c' hq hc'
  · by_cases e1 : q = H.size
    · subst e1
      rw [show (rc_push w e c.slots.size).1 H.size = some e by simp [rc_push, va_up, h2]] at hx
      cases hx
      exact ⟨h1, he β⟩
    · have e2 : (rc_push w e c.slots.size).1 q = w.1 q := by simp [rc_push, va_up, h2, e1]
      rw [e2] at hx
      obtain ⟨g1, g2⟩ := hB q x hx
      exact ⟨g1, g2.kept (ho q g2.lt) (fun hrw => ho _ (g2.bytes hrw))⟩
  · obtain ⟨g0, g1⟩ := rowne q hq
    obtain ⟨g2, g3, g4⟩ := hR q g1
    obtain ⟨x, hx⟩ := g1
    have hb1 : β q < H.size := (hB q _ hx).2.bytes ⟨x, rfl⟩
    exact ⟨g2, by rw [old _ hb1]; exact g3, fun q' hq' => g4 q' (rowne q' hq').2⟩
