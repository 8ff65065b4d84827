section RCA
variable {X : rc_X} {own : String} {cc : ByteArray} {w0 w w' : rc_M} {pc n : Nat} {st : List Value} {lv : List (Nat × Value)}
/-- the array at an address, by its kind -/
theorem rc_arr {G : rc_G} {H : Heap} {a kd m : Nat} {x : rc_A} (h : rc_H G w H) (ha : w.1 a = some (.inr (.inl (kd, m, x)))) : rc_b G ≤ a ∧ H[a]? = some (rc_cell (G.2.1 kd) m x) := by
  obtain ⟨-, -, -, -, -, β, hB, -⟩ := h
  exact hB a _ ha
theorem rc_arr_set {G : rc_G} {H H1 : Heap} {a kd m : Nat} {x y : rc_A} (h : rc_H G w H) (ha : w.1 a = some (.inr (.inl (kd, m, x)))) (hz : H1.size = H.size) (he : H1[a]? = some (rc_cell (G.2.1 kd) m y)) (ho : ∀ q : Nat, q ≠ a → H1[q]? = H[q]?) : rc_H G (rc_up w a (.inr (.inl (kd, m, y)))) H1 := by
  refine h.set ha (fun ⟨_, q⟩ => by cases q) (fun ⟨_, q⟩ => by cases q) hz (fun c0 hc0 => ⟨_, he, ?_⟩) ho (fun β => he)
  cases (rc_arr h ha).2.symm.trans hc0
  rw [rc_cell_size, rc_cell_size]
theorem rc_K.arr {G : rc_G} {U : State} (h : rc_K G U) (kd : Nat) {cA : ClassId} {ty : FieldType} (hk : (rc_tys G)[kd]? = some (cA, ty)) : ArrOfT U cA ty := (h.2 kd _ hk).1
theorem j_iald (C : rc_C X own cc w0) {r : Option Nat} {i x : Int32} (h : rc_aI w r 0 i = some x) (hd : decode cc pc = .ok (.iaload, 1)) (hn : pc + 1 = n) (kk : rc_J X w n (.int x :: st) lv) : rc_J X w pc (.int i :: va_rf r :: st) lv := by
  subst hn
  intro H locs ls h1 h2 h3
  obtain ⟨a, m, f, rfl, ha, hin, rfl⟩ := rc_aI_spec h
  have hlt : i.toNatClampNeg < m := Nat.not_le.mp fun q => hin (Or.inr q)
  exact W.iald C.1 C.2.1 (rc_arr h1 ha).2 (C.2.2.2.2.1.arr 0 rfl m (fun j => .int (f j))) (fun q => by cases q) (by rw [rc_cell_size]; exact hin) (by show (arrV _ _ _).slots[_]? = _; rw [arrV_read _ _ hlt]) rfl rfl hd (kk H locs ls h1 h2 h3)
theorem j_bald (C : rc_C X own cc w0) {r : Option Nat} {i x : Int32} (h : rc_aI w r 2 i = some x) (hd : decode cc pc = .ok (.baload, 1)) (hn : pc + 1 = n) (kk : rc_J X w n (.int x :: st) lv) : rc_J X w pc (.int i :: va_rf r :: st) lv := by
  subst hn
  intro H locs ls h1 h2 h3
  obtain ⟨a, m, f, rfl, ha, hin, rfl⟩ := rc_aI_spec h
  have hlt : i.toNatClampNeg < m := Nat.not_le.mp fun q => hin (Or.inr q)
  exact W.bald C.1 C.2.1 (rc_arr h1 ha).2 (C.2.2.2.2.1.arr 2 rfl m (fun j => .int (f j))) (fun q => by cases q) (by rw [rc_cell_size]; exact hin) (by show (arrV _ _ _).slots[_]? = _; rw [arrV_read _ _ hlt]) rfl rfl hd (kk H locs ls h1 h2 h3)
theorem j_zald (C : rc_C X own cc w0) {r : Option Nat} {i x : Int32} (h : rc_aI w r 3 i = some x) (hd : decode cc pc = .ok (.baload, 1)) (hn : pc + 1 = n) (kk : rc_J X w n (.int x :: st) lv) : rc_J X w pc (.int i :: va_rf r :: st) lv := by
  subst hn
  intro H locs ls h1 h2 h3
  obtain ⟨a, m, f, rfl, ha, hin, rfl⟩ := rc_aI_spec h
  have hlt : i.toNatClampNeg < m := Nat.not_le.mp fun q => hin (Or.inr q)
  exact W.zald C.1 C.2.1 (rc_arr h1 ha).2 (C.2.2.2.2.1.arr 3 rfl m (fun j => .int (f j))) (fun q => by cases q) (by rw [rc_cell_size]; exact hin) (by show (arrV _ _ _).slots[_]? = _; rw [arrV_read _ _ hlt]) rfl rfl hd (kk H locs ls h1 h2 h3)
theorem j_lald (C : rc_C X own cc w0) {r : Option Nat} {i : Int32} {x : Int64} (h : rc_aL w r i = some x) (hd : decode cc pc = .ok (.laload, 1)) (hn : pc + 1 = n) (kk : rc_J X w n (.long x :: st) lv) : rc_J X w pc (.int i :: va_rf r :: st) lv := by
  subst hn
  intro H locs ls h1 h2 h3
  obtain ⟨a, m, f, rfl, ha, hin, rfl⟩ := rc_aL_spec h
  have hlt : i.toNatClampNeg < m := Nat.not_le.mp fun q => hin (Or.inr q)
  exact W.lald C.1 C.2.1 (rc_arr h1 ha).2 (C.2.2.2.2.1.arr 1 rfl m (fun j => .long (f j))) (fun q => by cases q) (by rw [rc_cell_size]; exact hin) (by show (arrV _ _ _).slots[_]? = _; rw [arrV_read _ _ hlt]) rfl rfl hd (kk H locs ls h1 h2 h3)
theorem j_aald (C : rc_C X own cc w0) {r : Option Nat} {kd : Nat} {E : String} {i : Int32} {x : Option Nat} (hkd : (rc_tys (q_G X))[kd]? = some ((q_G X).2.1 kd, .object E)) (h : rc_aR w r kd i = some x) (hd : decode cc pc = .ok (.aaload, 1)) (hn : pc + 1 = n) (kk : rc_J X w n (va_rf x :: st) lv) : rc_J X w pc (.int i :: va_rf r :: st) lv := by
  subst hn
  intro H locs ls h1 h2 h3
  obtain ⟨a, m, f, rfl, ha, hin, rfl⟩ := rc_aR_spec h
  have hlt : i.toNatClampNeg < m := Nat.not_le.mp fun q => hin (Or.inr q)
  exact W.aald (ty := .object E) C.1 C.2.1 (rc_arr h1 ha).2 (C.2.2.2.2.1.arr kd hkd m (fun j => va_rf (f j))) rfl (fun q => by cases q) (by rw [rc_cell_size]; exact hin) (by show (arrV _ _ _).slots[_]? = _; rw [arrV_read _ _ hlt]) rfl rfl hd (kk H locs ls h1 h2 h3)
theorem rc_cell_i (cA : ClassId) (m : Nat) (f : Nat → Int32) : rc_cell cA m (.inl f) = arrV cA m (fun j => .int (f j)) := rfl
theorem rc_cell_l (cA : ClassId) (m : Nat) (f : Nat → Int64) : rc_cell cA m (.inr (.inl f)) = arrV cA m (fun j => .long (f j)) := rfl
theorem rc_cell_q (cA : ClassId) (m : Nat) (f : Nat → Option Nat) : rc_cell cA m (.inr (.inr f)) = arrV cA m (fun j => va_rf (f j)) := rfl
theorem rc_cell_upd (cA : ClassId) (m i : Nat) (f : Nat → Int32) (x : Int32) : (rc_cell cA m (.inl f)).setSlot i (.int x) = rc_cell cA m (.inl (upd f i x)) := by
  rw [rc_cell_i, rc_cell_i, arrV_store]
  congr 1
  funext q
  by_cases hq : q = i <;> simp [updV, upd, hq]
theorem j_iast (C : rc_C X own cc w0) {r : Option Nat} {i x : Int32} (h : rc_sI w r 0 i x = some w') (hd : decode cc pc = .ok (.iastore, 1)) (hn : pc + 1 = n) (kk : rc_J X w' n st lv) : rc_J X w pc (.int x :: .int i :: va_rf r :: st) lv := by
  subst hn
  intro H locs ls h1 h2 h3
  obtain ⟨a, m, f, rfl, ha, hin, rfl⟩ := rc_sI_spec h
  have hA := rc_arr h1 ha
  refine W.iast C.1 C.2.1 hA.2 (C.2.2.2.2.1.arr 0 rfl m (fun j => .int (f j))) (fun q => by cases q) (by rw [rc_cell_size]; exact hin) rfl rfl hd fun H1 e z oq => ?_
  exact kk H1 _ ls (rc_arr_set h1 ha z (by rw [e, rc_cell_upd]; rfl) oq) (h2.put z oq hA.1) h3
theorem j_bast (C : rc_C X own cc w0) {r : Option Nat} {i x : Int32} (h : rc_sI w r 2 i x = some w') (hd : decode cc pc = .ok (.bastore, 1)) (hn : pc + 1 = n) (kk : rc_J X w' n st lv) : rc_J X w pc (.int x :: .int i :: va_rf r :: st) lv := by
  subst hn
  intro H locs ls h1 h2 h3
  obtain ⟨a, m, f, rfl, ha, hin, rfl⟩ := rc_sI_spec h
  have hA := rc_arr h1 ha
  refine W.bast C.1 C.2.1 hA.2 (C.2.2.2.2.1.arr 2 rfl m (fun j => .int (f j))) (fun q => by cases q) (by rw [rc_cell_size]; exact hin) rfl rfl hd fun H1 e z oq => ?_
  exact kk H1 _ ls (rc_arr_set h1 ha z (by rw [e, show narrow .byte (.int x) = .int (vp_nar .byte x) from rfl, rc_cell_upd]; rfl) oq) (h2.put z oq hA.1) h3
theorem j_zast (C : rc_C X own cc w0) {r : Option Nat} {i x : Int32} (h : rc_sI w r 3 i x = some w') (hd : decode cc pc = .ok (.bastore, 1)) (hn : pc + 1 = n) (kk : rc_J X w' n st lv) : rc_J X w pc (.int x :: .int i :: va_rf r :: st) lv := by
  subst hn
  intro H locs ls h1 h2 h3
  obtain ⟨a, m, f, rfl, ha, hin, rfl⟩ := rc_sI_spec h
  have hA := rc_arr h1 ha
  refine W.zast C.1 C.2.1 hA.2 (C.2.2.2.2.1.arr 3 rfl m (fun j => .int (f j))) (fun q => by cases q) (by rw [rc_cell_size]; exact hin) rfl rfl hd fun H1 e z oq => ?_
  exact kk H1 _ ls (rc_arr_set h1 ha z (by rw [e, show narrow .boolean (.int x) = .int (vp_nar .boolean x) from rfl, rc_cell_upd]; rfl) oq) (h2.put z oq hA.1) h3
theorem j_last (C : rc_C X own cc w0) {r : Option Nat} {i : Int32} {x : Int64} (h : rc_sL w r i x = some w') (hd : decode cc pc = .ok (.lastore, 1)) (hn : pc + 1 = n) (kk : rc_J X w' n st lv) : rc_J X w pc (.long x :: .int i :: va_rf r :: st) lv := by
  subst hn
  intro H locs ls h1 h2 h3
  obtain ⟨a, m, f, rfl, ha, hin, rfl⟩ := rc_sL_spec h
  have hA := rc_arr h1 ha
  refine W.last C.1 C.2.1 hA.2 (C.2.2.2.2.1.arr 1 rfl m (fun j => .long (f j))) (fun q => by cases q) (by rw [rc_cell_size]; exact hin) rfl rfl hd fun H1 e z oq => ?_
  refine kk H1 _ ls (rc_arr_set h1 ha z ?_ oq) (h2.put z oq hA.1) h3
  rw [e, rc_cell_l, rc_cell_l, arrV_store]
  congr 2
  funext q
  by_cases hq : q = i.toNatClampNeg <;> simp [updV, vp_updL, hq]
theorem j_aast (C : rc_C X own cc w0) {r x : Option Nat} {kd ci : Nat} {i : Int32} (hkd : (rc_tys (q_G X))[kd]? = some ((q_G X).2.1 kd, .object (rc_R ci))) (h : rc_sR w r kd ci i x = some w') (hd : decode cc pc = .ok (.aastore, 1)) (hn : pc + 1 = n) (kk : rc_J X w' n st lv) : rc_J X w pc (va_rf x :: .int i :: va_rf r :: st) lv := by
  subst hn
  intro H locs ls h1 h2 h3
  obtain ⟨a, m, y, f, rfl, rfl, hy, ha, hin, rfl⟩ := rc_sR_spec h
  have hA := rc_arr h1 ha
  have hlt : i.toNatClampNeg < m := Nat.not_le.mp fun q => hin (Or.inr q)
  have h0 : ¬ i < 0 := fun q => hin (Or.inl q)
  obtain ⟨hci, cellV, g1, g3, g2, hf2, -⟩ := rc_isC_cell hy h1 C.2.2.2.2.1
  have hcls := (C.2.2.2.2.1.1 ci _ (rc_cl_at ci hci)).2
  obtain ⟨kA, comp, k1, k2, k3, -⟩ := (C.2.2.2.2.1.2 kd _ hkd).2
  have hcomp : comp = (q_G X).1.1 ci := Option.some.inj (k3.symm.trans hcls.1)
  subst hcomp
  obtain ⟨kC, hkC, -⟩ := hcls.2
  refine W.aast C.1 C.2.1 hA.2 (fun q h => by cases h) (fun h => by cases h) k1 k2 rfl hkC ⟨h0, by rw [rc_cell_size]; exact hlt⟩ g1 (fun q h => by rw [g3] at h; cases h) (by rw [g2]; exact hkC) (by rw [g2]; exact va_assign hcls) rfl rfl hd fun H1 e z oq => ?_
  refine kk H1 _ ls (rc_arr_set h1 ha z ?_ oq) (h2.put z oq hA.1) h3
  rw [e, rc_cell_q, rc_cell_q, arrV_store]
  congr 2
  funext q
  by_cases hq : q = i.toNatClampNeg <;> simp [updV, va_up, va_rf, hq]
theorem j_alen (C : rc_C X own cc w0) {r : Option Nat} {kd : Nat} {ty : FieldType} {x : Int32} (hkd : (rc_tys (q_G X))[kd]? = some ((q_G X).2.1 kd, ty)) (h : rc_ln w r kd = some x) (hd : decode cc pc = .ok (.arraylength, 1)) (hn : pc + 1 = n) (kk : rc_J X w n (.int x :: st) lv) : rc_J X w pc (va_rf r :: st) lv := by
  subst hn
  intro H locs ls h1 h2 h3
  obtain ⟨a, m, f, rfl, ha, rfl⟩ := rc_ln_spec h
  have hA := (rc_arr h1 ha).2
  have hs : (rc_cell ((q_G X).2.1 kd) m f).slots.size.toInt32 = Int32.ofNat m := by rw [rc_cell_size]
  rcases f with f | f | f
  · exact W.alen C.1 C.2.1 hA (C.2.2.2.2.1.arr kd hkd m (fun j => .int (f j))) hs rfl rfl hd (kk H locs ls h1 h2 h3)
  · exact W.alen C.1 C.2.1 hA (C.2.2.2.2.1.arr kd hkd m (fun j => .long (f j))) hs rfl rfl hd (kk H locs ls h1 h2 h3)
  · exact W.alen C.1 C.2.1 hA (C.2.2.2.2.1.arr kd hkd m (fun j => va_rf (f j))) hs rfl rfl hd (kk H locs ls h1 h2 h3)
/-- the room that is really taken -/
theorem rc_narrow (C : rc_C X own cc w0) {H : Heap} {locs : List Loc} {cells slots : Nat} {g : JFrame} (h1 : rc_H (q_G X) w H) (k : rc_tz w0 ≤ rc_tz w → rc_V X H locs (rc_z w - rc_z w0) (rc_tz w - rc_tz w0) g) : rc_V X H locs cells slots g := by
  intro T hT S
  obtain ⟨e1, e2, e3, e4, e5, e6⟩ := S.same
  have e2' : (q_s X).heap.size ≤ T.heap.size := e2
  obtain ⟨b0, b1, b2, -⟩ := C.2.2.2.2.2.2.2.1
  obtain ⟨a0, a1, a2, -⟩ := h1
  have hsp := rc_nw_split (z := rc_b (q_G X)) (H0 := (q_s X).heap) (H := T.heap) b0 e2' (fun q hq => by
    obtain ⟨c', g1, -, g3, -⟩ := e6 q _ (Array.getElem?_eq_getElem hq)
    have g1' : T.heap[q]? = some c' := g1
    rw [g1', Array.getElem?_eq_getElem hq]
    simp [g3])
  rw [hT] at hsp
  have g1 : rc_tz w0 = rc_nw (rc_b (q_G X)) (q_s X).heap := b2
  have g2 : rc_tz w = rc_nw (rc_b (q_G X)) H := a2
  refine k (by omega) T hT { S with same := ?_ }
  refine ⟨e1, e2, ?_, e4, ?_, e6⟩
  · show T.heap.size ≤ _
    rw [hT] at e2' ⊢
    have : rc_z w0 = (q_s X).heap.size := b1
    have : rc_z w = H.size := a1
    omega
  · show rc_nw (q_s X).heap.size T.heap ≤ _
    rw [hT]
    omega
theorem rc_lim (C : rc_C X own cc w0) {H : Heap} {locs : List Loc} (h1 : rc_H (q_G X) w H) (h2 : va_S (fun q => rc_b (q_G X) ≤ q) (q_s X).heap H locs) : rc_zc w = rc_zc w0 ∧ rc_zs w = rc_zs w0 ∧ rc_z w0 ≤ rc_z w ∧ rc_z w ≤ rc_zc w ∧ rc_tz w ≤ rc_zs w := by
  obtain ⟨b0, b1, b2, b3, b4, -⟩ := C.2.2.2.2.2.2.2.1
  obtain ⟨a0, a1, a2, a3, a4, -⟩ := h1
  have e : w.2.2.2 = w0.2.2.2 := a4.trans b4.symm
  refine ⟨by show w.2.2.2.1 = w0.2.2.2.1; rw [e], by show w.2.2.2.2 = w0.2.2.2.2; rw [e], ?_, a3.1, a3.2.1⟩
  have := h2.1
  show w0.2.1 ≤ w.2.1
  rw [a1, b1]
  exact this
end RCA
