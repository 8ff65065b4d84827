theorem rc_cp_spec {w w' : rc_M} {r0 r1 : Option Nat} {sp dp n : Int32} (h : rc_cp w r0 sp r1 dp n = some w') : ∃ (a0 n0 a n1 : Nat) (f g : Nat → Int32), r0 = some a0 ∧ r1 = some a ∧ w.1 a0 = some (.inr (.inl (2, n0, .inl f))) ∧ w.1 a = some (.inr (.inl (2, n1, .inl g))) ∧ ¬ (sp < 0 ∨ dp < 0 ∨ n < 0 ∨ n0 < sp.toNatClampNeg + n.toNatClampNeg ∨ n1 < dp.toNatClampNeg + n.toNatClampNeg) ∧ (∀ i, i < n.toNatClampNeg → fits .byte (.int (f (sp.toNatClampNeg + i))) = true) ∧ w' = rc_up w a (.inr (.inl (2, n1, .inl (va_cpy f g sp.toNatClampNeg dp.toNatClampNeg n.toNatClampNeg)))) := by
  unfold rc_cp at h
  split at h
  · rename_i a0 n0 f a n1 g e1 e2
    obtain ⟨h1, h2⟩ := rc_gA_spec e1
    obtain ⟨h3, h4⟩ := rc_gA_spec e2
    split at h
    · cases h
    · rename_i hc
      split at h
      · rename_i hf
        cases h
        exact ⟨a0, n0, a, n1, f, g, h1, h3, h2, h4, hc, hf, rfl⟩
      · cases h
  · cases h
theorem rc_nn {z : Int32} (hz : ¬ z < 0) : z.toInt = (z.toNatClampNeg : Int) := by
  have hz0 : (0 : Int) ≤ z.toInt := by
    have := Int32.not_lt.mp hz
    simpa using Int32.le_iff_toInt_le.mp this
  show z.toInt = ((z.toInt.toNat : Nat) : Int)
  omega
section RCP
variable {X : rc_X} {own : String} {cc : ByteArray} {w0 w w' : rc_M} {pc n : Nat} {st : List Value} {lv : List (Nat × Value)}
theorem j_copy (C : rc_C X own cc w0) {idx : Nat} {r0 r1 : Option Nat} {sp dp k : Int32} (hl : Cond.methodLink own idx arraycopyName ∈ rc_tb) (hnat : Cond.native arraycopyName ∈ rc_tb) (hstat : Cond.static arraycopyName ∈ rc_tb) (hini : Cond.initialized "java/lang/System" ∈ rc_tb) (hf : 1 ≤ (q_R X).frames) (hlo : (st.map fun v => v.category).sum + (nativeFrameWords "java/lang/System" "arraycopy" 5 + 11) ≤ (q_R X).locals) (h : rc_cp w r0 sp r1 dp k = some w') (hd : decode cc pc = .ok (.invokestatic idx, 3)) (hn : pc + 3 = n) (kk : rc_J X w' n st lv) : rc_J X w pc (.int k :: .int dp :: va_rf r1 :: .int sp :: va_rf r0 :: st) lv := by
  subst hn
  intro H locs ls h1 h2 h3
  obtain ⟨a0, n0, a, n1, f, g, rfl, rfl, ha0, ha1, hc, hfit, rfl⟩ := rc_cp_spec h
  simp only [not_or] at hc
  obtain ⟨c1, c2, c3, c4, c5⟩ := hc
  intro T hT S
  obtain ⟨-, hc0⟩ := rc_arr h1 ha0
  obtain ⟨hba, hc1⟩ := rc_arr h1 ha1
  obtain ⟨-, k0, hk0, cm0, hkk0⟩ := C.2.2.2.2.1.arr 2 rfl n0 (fun j => .int (f j))
  obtain ⟨-, k1, hk1, cm1, hkk1⟩ := C.2.2.2.2.1.arr 2 rfl n1 (fun j => .int (g j))
  obtain ⟨vm', X', step⟩ := S.arraycopy C.1 C.2.2.1 (C.ts _ hl) (C.ts _ hnat) (C.ts _ hstat) (C.ts _ hini) (src := a0) (dst := a) (cs := rc_cell ((q_G X).2.1 2) n0 (.inl f)) (cd := rc_cell ((q_G X).2.1 2) n1 (.inl g)) (srcPos := sp) (destPos := dp) (n := k) (by rw [hT]; exact hc0) (by rw [hT]; exact hc1)
    (fun _ h => by cases h) (fun _ h => by cases h) (fun h => by cases h) (fun h => by cases h) hk0 hk1 hkk0 hkk1 (by decide) c1 c2 c3
    (by rw [rc_nn c1, rc_nn c3, rc_cell_size]; omega)
    (by rw [rc_nn c2, rc_nn c3, rc_cell_size]; omega)
    (fun vm₁ _ i hi => by
      have e : (rc_cell ((q_G X).2.1 2) n0 (.inl f)).slots.getD (sp.toNatClampNeg + i) .null = .int (f (sp.toNatClampNeg + i)) := by
        rw [rc_cell_i, Array.getD_eq_getD_getElem?, arrV_read _ _ (by omega)]
        rfl
      refine ⟨?_, ?_⟩
      · rw [e]
        exact hfit i hi
      · rw [e]
        exact trivial)
    (g := F0 (q_m X) pc ls (.int k :: .int dp :: .ref a :: .int sp :: .ref a0 :: st)) rfl (by rw [C.2.2.2.2.2.1]; exact h3.1) (rest := st) rfl (by rw [C.2.1]; exact hd) hf (by show 2 * 0 + _ + _ ≤ _; omega)
  have e1 : copied (rc_cell ((q_G X).2.1 2) n0 (.inl f)) (rc_cell ((q_G X).2.1 2) n1 (.inl g)) sp dp k = rc_cell ((q_G X).2.1 2) n1 (.inl (va_cpy f g sp.toNatClampNeg dp.toNatClampNeg k.toNatClampNeg)) := va_copied (fun z => .int z) _ _ f g (by omega)
  rw [e1] at X' step
  have hlt : a < H.size := (Array.getElem?_eq_some_iff.mp hc1).1
  have oq : ∀ q : Nat, q ≠ a → (H.setIfInBounds a (rc_cell ((q_G X).2.1 2) n1 (.inl (va_cpy f g sp.toNatClampNeg dp.toNatClampNeg k.toNatClampNeg))))[q]? = H[q]? := fun q hq => by simp [Array.getElem?_setIfInBounds, Ne.symm hq]
  have eq1 : (H.setIfInBounds a (rc_cell ((q_G X).2.1 2) n1 (.inl (va_cpy f g sp.toNatClampNeg dp.toNatClampNeg k.toNatClampNeg))))[a]? = some (rc_cell ((q_G X).2.1 2) n1 (.inl (va_cpy f g sp.toNatClampNeg dp.toNatClampNeg k.toNatClampNeg))) := by simp [Array.getElem?_setIfInBounds, hlt]
  obtain ⟨t, a1, b1⟩ := kk _ _ ls (rc_arr_set h1 ha1 (by simp) eq1 oq) ⟨by simp; exact h2.1, fun q g1 g2 => by
      rw [oq q (fun e => g2 (by rw [e]; exact hba))]
      exact h2.2.1 q g1 g2, fun q hq => by
      rcases List.mem_append.mp hq with h | h
      · exact h2.2.2 q h
      · obtain ⟨z, -, hz⟩ := List.mem_map.mp h
        rw [← hz]
        exact hba⟩ h3 _ (by rw [← hT]; rfl) X'
  exact ⟨t, step t a1, b1⟩
end RCP
theorem rc_le {a b c : Nat} (h : c = b) (h2 : a ≤ b) : a ≤ c := h ▸ h2
theorem rc_lt {a b c : Nat} (h : c = b) (h2 : a < b) : a < c := h ▸ h2
theorem rc_fo (n : String) (r : Option Nat) : fits (.object n) (va_rf r) = true := by cases r <;> rfl
theorem rc_fa (t : FieldType) (r : Option Nat) : fits (.array t) (va_rf r) = true := by cases r <;> rfl
theorem rc_z1_spec {x : Int32} {w : rc_M} {res : Int32 × rc_M} (h : rc_z1 x w = some res) : (x = 0 ∨ x = 1) ∧ res = (x, w) := by
  unfold rc_z1 at h
  split at h
  · rename_i hx
    cases h
    exact ⟨hx, rfl⟩
  · cases h
theorem rc_pZ_spec {w w' : rc_M} {r : Option Nat} {ci k : Nat} {x : Int32} (h : rc_pZ w r ci k x = some w') : (x = 0 ∨ x = 1) ∧ rc_pV w r ci k (.int x) = some w' := by
  unfold rc_pZ at h
  split at h
  · rename_i hx
    exact ⟨hx, h⟩
  · cases h
theorem rc_nz {x : Int32} (h : x = 0 ∨ x = 1) : narrow .boolean (.int x) = .int x := by rcases h with rfl | rfl <;> rfl
theorem rc_fz {x : Int32} (h : x = 0 ∨ x = 1) : fits .boolean (.int x) = true := by rcases h with rfl | rfl <;> rfl
theorem rc_cat_i (x : Int32) : (Value.int x).category = 1 := rfl
theorem rc_cat_l (x : Int64) : (Value.long x).category = 2 := rfl
