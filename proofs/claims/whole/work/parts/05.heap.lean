theorem rc_gV_spec {w : rc_M} {r : Option Nat} {ci k : Nat} {v : Value} (h : rc_gV w r ci k = some v) : ∃ (a : Nat) (F : Nat → Value), r = some a ∧ w.1 a = some (.inl (ci, F)) ∧ v = F k := by
  unfold rc_gV at h
  split at h
  · cases h
  · rename_i a
    split at h
    · rename_i o hw
      split at h
      · rename_i hc
        cases h
        exact ⟨a, o.2, rfl, by rw [hw, ← hc], rfl⟩
      · cases h
    · cases h
theorem rc_gI_spec {w : rc_M} {r : Option Nat} {ci k : Nat} {x : Int32} (h : rc_gI w r ci k = some x) : rc_gV w r ci k = some (.int x) := by
  unfold rc_gI at h
  split at h
  · rename_i e
    cases h
    exact e
  · cases h
theorem rc_gL_spec {w : rc_M} {r : Option Nat} {ci k : Nat} {x : Int64} (h : rc_gL w r ci k = some x) : rc_gV w r ci k = some (.long x) := by
  unfold rc_gL at h
  split at h
  · rename_i e
    cases h
    exact e
  · cases h
theorem rc_gR_spec {w : rc_M} {r : Option Nat} {ci k : Nat} {x : Option Nat} (h : rc_gR w r ci k = some x) : rc_gV w r ci k = some (va_rf x) := by
  unfold rc_gR at h
  split at h
  · rename_i e
    cases h
    exact e
  · rename_i e
    cases h
    exact e
  · cases h
theorem rc_pV_spec {w w' : rc_M} {r : Option Nat} {ci k : Nat} {v : Value} (h : rc_pV w r ci k v = some w') : ∃ (a : Nat) (F : Nat → Value), r = some a ∧ w.1 a = some (.inl (ci, F)) ∧ w' = rc_up w a (.inl (ci, updV F k v)) := by
  unfold rc_pV at h
  split at h
  · cases h
  · rename_i a
    split at h
    · rename_i o hw
      split at h
      · rename_i hc
        cases h
        exact ⟨a, o.2, rfl, by rw [hw, ← hc], rfl⟩
      · cases h
    · cases h
theorem rc_gA_spec {w : rc_M} {r : Option Nat} {kd : Nat} {x : Nat × Nat × rc_A} (h : rc_gA w r kd = some x) : r = some x.1 ∧ w.1 x.1 = some (.inr (.inl (kd, x.2))) := by
  unfold rc_gA at h
  split at h
  · cases h
  · rename_i a
    split at h
    · rename_i y hw
      split at h
      · rename_i hc
        cases h
        exact ⟨rfl, by rw [hw, ← hc]⟩
      · cases h
    · cases h
theorem rc_aI_spec {w : rc_M} {r : Option Nat} {kd : Nat} {i x : Int32} (h : rc_aI w r kd i = some x) : ∃ (a n : Nat) (f : Nat → Int32), r = some a ∧ w.1 a = some (.inr (.inl (kd, n, .inl f))) ∧ vp_in i n ∧ x = f i.toNatClampNeg := by
  unfold rc_aI at h
  split at h
  · rename_i a n f e
    obtain ⟨h1, h2⟩ := rc_gA_spec e
    split at h
    · cases h
    · rename_i hc
      cases h
      exact ⟨a, n, f, h1, h2, hc, rfl⟩
  · cases h
theorem rc_aL_spec {w : rc_M} {r : Option Nat} {i : Int32} {x : Int64} (h : rc_aL w r i = some x) : ∃ (a n : Nat) (f : Nat → Int64), r = some a ∧ w.1 a = some (.inr (.inl (1, n, .inr (.inl f)))) ∧ vp_in i n ∧ x = f i.toNatClampNeg := by
  unfold rc_aL at h
  split at h
  · rename_i a n f e
    obtain ⟨h1, h2⟩ := rc_gA_spec e
    split at h
    · cases h
    · rename_i hc
      cases h
      exact ⟨a, n, f, h1, h2, hc, rfl⟩
  · cases h
theorem rc_aR_spec {w : rc_M} {r : Option Nat} {kd : Nat} {i : Int32} {x : Option Nat} (h : rc_aR w r kd i = some x) : ∃ (a n : Nat) (f : Nat → Option Nat), r = some a ∧ w.1 a = some (.inr (.inl (kd, n, .inr (.inr f)))) ∧ vp_in i n ∧ x = f i.toNatClampNeg := by
  unfold rc_aR at h
  split at h
  · rename_i a n f e
    obtain ⟨h1, h2⟩ := rc_gA_spec e
    split at h
    · cases h
    · rename_i hc
      cases h
      exact ⟨a, n, f, h1, h2, hc, rfl⟩
  · cases h
theorem rc_sI_spec {w w' : rc_M} {r : Option Nat} {kd : Nat} {i x : Int32} (h : rc_sI w r kd i x = some w') : ∃ (a n : Nat) (f : Nat → Int32), r = some a ∧ w.1 a = some (.inr (.inl (kd, n, .inl f))) ∧ vp_in i n ∧ w' = rc_up w a (.inr (.inl (kd, n, .inl (upd f i.toNatClampNeg (rc_nar kd x))))) := by
  unfold rc_sI at h
  split at h
  · rename_i a n f e
    obtain ⟨h1, h2⟩ := rc_gA_spec e
    split at h
    · cases h
    · rename_i hc
      cases h
      exact ⟨a, n, f, h1, h2, hc, rfl⟩
  · cases h
theorem rc_sL_spec {w w' : rc_M} {r : Option Nat} {i : Int32} {x : Int64} (h : rc_sL w r i x = some w') : ∃ (a n : Nat) (f : Nat → Int64), r = some a ∧ w.1 a = some (.inr (.inl (1, n, .inr (.inl f)))) ∧ vp_in i n ∧ w' = rc_up w a (.inr (.inl (1, n, .inr (.inl (vp_updL f i.toNatClampNeg x))))) := by
  unfold rc_sL at h
  split at h
  · rename_i a n f e
    obtain ⟨h1, h2⟩ := rc_gA_spec e
    split at h
    · cases h
    · rename_i hc
      cases h
      exact ⟨a, n, f, h1, h2, hc, rfl⟩
  · cases h
theorem rc_sR_spec {w w' : rc_M} {r : Option Nat} {kd ci : Nat} {i : Int32} {x : Option Nat} (h : rc_sR w r kd ci i x = some w') : ∃ (a n y : Nat) (f : Nat → Option Nat), r = some a ∧ x = some y ∧ rc_isC w y ci = true ∧ w.1 a = some (.inr (.inl (kd, n, .inr (.inr f)))) ∧ vp_in i n ∧ w' = rc_up w a (.inr (.inl (kd, n, .inr (.inr (va_up f i.toNatClampNeg (some y)))))) := by
  unfold rc_sR at h
  split at h
  · rename_i a n f e
    obtain ⟨h1, h2⟩ := rc_gA_spec e
    split at h
    · cases h
    · rename_i hc
      split at h
      · cases h
      · rename_i y
        split at h
        · rename_i hy
          cases h
          exact ⟨a, n, y, f, h1, rfl, hy, h2, hc, rfl⟩
        · cases h
  · cases h
theorem rc_ln_spec {w : rc_M} {r : Option Nat} {kd : Nat} {x : Int32} (h : rc_ln w r kd = some x) : ∃ (a n : Nat) (f : rc_A), r = some a ∧ w.1 a = some (.inr (.inl (kd, n, f))) ∧ x = Int32.ofNat n := by
  unfold rc_ln at h
  split at h
  · rename_i a n f e
    obtain ⟨h1, h2⟩ := rc_gA_spec e
    cases h
    exact ⟨a, n, f, h1, h2, rfl⟩
  · cases h
theorem rc_rc_spec {w : rc_M} {r : Option Nat} {ci a : Nat} (h : rc_rc w r ci = some a) : r = some a ∧ rc_isC w a ci = true := by
  unfold rc_rc at h
  split at h
  · cases h
  · split at h
    · rename_i hc
      cases h
      exact ⟨rfl, hc⟩
    · cases h
theorem rc_new_spec {w w' : rc_M} {ci a : Nat} (h : rc_new w ci = some (a, w')) : (w.2.1 + 1 ≤ rc_zc w ∧ w.2.2.1 + rc_N ci ≤ rc_zs w) ∧ a = w.2.1 ∧ w' = rc_push w (.inl (ci, rc_dflt ci)) (rc_N ci) := by
  unfold rc_new at h
  split at h
  · rename_i hc
    cases h
    exact ⟨hc, rfl, rfl⟩
  · cases h
theorem rc_newA_spec {w w' : rc_M} {kd a : Nat} {n : Int32} (h : rc_newA w kd n = some (a, w')) : ¬ n < 0 ∧ (w.2.1 + 1 ≤ rc_zc w ∧ w.2.2.1 + n.toNatClampNeg ≤ rc_zs w ∧ n.toNatClampNeg ≤ 1000000) ∧ a = w.2.1 ∧ w' = rc_push w (.inr (.inl (kd, n.toNatClampNeg, rc_arr0 kd))) n.toNatClampNeg := by
  unfold rc_newA at h
  split at h
  · cases h
  · rename_i h0
    split at h
    · rename_i hc
      cases h
      exact ⟨h0, hc, rfl, rfl⟩
    · cases h
/-- an object of a class at an address, or a row: its cell -/
theorem rc_isC_cell {G : rc_G} {w : rc_M} {H : Heap} {U : State} {a ci : Nat} (h : rc_isC w a ci = true) (hH : rc_H G w H) (hK : rc_K G U) : ci < 8 ∧ ∃ cell : Cell, H[a]? = some cell ∧ cell.vm = .none ∧ cell.cls = G.1.1 ci ∧ U.vm.findClass (rc_R ci) = some cell.cls ∧ ∃ kC : Class, U.vm.classes[cell.cls]? = some kC := by
  obtain ⟨-, -, -, -, -, β, hB, -⟩ := hH
  unfold rc_isC at h
  split at h
  · rename_i o hw
    have hc : o.1 = ci := by simpa using h
    subst hc
    obtain ⟨-, hci, cell, q1, q2, q3, -⟩ := hB a _ hw
    obtain ⟨-, hfc, kC, hkC, -⟩ := hK.1 o.1 _ (rc_cl_at o.1 hci)
    exact ⟨hci, cell, q1, q3, q2, by rw [q2]; exact hfc, kC, by rw [q2]; exact hkC⟩
  · rename_i x hw
    have hc : ci = 1 := by simpa using h
    subst hc
    obtain ⟨-, ⟨cell, q1, q2, q3, -⟩, -⟩ := hB a _ hw
    obtain ⟨-, hfc, kC, hkC, -⟩ := hK.1 1 _ (rc_cl_at 1 (by decide))
    exact ⟨by decide, cell, q1, q3, q2, by rw [q2]; exact hfc, kC, by rw [q2]; exact hkC⟩
  · cases h
theorem rc_own : ∀ ci, ci < 8 → ∀ k, k < rc_N ci → ((rc_F ci) k).1 = rc_R ci := by decide +kernel
/-- what the tables say of a field as an instruction names it -/
def rc_FL (own : String) (idx ci k : Nat) : Prop := ci < 8 ∧ k < rc_N ci ∧ (Cond.fieldLink own idx (rc_R ci) ((rc_F ci) k).2.1 ((rc_F ci) k).2.2.1 ∈ rc_tb ∨ Cond.fieldLinkNest own idx (rc_R ci) ((rc_F ci) k).2.1 ((rc_F ci) k).2.2.1 "RecordCalls" ∈ rc_tb)
section RCH
variable {X : rc_X} {own : String} {cc : ByteArray} {w0 w w' : rc_M} {pc n : Nat} {st : List Value} {lv : List (Nat × Value)}
theorem j_getV (C : rc_C X own cc w0) {idx ci k : Nat} {r : Option Nat} {v : Value} (F : rc_FL own idx ci k) (h : rc_gV w r ci k = some v) (hd : decode cc pc = .ok (.getfield idx, 3)) (hn : pc + 3 = n) (kk : rc_J X w n (v :: st) lv) : rc_J X w pc (va_rf r :: st) lv := by
  subst hn
  intro H locs ls h1 h2 h3
  obtain ⟨a, V, rfl, ha, rfl⟩ := rc_gV_spec h
  obtain ⟨hci, hk, hl⟩ := F
  obtain ⟨-, -, -, -, -, β, hB, -⟩ := id h1
  obtain ⟨-, -, cell, q1, q2, q3, q4⟩ := hB a _ ha
  obtain ⟨hS, hfc, kC, hkC, hkind⟩ := C.2.2.2.2.1.1 ci _ (rc_cl_at ci hci)
  obtain ⟨cf, kf, fi, f, hi, hsl⟩ := hS k hk
  have hst := (u_facts hfc hkC (u_lays C.ts (rc_in ci hci) hk) hi).1
  have hi' := hi
  rw [rc_own ci hci k hk] at hi'
  have hv : cell.slots[f.slot]? = some (V k) := by rw [hsl]; exact q4 k hk
  rcases hl with hl | hl
  · exact W.getf C.1 C.2.1 C.2.2.1 (C.ts _ hl) hi' hst q1 (by rw [q3]; exact fun h => by cases h) hv rfl rfl hd (kk H locs ls h1 h2 h3)
  · exact va_Wgetf C.1 C.2.1 C.2.2.1 (C.ts _ hl) hi' hst q1 (by rw [q3]; exact fun h => by cases h) hv rfl rfl hd (kk H locs ls h1 h2 h3)
theorem j_getI (C : rc_C X own cc w0) {idx ci k : Nat} {r : Option Nat} {x : Int32} (F : rc_FL own idx ci k) (h : rc_gI w r ci k = some x) (hd : decode cc pc = .ok (.getfield idx, 3)) (hn : pc + 3 = n) (kk : rc_J X w n (.int x :: st) lv) : rc_J X w pc (va_rf r :: st) lv := j_getV C F (rc_gI_spec h) hd hn kk
theorem j_getL (C : rc_C X own cc w0) {idx ci k : Nat} {r : Option Nat} {x : Int64} (F : rc_FL own idx ci k) (h : rc_gL w r ci k = some x) (hd : decode cc pc = .ok (.getfield idx, 3)) (hn : pc + 3 = n) (kk : rc_J X w n (.long x :: st) lv) : rc_J X w pc (va_rf r :: st) lv := j_getV C F (rc_gL_spec h) hd hn kk
theorem j_getR (C : rc_C X own cc w0) {idx ci k : Nat} {r : Option Nat} {x : Option Nat} (F : rc_FL own idx ci k) (h : rc_gR w r ci k = some x) (hd : decode cc pc = .ok (.getfield idx, 3)) (hn : pc + 3 = n) (kk : rc_J X w n (va_rf x :: st) lv) : rc_J X w pc (va_rf r :: st) lv := j_getV C F (rc_gR_spec h) hd hn kk
theorem rc_setSlot_size (c : Cell) (i : Nat) (v : Value) : (c.setSlot i v).slots.size = c.slots.size := by simp [Cell.setSlot]
theorem j_putV (C : rc_C X own cc w0) {idx ci k : Nat} {r : Option Nat} {v : Value} (hci : ci < 8) (hk : k < rc_N ci) (hl : Cond.fieldLink own idx (rc_R ci) ((rc_F ci) k).2.1 ((rc_F ci) k).2.2.1 ∈ rc_tb) (hfin : ((rc_F ci) k).2.2.2 = false ∨ (((rc_F ci) k).2.2.2 = true ∧ (q_t X).name = "<init>" ∧ rc_R ci = own)) (hnr : narrow (rc_t ci k) v = v) (hft : fits (rc_t ci k) v = true) (h : rc_pV w r ci k v = some w') (hd : decode cc pc = .ok (.putfield idx, 3)) (hn : pc + 3 = n) (kk : rc_J X w' n st lv) : rc_J X w pc (v :: va_rf r :: st) lv := by
  subst hn
  intro H locs ls h1 h2 h3
  obtain ⟨a, V, rfl, ha, rfl⟩ := rc_pV_spec h
  obtain ⟨-, -, -, -, -, β, hB, -⟩ := id h1
  obtain ⟨hba, -, cell, q1, q2, q3, q4⟩ := hB a _ ha
  obtain ⟨hS, hfc, kC, hkC, hkind⟩ := C.2.2.2.2.1.1 ci _ (rc_cl_at ci hci)
  obtain ⟨cf, kf, fi, f, hi, hsl⟩ := hS k hk
  have hap := va_apart (own := own) (args := q_a X) (s := q_s X) C.ts (rc_in ci hci) (rc_t ci) (rc_ty ci hci) (rc_nm ci hci) C.2.2.2.2.1 (rc_cl_at ci hci)
  have hlay := u_lays C.ts (rc_in ci hci) hk
  have hst := (u_facts hfc hkC hlay hi).1
  have hi' := hi
  rw [rc_own ci hci k hk] at hi'
  have fin : ∀ H' : Heap, H'[a]? = some (cell.setSlot f.slot v) → H'.size = H.size → (∀ q, q ≠ a → H'[q]? = H[q]?) → rc_V X H' (locs ++ [⟨a, f.slot⟩]) (q_R X).cells (q_R X).slots (F0 (q_m X) (pc + 3) ls st) := by
    intro H' e1 e2 e3
    refine kk H' _ ls (h1.set ha (fun ⟨_, q⟩ => by cases q) (fun ⟨_, q⟩ => by cases q) e2 (fun c0 hc0 => ⟨_, e1, ?_⟩) e3 (fun β' => ⟨hci, _, e1, q2, q3, ?_⟩)) (h2.put e2 e3 hba) h3
    · cases q1.symm.trans hc0
      exact rc_setSlot_size _ _ _
    · rw [hsl]
      exact t_set q4 hap hk v
  rcases hfin with hfin | ⟨hft0, hnm, hro⟩
  · have hlay2 := C.ts _ (rc_in ci hci _ (u_in_lay hk))
    unfold u_lay at hlay2
    rw [if_neg (by rw [hfin]; decide)] at hlay2
    have h6 := u_store hfc hkC hkind hlay2 hi (rc_ty ci hci k hk) hnr hft
    exact W.putK C.1 C.2.1 (f := f) ⟨C.2.2.1, C.ts _ hl, ⟨_, _, _, hi'⟩, hst⟩ (by rw [q2]; exact h6) q1 q3 (by rw [hsl]; exact k2_hasslot (q4 k hk)) rfl rfl hd fin
  · have hlay2 := C.ts _ (rc_in ci hci _ (u_in_lay hk))
    unfold u_lay at hlay2
    rw [if_pos hft0] at hlay2
    have hcf : (q_m X).cls = cf := by
      obtain ⟨_, _, c', _, _, _, -, -, hf', -, -, -, hown2, -⟩ := Cond.laysFinal_spec hlay2
      have e1 : c' = cf := by have := hi.symm.trans hf'; simp at this; exact this.1.symm
      rw [rc_own ci hci k hk, hro] at hown2
      rw [← e1]; exact Option.some.inj (C.2.2.1.symm.trans hown2)
    have h6 := u_fits hfc hkC hkind hlay hi (rc_ty ci hci k hk) hnr hft
    exact W.putFinK C.1 C.2.1 C.2.2.1 (C.ts _ hl) hi' hst hcf hnm (by rw [q2]; exact h6) q1 q3 (by rw [hsl]; exact k2_hasslot (q4 k hk)) rfl rfl hd fin
end RCH
