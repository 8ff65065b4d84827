/-! FROM THE PURE STATEMENT TO THE LAW -/
def rc_w0 (b : Nat) : rc_M := (fun _ => none, b, 0, b + rc_rmC, rc_rmS)
/-- WHAT IS PURE: on every script the law's function answers 1 -/
def rc_pure : Prop := ∀ (b sb L : Nat) (xs : Nat → Int32), L ≤ 3584 → ∃ w : rc_M, f_law_law (rc_w0 b) sb xs L = some (1, w)
theorem rc_tb_sub {w : Cond} (h : w ∈ rc_tb) : w ∈ lw_tbl := (List.mem_filter.mp h).1
theorem rc_arrK {s : State} {ty : FieldType} (h : (Cond.arrayClass ty).before #[] s = true) (hr : ∀ cA : ClassId, s.vm.findClass ("[" ++ ty.toString) = some cA → va_RA s cA ty) : ∃ cA : ClassId, ArrOfT s cA ty ∧ va_RA s cA ty := by
  obtain ⟨cA, k, comp, h1, h2, h3⟩ := Cond.arrayClass_spec (show (Cond.arrayClass ty).holds #[] s none s [] = true from h)
  exact ⟨cA, fun n z => ⟨fun k h => (by cases h), k, h2, comp, h3⟩, hr cA h1⟩
theorem rc_arrO {s : State} {C : String} (h : (Cond.arrayOver (.object C)).before #[] s = true) : ∃ cA : ClassId, ArrOfT s cA (.object C) ∧ va_RA s cA (.object C) := by
  obtain ⟨comp, cA, k, h1, -, h3, h4, h5⟩ := Cond.arrayOver_spec (show (Cond.arrayOver (.object C)).holds #[] s none s [] = true from h)
  exact ⟨cA, fun n z => ⟨fun k h => (by cases h), k, h3, comp, h4⟩, k, comp, h3, h4, h1, h5⟩
set_option maxRecDepth 20000 in
theorem rc_ins : ∀ ci, ci < 8 → Cond.instantiable (rc_R ci) (rc_N ci) ∈ rc_tb := by
  intro ci h
  match ci, h with
  | 0, _ => exact T_19
  | 1, _ => exact T_27
  | 2, _ => exact T_44
  | 3, _ => exact T_50
  | 4, _ => exact T_69
  | 5, _ => exact T_133
  | 6, _ => exact T_141
  | 7, _ => exact T_713
set_option maxRecDepth 20000 in
theorem rc_lst1 : Cond.laysStatic Bundle.tN "UNASSIGNED_STACK" Bundle.steD ∈ lw_tbl := by decide +kernel
set_option maxRecDepth 20000 in
theorem rc_lst2 : Cond.laysStatic Bundle.tN "SUPPRESSED_SENTINEL" Bundle.listD ∈ lw_tbl := by decide +kernel
set_option maxHeartbeats 4000000 in
set_option maxRecDepth 100000 in
theorem whole_start {p : Program} {e : Env} {s : State} {m : MethodId} {below : List Frame} {meth : Method} {c : Code} (hpure : rc_pure) (l : Launch) (hfl : l.flags = flags0) {b L : Nat} {xs : Nat → Int32} (hL : L ≤ 3584) (C0 : lw_At p s m meth c b L xs) : W p l e room_1 s m #[Value.ref b] below meth c s.heap [] 0 0 (lw_Z below #[Value.ref b] s) (entryFrame m ([Value.ref b] : List Value).toArray 7) := by
  obtain ⟨hx, hb, hr, hml, hown, hts, hX, hbl, hlocks, hgv⟩ := id C0
  have hT : rc_T s := fun w hw => by rw [rc_args (rc_kinds w hw) #[] #[Value.ref b] s]; exact hts w (rc_tb_sub hw)
  have hS0 : rc_S0 s := by
    have hs := flat_of_before _ hgv
    have i1 : (Cond.isRef (.static Bundle.tN "UNASSIGNED_STACK" Bundle.steD)).before #[Value.ref b] s = true := hs _ (by decide +kernel)
    have i2 : (Cond.isRef (.static Bundle.tN "SUPPRESSED_SENTINEL" Bundle.listD)).before #[Value.ref b] s = true := hs _ (by decide +kernel)
    have i3 := hts _ rc_lst1
    have i4 := hts _ rc_lst2
    intro w hw
    simp only [rc_st, List.mem_cons, List.not_mem_nil, or_false] at hw
    rcases hw with rfl | rfl | rfl | rfl
    · exact i3
    · exact i4
    · exact i1
    · exact i2
  have hcls : ∀ ci : Nat, ∃ q : ClassId × (Nat → Nat), ci < 8 → u_Kn s (rc_R ci) (rc_F ci) (rc_N ci) q.1 q.2 := by
    intro ci
    by_cases h : ci < 8
    · obtain ⟨cC, iS, hk⟩ := u_known (C := rc_R ci) (T := rc_F ci) (N := rc_N ci) (n := rc_N ci) (args := #[]) hT (rc_in ci h) (hT _ (rc_ins ci h))
      exact ⟨(cC, iS), fun _ => hk⟩
    · exact ⟨(0, fun _ => 0), fun q => absurd q h⟩
  obtain ⟨dq, hdq⟩ := Classical.skolem.mp hcls
  obtain ⟨a0, ka0⟩ := rc_arrK (hT _ T_132) (fun _ h => h)
  obtain ⟨a1, ka1⟩ := rc_arrK (hT _ T_67) (fun _ h => h)
  obtain ⟨a2, ka2⟩ := rc_arrK (hT _ T_39) (fun _ h => h)
  obtain ⟨a3, ka3⟩ := rc_arrK (hT _ T_822) (fun _ h => h)
  obtain ⟨a4, ka4⟩ := rc_arrO (hT _ T_40)
  obtain ⟨a5, ka5⟩ := rc_arrO (hT _ T_42)
  let G : rc_G := ((fun ci => (dq ci).1, fun ci => (dq ci).2), fun k => [a0, a1, a2, a3, a4, a5].getD k 0, s.heap.size, s.heap.size + rc_rmC, rc_rmS)
  have hK : rc_K G s := by
    refine ⟨fun ci q hq => ?_, fun k q hq => ?_⟩
    · have hlt : ci < 8 := by
        have := (List.getElem?_eq_some_iff.mp hq).1
        exact this
      rw [rc_cl_at ci hlt] at hq
      cases hq
      exact hdq ci hlt
    · have hlt : k < 6 := (List.getElem?_eq_some_iff.mp hq).1
      match k, hlt, hq with
      | 0, _, hq => cases hq; exact ka0
      | 1, _, hq => cases hq; exact ka1
      | 2, _, hq => cases hq; exact ka2
      | 3, _, hq => cases hq; exact ka3
      | 4, _, hq => cases hq; exact ka4
      | 5, _, hq => cases hq; exact ka5
  have hH : rc_H G (rc_w0 s.heap.size) s.heap := by
    refine ⟨Nat.le_refl _, rfl, ?_, ⟨Nat.le_add_right _ _, Nat.zero_le _, fun q c hq hc => ?_⟩, rfl, fun q => q, ⟨?_, ?_⟩⟩
    · show 0 = rc_nw s.heap.size s.heap
      unfold rc_nw
      rw [List.drop_eq_nil_of_le (by simp)]
      rfl
    · have : q < s.heap.size := (Array.getElem?_eq_some_iff.mp hc).1
      exact absurd hq (Nat.not_le.mpr this)
    · intro a e he
      cases he
    · rintro a ⟨x, hx⟩
      cases hx
  obtain ⟨w, hw⟩ := hpure s.heap.size b L xs hL
  have hl := lv_entry ([.ref b]) (n := 7) (Nat.le_of_ble_eq_true rfl)
  rw [lg_entry_eq]
  refine W.widen (Nat.zero_le room_1.cells) (Nat.zero_le room_1.slots) ?_
  have C : rc_C ((p, l, e, room_1, s), (m, #[Value.ref b], below, meth, c), G, 7, lw_Z below #[Value.ref b] s) "RecordCallsLaw" code (rc_w0 s.heap.size) := by
    refine ⟨hx, hb, hown, hT, hK, hml, hlocks, hH, ?_, ?_⟩
    · show rc_rmC = s.heap.size + rc_rmC - s.heap.size
      omega
    · rfl
  exact k_law_0 (X := ((p, l, e, room_1, s), (m, #[Value.ref b], below, meth, c), G, 7, lw_Z below #[Value.ref b] s)) rfl rfl rfl C (res := (1, w)) ⟨rfl, hr, rfl, ⟨b, rfl⟩, rfl, rfl⟩ hS0 hfl hX ⟨hbl, hbl⟩ hw s.heap [] _ hH va_S.rf hl
