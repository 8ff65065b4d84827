section RCD
variable {X : rc_X} {own : String} {cc : ByteArray} {w0 w w' : rc_M} {pc n : Nat} {st : List Value} {lv : List (Nat × Value)}
theorem j_newA (C : rc_C X own cc w0) {kd a : Nat} {atype : ArrayType} {m : Int32} {ty : FieldType} (hty : newarray.typeOf atype = ty) (hkd : (rc_tys (q_G X))[kd]? = some ((q_G X).2.1 kd, ty)) (hra : ∀ (U : State) (cA : ClassId), va_RA U cA ty → U.vm.findClass ("[" ++ ty.toString) = some cA) (h0 : ∀ (cA : ClassId) (k : Nat), arrV cA k (fun _ => defaultValue ty) = rc_cell cA k (rc_arr0 kd)) (hby : componentBytes ty ≤ 8) (hl : Cond.arrayClass ty ∈ rc_tb) (h : rc_newA w kd m = some (a, w')) (hd : decode cc pc = .ok (.newarray atype, 2)) (hn : pc + 2 = n) (kk : rc_J X w' n (va_rf (some a) :: st) lv) : rc_J X w pc (.int m :: st) lv := by
  subst hn
  subst hty
  intro H locs ls h1 h2 h3
  obtain ⟨hm, ⟨hc, hs, hbig⟩, rfl, rfl⟩ := rc_newA_spec h
  obtain ⟨l1, l2, l3, l4, l5⟩ := rc_lim C h1 h2
  have hc' : rc_z w + 1 ≤ rc_zc w := hc
  have hs' : rc_tz w + m.toNatClampNeg ≤ rc_zs w := hs
  have ez : H.size = rc_z w := h1.2.1.symm
  refine rc_narrow C h1 (fun l6 => va_newaK C.1 C.2.1 (C.ts _ hl) rfl hd rfl hm rfl (Nat.le_trans (Nat.mul_le_mul hbig hby) (by decide)) (by rw [C.2.2.2.2.2.2.2.2.1]; omega) (by rw [C.2.2.2.2.2.2.2.2.2]; omega) rfl fun H1 cA e1 z1 o1 hAr hNm => ?_)
  refine W.widen (k := (q_R X).cells) (n := (q_R X).slots) (by rw [C.2.2.2.2.2.2.2.2.1]; omega) (by rw [C.2.2.2.2.2.2.2.2.2]; omega) ?_
  have hcA : cA = (q_G X).2.1 kd := Option.some.inj (hNm.symm.trans (hra _ _ (C.2.2.2.2.1.2 kd _ hkd).2))
  subst hcA
  rw [h0] at e1
  have hsz := rc_cell_size ((q_G X).2.1 kd) m.toNatClampNeg (rc_arr0 kd)
  have hw := h1.push (e := .inr (.inl (kd, m.toNatClampNeg, rc_arr0 kd))) (fun ⟨_, q⟩ => by cases q) z1 e1 o1 hc (by rw [hsz]; exact hs) (fun β => e1)
  rw [hsz] at hw
  have hk := kk H1 locs ls hw ⟨Nat.le_trans h2.1 (by omega), fun q g1 g2 => (o1 q (Nat.lt_of_lt_of_le g1 h2.1)).trans (h2.2.1 q g1 g2), h2.2.2⟩ h3
  rw [show w.2.1 = H.size from h1.2.1] at hk
  exact hk
theorem j_anewA (C : rc_C X own cc w0) {kd ci idx a : Nat} {m : Int32} (hkd : (rc_tys (q_G X))[kd]? = some ((q_G X).2.1 kd, .object (rc_R ci))) (h0 : rc_arr0 kd = .inr (.inr (fun _ => none))) (hl : Cond.classLink own idx (rc_R ci) ∈ rc_tb) (hov : Cond.arrayOver (.object (rc_R ci)) ∈ rc_tb) (h : rc_newA w kd m = some (a, w')) (hd : decode cc pc = .ok (.anewarray idx, 3)) (hn : pc + 3 = n) (kk : rc_J X w' n (va_rf (some a) :: st) lv) : rc_J X w pc (.int m :: st) lv := by
  subst hn
  intro H locs ls h1 h2 h3
  obtain ⟨hm, ⟨hc, hs, hbig⟩, rfl, rfl⟩ := rc_newA_spec h
  obtain ⟨l1, l2, l3, l4, l5⟩ := rc_lim C h1 h2
  have hc' : rc_z w + 1 ≤ rc_zc w := hc
  have hs' : rc_tz w + m.toNatClampNeg ≤ rc_zs w := hs
  have ez : H.size = rc_z w := h1.2.1.symm
  refine rc_narrow C h1 (fun l6 => W.anew C.1 C.2.1 C.2.2.1 (C.ts _ hl) (C.ts _ hov) rfl hd rfl hm (by omega) (by rw [C.2.2.2.2.2.2.2.2.1]; omega) (by rw [C.2.2.2.2.2.2.2.2.2]; omega) fun cA kA comp g1 g2 g3 g4 => ?_)
  refine W.widen (k := (q_R X).cells) (n := (q_R X).slots) (by rw [C.2.2.2.2.2.2.2.2.1]; omega) (by rw [C.2.2.2.2.2.2.2.2.2]; omega) ?_
  have hcA : cA = (q_G X).2.1 kd := by
    obtain ⟨-, -, -, -, -, q5⟩ := (C.2.2.2.2.1.2 kd _ hkd).2
    exact Option.some.inj (g1.symm.trans q5)
  subst hcA
  rw [show ({ cls := (q_G X).2.1 kd, slots := Array.replicate m.toNatClampNeg .null, vm := .none } : Cell) = rc_cell ((q_G X).2.1 kd) m.toNatClampNeg (rc_arr0 kd) by rw [h0, arrV_new]; rfl]
  have hsz := rc_cell_size ((q_G X).2.1 kd) m.toNatClampNeg (rc_arr0 kd)
  have o1 : ∀ q : Nat, q < H.size → (H.push (rc_cell ((q_G X).2.1 kd) m.toNatClampNeg (rc_arr0 kd)))[q]? = H[q]? := fun q hq => by rw [Array.getElem?_push, if_neg (Nat.ne_of_lt hq)]
  have e1 : (H.push (rc_cell ((q_G X).2.1 kd) m.toNatClampNeg (rc_arr0 kd)))[H.size]? = some (rc_cell ((q_G X).2.1 kd) m.toNatClampNeg (rc_arr0 kd)) := by simp
  have z1 : (H.push (rc_cell ((q_G X).2.1 kd) m.toNatClampNeg (rc_arr0 kd))).size = H.size + 1 := by simp
  have hw := h1.push (e := .inr (.inl (kd, m.toNatClampNeg, rc_arr0 kd))) (fun ⟨_, q⟩ => by cases q) z1 e1 o1 hc (by rw [hsz]; exact hs) (fun β => e1)
  rw [hsz] at hw
  have hk := kk _ locs ls hw ⟨Nat.le_trans h2.1 (by omega), fun q g1 g2 => (o1 q (Nat.lt_of_lt_of_le g1 h2.1)).trans (h2.2.1 q g1 g2), h2.2.2⟩ h3
  rw [show w.2.1 = H.size from h1.2.1] at hk
  exact hk
/-- Object.<init> -/
theorem j_oinit (C : rc_C X own cc w0) {idx : Nat} {r : Option Nat} {a : Nat} (hr : r = some a) (hl : Cond.methodLink own idx Lib.objectInit ∈ rc_tb) (hi : Cond.instanceMethod Lib.objectInit ∈ rc_tb) (hc : Cond.code Lib.objectInit ⟨#[0xb1]⟩ 1 none ∈ rc_tb) (hf : 1 ≤ (q_R X).frames) (hlo : (st.map fun v => v.category).sum + 12 ≤ (q_R X).locals) (hd : decode cc pc = .ok (.invokespecial idx, 3)) (hn : pc + 3 = n) (kk : rc_J X w n st lv) : rc_J X w pc (va_rf r :: st) lv := by
  subst hn
  subst hr
  intro H locs ls h1 h2 h3
  exact W.objInit C.1 C.2.1 C.2.2.1 (C.ts _ hl) (C.ts _ hi) (C.ts _ hc) rfl (by rw [C.2.2.2.2.2.1]; exact h3.1) rfl hd hf (by show 2 * 0 + _ + 12 ≤ _; omega) (kk H locs ls h1 h2 h3)
/-- what the tables say of a method -/
def rc_MK (y : MethodName) (cc : ByteArray) (mL : Nat) (ret : Option FieldType) (np : Nat) : Prop := Cond.code y cc mL ret ∈ rc_tb ∧ Cond.initialized y.cls ∈ rc_tb ∧ (y.cls ≠ "java/lang/invoke/MethodHandle" ∧ y.cls ≠ "java/lang/invoke/VarHandle") ∧ (parseMethodDescriptor y.desc).map (fun d => d.parameters.length) = some np
def rc_ML (own : String) (idx : Nat) (y : MethodName) : Prop := Cond.methodLink own idx y ∈ rc_tb ∨ Cond.methodLinkNest own idx y "RecordCalls" ∈ rc_tb
variable {y : MethodName} {cc' : ByteArray} {mL' fr lo np : Nat} {ret' : Option FieldType} {As : List Value} {v : Option Value}
theorem rc_after (C : rc_C X own cc w0) {H : Heap} {locs : List Loc} {ls : Array Slot} {g : JFrame} {av : Array Value} (h1 : rc_H (q_G X) w H) (h2 : va_S (fun q => rc_b (q_G X) ≤ q) (q_s X).heap H locs) (h3 : lv_has ls (q_n X) lv) (l6 : rc_tz w0 ≤ rc_tz w) (hg : g = F0 (q_m X) pc ls g.stack)
    (hr : va_Run (q_p X) (q_l X) (q_e X) (q_R X) (q_s X) (q_m X) (q_a X) (q_b X) (q_t X) (q_c X) H locs (rc_z w - rc_z w0) (rc_tz w - rc_tz w0) (rc_zc w - rc_z w) (rc_zs w - rc_tz w) g st (rc_Qc (q_G X) v w' av) (fun q => rc_b (q_G X) ≤ q))
    (kk : rc_J X w' (pc + 3) (v.toList ++ st) lv) : rc_V X H locs (rc_z w - rc_z w0) (rc_tz w - rc_tz w0) g := by
  intro T hT S
  obtain ⟨v', st₀, t, T', L, h0, S', hL, e1, e2, ⟨hv, hH, hz, hk⟩, step⟩ := hr T hT S
  cases hv
  rw [h0] at hz hk
  obtain ⟨l1, l2, l3, l4, l5⟩ := rc_lim C h1 h2
  have S2 := stand_widen (k := (q_R X).cells) (n := (q_R X).slots) S' (by rw [C.2.2.2.2.2.2.2.2.1]; omega) (by rw [C.2.2.2.2.2.2.2.2.2]; omega)
  rw [hg] at step ⊢
  obtain ⟨t2, a1, b1⟩ := kk T'.heap (locs ++ L) ls (by rw [e1]; exact hH) ⟨Nat.le_trans h2.1 (by rw [e1]; exact hz), fun q g1 g2 => by rw [e1, hk q (Nat.lt_of_lt_of_le g1 h2.1) g2]; exact h2.2.1 q g1 g2, fun q hq => by
      rcases List.mem_append.mp hq with h | h
      · exact h2.2.2 q h
      · exact hL q h⟩ h3 T' rfl S2
  exact ⟨t2, step t2 a1, b1⟩
theorem rc_pre (C : rc_C X own cc w0) {H : Heap} {av : List Value} (h1 : rc_H (q_G X) w H) : PreS (q_s X) H (rc_Pc (q_G X) av w) av := by
  refine ⟨fun a U g mk q => ⟨q.1, q.2.1, va_K.moved (Vm.Alike.refl U.vm) q.2.2.1, fun c hc => ?_⟩, fun U hU hW => ⟨rfl, by rw [hU]; exact h1, va_K.moved hW.alike C.2.2.2.2.1, C.2.2.2.1.moved hW⟩⟩
  exact rc_move (rc_kinds c hc) (State.WarmedH.refl U) (q.2.2.2 c hc)
theorem rc_cb (C : rc_C X own cc w0) (hM : rc_MK y cc' mL' ret' np) (hfr : fr + 1 ≤ (q_R X).frames) (hlo : 8 + (mL' + 11) + lo ≤ (q_R X).locals) {idx : Nat} (hl : Cond.methodLink own idx y ∈ rc_tb) : CallB (q_R X) (q_s X) (q_a X) own idx y cc' mL' ret' [.code y cc' mL' ret'] (rc_rm fr lo w) (rc_zc w - rc_z w) (rc_zs w - rc_tz w) np := by
  obtain ⟨m1, m2, m3, m4⟩ := hM
  refine ⟨rfl, rfl, hfr, hlo, fun c hc a' U hW => ?_, List.mem_cons_self, C.ts _ m1, C.ts _ m2, m3, fun sig h => ?_, C.ts _ hl⟩
  · rw [List.mem_singleton.mp hc]
    exact (C.2.2.2.1.moved hW).use a' _ m1
  · rw [h] at m4
    exact (Option.some.inj m4).symm
theorem rc_cn (C : rc_C X own cc w0) (hM : rc_MK y cc' mL' ret' np) (hfr : fr + 1 ≤ (q_R X).frames) (hlo : 8 + (mL' + 11) + lo ≤ (q_R X).locals) {idx : Nat} (hl : Cond.methodLinkNest own idx y "RecordCalls" ∈ rc_tb) : va_CN (q_R X) (q_s X) (q_a X) own idx y "RecordCalls" cc' mL' ret' [.code y cc' mL' ret'] (rc_rm fr lo w) (rc_zc w - rc_z w) (rc_zs w - rc_tz w) np := by
  obtain ⟨m1, m2, m3, m4⟩ := hM
  refine ⟨⟨rfl, rfl, hfr, hlo, fun c hc a' U hW => ?_, List.mem_cons_self⟩, C.ts _ m1, C.ts _ m2, m3, fun sig h => ?_, C.ts _ hl⟩
  · rw [List.mem_singleton.mp hc]
    exact (C.2.2.2.1.moved hW).use a' _ m1
  · rw [h] at m4
    exact (Option.some.inj m4).symm
theorem rc_room (C : rc_C X own cc w0) {H : Heap} {locs : List Loc} (h1 : rc_H (q_G X) w H) (h2 : va_S (fun q => rc_b (q_G X) ≤ q) (q_s X).heap H locs) (l6 : rc_tz w0 ≤ rc_tz w) : (rc_z w - rc_z w0) + (rc_zc w - rc_z w) ≤ (q_R X).cells ∧ (rc_tz w - rc_tz w0) + (rc_zs w - rc_tz w) ≤ (q_R X).slots := by
  obtain ⟨l1, l2, l3, l4, l5⟩ := rc_lim C h1 h2
  rw [C.2.2.2.2.2.2.2.2.1, C.2.2.2.2.2.2.2.2.2]
  omega
/-- a static method -/
theorem j_callS (C : rc_C X own cc w0) {idx : Nat} (hM : rc_MK y cc' mL' ret' np) (hl : rc_ML own idx y) (hs : Cond.static y ∈ rc_tb) (hfr : fr + 1 ≤ (q_R X).frames) (hlo : 8 + (mL' + 11) + lo ≤ (q_R X).locals) (hK : rc_Ct (q_l X) (q_G X) y cc' mL' ret' fr lo As w v w') (hnp : As.length = np) {sk : List Value} (hsk : sk = As.reverse ++ st) (hroom : (st.map fun v => v.category).sum ≤ 8) (hd : decode cc pc = .ok (.invokestatic idx, 3)) (hn : pc + 3 = n) {sk' : List Value} (hsk' : v.toList ++ st = sk') (kk : rc_J X w' n sk' lv) : rc_J X w pc sk lv := by
  subst hn
  subst hsk'
  intro H locs ls h1 h2 h3
  refine rc_narrow C h1 (fun l6 => rc_after C (av := As.toArray) h1 h2 h3 l6 rfl ?_ kk)
  rcases hl with hl | hl
  · exact va_runS (nL := q_n X) ⟨C.1, C.2.1, C.2.2.2.2.2.1, C.2.2.1, C.ts⟩ hK ⟨rc_cb C hM hfr hlo hl, C.ts _ hs⟩ (rc_pre C h1) rfl hnp h3.1 hsk (lv_room hroom) hd (rc_room C h1 h2 l6)
  · exact va_runSN (nL := q_n X) ⟨C.1, C.2.1, C.2.2.2.2.2.1, C.2.2.1, C.ts⟩ hK ⟨rc_cn C hM hfr hlo hl, C.ts _ hs, trivial⟩ (rc_pre C h1) rfl hnp h3.1 hsk (lv_room hroom) hd (rc_room C h1 h2 l6)
/-- a method of an object -/
theorem j_callV (C : rc_C X own cc w0) {idx ci a : Nat} {r : Option Nat} (hM : rc_MK y cc' mL' ret' np) (hl : rc_ML own idx y) (hs : Cond.instanceMethod y ∈ rc_tb) (hse : Cond.selects y.cls y y ∈ rc_tb) (hcl : y.cls = rc_R ci) (hrc : rc_rc w r ci = some a) (hfr : fr + 1 ≤ (q_R X).frames) (hlo : 8 + (mL' + 11) + lo ≤ (q_R X).locals) (hK : rc_Ct (q_l X) (q_G X) y cc' mL' ret' fr lo (va_rf (some a) :: As) w v w') (hnp : As.length = np) {sk : List Value} (hsk : sk = As.reverse ++ va_rf r :: st) (hroom : (st.map fun v => v.category).sum ≤ 8) (hd : decode cc pc = .ok (.invokevirtual idx, 3)) (hn : pc + 3 = n) {sk' : List Value} (hsk' : v.toList ++ st = sk') (kk : rc_J X w' n sk' lv) : rc_J X w pc sk lv := by
  subst hn
  subst hsk'
  intro H locs ls h1 h2 h3
  obtain ⟨rfl, hC⟩ := rc_rc_spec hrc
  obtain ⟨hci, cell, g1, g2, g3, g4, -⟩ := rc_isC_cell hC h1 C.2.2.2.2.1
  refine rc_narrow C h1 (fun l6 => rc_after C (av := (Value.ref a :: As).toArray) h1 h2 h3 l6 rfl ?_ kk)
  have hp : PreV (q_s X) H y.cls a (rc_Pc (q_G X) (va_rf (some a) :: As) w) As := ⟨(rc_pre C h1).1, ⟨cell, g1, by rw [g2]; rfl, by rw [hcl]; exact g4⟩, (rc_pre (av := va_rf (some a) :: As) C h1).2⟩
  rcases hl with hl | hl
  · exact va_runV (nL := q_n X) ⟨C.1, C.2.1, C.2.2.2.2.2.1, C.2.2.1, C.ts⟩ hK ⟨rc_cb C hM hfr hlo hl, C.ts _ hs, C.ts _ hse⟩ hp rfl hnp h3.1 hsk (lv_room hroom) hd (rc_room C h1 h2 l6)
  · exact va_runVN (nL := q_n X) ⟨C.1, C.2.1, C.2.2.2.2.2.1, C.2.2.1, C.ts⟩ hK ⟨rc_cn C hM hfr hlo hl, C.ts _ hs, C.ts _ hse⟩ hp rfl hnp h3.1 hsk (lv_room hroom) hd (rc_room C h1 h2 l6)
/-- a constructor -/
theorem j_callI (C : rc_C X own cc w0) {idx : Nat} {r : Option Nat} {a : Nat} (hM : rc_MK y cc' mL' none np) (hl : rc_ML own idx y) (hs : Cond.instanceMethod y ∈ rc_tb) (hy : y.name = "<init>") (hra : r = some a) (hfr : fr + 1 ≤ (q_R X).frames) (hlo : 8 + (mL' + 11) + lo ≤ (q_R X).locals) (hK : rc_Ct (q_l X) (q_G X) y cc' mL' none fr lo (va_rf (some a) :: As) w none w') (hnp : As.length = np) {sk : List Value} (hsk : sk = As.reverse ++ va_rf r :: st) (hroom : (st.map fun v => v.category).sum ≤ 8) (hd : decode cc pc = .ok (.invokespecial idx, 3)) (hn : pc + 3 = n) (kk : rc_J X w' n st lv) : rc_J X w pc sk lv := by
  subst hn
  subst hra
  intro H locs ls h1 h2 h3
  refine rc_narrow C h1 (fun l6 => rc_after C (v := none) (av := (Value.ref a :: As).toArray) h1 h2 h3 l6 rfl ?_ kk)
  rcases hl with hl | hl
  · exact va_runI (nL := q_n X) ⟨C.1, C.2.1, C.2.2.2.2.2.1, C.2.2.1, C.ts⟩ hK ⟨rc_cb C hM hfr hlo hl, hy, C.ts _ hs⟩ (rc_pre C h1) rfl hnp h3.1 hsk (lv_room hroom) hd (rc_room C h1 h2 l6)
  · exact va_runIN (nL := q_n X) ⟨C.1, C.2.1, C.2.2.2.2.2.1, C.2.2.1, C.ts⟩ hK ⟨rc_cn C hM hfr hlo hl, hy, C.ts _ hs⟩ (rc_pre C h1) rfl hnp h3.1 hsk (lv_room hroom) hd (rc_room C h1 h2 l6)
end RCD
