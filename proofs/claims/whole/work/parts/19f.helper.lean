/-! METHODS WITH A HANDLER: their contracts, and a static call of one -/
def rc_CtH (l : Launch) (G : rc_G) (y : MethodName) (cc : ByteArray) (mL : Nat) (ret : Option FieldType) (hh : List (Nat × Nat × Nat × Nat)) (fr lo : Nat) (av : List Value) (w : rc_M) (v : Option Value) (w' : rc_M) : Prop :=
  Met l y [.codeWith y cc mL ret hh] (rc_rm fr lo w) (rc_PcT G av w) (rc_Qc G v w') (rc_zc w - rc_z w) (rc_zs w - rc_tz w) (fun q => rc_b G ≤ q)
theorem rc_enterH {l : Launch} {G : rc_G} {y : MethodName} {cc : ByteArray} {mL : Nat} {ret : Option FieldType} {h1 h2 h3 h4 fr lo : Nat} {av : List Value} {w : rc_M} {v : Option Value} {w' : rc_M} (hy : plainName y.cls = true) (hlen : (lg_sl av).length ≤ mL)
    (body : ∀ X : rc_X, q_l X = l → q_G X = G → q_n X = mL → (q_R X).frames = fr → (q_R X).locals = lo → rc_C X y.cls cc w → rc_S0 (q_s X) → (∃ xe : ExceptionTableEntry, (q_c X).exceptionTable.toList = [xe] ∧ xe.startPc = h1 ∧ xe.endPc = h2 ∧ xe.handlerPc = h3 ∧ xe.catchType = h4) → rc_E0 X y ret v w' → rc_J X w 0 [] (lv_args 0 av)) : rc_CtH l G y cc mL ret [(h1, h2, h3, h4)] fr lo av w v w' := by
  refine va_MetW (cc := cc) (maxL := mL) (ret := ret) (hh := [(h1, h2, h3, h4)]) hy rfl ?_
  intro p e s m args below meth c s₁ B hml hv
  obtain ⟨rfl, hH, hK, hT, hS0⟩ := hv
  have hl := lv_entry av (n := mL) hlen
  have hx : ∃ xe : ExceptionTableEntry, c.exceptionTable.toList = [xe] ∧ xe.startPc = h1 ∧ xe.endPc = h2 ∧ xe.handlerPc = h3 ∧ xe.catchType = h4 := by
    obtain ⟨m9, meth9, c9, hn9, g1, g2, g3, g4, g5, -⟩ := Cond.codeWith_spec (atoms_spec (ws := [.codeWith y cc mL ret [(h1, h2, h3, h4)]]) B.pre _ List.mem_cons_self)
    cases B.named.symm.trans hn9
    cases B.method.symm.trans g1
    cases (Stand.of_body B).code.symm.trans g2
    cases hL : c.exceptionTable.toList with
    | nil => rw [hL] at g5; simp at g5
    | cons x t =>
      rw [hL] at g5
      cases t with
      | nil =>
        simp only [List.map_cons, List.map_nil, List.cons.injEq, Prod.mk.injEq, and_true] at g5
        exact ⟨x, rfl, g5.1, g5.2.1, g5.2.2.1, g5.2.2.2⟩
      | cons z t => simp at g5
  rw [lg_entry_eq]
  refine W.widen (Nat.zero_le (rc_zc w - rc_z w)) (Nat.zero_le (rc_zs w - rc_tz w)) ?_
  exact body ((p, l, e, (headSpec [.codeWith y cc mL ret [(h1, h2, h3, h4)]] (rc_rm fr lo w)).room, s), (m, av.toArray, below, meth, c), G, mL, _) rfl rfl rfl rfl rfl ⟨B.exec, B.bytes, findClass_of_methodNamed B.named, hT, hK, hml, B.notSynchronized, hH, rfl, rfl⟩ hS0 hx ⟨B.returns, (name_of_methodNamed B.named B.method).1, rfl⟩ s.heap [] _ hH va_S.rf hl
def rc_MKH (y : MethodName) (cc : ByteArray) (mL : Nat) (ret : Option FieldType) (hh : List (Nat × Nat × Nat × Nat)) (np : Nat) : Prop := Cond.codeWith y cc mL ret hh ∈ rc_tb ∧ Cond.initialized y.cls ∈ rc_tb ∧ (y.cls ≠ "java/lang/invoke/MethodHandle" ∧ y.cls ≠ "java/lang/invoke/VarHandle") ∧ (parseMethodDescriptor y.desc).map (fun d => d.parameters.length) = some np
section RCY
variable {X : rc_X} {own : String} {cc : ByteArray} {w0 w w' : rc_M} {pc n : Nat} {st : List Value} {lv : List (Nat × Value)} {y : MethodName} {cc' : ByteArray} {mL' fr lo np : Nat} {ret' : Option FieldType} {hh : List (Nat × Nat × Nat × Nat)} {As : List Value} {v : Option Value}
theorem j_callSH (C : rc_C X own cc w0) (S0 : rc_S0 (q_s X)) {idx : Nat} (hM : rc_MKH y cc' mL' ret' hh np) (hl : Cond.methodLink own idx y ∈ rc_tb) (hs : Cond.static y ∈ rc_tb) (hfr : fr + 1 ≤ (q_R X).frames) (hlo : 8 + (mL' + 11) + lo ≤ (q_R X).locals) (hK : rc_CtH (q_l X) (q_G X) y cc' mL' ret' hh fr lo As w v w') (hnp : As.length = np) {sk : List Value} (hsk : sk = As.reverse ++ st) (hroom : (st.map fun v => v.category).sum ≤ 8) (hd : decode cc pc = .ok (.invokestatic idx, 3)) (hn : pc + 3 = n) {sk' : List Value} (hsk' : v.toList ++ st = sk') (kk : rc_J X w' n sk' lv) : rc_J X w pc sk lv := by
  subst hn
  subst hsk'
  intro H locs ls h1 h2 h3
  refine rc_narrow C h1 (fun l6 => rc_after C (av := As.toArray) h1 h2 h3 l6 rfl ?_ kk)
  intro T hT S
  obtain ⟨m1, m2, m3, m4⟩ := hM
  have hplS : rc_pl (rc_b (q_G X)) (q_s X).heap := C.2.2.2.2.2.2.2.1.2.2.2.1.2.2
  obtain ⟨mk, methM, cM, hnamed, hmethM, -, -, -, -, -, -, hsigM⟩ := Cond.codeWith_spec (C.ts _ m1)
  have hstatic : methM.isStatic = true := Cond.static_spec hnamed hmethM (C.ts _ hs)
  obtain ⟨kP, hkP, -⟩ := className_of_methodNamed hnamed
  have hinitP : kP.init = .initialized := Cond.initialized_spec (findClass_of_methodNamed hnamed) hkP (C.ts _ m2)
  have hlen : As.length = methM.sig.parameters.length := by
    rw [hsigM] at m4
    rw [hnp]
    exact (Option.some.inj m4).symm
  obtain ⟨vm1, X1, hstep1⟩ := S.invokestatic C.1 C.2.2.1 (C.ts _ hl) hnamed hmethM hstatic hkP hinitP m3 (g := F0 (q_m X) pc ls sk) rfl (argsL := As) (rest := st) hlen hsk (by rw [C.2.1]; exact hd)
  have hB : Back (q_l X) (q_R X) (q_p X) (q_e X) (q_b X) (q_s X) (q_a X) y 3 8 (fun A a => A.cells + (rc_zc w - rc_z w) ≤ (q_R X).cells ∧ A.slots + (rc_zs w - rc_tz w) ≤ (q_R X).slots ∧ rc_PcT (q_G X) As w a A.U) (PostOf (rc_Qc (q_G X) v w') (rc_zc w - rc_z w) (rc_zs w - rc_tz w) (fun q => rc_b (q_G X) ≤ q)) :=
    va_backW (hh := hh) (bytes := cc') (maxL := mL') (ret := ret') hK (fun a U g mk q => ⟨q.1, q.2.1, va_K.moved (Vm.Alike.refl U.vm) q.2.2.1, rc_T.moved q.2.2.2.1 (State.WarmedH.refl U), fun c hc => by
      have := q.2.2.2.2 c hc
      simp only [rc_st, List.mem_cons, List.not_mem_nil, or_false] at hc
      rcases hc with rfl | rfl | rfl | rfl <;> exact this⟩) rfl rfl hfr hlo (fun c hc a' U hW => by
      rw [List.mem_singleton.mp hc]
      exact (C.2.2.2.1.moved hW).use a' _ m1) List.mem_cons_self (fun a' U hW => (C.2.2.2.1.moved hW).use a' _ m2)
  obtain ⟨r1, r2⟩ := rc_room C h1 h2 l6
  obtain ⟨v2, B, X', hpost, hsteps⟩ := hB (q_m X) (q_t X) (q_c X) ⟨T.setVm vm1, locs, rc_z w - rc_z w0, rc_tz w - rc_tz w0⟩ { F0 (q_m X) pc ls sk with stack := st } (.invokestatic idx) mk As.toArray X1 rfl (by rw [C.2.2.2.2.2.1]; exact h3.1) (by rw [C.2.1]; exact hd) (lv_room hroom) (X1.named hnamed)
    ⟨r1, r2, rfl, by show rc_H _ _ T.heap; rw [hT]; exact h1, va_K.moved (u := q_s X) X1.warmed.alike C.2.2.2.2.1, C.2.2.2.1.moved (U := T.setVm vm1) X1.warmed, S0.moved hplS X1.warmed (fun q g1 g2 => by show T.heap[q]? = _; rw [hT]; exact h2.2.1 q g2 (Nat.not_le.mpr g1))⟩
  obtain ⟨U', l2, c2, s2⟩ := B
  obtain ⟨g', mk', t, L, e1, e2, hq, k1, hL, k2, k3⟩ := hpost
  dsimp only [Pt.U, Pt.locs, Pt.cells, Pt.slots] at X' e1 e2 k1 k2 k3 hsteps
  subst k1; subst k2; subst k3
  exact ⟨v2, (T.setVm vm1).calling g' mk' As.toArray, t, U', L, hT, X', hL, e1, e2, hq, fun target h => hstep1 _ fun acts => by rw [doInvoke_state]; exact hsteps.trans h⟩
end RCY
