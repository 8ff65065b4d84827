/-! CONTRACTS OF METHODS THAT MAY THROW -/
def rc_st : List Cond := [.laysStatic Bundle.tN "UNASSIGNED_STACK" Bundle.steD, .laysStatic Bundle.tN "SUPPRESSED_SENTINEL" Bundle.listD, .isRef (.static Bundle.tN "UNASSIGNED_STACK" Bundle.steD), .isRef (.static Bundle.tN "SUPPRESSED_SENTINEL" Bundle.listD)]
def rc_S0 (U : State) : Prop := ∀ w ∈ rc_st, w.before #[] U = true
theorem rc_S0.use {U : State} (h : rc_S0 U) (A : Array Value) : ∀ w ∈ rc_st, w.before A U = true := by
  intro w hw
  have h1 := h w hw
  simp only [rc_st, List.mem_cons, List.not_mem_nil, or_false] at hw
  rcases hw with rfl | rfl | rfl | rfl <;> exact h1
theorem rc_S0_one {s U : State} {b : Nat} {nm d : String} (hpl : rc_pl b s.heap) (hW : s.WarmedH U.vm) (hh : ∀ q, q < b → q < s.heap.size → U.heap[q]? = s.heap[q]?) (h1 : (Cond.laysStatic Bundle.tN nm d).before #[] s = true) (h2 : (Cond.isRef (.static Bundle.tN nm d)).before #[] s = true) :
    (Cond.laysStatic Bundle.tN nm d).before #[] U = true ∧ (Cond.isRef (.static Bundle.tN nm d)).before #[] U = true := by
  have g1 : (Cond.laysStatic Bundle.tN nm d).before #[] (s.setVm U.vm) = true := Cond.laysStatic_setVm hW.alike h1
  have g2 : (Cond.isRef (.static Bundle.tN nm d)).before #[] (s.setVm U.vm) = true := Cond.holds_shifted (State.Shifted.of_warmed hW) _ [] rfl h2
  obtain ⟨c, k, i, f, a, cell, q1, q2, q3, q4, q5, q6, q7, q8, q9⟩ := Cond.laysStatic_spec (show (Cond.laysStatic Bundle.tN nm d).holds #[] (s.setVm U.vm) none (s.setVm U.vm) [] = true from g1)
  have q5' : s.heap[a]? = some cell := q5
  have hlt : a < s.heap.size := (Array.getElem?_eq_some_iff.mp q5').1
  have hab : a < b := by
    apply Nat.lt_of_not_le
    intro z
    have := hpl a cell z q5'
    rw [this] at q6
    cases q6
  have qU : U.heap[a]? = some cell := by rw [hh a hab hlt]; exact q5'
  have q1' : U.vm.findClass Bundle.tN = some c := q1
  have q2' : U.fieldFound? Bundle.tN nm d = some (c, k, i, f) := q2
  refine ⟨Cond.laysStatic_of q1' q2' q3 q4 qU q6 q7 q8 q9, ?_⟩
  have e1 : (Term.static Bundle.tN nm d).eval #[] U none [] U = (Term.static Bundle.tN nm d).eval #[] (s.setVm U.vm) none [] (s.setVm U.vm) := by
    simp [Term.eval, State.fieldNamed?, q2', q2, q3, q4, qU, q5', q6]
  have g3 := g2
  simp only [Cond.before, Cond.holds, Cond.value] at g3 ⊢
  rw [e1]
  exact g3
theorem rc_S0.moved {s U : State} {b : Nat} (h : rc_S0 s) (hpl : rc_pl b s.heap) (hW : s.WarmedH U.vm) (hh : ∀ q, q < b → q < s.heap.size → U.heap[q]? = s.heap[q]?) : rc_S0 U := by
  obtain ⟨a1, a2⟩ := rc_S0_one hpl hW hh (h (.laysStatic Bundle.tN "UNASSIGNED_STACK" Bundle.steD) (by simp [rc_st])) (h (.isRef (.static Bundle.tN "UNASSIGNED_STACK" Bundle.steD)) (by simp [rc_st]))
  obtain ⟨b1, b2⟩ := rc_S0_one hpl hW hh (h (.laysStatic Bundle.tN "SUPPRESSED_SENTINEL" Bundle.listD) (by simp [rc_st])) (h (.isRef (.static Bundle.tN "SUPPRESSED_SENTINEL" Bundle.listD)) (by simp [rc_st]))
  intro w hw
  simp only [rc_st, List.mem_cons, List.not_mem_nil, or_false] at hw
  rcases hw with rfl | rfl | rfl | rfl
  · exact a1
  · exact b1
  · exact a2
  · exact b2
def rc_PcT (G : rc_G) (av : List Value) (w : rc_M) : Array Value → State → Prop := va_Pc av (fun U => rc_H G w U.heap ∧ rc_K G U ∧ rc_T U ∧ rc_S0 U)
/-- o: what it answers, none where it throws -/
def rc_Qt (G : rc_G) (cls : String) (o : Option (Option Value)) (w' : rc_M) : Array Value → State → Outcome → State → Prop := fun _ st oc t => ((∃ v, o = some v ∧ oc = .returned v) ∨ (o = none ∧ ∃ (a : Addr) (ce : Cell), oc = .threw a ∧ t.heap[a]? = some ce ∧ ce.vm = .none ∧ st.vm.findClass cls = some ce.cls)) ∧ rc_H G w' t.heap ∧ va_F (fun q => rc_b G ≤ q) st t
def rc_Fr (b : Nat) (st t : State) (mc ms : Nat) : Prop := ∃ L : List Loc, (st.WarmedH t.vm ∧ st.sameButNew ({ t with vm := st.vm } : State) L mc ms) ∧ ∀ q ∈ L, b ≤ q.base
def rc_CtT (l : Launch) (G : rc_G) (y : MethodName) (cc : ByteArray) (mL : Nat) (ret : Option FieldType) (fr lo : Nat) (cls : String) (av : List Value) (w : rc_M) (o : Option (Option Value)) (w' : rc_M) : Prop :=
  MetFree l y (headSpec [.code y cc mL ret] (rc_rm fr lo w)) (rc_PcT G av w) (fun _ _ _ _ _ => True) (fun a st oc t => rc_Qt G cls o w' a st oc t ∧ rc_Fr (rc_b G) st t (rc_zc w - rc_z w) (rc_zs w - rc_tz w))
def rc_MQ (below : List Frame) (G : rc_G) (cls : String) (o : Option (Option Value)) (w' : rc_M) (args : Array Value) (s : State) (mc ms : Nat) : State → Prop := fun t => ∃ oc, t.status = .running ∧ Ended t below oc ∧ rc_Qt G cls o w' args s oc t ∧ rc_Fr (rc_b G) s t mc ms
def rc_E1 (X : rc_X) (ret : Option FieldType) (cls : String) (o : Option (Option Value)) (w' : rc_M) : Prop := (q_t X).sig.returnType = ret ∧ (q_c X).exceptionTable.isEmpty = true ∧ rc_S0 (q_s X) ∧ (q_l X).flags = flags0 ∧ q_Q X = rc_MQ (q_b X) (q_G X) cls o w' (q_a X) (q_s X) (q_R X).cells (q_R X).slots
theorem rc_enterT {l : Launch} {G : rc_G} {y : MethodName} {cc : ByteArray} {mL : Nat} {ret : Option FieldType} {fr lo : Nat} {cls : String} {av : List Value} {w : rc_M} {o : Option (Option Value)} {w' : rc_M} (hfl : l.flags = flags0) (hy : plainFor y = true) (hlen : (lg_sl av).length ≤ mL)
    (body : ∀ X : rc_X, q_l X = l → q_G X = G → q_n X = mL → (q_R X).frames = fr → (q_R X).locals = lo → rc_C X y.cls cc w → rc_E1 X ret cls o w' → rc_J X w 0 [] (lv_args 0 av)) : rc_CtT l G y cc mL ret fr lo cls av w o w' := by
  refine MetFree.of_bodySF (code := cc) (maxLocals := mL) (ret := ret) hy ?_ ?_
  · intro args s m h hn
    obtain ⟨meth, c, h1, h2, h3, h4, h5, h6, -, -⟩ := Cond.code_spec hn (atoms_spec (ws := [.code y cc mL ret]) h _ List.mem_cons_self)
    exact ⟨meth, c, h1, h2, h3, h4, h5, h6⟩
  · intro p e s m args below meth c s₁ B hml hP _
    have hh0 : s₁.heap = s.heap := by rw [B.state]; rfl
    obtain ⟨rfl, hH, hK, hT, hS0⟩ := hP
    have hl := lv_entry av (n := mL) hlen
    have hnh := B.noHandlers (atoms_spec (ws := [.code y cc mL ret]) B.pre _ List.mem_cons_self)
    have key : W p l e (headSpec [.code y cc mL ret] (rc_rm fr lo w)).room s m av.toArray below meth c s.heap [] 0 0 (rc_MQ below G cls o w' av.toArray s (rc_zc w - rc_z w) (rc_zs w - rc_tz w)) (entryFrame m av.toArray mL) := by
      rw [lg_entry_eq]
      refine W.widen (Nat.zero_le (rc_zc w - rc_z w)) (Nat.zero_le (rc_zs w - rc_tz w)) ?_
      exact body ((p, l, e, (headSpec [.code y cc mL ret] (rc_rm fr lo w)).room, s), (m, av.toArray, below, meth, c), G, mL, _) rfl rfl rfl rfl rfl ⟨B.exec, B.bytes, findClass_of_methodNamed B.named, hT, hK, hml, B.notSynchronized, hH, rfl, rfl⟩ ⟨B.returns, hnh, hS0, hfl, rfl⟩ s.heap [] _ hH va_S.rf hl
    obtain ⟨t, a1, o1, b1, b2, b3⟩ := key s₁ hh0 (Stand.of_body B)
    exact ⟨t, o1, a1, b1, b2, b3⟩
section RCQ
variable {X : rc_X} {own : String} {cc : ByteArray} {w0 w w' : rc_M} {pc n : Nat} {st : List Value} {lv : List (Nat × Value)}
theorem rc_mq {cls : String} {v : Option Value} {t : State} (h : MQ (q_b X) (rc_Qt (q_G X) cls (some v) w) (q_a X) (q_s X) (q_R X).cells (q_R X).slots (fun q => rc_b (q_G X) ≤ q) t) : rc_MQ (q_b X) (q_G X) cls (some v) w (q_a X) (q_s X) (q_R X).cells (q_R X).slots t := by
  obtain ⟨o, h1, h2, h3, L, ⟨-, h4, h5⟩, h6⟩ := h
  exact ⟨o, h1, h2, h3, L, ⟨h4, h5⟩, h6⟩
theorem j_iretT (C : rc_C X own cc w0) {cls : String} {x : Int32} (E : rc_E1 X (some .int) cls (some (some (.int x))) w) (hd : decode cc pc = .ok (.ireturn, 1)) : rc_J X w pc [.int x] lv := by
  intro H locs ls h1 h2 h3 T hT S
  obtain ⟨t, a1, b1⟩ := W.iret (Qc := rc_Qt (q_G X) cls (some (some (.int x))) w) (free := fun q => rc_b (q_G X) ≤ q) C.1 C.2.1 E.1 (fun t ht hW => ⟨Or.inl ⟨_, rfl, rfl⟩, by rw [ht]; exact h1, h2.F ht⟩) h2.2.2 hd C.2.2.2.2.2.2.1 T hT S
  exact ⟨t, a1, by rw [E.2.2.2.2]; exact rc_mq b1⟩
theorem j_zretT (C : rc_C X own cc w0) {cls : String} {x : Int32} (hx : x = 0 ∨ x = 1) (E : rc_E1 X (some .boolean) cls (some (some (.int x))) w) (hd : decode cc pc = .ok (.ireturn, 1)) : rc_J X w pc [.int x] lv := by
  intro H locs ls h1 h2 h3 T hT S
  obtain ⟨t, a1, b1⟩ := W.zret (Qc := rc_Qt (q_G X) cls (some (some (.int x))) w) (free := fun q => rc_b (q_G X) ≤ q) C.1 C.2.1 E.1 (by rcases hx with rfl | rfl <;> rfl) (fun t ht hW => ⟨Or.inl ⟨_, rfl, rfl⟩, by rw [ht]; exact h1, h2.F ht⟩) h2.2.2 hd C.2.2.2.2.2.2.1 T hT S
  exact ⟨t, a1, by rw [E.2.2.2.2]; exact rc_mq b1⟩
theorem j_vretT (C : rc_C X own cc w0) {cls : String} (E : rc_E1 X none cls (some none) w) (hd : decode cc pc = .ok (.return_, 1)) : rc_J X w pc [] lv := by
  intro H locs ls h1 h2 h3 T hT S
  obtain ⟨t, a1, b1⟩ := W.vret (Qc := rc_Qt (q_G X) cls (some none) w) (free := fun q => rc_b (q_G X) ≤ q) C.1 C.2.1 E.1 (fun t ht hW => ⟨Or.inl ⟨_, rfl, rfl⟩, by rw [ht]; exact h1, h2.F ht⟩) h2.2.2 hd C.2.2.2.2.2.2.1 T hT S
  exact ⟨t, a1, by rw [E.2.2.2.2]; exact rc_mq b1⟩
/-- one cell more that no one knows -/
def rc_thrown (w : rc_M) : rc_M := (w.1, w.2.1 + 1, w.2.2.1 + 6, w.2.2.2)
def rc_throw (w : rc_M) : Option rc_M := if w.2.1 + 1 ≤ rc_zc w ∧ w.2.2.1 + 6 ≤ rc_zs w then some (rc_thrown w) else none
theorem rc_H.garb {G : rc_G} {w : rc_M} {H H1 : Heap} {ce : Cell} (h : rc_H G w H) (hz : H1.size = H.size + 1) (hn : H1[H.size]? = some ce) (h6 : ce.slots.size = 6) (hv : ce.vm = .none) (ho : ∀ q : Nat, q < H.size → H1[q]? = H[q]?) (hr : w.2.1 + 1 ≤ rc_zc w ∧ w.2.2.1 + 6 ≤ rc_zs w) : rc_H G (rc_thrown w) H1 := by
  obtain ⟨h1, h2, h3, h4, h5, β, hB, hR⟩ := h
  refine ⟨by omega, by show w.2.1 + 1 = _; omega, ?_, ⟨hr.1, hr.2, fun q c hq hc => ?_⟩, h5, β, fun q x hx => ?_, hR⟩
  · show w.2.2.1 + 6 = _
    rw [rc_nw_push h1 hz hn ho, h3, h6]
  · by_cases e1 : q = H.size
    · subst e1
      cases hn.symm.trans hc
      exact hv
    · have hl : q < H1.size := (Array.getElem?_eq_some_iff.mp hc).1
      rw [ho q (by omega)] at hc
      exact h4.2.2 q c hq hc
  · obtain ⟨g1, g2⟩ := hB q x hx
    exact ⟨g1, g2.kept (ho q g2.lt) (fun hrw => ho _ (g2.bytes hrw))⟩
end RCQ
