/-! A CALL THAT MAY THROW, AND ITS CATCH -/
section RCW
variable {p : Program} {l : Launch} {e : Env} {R : Room} {s : State} {m : MethodId} {args : Array Value} {below : List Frame} {meth : Method} {c : Code} {T : State} {locs : List Loc} {cells slots : Nat}
/-- behind a call, whatever its outcome: the state is the caller's, with another heap and warmer tables -/
theorem rc_back {G : rc_G} {y : MethodName} {bytes : ByteArray} {mL fr lo : Nat} {ret : Option FieldType} {cls : String} {av : List Value} {w w' : rc_M} {o : Option (Option Value)} (hM : rc_CtT l G y bytes mL ret fr lo cls av w o w') {U : State} {g : JFrame} {mk : MethodId} {ig : Instr} {len : Nat}
    (S : Stand p l e R s m args below meth c U locs cells slots) (hg : g.method = m) (hsize : g.locals.size = c.maxLocals) (hdg : decode c.code g.pc = .ok (ig, len)) (hW : 2 * g.monitorRoom + (g.stack.map fun v => v.category).sum ≤ 8) (hn : U.methodNamed? y = some mk)
    (hcode : (Cond.code y bytes mL ret).before args U = true) (hinit : (Cond.initialized y.cls).before args U = true) (hfr : fr + 1 ≤ R.frames) (hlo : 8 + (mL + 11) + lo ≤ R.locals) (hcl : cells + (rc_zc w - rc_z w) ≤ R.cells) (hsl : slots + (rc_zs w - rc_tz w) ≤ R.slots)
    (hP : rc_PcT G av w av.toArray (U.calling g mk av.toArray)) :
    ∃ (s2 T2 : State) (L : List Loc) (oc : Outcome), rc_Qt G cls o w' av.toArray (U.calling g mk av.toArray) oc s2 ∧ T2.heap = s2.heap ∧ T2.vm = s2.vm ∧ Stand p l e R s m args below meth c T2 (locs ++ L) (cells + (rc_zc w - rc_z w)) (slots + (rc_zs w - rc_tz w)) ∧ (∀ q ∈ L, rc_b G ≤ q.base) ∧
      (∀ v, oc = .returned v → Steps p.tables e below (doInvoke e (U.setTop g) [] mk av.toArray).1 (T2.setTop { g with pc := g.pc + len, stack := v.toList ++ g.stack })) ∧
      (∀ a, oc = .threw a → Steps p.tables e below (doInvoke e (U.setTop g) [] mk av.toArray).1 ((T2.setTop g).pushFrame (.throwing a))) := by
  obtain ⟨methY, cY, hmY, hcY, -, hlY, -⟩ := Cond.code_spec hn hcode
  obtain ⟨kY, hkY, -⟩ := className_of_methodNamed hn
  have hinitY : kY.init = .initialized := Cond.initialized_spec (findClass_of_methodNamed hn) hkY hinit
  have h : At U g.method c below := by rw [hg]; exact S.here
  have happ : (headSpec [.code y bytes mL ret] (rc_rm fr lo w)).appliesLoose y e.platform (U.calling g mk av.toArray) = true :=
    Spec.appliesLoose_calling (g := g) h hdg hn hkY hinitY
      (S.room_calling (g := g) (R' := rc_rm fr lo w) hsize hmY hcY hfr (by rw [hlY]; show _ + (mL + 11) + lo ≤ _; omega) hcl hsl) (atoms_intro (fun x hx => by
        rw [List.mem_singleton.mp hx]
        exact (rc_args (w := .code y bytes mL ret) rfl _ args _).trans hcode))
  obtain ⟨mid, hmid⟩ := h.above
  have hfr' : (U.setTop g).frames = (.java g :: mid) ++ below := by rw [State.frames_setTop' g h.top, hmid]; rfl
  obtain ⟨oc, s2, hsteps, -, hend, hall⟩ := Steps.callFree hM p S.admits S.cas S.clock (acts := []) hfr' happ hP trivial
  have hall' : rc_Qt G cls o w' av.toArray (U.calling g mk av.toArray) oc s2 ∧ rc_Fr (rc_b G) (U.calling g mk av.toArray) s2 (rc_zc w - rc_z w) (rc_zs w - rc_tz w) := hall
  obtain ⟨hq, L, ⟨hW2, e2, q2, q3, q4, q5, q6⟩, hL⟩ := hall'
  have e3 : s2 = ({ (U.calling g mk av.toArray).setFrames s2.frames with heap := s2.heap, slotsUsed := s2.slotsUsed } : State).setVm s2.vm := by
    have : s2 = ({ s2 with vm := (U.calling g mk av.toArray).vm } : State).setVm s2.vm := rfl
    rw [e2] at this
    exact this
  have hW' : U.WarmedH s2.vm := hW2
  obtain ⟨g0, hg0⟩ := Option.isSome_iff_exists.mp h.top
  obtain ⟨r, hr⟩ := State.topJava?_eq_some.mp hg0
  have hr' : (({ U with heap := s2.heap, slotsUsed := s2.slotsUsed } : State).setVm s2.vm).frames = .java g0 :: r := hr
  have hsame : U.sameButNew ({ U with heap := s2.heap, slotsUsed := s2.slotsUsed } : State) L (rc_zc w - rc_z w) (rc_zs w - rc_tz w) := by
    refine ⟨?_, q2, q3, q4, q5, q6⟩
    obtain ⟨t, ht, -⟩ := State.frames_cons hr
    show ({ U with heap := s2.heap, slotsUsed := s2.slotsUsed } : State) = { U.setFrames U.frames with heap := s2.heap, slotsUsed := s2.slotsUsed }
    rw [State.setFrames_self ht]
  subst hg
  refine ⟨s2, (({ U with heap := s2.heap, slotsUsed := s2.slotsUsed } : State).setVm s2.vm), L, oc, hq, rfl, rfl,
    ⟨S.admits, S.cas, S.clock, S.frames, S.room, S.hears, S.method, S.code, (S.here.setHeapUsed s2.heap s2.slotsUsed).setVm hW'.alike, S.tail, State.WarmedH.trans S.warmed hW', S.limits, S.bytes, S.same.trans (hsame.setVm s.vm)⟩, hL, fun v hv => ?_, fun a ha => ?_⟩
  · subst hv
    rw [State.frames_setTop' g h.top] at hend
    obtain ⟨c2, i2, len2, hc2, hd2, hf2⟩ := hend
    have hcc : c2 = c := by
      have h1 : s2.code? g.method = U.code? g.method := by
        rw [State.code?_eq, State.code?_eq, hW'.alike.method?]
      exact Option.some.inj (hc2.symm.trans (h1.trans h.code))
    subst hcc
    have hlen : len2 = len := by rw [hdg] at hd2; cases hd2; rfl
    subst hlen
    have hs2 : s2 = (({ U with heap := s2.heap, slotsUsed := s2.slotsUsed } : State).setVm s2.vm).setTop { g with pc := g.pc + len2, stack := v.toList ++ g.stack } := by
      refine e3.trans ?_
      rw [hf2, State.calling_eq h.top, State.setFrames_setFrames, State.setTop_of_frames _ hr', hr]
      rfl
    rw [← hs2]
    exact hsteps
  · subst ha
    have hf2 : s2.frames = .throwing a :: (U.setTop g).frames := hend
    have hs2 : s2 = ((({ U with heap := s2.heap, slotsUsed := s2.slotsUsed } : State).setVm s2.vm).setTop g).pushFrame (.throwing a) := by
      refine e3.trans ?_
      rw [hf2, State.frames_setTop' g h.top, State.calling_eq h.top, State.setFrames_setFrames, State.pushFrame, State.frames_setTop _ hr', State.setTop_of_frames _ hr', State.setFrames_setFrames, hr]
      rfl
    rw [← hs2]
    exact hsteps
end RCW
section RCZ
variable {X : rc_X} {own : String} {cc : ByteArray} {w0 w w' : rc_M} {pc n : Nat} {st : List Value} {lv : List (Nat × Value)} {y : MethodName} {cc' : ByteArray} {mL' fr lo np : Nat} {ret' : Option FieldType} {As : List Value}
/-- a method of an object that may throw; the one entry of the caller's table catches -/
theorem j_callVT (C : rc_C X own cc w0) (S0 : rc_S0 (q_s X)) {idx ci a ct hpc : Nat} {r : Option Nat} {cls : String} {o : Option (Option Value)} {xe : ExceptionTableEntry} (htab : (q_c X).exceptionTable.toList = [xe]) (hxe : covers xe pc = true) (hx0 : xe.catchType = ct) (hct : ct ≠ 0) (hxh : xe.handlerPc = hpc) (hcl2 : Cond.classLink own ct cls ∈ rc_tb) (hcast : Cond.castable cls cls ∈ rc_tb)
    (hM : rc_MK y cc' mL' ret' np) (hl : Cond.methodLink own idx y ∈ rc_tb) (hs : Cond.instanceMethod y ∈ rc_tb) (hse : Cond.selects y.cls y y ∈ rc_tb) (hcl : y.cls = rc_R ci) (hrc : rc_rc w r ci = some a) (hfr : fr + 1 ≤ (q_R X).frames) (hlo : 8 + (mL' + 11) + lo ≤ (q_R X).locals)
    (hK : rc_CtT (q_l X) (q_G X) y cc' mL' ret' fr lo cls (va_rf (some a) :: As) w o w') (hnp : As.length = np) {sk : List Value} (hsk : sk = As.reverse ++ va_rf r :: st) (hroom : (st.map fun v => v.category).sum ≤ 8) (hd : decode cc pc = .ok (.invokevirtual idx, 3)) (hn : pc + 3 = n)
    (kr : ∀ v, o = some v → rc_J X w' n (v.toList ++ st) lv) (kt : o = none → ∀ q : Nat, rc_J X w' hpc [va_rf (some q)] lv) : rc_J X w pc sk lv := by
  subst hn
  intro H locs ls h1 h2 h3
  obtain ⟨rfl, hC⟩ := rc_rc_spec hrc
  obtain ⟨hci, cell, g1, g2, g3, g4, -⟩ := rc_isC_cell hC h1 C.2.2.2.2.1
  refine rc_narrow C h1 (fun l6 => ?_)
  intro T hT S
  obtain ⟨m1, m2, m3, m4⟩ := hM
  obtain ⟨mk, methM, hnamed, hmethM, hstM, habM⟩ := Cond.instanceMethod_spec (C.ts _ hs)
  obtain ⟨methM', cM, hmethM', -, -, -, -, -, -, hsigM⟩ := Cond.code_spec hnamed (C.ts _ m1)
  cases hmethM.symm.trans hmethM'
  obtain ⟨c2, r2, m2', q1, q2, q3, q4, kP, hkP, hkPi⟩ := Cond.selects_spec (C.ts _ hse)
  have hcls : (q_s X).vm.findClass y.cls = some cell.cls := by rw [hcl]; exact g4
  cases hcls.symm.trans q1
  cases (State.methodFound?_of_named hnamed m3).symm.trans q2
  cases hnamed.symm.trans q3
  have hselP : selectMethod (q_e X).platform (q_s X).vm cell.cls mk = .method mk := by rw [Launch.admits_selectMethod S.admits]; exact q4
  have hlen : As.length = methM.sig.parameters.length := by
    rw [hsigM] at m4
    rw [hnp]
    exact (Option.some.inj m4).symm
  obtain ⟨vm1, X1, hstep1⟩ := S.invokevirtual C.1 C.2.2.1 (C.ts _ hl) hnamed hmethM hstM hkP hkPi m3 (a := a) (cell := cell) (by rw [hT]; exact g1)
    (fun z h => by rw [g2] at h; cases h) hselP hmethM habM hkP hkPi (g := F0 (q_m X) pc ls sk) rfl (argsL := As) (rest := st) hlen hsk (by rw [C.2.1]; exact hd)
  have hTm : rc_T (T.setVm vm1) := C.2.2.2.1.moved (U := T.setVm vm1) X1.warmed
  have hplS : rc_pl (rc_b (q_G X)) (q_s X).heap := C.2.2.2.2.2.2.2.1.2.2.2.1.2.2
  have hPc : rc_PcT (q_G X) (va_rf (some a) :: As) w (va_rf (some a) :: As).toArray ((T.setVm vm1).calling { F0 (q_m X) pc ls sk with stack := st } mk (va_rf (some a) :: As).toArray) := by
    refine ⟨rfl, ?_, va_K.moved (u := q_s X) X1.warmed.alike C.2.2.2.2.1, rc_T.moved (s := T.setVm vm1) hTm (State.WarmedH.refl _), S0.moved hplS X1.warmed (fun q g1 g2 => ?_)⟩
    · show rc_H _ _ T.heap
      rw [hT]
      exact h1
    · show T.heap[q]? = _
      rw [hT]
      exact h2.2.1 q g2 (Nat.not_le.mpr g1)
  obtain ⟨r1, r2⟩ := rc_room C h1 h2 l6
  obtain ⟨s2, T2, L, oc, hq, e1, e2, S2, hL, hret, hthr⟩ := rc_back hK (ig := .invokevirtual idx) (len := 3) X1 (g := { F0 (q_m X) pc ls sk with stack := st }) rfl (by rw [C.2.2.2.2.2.1]; exact h3.1) (by rw [C.2.1]; exact hd) (lv_room hroom) (X1.named hnamed) (hTm.use _ _ m1) (hTm.use _ _ m2) hfr hlo r1 r2 hPc
  obtain ⟨l1, l2, l3, l4, l5⟩ := rc_lim C h1 h2
  have S3 := stand_widen (k := (q_R X).cells) (n := (q_R X).slots) S2 (by rw [C.2.2.2.2.2.2.2.2.1]; omega) (by rw [C.2.2.2.2.2.2.2.2.2]; omega)
  obtain ⟨hout, hH2, hz, hkp⟩ := hq
  have hz' : H.size ≤ s2.heap.size := by
    have : T.heap.size ≤ s2.heap.size := hz
    rw [hT] at this
    exact this
  have hkp' : ∀ q : Nat, q < H.size → ¬ rc_b (q_G X) ≤ q → s2.heap[q]? = H[q]? := fun q g1 g2 => by
    have := hkp q (show q < T.heap.size by rw [hT]; exact g1) g2
    rw [this]
    show T.heap[q]? = _
    rw [hT]
  have hS2 : va_S (fun q => rc_b (q_G X) ≤ q) (q_s X).heap T2.heap (locs ++ L) := ⟨Nat.le_trans h2.1 (by rw [e1]; exact hz'), fun q g1 g2 => by rw [e1, hkp' q (Nat.lt_of_lt_of_le g1 h2.1) g2]; exact h2.2.1 q g1 g2, fun q hq => by
      rcases List.mem_append.mp hq with h | h
      · exact h2.2.2 q h
      · exact hL q h⟩
  rcases hout with ⟨v, hv, hoc⟩ | ⟨hv, qa, ce, hoc, f1, f2, f3⟩
  · obtain ⟨t2, a1, b1⟩ := kr v hv T2.heap (locs ++ L) ls (by rw [e1]; exact hH2) hS2 h3 T2 rfl S3
    exact ⟨t2, hstep1 _ fun acts => by rw [doInvoke_state]; exact (hret v hoc).trans a1, b1⟩
  · obtain ⟨c3, c4, hc3, hc4, hasg⟩ := Cond.castable_spec (C.ts _ hcast)
    have f3' : (q_s X).vm.findClass cls = some ce.cls := by
      have : (T.setVm vm1).vm.findClass cls = some ce.cls := f3
      rw [X1.warmed.alike.findClass] at this
      exact this
    cases hc3.symm.trans f3'
    cases hc4.symm.trans f3'
    obtain ⟨vm', S4, hst4⟩ := rc_caught S3 qa (g := { F0 (q_m X) pc ls sk with stack := st }) rfl (own := own) (name := cls) C.2.2.1 htab hxe (by rw [hx0]; exact hct) (by rw [hx0]; exact C.ts _ hcl2) f3' (by rw [e1]; exact f1) f2 hasg
    obtain ⟨t2, a1, b1⟩ := kt hv qa T2.heap (locs ++ L) ls (by rw [e1]; exact hH2) hS2 h3 (T2.setVm vm') rfl S4
    rw [← hxh] at a1
    exact ⟨t2, hstep1 _ fun acts => by rw [doInvoke_state]; exact (hthr qa hoc).trans (hst4 t2 a1), b1⟩
end RCZ
