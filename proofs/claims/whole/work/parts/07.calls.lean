/-! NEW OBJECTS AND ARRAYS, CALLS, ANSWERS, ENTRIES -/
def rc_Pc (G : rc_G) (av : List Value) (w : rc_M) : Array Value → State → Prop := va_Pc av (fun U => rc_H G w U.heap ∧ rc_K G U ∧ rc_T U)
def rc_Qc (G : rc_G) (v : Option Value) (w' : rc_M) : Array Value → State → Outcome → State → Prop := fun _ st oc t => oc = .returned v ∧ rc_H G w' t.heap ∧ va_F (fun q => rc_b G ≤ q) st t
abbrev rc_rm (fr lo : Nat) (w : rc_M) : Room := { frames := fr, cells := rc_zc w - rc_z w, slots := rc_zs w - rc_tz w, locals := lo }
/-- THE CONTRACT: from a world, with these arguments, the method answers v and leaves the world w' -/
def rc_Ct (l : Launch) (G : rc_G) (y : MethodName) (cc : ByteArray) (mL : Nat) (ret : Option FieldType) (fr lo : Nat) (av : List Value) (w : rc_M) (v : Option Value) (w' : rc_M) : Prop :=
  Met l y [.code y cc mL ret] (rc_rm fr lo w) (rc_Pc G av w) (rc_Qc G v w') (rc_zc w - rc_z w) (rc_zs w - rc_tz w) (fun q => rc_b G ≤ q)
def rc_E0 (X : rc_X) (y : MethodName) (ret : Option FieldType) (v : Option Value) (w' : rc_M) : Prop := (q_t X).sig.returnType = ret ∧ (q_t X).name = y.name ∧ q_Q X = MQ (q_b X) (rc_Qc (q_G X) v w') (q_a X) (q_s X) (q_R X).cells (q_R X).slots (fun q => rc_b (q_G X) ≤ q)
theorem rc_enter {l : Launch} {G : rc_G} {y : MethodName} {cc : ByteArray} {mL : Nat} {ret : Option FieldType} {fr lo : Nat} {av : List Value} {w : rc_M} {v : Option Value} {w' : rc_M} (hy : plainFor y = true) (hlen : (lg_sl av).length ≤ mL)
    (body : ∀ X : rc_X, q_l X = l → q_G X = G → q_n X = mL → (q_R X).frames = fr → (q_R X).locals = lo → rc_C X y.cls cc w → rc_E0 X y ret v w' → rc_J X w 0 [] (lv_args 0 av)) : rc_Ct l G y cc mL ret fr lo av w v w' := by
  refine va_MetF (cc := cc) (maxL := mL) (ret := ret) hy rfl ?_
  intro p e s m args below meth c s₁ B hml hv
  obtain ⟨rfl, hH, hK, hT⟩ := hv
  have hl := lv_entry av (n := mL) hlen
  rw [lg_entry_eq]
  refine W.widen (Nat.zero_le (rc_zc w - rc_z w)) (Nat.zero_le (rc_zs w - rc_tz w)) ?_
  exact body ((p, l, e, (headSpec [.code y cc mL ret] (rc_rm fr lo w)).room, s), (m, av.toArray, below, meth, c), G, mL, _) rfl rfl rfl rfl rfl ⟨B.exec, B.bytes, findClass_of_methodNamed B.named, hT, hK, hml, B.notSynchronized, hH, rfl, rfl⟩ ⟨B.returns, (name_of_methodNamed B.named B.method).1, rfl⟩ s.heap [] _ hH va_S.rf hl
section RCC
variable {X : rc_X} {own : String} {cc : ByteArray} {w0 w w' : rc_M} {pc n : Nat} {st : List Value} {lv : List (Nat × Value)} {y : MethodName}
theorem j_iret (C : rc_C X own cc w0) {x : Int32} (E : rc_E0 X y (some .int) (some (.int x)) w) (hd : decode cc pc = .ok (.ireturn, 1)) : rc_J X w pc [.int x] lv := by
  intro H locs ls h1 h2 h3
  rw [rc_V, E.2.2]
  exact W.iret C.1 C.2.1 E.1 (fun t ht hW => ⟨rfl, by rw [ht]; exact h1, h2.F ht⟩) h2.2.2 hd C.2.2.2.2.2.2.1
theorem j_zret (C : rc_C X own cc w0) {x : Int32} (hx : x = 0 ∨ x = 1) (E : rc_E0 X y (some .boolean) (some (.int x)) w) (hd : decode cc pc = .ok (.ireturn, 1)) : rc_J X w pc [.int x] lv := by
  intro H locs ls h1 h2 h3
  rw [rc_V, E.2.2]
  exact W.zret C.1 C.2.1 E.1 (by rcases hx with rfl | rfl <;> rfl) (fun t ht hW => ⟨rfl, by rw [ht]; exact h1, h2.F ht⟩) h2.2.2 hd C.2.2.2.2.2.2.1
theorem j_lret (C : rc_C X own cc w0) {x : Int64} (E : rc_E0 X y (some .long) (some (.long x)) w) (hd : decode cc pc = .ok (.lreturn, 1)) : rc_J X w pc [.long x] lv := by
  intro H locs ls h1 h2 h3
  rw [rc_V, E.2.2]
  exact W.lret C.1 C.2.1 E.1 (fun t ht hW => ⟨rfl, by rw [ht]; exact h1, h2.F ht⟩) h2.2.2 hd C.2.2.2.2.2.2.1
theorem j_aret (C : rc_C X own cc w0) {r : Option Nat} {rt : FieldType} (hrt : (∃ n, rt = .object n) ∨ ∃ t, rt = .array t) (E : rc_E0 X y (some rt) (some (va_rf r)) w) (hd : decode cc pc = .ok (.areturn, 1)) : rc_J X w pc [va_rf r] lv := by
  intro H locs ls h1 h2 h3
  rw [rc_V, E.2.2]
  exact W.aret C.1 C.2.1 E.1 hrt (va_rf_or r) (fun t ht hW => ⟨rfl, by rw [ht]; exact h1, h2.F ht⟩) h2.2.2 hd C.2.2.2.2.2.2.1
theorem j_vret (C : rc_C X own cc w0) (E : rc_E0 X y none none w) (hd : decode cc pc = .ok (.return_, 1)) : rc_J X w pc [] lv := by
  intro H locs ls h1 h2 h3
  rw [rc_V, E.2.2]
  exact W.vret C.1 C.2.1 E.1 (fun t ht hW => ⟨rfl, by rw [ht]; exact h1, h2.F ht⟩) h2.2.2 hd C.2.2.2.2.2.2.1
theorem j_new (C : rc_C X own cc w0) {idx ci a : Nat} (hci : ci < 8) (hl : Cond.classLink own idx (rc_R ci) ∈ rc_tb) (hins : Cond.instantiable (rc_R ci) (rc_N ci) ∈ rc_tb) (hini : Cond.initialized (rc_R ci) ∈ rc_tb) (h : rc_new w ci = some (a, w')) (hd : decode cc pc = .ok (.new idx, 3)) (hn : pc + 3 = n) (kk : rc_J X w' n (va_rf (some a) :: st) lv) : rc_J X w pc st lv := by
  subst hn
  intro H locs ls h1 h2 h3
  obtain ⟨⟨hc, hs⟩, rfl, rfl⟩ := rc_new_spec h
  obtain ⟨l1, l2, l3, l4, l5⟩ := rc_lim C h1 h2
  have hc' : rc_z w + 1 ≤ rc_zc w := hc
  have hs' : rc_tz w + rc_N ci ≤ rc_zs w := hs
  have hKn := C.2.2.2.2.1.1 ci _ (rc_cl_at ci hci)
  have ez : H.size = rc_z w := h1.2.1.symm
  refine rc_narrow C h1 (fun l6 => W.newcK C.1 C.2.1 C.2.2.1 (C.ts _ hl) (C.ts _ hins) (C.ts _ hini) rfl hd (by rw [C.2.2.2.2.2.2.2.2.1]; omega) (by rw [C.2.2.2.2.2.2.2.2.2]; omega) hKn.2.1 rfl fun H1 kC hkC e1 z1 o1 => ?_)
  refine W.widen (k := (q_R X).cells) (n := (q_R X).slots) (by rw [C.2.2.2.2.2.2.2.2.1]; omega) (by rw [C.2.2.2.2.2.2.2.2.2]; omega) ?_
  have hsz : (blank ((q_G X).1.1 ci) kC).slots.size = rc_N ci := by
    obtain ⟨c1, k1, g1, g2, -, -, -, g3⟩ := Cond.instantiable_spec (C.ts _ hins)
    cases g1.symm.trans hKn.2.1
    cases g2.symm.trans hkC
    simp [blank, g3]
  have hw := h1.push (e := .inl (ci, rc_dflt ci)) (fun ⟨_, q⟩ => by cases q) z1 e1 o1 hc (by rw [hsz]; exact hs) (fun β => ⟨hci, u_born (rc_t ci) C.ts (rc_in ci hci) hKn hkC e1 (rc_ty ci hci)⟩)
  rw [hsz] at hw
  have hk := kk H1 locs ls hw ⟨Nat.le_trans h2.1 (by omega), fun q g1 g2 => (o1 q (Nat.lt_of_lt_of_le g1 h2.1)).trans (h2.2.1 q g1 g2), h2.2.2⟩ h3
  rw [show w.2.1 = H.size from h1.2.1] at hk
  exact hk
end RCC
