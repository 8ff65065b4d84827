/-! ROWS CLOSED: a row is its capacity and its bytes; where the bytes lie is hidden -/
def rc_u (b : UInt8) : Int32 := nI b.toNat
def rc_lowb (x : Int32) : UInt8 := x.toUInt32.toUInt8
theorem rc_sx_low (x : Int32) : rc_sx (rc_lowb x) = x.toInt8.toInt32 := by
  unfold rc_sx rc_lowb
  congr 1
  apply Int8.toBitVec_inj.mp
  simp [BitVec.signExtend_eq_setWidth_of_le]
theorem rc_u_sx : ∀ b : UInt8, rc_sx b &&& 255 = rc_u b := by
  have h : ∀ n, n < 256 → rc_sx (UInt8.ofNat n) &&& 255 = rc_u (UInt8.ofNat n) := by decide +kernel
  intro b
  have := h b.toNat b.toNat_lt
  simpa using this
def rc_row (w : rc_M) (a : Nat) : Option (Nat × List UInt8) := match w.1 a with
  | some (.inr (.inr x)) => if x.1 ≤ 1000000 then some x else none
  | _ => none
theorem rc_row_spec {w : rc_M} {a : Nat} {x : Nat × List UInt8} (h : rc_row w a = some x) : w.1 a = some (.inr (.inr x)) ∧ x.1 ≤ 1000000 := by
  unfold rc_row at h
  split at h
  · rename_i y e
    split at h
    · rename_i hc
      cases h
      exact ⟨e, hc⟩
    · cases h
  · cases h
def rc_setRow (w : rc_M) (a : Nat) (x : Nat × List UInt8) : rc_M := rc_up w a (.inr (.inr x))
def rc_rowF (b n : Nat) : Nat → Value := fun j => if j = 0 then .ref b else .int (nI n)
/-- a row opened: its object and its array -/
def rc_Op (w : rc_M) (a b cap n : Nat) (f : Nat → Int32) : Prop := a ≠ b ∧ (∃ F : Nat → Value, w.1 a = some (.inl (1, F)) ∧ F 0 = .ref b ∧ F 1 = .int (nI n)) ∧ w.1 b = some (.inr (.inl (2, cap, .inl f)))
def rc_opn (w : rc_M) (a b cap n : Nat) (f : Nat → Int32) : rc_M := (va_up (va_up w.1 a (some (.inl (1, rc_rowF b n)))) b (some (.inr (.inl (2, cap, .inl f)))), w.2)
def rc_agr (bs : List UInt8) (f : Nat → Int32) : Prop := ∀ (i : Nat) (x : UInt8), bs[i]? = some x → f i = rc_sx x
theorem rc_H.opened {G : rc_G} {w : rc_M} {H : Heap} {a : Nat} {x : Nat × List UInt8} (h : rc_H G w H) (ha : w.1 a = some (.inr (.inr x))) :
    ∃ (b : Nat) (f : Nat → Int32), a ≠ b ∧ w.1 b = none ∧ x.2.length ≤ x.1 ∧ sb_Fit f ∧ rc_agr x.2 f ∧ rc_H G (rc_opn w a b x.1 x.2.length f) H := by
  obtain ⟨h1, h2, h3, h4, h5, β, hB, hR⟩ := h
  obtain ⟨g1, g2, g3, f, g4, g5, g6⟩ := hB a _ ha
  obtain ⟨r1, r2, r3⟩ := hR a ⟨x, ha⟩
  have hab : a ≠ β a := fun e => by rw [← e, ha] at r2; cases r2
  have key : ∀ (q : Nat) (e : rc_E), (rc_opn w a (β a) x.1 x.2.length f).1 q = some e → (q = a ∧ e = .inl (1, rc_rowF (β a) x.2.length)) ∨ (q = β a ∧ e = .inr (.inl (2, x.1, .inl f))) ∨ (q ≠ a ∧ q ≠ β a ∧ w.1 q = some e) := by
    intro q e he
    unfold rc_opn at he
    by_cases e1 : q = β a
    · subst e1
      simp only [va_up, if_true] at he
      cases he
      exact Or.inr (Or.inl ⟨rfl, rfl⟩)
    · by_cases e2 : q = a
      · subst e2
        simp only [va_up, e1, if_false, if_true] at he
        cases he
        exact Or.inl ⟨rfl, rfl⟩
      · simp only [va_up, e1, e2, if_false] at he
        exact Or.inr (Or.inr ⟨e2, e1, he⟩)
  have rows : ∀ q : Nat, rc_isRow ((rc_opn w a (β a) x.1 x.2.length f).1 q) → q ≠ a ∧ q ≠ β a ∧ rc_isRow (w.1 q) := by
    rintro q ⟨y, hy⟩
    rcases key q _ hy with ⟨-, e⟩ | ⟨-, e⟩ | ⟨e1, e2, e3⟩
    · cases e
    · cases e
    · exact ⟨e1, e2, y, e3⟩
  refine ⟨β a, f, hab, r2, g3, g5, g6, h1, h2, h3, h4, h5, β, fun q e he => ?_, fun q hq => ?_⟩
  · rcases key q e he with ⟨rfl, rfl⟩ | ⟨rfl, rfl⟩ | ⟨-, -, e3⟩
    · exact ⟨g1, (by decide : (1 : Nat) < 8), g2⟩
    · exact ⟨r1, g4⟩
    · exact hB q e e3
  · obtain ⟨q1, q2, q3⟩ := rows q hq
    obtain ⟨s1, s2, s3⟩ := hR q q3
    refine ⟨s1, ?_, fun q' hq' => s3 q' (rows q' hq').2.2⟩
    have e1 : β q ≠ a := fun e => by rw [e, ha] at s2; cases s2
    have e2 : β q ≠ β a := fun e => q1 (s3 a ⟨x, ha⟩ e)
    simp only [rc_opn, va_up, e1, e2, if_false]
    exact s2
theorem rc_opn_op {w : rc_M} {a b cap n : Nat} {f : Nat → Int32} (h : a ≠ b) : rc_Op (rc_opn w a b cap n f) a b cap n f := by
  refine ⟨h, ?_, ?_⟩
  · exact ⟨rc_rowF b n, by simp [rc_opn, va_up, h], rfl, rfl⟩
  · simp [rc_opn, va_up]
/-- fewer cells are known -/
theorem rc_H.less {G : rc_G} {w w' : rc_M} {H : Heap} (h : rc_H G w H) (hz : w'.2 = w.2) (hs : ∀ (a : Nat) (e : rc_E), w'.1 a = some e → w.1 a = some e) : rc_H G w' H := by
  obtain ⟨h1, h2, h3, h4, h5, β, hB, hR⟩ := h
  refine ⟨h1, by rw [hz]; exact h2, by rw [hz]; exact h3, by show _ ≤ w'.2.2.2.1 ∧ _ ≤ w'.2.2.2.2 ∧ _; rw [hz]; exact h4, by rw [hz]; exact h5, β, fun a e he => hB a e (hs a e he), fun a ⟨x, hx⟩ => ?_⟩
  obtain ⟨g1, g2, g3⟩ := hR a ⟨x, hs a _ hx⟩
  refine ⟨g1, ?_, fun a' ⟨x', hx'⟩ => g3 a' ⟨x', hs a' _ hx'⟩⟩
  cases e : w'.1 (β a) with
  | none => rfl
  | some y => rw [hs _ _ e] at g2; cases g2
theorem rc_H.closed {G : rc_G} {w : rc_M} {H : Heap} {a b cap : Nat} {f : Nat → Int32} {bs : List UInt8} (h : rc_H G w H) (ho : rc_Op w a b cap bs.length f) (hl : bs.length ≤ cap) (hf : sb_Fit f) (hg : rc_agr bs f) : rc_H G (va_up (va_up w.1 b none) a (some (.inr (.inr (cap, bs)))), w.2) H := by
  obtain ⟨h1, h2, h3, h4, h5, β, hB, hR⟩ := h
  obtain ⟨hab, ⟨F, ha, hF0, hF1⟩, hb⟩ := ho
  obtain ⟨g1, -, g2⟩ := hB a _ ha
  obtain ⟨r1, g4⟩ := hB b _ hb
  have key : ∀ (q : Nat) (e : rc_E), va_up (va_up w.1 b none) a (some (.inr (.inr (cap, bs)))) q = some e → (q = a ∧ e = .inr (.inr (cap, bs))) ∨ (q ≠ a ∧ q ≠ b ∧ w.1 q = some e) := by
    intro q e he
    by_cases e1 : q = a
    · subst e1
      simp only [va_up, if_true] at he
      cases he
      exact Or.inl ⟨rfl, rfl⟩
    · by_cases e2 : q = b
      · subst e2
        simp only [va_up, e1, if_false, if_true] at he
        cases he
      · simp only [va_up, e1, e2, if_false] at he
        exact Or.inr ⟨e1, e2, he⟩
  have old : ∀ q : Nat, q ≠ a → rc_isRow (w.1 q) → β q ≠ a ∧ β q ≠ b := by
    intro q _ hq
    obtain ⟨-, s2, -⟩ := hR q hq
    refine ⟨fun e => ?_, fun e => ?_⟩
    · rw [e, ha] at s2
      cases s2
    · rw [e, hb] at s2
      cases s2
  refine ⟨h1, h2, h3, h4, h5, va_up β a b, fun q e he => ?_, fun q hq => ?_⟩
  · rcases key q e he with ⟨rfl, rfl⟩ | ⟨e1, e2, e3⟩
    · refine ⟨g1, ?_⟩
      have e0 : va_up β q b q = b := by simp [va_up]
      show t_OB q _ 2 _ H (fun j => if j = 0 then .ref (va_up β q b q) else _) ∧ _ ∧ ∃ f, H[va_up β q b q]? = _ ∧ _
      rw [e0]
      exact ⟨g2.to (fun k hk => by rcases (show k = 0 ∨ k = 1 by change k < 2 at hk; omega) with rfl | rfl <;> simp [hF0, hF1]), hl, f, g4, hf, hg⟩
    · obtain ⟨s1, s2⟩ := hB q e e3
      exact ⟨s1, s2.beta (fun _ => by simp [va_up, e1])⟩
  · obtain ⟨y, hy⟩ := hq
    rcases key q _ hy with ⟨rfl, -⟩ | ⟨e1, e2, e3⟩
    · have e0 : va_up β q b q = b := by simp [va_up]
      rw [e0]
      refine ⟨r1, ?_, fun q' ⟨y', hy'⟩ e => ?_⟩
      · simp [va_up, hab.symm]
      · rcases key q' _ hy' with ⟨rfl, -⟩ | ⟨d1, d2, d3⟩
        · rfl
        · rw [show va_up β q b q' = β q' by simp [va_up, d1]] at e
          exact absurd e.symm (old q' d1 ⟨y', d3⟩).2
    · have e0 : va_up β a b q = β q := by simp [va_up, e1]
      rw [e0]
      obtain ⟨s1, s2, s3⟩ := hR q ⟨y, e3⟩
      obtain ⟨o1, o2⟩ := old q e1 ⟨y, e3⟩
      refine ⟨s1, by simp only [va_up, o1, o2, if_false]; exact s2, fun q' ⟨y', hy'⟩ e => ?_⟩
      rcases key q' _ hy' with ⟨rfl, -⟩ | ⟨d1, d2, d3⟩
      · rw [show va_up β q' b q' = b by simp [va_up]] at e
        exact absurd e o2
      · rw [show va_up β a b q' = β q' by simp [va_up, d1]] at e
        exact s3 q' ⟨y', d3⟩ e
/-- a contract by way of other worlds of the same heap -/
theorem rc_Ct.via {l : Launch} {G : rc_G} {y : MethodName} {cc : ByteArray} {mL : Nat} {ret : Option FieldType} {fr lo : Nat} {av : List Value} {w : rc_M} {v : Option Value} {w' : rc_M}
    (h : ∀ H : Heap, rc_H G w H → ∃ w1 w2 : rc_M, w1.2 = w.2 ∧ rc_H G w1 H ∧ rc_Ct l G y cc mL ret fr lo av w1 v w2 ∧ ∀ H' : Heap, rc_H G w2 H' → rc_H G w' H') : rc_Ct l G y cc mL ret fr lo av w v w' := by
  intro p e ha hc hk s m args below hf happ hP hK
  obtain ⟨hav, hH, hKK, hT⟩ := hP
  obtain ⟨w1, w2, e1, h1, h2, h3⟩ := h s.heap hH
  have er : rc_rm fr lo w1 = rc_rm fr lo w := by simp only [rc_rm, rc_zc, rc_zs, rc_z, rc_tz, e1]
  have h2' := h2 p e ha hc hk s m args below hf (by rw [er]; exact happ) ⟨hav, h1, hKK, hT⟩ trivial
  obtain ⟨n, o, q1, q2, q3, ⟨q4, q5, q6⟩, L, q7, q8⟩ := h2'
  refine ⟨n, o, q1, q2, q3, ⟨q4, h3 _ q5, q6⟩, L, ?_, q8⟩
  have ec : rc_zc w1 - rc_z w1 = rc_zc w - rc_z w := by simp only [rc_zc, rc_z, e1]
  have es : rc_zs w1 - rc_tz w1 = rc_zs w - rc_tz w := by simp only [rc_zs, rc_tz, e1]
  rw [ec, es] at q7
  exact q7
