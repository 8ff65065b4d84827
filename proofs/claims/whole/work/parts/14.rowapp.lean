theorem rc_capN_big {cap m : Nat} (h : ¬ m ≤ cap) : rc_capN cap m = max m (max 16 (2 * cap)) ∧ cap < rc_capN cap m ∧ m ≤ rc_capN cap m := by
  unfold rc_capN
  rw [if_neg h]
  omega
/-- the world behind a growth: one array more -/
def rc_grown (w : rc_M) (c : Nat) : Nat × Nat × Nat × Nat := (w.2.1 + 1, w.2.2.1 + c, w.2.2.2)
def rc_rest (w : rc_M) (cap m : Nat) : Nat × Nat × Nat × Nat := if m ≤ cap then w.2 else rc_grown w (rc_capN cap m)
def rc_may (w : rc_M) (cap m : Nat) : Prop := m ≤ cap ∨ (w.2.1 + 1 ≤ rc_zc w ∧ w.2.2.1 + rc_capN cap m ≤ rc_zs w ∧ rc_capN cap m ≤ 1000000)
/-- room is made for k bytes more -/
theorem p_makeRoom {w : rc_M} {a b cap n k : Nat} {f : Nat → Int32} (h : rc_Op w a b cap n f) (hd : rc_dom w) (hn : n ≤ cap) (hc : cap ≤ 1000000) (hk : k ≤ 1000000) (hf : sb_Fit f) (hm : rc_may w cap (n + k)) :
    ∃ (w' : rc_M) (b' : Nat) (f' : Nat → Int32), f_row_makeRoom w a (nI k) = some w' ∧ rc_Op w' a b' (rc_capN cap (n + k)) n f' ∧ sb_Fit f' ∧ (∀ i, i < n → f' i = f i) ∧ w'.2 = rc_rest w cap (n + k) ∧ (b' = b ∨ b' = w.2.1) ∧ ∀ q, q ≠ a → q ≠ b → q ≠ b' → w'.1 q = w.1 q := by
  have e1 : nI n + nI k = nI (n + k) := nI_add n k
  by_cases hle : n + k ≤ cap
  · refine ⟨w, b, f, ?_, ?_, hf, fun _ _ => rfl, by simp [rc_rest, hle], Or.inl rfl, fun _ _ _ _ => rfl⟩
    · unfold f_row_makeRoom b_row_makeRoom_45
      simp only [h.used, h.bytes, h.len, Option.bind_some, e1]
      rw [if_pos (nI_le hle (by omega))]
    · rw [show rc_capN cap (n + k) = cap by simp [rc_capN, hle]]
      exact h
  · obtain ⟨m1, m2, m3⟩ := hm.resolve_left hle
    obtain ⟨c1, c2, c3⟩ := rc_capN_big hle
    obtain ⟨h0, ⟨F, h1, h2, h3⟩, h4⟩ := id h
    have haz : a ≠ w.2.1 := hd.ne h1
    have hbz : b ≠ w.2.1 := hd.ne h4
    have e2 : (2 : Int32) * nI cap = nI (2 * cap) := pk_mul 2 cap
    have e3 := p_copyOf (w := w) h4 hbz hf c2 m3 ⟨m1, m2⟩
    generalize hC : rc_capN cap (n + k) = c at *
    generalize hW : rc_up (rc_push w (.inr (.inl (2, c, .inl (fun _ => 0)))) c) w.2.1 (.inr (.inl (2, c, .inl (va_cpy f (fun _ => 0) 0 0 cap)))) = W at e3
    have hWa : W.1 a = some (.inl (1, F)) := by rw [← hW]; simp [rc_up, rc_push, va_up, haz, h1]
    have hWz : W.1 w.2.1 = some (.inr (.inl (2, c, .inl (va_cpy f (fun _ => 0) 0 0 cap)))) := by rw [← hW]; simp [rc_up, va_up]
    refine ⟨rc_up W a (.inl (1, updV F 0 (.ref w.2.1))), w.2.1, va_cpy f (fun _ => 0) 0 0 cap, ?_, ⟨haz, ⟨updV F 0 (.ref w.2.1), by simp [rc_up, va_up], by simp [updV], by simp [updV, h3]⟩, ?_⟩, sb_fitC hf sb_fit0, fun i hi => sb_cpy0 (by omega), ?_, Or.inr rfl, fun q q1 q2 q3 => ?_⟩
    · unfold f_row_makeRoom b_row_makeRoom_45
      simp only [h.used, h.bytes, h.len, Option.bind_some, e1]
      rw [if_neg (nI_ge (by omega) (by omega))]
      have e4 : f_mat_max w 16 (2 * nI cap) = some (nI (max 16 (2 * cap)), w) := by rw [e2]; exact rc_max 16 (2 * cap) (by omega) (by omega)
      simp only [e4, Option.bind_some, h.bytes]
      rw [rc_max (n + k) (max 16 (2 * cap)) (by omega) (by omega), ← c1]
      simp only [Option.bind_some, e3]
      simp [rc_pR, rc_pV, hWa, va_rf]
    · simp [rc_up, va_up, haz.symm, hWz]
    · rw [show (rc_up W a (.inl (1, updV F 0 (.ref w.2.1)))).2 = W.2 from rfl, ← hW]
      simp [rc_up, rc_push, rc_rest, hle, rc_grown, hC]
    · rw [← hW]
      simp [rc_up, rc_push, va_up, q1, q3]
/-- bytes behind the bytes of a row -/
def rc_app (w : rc_M) (a : Nat) (l : List UInt8) : Option rc_M := (rc_row w a).bind fun x =>
  if x.2.length + l.length ≤ x.1 then some (rc_setRow w a (x.1, x.2 ++ l))
  else if w.2.1 + 1 ≤ rc_zc w ∧ w.2.2.1 + rc_capN x.1 (x.2.length + l.length) ≤ rc_zs w ∧ rc_capN x.1 (x.2.length + l.length) ≤ 1000000 then some (va_up w.1 a (some (.inr (.inr (rc_capN x.1 (x.2.length + l.length), x.2 ++ l)))), rc_grown w (rc_capN x.1 (x.2.length + l.length)))
  else none
theorem rc_app_spec {w w' : rc_M} {a : Nat} {l : List UInt8} (h : rc_app w a l = some w') : ∃ x : Nat × List UInt8, rc_row w a = some x ∧ rc_may w x.1 (x.2.length + l.length) ∧ w' = (va_up w.1 a (some (.inr (.inr (rc_capN x.1 (x.2.length + l.length), x.2 ++ l)))), rc_rest w x.1 (x.2.length + l.length)) := by
  unfold rc_app at h
  obtain ⟨x, hx, h⟩ := Option.bind_eq_some_iff.mp h
  refine ⟨x, hx, ?_⟩
  split at h
  · rename_i hle
    cases h
    exact ⟨Or.inl hle, by simp [rc_setRow, rc_up, rc_capN, rc_rest, hle]⟩
  · rename_i hle
    split at h
    · rename_i hr
      cases h
      exact ⟨Or.inr hr, by simp [rc_rest, hle]⟩
    · cases h
theorem rc_app_ct {l0 : Launch} {G : rc_G} {y : MethodName} {cc : ByteArray} {mL : Nat} {ret : Option FieldType} {fr lo : Nat} {av : List Value} {w w' : rc_M} {v : Option Value} {a : Nat} {l : List UInt8} (happ : rc_app w a l = some w')
    (hraw : ∀ (x : Nat × List UInt8) (w1 : rc_M) (b : Nat) (f : Nat → Int32), rc_row w a = some x → rc_Op w1 a b x.1 x.2.length f → sb_Fit f → rc_agr x.2 f → x.2.length ≤ x.1 → rc_dom w1 → w1.2 = w.2 → (∀ q, q ≠ a → q ≠ b → w1.1 q = w.1 q) → rc_may w1 x.1 (x.2.length + l.length) →
      ∃ (w2 : rc_M) (b' : Nat) (f' : Nat → Int32), rc_Ct l0 G y cc mL ret fr lo av w1 v w2 ∧ rc_Op w2 a b' (rc_capN x.1 (x.2.length + l.length)) (x.2.length + l.length) f' ∧ sb_Fit f' ∧ rc_agr (x.2 ++ l) f' ∧ w2.2 = rc_rest w1 x.1 (x.2.length + l.length) ∧ (b' = b ∨ b' = w1.2.1) ∧ ∀ q, q ≠ a → q ≠ b → q ≠ b' → w2.1 q = w1.1 q) : rc_Ct l0 G y cc mL ret fr lo av w v w' := by
  obtain ⟨x, hx, hm, rfl⟩ := rc_app_spec happ
  obtain ⟨hr, hcap⟩ := rc_row_spec hx
  refine rc_Ct.via fun H hH => ?_
  obtain ⟨b, f, hab, hb, hlen, hf, hg, hH1⟩ := hH.opened hr
  have hq1 : ∀ q, q ≠ a → q ≠ b → (rc_opn w a b x.1 x.2.length f).1 q = w.1 q := fun q q1 q2 => by simp [rc_opn, va_up, q1, q2]
  obtain ⟨w2, b', f', k1, k2, k3, k4, k5, k6, k7⟩ := hraw x _ b f hx (rc_opn_op hab) hf hg hlen hH1.dom rfl hq1 hm
  refine ⟨rc_opn w a b x.1 x.2.length f, w2, rfl, hH1, k1, fun H' hH' => ?_⟩
  have hle : (x.2 ++ l).length ≤ rc_capN x.1 (x.2.length + l.length) := by
    rw [List.length_append]
    unfold rc_capN
    split <;> omega
  have hc := hH'.closed (bs := x.2 ++ l) (by rw [List.length_append]; exact k2) hle k3 k4
  refine hc.less ?_ (fun q e he => ?_)
  · exact k5.symm
  · by_cases e1 : q = a
    · subst e1
      simp only [va_up, if_true] at he ⊢
      exact he
    · have he' : w.1 q = some e := by simpa [va_up, e1] using he
      have e2 : q ≠ b := fun z => by rw [z, hb] at he'; cases he'
      have e3 : q ≠ b' := by
        rcases k6 with rfl | rfl
        · exact e2
        · exact hH.dom.ne he'
      have : w2.1 q = some e := by rw [k7 q e1 e2 e3, hq1 q e1 e2]; exact he'
      simp [va_up, e1, e3, this]
theorem rc_agr_app {bs : List UInt8} {x : UInt8} {f g : Nat → Int32} (h : rc_agr bs f) (hg : ∀ i, i < bs.length → g i = f i) (hx : g bs.length = rc_sx x) : rc_agr (bs ++ [x]) g := by
  intro i y hy
  by_cases hi : i < bs.length
  · rw [List.getElem?_append_left hi] at hy
    rw [hg i hi]
    exact h i y hy
  · have : i = bs.length := by
      have := (List.getElem?_eq_some_iff.mp hy).1
      simp at this
      omega
    subst this
    simp at hy
    subst hy
    exact hx
theorem rc_fitB (x : Int32) : fits .byte (.int x.toInt8.toInt32) = true := pk_fb x
def g_row_add (w : rc_M) (a : Nat) (x : Int32) : Option rc_M := rc_app w a [rc_lowb x]
theorem rc_b2 (x : Int32) : x.toInt8.toInt32.toInt8.toInt32 = x.toInt8.toInt32 := by simp
theorem cg_row_add {l : Launch} {G : rc_G} {w : rc_M} {a0 : Nat} {x1 : Int32} {res : rc_M} (h : g_row_add w a0 x1 = some res) : rc_Ct l G y_row_add prog_6_method_8_code 2 none 3 71 [va_rf (some a0), .int x1] w none res := by
  refine rc_app_ct h ?_
  intro x w1 b f hx ho hf hg hlen hd hz hq hm
  have hcap := (rc_row_spec hx).2
  obtain ⟨w2, b2, f2, p1, p2, p3, p4, p5, p6, p7⟩ := p_makeRoom (k := 1) ho hd hlen hcap (by omega) hf hm
  have hc2 : rc_capN x.1 (x.2.length + 1) ≤ 1000000 := by
    rcases hm with hm | hm
    · simp only [List.length_singleton] at hm
      unfold rc_capN; rw [if_pos hm]; exact hcap
    · exact hm.2.2
  have hlt : x.2.length < rc_capN x.1 (x.2.length + 1) := by unfold rc_capN; split <;> omega
  obtain ⟨w3, s1, s2, s3⟩ := p2.st (j := nI x.2.length) (v := x1.toInt8.toInt32) x.2.length rfl hlt hc2
  obtain ⟨w4, t1, t2, t3⟩ := s2.put (v := nI x.2.length + 1) (x.2.length + 1) (nI_1 _)
  have hrun : f_row_add w1 a0 x1 = some w4 := by
    unfold f_row_add
    simp only [ho.rc, Option.bind_some, show (1 : Int32) = nI 1 from rfl, p1, p2.bytes, p2.used]
    rw [s1]
    simp only [Option.bind_some, s2.used]
    rw [show nI x.2.length + nI 1 = nI x.2.length + 1 from rfl, t1]
    rfl
  refine ⟨w4, b2, _, ct_row_add hrun, t2, sb_fitU p3 (by rw [rc_b2]; exact pk_fb x1), ?_, ?_, p6, fun q q1 q2 q3 => ?_⟩
  · refine rc_agr_app hg (fun i hi => ?_) ?_
    · rw [pk_un (by omega), p4 i hi]
    · rw [pk_us, rc_sx_low, rc_b2]
  · rw [t3.1, s3.1, p5]; rfl
  · rw [t3.2 q q1 q3, s3.2 q q1 q3, p7 q q1 q2 q3]
