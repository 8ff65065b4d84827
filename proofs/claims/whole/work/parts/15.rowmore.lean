theorem rc_agr_snoc {bs l : List UInt8} {f g : Nat → Int32} (h : rc_agr bs f) (hg : ∀ i, i < bs.length → g i = f i) (hx : ∀ (i : Nat) (x : UInt8), l[i]? = some x → g (bs.length + i) = rc_sx x) : rc_agr (bs ++ l) g := by
  intro i y hy
  by_cases hi : i < bs.length
  · rw [List.getElem?_append_left hi] at hy
    rw [hg i hi]
    exact h i y hy
  · rw [List.getElem?_append_right (by omega)] at hy
    have := hx _ _ hy
    rwa [show bs.length + (i - bs.length) = i by omega] at this
def rc_sh (x : Int32) (k : Int32) : Int32 := (x.toUInt32 >>> (k.toUInt32 &&& Int32.toUInt32 31)).toInt32
/-- the four bytes of a word -/
def rc_bw (x : Int32) : List UInt8 := [rc_lowb (rc_sh x 24), rc_lowb (rc_sh x 16), rc_lowb (rc_sh x 8), rc_lowb x]
def g_row_addWord (w : rc_M) (a : Nat) (x : Int32) : Option rc_M := rc_app w a (rc_bw x)
theorem cg_row_addWord {l : Launch} {G : rc_G} {w : rc_M} {a0 : Nat} {x1 : Int32} {res : rc_M} (h : g_row_addWord w a0 x1 = some res) : rc_Ct l G y_row_addWord prog_6_method_9_code 2 none 3 71 [va_rf (some a0), .int x1] w none res := by
  refine rc_app_ct h ?_
  intro x w1 b f hx ho hf hg hlen hd hz hq hm
  have hcap := (rc_row_spec hx).2
  have hL : (rc_bw x1).length = 4 := rfl
  rw [hL] at hm ⊢
  obtain ⟨w2, b2, f2, p1, p2, p3, p4, p5, p6, p7⟩ := p_makeRoom (k := 4) ho hd hlen hcap (by omega) hf hm
  generalize hn : x.2.length = n at *
  have hc2 : rc_capN x.1 (n + 4) ≤ 1000000 := by
    rcases hm with hm | hm
    · unfold rc_capN; rw [if_pos hm]; exact hcap
    · exact hm.2.2
  have hlt : n + 4 ≤ rc_capN x.1 (n + 4) := by unfold rc_capN; split <;> omega
  obtain ⟨w3, s1, s2, s3⟩ := p2.st (j := nI n) (v := (rc_sh x1 24).toInt8.toInt32) n rfl (by omega) hc2
  obtain ⟨w4, t1, t2, t3⟩ := s2.st (j := nI n + 1) (v := (rc_sh x1 16).toInt8.toInt32) (n + 1) (nI_add n 1) (by omega) hc2
  obtain ⟨w5, u1, u2, u3⟩ := t2.st (j := nI n + 2) (v := (rc_sh x1 8).toInt8.toInt32) (n + 2) (nI_add n 2) (by omega) hc2
  obtain ⟨w6, v1, v2, v3⟩ := u2.st (j := nI n + 3) (v := x1.toInt8.toInt32) (n + 3) (nI_add n 3) (by omega) hc2
  obtain ⟨w7, z1, z2, z3⟩ := v2.put (v := nI n + 4) (n + 4) (nI_add n 4)
  have hrun : f_row_addWord w1 a0 x1 = some w7 := by
    unfold f_row_addWord
    simp only [rc_sh] at s1 t1 u1
    simp only [ho.rc, Option.bind_some]
    rw [show f_row_makeRoom w1 a0 4 = some w2 from p1]
    simp only [Option.bind_some, p2.bytes, p2.used]
    rw [s1]
    simp only [Option.bind_some, s2.bytes, s2.used]
    rw [t1]
    simp only [Option.bind_some, t2.bytes, t2.used]
    rw [u1]
    simp only [Option.bind_some, u2.bytes, u2.used]
    rw [v1]
    simp only [Option.bind_some, v2.used]
    rw [z1]
    rfl
  refine ⟨w7, b2, _, ct_row_addWord hrun, z2, ?_, ?_, ?_, p6, fun q q1 q2 q3 => ?_⟩
  · exact sb_fitU (sb_fitU (sb_fitU (sb_fitU p3 (by rw [rc_b2]; exact pk_fb _)) (by rw [rc_b2]; exact pk_fb _)) (by rw [rc_b2]; exact pk_fb _)) (by rw [rc_b2]; exact pk_fb _)
  · refine rc_agr_snoc hg (fun i hi => ?_) (fun i y hy => ?_)
    · rw [hn] at hi
      rw [pk_un (by omega), pk_un (by omega), pk_un (by omega), pk_un (by omega), p4 i hi]
    · rw [hn]
      unfold rc_bw at hy
      rcases i with _ | _ | _ | _ | i
      · simp at hy; subst hy
        rw [pk_un (by omega), pk_un (by omega), pk_un (by omega), Nat.add_zero, pk_us, rc_b2, rc_sx_low]
      · simp at hy; subst hy
        rw [pk_un (by omega), pk_un (by omega), pk_us, rc_b2, rc_sx_low]
      · simp at hy; subst hy
        rw [pk_un (by omega), pk_us, rc_b2, rc_sx_low]
      · simp at hy; subst hy
        rw [pk_us, rc_b2, rc_sx_low]
      · simp at hy
  · rw [z3.1, v3.1, u3.1, t3.1, s3.1, p5]
  · rw [z3.2 q q1 q3, v3.2 q q1 q3, u3.2 q q1 q3, t3.2 q q1 q3, s3.2 q q1 q3, p7 q q1 q2 q3]
/-- reading a row: the world stays -/
theorem rc_rd_ct {l0 : Launch} {G : rc_G} {y : MethodName} {cc : ByteArray} {mL : Nat} {ret : Option FieldType} {fr lo : Nat} {av : List Value} {w : rc_M} {v : Option Value} {a : Nat} {x : Nat × List UInt8} (hx : rc_row w a = some x)
    (hraw : ∀ (w1 : rc_M) (b : Nat) (f : Nat → Int32), rc_Op w1 a b x.1 x.2.length f → rc_agr x.2 f → x.2.length ≤ x.1 → rc_Ct l0 G y cc mL ret fr lo av w1 v w1) : rc_Ct l0 G y cc mL ret fr lo av w v w := by
  obtain ⟨hr, hcap⟩ := rc_row_spec hx
  refine rc_Ct.via fun H hH => ?_
  obtain ⟨b, f, hab, hb, hlen, hf, hg, hH1⟩ := hH.opened hr
  refine ⟨rc_opn w a b x.1 x.2.length f, rc_opn w a b x.1 x.2.length f, rfl, hH1, hraw _ b f (rc_opn_op hab) hg hlen, fun H' hH' => ?_⟩
  refine (hH'.closed (bs := x.2) (rc_opn_op hab) hlen hf hg).less rfl (fun q e he => ?_)
  by_cases e1 : q = a
  · subst e1
    simp only [va_up, if_true]
    rw [hr] at he
    exact he
  · have e2 : q ≠ b := fun z => by rw [z, hb] at he; cases he
    simp [va_up, e1, e2, rc_opn, he]
def g_row_size (w : rc_M) (a : Nat) : Option (Int32 × rc_M) := (rc_row w a).bind fun x => some (nI x.2.length, w)
theorem cg_row_size {l : Launch} {G : rc_G} {w : rc_M} {a0 : Nat} {res : Int32 × rc_M} (h : g_row_size w a0 = some res) : rc_Ct l G y_row_size prog_6_method_2_code 1 (some .int) 0 0 [va_rf (some a0)] w (some (.int res.1)) res.2 := by
  obtain ⟨x, hx, h⟩ := Option.bind_eq_some_iff.mp h
  cases h
  refine rc_rd_ct hx fun w1 b f ho hg hl => ct_row_size (res := (nI x.2.length, w1)) ?_
  unfold f_row_size
  simp [ho.used]
theorem rc_agr_get {bs : List UInt8} {f : Nat → Int32} (h : rc_agr bs f) {i : Nat} (hi : i < bs.length) : f i &&& 255 = rc_u (bs.getD i 0) := by
  have e : bs[i]? = some (bs.getD i 0) := by simp [List.getD, hi]
  rw [h i _ e, rc_u_sx]
def rc_atR (bs : List UInt8) (i : Int32) : Int32 := if i < 0 then 0 else if nI bs.length ≤ i then 0 else rc_u (bs.getD i.toNatClampNeg 0)
def g_row_at (w : rc_M) (a : Nat) (i : Int32) : Option (Int32 × rc_M) := (rc_row w a).bind fun x => some (rc_atR x.2 i, w)
theorem p_at {w : rc_M} {a b : Nat} {x : Nat × List UInt8} {f : Nat → Int32} (ho : rc_Op w a b x.1 x.2.length f) (hg : rc_agr x.2 f) (hl : x.2.length ≤ x.1) (hcap : x.1 ≤ 1000000) (i : Int32) : f_row_at w a i = some (rc_atR x.2 i, w) := by
  unfold f_row_at b_row_at_25 b_row_at_26 rc_atR
  by_cases c1 : i < 0
  · simp [c1]
  · simp only [c1, if_false, ho.used, Option.bind_some]
    by_cases c2 : nI x.2.length ≤ i
    · simp [c2]
    · simp only [c2, if_false, ho.bytes, Option.bind_some]
      obtain ⟨j, hj, rfl⟩ := nI_of c1
      have hlt : j < x.2.length := by
        apply Nat.lt_of_not_le
        intro q
        exact c2 (nI_le q hj)
      rw [ho.ld (by omega) hcap]
      simp only [Option.bind_some, nI_clamp hj, rc_agr_get hg hlt]
theorem cg_row_at {l : Launch} {G : rc_G} {w : rc_M} {a0 : Nat} {x1 : Int32} {res : Int32 × rc_M} (h : g_row_at w a0 x1 = some res) : rc_Ct l G y_row_at prog_6_method_5_code 2 (some .int) 0 0 [va_rf (some a0), .int x1] w (some (.int res.1)) res.2 := by
  obtain ⟨x, hx, h⟩ := Option.bind_eq_some_iff.mp h
  cases h
  exact rc_rd_ct hx fun w1 b f ho hg hl => ct_row_at (res := (rc_atR x.2 x1, w1)) (p_at ho hg hl (rc_row_spec hx).2 x1)
