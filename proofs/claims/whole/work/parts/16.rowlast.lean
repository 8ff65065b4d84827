theorem rc_subI {m : Nat} {x : Int32} (hm : m ≤ 2 ^ 30) (hx : ¬ x < 0) : (nI m - x).toInt = (m : Int) - x.toInt := by
  obtain ⟨j, hj, rfl⟩ := nI_of hx
  rw [Int32.toInt_sub, nI_toInt (by omega), nI_toInt hj]
  exact Int.bmod_eq_of_le (by omega) (by omega)
/-- the word of four bytes -/
def rc_w4 (b0 b1 b2 b3 : UInt8) : Int32 := (((rc_u b0 <<< ((24 : Int32) &&& 31)) ||| (rc_u b1 <<< ((16 : Int32) &&& 31))) ||| (rc_u b2 <<< ((8 : Int32) &&& 31))) ||| rc_u b3
def rc_wd (bs : List UInt8) (i : Nat) : Int32 := rc_w4 (bs.getD i 0) (bs.getD (i + 1) 0) (bs.getD (i + 2) 0) (bs.getD (i + 3) 0)
def rc_wdR (bs : List UInt8) (i : Int32) : Int32 := if i < 0 then 0 else if bs.length < i.toNatClampNeg + 4 then 0 else rc_wd bs i.toNatClampNeg
def g_row_wordAt (w : rc_M) (a : Nat) (i : Int32) : Option (Int32 × rc_M) := (rc_row w a).bind fun x => some (rc_wdR x.2 i, w)
theorem p_wordAt {w : rc_M} {a b : Nat} {x : Nat × List UInt8} {f : Nat → Int32} (ho : rc_Op w a b x.1 x.2.length f) (hg : rc_agr x.2 f) (hl : x.2.length ≤ x.1) (hcap : x.1 ≤ 1000000) (i : Int32) : f_row_wordAt w a i = some (rc_wdR x.2 i, w) := by
  unfold f_row_wordAt b_row_wordAt_14 rc_wdR
  by_cases c1 : i < 0
  · simp [c1]
  · simp only [c1, if_false, ho.used, Option.bind_some]
    obtain ⟨j, hj, rfl⟩ := nI_of c1
    rw [nI_clamp hj]
    have hiff : nI j ≤ nI x.2.length - 4 ↔ ¬ x.2.length < j + 4 := by
      rw [Int32.le_iff_toInt_le, nI_toInt hj, rc_subI (by omega) (by decide), show (4 : Int32).toInt = 4 from by decide]
      omega
    by_cases c2 : x.2.length < j + 4
    · rw [if_neg (fun q => hiff.mp q c2), if_pos c2]
    · rw [if_pos (hiff.mpr c2), if_neg c2]
      simp only [ho.bytes, Option.bind_some]
      rw [ho.ld (show j < x.1 by omega) hcap]
      simp only [Option.bind_some]
      rw [show nI j + 1 = nI (j + 1) from nI_add j 1, ho.ld (show j + 1 < x.1 by omega) hcap]
      simp only [Option.bind_some]
      rw [show nI j + 2 = nI (j + 2) from nI_add j 2, ho.ld (show j + 2 < x.1 by omega) hcap]
      simp only [Option.bind_some]
      rw [show nI j + 3 = nI (j + 3) from nI_add j 3, ho.ld (show j + 3 < x.1 by omega) hcap]
      simp only [Option.bind_some]
      rw [rc_agr_get hg (show j < x.2.length by omega), rc_agr_get hg (show j + 1 < x.2.length by omega), rc_agr_get hg (show j + 2 < x.2.length by omega), rc_agr_get hg (show j + 3 < x.2.length by omega)]
      rfl
theorem cg_row_wordAt {l : Launch} {G : rc_G} {w : rc_M} {a0 : Nat} {x1 : Int32} {res : Int32 × rc_M} (h : g_row_wordAt w a0 x1 = some res) : rc_Ct l G y_row_wordAt prog_6_method_6_code 2 (some .int) 0 0 [va_rf (some a0), .int x1] w (some (.int res.1)) res.2 := by
  obtain ⟨x, hx, h⟩ := Option.bind_eq_some_iff.mp h
  cases h
  exact rc_rd_ct hx fun w1 b f ho hg hl => ct_row_wordAt (res := (rc_wdR x.2 x1, w1)) (p_wordAt ho hg hl (rc_row_spec hx).2 x1)
/-- a row is shorter -/
theorem rc_cut_ct {l0 : Launch} {G : rc_G} {y : MethodName} {cc : ByteArray} {mL : Nat} {ret : Option FieldType} {fr lo : Nat} {av : List Value} {w : rc_M} {v : Option Value} {a : Nat} {x : Nat × List UInt8} (m : Nat) (hx : rc_row w a = some x) (hm : m ≤ x.2.length)
    (hraw : ∀ (w1 : rc_M) (b : Nat) (f : Nat → Int32), rc_Op w1 a b x.1 x.2.length f → ∃ w2, rc_Ct l0 G y cc mL ret fr lo av w1 v w2 ∧ rc_Op w2 a b x.1 m f ∧ rc_but a b w1 w2) : rc_Ct l0 G y cc mL ret fr lo av w v (rc_setRow w a (x.1, x.2.take m)) := by
  obtain ⟨hr, hcap⟩ := rc_row_spec hx
  refine rc_Ct.via fun H hH => ?_
  obtain ⟨b, f, hab, hb, hlen, hf, hg, hH1⟩ := hH.opened hr
  obtain ⟨w2, k1, k2, k3⟩ := hraw _ b f (rc_opn_op hab)
  refine ⟨rc_opn w a b x.1 x.2.length f, w2, rfl, hH1, k1, fun H' hH' => ?_⟩
  have hlm : (x.2.take m).length = m := by rw [List.length_take]; omega
  refine (hH'.closed (bs := x.2.take m) (by rw [hlm]; exact k2) (by omega) hf (fun i z hz => ?_)).less ?_ (fun q e he => ?_)
  · rw [List.getElem?_take] at hz
    split at hz
    · exact hg i z hz
    · cases hz
  · show w.2 = w2.2
    rw [k3.1]
    rfl
  · by_cases e1 : q = a
    · subst e1
      simp only [rc_setRow, rc_up, va_up, if_true] at he ⊢
      exact he
    · have he' : w.1 q = some e := by simpa [rc_setRow, rc_up, va_up, e1] using he
      have e2 : q ≠ b := fun z => by rw [z, hb] at he'; cases he'
      have : w2.1 q = some e := by rw [k3.2 q e1 e2]; simp [rc_opn, va_up, e1, e2, he']
      simp [va_up, e1, e2, this]
def g_row_clear (w : rc_M) (a : Nat) : Option rc_M := (rc_row w a).bind fun x => some (rc_setRow w a (x.1, []))
theorem cg_row_clear {l : Launch} {G : rc_G} {w : rc_M} {a0 : Nat} {res : rc_M} (h : g_row_clear w a0 = some res) : rc_Ct l G y_row_clear prog_6_method_3_code 1 none 0 0 [va_rf (some a0)] w none res := by
  obtain ⟨x, hx, h⟩ := Option.bind_eq_some_iff.mp h
  cases h
  have := rc_cut_ct (l0 := l) (G := G) (y := y_row_clear) (cc := prog_6_method_3_code) (mL := 1) (ret := none) (fr := 0) (lo := 0) (av := [va_rf (some a0)]) (v := none) 0 hx (Nat.zero_le _) (fun w1 b f ho => by
    obtain ⟨w2, s1, s2, s3⟩ := ho.put (v := 0) 0 rfl
    exact ⟨w2, ct_row_clear (by unfold f_row_clear; rw [s1]; rfl), s2, s3⟩)
  simpa using this
def g_row_cutTo (w : rc_M) (a : Nat) (m : Int32) : Option rc_M := (rc_row w a).bind fun x => if m < 0 then some w else if nI x.2.length ≤ m then some w else some (rc_setRow w a (x.1, x.2.take m.toNatClampNeg))
theorem cg_row_cutTo {l : Launch} {G : rc_G} {w : rc_M} {a0 : Nat} {x1 : Int32} {res : rc_M} (h : g_row_cutTo w a0 x1 = some res) : rc_Ct l G y_row_cutTo prog_6_method_4_code 2 none 0 0 [va_rf (some a0), .int x1] w none res := by
  obtain ⟨x, hx, h⟩ := Option.bind_eq_some_iff.mp h
  by_cases c1 : x1 < 0
  · rw [if_pos c1] at h
    cases h
    exact rc_rd_ct hx fun w1 b f ho hg hl => ct_row_cutTo (by unfold f_row_cutTo b_row_cutTo_17; rw [if_pos c1])
  · rw [if_neg c1] at h
    by_cases c2 : nI x.2.length ≤ x1
    · rw [if_pos c2] at h
      cases h
      exact rc_rd_ct hx fun w1 b f ho hg hl => ct_row_cutTo (by unfold f_row_cutTo b_row_cutTo_17; rw [if_neg c1, ho.used]; simp only [Option.bind_some]; rw [if_pos c2])
    · rw [if_neg c2] at h
      cases h
      obtain ⟨j, hj, rfl⟩ := nI_of c1
      rw [nI_clamp hj]
      have hlt : j < x.2.length := by
        apply Nat.lt_of_not_le
        intro q
        exact c2 (nI_le q hj)
      exact rc_cut_ct j hx (by omega) (fun w1 b f ho => by
        obtain ⟨w2, s1, s2, s3⟩ := ho.put (v := nI j) j rfl
        exact ⟨w2, ct_row_cutTo (by unfold f_row_cutTo b_row_cutTo_17; rw [if_neg c1, ho.used]; simp only [Option.bind_some]; rw [if_neg c2, s1]; rfl), s2, s3⟩)
/-- a new row -/
def g_row_init (w : rc_M) (a : Nat) : Option rc_M := match w.1 a with
  | some (.inl (1, _)) => if w.2.1 + 1 ≤ rc_zc w ∧ w.2.2.1 ≤ rc_zs w ∧ a ≠ w.2.1 then some (va_up w.1 a (some (.inr (.inr (0, [])))), w.2.1 + 1, w.2.2.1, w.2.2.2) else none
  | _ => none
theorem cg_row_init {l : Launch} {G : rc_G} {w : rc_M} {a0 : Nat} {res : rc_M} (h : g_row_init w a0 = some res) : rc_Ct l G y_row_init prog_6_method_1_code 1 none 1 20 [va_rf (some a0)] w none res := by
  unfold g_row_init at h
  split at h
  · rename_i F hF
    split at h
    · rename_i hr
      cases h
      obtain ⟨r1, r2, r3⟩ := hr
      have e2 : rc_newA w 2 0 = some (w.2.1, rc_push w (.inr (.inl (2, 0, .inl (fun _ => 0)))) 0) := by
        unfold rc_newA
        rw [if_neg (by decide), show (0 : Int32).toNatClampNeg = 0 from rfl, if_pos ⟨r1, r2, by decide⟩]
        rfl
      refine rc_Ct.via fun H hH => ?_
      generalize hP : rc_push w (.inr (.inl (2, 0, .inl (fun _ => 0)))) 0 = P at e2
      have hPa : P.1 a0 = some (.inl (1, F)) := by rw [← hP]; simp [rc_push, va_up, r3, hF]
      have hPz : P.1 w.2.1 = some (.inr (.inl (2, 0, .inl (fun _ => 0)))) := by rw [← hP]; simp [rc_push, va_up]
      have hrun : f_row_init w a0 = some (rc_up (rc_up P a0 (.inl (1, updV F 0 (.ref w.2.1)))) a0 (.inl (1, updV (updV F 0 (.ref w.2.1)) 1 (.int 0)))) := by
        unfold f_row_init
        simp only [e2, Option.bind_some]
        simp [rc_pR, rc_pI, rc_pV, hPa, rc_up, va_up, va_rf]
      refine ⟨w, _, rfl, hH, ct_row_init hrun, fun H' hH' => ?_⟩
      refine (hH'.closed (a := a0) (b := w.2.1) (cap := 0) (f := fun _ => 0) (bs := []) ⟨r3, ⟨updV (updV F 0 (.ref w.2.1)) 1 (.int 0), by simp [rc_up, va_up], by simp [updV], by simp [updV, nI_0]⟩, by simp [rc_up, va_up, r3.symm, hPz]⟩ (Nat.le_refl 0) sb_fit0 (fun i z hz => by simp at hz)).less ?_ (fun q e he => ?_)
      · rw [← hP]; rfl
      · by_cases e1 : q = a0
        · subst e1
          simp only [va_up, if_true] at he ⊢
          exact he
        · have he' : w.1 q = some e := by simpa [va_up, e1] using he
          have e3 : q ≠ w.2.1 := hH.dom.ne he'
          rw [← hP]
          simp [va_up, e1, e3, rc_up, rc_push, he']
    · cases h
  · cases h
