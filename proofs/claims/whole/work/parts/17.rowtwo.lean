theorem rc_rd_ct2 {l0 : Launch} {G : rc_G} {y : MethodName} {cc : ByteArray} {mL : Nat} {ret : Option FieldType} {fr lo : Nat} {av : List Value} {w : rc_M} {v : Option Value} {a : Nat} {x : Nat × List UInt8} (hx : rc_row w a = some x)
    (hraw : ∀ (w1 : rc_M) (b : Nat) (f : Nat → Int32), rc_Op w1 a b x.1 x.2.length f → rc_agr x.2 f → sb_Fit f → x.2.length ≤ x.1 → w.1 b = none → (∀ q, q ≠ a → q ≠ b → w1.1 q = w.1 q) → rc_Ct l0 G y cc mL ret fr lo av w1 v w1) : rc_Ct l0 G y cc mL ret fr lo av w v w := by
  obtain ⟨hr, hcap⟩ := rc_row_spec hx
  refine rc_Ct.via fun H hH => ?_
  obtain ⟨b, f, hab, hb, hlen, hf, hg, hH1⟩ := hH.opened hr
  refine ⟨rc_opn w a b x.1 x.2.length f, rc_opn w a b x.1 x.2.length f, rfl, hH1, hraw _ b f (rc_opn_op hab) hg hf hlen hb (fun q q1 q2 => by simp [rc_opn, va_up, q1, q2]), fun H' hH' => ?_⟩
  refine (hH'.closed (bs := x.2) (rc_opn_op hab) hlen hf hg).less rfl (fun q e he => ?_)
  by_cases e1 : q = a
  · subst e1
    simp only [va_up, if_true]
    rw [hr] at he
    exact he
  · have e2 : q ≠ b := fun z => by rw [z, hb] at he; cases he
    simp [va_up, e1, e2, rc_opn, he]
theorem rc_row_of {w : rc_M} {a : Nat} {x : Nat × List UInt8} (h : w.1 a = some (.inr (.inr x))) (hc : x.1 ≤ 1000000) : rc_row w a = some x := by simp [rc_row, h, hc]
theorem rc_Op.keep {w w1 : rc_M} {a b cap n a' b' : Nat} {f : Nat → Int32} {x : Nat × List UInt8} (h : rc_Op w a b cap n f) (ha' : w.1 a' = some (.inr (.inr x))) (hb' : w.1 b' = none) (hq : ∀ q, q ≠ a' → q ≠ b' → w1.1 q = w.1 q) : rc_Op w1 a b cap n f := by
  obtain ⟨h0, ⟨F, h1, h2, h3⟩, h4⟩ := h
  refine ⟨h0, ⟨F, ?_, h2, h3⟩, ?_⟩
  · rw [hq a (fun e => by rw [e, ha'] at h1; cases h1) (fun e => by rw [e, hb'] at h1; cases h1)]
    exact h1
  · rw [hq b (fun e => by rw [e, ha'] at h4; cases h4) (fun e => by rw [e, hb'] at h4; cases h4)]
    exact h4
/-- two rows are the same stretch -/
def rc_same (xs ys : List UInt8) (s i : Nat) : Prop := ∀ j, i ≤ j → j < xs.length → xs.getD j 0 = ys.getD (s + j) 0
theorem rc_same_drop {xs ys : List UInt8} {s : Nat} (h : s + xs.length ≤ ys.length) : rc_same xs ys s 0 ↔ (ys.drop s).take xs.length = xs := by
  constructor
  · intro q
    apply List.ext_getElem?
    intro i
    rw [List.getElem?_take]
    split
    · rename_i hi
      have := q i (Nat.zero_le i) hi
      rw [List.getElem?_drop, List.getElem?_eq_getElem hi, List.getElem?_eq_getElem (show s + i < ys.length by omega)]
      simp only [List.getD, List.getElem?_eq_getElem hi, List.getElem?_eq_getElem (show s + i < ys.length by omega), Option.getD_some] at this
      rw [this]
    · rename_i hi
      rw [List.getElem?_eq_none (by omega)]
  · intro q j _ hj
    have e : xs[j]? = ((ys.drop s).take xs.length)[j]? := by rw [q]
    rw [List.getElem?_take, if_pos hj, List.getElem?_drop] at e
    simp [List.getD, e]
theorem rc_u_inj {b c : UInt8} (h : rc_u b = rc_u c) : b = c := by
  have h1 := b.toNat_lt
  have h2 := c.toNat_lt
  have := (nI_eq (show b.toNat < 2 ^ 31 by omega) (show c.toNat < 2 ^ 31 by omega)).mp h
  exact UInt8.toNat_inj.mp this
theorem rc_atR_in {bs : List UInt8} {i : Nat} (h : i < bs.length) (hb : bs.length ≤ 1000000) : rc_atR bs (nI i) = rc_u (bs.getD i 0) := by
  unfold rc_atR
  rw [if_neg (nI_pos (by omega)), if_neg (nI_ge h (by omega)), nI_clamp (by omega)]
def rc_partR (xs ys : List UInt8) (s : Nat) : Int32 := if (ys.drop s).take xs.length = xs then 1 else 0
def g_row_isPart (w : rc_M) (a : Nat) (r : Option Nat) (s m : Int32) : Option (Int32 × rc_M) := r.bind fun a' => (rc_row w a).bind fun x => (rc_row w a').bind fun y =>
  if a = a' then none else if m = nI x.2.length then (if s < 0 ∨ y.2.length < s.toNatClampNeg + x.2.length ∨ 5000 ≤ x.2.length then none else some (rc_partR x.2 y.2 s.toNatClampNeg, w)) else some (0, w)
theorem p_isPart {w : rc_M} {a a' b b' : Nat} {x y : Nat × List UInt8} {f f' : Nat → Int32} (ho : rc_Op w a b x.1 x.2.length f) (hg : rc_agr x.2 f) (hl : x.2.length ≤ x.1) (hcap : x.1 ≤ 1000000) (ho' : rc_Op w a' b' y.1 y.2.length f') (hg' : rc_agr y.2 f') (hl' : y.2.length ≤ y.1) (hcap' : y.1 ≤ 1000000) {s : Nat} (hs : s + x.2.length ≤ y.2.length):
    ∀ (fuel i : Nat) (v : Int32), i ≤ x.2.length → x.2.length - i < fuel → (rc_same x.2 y.2 s i → v = 1) → (¬ rc_same x.2 y.2 s i → v = 0) → b_row_isPart_13 fuel w a (some a') (nI s) (nI x.2.length) (nI i) = some (v, w) := by
  intro fuel
  induction fuel with
  | zero => intro i v _ h; omega
  | succ fuel ih =>
    intro i v hi hf hv1 hv0
    unfold b_row_isPart_13
    by_cases c : i = x.2.length
    · subst c
      rw [if_pos (nI_le (Nat.le_refl _) (by omega)), hv1 (fun j h1 h2 => by omega)]
      rfl
    · rw [if_neg (nI_ge (by omega) (by omega))]
      simp only [ho.rc, Option.bind_some, p_at ho hg hl hcap, ho'.rc, nI_add, p_at ho' hg' hl' hcap', nI_1]
      rw [rc_atR_in (show i < x.2.length by omega) (by omega), rc_atR_in (show s + i < y.2.length by omega) (by omega)]
      by_cases e : rc_u (x.2.getD i 0) = rc_u (y.2.getD (s + i) 0)
      · have hiff : rc_same x.2 y.2 s (i + 1) ↔ rc_same x.2 y.2 s i := by
          constructor
          · intro q j h1 h2
            by_cases z : j = i
            · subst z
              exact rc_u_inj e
            · exact q j (by omega) h2
          · exact fun q j h1 h2 => q j (by omega) h2
        rw [if_pos e]
        exact ih (i + 1) v (by omega) (by omega) (fun q => hv1 (hiff.mp q)) (fun q => hv0 (fun z => q (hiff.mpr z)))
      · rw [if_neg e, hv0 (fun q => e (by rw [q i (Nat.le_refl i) (by omega)]))]
        rfl
theorem cg_row_isPart {l : Launch} {G : rc_G} {w : rc_M} {a0 : Nat} {r1 : Option Nat} {x2 x3 : Int32} {res : Int32 × rc_M} (h : g_row_isPart w a0 r1 x2 x3 = some res) : rc_Ct l G y_row_isPart prog_6_method_14_code 5 (some .boolean) 1 21 [va_rf (some a0), va_rf r1, .int x2, .int x3] w (some (.int res.1)) res.2 := by
  unfold g_row_isPart at h
  obtain ⟨a', hr, h1⟩ := Option.bind_eq_some_iff.mp h
  clear h
  subst hr
  obtain ⟨x, hx, h2⟩ := Option.bind_eq_some_iff.mp h1
  obtain ⟨y, hy, h⟩ := Option.bind_eq_some_iff.mp h2
  obtain ⟨hxr, hxc⟩ := rc_row_spec hx
  obtain ⟨hyr, hyc⟩ := rc_row_spec hy
  by_cases e0 : a0 = a'
  · rw [if_pos e0] at h; cases h
  rw [if_neg e0] at h
  by_cases c : x3 = nI x.2.length
  · rw [if_pos c] at h
    by_cases c2 : x2 < 0 ∨ y.2.length < x2.toNatClampNeg + x.2.length ∨ 5000 ≤ x.2.length
    · rw [if_pos c2] at h; cases h
    · rw [if_neg c2] at h
      cases h
      simp only [not_or] at c2
      obtain ⟨j, hj, rfl⟩ := nI_of c2.1
      subst c
      rw [nI_clamp hj] at c2 ⊢
      refine rc_rd_ct2 hx fun w1 b f ho hg hf hl hb hq => ?_
      have hy1 : w1.1 a' = some (.inr (.inr y)) := by rw [hq a' (Ne.symm e0) (fun z => by rw [z, hb] at hyr; cases hyr)]; exact hyr
      refine rc_rd_ct2 (rc_row_of hy1 hyc) fun w2 b' f' ho' hg' hf' hl' hb' hq' => ?_
      have ho2 := ho.keep hy1 hb' hq'
      refine ct_row_isPart (res := (rc_partR x.2 y.2 j, w2)) ?_
      unfold f_row_isPart
      simp only [ho2.used, Option.bind_some, if_true]
      refine p_isPart ho2 hg hl hxc ho' hg' hl' hyc (s := j) (by omega) 5000 0 _ (Nat.zero_le _) (by omega) (fun q => ?_) (fun q => ?_)
      · unfold rc_partR
        rw [if_pos ((rc_same_drop (by omega)).mp q)]
      · unfold rc_partR
        rw [if_neg (fun z => q ((rc_same_drop (by omega)).mpr z))]
  · rw [if_neg c] at h
    cases h
    refine rc_rd_ct hx fun w1 b f ho hg hl => ct_row_isPart (res := (0, w1)) ?_
    unfold f_row_isPart
    simp only [ho.used, Option.bind_some, c, if_false]
    rfl
