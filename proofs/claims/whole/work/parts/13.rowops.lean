section RCO
variable {w : rc_M} {a b cap n : Nat} {f : Nat → Int32}
theorem rc_Op.used (h : rc_Op w a b cap n f) : rc_gI w (some a) 1 1 = some (nI n) := by
  obtain ⟨-, ⟨F, h1, h2, h3⟩, -⟩ := h
  simp [rc_gI, rc_gV, h1, h3]
theorem rc_Op.bytes (h : rc_Op w a b cap n f) : rc_gR w (some a) 1 0 = some (some b) := by
  obtain ⟨-, ⟨F, h1, h2, h3⟩, -⟩ := h
  simp [rc_gR, rc_gV, h1, h2]
theorem rc_Op.rc (h : rc_Op w a b cap n f) : rc_rc w (some a) 1 = some a := by
  obtain ⟨-, ⟨F, h1, h2, h3⟩, -⟩ := h
  simp [rc_rc, rc_isC, h1]
theorem rc_Op.ld (h : rc_Op w a b cap n f) {i : Nat} (hi : i < cap) (hc : cap ≤ 1000000) : rc_aI w (some b) 2 (nI i) = some (f i) := by
  simp [rc_aI, rc_gA, h.2.2, nI_clamp (show i < 2 ^ 31 by omega), nI_pos (show i < 2 ^ 31 by omega)]
  omega
theorem rc_Op.len (h : rc_Op w a b cap n f) : rc_ln w (some b) 2 = some (nI cap) := by simp [rc_ln, rc_gA, h.2.2, nI]
/-- the same but for one object and one array -/
def rc_but (a b : Nat) (w w' : rc_M) : Prop := w'.2 = w.2 ∧ ∀ q, q ≠ a → q ≠ b → w'.1 q = w.1 q
theorem rc_but.rf {a b : Nat} {w : rc_M} : rc_but a b w w := ⟨rfl, fun _ _ _ => rfl⟩
theorem rc_but.tr {a b : Nat} {w w1 w2 : rc_M} (h1 : rc_but a b w w1) (h2 : rc_but a b w1 w2) : rc_but a b w w2 := ⟨h2.1.trans h1.1, fun q q1 q2 => (h2.2 q q1 q2).trans (h1.2 q q1 q2)⟩
theorem rc_Op.put (h : rc_Op w a b cap n f) {v : Int32} (x : Nat) (hv : v = nI x) : ∃ w' : rc_M, rc_pI w (some a) 1 1 v = some w' ∧ rc_Op w' a b cap x f ∧ rc_but a b w w' := by
  subst hv
  obtain ⟨h0, ⟨F, h1, h2, h3⟩, h4⟩ := h
  refine ⟨rc_up w a (.inl (1, updV F 1 (.int (nI x)))), ?_, ⟨h0, ⟨updV F 1 (.int (nI x)), by simp [rc_up, va_up], by simp [updV, h2], by simp [updV]⟩, ?_⟩, rfl, fun q hq _ => ?_⟩
  · simp [rc_pI, rc_pV, h1]
  · simp [rc_up, va_up, h0.symm, h4]
  · simp [rc_up, va_up, hq]
theorem rc_Op.st (h : rc_Op w a b cap n f) {j v : Int32} (i : Nat) (hj : j = nI i) (hi : i < cap) (hc : cap ≤ 1000000) : ∃ w' : rc_M, rc_sI w (some b) 2 j v = some w' ∧ rc_Op w' a b cap n (upd f i (v.toInt8.toInt32)) ∧ rc_but a b w w' := by
  subst hj
  obtain ⟨h0, ⟨F, h1, h2, h3⟩, h4⟩ := h
  refine ⟨rc_up w b (.inr (.inl (2, cap, .inl (upd f i (v.toInt8.toInt32))))), ?_, ⟨h0, ⟨F, by simp [rc_up, va_up, h0, h1], h2, h3⟩, by simp [rc_up, va_up]⟩, rfl, fun q _ hq => ?_⟩
  · have e : ¬ (nI i < 0 ∨ cap ≤ i) := by
      rintro (q | q)
      · exact nI_pos (by omega) q
      · omega
    simp [rc_sI, rc_gA, h4, nI_clamp (show i < 2 ^ 31 by omega), e, rc_nar, vp_nar_byte]
  · simp [rc_up, va_up, hq]
end RCO
/-- how far a row's capacity grows -/
def rc_capN (cap m : Nat) : Nat := if m ≤ cap then cap else max m (max 16 (2 * cap))
theorem rc_max {w : rc_M} (x y : Nat) (hx : x < 2 ^ 31) (hy : y < 2 ^ 31) : f_mat_max w (nI x) (nI y) = some (nI (max x y), w) := by
  unfold f_mat_max b_mat_max_10
  by_cases h : x < y
  · rw [if_pos ((nI_ltI hx hy).mpr h), Nat.max_eq_right (by omega)]
  · rw [if_neg (fun q => h ((nI_ltI hx hy).mp q)), Nat.max_eq_left (by omega)]
theorem rc_min {w : rc_M} (x y : Nat) (hx : x < 2 ^ 31) (hy : y < 2 ^ 31) : f_mat_min w (nI x) (nI y) = some (nI (min x y), w) := by
  unfold f_mat_min b_mat_min_10
  by_cases h : y < x
  · rw [if_pos ((nI_ltI hy hx).mpr h), Nat.min_eq_right (by omega)]
  · rw [if_neg (fun q => h ((nI_ltI hy hx).mp q)), Nat.min_eq_left (by omega)]
def rc_dom (w : rc_M) : Prop := ∀ q, w.1 q ≠ none → q < w.2.1
theorem rc_H.dom {G : rc_G} {w : rc_M} {H : Heap} (h : rc_H G w H) : rc_dom w := by
  intro q hq
  obtain ⟨-, h2, -, -, -, β, hB, -⟩ := h
  cases e : w.1 q with
  | none => exact absurd e hq
  | some x => rw [h2]; exact (hB q x e).2.lt
theorem rc_dom.ne {w : rc_M} (h : rc_dom w) {q : Nat} {e : rc_E} (hq : w.1 q = some e) : q ≠ w.2.1 := Nat.ne_of_lt (h q (by rw [hq]; simp))
theorem rc_fit0 {f : Nat → Int32} (h : sb_Fit f) (i : Nat) : fits .byte (.int (f i)) = true := h i
theorem p_copyOf {w : rc_M} {b cap c : Nat} {f : Nat → Int32} (hb : w.1 b = some (.inr (.inl (2, cap, .inl f)))) (hbz : b ≠ w.2.1) (hf : sb_Fit f) (hcc : cap < c) (hc : c ≤ 1000000) (hr : w.2.1 + 1 ≤ rc_zc w ∧ w.2.2.1 + c ≤ rc_zs w) :
    f_arr_copyOf w (some b) (nI c) = some (some w.2.1, rc_up (rc_push w (.inr (.inl (2, c, .inl (fun _ => 0)))) c) w.2.1 (.inr (.inl (2, c, .inl (va_cpy f (fun _ => 0) 0 0 cap))))) := by
  have e0 : rc_ln w (some b) 2 = some (nI cap) := by simp [rc_ln, rc_gA, hb, nI]
  have e1 : ¬ nI c = nI cap := fun q => by have := (nI_eq (show c < 2 ^ 31 by omega) (show cap < 2 ^ 31 by omega)).mp q; omega
  have e2 : rc_newA w 2 (nI c) = some (w.2.1, rc_push w (.inr (.inl (2, c, .inl (fun _ => 0)))) c) := by
    unfold rc_newA
    rw [if_neg (nI_pos (by omega)), nI_clamp (by omega), if_pos ⟨hr.1, hr.2, hc⟩]
    rfl
  have hb2 : (rc_push w (.inr (.inl (2, c, .inl (fun _ => 0)))) c).1 b = some (.inr (.inl (2, cap, .inl f))) := by simp [rc_push, va_up, hbz, hb]
  have hz2 : (rc_push w (.inr (.inl (2, c, .inl (fun _ => 0)))) c).1 w.2.1 = some (.inr (.inl (2, c, .inl (fun _ => 0)))) := by simp [rc_push, va_up]
  have e3 : rc_ln (rc_push w (.inr (.inl (2, c, .inl (fun _ => 0)))) c) (some b) 2 = some (nI cap) := by simp [rc_ln, rc_gA, hb2, nI]
  have e4 : rc_cp (rc_push w (.inr (.inl (2, c, .inl (fun _ => 0)))) c) (some b) 0 (some w.2.1) 0 (nI cap) = some (rc_up (rc_push w (.inr (.inl (2, c, .inl (fun _ => 0)))) c) w.2.1 (.inr (.inl (2, c, .inl (va_cpy f (fun _ => 0) 0 0 cap))))) := by
    have g1 : rc_gA (rc_push w (.inr (.inl (2, c, .inl (fun _ => 0)))) c) (some b) 2 = some (b, cap, .inl f) := by simp [rc_gA, hb2]
    have g2 : rc_gA (rc_push w (.inr (.inl (2, c, .inl (fun _ => 0)))) c) (some w.2.1) 2 = some (w.2.1, c, .inl (fun _ => 0)) := by simp [rc_gA, hz2]
    unfold rc_cp
    rw [g1, g2]
    have c0 : (0 : Int32).toNatClampNeg = 0 := rfl
    have hne : ¬ ((0 : Int32) < 0 ∨ (0 : Int32) < 0 ∨ nI cap < 0 ∨ cap < (0 : Int32).toNatClampNeg + (nI cap).toNatClampNeg ∨ c < (0 : Int32).toNatClampNeg + (nI cap).toNatClampNeg) := by
      rw [nI_clamp (show cap < 2 ^ 31 by omega), c0]
      rintro (q | q | q | q | q)
      · exact absurd q (by decide)
      · exact absurd q (by decide)
      · exact nI_pos (by omega) q
      · omega
      · omega
    simp only []
    rw [if_neg hne, if_pos (fun i _ => hf _), nI_clamp (show cap < 2 ^ 31 by omega), c0]
  unfold f_arr_copyOf
  simp only [e0, Option.bind_some, e1, if_false, e2, e3, rc_min cap c (by omega) (by omega), Nat.min_eq_left (Nat.le_of_lt hcc), e4]
