/-! THE PURE PART, 4: rows and the room: what a row's growth costs is paid by a potential -/
def px_sum (f : Nat → Nat) : Nat → Nat
  | 0 => 0
  | n + 1 => px_sum f n + f n
theorem px_sum_same (f g : Nat → Nat) (n : Nat) (h : ∀ i, i < n → f i = g i) : px_sum f n = px_sum g n := by
  induction n with
  | zero => rfl
  | succ n ih => simp only [px_sum]; rw [ih (fun i hi => h i (by omega)), h n (by omega)]
theorem px_sum_up (f g : Nat → Nat) (n o : Nat) (ho : o < n) (h : ∀ i, i ≠ o → g i = f i) : px_sum g n + f o = px_sum f n + g o := by
  induction n with
  | zero => omega
  | succ n ih =>
    simp only [px_sum]
    by_cases e : o = n
    · subst e
      rw [px_sum_same g f o (fun i hi => h i (by omega))]; omega
    · have := ih (by omega)
      rw [h n (fun q => e q.symm)]; omega
theorem px_sum_ge (f : Nat → Nat) (n o : Nat) (ho : o < n) : f o ≤ px_sum f n := by
  induction n with
  | zero => omega
  | succ n ih =>
    simp only [px_sum]
    by_cases e : o = n
    · subst e; omega
    · have := ih (by omega); omega
def px_pot (cap : Nat → Nat) : Nat := px_sum (fun o => 8192 - 2 * cap o) 316
/-- the room: with it e more exceptions and all growth of rows are paid for -/
def px_Wf (b : Nat) (p : px_P) (e : Nat) : Prop := (∀ o, p.1 o ≤ 4096) ∧ 16 * p.2.1 + px_pot p.1 + 16 * e ≤ 16 * (b + rc_rmC) ∧ p.2.2 + px_pot p.1 + 6 * e ≤ rc_rmS
theorem px_Wf.less {b : Nat} {p : px_P} {e e' : Nat} (h : px_Wf b p e) (he : e' ≤ e) : px_Wf b p e' := ⟨h.1, by have := h.2.1; omega, by have := h.2.2; omega⟩
theorem px_rw_lt {o : Nat} (h : px_rw o = true) : o < 316 := by
  simp only [px_rw, Bool.or_eq_true, Bool.and_eq_true, beq_iff_eq, decide_eq_true_eq] at h
  omega
section PX
variable {b : Nat} {I : Nat → Nat → Int32} {V : Nat → Nat → Int64} {G : Nat → Nat → Nat} {R : Nat → List UInt8} {M : Nat → Nat → Int32} {p : px_P} {e : Nat}
theorem px_upR (o : Nat) (h : px_rw o = true) (c : Nat) (l : List UInt8) (z t : Nat) : ((va_up (px_W b I V G R M p).1 (b + o) (some (.inr (.inr (c, l)))), z, t, b + rc_rmC, rc_rmS) : rc_M) = px_W b I V G (va_up R o l) M (va_up p.1 o c, z, t) := by
  unfold px_W
  congr 1
  funext q
  unfold va_up
  by_cases hq : q = b + o
  · subst hq
    simp [Nat.not_lt.mpr (Nat.le_add_right b o), px_row_ent o _ _ _ _ _ _ h]
  · rw [if_neg hq]
    by_cases hb : q < b
    · simp [hb]
    · have hne : q - b ≠ o := by omega
      simp only [hb, if_false, hne]
theorem px_va_id {α : Type} (f : Nat → α) (o : Nat) : va_up f o (f o) = f := by
  funext q; unfold va_up; by_cases h : q = o
  · subst h; simp
  · simp [h]
theorem px_va_eq {α : Type} (f : Nat → α) (o : Nat) (x : α) : va_up f o x o = x := by simp [va_up]
theorem px_va_ne {α : Type} (f : Nat → α) (o q : Nat) (x : α) (h : q ≠ o) : va_up f o x q = f q := by simp [va_up, h]
theorem px_va_va {α : Type} (f : Nat → α) (o : Nat) (x y : α) : va_up (va_up f o x) o y = va_up f o y := by
  funext q; unfold va_up; by_cases h : q = o <;> simp [h]
theorem px_setR (o : Nat) (h : px_rw o = true) (l : List UInt8) : rc_setRow (px_W b I V G R M p) (b + o) (p.1 o, l) = px_W b I V G (va_up R o l) M p := by
  have e := px_upR (I := I) (V := V) (G := G) (R := R) (M := M) (p := p) (b := b) o h (p.1 o) l p.2.1 p.2.2
  rw [px_va_id] at e
  exact e
theorem px_app (o : Nat) (l : List UInt8) (h : px_rw o = true) (hw : px_Wf b p e) (hl : (R o).length + l.length ≤ 2048) : ∃ p', px_Wf b p' e ∧ rc_app (px_W b I V G R M p) (b + o) l = some (px_W b I V G (va_up R o (R o ++ l)) M p') := by
  unfold rc_app
  rw [px_rowR o h (hw.1 o)]
  simp only [Option.bind_some]
  by_cases hc : (R o).length + l.length ≤ p.1 o
  · exact ⟨p, hw, by rw [if_pos hc, px_setR o h]⟩
  · rw [if_neg hc]
    obtain ⟨hw1, hw2, hw3⟩ := hw
    have hcap := rc_capN_big hc
    have hcm : rc_capN (p.1 o) ((R o).length + l.length) ≤ 4096 := by
      have := hw1 o
      rw [hcap.1]; omega
    have hc16 : 16 ≤ rc_capN (p.1 o) ((R o).length + l.length) ∧ 2 * p.1 o ≤ rc_capN (p.1 o) ((R o).length + l.length) := by
      rw [hcap.1]; omega
    have ho := px_rw_lt h
    have hs := px_sum_up (fun q => 8192 - 2 * p.1 q) (fun q => 8192 - 2 * va_up p.1 o (rc_capN (p.1 o) ((R o).length + l.length)) q) 316 o ho (fun i hi => by rw [px_va_ne _ _ _ _ hi])
    simp only [px_va_eq] at hs
    have hp : px_pot p.1 = px_sum (fun q => 8192 - 2 * p.1 q) 316 := rfl
    have hp' : px_pot (va_up p.1 o (rc_capN (p.1 o) ((R o).length + l.length))) = px_sum (fun q => 8192 - 2 * va_up p.1 o (rc_capN (p.1 o) ((R o).length + l.length)) q) 316 := rfl
    have hg := px_sum_ge (fun q => 8192 - 2 * p.1 q) 316 o ho
    have h41 := hw1 o
    refine ⟨(va_up p.1 o (rc_capN (p.1 o) ((R o).length + l.length)), p.2.1 + 1, p.2.2 + rc_capN (p.1 o) ((R o).length + l.length)), ⟨fun q => ?_, ?_, ?_⟩, ?_⟩
    · by_cases hq : q = o
      · subst hq; simp only [px_va_eq]; exact hcm
      · simp only [px_va_ne _ _ _ _ hq]; exact hw1 q
    · simp only; rw [hp']; rw [hp] at hw2; omega
    · simp only; rw [hp']; rw [hp] at hw3; omega
    · rw [if_pos]
      · have e1 := px_upR (I := I) (V := V) (G := G) (R := R) (M := M) (p := p) (b := b) o h (rc_capN (p.1 o) ((R o).length + l.length)) (R o ++ l) (p.2.1 + 1) (p.2.2 + rc_capN (p.1 o) ((R o).length + l.length))
        exact congrArg some e1
      · refine ⟨?_, ?_, by omega⟩
        · show p.2.1 + 1 ≤ b + rc_rmC
          rw [hp] at hw2; omega
        · show p.2.2 + _ ≤ rc_rmS
          rw [hp] at hw3; omega
theorem px_size (o : Nat) (h : px_rw o = true) (hw : px_Wf b p e) : g_row_size (px_W b I V G R M p) (b + o) = some (nI (R o).length, px_W b I V G R M p) := by
  unfold g_row_size; rw [px_rowR o h (hw.1 o)]; rfl
theorem px_clear (o : Nat) (h : px_rw o = true) (hw : px_Wf b p e) : g_row_clear (px_W b I V G R M p) (b + o) = some (px_W b I V G (va_up R o []) M p) := by
  unfold g_row_clear; rw [px_rowR o h (hw.1 o)]; simp only [Option.bind_some]; rw [px_setR o h]
theorem px_cutTo (o n : Nat) (h : px_rw o = true) (hw : px_Wf b p e) (hn : n ≤ (R o).length) (hl : (R o).length < 2 ^ 31) : g_row_cutTo (px_W b I V G R M p) (b + o) (nI n) = some (px_W b I V G (va_up R o ((R o).take n)) M p) := by
  unfold g_row_cutTo; rw [px_rowR o h (hw.1 o)]; simp only [Option.bind_some]
  rw [if_neg (nI_pos (by omega)), nI_clamp (by omega)]
  by_cases hc : (R o).length ≤ n
  · rw [if_pos (nI_le hc (by omega)), List.take_of_length_le hc, px_va_id]
  · rw [if_neg (nI_ge (by omega) (by omega)), px_setR o h]
theorem px_rowAt (o : Nat) (i : Int32) (h : px_rw o = true) (hw : px_Wf b p e) : g_row_at (px_W b I V G R M p) (b + o) i = some (rc_atR (R o) i, px_W b I V G R M p) := by
  unfold g_row_at; rw [px_rowR o h (hw.1 o)]; rfl
theorem px_wordAt (o : Nat) (i : Int32) (h : px_rw o = true) (hw : px_Wf b p e) : g_row_wordAt (px_W b I V G R M p) (b + o) i = some (rc_wdR (R o) i, px_W b I V G R M p) := by
  unfold g_row_wordAt; rw [px_rowR o h (hw.1 o)]; rfl
theorem px_wdR (l : List UInt8) (i : Nat) (hi : i < 2 ^ 31) : rc_wdR l (nI i) = if l.length < i + 4 then 0 else rc_wd l i := by
  unfold rc_wdR; rw [if_neg (nI_pos hi), nI_clamp hi]
theorem px_add (o : Nat) (x : Int32) (h : px_rw o = true) (hw : px_Wf b p e) (hl : (R o).length + 1 ≤ 2048) : ∃ p', px_Wf b p' e ∧ g_row_add (px_W b I V G R M p) (b + o) x = some (px_W b I V G (va_up R o (R o ++ [rc_lowb x])) M p') := px_app o _ h hw (by simpa using hl)
theorem px_addWord (o : Nat) (x : Int32) (h : px_rw o = true) (hw : px_Wf b p e) (hl : (R o).length + 4 ≤ 2048) : ∃ p', px_Wf b p' e ∧ g_row_addWord (px_W b I V G R M p) (b + o) x = some (px_W b I V G (va_up R o (R o ++ rc_bw x)) M p') := px_app o _ h hw (by simpa [rc_bw] using hl)
theorem px_addPart (o o' s m : Nat) (h : px_rw o = true) (h' : px_rw o' = true) (hne : o ≠ o') (hw : px_Wf b p e) (hs : s + m ≤ (R o').length) (hb : (R o').length < 2 ^ 31) (hl : (R o).length + m ≤ 2048) : ∃ p', px_Wf b p' e ∧ g_row_addPart (px_W b I V G R M p) (b + o) (some (b + o')) (nI s) (nI m) = some (px_W b I V G (va_up R o (R o ++ ((R o').drop s).take m)) M p') := by
  unfold g_row_addPart
  simp only [Option.bind_some]
  rw [px_rowR o h (hw.1 o), px_rowR o' h' (hw.1 o')]
  simp only [Option.bind_some]
  rw [if_neg (by omega), nI_clamp (show s < 2 ^ 31 by omega), nI_clamp (show m < 2 ^ 31 by omega), if_neg]
  · exact px_app o _ h hw (by rw [List.length_take, List.length_drop]; omega)
  · rintro (q | q | q)
    · exact nI_pos (by omega) q
    · exact nI_pos (by omega) q
    · omega
theorem px_isPart (o o' s n : Nat) (h : px_rw o = true) (h' : px_rw o' = true) (hne : o ≠ o') (hw : px_Wf b p e) (hs : s + n ≤ (R o').length) (hb : (R o').length < 2 ^ 31) (hl : (R o).length < 5000) : g_row_isPart (px_W b I V G R M p) (b + o) (some (b + o')) (nI s) (nI n) = some (if R o = ((R o').drop s).take n then 1 else 0, px_W b I V G R M p) := by
  unfold g_row_isPart
  simp only [Option.bind_some]
  rw [px_rowR o h (hw.1 o), px_rowR o' h' (hw.1 o')]
  simp only [Option.bind_some]
  rw [if_neg (by omega)]
  by_cases hn : n = (R o).length
  · subst hn
    rw [if_pos rfl, nI_clamp (show s < 2 ^ 31 by omega), if_neg]
    · unfold rc_partR
      by_cases q : ((R o').drop s).take (R o).length = R o
      · rw [if_pos q, if_pos q.symm]
      · rw [if_neg q, if_neg (fun z => q z.symm)]
    · rintro (q | q | q)
      · exact nI_pos (by omega) q
      · omega
      · omega
  · rw [if_neg (by rw [nI_eq (by omega) (by omega)]; exact hn), if_neg]
    intro q
    apply hn
    rw [q, List.length_take, List.length_drop]; omega
/-- an exception -/
theorem px_throw (hw : px_Wf b p (e + 1)) : ∃ p', px_Wf b p' e ∧ rc_throw (px_W b I V G R M p) = some (px_W b I V G R M p') := by
  obtain ⟨h1, h2, h3⟩ := hw
  refine ⟨(p.1, p.2.1 + 1, p.2.2 + 6), ⟨h1, by simp only; omega, by simp only; omega⟩, ?_⟩
  unfold rc_throw
  rw [if_pos ⟨show p.2.1 + 1 ≤ b + rc_rmC by omega, show p.2.2 + 6 ≤ rc_rmS by omega⟩]
  rfl
end PX
