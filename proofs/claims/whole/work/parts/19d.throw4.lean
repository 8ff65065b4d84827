section RCV
variable {X : rc_X} {own : String} {cc : ByteArray} {w0 w w' : rc_M} {pc n : Nat} {st : List Value} {lv : List (Nat × Value)}
theorem j_throw (C : rc_C X own cc w0) {ret : Option FieldType} {cls : String} {names : List String} {idx ic : Nat} (E : rc_E1 X ret cls none w') (h : rc_throw w = some w') (hl : Cond.classLink own idx cls ∈ rc_tb) (hins : Cond.instantiable cls 6 ∈ rc_tb) (hini : Cond.initialized cls ∈ rc_tb)
    (hfit : Bundle.fit cls = true) (hnames : ∀ n ∈ names, Bundle.fit n = true) (hat : ∀ a ∈ Bundle.ownAtoms0 own ic cls names, a ∈ rc_tb ∨ a ∈ rc_st) (hRf : names.length + 3 < (q_R X).frames) (hRl : (st.map fun v => v.category).sum + (13 * (names.length + 1) + 42) ≤ (q_R X).locals)
    (hd1 : decode cc pc = .ok (.new idx, 3)) (hd2 : decode cc (pc + 3) = .ok (.dup, 1)) (hd3 : decode cc (pc + 4) = .ok (.invokespecial ic, 3)) (hd4 : decode cc (pc + 7) = .ok (.athrow, 1)) : rc_J X w pc st lv := by
  intro H locs ls h1 h2 h3
  unfold rc_throw at h
  split at h
  case isFalse => cases h
  rename_i hr
  cases h
  obtain ⟨l1, l2, l3, l4, l5⟩ := rc_lim C h1 h2
  have hc' : rc_z w + 1 ≤ rc_zc w := hr.1
  have hs' : rc_tz w + 6 ≤ rc_zs w := hr.2
  have ez : H.size = rc_z w := h1.2.1.symm
  obtain ⟨cX, kX, hfX, hkX, -, -, -, hn6⟩ := Cond.instantiable_spec (C.ts _ hins)
  refine rc_narrow C h1 (fun l6 => W.newcK C.1 C.2.1 C.2.2.1 (C.ts _ hl) (C.ts _ hins) (C.ts _ hini) rfl hd1 (by rw [C.2.2.2.2.2.2.2.2.1]; omega) (by rw [C.2.2.2.2.2.2.2.2.2]; omega) hfX rfl fun H1 kC hkC e1 z1 o1 => ?_)
  cases hkX.symm.trans hkC
  refine W.widen (k := (q_R X).cells) (n := (q_R X).slots) (by rw [C.2.2.2.2.2.2.2.2.1]; omega) (by rw [C.2.2.2.2.2.2.2.2.2]; omega) ?_
  refine lv_dup C.1 C.2.1 hd2 rfl ?_
  intro T hT S
  have hge : (q_s X).heap.size ≤ H.size := h2.1
  have hplS : rc_pl (rc_b (q_G X)) (q_s X).heap := C.2.2.2.2.2.2.2.1.2.2.2.1.2.2
  obtain ⟨U, k1, k2, k3, k4, k5, k6, k7, ce, k8, k9, k10, k11⟩ := rc_thr S C.1 (Launch.traces_off E.2.2.2.1 S.admits) (own := own) (cls := cls) (names := names) (ic := ic) C.2.2.1 hfit hnames (fun a ha => by
      rcases hat a ha with q | q
      · exact C.ts _ q
      · exact E.2.2.1.use _ _ q) (fun x hx cell hc => by rw [hplS x.base cell (h2.2.2 x hx) hc]; rfl) hfX hkX (a := H.size) (by rw [hT]; exact e1) hge
    (g := F0 (q_m X) (pc + 3 + 1) ls (.ref H.size :: .ref H.size :: st)) rfl (by rw [C.2.2.2.2.2.1]; exact h3.1) rfl rfl (rest := st) rfl (by rw [C.2.1]; exact hd3) (by rw [C.2.1]; exact hd4)
    (fun x hx => by
      have := E.2.1
      rw [Array.isEmpty_iff] at this
      rw [this] at hx
      simp at hx) hRf (by show 2 * 0 + _ + _ ≤ _; simp only [List.map_cons, List.sum_cons, show (Value.ref H.size).category = 1 from rfl]; omega) C.2.2.2.2.2.2.1
  rw [hT] at k6 k7
  refine ⟨U, k1, ?_⟩
  rw [E.2.2.2.2]
  have o2 : ∀ q : Nat, q < H.size → U.heap[q]? = H[q]? := fun q hq => by rw [k7 q (Nat.ne_of_lt hq), o1 q hq]
  refine ⟨.threw H.size, k2, k3, ⟨Or.inr ⟨rfl, H.size, ce, rfl, k8, k9, by rw [k10]; exact hfX⟩, h1.garb (by rw [k6, z1]) k8 k11 k9 o2 hr, ?_⟩, locs, ⟨k4, k5⟩, h2.2.2⟩
  exact ⟨by rw [k6, z1]; omega, fun q g1 g2 => (o2 q (Nat.lt_of_lt_of_le g1 h2.1)).trans (h2.2.1 q g1 g2)⟩
end RCV
