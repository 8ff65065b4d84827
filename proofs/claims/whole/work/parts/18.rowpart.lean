def g_row_addPart (w : rc_M) (a : Nat) (r : Option Nat) (s m : Int32) : Option rc_M := r.bind fun a' => (rc_row w a).bind fun x => (rc_row w a').bind fun y =>
  if a = a' then none else if s < 0 ∨ m < 0 ∨ y.2.length < s.toNatClampNeg + m.toNatClampNeg then some w else rc_app w a ((y.2.drop s.toNatClampNeg).take m.toNatClampNeg)
theorem rc_cond {n j k : Nat} (hn : n ≤ 1000000) (hj : j < 2 ^ 31) (hk : k < 2 ^ 31) : nI k ≤ nI n - nI j ↔ ¬ n < j + k := by
  rw [Int32.le_iff_toInt_le, nI_toInt hk, rc_subI (by omega) (nI_pos hj), nI_toInt hj]
  omega
theorem p_addPart0 {w : rc_M} {a a' b' cap' n' : Nat} {f' : Nat → Int32} {s m : Int32} (ho' : rc_Op w a' b' cap' n' f') (hn : n' ≤ 1000000) (hc : s < 0 ∨ m < 0 ∨ n' < s.toNatClampNeg + m.toNatClampNeg) : f_row_addPart w a (some a') s m = some w := by
  unfold f_row_addPart b_row_addPart_18
  by_cases c1 : s < 0
  · rw [if_pos c1]
  · rw [if_neg c1]
    by_cases c2 : m < 0
    · rw [if_pos c2]
    · rw [if_neg c2]
      obtain ⟨j, hj, rfl⟩ := nI_of c1
      obtain ⟨k, hk, rfl⟩ := nI_of c2
      rw [nI_clamp hj, nI_clamp hk] at hc
      simp only [ho'.used, Option.bind_some]
      rw [if_neg (fun q => (rc_cond hn hj hk).mp q ((hc.resolve_left c1).resolve_left c2))]
theorem cg_row_addPart {l : Launch} {G : rc_G} {w : rc_M} {a0 : Nat} {r1 : Option Nat} {x2 x3 : Int32} {res : rc_M} (h : g_row_addPart w a0 r1 x2 x3 = some res) : rc_Ct l G y_row_addPart prog_6_method_12_code 4 none 3 71 [va_rf (some a0), va_rf r1, .int x2, .int x3] w none res := by
  unfold g_row_addPart at h
  obtain ⟨a', hr, h1⟩ := Option.bind_eq_some_iff.mp h
  clear h
  subst hr
  obtain ⟨x, hx, h2⟩ := Option.bind_eq_some_iff.mp h1
  obtain ⟨y, hy, h⟩ := Option.bind_eq_some_iff.mp h2
  obtain ⟨hxr, hxc⟩ := rc_row_spec hx
  obtain ⟨hyr, hyc⟩ := rc_row_spec hy
  by_cases e0 : a0 = a'
  · rw [if_pos e0] at h; cases h
  rw [if_neg e0] at h
  by_cases c : x2 < 0 ∨ x3 < 0 ∨ y.2.length < x2.toNatClampNeg + x3.toNatClampNeg
  · rw [if_pos c] at h
    cases h
    refine rc_rd_ct2 hy fun w1 b f ho hg hf hl hb hq => ct_row_addPart (p_addPart0 ho (by omega) c)
  · rw [if_neg c] at h
    simp only [not_or] at c
    obtain ⟨c1, c2, c3⟩ := c
    obtain ⟨j, hj, rfl⟩ := nI_of c1
    obtain ⟨k, hk, rfl⟩ := nI_of c2
    rw [nI_clamp hj, nI_clamp hk] at c3 h
    have hL : ((y.2.drop j).take k).length = k := by rw [List.length_take, List.length_drop]; omega
    obtain ⟨x', hx', hm, rfl⟩ := rc_app_spec h
    cases hx.symm.trans hx'
    rw [hL] at hm ⊢
    refine rc_Ct.via fun H hH => ?_
    obtain ⟨b, f, hab, hb, hlen, hf, hg, hH1⟩ := hH.opened hxr
    have hq1 : ∀ q, q ≠ a0 → q ≠ b → (rc_opn w a0 b x.1 x.2.length f).1 q = w.1 q := fun q q1 q2 => by simp [rc_opn, va_up, q1, q2]
    have hbn : a' ≠ b := fun z => by rw [z, hb] at hyr; cases hyr
    have hy1 : (rc_opn w a0 b x.1 x.2.length f).1 a' = some (.inr (.inr y)) := by rw [hq1 a' (Ne.symm e0) hbn]; exact hyr
    have ho1 : rc_Op (rc_opn w a0 b x.1 x.2.length f) a0 b x.1 x.2.length f := rc_opn_op hab
    have hz1 : (rc_opn w a0 b x.1 x.2.length f).2 = w.2 := rfl
    generalize rc_opn w a0 b x.1 x.2.length f = w1 at hH1 hq1 hy1 ho1 hz1
    obtain ⟨b2, f2, hab2, hb2, hlen2, hf2, hg2, hH2⟩ := hH1.opened hy1
    have hq2 : ∀ q, q ≠ a' → q ≠ b2 → (rc_opn w1 a' b2 y.1 y.2.length f2).1 q = w1.1 q := fun q q1 q2 => by simp [rc_opn, va_up, q1, q2]
    have ho2 : rc_Op (rc_opn w1 a' b2 y.1 y.2.length f2) a' b2 y.1 y.2.length f2 := rc_opn_op hab2
    have ho3 := ho1.keep hy1 hb2 hq2
    have hz2 : (rc_opn w1 a' b2 y.1 y.2.length f2).2 = w.2 := hz1
    generalize rc_opn w1 a' b2 y.1 y.2.length f2 = w1' at hH2 hq2 ho2 ho3 hz2
    have hdom := hH2.dom
    obtain ⟨w2, b', f', p1, p2, p3, p4, p5, p6, p7⟩ := p_makeRoom (k := k) ho3 hdom hlen hxc (by omega) hf (by rcases hm with hm | hm; exact Or.inl hm; exact Or.inr (by rw [hz2]; exact ⟨by show _ ≤ w1'.2.2.2.1; rw [hz2]; exact hm.1, by show _ ≤ w1'.2.2.2.2; rw [hz2]; exact hm.2.1, hm.2.2⟩))
    have hcap' : rc_capN x.1 (x.2.length + k) ≤ 1000000 := by
      rcases hm with hm | hm
      · unfold rc_capN; rw [if_pos hm]; exact hxc
      · exact hm.2.2
    have hle' : x.2.length + k ≤ rc_capN x.1 (x.2.length + k) := by unfold rc_capN; split <;> omega
    obtain ⟨-, ⟨Fo, f1, -, -⟩, f3⟩ := id ho2
    obtain ⟨-, ⟨Fa, g1, -, -⟩, g3⟩ := id ho3
    have n1 : a' ≠ a0 := Ne.symm e0
    have n2 : b2 ≠ a0 := fun z => by rw [z, g1] at f3; cases f3
    have n3 : b2 ≠ b := fun z => by
      have := ho1.2.2
      rw [← z, hb2] at this
      cases this
    have n4 : a' ≠ b' := by
      rcases p6 with rfl | rfl
      · exact hbn
      · exact hdom.ne f1
    have n5 : b2 ≠ b' := by
      rcases p6 with rfl | rfl
      · exact n3
      · exact hdom.ne f3
    have ho2' : rc_Op w2 a' b2 y.1 y.2.length f2 := by
      obtain ⟨o1, ⟨F, o2, o3, o4⟩, o5⟩ := ho2
      exact ⟨o1, ⟨F, by rw [p7 a' n1 hbn n4]; exact o2, o3, o4⟩, by rw [p7 b2 n2 n3 n5]; exact o5⟩
    -- the copy
    have hcp : rc_cp w2 (some b2) (nI j) (some b') (nI x.2.length) (nI k) = some (rc_up w2 b' (.inr (.inl (2, rc_capN x.1 (x.2.length + k), .inl (va_cpy f2 f' j x.2.length k))))) := by
      have q1 : rc_gA w2 (some b2) 2 = some (b2, y.1, .inl f2) := by simp [rc_gA, ho2'.2.2]
      have q2 : rc_gA w2 (some b') 2 = some (b', rc_capN x.1 (x.2.length + k), .inl f') := by simp [rc_gA, p2.2.2]
      unfold rc_cp
      rw [q1, q2]
      simp only []
      rw [nI_clamp hj, nI_clamp hk, nI_clamp (show x.2.length < 2 ^ 31 by omega)]
      rw [if_neg, if_pos (fun i _ => hf2 _)]
      rintro (q | q | q | q | q)
      · exact c1 q
      · exact nI_pos (by omega) q
      · exact c2 q
      · omega
      · omega
    generalize hw3 : rc_up w2 b' (.inr (.inl (2, rc_capN x.1 (x.2.length + k), .inl (va_cpy f2 f' j x.2.length k)))) = w3 at hcp
    have o3 : rc_Op w3 a0 b' (rc_capN x.1 (x.2.length + k)) x.2.length (va_cpy f2 f' j x.2.length k) := by
      obtain ⟨o1, ⟨F, o2, o3, o4⟩, o5⟩ := p2
      exact ⟨o1, ⟨F, by rw [← hw3]; simp [rc_up, va_up, o1, o2], o3, o4⟩, by rw [← hw3]; simp [rc_up, va_up]⟩
    have b3 : rc_but a0 b' w2 w3 := by rw [← hw3]; exact ⟨rfl, fun q _ q2 => by simp [rc_up, va_up, q2]⟩
    obtain ⟨w4, t1, t2, t3⟩ := o3.put (v := nI x.2.length + nI k) (x.2.length + k) (nI_add _ _)
    have hrun : f_row_addPart w1' a0 (some a') (nI j) (nI k) = some w4 := by
      unfold f_row_addPart
      rw [if_neg c1, if_neg c2]
      simp only [ho2.used, Option.bind_some]
      rw [if_pos ((rc_cond (by omega) hj hk).mpr c3)]
      simp only [ho3.rc, Option.bind_some, p1, ho2'.bytes, p2.bytes, p2.used, hcp, o3.used, t1]
    refine ⟨w1', w4, hz2, hH2, ct_row_addPart hrun, fun H' hH' => ?_⟩
    have b4 := b3.tr t3
    have oA : rc_Op w4 a' b2 y.1 y.2.length f2 := by
      obtain ⟨o1, ⟨F, o2, o3, o4⟩, o5⟩ := ho2'
      exact ⟨o1, ⟨F, by rw [b4.2 a' n1 n4]; exact o2, o3, o4⟩, by rw [b4.2 b2 n2 n5]; exact o5⟩
    have hc1 := hH'.closed (bs := y.2) oA hlen2 hf2 hg2
    have oB : rc_Op (va_up (va_up w4.1 b2 none) a' (some (.inr (.inr (y.1, y.2)))), w4.2) a0 b' (rc_capN x.1 (x.2.length + k)) (x.2 ++ (y.2.drop j).take k).length (va_cpy f2 f' j x.2.length k) := by
      rw [List.length_append, hL]
      obtain ⟨o1, ⟨F, o2, o3, o4⟩, o5⟩ := t2
      exact ⟨o1, ⟨F, by simp [va_up, n1.symm, n2.symm, o2], o3, o4⟩, by simp [va_up, n4.symm, n5.symm, o5]⟩
    have hc2 := hc1.closed oB (by rw [List.length_append, hL]; exact hle') (sb_fitC hf2 p3) (rc_agr_snoc hg (fun i hi => ?_) (fun i z hz => ?_))
    · refine hc2.less ?_ (fun q e he => ?_)
      · show rc_rest w x.1 (x.2.length + k) = w4.2
        rw [b4.1, p5]
        unfold rc_rest rc_grown
        rw [hz2]
      · by_cases e1 : q = a0
        · subst e1
          simp only [va_up, if_true] at he ⊢
          exact he
        · have he' : w.1 q = some e := by simpa [va_up, e1] using he
          have e2 : q ≠ b := fun z => by rw [z, hb] at he'; cases he'
          have e3 : q ≠ b' := by
            rcases p6 with rfl | rfl
            · exact e2
            · have := hH.dom.ne he'
              rw [hz2]
              exact this
          by_cases e4 : q = a'
          · subst e4
            simp only [va_up, e1, e3, if_false, if_true]
            rw [hyr] at he'
            exact he'
          · have e5 : q ≠ b2 := fun z => by
              have h9 := hq1 q e1 e2
              rw [z, hb2, ← z, he'] at h9
              cases h9
            have : w4.1 q = some e := by rw [b4.2 q e1 e3, p7 q e1 e2 e3, hq2 q e4 e5, hq1 q e1 e2]; exact he'
            simp [va_up, e1, e3, e4, e5, this]
    · rw [pk_cpy_out (Or.inl hi), p4 i hi]
    · have hi : i < k := by
        have := (List.getElem?_eq_some_iff.mp hz).1
        rw [hL] at this
        exact this
      rw [pk_cpy_in (by omega) (by omega)]
      rw [List.getElem?_take, if_pos hi, List.getElem?_drop] at hz
      rw [show x.2.length + i - x.2.length = i by omega]
      exact hg2 _ _ hz
