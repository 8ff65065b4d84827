def g_row_addLong (w : rc_M) (a0 : Nat) (x1 : Int64) : Option (rc_M) :=
  (rc_rc w (some a0) 1).bind fun a1 =>
  (g_row_addWord w a1 (((x1.toUInt64 >>> ((32 : Int32).toInt64.toUInt64 &&& Int64.toUInt64 63)).toInt64).toInt32)).bind fun w3 =>
  (rc_rc w3 (some a0) 1).bind fun a5 =>
  (g_row_addWord w3 a5 x1.toInt32).bind fun w7 =>
  some w7

def bg_row_addTruth_10 (w : rc_M) (s0 : Option Nat) (s1 : Int32) : Option (rc_M) :=
  (rc_rc w s0 1).bind fun a1 =>
  (g_row_addWord w a1 s1).bind fun w3 =>
  some w3

def g_row_addTruth (w : rc_M) (a0 : Nat) (x1 : Int32) : Option (rc_M) :=
  if x1 = 0 then
    bg_row_addTruth_10 w (some a0) 0
  else
    bg_row_addTruth_10 w (some a0) 1

def bg_row_addBytes_15 : Nat → rc_M → Nat → Int32 → Int32 → Option (rc_M)
  | 0, _, _, _, _ => none
  | fuel + 1, w, a0, x3, x4 =>
    (f_rec_filled w x3).bind fun p1 =>
    if p1.1 ≤ x4 then
      some p1.2
    else
      (rc_rc p1.2 (some a0) 1).bind fun a4 =>
      (g_row_add p1.2 a4 0).bind fun w6 =>
      bg_row_addBytes_15 fuel w6 a0 x3 (x4 + 1)

def g_row_addBytes (w : rc_M) (a0 : Nat) (r1 : Option Nat) (x2 : Int32) (x3 : Int32) : Option (rc_M) :=
  (rc_rc w (some a0) 1).bind fun a1 =>
  (g_row_addWord w a1 x3).bind fun w3 =>
  (rc_rc w3 (some a0) 1).bind fun a5 =>
  (g_row_addPart w3 a5 r1 x2 x3).bind fun w7 =>
  bg_row_addBytes_15 5000 w7 a0 x3 x3

set_option maxRecDepth 100000 in
set_option maxHeartbeats 4000000 in
theorem cg_row_addLong {l : Launch} {G : rc_G} {w : rc_M} {a0 : Nat} {x1 : Int64} {res : rc_M} (h : g_row_addLong w a0 x1 = some res) : rc_Ct l G y_row_addLong prog_6_method_10_code 3 none 4 92 [va_rf (some a0), .long x1] w none res := by
  refine rc_enter (by decide +kernel) (by simp [lg_sl, va_rf_cat, rc_cat_i, rc_cat_l]) ?_
  intro X _ _ hN hF hL C E
  have hlv : lv_args 0 [va_rf (some a0), .long x1] = [(0, va_rf (some a0)), (1, .long x1)] := by simp [lv_args, va_rf_cat, rc_cat_i, rc_cat_l]
  rw [hlv]
  clear hlv
  unfold g_row_addLong at h
  refine j_aload_n C d_row_addLong_0 rfl 0 rfl ?_
  refine j_lload_n C d_row_addLong_1 rfl 1 rfl ?_
  refine j_bipush (v := 32) C d_row_addLong_2 rfl (by decide) ?_
  refine j_lushr C d_row_addLong_4 rfl ?_
  refine j_l2i C d_row_addLong_5 rfl ?_
  obtain ⟨a1, h2, h⟩ := Option.bind_eq_some_iff.mp h
  obtain ⟨w3, h4, h⟩ := Option.bind_eq_some_iff.mp h
  refine j_callV C (As := [.int (((x1.toUInt64 >>> ((32 : Int32).toInt64.toUInt64 &&& Int64.toUInt64 63)).toInt64).toInt32)]) (st := []) (sk' := []) mk_row_addWord (Or.inl T_417) T_360 T_361 (ci := 1) rfl h2 (rc_le hF (by decide)) (rc_le hL (by decide)) (cg_row_addWord h4) rfl rfl (by decide) d_row_addLong_6 rfl rfl ?_
  refine j_aload_n C d_row_addLong_9 rfl 0 rfl ?_
  refine j_lload_n C d_row_addLong_10 rfl 1 rfl ?_
  refine j_l2i C d_row_addLong_11 rfl ?_
  obtain ⟨a5, h6, h⟩ := Option.bind_eq_some_iff.mp h
  obtain ⟨w7, h8, h⟩ := Option.bind_eq_some_iff.mp h
  refine j_callV C (As := [.int x1.toInt32]) (st := []) (sk' := []) mk_row_addWord (Or.inl T_417) T_360 T_361 (ci := 1) rfl h6 (rc_le hF (by decide)) (rc_le hL (by decide)) (cg_row_addWord h8) rfl rfl (by decide) d_row_addLong_12 rfl rfl ?_
  cases h
  exact j_vret C E d_row_addLong_15

set_option maxRecDepth 100000 in
set_option maxHeartbeats 4000000 in
theorem kg_row_addTruth_10 {X : rc_X} {w0 : rc_M} (hF : (q_R X).frames = 4) (hL : (q_R X).locals = 92) (hN : q_n X = 2) (C : rc_C X "RecordCalls$Row" prog_6_method_11_code w0) {res : rc_M} (E : rc_E0 X y_row_addTruth none none res) {w : rc_M} {s0 : Option Nat} {s1 : Int32} (h : bg_row_addTruth_10 w s0 s1 = some res) : rc_J X w 10 [.int s1, va_rf s0] [] := by
  unfold bg_row_addTruth_10 at h
  obtain ⟨a1, h2, h⟩ := Option.bind_eq_some_iff.mp h
  obtain ⟨w3, h4, h⟩ := Option.bind_eq_some_iff.mp h
  refine j_callV C (As := [.int s1]) (st := []) (sk' := []) mk_row_addWord (Or.inl T_417) T_360 T_361 (ci := 1) rfl h2 (rc_le hF (by decide)) (rc_le hL (by decide)) (cg_row_addWord h4) rfl rfl (by decide) d_row_addTruth_10 rfl rfl ?_
  cases h
  exact j_vret C E d_row_addTruth_13

set_option maxRecDepth 100000 in
set_option maxHeartbeats 4000000 in
theorem cg_row_addTruth {l : Launch} {G : rc_G} {w : rc_M} {a0 : Nat} {x1 : Int32} {res : rc_M} (h : g_row_addTruth w a0 x1 = some res) : rc_Ct l G y_row_addTruth prog_6_method_11_code 2 none 4 92 [va_rf (some a0), .int x1] w none res := by
  refine rc_enter (by decide +kernel) (by simp [lg_sl, va_rf_cat, rc_cat_i, rc_cat_l]) ?_
  intro X _ _ hN hF hL C E
  have hlv : lv_args 0 [va_rf (some a0), .int x1] = [(0, va_rf (some a0)), (1, .int x1)] := by simp [lv_args, va_rf_cat, rc_cat_i, rc_cat_l]
  rw [hlv]
  clear hlv
  unfold g_row_addTruth at h
  refine j_aload_n C d_row_addTruth_0 rfl 0 rfl ?_
  refine j_iload_n C d_row_addTruth_1 rfl 1 rfl ?_
  refine j_if_eq (tgt := 9) C d_row_addTruth_2 (by decide) rfl (fun c1 => ?_) (fun c1 => ?_)
  · rw [if_pos c1] at h
    refine j_iconst (v := 0) C d_row_addTruth_9 rfl (by decide) ?_
    refine rc_J.sub (lv' := []) [] rfl ?_
    exact kg_row_addTruth_10 hF hL hN C E h
  · rw [if_neg c1] at h
    refine j_iconst (v := 1) C d_row_addTruth_5 rfl (by decide) ?_
    refine j_goto (tgt := 10) C d_row_addTruth_6 (by decide) ?_
    refine rc_J.sub (lv' := []) [] rfl ?_
    exact kg_row_addTruth_10 hF hL hN C E h

set_option maxRecDepth 100000 in
set_option maxHeartbeats 4000000 in
theorem kg_row_addBytes_15 {X : rc_X} {w0 : rc_M} (hF : (q_R X).frames = 4) (hL : (q_R X).locals = 94) (hN : q_n X = 5) (C : rc_C X "RecordCalls$Row" prog_6_method_13_code w0) {res : rc_M} (E : rc_E0 X y_row_addBytes none none res) : ∀ (fuel : Nat) (w : rc_M) (a0 : Nat) (x3 : Int32) (x4 : Int32), bg_row_addBytes_15 fuel w a0 x3 x4 = some res → rc_J X w 15 [] [(0, va_rf (some a0)), (3, .int x3), (4, .int x4)] := by
  intro fuel
  induction fuel with
  | zero => intro w a0 x3 x4 h; simp [bg_row_addBytes_15] at h
  | succ fuel ih =>
    intro w a0 x3 x4 h
    unfold bg_row_addBytes_15 at h
    refine j_iload C d_row_addBytes_15 rfl 2 rfl ?_
    refine j_iload_n C d_row_addBytes_17 rfl 1 rfl ?_
    obtain ⟨p1, h2, h⟩ := Option.bind_eq_some_iff.mp h
    refine j_callS C (As := [.int x3]) (st := [.int x4]) (sk' := [.int p1.1, .int x4]) mk_rec_filled (Or.inr T_419) T_420 (rc_le hF (by decide)) (rc_le hL (by decide)) (ct_rec_filled h2) rfl rfl (by simp [va_rf_cat, rc_cat_i, rc_cat_l]) d_row_addBytes_18 rfl rfl ?_
    refine j_icmp_ge (tgt := 35) C d_row_addBytes_21 (by decide) rfl (fun c3 => ?_) (fun c3 => ?_)
    · rw [if_pos c3] at h
      cases h
      exact j_vret C E d_row_addBytes_35
    · rw [if_neg c3] at h
      refine j_aload_n C d_row_addBytes_24 rfl 0 rfl ?_
      refine j_iconst (v := 0) C d_row_addBytes_25 rfl (by decide) ?_
      obtain ⟨a4, h5, h⟩ := Option.bind_eq_some_iff.mp h
      obtain ⟨w6, h7, h⟩ := Option.bind_eq_some_iff.mp h
      refine j_callV C (As := [.int 0]) (st := []) (sk' := []) mk_row_add (Or.inl T_422) T_423 T_424 (ci := 1) rfl h5 (rc_le hF (by decide)) (rc_le hL (by decide)) (cg_row_add h7) rfl rfl (by decide) d_row_addBytes_26 rfl rfl ?_
      refine j_iinc C d_row_addBytes_29 rfl 2 [(4, .int (x4 + 1)), (0, va_rf (some a0)), (3, .int x3)] rfl rfl (rc_lt hN (by decide)) (by first | rfl | simp [va_rf_cat, rc_cat_i, rc_cat_l]) ?_
      refine j_goto (tgt := 15) C d_row_addBytes_32 (by decide) ?_
      refine rc_J.sub (lv' := [(0, va_rf (some a0)), (3, .int x3), (4, .int (x4 + 1))]) [1, 2, 0] rfl ?_
      exact ih _ _ _ _ h

set_option maxRecDepth 100000 in
set_option maxHeartbeats 4000000 in
theorem cg_row_addBytes {l : Launch} {G : rc_G} {w : rc_M} {a0 : Nat} {r1 : Option Nat} {x2 : Int32} {x3 : Int32} {res : rc_M} (h : g_row_addBytes w a0 r1 x2 x3 = some res) : rc_Ct l G y_row_addBytes prog_6_method_13_code 5 none 4 94 [va_rf (some a0), va_rf r1, .int x2, .int x3] w none res := by
  refine rc_enter (by decide +kernel) (by simp [lg_sl, va_rf_cat, rc_cat_i, rc_cat_l]) ?_
  intro X _ _ hN hF hL C E
  have hlv : lv_args 0 [va_rf (some a0), va_rf r1, .int x2, .int x3] = [(0, va_rf (some a0)), (1, va_rf r1), (2, .int x2), (3, .int x3)] := by simp [lv_args, va_rf_cat, rc_cat_i, rc_cat_l]
  rw [hlv]
  clear hlv
  unfold g_row_addBytes at h
  refine j_aload_n C d_row_addBytes_0 rfl 0 rfl ?_
  refine j_iload_n C d_row_addBytes_1 rfl 3 rfl ?_
  obtain ⟨a1, h2, h⟩ := Option.bind_eq_some_iff.mp h
  obtain ⟨w3, h4, h⟩ := Option.bind_eq_some_iff.mp h
  refine j_callV C (As := [.int x3]) (st := []) (sk' := []) mk_row_addWord (Or.inl T_417) T_360 T_361 (ci := 1) rfl h2 (rc_le hF (by decide)) (rc_le hL (by decide)) (cg_row_addWord h4) rfl rfl (by decide) d_row_addBytes_2 rfl rfl ?_
  refine j_aload_n C d_row_addBytes_5 rfl 0 rfl ?_
  refine j_aload_n C d_row_addBytes_6 rfl 1 rfl ?_
  refine j_iload_n C d_row_addBytes_7 rfl 2 rfl ?_
  refine j_iload_n C d_row_addBytes_8 rfl 3 rfl ?_
  obtain ⟨a5, h6, h⟩ := Option.bind_eq_some_iff.mp h
  obtain ⟨w7, h8, h⟩ := Option.bind_eq_some_iff.mp h
  refine j_callV C (As := [va_rf r1, .int x2, .int x3]) (st := []) (sk' := []) mk_row_addPart (Or.inl T_418) T_225 T_226 (ci := 1) rfl h6 (rc_le hF (by decide)) (rc_le hL (by decide)) (cg_row_addPart h8) rfl rfl (by decide) d_row_addBytes_9 rfl rfl ?_
  refine j_iload_n C d_row_addBytes_12 rfl 3 rfl ?_
  refine j_istore C (i := 4) d_row_addBytes_13 rfl [(4, .int x3), (0, va_rf (some a0)), (1, va_rf r1), (2, .int x2), (3, .int x3)] (rc_lt hN (by decide)) (by first | rfl | simp [va_rf_cat, rc_cat_i, rc_cat_l]) ?_
  refine rc_J.sub (lv' := [(0, va_rf (some a0)), (3, .int x3), (4, .int x3)]) [1, 4, 0] rfl ?_
  exact kg_row_addBytes_15 hF hL hN C E _ _ _ _ _ h

