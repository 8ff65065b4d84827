theorem mk_law_feed : rc_MKH y_law_feed method_3_code 8 (some .int) [((0 : Nat), (16 : Nat), (19 : Nat), (13 : Nat))] 7 := ⟨T_290, T_0, by decide, by decide +kernel⟩
theorem mk_law_end : rc_MKH y_law_end method_4_code 3 (some .int) [((0 : Nat), (5 : Nat), (8 : Nat), (19 : Nat))] 2 := ⟨T_365, T_0, by decide, by decide +kernel⟩
theorem mk_law_record : rc_MKH y_law_record method_5_code 4 (some .int) [((0 : Nat), (9 : Nat), (12 : Nat), (19 : Nat))] 3 := ⟨T_392, T_0, by decide, by decide +kernel⟩
theorem mk_law_call : rc_MKH y_law_call method_6_code 9 (some .int) [((0 : Nat), (16 : Nat), (19 : Nat), (19 : Nat))] 7 := ⟨T_404, T_0, by decide, by decide +kernel⟩
theorem mk_law_push : rc_MKH y_law_push method_7_code 7 (some .int) [((0 : Nat), (14 : Nat), (17 : Nat), (33 : Nat))] 6 := ⟨T_436, T_0, by decide, by decide +kernel⟩
theorem mk_law_open : rc_MKH y_law_open method_8_code 4 (some .int) [((0 : Nat), (16 : Nat), (19 : Nat), (33 : Nat))] 3 := ⟨T_647, T_0, by decide, by decide +kernel⟩
theorem mk_law_length : rc_MKH y_law_length method_9_code 4 (some .int) [((0 : Nat), (9 : Nat), (12 : Nat), (33 : Nat))] 3 := ⟨T_659, T_0, by decide, by decide +kernel⟩
theorem mk_law_byteAt : rc_MKH y_law_byteAt method_10_code 5 (some .int) [((0 : Nat), (10 : Nat), (13 : Nat), (33 : Nat))] 4 := ⟨T_666, T_0, by decide, by decide +kernel⟩
theorem mk_law_word : rc_MKH y_law_word method_11_code 5 (some .int) [((0 : Nat), (10 : Nat), (13 : Nat), (33 : Nat))] 4 := ⟨T_673, T_0, by decide, by decide +kernel⟩
theorem mk_law_says : rc_MKH y_law_says method_12_code 5 (some .int) [((0 : Nat), (10 : Nat), (13 : Nat), (33 : Nat))] 4 := ⟨T_681, T_0, by decide, by decide +kernel⟩
theorem mk_law_count : rc_MKH y_law_count method_13_code 4 (some .int) [((0 : Nat), (9 : Nat), (12 : Nat), (19 : Nat))] 3 := ⟨T_702, T_0, by decide, by decide +kernel⟩
theorem d_law_feed_0 : decode method_3_code 0 = .ok (.aload 6, 2) := by decide +kernel
theorem d_law_feed_2 : decode method_3_code 2 = .ok (.iconst 0, 1) := by decide +kernel
theorem d_law_feed_3 : decode method_3_code 3 = .ok (.aload_n 0, 1) := by decide +kernel
theorem d_law_feed_4 : decode method_3_code 4 = .ok (.iload_n 1, 1) := by decide +kernel
theorem d_law_feed_5 : decode method_3_code 5 = .ok (.iload_n 2, 1) := by decide +kernel
theorem d_law_feed_6 : decode method_3_code 6 = .ok (.iload_n 3, 1) := by decide +kernel
theorem d_law_feed_7 : decode method_3_code 7 = .ok (.iload 4, 2) := by decide +kernel
theorem d_law_feed_9 : decode method_3_code 9 = .ok (.iload 5, 2) := by decide +kernel
theorem d_law_feed_11 : decode method_3_code 11 = .ok (.invokevirtual 7, 3) := by decide +kernel
theorem d_law_feed_14 : decode method_3_code 14 = .ok (.i2l, 1) := by decide +kernel
theorem d_law_feed_15 : decode method_3_code 15 = .ok (.lastore, 1) := by decide +kernel
theorem d_law_feed_16 : decode method_3_code 16 = .ok (.goto 7, 3) := by decide +kernel
theorem d_law_feed_19 : decode method_3_code 19 = .ok (.astore 7, 2) := by decide +kernel
theorem d_law_feed_21 : decode method_3_code 21 = .ok (.iconst 1, 1) := by decide +kernel
theorem d_law_feed_22 : decode method_3_code 22 = .ok (.ireturn, 1) := by decide +kernel
theorem d_law_feed_23 : decode method_3_code 23 = .ok (.iconst 0, 1) := by decide +kernel
theorem d_law_feed_24 : decode method_3_code 24 = .ok (.ireturn, 1) := by decide +kernel
theorem d_law_end_0 : decode method_4_code 0 = .ok (.aload_n 0, 1) := by decide +kernel
theorem d_law_end_1 : decode method_4_code 1 = .ok (.iload_n 1, 1) := by decide +kernel
theorem d_law_end_2 : decode method_4_code 2 = .ok (.invokevirtual 15, 3) := by decide +kernel
theorem d_law_end_5 : decode method_4_code 5 = .ok (.goto 6, 3) := by decide +kernel
theorem d_law_end_8 : decode method_4_code 8 = .ok (.astore_n 2, 1) := by decide +kernel
theorem d_law_end_9 : decode method_4_code 9 = .ok (.iconst 1, 1) := by decide +kernel
theorem d_law_end_10 : decode method_4_code 10 = .ok (.ireturn, 1) := by decide +kernel
theorem d_law_end_11 : decode method_4_code 11 = .ok (.iconst 0, 1) := by decide +kernel
theorem d_law_end_12 : decode method_4_code 12 = .ok (.ireturn, 1) := by decide +kernel
theorem d_law_record_0 : decode method_5_code 0 = .ok (.aload_n 2, 1) := by decide +kernel
theorem d_law_record_1 : decode method_5_code 1 = .ok (.iconst 0, 1) := by decide +kernel
theorem d_law_record_2 : decode method_5_code 2 = .ok (.aload_n 0, 1) := by decide +kernel
theorem d_law_record_3 : decode method_5_code 3 = .ok (.iload_n 1, 1) := by decide +kernel
theorem d_law_record_4 : decode method_5_code 4 = .ok (.invokevirtual 21, 3) := by decide +kernel
theorem d_law_record_7 : decode method_5_code 7 = .ok (.i2l, 1) := by decide +kernel
theorem d_law_record_8 : decode method_5_code 8 = .ok (.lastore, 1) := by decide +kernel
theorem d_law_record_9 : decode method_5_code 9 = .ok (.goto 6, 3) := by decide +kernel
theorem d_law_record_12 : decode method_5_code 12 = .ok (.astore_n 3, 1) := by decide +kernel
theorem d_law_record_13 : decode method_5_code 13 = .ok (.iconst 1, 1) := by decide +kernel
theorem d_law_record_14 : decode method_5_code 14 = .ok (.ireturn, 1) := by decide +kernel
theorem d_law_record_15 : decode method_5_code 15 = .ok (.iconst 0, 1) := by decide +kernel
theorem d_law_record_16 : decode method_5_code 16 = .ok (.ireturn, 1) := by decide +kernel
theorem d_law_call_0 : decode method_6_code 0 = .ok (.aload 7, 2) := by decide +kernel
theorem d_law_call_2 : decode method_6_code 2 = .ok (.iconst 0, 1) := by decide +kernel
theorem d_law_call_3 : decode method_6_code 3 = .ok (.aload_n 0, 1) := by decide +kernel
theorem d_law_call_4 : decode method_6_code 4 = .ok (.iload_n 1, 1) := by decide +kernel
theorem d_law_call_5 : decode method_6_code 5 = .ok (.iload_n 2, 1) := by decide +kernel
theorem d_law_call_6 : decode method_6_code 6 = .ok (.iload_n 3, 1) := by decide +kernel
theorem d_law_call_7 : decode method_6_code 7 = .ok (.iload 4, 2) := by decide +kernel
theorem d_law_call_9 : decode method_6_code 9 = .ok (.lload 5, 2) := by decide +kernel
theorem d_law_call_11 : decode method_6_code 11 = .ok (.invokevirtual 25, 3) := by decide +kernel
theorem d_law_call_14 : decode method_6_code 14 = .ok (.i2l, 1) := by decide +kernel
theorem d_law_call_15 : decode method_6_code 15 = .ok (.lastore, 1) := by decide +kernel
theorem d_law_call_16 : decode method_6_code 16 = .ok (.goto 7, 3) := by decide +kernel
theorem d_law_call_19 : decode method_6_code 19 = .ok (.astore 8, 2) := by decide +kernel
theorem d_law_call_21 : decode method_6_code 21 = .ok (.iconst 1, 1) := by decide +kernel
theorem d_law_call_22 : decode method_6_code 22 = .ok (.ireturn, 1) := by decide +kernel
theorem d_law_call_23 : decode method_6_code 23 = .ok (.iconst 0, 1) := by decide +kernel
theorem d_law_call_24 : decode method_6_code 24 = .ok (.ireturn, 1) := by decide +kernel
theorem d_law_push_0 : decode method_7_code 0 = .ok (.aload 5, 2) := by decide +kernel
theorem d_law_push_2 : decode method_7_code 2 = .ok (.iconst 0, 1) := by decide +kernel
theorem d_law_push_3 : decode method_7_code 3 = .ok (.aload_n 0, 1) := by decide +kernel
theorem d_law_push_4 : decode method_7_code 4 = .ok (.iload_n 1, 1) := by decide +kernel
theorem d_law_push_5 : decode method_7_code 5 = .ok (.iload_n 2, 1) := by decide +kernel
theorem d_law_push_6 : decode method_7_code 6 = .ok (.iload_n 3, 1) := by decide +kernel
theorem d_law_push_7 : decode method_7_code 7 = .ok (.iload 4, 2) := by decide +kernel
theorem d_law_push_9 : decode method_7_code 9 = .ok (.invokevirtual 29, 3) := by decide +kernel
theorem d_law_push_12 : decode method_7_code 12 = .ok (.i2l, 1) := by decide +kernel
theorem d_law_push_13 : decode method_7_code 13 = .ok (.lastore, 1) := by decide +kernel
theorem d_law_push_14 : decode method_7_code 14 = .ok (.goto 7, 3) := by decide +kernel
theorem d_law_push_17 : decode method_7_code 17 = .ok (.astore 6, 2) := by decide +kernel
theorem d_law_push_19 : decode method_7_code 19 = .ok (.iconst 1, 1) := by decide +kernel
theorem d_law_push_20 : decode method_7_code 20 = .ok (.ireturn, 1) := by decide +kernel
theorem d_law_push_21 : decode method_7_code 21 = .ok (.iconst 0, 1) := by decide +kernel
theorem d_law_push_22 : decode method_7_code 22 = .ok (.ireturn, 1) := by decide +kernel
theorem d_law_open_0 : decode method_8_code 0 = .ok (.aload_n 2, 1) := by decide +kernel
theorem d_law_open_1 : decode method_8_code 1 = .ok (.iconst 0, 1) := by decide +kernel
theorem d_law_open_2 : decode method_8_code 2 = .ok (.aload_n 0, 1) := by decide +kernel
theorem d_law_open_3 : decode method_8_code 3 = .ok (.iload_n 1, 1) := by decide +kernel
theorem d_law_open_4 : decode method_8_code 4 = .ok (.invokevirtual 35, 3) := by decide +kernel
theorem d_law_open_7 : decode method_8_code 7 = .ok (.ifCond .eq 7, 3) := by decide +kernel
theorem d_law_open_10 : decode method_8_code 10 = .ok (.lconst 1, 1) := by decide +kernel
theorem d_law_open_11 : decode method_8_code 11 = .ok (.goto 4, 3) := by decide +kernel
theorem d_law_open_14 : decode method_8_code 14 = .ok (.lconst 0, 1) := by decide +kernel
theorem d_law_open_15 : decode method_8_code 15 = .ok (.lastore, 1) := by decide +kernel
theorem d_law_open_16 : decode method_8_code 16 = .ok (.goto 6, 3) := by decide +kernel
theorem d_law_open_19 : decode method_8_code 19 = .ok (.astore_n 3, 1) := by decide +kernel
theorem d_law_open_20 : decode method_8_code 20 = .ok (.iconst 1, 1) := by decide +kernel
theorem d_law_open_21 : decode method_8_code 21 = .ok (.ireturn, 1) := by decide +kernel
theorem d_law_open_22 : decode method_8_code 22 = .ok (.iconst 0, 1) := by decide +kernel
theorem d_law_open_23 : decode method_8_code 23 = .ok (.ireturn, 1) := by decide +kernel
theorem d_law_length_0 : decode method_9_code 0 = .ok (.aload_n 2, 1) := by decide +kernel
theorem d_law_length_1 : decode method_9_code 1 = .ok (.iconst 0, 1) := by decide +kernel
theorem d_law_length_2 : decode method_9_code 2 = .ok (.aload_n 0, 1) := by decide +kernel
theorem d_law_length_3 : decode method_9_code 3 = .ok (.iload_n 1, 1) := by decide +kernel
theorem d_law_length_4 : decode method_9_code 4 = .ok (.invokevirtual 39, 3) := by decide +kernel
theorem d_law_length_7 : decode method_9_code 7 = .ok (.i2l, 1) := by decide +kernel
theorem d_law_length_8 : decode method_9_code 8 = .ok (.lastore, 1) := by decide +kernel
theorem d_law_length_9 : decode method_9_code 9 = .ok (.goto 6, 3) := by decide +kernel
theorem d_law_length_12 : decode method_9_code 12 = .ok (.astore_n 3, 1) := by decide +kernel
theorem d_law_length_13 : decode method_9_code 13 = .ok (.iconst 1, 1) := by decide +kernel
theorem d_law_length_14 : decode method_9_code 14 = .ok (.ireturn, 1) := by decide +kernel
theorem d_law_length_15 : decode method_9_code 15 = .ok (.iconst 0, 1) := by decide +kernel
theorem d_law_length_16 : decode method_9_code 16 = .ok (.ireturn, 1) := by decide +kernel
theorem d_law_byteAt_0 : decode method_10_code 0 = .ok (.aload_n 3, 1) := by decide +kernel
theorem d_law_byteAt_1 : decode method_10_code 1 = .ok (.iconst 0, 1) := by decide +kernel
theorem d_law_byteAt_2 : decode method_10_code 2 = .ok (.aload_n 0, 1) := by decide +kernel
theorem d_law_byteAt_3 : decode method_10_code 3 = .ok (.iload_n 1, 1) := by decide +kernel
theorem d_law_byteAt_4 : decode method_10_code 4 = .ok (.iload_n 2, 1) := by decide +kernel
theorem d_law_byteAt_5 : decode method_10_code 5 = .ok (.invokevirtual 42, 3) := by decide +kernel
theorem d_law_byteAt_8 : decode method_10_code 8 = .ok (.i2l, 1) := by decide +kernel
theorem d_law_byteAt_9 : decode method_10_code 9 = .ok (.lastore, 1) := by decide +kernel
theorem d_law_byteAt_10 : decode method_10_code 10 = .ok (.goto 7, 3) := by decide +kernel
theorem d_law_byteAt_13 : decode method_10_code 13 = .ok (.astore 4, 2) := by decide +kernel
theorem d_law_byteAt_15 : decode method_10_code 15 = .ok (.iconst 1, 1) := by decide +kernel
theorem d_law_byteAt_16 : decode method_10_code 16 = .ok (.ireturn, 1) := by decide +kernel
theorem d_law_byteAt_17 : decode method_10_code 17 = .ok (.iconst 0, 1) := by decide +kernel
theorem d_law_byteAt_18 : decode method_10_code 18 = .ok (.ireturn, 1) := by decide +kernel
theorem d_law_word_0 : decode method_11_code 0 = .ok (.aload_n 3, 1) := by decide +kernel
theorem d_law_word_1 : decode method_11_code 1 = .ok (.iconst 0, 1) := by decide +kernel
theorem d_law_word_2 : decode method_11_code 2 = .ok (.aload_n 0, 1) := by decide +kernel
theorem d_law_word_3 : decode method_11_code 3 = .ok (.iload_n 1, 1) := by decide +kernel
theorem d_law_word_4 : decode method_11_code 4 = .ok (.iload_n 2, 1) := by decide +kernel
theorem d_law_word_5 : decode method_11_code 5 = .ok (.invokevirtual 46, 3) := by decide +kernel
theorem d_law_word_8 : decode method_11_code 8 = .ok (.i2l, 1) := by decide +kernel
theorem d_law_word_9 : decode method_11_code 9 = .ok (.lastore, 1) := by decide +kernel
theorem d_law_word_10 : decode method_11_code 10 = .ok (.goto 7, 3) := by decide +kernel
theorem d_law_word_13 : decode method_11_code 13 = .ok (.astore 4, 2) := by decide +kernel
theorem d_law_word_15 : decode method_11_code 15 = .ok (.iconst 1, 1) := by decide +kernel
theorem d_law_word_16 : decode method_11_code 16 = .ok (.ireturn, 1) := by decide +kernel
theorem d_law_word_17 : decode method_11_code 17 = .ok (.iconst 0, 1) := by decide +kernel
theorem d_law_word_18 : decode method_11_code 18 = .ok (.ireturn, 1) := by decide +kernel
theorem d_law_says_0 : decode method_12_code 0 = .ok (.aload_n 3, 1) := by decide +kernel
theorem d_law_says_1 : decode method_12_code 1 = .ok (.iconst 0, 1) := by decide +kernel
theorem d_law_says_2 : decode method_12_code 2 = .ok (.aload_n 0, 1) := by decide +kernel
theorem d_law_says_3 : decode method_12_code 3 = .ok (.iload_n 1, 1) := by decide +kernel
theorem d_law_says_4 : decode method_12_code 4 = .ok (.iload_n 2, 1) := by decide +kernel
theorem d_law_says_5 : decode method_12_code 5 = .ok (.invokevirtual 49, 3) := by decide +kernel
theorem d_law_says_8 : decode method_12_code 8 = .ok (.i2l, 1) := by decide +kernel
theorem d_law_says_9 : decode method_12_code 9 = .ok (.lastore, 1) := by decide +kernel
theorem d_law_says_10 : decode method_12_code 10 = .ok (.goto 7, 3) := by decide +kernel
theorem d_law_says_13 : decode method_12_code 13 = .ok (.astore 4, 2) := by decide +kernel
theorem d_law_says_15 : decode method_12_code 15 = .ok (.iconst 1, 1) := by decide +kernel
theorem d_law_says_16 : decode method_12_code 16 = .ok (.ireturn, 1) := by decide +kernel
theorem d_law_says_17 : decode method_12_code 17 = .ok (.iconst 0, 1) := by decide +kernel
theorem d_law_says_18 : decode method_12_code 18 = .ok (.ireturn, 1) := by decide +kernel
theorem d_law_count_0 : decode method_13_code 0 = .ok (.aload_n 2, 1) := by decide +kernel
theorem d_law_count_1 : decode method_13_code 1 = .ok (.iconst 0, 1) := by decide +kernel
theorem d_law_count_2 : decode method_13_code 2 = .ok (.aload_n 0, 1) := by decide +kernel
theorem d_law_count_3 : decode method_13_code 3 = .ok (.iload_n 1, 1) := by decide +kernel
theorem d_law_count_4 : decode method_13_code 4 = .ok (.invokevirtual 52, 3) := by decide +kernel
theorem d_law_count_7 : decode method_13_code 7 = .ok (.i2l, 1) := by decide +kernel
theorem d_law_count_8 : decode method_13_code 8 = .ok (.lastore, 1) := by decide +kernel
theorem d_law_count_9 : decode method_13_code 9 = .ok (.goto 6, 3) := by decide +kernel
theorem d_law_count_12 : decode method_13_code 12 = .ok (.astore_n 3, 1) := by decide +kernel
theorem d_law_count_13 : decode method_13_code 13 = .ok (.iconst 1, 1) := by decide +kernel
theorem d_law_count_14 : decode method_13_code 14 = .ok (.ireturn, 1) := by decide +kernel
theorem d_law_count_15 : decode method_13_code 15 = .ok (.iconst 0, 1) := by decide +kernel
theorem d_law_count_16 : decode method_13_code 16 = .ok (.ireturn, 1) := by decide +kernel
def f_law_feed (w : rc_M) (r0 : Option Nat) (x1 : Int32) (x2 : Int32) (x3 : Int32) (x4 : Int32) (x5 : Int32) (r6 : Option Nat) : Option (Int32 × rc_M) :=
  (rc_rc w r0 0).bind fun a1 =>
  (f_rec_feed w a1 x1 x2 x3 x4 x5).bind fun p3 =>
  if p3.1 = none then
    some (1, p3.2)
  else
    (rc_sL p3.2 r6 0 (((p3.1.getD 0)).toInt64)).bind fun w7 =>
    some (0, w7)

def f_law_end (w : rc_M) (r0 : Option Nat) (x1 : Int32) : Option (Int32 × rc_M) :=
  (rc_rc w r0 0).bind fun a1 =>
  (f_rec_end w a1 x1).bind fun p3 =>
  if p3.1 = none then
    some (1, p3.2)
  else
    some (0, p3.2)

def f_law_record (w : rc_M) (r0 : Option Nat) (x1 : Int32) (r2 : Option Nat) : Option (Int32 × rc_M) :=
  (rc_rc w r0 0).bind fun a1 =>
  (f_rec_record w a1 x1).bind fun p3 =>
  if p3.1 = none then
    some (1, p3.2)
  else
    (rc_sL p3.2 r2 0 (((p3.1.getD 0)).toInt64)).bind fun w7 =>
    some (0, w7)

def f_law_call (w : rc_M) (r0 : Option Nat) (x1 : Int32) (x2 : Int32) (x3 : Int32) (x4 : Int32) (x5 : Int64) (r7 : Option Nat) : Option (Int32 × rc_M) :=
  (rc_rc w r0 0).bind fun a1 =>
  (f_rec_call w a1 x1 x2 x3 x4 x5).bind fun p3 =>
  if p3.1 = none then
    some (1, p3.2)
  else
    (rc_sL p3.2 r7 0 (((p3.1.getD 0)).toInt64)).bind fun w7 =>
    some (0, w7)

def f_law_push (w : rc_M) (r0 : Option Nat) (x1 : Int32) (x2 : Int32) (x3 : Int32) (x4 : Int32) (r5 : Option Nat) : Option (Int32 × rc_M) :=
  (rc_rc w r0 0).bind fun a1 =>
  (f_rec_push w a1 x1 x2 x3 x4).bind fun p3 =>
  if p3.1 = none then
    some (1, p3.2)
  else
    (rc_sL p3.2 r5 0 (((p3.1.getD 0)).toInt64)).bind fun w7 =>
    some (0, w7)

def b_law_open_15 (w : rc_M) (s0 : Option Nat) (s1 : Int32) (s2 : Int64) : Option (Int32 × rc_M) :=
  (rc_sL w s0 s1 s2).bind fun w1 =>
  some (0, w1)

def f_law_open (w : rc_M) (r0 : Option Nat) (x1 : Int32) (r2 : Option Nat) : Option (Int32 × rc_M) :=
  (rc_rc w r0 0).bind fun a1 =>
  (f_rec_open w a1 x1).bind fun p3 =>
  if p3.1 = none then
    some (1, p3.2)
  else
    if ((p3.1.getD 0)) = 0 then
      b_law_open_15 p3.2 r2 0 0
    else
      b_law_open_15 p3.2 r2 0 1

def f_law_length (w : rc_M) (r0 : Option Nat) (x1 : Int32) (r2 : Option Nat) : Option (Int32 × rc_M) :=
  (rc_rc w r0 0).bind fun a1 =>
  (f_rec_length w a1 x1).bind fun p3 =>
  if p3.1 = none then
    some (1, p3.2)
  else
    (rc_sL p3.2 r2 0 (((p3.1.getD 0)).toInt64)).bind fun w7 =>
    some (0, w7)

def f_law_byteAt (w : rc_M) (r0 : Option Nat) (x1 : Int32) (x2 : Int32) (r3 : Option Nat) : Option (Int32 × rc_M) :=
  (rc_rc w r0 0).bind fun a1 =>
  (f_rec_byteAt w a1 x1 x2).bind fun p3 =>
  if p3.1 = none then
    some (1, p3.2)
  else
    (rc_sL p3.2 r3 0 (((p3.1.getD 0)).toInt64)).bind fun w7 =>
    some (0, w7)

def f_law_word (w : rc_M) (r0 : Option Nat) (x1 : Int32) (x2 : Int32) (r3 : Option Nat) : Option (Int32 × rc_M) :=
  (rc_rc w r0 0).bind fun a1 =>
  (f_rec_word w a1 x1 x2).bind fun p3 =>
  if p3.1 = none then
    some (1, p3.2)
  else
    (rc_sL p3.2 r3 0 (((p3.1.getD 0)).toInt64)).bind fun w7 =>
    some (0, w7)

def f_law_says (w : rc_M) (r0 : Option Nat) (x1 : Int32) (x2 : Int32) (r3 : Option Nat) : Option (Int32 × rc_M) :=
  (rc_rc w r0 0).bind fun a1 =>
  (f_rec_says w a1 x1 x2).bind fun p3 =>
  if p3.1 = none then
    some (1, p3.2)
  else
    (rc_sL p3.2 r3 0 (((p3.1.getD 0)).toInt64)).bind fun w7 =>
    some (0, w7)

def f_law_count (w : rc_M) (r0 : Option Nat) (x1 : Int32) (r2 : Option Nat) : Option (Int32 × rc_M) :=
  (rc_rc w r0 0).bind fun a1 =>
  (f_rec_count w a1 x1).bind fun p3 =>
  if p3.1 = none then
    some (1, p3.2)
  else
    (rc_sL p3.2 r2 0 (((p3.1.getD 0)).toInt64)).bind fun w7 =>
    some (0, w7)

set_option maxRecDepth 100000 in
set_option maxHeartbeats 4000000 in
theorem ct_law_feed {l : Launch} {G : rc_G} (hfl : l.flags = flags0) {w : rc_M} {r0 : Option Nat} {x1 : Int32} {x2 : Int32} {x3 : Int32} {x4 : Int32} {x5 : Int32} {r6 : Option Nat} {res : Int32 × rc_M} (h : f_law_feed w r0 x1 x2 x3 x4 x5 r6 = some res) : rc_CtH l G y_law_feed method_3_code 8 (some .int) [(0, 16, 19, 13)] 7 117 [va_rf r0, .int x1, .int x2, .int x3, .int x4, .int x5, va_rf r6] w (some (.int res.1)) res.2 := by
  refine rc_enterH (by decide +kernel) (by simp [lg_sl, va_rf_cat, rc_cat_i, rc_cat_l]) ?_
  intro X hXl _ hN hF hL C S0 hxe E
  obtain ⟨xe, hxe1, hxe2, hxe3, hxe4, hxe5⟩ := hxe
  have hfl : (q_l X).flags = flags0 := by rw [hXl]; exact hfl
  have hlv : lv_args 0 [va_rf r0, .int x1, .int x2, .int x3, .int x4, .int x5, va_rf r6] = [(0, va_rf r0), (1, .int x1), (2, .int x2), (3, .int x3), (4, .int x4), (5, .int x5), (6, va_rf r6)] := by simp [lv_args, va_rf_cat, rc_cat_i, rc_cat_l]
  rw [hlv]
  clear hlv
  unfold f_law_feed at h
  refine j_aload C d_law_feed_0 rfl 6 rfl ?_
  refine j_iconst (v := 0) C d_law_feed_2 rfl (by decide) ?_
  refine j_aload_n C d_law_feed_3 rfl 0 rfl ?_
  refine j_iload_n C d_law_feed_4 rfl 1 rfl ?_
  refine j_iload_n C d_law_feed_5 rfl 2 rfl ?_
  refine j_iload_n C d_law_feed_6 rfl 3 rfl ?_
  refine j_iload C d_law_feed_7 rfl 4 rfl ?_
  refine j_iload C d_law_feed_9 rfl 5 rfl ?_
  obtain ⟨a1, h2, h⟩ := Option.bind_eq_some_iff.mp h
  obtain ⟨p3, h4, h⟩ := Option.bind_eq_some_iff.mp h
  refine j_callVT C S0 (ci := 0) (ct := 13) (hpc := 19) (As := [.int x1, .int x2, .int x3, .int x4, .int x5]) (st := [.int 0, va_rf r6]) hxe1 (rc_cov hxe2 hxe3 (by decide)) hxe5 (by decide) hxe4 T_291 T_298 mk_rec_feed T_292 T_293 T_294 rfl h2 (rc_le hF (by decide)) (rc_le hL (by decide)) (ct_rec_feed hfl h4) rfl rfl (by simp [va_rf_cat, rc_cat_i, rc_cat_l]) d_law_feed_11 rfl (fun v h6 => ?_) (fun h6 q => ?_)
  · obtain ⟨x5, hx, rfl⟩ := rc_omap h6
    rw [if_neg (by rw [hx]; simp)] at h
    simp only [hx, Option.getD_some] at h
    show rc_J X _ _ [.int x5, .int 0, va_rf r6] _
    refine j_i2l C d_law_feed_14 rfl ?_
    obtain ⟨w7, h8, h⟩ := Option.bind_eq_some_iff.mp h
    refine j_last C h8 d_law_feed_15 rfl ?_
    refine j_goto (tgt := 23) C d_law_feed_16 (by decide) ?_
    refine j_iconst (v := 0) C d_law_feed_23 rfl (by decide) ?_
    cases h
    exact j_iret C E d_law_feed_24
  · rw [if_pos (rc_onone h6)] at h
    refine j_astore C (i := 7) d_law_feed_19 rfl [(7, va_rf (some q)), (0, va_rf r0), (1, .int x1), (2, .int x2), (3, .int x3), (4, .int x4), (5, .int x5), (6, va_rf r6)] (rc_lt hN (by decide)) (by first | rfl | simp [va_rf_cat, rc_cat_i, rc_cat_l]) ?_
    refine j_iconst (v := 1) C d_law_feed_21 rfl (by decide) ?_
    cases h
    exact j_iret C E d_law_feed_22

set_option maxRecDepth 100000 in
set_option maxHeartbeats 4000000 in
theorem ct_law_end {l : Launch} {G : rc_G} (hfl : l.flags = flags0) {w : rc_M} {r0 : Option Nat} {x1 : Int32} {res : Int32 × rc_M} (h : f_law_end w r0 x1 = some res) : rc_CtH l G y_law_end method_4_code 3 (some .int) [(0, 5, 8, 19)] 7 111 [va_rf r0, .int x1] w (some (.int res.1)) res.2 := by
  refine rc_enterH (by decide +kernel) (by simp [lg_sl, va_rf_cat, rc_cat_i, rc_cat_l]) ?_
  intro X hXl _ hN hF hL C S0 hxe E
  obtain ⟨xe, hxe1, hxe2, hxe3, hxe4, hxe5⟩ := hxe
  have hfl : (q_l X).flags = flags0 := by rw [hXl]; exact hfl
  have hlv : lv_args 0 [va_rf r0, .int x1] = [(0, va_rf r0), (1, .int x1)] := by simp [lv_args, va_rf_cat, rc_cat_i, rc_cat_l]
  rw [hlv]
  clear hlv
  unfold f_law_end at h
  refine j_aload_n C d_law_end_0 rfl 0 rfl ?_
  refine j_iload_n C d_law_end_1 rfl 1 rfl ?_
  obtain ⟨a1, h2, h⟩ := Option.bind_eq_some_iff.mp h
  obtain ⟨p3, h4, h⟩ := Option.bind_eq_some_iff.mp h
  refine j_callVT C S0 (ci := 0) (ct := 19) (hpc := 8) (As := [.int x1]) (st := []) hxe1 (rc_cov hxe2 hxe3 (by decide)) hxe5 (by decide) hxe4 T_366 T_373 mk_rec_end T_367 T_368 T_369 rfl h2 (rc_le hF (by decide)) (rc_le hL (by decide)) (ct_rec_end hfl h4) rfl rfl (by decide) d_law_end_2 rfl (fun v h6 => ?_) (fun h6 q => ?_)
  · obtain ⟨x5, hx, rfl⟩ := rc_omap h6
    rw [if_neg (by rw [hx]; simp)] at h
    show rc_J X _ _ [] _
    refine j_goto (tgt := 11) C d_law_end_5 (by decide) ?_
    refine j_iconst (v := 0) C d_law_end_11 rfl (by decide) ?_
    cases h
    exact j_iret C E d_law_end_12
  · rw [if_pos (rc_onone h6)] at h
    refine j_astore_n C (i := 2) d_law_end_8 rfl rfl [(2, va_rf (some q)), (0, va_rf r0), (1, .int x1)] (rc_lt hN (by decide)) (by first | rfl | simp [va_rf_cat, rc_cat_i, rc_cat_l]) ?_
    refine j_iconst (v := 1) C d_law_end_9 rfl (by decide) ?_
    cases h
    exact j_iret C E d_law_end_10

set_option maxRecDepth 100000 in
set_option maxHeartbeats 4000000 in
theorem ct_law_record {l : Launch} {G : rc_G} (hfl : l.flags = flags0) {w : rc_M} {r0 : Option Nat} {x1 : Int32} {r2 : Option Nat} {res : Int32 × rc_M} (h : f_law_record w r0 x1 r2 = some res) : rc_CtH l G y_law_record method_5_code 4 (some .int) [(0, 9, 12, 19)] 7 121 [va_rf r0, .int x1, va_rf r2] w (some (.int res.1)) res.2 := by
  refine rc_enterH (by decide +kernel) (by simp [lg_sl, va_rf_cat, rc_cat_i, rc_cat_l]) ?_
  intro X hXl _ hN hF hL C S0 hxe E
  obtain ⟨xe, hxe1, hxe2, hxe3, hxe4, hxe5⟩ := hxe
  have hfl : (q_l X).flags = flags0 := by rw [hXl]; exact hfl
  have hlv : lv_args 0 [va_rf r0, .int x1, va_rf r2] = [(0, va_rf r0), (1, .int x1), (2, va_rf r2)] := by simp [lv_args, va_rf_cat, rc_cat_i, rc_cat_l]
  rw [hlv]
  clear hlv
  unfold f_law_record at h
  refine j_aload_n C d_law_record_0 rfl 2 rfl ?_
  refine j_iconst (v := 0) C d_law_record_1 rfl (by decide) ?_
  refine j_aload_n C d_law_record_2 rfl 0 rfl ?_
  refine j_iload_n C d_law_record_3 rfl 1 rfl ?_
  obtain ⟨a1, h2, h⟩ := Option.bind_eq_some_iff.mp h
  obtain ⟨p3, h4, h⟩ := Option.bind_eq_some_iff.mp h
  refine j_callVT C S0 (ci := 0) (ct := 19) (hpc := 12) (As := [.int x1]) (st := [.int 0, va_rf r2]) hxe1 (rc_cov hxe2 hxe3 (by decide)) hxe5 (by decide) hxe4 T_366 T_373 mk_rec_record T_393 T_394 T_395 rfl h2 (rc_le hF (by decide)) (rc_le hL (by decide)) (ct_rec_record hfl h4) rfl rfl (by simp [va_rf_cat, rc_cat_i, rc_cat_l]) d_law_record_4 rfl (fun v h6 => ?_) (fun h6 q => ?_)
  · obtain ⟨x5, hx, rfl⟩ := rc_omap h6
    rw [if_neg (by rw [hx]; simp)] at h
    simp only [hx, Option.getD_some] at h
    show rc_J X _ _ [.int x5, .int 0, va_rf r2] _
    refine j_i2l C d_law_record_7 rfl ?_
    obtain ⟨w7, h8, h⟩ := Option.bind_eq_some_iff.mp h
    refine j_last C h8 d_law_record_8 rfl ?_
    refine j_goto (tgt := 15) C d_law_record_9 (by decide) ?_
    refine j_iconst (v := 0) C d_law_record_15 rfl (by decide) ?_
    cases h
    exact j_iret C E d_law_record_16
  · rw [if_pos (rc_onone h6)] at h
    refine j_astore_n C (i := 3) d_law_record_12 rfl rfl [(3, va_rf (some q)), (0, va_rf r0), (1, .int x1), (2, va_rf r2)] (rc_lt hN (by decide)) (by first | rfl | simp [va_rf_cat, rc_cat_i, rc_cat_l]) ?_
    refine j_iconst (v := 1) C d_law_record_13 rfl (by decide) ?_
    cases h
    exact j_iret C E d_law_record_14

set_option maxRecDepth 100000 in
set_option maxHeartbeats 4000000 in
theorem ct_law_call {l : Launch} {G : rc_G} (hfl : l.flags = flags0) {w : rc_M} {r0 : Option Nat} {x1 : Int32} {x2 : Int32} {x3 : Int32} {x4 : Int32} {x5 : Int64} {r7 : Option Nat} {res : Int32 × rc_M} (h : f_law_call w r0 x1 x2 x3 x4 x5 r7 = some res) : rc_CtH l G y_law_call method_6_code 9 (some .int) [(0, 16, 19, 19)] 7 144 [va_rf r0, .int x1, .int x2, .int x3, .int x4, .long x5, va_rf r7] w (some (.int res.1)) res.2 := by
  refine rc_enterH (by decide +kernel) (by simp [lg_sl, va_rf_cat, rc_cat_i, rc_cat_l]) ?_
  intro X hXl _ hN hF hL C S0 hxe E
  obtain ⟨xe, hxe1, hxe2, hxe3, hxe4, hxe5⟩ := hxe
  have hfl : (q_l X).flags = flags0 := by rw [hXl]; exact hfl
  have hlv : lv_args 0 [va_rf r0, .int x1, .int x2, .int x3, .int x4, .long x5, va_rf r7] = [(0, va_rf r0), (1, .int x1), (2, .int x2), (3, .int x3), (4, .int x4), (5, .long x5), (7, va_rf r7)] := by simp [lv_args, va_rf_cat, rc_cat_i, rc_cat_l]
  rw [hlv]
  clear hlv
  unfold f_law_call at h
  refine j_aload C d_law_call_0 rfl 6 rfl ?_
  refine j_iconst (v := 0) C d_law_call_2 rfl (by decide) ?_
  refine j_aload_n C d_law_call_3 rfl 0 rfl ?_
  refine j_iload_n C d_law_call_4 rfl 1 rfl ?_
  refine j_iload_n C d_law_call_5 rfl 2 rfl ?_
  refine j_iload_n C d_law_call_6 rfl 3 rfl ?_
  refine j_iload C d_law_call_7 rfl 4 rfl ?_
  refine j_lload C d_law_call_9 rfl 5 rfl ?_
  obtain ⟨a1, h2, h⟩ := Option.bind_eq_some_iff.mp h
  obtain ⟨p3, h4, h⟩ := Option.bind_eq_some_iff.mp h
  refine j_callVT C S0 (ci := 0) (ct := 19) (hpc := 19) (As := [.int x1, .int x2, .int x3, .int x4, .long x5]) (st := [.int 0, va_rf r7]) hxe1 (rc_cov hxe2 hxe3 (by decide)) hxe5 (by decide) hxe4 T_366 T_373 mk_rec_call T_405 T_406 T_407 rfl h2 (rc_le hF (by decide)) (rc_le hL (by decide)) (ct_rec_call hfl h4) rfl rfl (by simp [va_rf_cat, rc_cat_i, rc_cat_l]) d_law_call_11 rfl (fun v h6 => ?_) (fun h6 q => ?_)
  · obtain ⟨x5, hx, rfl⟩ := rc_omap h6
    rw [if_neg (by rw [hx]; simp)] at h
    simp only [hx, Option.getD_some] at h
    show rc_J X _ _ [.int x5, .int 0, va_rf r7] _
    refine j_i2l C d_law_call_14 rfl ?_
    obtain ⟨w7, h8, h⟩ := Option.bind_eq_some_iff.mp h
    refine j_last C h8 d_law_call_15 rfl ?_
    refine j_goto (tgt := 23) C d_law_call_16 (by decide) ?_
    refine j_iconst (v := 0) C d_law_call_23 rfl (by decide) ?_
    cases h
    exact j_iret C E d_law_call_24
  · rw [if_pos (rc_onone h6)] at h
    refine j_astore C (i := 8) d_law_call_19 rfl [(8, va_rf (some q)), (0, va_rf r0), (1, .int x1), (2, .int x2), (3, .int x3), (4, .int x4), (5, .long x5), (7, va_rf r7)] (rc_lt hN (by decide)) (by first | rfl | simp [va_rf_cat, rc_cat_i, rc_cat_l]) ?_
    refine j_iconst (v := 1) C d_law_call_21 rfl (by decide) ?_
    cases h
    exact j_iret C E d_law_call_22

set_option maxRecDepth 100000 in
set_option maxHeartbeats 4000000 in
theorem ct_law_push {l : Launch} {G : rc_G} (hfl : l.flags = flags0) {w : rc_M} {r0 : Option Nat} {x1 : Int32} {x2 : Int32} {x3 : Int32} {x4 : Int32} {r5 : Option Nat} {res : Int32 × rc_M} (h : f_law_push w r0 x1 x2 x3 x4 r5 = some res) : rc_CtH l G y_law_push method_7_code 7 (some .int) [(0, 14, 17, 33)] 9 217 [va_rf r0, .int x1, .int x2, .int x3, .int x4, va_rf r5] w (some (.int res.1)) res.2 := by
  refine rc_enterH (by decide +kernel) (by simp [lg_sl, va_rf_cat, rc_cat_i, rc_cat_l]) ?_
  intro X hXl _ hN hF hL C S0 hxe E
  obtain ⟨xe, hxe1, hxe2, hxe3, hxe4, hxe5⟩ := hxe
  have hfl : (q_l X).flags = flags0 := by rw [hXl]; exact hfl
  have hlv : lv_args 0 [va_rf r0, .int x1, .int x2, .int x3, .int x4, va_rf r5] = [(0, va_rf r0), (1, .int x1), (2, .int x2), (3, .int x3), (4, .int x4), (5, va_rf r5)] := by simp [lv_args, va_rf_cat, rc_cat_i, rc_cat_l]
  rw [hlv]
  clear hlv
  unfold f_law_push at h
  refine j_aload C d_law_push_0 rfl 5 rfl ?_
  refine j_iconst (v := 0) C d_law_push_2 rfl (by decide) ?_
  refine j_aload_n C d_law_push_3 rfl 0 rfl ?_
  refine j_iload_n C d_law_push_4 rfl 1 rfl ?_
  refine j_iload_n C d_law_push_5 rfl 2 rfl ?_
  refine j_iload_n C d_law_push_6 rfl 3 rfl ?_
  refine j_iload C d_law_push_7 rfl 4 rfl ?_
  obtain ⟨a1, h2, h⟩ := Option.bind_eq_some_iff.mp h
  obtain ⟨p3, h4, h⟩ := Option.bind_eq_some_iff.mp h
  refine j_callVT C S0 (ci := 0) (ct := 33) (hpc := 17) (As := [.int x1, .int x2, .int x3, .int x4]) (st := [.int 0, va_rf r5]) hxe1 (rc_cov hxe2 hxe3 (by decide)) hxe5 (by decide) hxe4 T_437 T_451 mk_rec_push T_438 T_439 T_440 rfl h2 (rc_le hF (by decide)) (rc_le hL (by decide)) (ct_rec_push hfl h4) rfl rfl (by simp [va_rf_cat, rc_cat_i, rc_cat_l]) d_law_push_9 rfl (fun v h6 => ?_) (fun h6 q => ?_)
  · obtain ⟨x5, hx, rfl⟩ := rc_omap h6
    rw [if_neg (by rw [hx]; simp)] at h
    simp only [hx, Option.getD_some] at h
    show rc_J X _ _ [.int x5, .int 0, va_rf r5] _
    refine j_i2l C d_law_push_12 rfl ?_
    obtain ⟨w7, h8, h⟩ := Option.bind_eq_some_iff.mp h
    refine j_last C h8 d_law_push_13 rfl ?_
    refine j_goto (tgt := 21) C d_law_push_14 (by decide) ?_
    refine j_iconst (v := 0) C d_law_push_21 rfl (by decide) ?_
    cases h
    exact j_iret C E d_law_push_22
  · rw [if_pos (rc_onone h6)] at h
    refine j_astore C (i := 6) d_law_push_17 rfl [(6, va_rf (some q)), (0, va_rf r0), (1, .int x1), (2, .int x2), (3, .int x3), (4, .int x4), (5, va_rf r5)] (rc_lt hN (by decide)) (by first | rfl | simp [va_rf_cat, rc_cat_i, rc_cat_l]) ?_
    refine j_iconst (v := 1) C d_law_push_19 rfl (by decide) ?_
    cases h
    exact j_iret C E d_law_push_20

set_option maxRecDepth 100000 in
set_option maxHeartbeats 4000000 in
theorem k_law_open_15 {X : rc_X} {w0 : rc_M} (hF : (q_R X).frames = 7) (hL : (q_R X).locals = 111) (hN : q_n X = 4) (C : rc_C X "RecordCallsLaw" method_8_code w0) {res : Int32 × rc_M} (E : rc_E0 X y_law_open (some .int) (some (.int res.1)) res.2) {w : rc_M} {s0 : Option Nat} {s1 : Int32} {s2 : Int64} (h : b_law_open_15 w s0 s1 s2 = some res) : rc_J X w 15 [.long s2, .int s1, va_rf s0] [] := by
  unfold b_law_open_15 at h
  obtain ⟨w1, h2, h⟩ := Option.bind_eq_some_iff.mp h
  refine j_last C h2 d_law_open_15 rfl ?_
  refine j_goto (tgt := 22) C d_law_open_16 (by decide) ?_
  refine j_iconst (v := 0) C d_law_open_22 rfl (by decide) ?_
  cases h
  exact j_iret C E d_law_open_23

set_option maxRecDepth 100000 in
set_option maxHeartbeats 4000000 in
theorem ct_law_open {l : Launch} {G : rc_G} (hfl : l.flags = flags0) {w : rc_M} {r0 : Option Nat} {x1 : Int32} {r2 : Option Nat} {res : Int32 × rc_M} (h : f_law_open w r0 x1 r2 = some res) : rc_CtH l G y_law_open method_8_code 4 (some .int) [(0, 16, 19, 33)] 7 111 [va_rf r0, .int x1, va_rf r2] w (some (.int res.1)) res.2 := by
  refine rc_enterH (by decide +kernel) (by simp [lg_sl, va_rf_cat, rc_cat_i, rc_cat_l]) ?_
  intro X hXl _ hN hF hL C S0 hxe E
  obtain ⟨xe, hxe1, hxe2, hxe3, hxe4, hxe5⟩ := hxe
  have hfl : (q_l X).flags = flags0 := by rw [hXl]; exact hfl
  have hlv : lv_args 0 [va_rf r0, .int x1, va_rf r2] = [(0, va_rf r0), (1, .int x1), (2, va_rf r2)] := by simp [lv_args, va_rf_cat, rc_cat_i, rc_cat_l]
  rw [hlv]
  clear hlv
  unfold f_law_open at h
  refine j_aload_n C d_law_open_0 rfl 2 rfl ?_
  refine j_iconst (v := 0) C d_law_open_1 rfl (by decide) ?_
  refine j_aload_n C d_law_open_2 rfl 0 rfl ?_
  refine j_iload_n C d_law_open_3 rfl 1 rfl ?_
  obtain ⟨a1, h2, h⟩ := Option.bind_eq_some_iff.mp h
  obtain ⟨p3, h4, h⟩ := Option.bind_eq_some_iff.mp h
  refine j_callVT C S0 (ci := 0) (ct := 33) (hpc := 19) (As := [.int x1]) (st := [.int 0, va_rf r2]) hxe1 (rc_cov hxe2 hxe3 (by decide)) hxe5 (by decide) hxe4 T_437 T_451 mk_rec_open T_648 T_649 T_650 rfl h2 (rc_le hF (by decide)) (rc_le hL (by decide)) (ct_rec_open hfl h4) rfl rfl (by simp [va_rf_cat, rc_cat_i, rc_cat_l]) d_law_open_4 rfl (fun v h6 => ?_) (fun h6 q => ?_)
  · obtain ⟨x5, hx, rfl⟩ := rc_omap h6
    rw [if_neg (by rw [hx]; simp)] at h
    simp only [hx, Option.getD_some] at h
    show rc_J X _ _ [.int x5, .int 0, va_rf r2] _
    refine j_if_eq (tgt := 14) C d_law_open_7 (by decide) rfl (fun c7 => ?_) (fun c7 => ?_)
    · rw [if_pos c7] at h
      refine j_lconst (v := 0) C d_law_open_14 rfl (by decide) ?_
      refine rc_J.sub (lv' := []) [] rfl ?_
      exact k_law_open_15 hF hL hN C E h
    · rw [if_neg c7] at h
      refine j_lconst (v := 1) C d_law_open_10 rfl (by decide) ?_
      refine j_goto (tgt := 15) C d_law_open_11 (by decide) ?_
      refine rc_J.sub (lv' := []) [] rfl ?_
      exact k_law_open_15 hF hL hN C E h
  · rw [if_pos (rc_onone h6)] at h
    refine j_astore_n C (i := 3) d_law_open_19 rfl rfl [(3, va_rf (some q)), (0, va_rf r0), (1, .int x1), (2, va_rf r2)] (rc_lt hN (by decide)) (by first | rfl | simp [va_rf_cat, rc_cat_i, rc_cat_l]) ?_
    refine j_iconst (v := 1) C d_law_open_20 rfl (by decide) ?_
    cases h
    exact j_iret C E d_law_open_21

set_option maxRecDepth 100000 in
set_option maxHeartbeats 4000000 in
theorem ct_law_length {l : Launch} {G : rc_G} (hfl : l.flags = flags0) {w : rc_M} {r0 : Option Nat} {x1 : Int32} {r2 : Option Nat} {res : Int32 × rc_M} (h : f_law_length w r0 x1 r2 = some res) : rc_CtH l G y_law_length method_9_code 4 (some .int) [(0, 9, 12, 33)] 7 111 [va_rf r0, .int x1, va_rf r2] w (some (.int res.1)) res.2 := by
  refine rc_enterH (by decide +kernel) (by simp [lg_sl, va_rf_cat, rc_cat_i, rc_cat_l]) ?_
  intro X hXl _ hN hF hL C S0 hxe E
  obtain ⟨xe, hxe1, hxe2, hxe3, hxe4, hxe5⟩ := hxe
  have hfl : (q_l X).flags = flags0 := by rw [hXl]; exact hfl
  have hlv : lv_args 0 [va_rf r0, .int x1, va_rf r2] = [(0, va_rf r0), (1, .int x1), (2, va_rf r2)] := by simp [lv_args, va_rf_cat, rc_cat_i, rc_cat_l]
  rw [hlv]
  clear hlv
  unfold f_law_length at h
  refine j_aload_n C d_law_length_0 rfl 2 rfl ?_
  refine j_iconst (v := 0) C d_law_length_1 rfl (by decide) ?_
  refine j_aload_n C d_law_length_2 rfl 0 rfl ?_
  refine j_iload_n C d_law_length_3 rfl 1 rfl ?_
  obtain ⟨a1, h2, h⟩ := Option.bind_eq_some_iff.mp h
  obtain ⟨p3, h4, h⟩ := Option.bind_eq_some_iff.mp h
  refine j_callVT C S0 (ci := 0) (ct := 33) (hpc := 12) (As := [.int x1]) (st := [.int 0, va_rf r2]) hxe1 (rc_cov hxe2 hxe3 (by decide)) hxe5 (by decide) hxe4 T_437 T_451 mk_rec_length T_660 T_661 T_662 rfl h2 (rc_le hF (by decide)) (rc_le hL (by decide)) (ct_rec_length hfl h4) rfl rfl (by simp [va_rf_cat, rc_cat_i, rc_cat_l]) d_law_length_4 rfl (fun v h6 => ?_) (fun h6 q => ?_)
  · obtain ⟨x5, hx, rfl⟩ := rc_omap h6
    rw [if_neg (by rw [hx]; simp)] at h
    simp only [hx, Option.getD_some] at h
    show rc_J X _ _ [.int x5, .int 0, va_rf r2] _
    refine j_i2l C d_law_length_7 rfl ?_
    obtain ⟨w7, h8, h⟩ := Option.bind_eq_some_iff.mp h
    refine j_last C h8 d_law_length_8 rfl ?_
    refine j_goto (tgt := 15) C d_law_length_9 (by decide) ?_
    refine j_iconst (v := 0) C d_law_length_15 rfl (by decide) ?_
    cases h
    exact j_iret C E d_law_length_16
  · rw [if_pos (rc_onone h6)] at h
    refine j_astore_n C (i := 3) d_law_length_12 rfl rfl [(3, va_rf (some q)), (0, va_rf r0), (1, .int x1), (2, va_rf r2)] (rc_lt hN (by decide)) (by first | rfl | simp [va_rf_cat, rc_cat_i, rc_cat_l]) ?_
    refine j_iconst (v := 1) C d_law_length_13 rfl (by decide) ?_
    cases h
    exact j_iret C E d_law_length_14

set_option maxRecDepth 100000 in
set_option maxHeartbeats 4000000 in
theorem ct_law_byteAt {l : Launch} {G : rc_G} (hfl : l.flags = flags0) {w : rc_M} {r0 : Option Nat} {x1 : Int32} {x2 : Int32} {r3 : Option Nat} {res : Int32 × rc_M} (h : f_law_byteAt w r0 x1 x2 r3 = some res) : rc_CtH l G y_law_byteAt method_10_code 5 (some .int) [(0, 10, 13, 33)] 7 112 [va_rf r0, .int x1, .int x2, va_rf r3] w (some (.int res.1)) res.2 := by
  refine rc_enterH (by decide +kernel) (by simp [lg_sl, va_rf_cat, rc_cat_i, rc_cat_l]) ?_
  intro X hXl _ hN hF hL C S0 hxe E
  obtain ⟨xe, hxe1, hxe2, hxe3, hxe4, hxe5⟩ := hxe
  have hfl : (q_l X).flags = flags0 := by rw [hXl]; exact hfl
  have hlv : lv_args 0 [va_rf r0, .int x1, .int x2, va_rf r3] = [(0, va_rf r0), (1, .int x1), (2, .int x2), (3, va_rf r3)] := by simp [lv_args, va_rf_cat, rc_cat_i, rc_cat_l]
  rw [hlv]
  clear hlv
  unfold f_law_byteAt at h
  refine j_aload_n C d_law_byteAt_0 rfl 3 rfl ?_
  refine j_iconst (v := 0) C d_law_byteAt_1 rfl (by decide) ?_
  refine j_aload_n C d_law_byteAt_2 rfl 0 rfl ?_
  refine j_iload_n C d_law_byteAt_3 rfl 1 rfl ?_
  refine j_iload_n C d_law_byteAt_4 rfl 2 rfl ?_
  obtain ⟨a1, h2, h⟩ := Option.bind_eq_some_iff.mp h
  obtain ⟨p3, h4, h⟩ := Option.bind_eq_some_iff.mp h
  refine j_callVT C S0 (ci := 0) (ct := 33) (hpc := 13) (As := [.int x1, .int x2]) (st := [.int 0, va_rf r3]) hxe1 (rc_cov hxe2 hxe3 (by decide)) hxe5 (by decide) hxe4 T_437 T_451 mk_rec_byteAt T_667 T_668 T_669 rfl h2 (rc_le hF (by decide)) (rc_le hL (by decide)) (ct_rec_byteAt hfl h4) rfl rfl (by simp [va_rf_cat, rc_cat_i, rc_cat_l]) d_law_byteAt_5 rfl (fun v h6 => ?_) (fun h6 q => ?_)
  · obtain ⟨x5, hx, rfl⟩ := rc_omap h6
    rw [if_neg (by rw [hx]; simp)] at h
    simp only [hx, Option.getD_some] at h
    show rc_J X _ _ [.int x5, .int 0, va_rf r3] _
    refine j_i2l C d_law_byteAt_8 rfl ?_
    obtain ⟨w7, h8, h⟩ := Option.bind_eq_some_iff.mp h
    refine j_last C h8 d_law_byteAt_9 rfl ?_
    refine j_goto (tgt := 17) C d_law_byteAt_10 (by decide) ?_
    refine j_iconst (v := 0) C d_law_byteAt_17 rfl (by decide) ?_
    cases h
    exact j_iret C E d_law_byteAt_18
  · rw [if_pos (rc_onone h6)] at h
    refine j_astore C (i := 4) d_law_byteAt_13 rfl [(4, va_rf (some q)), (0, va_rf r0), (1, .int x1), (2, .int x2), (3, va_rf r3)] (rc_lt hN (by decide)) (by first | rfl | simp [va_rf_cat, rc_cat_i, rc_cat_l]) ?_
    refine j_iconst (v := 1) C d_law_byteAt_15 rfl (by decide) ?_
    cases h
    exact j_iret C E d_law_byteAt_16

set_option maxRecDepth 100000 in
set_option maxHeartbeats 4000000 in
theorem ct_law_word {l : Launch} {G : rc_G} (hfl : l.flags = flags0) {w : rc_M} {r0 : Option Nat} {x1 : Int32} {x2 : Int32} {r3 : Option Nat} {res : Int32 × rc_M} (h : f_law_word w r0 x1 x2 r3 = some res) : rc_CtH l G y_law_word method_11_code 5 (some .int) [(0, 10, 13, 33)] 7 112 [va_rf r0, .int x1, .int x2, va_rf r3] w (some (.int res.1)) res.2 := by
  refine rc_enterH (by decide +kernel) (by simp [lg_sl, va_rf_cat, rc_cat_i, rc_cat_l]) ?_
  intro X hXl _ hN hF hL C S0 hxe E
  obtain ⟨xe, hxe1, hxe2, hxe3, hxe4, hxe5⟩ := hxe
  have hfl : (q_l X).flags = flags0 := by rw [hXl]; exact hfl
  have hlv : lv_args 0 [va_rf r0, .int x1, .int x2, va_rf r3] = [(0, va_rf r0), (1, .int x1), (2, .int x2), (3, va_rf r3)] := by simp [lv_args, va_rf_cat, rc_cat_i, rc_cat_l]
  rw [hlv]
  clear hlv
  unfold f_law_word at h
  refine j_aload_n C d_law_word_0 rfl 3 rfl ?_
  refine j_iconst (v := 0) C d_law_word_1 rfl (by decide) ?_
  refine j_aload_n C d_law_word_2 rfl 0 rfl ?_
  refine j_iload_n C d_law_word_3 rfl 1 rfl ?_
  refine j_iload_n C d_law_word_4 rfl 2 rfl ?_
  obtain ⟨a1, h2, h⟩ := Option.bind_eq_some_iff.mp h
  obtain ⟨p3, h4, h⟩ := Option.bind_eq_some_iff.mp h
  refine j_callVT C S0 (ci := 0) (ct := 33) (hpc := 13) (As := [.int x1, .int x2]) (st := [.int 0, va_rf r3]) hxe1 (rc_cov hxe2 hxe3 (by decide)) hxe5 (by decide) hxe4 T_437 T_451 mk_rec_word T_674 T_675 T_676 rfl h2 (rc_le hF (by decide)) (rc_le hL (by decide)) (ct_rec_word hfl h4) rfl rfl (by simp [va_rf_cat, rc_cat_i, rc_cat_l]) d_law_word_5 rfl (fun v h6 => ?_) (fun h6 q => ?_)
  · obtain ⟨x5, hx, rfl⟩ := rc_omap h6
    rw [if_neg (by rw [hx]; simp)] at h
    simp only [hx, Option.getD_some] at h
    show rc_J X _ _ [.int x5, .int 0, va_rf r3] _
    refine j_i2l C d_law_word_8 rfl ?_
    obtain ⟨w7, h8, h⟩ := Option.bind_eq_some_iff.mp h
    refine j_last C h8 d_law_word_9 rfl ?_
    refine j_goto (tgt := 17) C d_law_word_10 (by decide) ?_
    refine j_iconst (v := 0) C d_law_word_17 rfl (by decide) ?_
    cases h
    exact j_iret C E d_law_word_18
  · rw [if_pos (rc_onone h6)] at h
    refine j_astore C (i := 4) d_law_word_13 rfl [(4, va_rf (some q)), (0, va_rf r0), (1, .int x1), (2, .int x2), (3, va_rf r3)] (rc_lt hN (by decide)) (by first | rfl | simp [va_rf_cat, rc_cat_i, rc_cat_l]) ?_
    refine j_iconst (v := 1) C d_law_word_15 rfl (by decide) ?_
    cases h
    exact j_iret C E d_law_word_16

set_option maxRecDepth 100000 in
set_option maxHeartbeats 4000000 in
theorem ct_law_says {l : Launch} {G : rc_G} (hfl : l.flags = flags0) {w : rc_M} {r0 : Option Nat} {x1 : Int32} {x2 : Int32} {r3 : Option Nat} {res : Int32 × rc_M} (h : f_law_says w r0 x1 x2 r3 = some res) : rc_CtH l G y_law_says method_12_code 5 (some .int) [(0, 10, 13, 33)] 7 142 [va_rf r0, .int x1, .int x2, va_rf r3] w (some (.int res.1)) res.2 := by
  refine rc_enterH (by decide +kernel) (by simp [lg_sl, va_rf_cat, rc_cat_i, rc_cat_l]) ?_
  intro X hXl _ hN hF hL C S0 hxe E
  obtain ⟨xe, hxe1, hxe2, hxe3, hxe4, hxe5⟩ := hxe
  have hfl : (q_l X).flags = flags0 := by rw [hXl]; exact hfl
  have hlv : lv_args 0 [va_rf r0, .int x1, .int x2, va_rf r3] = [(0, va_rf r0), (1, .int x1), (2, .int x2), (3, va_rf r3)] := by simp [lv_args, va_rf_cat, rc_cat_i, rc_cat_l]
  rw [hlv]
  clear hlv
  unfold f_law_says at h
  refine j_aload_n C d_law_says_0 rfl 3 rfl ?_
  refine j_iconst (v := 0) C d_law_says_1 rfl (by decide) ?_
  refine j_aload_n C d_law_says_2 rfl 0 rfl ?_
  refine j_iload_n C d_law_says_3 rfl 1 rfl ?_
  refine j_iload_n C d_law_says_4 rfl 2 rfl ?_
  obtain ⟨a1, h2, h⟩ := Option.bind_eq_some_iff.mp h
  obtain ⟨p3, h4, h⟩ := Option.bind_eq_some_iff.mp h
  refine j_callVT C S0 (ci := 0) (ct := 33) (hpc := 13) (As := [.int x1, .int x2]) (st := [.int 0, va_rf r3]) hxe1 (rc_cov hxe2 hxe3 (by decide)) hxe5 (by decide) hxe4 T_437 T_451 mk_rec_says T_682 T_683 T_684 rfl h2 (rc_le hF (by decide)) (rc_le hL (by decide)) (ct_rec_says hfl h4) rfl rfl (by simp [va_rf_cat, rc_cat_i, rc_cat_l]) d_law_says_5 rfl (fun v h6 => ?_) (fun h6 q => ?_)
  · obtain ⟨x5, hx, rfl⟩ := rc_omap h6
    rw [if_neg (by rw [hx]; simp)] at h
    simp only [hx, Option.getD_some] at h
    show rc_J X _ _ [.int x5, .int 0, va_rf r3] _
    refine j_i2l C d_law_says_8 rfl ?_
    obtain ⟨w7, h8, h⟩ := Option.bind_eq_some_iff.mp h
    refine j_last C h8 d_law_says_9 rfl ?_
    refine j_goto (tgt := 17) C d_law_says_10 (by decide) ?_
    refine j_iconst (v := 0) C d_law_says_17 rfl (by decide) ?_
    cases h
    exact j_iret C E d_law_says_18
  · rw [if_pos (rc_onone h6)] at h
    refine j_astore C (i := 4) d_law_says_13 rfl [(4, va_rf (some q)), (0, va_rf r0), (1, .int x1), (2, .int x2), (3, va_rf r3)] (rc_lt hN (by decide)) (by first | rfl | simp [va_rf_cat, rc_cat_i, rc_cat_l]) ?_
    refine j_iconst (v := 1) C d_law_says_15 rfl (by decide) ?_
    cases h
    exact j_iret C E d_law_says_16

set_option maxRecDepth 100000 in
set_option maxHeartbeats 4000000 in
theorem ct_law_count {l : Launch} {G : rc_G} (hfl : l.flags = flags0) {w : rc_M} {r0 : Option Nat} {x1 : Int32} {r2 : Option Nat} {res : Int32 × rc_M} (h : f_law_count w r0 x1 r2 = some res) : rc_CtH l G y_law_count method_13_code 4 (some .int) [(0, 9, 12, 19)] 7 112 [va_rf r0, .int x1, va_rf r2] w (some (.int res.1)) res.2 := by
  refine rc_enterH (by decide +kernel) (by simp [lg_sl, va_rf_cat, rc_cat_i, rc_cat_l]) ?_
  intro X hXl _ hN hF hL C S0 hxe E
  obtain ⟨xe, hxe1, hxe2, hxe3, hxe4, hxe5⟩ := hxe
  have hfl : (q_l X).flags = flags0 := by rw [hXl]; exact hfl
  have hlv : lv_args 0 [va_rf r0, .int x1, va_rf r2] = [(0, va_rf r0), (1, .int x1), (2, va_rf r2)] := by simp [lv_args, va_rf_cat, rc_cat_i, rc_cat_l]
  rw [hlv]
  clear hlv
  unfold f_law_count at h
  refine j_aload_n C d_law_count_0 rfl 2 rfl ?_
  refine j_iconst (v := 0) C d_law_count_1 rfl (by decide) ?_
  refine j_aload_n C d_law_count_2 rfl 0 rfl ?_
  refine j_iload_n C d_law_count_3 rfl 1 rfl ?_
  obtain ⟨a1, h2, h⟩ := Option.bind_eq_some_iff.mp h
  obtain ⟨p3, h4, h⟩ := Option.bind_eq_some_iff.mp h
  refine j_callVT C S0 (ci := 0) (ct := 19) (hpc := 12) (As := [.int x1]) (st := [.int 0, va_rf r2]) hxe1 (rc_cov hxe2 hxe3 (by decide)) hxe5 (by decide) hxe4 T_366 T_373 mk_rec_count T_703 T_704 T_705 rfl h2 (rc_le hF (by decide)) (rc_le hL (by decide)) (ct_rec_count hfl h4) rfl rfl (by simp [va_rf_cat, rc_cat_i, rc_cat_l]) d_law_count_4 rfl (fun v h6 => ?_) (fun h6 q => ?_)
  · obtain ⟨x5, hx, rfl⟩ := rc_omap h6
    rw [if_neg (by rw [hx]; simp)] at h
    simp only [hx, Option.getD_some] at h
    show rc_J X _ _ [.int x5, .int 0, va_rf r2] _
    refine j_i2l C d_law_count_7 rfl ?_
    obtain ⟨w7, h8, h⟩ := Option.bind_eq_some_iff.mp h
    refine j_last C h8 d_law_count_8 rfl ?_
    refine j_goto (tgt := 15) C d_law_count_9 (by decide) ?_
    refine j_iconst (v := 0) C d_law_count_15 rfl (by decide) ?_
    cases h
    exact j_iret C E d_law_count_16
  · rw [if_pos (rc_onone h6)] at h
    refine j_astore_n C (i := 3) d_law_count_12 rfl rfl [(3, va_rf (some q)), (0, va_rf r0), (1, .int x1), (2, va_rf r2)] (rc_lt hN (by decide)) (by first | rfl | simp [va_rf_cat, rc_cat_i, rc_cat_l]) ?_
    refine j_iconst (v := 1) C d_law_count_13 rfl (by decide) ?_
    cases h
    exact j_iret C E d_law_count_14

