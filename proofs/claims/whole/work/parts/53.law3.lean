def b_law_law_973 (sb : Nat) (xs : Nat → Int32) (L : Nat) (k23 : rc_M → Option Nat → Option Nat → Option Nat → Int32 → Option (Int32 × rc_M)) (w : rc_M) (r1 : Option Nat) (r2 : Option Nat) (r3 : Option Nat) (x4 : Int32) : Option (Int32 × rc_M) :=
  k23 w r1 r2 r3 (x4 + 7)

def b_law_law_213 (sb : Nat) (xs : Nat → Int32) (L : Nat) (k23 : rc_M → Option Nat → Option Nat → Option Nat → Int32 → Option (Int32 × rc_M)) (w : rc_M) (r1 : Option Nat) (r2 : Option Nat) (r3 : Option Nat) (x4 : Int32) : Option (Int32 × rc_M) :=
  b_law_law_973 sb xs L k23 w r1 r2 r3 x4

def b_law_law_318 (sb : Nat) (xs : Nat → Int32) (L : Nat) (k23 : rc_M → Option Nat → Option Nat → Option Nat → Int32 → Option (Int32 × rc_M)) (w : rc_M) (r1 : Option Nat) (r2 : Option Nat) (r3 : Option Nat) (x4 : Int32) : Option (Int32 × rc_M) :=
  b_law_law_973 sb xs L k23 w r1 r2 r3 x4

def b_law_law_472 (sb : Nat) (xs : Nat → Int32) (L : Nat) (k23 : rc_M → Option Nat → Option Nat → Option Nat → Int32 → Option (Int32 × rc_M)) (w : rc_M) (r1 : Option Nat) (r2 : Option Nat) (r3 : Option Nat) (x4 : Int32) : Option (Int32 × rc_M) :=
  b_law_law_973 sb xs L k23 w r1 r2 r3 x4

def b_law_law_416 (sb : Nat) (xs : Nat → Int32) (L : Nat) (k23 : rc_M → Option Nat → Option Nat → Option Nat → Int32 → Option (Int32 × rc_M)) (w : rc_M) (r1 : Option Nat) (r2 : Option Nat) (r3 : Option Nat) (x4 : Int32) (x5 : Int32) (s0 : Option Nat) (s1 : Int32) (s2 : Int32) (s3 : Int32) (s4 : Int32) : Option (Int32 × rc_M) :=
  (rc_sc xs L (x4 + 5)).bind fun v1 =>
  (rc_sc xs L (x4 + 6)).bind fun v3 =>
  (rc_rc w s0 7).bind fun a5 =>
  (f_mdl_call w a5 s1 s2 s3 s4 ((v1.toInt64 <<< ((32 : Int32).toInt64 &&& 63)) ||| (v3.toInt64 &&& 4294967295))).bind fun p7 =>
  (rc_rc p7.2 r2 7).bind fun a9 =>
  (f_mdl_thrown p7.2 a9).bind fun p11 =>
  if p11.1 = x5 then
    if x5 = 0 then
      (rc_aL p11.2 r3 0).bind fun v15 =>
      if (lg_cmp v15 p7.1.toInt64) = 0 then
        b_law_law_472 sb xs L k23 p11.2 r1 r2 r3 x4
      else
        some (0, p11.2)
    else
      b_law_law_472 sb xs L k23 p11.2 r1 r2 r3 x4
  else
    some (0, p11.2)

def b_law_law_354 (sb : Nat) (xs : Nat → Int32) (L : Nat) (k23 : rc_M → Option Nat → Option Nat → Option Nat → Int32 → Option (Int32 × rc_M)) (w : rc_M) (r1 : Option Nat) (r2 : Option Nat) (r3 : Option Nat) (x4 : Int32) (s0 : Option Nat) (s1 : Int32) (s2 : Int32) (s3 : Int32) (s4 : Int32) : Option (Int32 × rc_M) :=
  (rc_sc xs L (x4 + 5)).bind fun v1 =>
  (rc_sc xs L (x4 + 6)).bind fun v3 =>
  (f_law_call w s0 s1 s2 s3 s4 ((v1.toInt64 <<< ((32 : Int32).toInt64 &&& 63)) ||| (v3.toInt64 &&& 4294967295)) r3).bind fun p5 =>
  (rc_sc xs L (x4 + 1)).bind fun v7 =>
  (rc_sc xs L (x4 + 2)).bind fun v9 =>
  (rc_sc xs L (x4 + 3)).bind fun v11 =>
  (rc_sc xs L (x4 + 4)).bind fun v13 =>
  if v13 = 0 then
    b_law_law_416 sb xs L k23 p5.2 r1 r2 r3 x4 p5.1 r2 v7 v9 v11 0
  else
    b_law_law_416 sb xs L k23 p5.2 r1 r2 r3 x4 p5.1 r2 v7 v9 v11 1

def b_law_law_564 (sb : Nat) (xs : Nat → Int32) (L : Nat) (k23 : rc_M → Option Nat → Option Nat → Option Nat → Int32 → Option (Int32 × rc_M)) (w : rc_M) (r1 : Option Nat) (r2 : Option Nat) (r3 : Option Nat) (x4 : Int32) : Option (Int32 × rc_M) :=
  b_law_law_973 sb xs L k23 w r1 r2 r3 x4

def b_law_law_627 (sb : Nat) (xs : Nat → Int32) (L : Nat) (k23 : rc_M → Option Nat → Option Nat → Option Nat → Int32 → Option (Int32 × rc_M)) (w : rc_M) (r1 : Option Nat) (r2 : Option Nat) (r3 : Option Nat) (x4 : Int32) : Option (Int32 × rc_M) :=
  b_law_law_973 sb xs L k23 w r1 r2 r3 x4

def b_law_law_621 (sb : Nat) (xs : Nat → Int32) (L : Nat) (k23 : rc_M → Option Nat → Option Nat → Option Nat → Int32 → Option (Int32 × rc_M)) (w : rc_M) (r1 : Option Nat) (r2 : Option Nat) (r3 : Option Nat) (x4 : Int32) (s0 : Int64) (s1 : Int64) : Option (Int32 × rc_M) :=
  if (lg_cmp s0 s1) = 0 then
    b_law_law_627 sb xs L k23 w r1 r2 r3 x4
  else
    some (0, w)

def b_law_law_683 (sb : Nat) (xs : Nat → Int32) (L : Nat) (k23 : rc_M → Option Nat → Option Nat → Option Nat → Int32 → Option (Int32 × rc_M)) (w : rc_M) (r1 : Option Nat) (r2 : Option Nat) (r3 : Option Nat) (x4 : Int32) : Option (Int32 × rc_M) :=
  b_law_law_973 sb xs L k23 w r1 r2 r3 x4

def b_law_law_751 (sb : Nat) (xs : Nat → Int32) (L : Nat) (k23 : rc_M → Option Nat → Option Nat → Option Nat → Int32 → Option (Int32 × rc_M)) (w : rc_M) (r1 : Option Nat) (r2 : Option Nat) (r3 : Option Nat) (x4 : Int32) : Option (Int32 × rc_M) :=
  b_law_law_973 sb xs L k23 w r1 r2 r3 x4

def b_law_law_819 (sb : Nat) (xs : Nat → Int32) (L : Nat) (k23 : rc_M → Option Nat → Option Nat → Option Nat → Int32 → Option (Int32 × rc_M)) (w : rc_M) (r1 : Option Nat) (r2 : Option Nat) (r3 : Option Nat) (x4 : Int32) : Option (Int32 × rc_M) :=
  b_law_law_973 sb xs L k23 w r1 r2 r3 x4

def b_law_law_887 (sb : Nat) (xs : Nat → Int32) (L : Nat) (k23 : rc_M → Option Nat → Option Nat → Option Nat → Int32 → Option (Int32 × rc_M)) (w : rc_M) (r1 : Option Nat) (r2 : Option Nat) (r3 : Option Nat) (x4 : Int32) : Option (Int32 × rc_M) :=
  b_law_law_973 sb xs L k23 w r1 r2 r3 x4

def b_law_law_970 (sb : Nat) (xs : Nat → Int32) (L : Nat) (k23 : rc_M → Option Nat → Option Nat → Option Nat → Int32 → Option (Int32 × rc_M)) (w : rc_M) (r1 : Option Nat) (r2 : Option Nat) (r3 : Option Nat) (x4 : Int32) : Option (Int32 × rc_M) :=
  b_law_law_973 sb xs L k23 w r1 r2 r3 x4

def b_law_law_23 (sb : Nat) (xs : Nat → Int32) (L : Nat) : Nat → rc_M → Option Nat → Option Nat → Option Nat → Int32 → Option (Int32 × rc_M)
  | 0, _, _, _, _, _ => none
  | fuel + 1, w, r1, r2, r3, x4 =>
    if ((nI L) - 7) < x4 then
      some (1, w)
    else
      (rc_sc xs L x4).bind fun v2 =>
      if (v2 &&& 15) = 0 then
        (rc_sc xs L (x4 + 1)).bind fun v5 =>
        (rc_sc xs L (x4 + 2)).bind fun v7 =>
        (rc_sc xs L (x4 + 3)).bind fun v9 =>
        (rc_sc xs L (x4 + 4)).bind fun v11 =>
        (rc_sc xs L (x4 + 5)).bind fun v13 =>
        (f_law_feed w r1 v5 v7 v9 v11 v13 r3).bind fun p15 =>
        (rc_sc xs L (x4 + 1)).bind fun v17 =>
        (rc_sc xs L (x4 + 2)).bind fun v19 =>
        (rc_sc xs L (x4 + 3)).bind fun v21 =>
        (rc_sc xs L (x4 + 4)).bind fun v23 =>
        (rc_sc xs L (x4 + 5)).bind fun v25 =>
        (rc_rc p15.2 r2 7).bind fun a27 =>
        (f_mdl_feed p15.2 a27 v17 v19 v21 v23 v25).bind fun p29 =>
        (rc_rc p29.2 r2 7).bind fun a31 =>
        (f_mdl_thrown p29.2 a31).bind fun p33 =>
        if p33.1 = p15.1 then
          if p15.1 = 0 then
            (rc_aL p33.2 r3 0).bind fun v37 =>
            if (lg_cmp v37 p29.1.toInt64) = 0 then
              b_law_law_213 sb xs L (b_law_law_23 sb xs L fuel) p33.2 r1 r2 r3 x4
            else
              some (0, p33.2)
          else
            b_law_law_213 sb xs L (b_law_law_23 sb xs L fuel) p33.2 r1 r2 r3 x4
        else
          some (0, p33.2)
      else
        if (v2 &&& 15) = 1 then
          (rc_sc xs L (x4 + 1)).bind fun v41 =>
          (f_law_end w r1 v41).bind fun p43 =>
          (rc_sc xs L (x4 + 1)).bind fun v45 =>
          (rc_rc p43.2 r2 7).bind fun a47 =>
          (f_mdl_end p43.2 a47 v45).bind fun w49 =>
          (rc_rc w49 r2 7).bind fun a51 =>
          (f_mdl_thrown w49 a51).bind fun p53 =>
          if p53.1 = p43.1 then
            b_law_law_973 sb xs L (b_law_law_23 sb xs L fuel) p53.2 r1 r2 r3 x4
          else
            some (0, p53.2)
        else
          if (v2 &&& 15) = 2 then
            (rc_rc w r1 0).bind fun a57 =>
            (f_rec_raw w a57).bind fun p59 =>
            (rc_rc p59.2 r2 7).bind fun a61 =>
            (f_mdl_raw p59.2 a61).bind fun p63 =>
            if p59.1 = p63.1 then
              b_law_law_973 sb xs L (b_law_law_23 sb xs L fuel) p63.2 r1 r2 r3 x4
            else
              some (0, p63.2)
          else
            if (v2 &&& 15) = 3 then
              (rc_sc xs L (x4 + 1)).bind fun v67 =>
              (f_law_record w r1 v67 r3).bind fun p69 =>
              (rc_sc xs L (x4 + 1)).bind fun v71 =>
              (rc_rc p69.2 r2 7).bind fun a73 =>
              (f_mdl_record p69.2 a73 v71).bind fun p75 =>
              (rc_rc p75.2 r2 7).bind fun a77 =>
              (f_mdl_thrown p75.2 a77).bind fun p79 =>
              if p79.1 = p69.1 then
                if p69.1 = 0 then
                  (rc_aL p79.2 r3 0).bind fun v83 =>
                  if (lg_cmp v83 p75.1.toInt64) = 0 then
                    b_law_law_318 sb xs L (b_law_law_23 sb xs L fuel) p79.2 r1 r2 r3 x4
                  else
                    some (0, p79.2)
                else
                  b_law_law_318 sb xs L (b_law_law_23 sb xs L fuel) p79.2 r1 r2 r3 x4
              else
                some (0, p79.2)
            else
              if (v2 &&& 15) = 4 then
                (rc_sc xs L (x4 + 1)).bind fun v87 =>
                (rc_sc xs L (x4 + 2)).bind fun v89 =>
                (rc_sc xs L (x4 + 3)).bind fun v91 =>
                (rc_sc xs L (x4 + 4)).bind fun v93 =>
                if v93 = 0 then
                  b_law_law_354 sb xs L (b_law_law_23 sb xs L fuel) w r1 r2 r3 x4 r1 v87 v89 v91 0
                else
                  b_law_law_354 sb xs L (b_law_law_23 sb xs L fuel) w r1 r2 r3 x4 r1 v87 v89 v91 1
              else
                if (v2 &&& 15) = 5 then
                  (rc_sc xs L (x4 + 1)).bind fun v97 =>
                  (rc_sc xs L (x4 + 2)).bind fun v99 =>
                  (rc_sc xs L (x4 + 3)).bind fun v101 =>
                  (rc_sc xs L (x4 + 4)).bind fun v103 =>
                  (f_law_push w r1 v97 v99 v101 v103 r3).bind fun p105 =>
                  (rc_sc xs L (x4 + 1)).bind fun v107 =>
                  (rc_sc xs L (x4 + 2)).bind fun v109 =>
                  (rc_sc xs L (x4 + 3)).bind fun v111 =>
                  (rc_sc xs L (x4 + 4)).bind fun v113 =>
                  (rc_rc p105.2 r2 7).bind fun a115 =>
                  (f_mdl_push p105.2 a115 v107 v109 v111 v113).bind fun p117 =>
                  (rc_rc p117.2 r2 7).bind fun a119 =>
                  (f_mdl_thrown p117.2 a119).bind fun p121 =>
                  if p121.1 = p105.1 then
                    if p105.1 = 0 then
                      (rc_aL p121.2 r3 0).bind fun v125 =>
                      if (lg_cmp v125 p117.1.toInt64) = 0 then
                        b_law_law_564 sb xs L (b_law_law_23 sb xs L fuel) p121.2 r1 r2 r3 x4
                      else
                        some (0, p121.2)
                    else
                      b_law_law_564 sb xs L (b_law_law_23 sb xs L fuel) p121.2 r1 r2 r3 x4
                  else
                    some (0, p121.2)
                else
                  if (v2 &&& 15) = 6 then
                    (rc_sc xs L (x4 + 1)).bind fun v129 =>
                    (f_law_open w r1 v129 r3).bind fun p131 =>
                    (rc_sc xs L (x4 + 1)).bind fun v133 =>
                    (rc_rc p131.2 r2 7).bind fun a135 =>
                    (f_mdl_open p131.2 a135 v133).bind fun p137 =>
                    (rc_rc p137.2 r2 7).bind fun a139 =>
                    (f_mdl_thrown p137.2 a139).bind fun p141 =>
                    if p141.1 = p131.1 then
                      if p131.1 = 0 then
                        (rc_aL p141.2 r3 0).bind fun v145 =>
                        if p137.1 = 0 then
                          b_law_law_621 sb xs L (b_law_law_23 sb xs L fuel) p141.2 r1 r2 r3 x4 v145 0
                        else
                          b_law_law_621 sb xs L (b_law_law_23 sb xs L fuel) p141.2 r1 r2 r3 x4 v145 1
                      else
                        b_law_law_627 sb xs L (b_law_law_23 sb xs L fuel) p141.2 r1 r2 r3 x4
                    else
                      some (0, p141.2)
                  else
                    if (v2 &&& 15) = 7 then
                      (rc_sc xs L (x4 + 1)).bind fun v149 =>
                      (f_law_length w r1 v149 r3).bind fun p151 =>
                      (rc_sc xs L (x4 + 1)).bind fun v153 =>
                      (rc_rc p151.2 r2 7).bind fun a155 =>
                      (f_mdl_length p151.2 a155 v153).bind fun p157 =>
                      (rc_rc p157.2 r2 7).bind fun a159 =>
                      (f_mdl_thrown p157.2 a159).bind fun p161 =>
                      if p161.1 = p151.1 then
                        if p151.1 = 0 then
                          (rc_aL p161.2 r3 0).bind fun v165 =>
                          if (lg_cmp v165 p157.1.toInt64) = 0 then
                            b_law_law_683 sb xs L (b_law_law_23 sb xs L fuel) p161.2 r1 r2 r3 x4
                          else
                            some (0, p161.2)
                        else
                          b_law_law_683 sb xs L (b_law_law_23 sb xs L fuel) p161.2 r1 r2 r3 x4
                      else
                        some (0, p161.2)
                    else
                      if (v2 &&& 15) = 8 then
                        (rc_sc xs L (x4 + 1)).bind fun v169 =>
                        (rc_sc xs L (x4 + 2)).bind fun v171 =>
                        (f_law_byteAt w r1 v169 v171 r3).bind fun p173 =>
                        (rc_sc xs L (x4 + 1)).bind fun v175 =>
                        (rc_sc xs L (x4 + 2)).bind fun v177 =>
                        (rc_rc p173.2 r2 7).bind fun a179 =>
                        (f_mdl_byteAt p173.2 a179 v175 v177).bind fun p181 =>
                        (rc_rc p181.2 r2 7).bind fun a183 =>
                        (f_mdl_thrown p181.2 a183).bind fun p185 =>
                        if p185.1 = p173.1 then
                          if p173.1 = 0 then
                            (rc_aL p185.2 r3 0).bind fun v189 =>
                            if (lg_cmp v189 p181.1.toInt64) = 0 then
                              b_law_law_751 sb xs L (b_law_law_23 sb xs L fuel) p185.2 r1 r2 r3 x4
                            else
                              some (0, p185.2)
                          else
                            b_law_law_751 sb xs L (b_law_law_23 sb xs L fuel) p185.2 r1 r2 r3 x4
                        else
                          some (0, p185.2)
                      else
                        if (v2 &&& 15) = 9 then
                          (rc_sc xs L (x4 + 1)).bind fun v193 =>
                          (rc_sc xs L (x4 + 2)).bind fun v195 =>
                          (f_law_word w r1 v193 v195 r3).bind fun p197 =>
                          (rc_sc xs L (x4 + 1)).bind fun v199 =>
                          (rc_sc xs L (x4 + 2)).bind fun v201 =>
                          (rc_rc p197.2 r2 7).bind fun a203 =>
                          (f_mdl_word p197.2 a203 v199 v201).bind fun p205 =>
                          (rc_rc p205.2 r2 7).bind fun a207 =>
                          (f_mdl_thrown p205.2 a207).bind fun p209 =>
                          if p209.1 = p197.1 then
                            if p197.1 = 0 then
                              (rc_aL p209.2 r3 0).bind fun v213 =>
                              if (lg_cmp v213 p205.1.toInt64) = 0 then
                                b_law_law_819 sb xs L (b_law_law_23 sb xs L fuel) p209.2 r1 r2 r3 x4
                              else
                                some (0, p209.2)
                            else
                              b_law_law_819 sb xs L (b_law_law_23 sb xs L fuel) p209.2 r1 r2 r3 x4
                          else
                            some (0, p209.2)
                        else
                          if (v2 &&& 15) = 10 then
                            (rc_sc xs L (x4 + 1)).bind fun v217 =>
                            (rc_sc xs L (x4 + 2)).bind fun v219 =>
                            (f_law_says w r1 v217 v219 r3).bind fun p221 =>
                            (rc_sc xs L (x4 + 1)).bind fun v223 =>
                            (rc_sc xs L (x4 + 2)).bind fun v225 =>
                            (rc_rc p221.2 r2 7).bind fun a227 =>
                            (f_mdl_says p221.2 a227 v223 v225).bind fun p229 =>
                            (rc_rc p229.2 r2 7).bind fun a231 =>
                            (f_mdl_thrown p229.2 a231).bind fun p233 =>
                            if p233.1 = p221.1 then
                              if p221.1 = 0 then
                                (rc_aL p233.2 r3 0).bind fun v237 =>
                                if (lg_cmp v237 p229.1.toInt64) = 0 then
                                  b_law_law_887 sb xs L (b_law_law_23 sb xs L fuel) p233.2 r1 r2 r3 x4
                                else
                                  some (0, p233.2)
                              else
                                b_law_law_887 sb xs L (b_law_law_23 sb xs L fuel) p233.2 r1 r2 r3 x4
                            else
                              some (0, p233.2)
                          else
                            if (v2 &&& 15) = 11 then
                              (rc_rc w r1 0).bind fun a241 =>
                              (f_rec_value w a241).bind fun p243 =>
                              (rc_rc p243.2 r2 7).bind fun a245 =>
                              (f_mdl_value p243.2 a245).bind fun p247 =>
                              if (lg_cmp p243.1 p247.1) = 0 then
                                b_law_law_973 sb xs L (b_law_law_23 sb xs L fuel) p247.2 r1 r2 r3 x4
                              else
                                some (0, p247.2)
                            else
                              if (v2 &&& 15) = 12 then
                                (rc_rc w r1 0).bind fun a251 =>
                                (f_rec_has w a251).bind fun p253 =>
                                (rc_rc p253.2 r2 7).bind fun a255 =>
                                (f_mdl_has p253.2 a255).bind fun p257 =>
                                if p253.1 = p257.1 then
                                  b_law_law_973 sb xs L (b_law_law_23 sb xs L fuel) p257.2 r1 r2 r3 x4
                                else
                                  some (0, p257.2)
                              else
                                if (v2 &&& 15) = 13 then
                                  (rc_sc xs L (x4 + 1)).bind fun v261 =>
                                  (f_law_count w r1 v261 r3).bind fun p263 =>
                                  (rc_sc xs L (x4 + 1)).bind fun v265 =>
                                  (rc_rc p263.2 r2 7).bind fun a267 =>
                                  (f_mdl_count p263.2 a267 v265).bind fun p269 =>
                                  (rc_rc p269.2 r2 7).bind fun a271 =>
                                  (f_mdl_thrown p269.2 a271).bind fun p273 =>
                                  if p273.1 = p263.1 then
                                    if p263.1 = 0 then
                                      (rc_aL p273.2 r3 0).bind fun v277 =>
                                      if (lg_cmp v277 p269.1.toInt64) = 0 then
                                        b_law_law_970 sb xs L (b_law_law_23 sb xs L fuel) p273.2 r1 r2 r3 x4
                                      else
                                        some (0, p273.2)
                                    else
                                      b_law_law_970 sb xs L (b_law_law_23 sb xs L fuel) p273.2 r1 r2 r3 x4
                                  else
                                    some (0, p273.2)
                                else
                                  b_law_law_973 sb xs L (b_law_law_23 sb xs L fuel) w r1 r2 r3 x4

def f_law_law (w : rc_M) (sb : Nat) (xs : Nat → Int32) (L : Nat) : Option (Int32 × rc_M) :=
  (rc_new w 0).bind fun p1 =>
  (f_rec_init p1.2 p1.1).bind fun w3 =>
  (rc_new w3 7).bind fun p5 =>
  (f_mdl_init p5.2 p5.1).bind fun w7 =>
  (rc_newA w7 1 1).bind fun p9 =>
  b_law_law_23 sb xs L 5000 p9.2 (some p1.1) (some p5.1) (some p9.1) 0

set_option maxRecDepth 100000 in
set_option maxHeartbeats 4000000 in
theorem k_law_law_973 {X : rc_X} {w0 : rc_M} (hF : (q_R X).frames = 12) (hL : (q_R X).locals = 488) (hN : q_n X = 7) (C : rc_C X "RecordCallsLaw" code w0) {res : Int32 × rc_M} (E : rc_EL X res) (S0 : rc_S0 (q_s X)) (hfl : (q_l X).flags = flags0) {sb L : Nat} {xs : Nat → Int32} (hX : va_X sb L xs (q_s X) (q_s X).heap) (hsb : sb < (q_s X).heap.size ∧ sb < rc_b (q_G X)) {k23 : rc_M → Option Nat → Option Nat → Option Nat → Int32 → Option (Int32 × rc_M)} (hk23 : ∀ (w : rc_M) (r1 : Option Nat) (r2 : Option Nat) (r3 : Option Nat) (x4 : Int32), k23 w r1 r2 r3 x4 = some res → rc_J X w 23 [] [(0, va_rf (some sb)), (1, va_rf r1), (2, va_rf r2), (3, va_rf r3), (4, .int x4)]) {w : rc_M} {r1 : Option Nat} {r2 : Option Nat} {r3 : Option Nat} {x4 : Int32} (h : b_law_law_973 sb xs L k23 w r1 r2 r3 x4 = some res) : rc_J X w 973 [] [(0, va_rf (some sb)), (1, va_rf r1), (2, va_rf r2), (3, va_rf r3), (4, .int x4)] := by
  unfold b_law_law_973 at h
  refine j_iinc C d_law_law_973 rfl 4 [(4, .int (x4 + 7)), (0, va_rf (some sb)), (1, va_rf r1), (2, va_rf r2), (3, va_rf r3)] rfl rfl (rc_lt hN (by decide)) (by first | rfl | simp [va_rf_cat, rc_cat_i, rc_cat_l]) ?_
  refine j_goto (tgt := 23) C d_law_law_976 (by decide) ?_
  refine rc_J.sub (lv' := [(0, va_rf (some sb)), (1, va_rf r1), (2, va_rf r2), (3, va_rf r3), (4, .int (x4 + 7))]) [1, 2, 3, 4, 0] rfl ?_
  exact hk23 _ _ _ _ _ h

set_option maxRecDepth 100000 in
set_option maxHeartbeats 4000000 in
theorem k_law_law_213 {X : rc_X} {w0 : rc_M} (hF : (q_R X).frames = 12) (hL : (q_R X).locals = 488) (hN : q_n X = 7) (C : rc_C X "RecordCallsLaw" code w0) {res : Int32 × rc_M} (E : rc_EL X res) (S0 : rc_S0 (q_s X)) (hfl : (q_l X).flags = flags0) {sb L : Nat} {xs : Nat → Int32} (hX : va_X sb L xs (q_s X) (q_s X).heap) (hsb : sb < (q_s X).heap.size ∧ sb < rc_b (q_G X)) {k23 : rc_M → Option Nat → Option Nat → Option Nat → Int32 → Option (Int32 × rc_M)} (hk23 : ∀ (w : rc_M) (r1 : Option Nat) (r2 : Option Nat) (r3 : Option Nat) (x4 : Int32), k23 w r1 r2 r3 x4 = some res → rc_J X w 23 [] [(0, va_rf (some sb)), (1, va_rf r1), (2, va_rf r2), (3, va_rf r3), (4, .int x4)]) {w : rc_M} {r1 : Option Nat} {r2 : Option Nat} {r3 : Option Nat} {x4 : Int32} (h : b_law_law_213 sb xs L k23 w r1 r2 r3 x4 = some res) : rc_J X w 213 [] [(0, va_rf (some sb)), (1, va_rf r1), (2, va_rf r2), (3, va_rf r3), (4, .int x4)] := by
  unfold b_law_law_213 at h
  refine j_goto (tgt := 973) C d_law_law_213 (by decide) ?_
  exact k_law_law_973 hF hL hN C E S0 hfl hX hsb hk23 h

set_option maxRecDepth 100000 in
set_option maxHeartbeats 4000000 in
theorem k_law_law_318 {X : rc_X} {w0 : rc_M} (hF : (q_R X).frames = 12) (hL : (q_R X).locals = 488) (hN : q_n X = 7) (C : rc_C X "RecordCallsLaw" code w0) {res : Int32 × rc_M} (E : rc_EL X res) (S0 : rc_S0 (q_s X)) (hfl : (q_l X).flags = flags0) {sb L : Nat} {xs : Nat → Int32} (hX : va_X sb L xs (q_s X) (q_s X).heap) (hsb : sb < (q_s X).heap.size ∧ sb < rc_b (q_G X)) {k23 : rc_M → Option Nat → Option Nat → Option Nat → Int32 → Option (Int32 × rc_M)} (hk23 : ∀ (w : rc_M) (r1 : Option Nat) (r2 : Option Nat) (r3 : Option Nat) (x4 : Int32), k23 w r1 r2 r3 x4 = some res → rc_J X w 23 [] [(0, va_rf (some sb)), (1, va_rf r1), (2, va_rf r2), (3, va_rf r3), (4, .int x4)]) {w : rc_M} {r1 : Option Nat} {r2 : Option Nat} {r3 : Option Nat} {x4 : Int32} (h : b_law_law_318 sb xs L k23 w r1 r2 r3 x4 = some res) : rc_J X w 318 [] [(0, va_rf (some sb)), (1, va_rf r1), (2, va_rf r2), (3, va_rf r3), (4, .int x4)] := by
  unfold b_law_law_318 at h
  refine j_goto (tgt := 973) C d_law_law_318 (by decide) ?_
  exact k_law_law_973 hF hL hN C E S0 hfl hX hsb hk23 h

set_option maxRecDepth 100000 in
set_option maxHeartbeats 4000000 in
theorem k_law_law_472 {X : rc_X} {w0 : rc_M} (hF : (q_R X).frames = 12) (hL : (q_R X).locals = 488) (hN : q_n X = 7) (C : rc_C X "RecordCallsLaw" code w0) {res : Int32 × rc_M} (E : rc_EL X res) (S0 : rc_S0 (q_s X)) (hfl : (q_l X).flags = flags0) {sb L : Nat} {xs : Nat → Int32} (hX : va_X sb L xs (q_s X) (q_s X).heap) (hsb : sb < (q_s X).heap.size ∧ sb < rc_b (q_G X)) {k23 : rc_M → Option Nat → Option Nat → Option Nat → Int32 → Option (Int32 × rc_M)} (hk23 : ∀ (w : rc_M) (r1 : Option Nat) (r2 : Option Nat) (r3 : Option Nat) (x4 : Int32), k23 w r1 r2 r3 x4 = some res → rc_J X w 23 [] [(0, va_rf (some sb)), (1, va_rf r1), (2, va_rf r2), (3, va_rf r3), (4, .int x4)]) {w : rc_M} {r1 : Option Nat} {r2 : Option Nat} {r3 : Option Nat} {x4 : Int32} (h : b_law_law_472 sb xs L k23 w r1 r2 r3 x4 = some res) : rc_J X w 472 [] [(0, va_rf (some sb)), (1, va_rf r1), (2, va_rf r2), (3, va_rf r3), (4, .int x4)] := by
  unfold b_law_law_472 at h
  refine j_goto (tgt := 973) C d_law_law_472 (by decide) ?_
  exact k_law_law_973 hF hL hN C E S0 hfl hX hsb hk23 h

set_option maxRecDepth 100000 in
set_option maxHeartbeats 4000000 in
theorem k_law_law_416 {X : rc_X} {w0 : rc_M} (hF : (q_R X).frames = 12) (hL : (q_R X).locals = 488) (hN : q_n X = 7) (C : rc_C X "RecordCallsLaw" code w0) {res : Int32 × rc_M} (E : rc_EL X res) (S0 : rc_S0 (q_s X)) (hfl : (q_l X).flags = flags0) {sb L : Nat} {xs : Nat → Int32} (hX : va_X sb L xs (q_s X) (q_s X).heap) (hsb : sb < (q_s X).heap.size ∧ sb < rc_b (q_G X)) {k23 : rc_M → Option Nat → Option Nat → Option Nat → Int32 → Option (Int32 × rc_M)} (hk23 : ∀ (w : rc_M) (r1 : Option Nat) (r2 : Option Nat) (r3 : Option Nat) (x4 : Int32), k23 w r1 r2 r3 x4 = some res → rc_J X w 23 [] [(0, va_rf (some sb)), (1, va_rf r1), (2, va_rf r2), (3, va_rf r3), (4, .int x4)]) {w : rc_M} {r1 : Option Nat} {r2 : Option Nat} {r3 : Option Nat} {x4 : Int32} {x5 : Int32} {s0 : Option Nat} {s1 : Int32} {s2 : Int32} {s3 : Int32} {s4 : Int32} (h : b_law_law_416 sb xs L k23 w r1 r2 r3 x4 x5 s0 s1 s2 s3 s4 = some res) : rc_J X w 416 [.int s4, .int s3, .int s2, .int s1, va_rf s0] [(0, va_rf (some sb)), (1, va_rf r1), (2, va_rf r2), (3, va_rf r3), (4, .int x4), (5, .int x5)] := by
  unfold b_law_law_416 at h
  refine j_aload_n C d_law_law_416 rfl 0 rfl ?_
  refine j_iload C d_law_law_417 rfl 4 rfl ?_
  refine j_iconst (v := 5) C d_law_law_419 rfl (by decide) ?_
  refine j_iadd C d_law_law_420 rfl ?_
  obtain ⟨v1, h2, h⟩ := Option.bind_eq_some_iff.mp h
  refine j_sld C hX hsb h2 d_law_law_421 rfl ?_
  refine j_i2l C d_law_law_422 rfl ?_
  refine j_bipush (v := 32) C d_law_law_423 rfl (by decide) ?_
  refine j_lshl C d_law_law_425 rfl ?_
  refine j_aload_n C d_law_law_426 rfl 0 rfl ?_
  refine j_iload C d_law_law_427 rfl 4 rfl ?_
  refine j_bipush (v := 6) C d_law_law_429 rfl (by decide) ?_
  refine j_iadd C d_law_law_431 rfl ?_
  obtain ⟨v3, h4, h⟩ := Option.bind_eq_some_iff.mp h
  refine j_sld C hX hsb h4 d_law_law_432 rfl ?_
  refine j_i2l C d_law_law_433 rfl ?_
  refine j_ldc2 C d_law_law_434 rfl T_1005 ?_
  refine j_land C d_law_law_437 rfl ?_
  refine j_lor C d_law_law_438 rfl ?_
  obtain ⟨a5, h6, h⟩ := Option.bind_eq_some_iff.mp h
  obtain ⟨p7, h8, h⟩ := Option.bind_eq_some_iff.mp h
  refine j_callV C (As := [.int s1, .int s2, .int s3, .int s4, .long ((v1.toInt64 <<< ((32 : Int32).toInt64 &&& 63)) ||| (v3.toInt64 &&& 4294967295))]) (st := []) (sk' := [.int p7.1]) mk_mdl_call (Or.inl T_851) T_852 T_853 (ci := 7) rfl h6 (rc_le hF (by decide)) (rc_le hL (by decide)) (ct_mdl_call h8) rfl rfl (by decide) d_law_law_439 rfl rfl ?_
  refine j_istore C (i := 6) d_law_law_442 rfl [(6, .int p7.1), (0, va_rf (some sb)), (1, va_rf r1), (2, va_rf r2), (3, va_rf r3), (4, .int x4), (5, .int x5)] (rc_lt hN (by decide)) (by first | rfl | simp [va_rf_cat, rc_cat_i, rc_cat_l]) ?_
  refine j_aload_n C d_law_law_444 rfl 3 rfl ?_
  obtain ⟨a9, h10, h⟩ := Option.bind_eq_some_iff.mp h
  obtain ⟨p11, h12, h⟩ := Option.bind_eq_some_iff.mp h
  refine j_callV C (As := []) (st := []) (sk' := [.int p11.1]) mk_mdl_thrown (Or.inl T_823) T_824 T_825 (ci := 7) rfl h10 (rc_le hF (by decide)) (rc_le hL (by decide)) (ct_mdl_thrown h12) rfl rfl (by decide) d_law_law_445 rfl rfl ?_
  refine j_iload C d_law_law_448 rfl 6 rfl ?_
  refine j_icmp_eq (tgt := 455) C d_law_law_450 (by decide) rfl (fun c13 => ?_) (fun c13 => ?_)
  · rw [if_pos c13] at h
    refine j_iload C d_law_law_455 rfl 6 rfl ?_
    refine j_if_ne (tgt := 472) C d_law_law_457 (by decide) rfl (fun c14 => ?_) (fun c14 => ?_)
    · rw [if_neg c14] at h
      refine rc_J.sub (lv' := [(0, va_rf (some sb)), (1, va_rf r1), (2, va_rf r2), (3, va_rf r3), (4, .int x4)]) [1, 2, 3, 4, 5] rfl ?_
      exact k_law_law_472 hF hL hN C E S0 hfl hX hsb hk23 h
    · rw [if_pos c14] at h
      refine j_aload_n C d_law_law_460 rfl 4 rfl ?_
      refine j_iconst (v := 0) C d_law_law_461 rfl (by decide) ?_
      obtain ⟨v15, h16, h⟩ := Option.bind_eq_some_iff.mp h
      refine j_lald C h16 d_law_law_462 rfl ?_
      refine j_iload C d_law_law_463 rfl 0 rfl ?_
      refine j_i2l C d_law_law_465 rfl ?_
      refine j_lcmp C d_law_law_466 rfl ?_
      refine j_if_eq (tgt := 472) C d_law_law_467 (by decide) rfl (fun c17 => ?_) (fun c17 => ?_)
      · rw [if_pos c17] at h
        refine rc_J.sub (lv' := [(0, va_rf (some sb)), (1, va_rf r1), (2, va_rf r2), (3, va_rf r3), (4, .int x4)]) [1, 2, 3, 4, 5] rfl ?_
        exact k_law_law_472 hF hL hN C E S0 hfl hX hsb hk23 h
      · rw [if_neg c17] at h
        refine j_iconst (v := 0) C d_law_law_470 rfl (by decide) ?_
        cases h
        exact j_lawret C E d_law_law_471
  · rw [if_neg c13] at h
    refine j_iconst (v := 0) C d_law_law_453 rfl (by decide) ?_
    cases h
    exact j_lawret C E d_law_law_454

set_option maxRecDepth 100000 in
set_option maxHeartbeats 4000000 in
theorem k_law_law_354 {X : rc_X} {w0 : rc_M} (hF : (q_R X).frames = 12) (hL : (q_R X).locals = 488) (hN : q_n X = 7) (C : rc_C X "RecordCallsLaw" code w0) {res : Int32 × rc_M} (E : rc_EL X res) (S0 : rc_S0 (q_s X)) (hfl : (q_l X).flags = flags0) {sb L : Nat} {xs : Nat → Int32} (hX : va_X sb L xs (q_s X) (q_s X).heap) (hsb : sb < (q_s X).heap.size ∧ sb < rc_b (q_G X)) {k23 : rc_M → Option Nat → Option Nat → Option Nat → Int32 → Option (Int32 × rc_M)} (hk23 : ∀ (w : rc_M) (r1 : Option Nat) (r2 : Option Nat) (r3 : Option Nat) (x4 : Int32), k23 w r1 r2 r3 x4 = some res → rc_J X w 23 [] [(0, va_rf (some sb)), (1, va_rf r1), (2, va_rf r2), (3, va_rf r3), (4, .int x4)]) {w : rc_M} {r1 : Option Nat} {r2 : Option Nat} {r3 : Option Nat} {x4 : Int32} {s0 : Option Nat} {s1 : Int32} {s2 : Int32} {s3 : Int32} {s4 : Int32} (h : b_law_law_354 sb xs L k23 w r1 r2 r3 x4 s0 s1 s2 s3 s4 = some res) : rc_J X w 354 [.int s4, .int s3, .int s2, .int s1, va_rf s0] [(0, va_rf (some sb)), (1, va_rf r1), (2, va_rf r2), (3, va_rf r3), (4, .int x4)] := by
  unfold b_law_law_354 at h
  refine j_aload_n C d_law_law_354 rfl 0 rfl ?_
  refine j_iload C d_law_law_355 rfl 4 rfl ?_
  refine j_iconst (v := 5) C d_law_law_357 rfl (by decide) ?_
  refine j_iadd C d_law_law_358 rfl ?_
  obtain ⟨v1, h2, h⟩ := Option.bind_eq_some_iff.mp h
  refine j_sld C hX hsb h2 d_law_law_359 rfl ?_
  refine j_i2l C d_law_law_360 rfl ?_
  refine j_bipush (v := 32) C d_law_law_361 rfl (by decide) ?_
  refine j_lshl C d_law_law_363 rfl ?_
  refine j_aload_n C d_law_law_364 rfl 0 rfl ?_
  refine j_iload C d_law_law_365 rfl 4 rfl ?_
  refine j_bipush (v := 6) C d_law_law_367 rfl (by decide) ?_
  refine j_iadd C d_law_law_369 rfl ?_
  obtain ⟨v3, h4, h⟩ := Option.bind_eq_some_iff.mp h
  refine j_sld C hX hsb h4 d_law_law_370 rfl ?_
  refine j_i2l C d_law_law_371 rfl ?_
  refine j_ldc2 C d_law_law_372 rfl T_1005 ?_
  refine j_land C d_law_law_375 rfl ?_
  refine j_lor C d_law_law_376 rfl ?_
  refine j_aload_n C d_law_law_377 rfl 3 rfl ?_
  obtain ⟨p5, h6, h⟩ := Option.bind_eq_some_iff.mp h
  refine j_callSH C S0 (As := [va_rf s0, .int s1, .int s2, .int s3, .int s4, .long ((v1.toInt64 <<< ((32 : Int32).toInt64 &&& 63)) ||| (v3.toInt64 &&& 4294967295)), va_rf r3]) (st := []) (sk' := [.int p5.1]) mk_law_call T_402 T_403 (rc_le hF (by decide)) (rc_le hL (by decide)) (ct_law_call hfl h6) rfl rfl (by decide) d_law_law_378 rfl rfl ?_
  refine j_istore C (i := 5) d_law_law_381 rfl [(5, .int p5.1), (0, va_rf (some sb)), (1, va_rf r1), (2, va_rf r2), (3, va_rf r3), (4, .int x4)] (rc_lt hN (by decide)) (by first | rfl | simp [va_rf_cat, rc_cat_i, rc_cat_l]) ?_
  refine j_aload_n C d_law_law_383 rfl 3 rfl ?_
  refine j_aload_n C d_law_law_384 rfl 1 rfl ?_
  refine j_iload C d_law_law_385 rfl 5 rfl ?_
  refine j_iconst (v := 1) C d_law_law_387 rfl (by decide) ?_
  refine j_iadd C d_law_law_388 rfl ?_
  obtain ⟨v7, h8, h⟩ := Option.bind_eq_some_iff.mp h
  refine j_sld C hX hsb h8 d_law_law_389 rfl ?_
  refine j_aload_n C d_law_law_390 rfl 1 rfl ?_
  refine j_iload C d_law_law_391 rfl 5 rfl ?_
  refine j_iconst (v := 2) C d_law_law_393 rfl (by decide) ?_
  refine j_iadd C d_law_law_394 rfl ?_
  obtain ⟨v9, h10, h⟩ := Option.bind_eq_some_iff.mp h
  refine j_sld C hX hsb h10 d_law_law_395 rfl ?_
  refine j_aload_n C d_law_law_396 rfl 1 rfl ?_
  refine j_iload C d_law_law_397 rfl 5 rfl ?_
  refine j_iconst (v := 3) C d_law_law_399 rfl (by decide) ?_
  refine j_iadd C d_law_law_400 rfl ?_
  obtain ⟨v11, h12, h⟩ := Option.bind_eq_some_iff.mp h
  refine j_sld C hX hsb h12 d_law_law_401 rfl ?_
  refine j_aload_n C d_law_law_402 rfl 1 rfl ?_
  refine j_iload C d_law_law_403 rfl 5 rfl ?_
  refine j_iconst (v := 4) C d_law_law_405 rfl (by decide) ?_
  refine j_iadd C d_law_law_406 rfl ?_
  obtain ⟨v13, h14, h⟩ := Option.bind_eq_some_iff.mp h
  refine j_sld C hX hsb h14 d_law_law_407 rfl ?_
  refine j_if_eq (tgt := 415) C d_law_law_408 (by decide) rfl (fun c15 => ?_) (fun c15 => ?_)
  · rw [if_pos c15] at h
    refine j_iconst (v := 0) C d_law_law_415 rfl (by decide) ?_
    refine rc_J.sub (lv' := [(0, va_rf (some sb)), (1, va_rf r1), (2, va_rf r2), (3, va_rf r3), (4, .int x4), (5, .int p5.1)]) [1, 2, 3, 4, 5, 0] rfl ?_
    exact k_law_law_416 hF hL hN C E S0 hfl hX hsb hk23 h
  · rw [if_neg c15] at h
    refine j_iconst (v := 1) C d_law_law_411 rfl (by decide) ?_
    refine j_goto (tgt := 416) C d_law_law_412 (by decide) ?_
    refine rc_J.sub (lv' := [(0, va_rf (some sb)), (1, va_rf r1), (2, va_rf r2), (3, va_rf r3), (4, .int x4), (5, .int p5.1)]) [1, 2, 3, 4, 5, 0] rfl ?_
    exact k_law_law_416 hF hL hN C E S0 hfl hX hsb hk23 h

set_option maxRecDepth 100000 in
set_option maxHeartbeats 4000000 in
theorem k_law_law_564 {X : rc_X} {w0 : rc_M} (hF : (q_R X).frames = 12) (hL : (q_R X).locals = 488) (hN : q_n X = 7) (C : rc_C X "RecordCallsLaw" code w0) {res : Int32 × rc_M} (E : rc_EL X res) (S0 : rc_S0 (q_s X)) (hfl : (q_l X).flags = flags0) {sb L : Nat} {xs : Nat → Int32} (hX : va_X sb L xs (q_s X) (q_s X).heap) (hsb : sb < (q_s X).heap.size ∧ sb < rc_b (q_G X)) {k23 : rc_M → Option Nat → Option Nat → Option Nat → Int32 → Option (Int32 × rc_M)} (hk23 : ∀ (w : rc_M) (r1 : Option Nat) (r2 : Option Nat) (r3 : Option Nat) (x4 : Int32), k23 w r1 r2 r3 x4 = some res → rc_J X w 23 [] [(0, va_rf (some sb)), (1, va_rf r1), (2, va_rf r2), (3, va_rf r3), (4, .int x4)]) {w : rc_M} {r1 : Option Nat} {r2 : Option Nat} {r3 : Option Nat} {x4 : Int32} (h : b_law_law_564 sb xs L k23 w r1 r2 r3 x4 = some res) : rc_J X w 564 [] [(0, va_rf (some sb)), (1, va_rf r1), (2, va_rf r2), (3, va_rf r3), (4, .int x4)] := by
  unfold b_law_law_564 at h
  refine j_goto (tgt := 973) C d_law_law_564 (by decide) ?_
  exact k_law_law_973 hF hL hN C E S0 hfl hX hsb hk23 h

set_option maxRecDepth 100000 in
set_option maxHeartbeats 4000000 in
theorem k_law_law_627 {X : rc_X} {w0 : rc_M} (hF : (q_R X).frames = 12) (hL : (q_R X).locals = 488) (hN : q_n X = 7) (C : rc_C X "RecordCallsLaw" code w0) {res : Int32 × rc_M} (E : rc_EL X res) (S0 : rc_S0 (q_s X)) (hfl : (q_l X).flags = flags0) {sb L : Nat} {xs : Nat → Int32} (hX : va_X sb L xs (q_s X) (q_s X).heap) (hsb : sb < (q_s X).heap.size ∧ sb < rc_b (q_G X)) {k23 : rc_M → Option Nat → Option Nat → Option Nat → Int32 → Option (Int32 × rc_M)} (hk23 : ∀ (w : rc_M) (r1 : Option Nat) (r2 : Option Nat) (r3 : Option Nat) (x4 : Int32), k23 w r1 r2 r3 x4 = some res → rc_J X w 23 [] [(0, va_rf (some sb)), (1, va_rf r1), (2, va_rf r2), (3, va_rf r3), (4, .int x4)]) {w : rc_M} {r1 : Option Nat} {r2 : Option Nat} {r3 : Option Nat} {x4 : Int32} (h : b_law_law_627 sb xs L k23 w r1 r2 r3 x4 = some res) : rc_J X w 627 [] [(0, va_rf (some sb)), (1, va_rf r1), (2, va_rf r2), (3, va_rf r3), (4, .int x4)] := by
  unfold b_law_law_627 at h
  refine j_goto (tgt := 973) C d_law_law_627 (by decide) ?_
  exact k_law_law_973 hF hL hN C E S0 hfl hX hsb hk23 h

set_option maxRecDepth 100000 in
set_option maxHeartbeats 4000000 in
theorem k_law_law_621 {X : rc_X} {w0 : rc_M} (hF : (q_R X).frames = 12) (hL : (q_R X).locals = 488) (hN : q_n X = 7) (C : rc_C X "RecordCallsLaw" code w0) {res : Int32 × rc_M} (E : rc_EL X res) (S0 : rc_S0 (q_s X)) (hfl : (q_l X).flags = flags0) {sb L : Nat} {xs : Nat → Int32} (hX : va_X sb L xs (q_s X) (q_s X).heap) (hsb : sb < (q_s X).heap.size ∧ sb < rc_b (q_G X)) {k23 : rc_M → Option Nat → Option Nat → Option Nat → Int32 → Option (Int32 × rc_M)} (hk23 : ∀ (w : rc_M) (r1 : Option Nat) (r2 : Option Nat) (r3 : Option Nat) (x4 : Int32), k23 w r1 r2 r3 x4 = some res → rc_J X w 23 [] [(0, va_rf (some sb)), (1, va_rf r1), (2, va_rf r2), (3, va_rf r3), (4, .int x4)]) {w : rc_M} {r1 : Option Nat} {r2 : Option Nat} {r3 : Option Nat} {x4 : Int32} {s0 : Int64} {s1 : Int64} (h : b_law_law_621 sb xs L k23 w r1 r2 r3 x4 s0 s1 = some res) : rc_J X w 621 [.long s1, .long s0] [(0, va_rf (some sb)), (1, va_rf r1), (2, va_rf r2), (3, va_rf r3), (4, .int x4)] := by
  unfold b_law_law_621 at h
  refine j_lcmp C d_law_law_621 rfl ?_
  refine j_if_eq (tgt := 627) C d_law_law_622 (by decide) rfl (fun c1 => ?_) (fun c1 => ?_)
  · rw [if_pos c1] at h
    exact k_law_law_627 hF hL hN C E S0 hfl hX hsb hk23 h
  · rw [if_neg c1] at h
    refine j_iconst (v := 0) C d_law_law_625 rfl (by decide) ?_
    cases h
    exact j_lawret C E d_law_law_626

set_option maxRecDepth 100000 in
set_option maxHeartbeats 4000000 in
theorem k_law_law_683 {X : rc_X} {w0 : rc_M} (hF : (q_R X).frames = 12) (hL : (q_R X).locals = 488) (hN : q_n X = 7) (C : rc_C X "RecordCallsLaw" code w0) {res : Int32 × rc_M} (E : rc_EL X res) (S0 : rc_S0 (q_s X)) (hfl : (q_l X).flags = flags0) {sb L : Nat} {xs : Nat → Int32} (hX : va_X sb L xs (q_s X) (q_s X).heap) (hsb : sb < (q_s X).heap.size ∧ sb < rc_b (q_G X)) {k23 : rc_M → Option Nat → Option Nat → Option Nat → Int32 → Option (Int32 × rc_M)} (hk23 : ∀ (w : rc_M) (r1 : Option Nat) (r2 : Option Nat) (r3 : Option Nat) (x4 : Int32), k23 w r1 r2 r3 x4 = some res → rc_J X w 23 [] [(0, va_rf (some sb)), (1, va_rf r1), (2, va_rf r2), (3, va_rf r3), (4, .int x4)]) {w : rc_M} {r1 : Option Nat} {r2 : Option Nat} {r3 : Option Nat} {x4 : Int32} (h : b_law_law_683 sb xs L k23 w r1 r2 r3 x4 = some res) : rc_J X w 683 [] [(0, va_rf (some sb)), (1, va_rf r1), (2, va_rf r2), (3, va_rf r3), (4, .int x4)] := by
  unfold b_law_law_683 at h
  refine j_goto (tgt := 973) C d_law_law_683 (by decide) ?_
  exact k_law_law_973 hF hL hN C E S0 hfl hX hsb hk23 h

set_option maxRecDepth 100000 in
set_option maxHeartbeats 4000000 in
theorem k_law_law_751 {X : rc_X} {w0 : rc_M} (hF : (q_R X).frames = 12) (hL : (q_R X).locals = 488) (hN : q_n X = 7) (C : rc_C X "RecordCallsLaw" code w0) {res : Int32 × rc_M} (E : rc_EL X res) (S0 : rc_S0 (q_s X)) (hfl : (q_l X).flags = flags0) {sb L : Nat} {xs : Nat → Int32} (hX : va_X sb L xs (q_s X) (q_s X).heap) (hsb : sb < (q_s X).heap.size ∧ sb < rc_b (q_G X)) {k23 : rc_M → Option Nat → Option Nat → Option Nat → Int32 → Option (Int32 × rc_M)} (hk23 : ∀ (w : rc_M) (r1 : Option Nat) (r2 : Option Nat) (r3 : Option Nat) (x4 : Int32), k23 w r1 r2 r3 x4 = some res → rc_J X w 23 [] [(0, va_rf (some sb)), (1, va_rf r1), (2, va_rf r2), (3, va_rf r3), (4, .int x4)]) {w : rc_M} {r1 : Option Nat} {r2 : Option Nat} {r3 : Option Nat} {x4 : Int32} (h : b_law_law_751 sb xs L k23 w r1 r2 r3 x4 = some res) : rc_J X w 751 [] [(0, va_rf (some sb)), (1, va_rf r1), (2, va_rf r2), (3, va_rf r3), (4, .int x4)] := by
  unfold b_law_law_751 at h
  refine j_goto (tgt := 973) C d_law_law_751 (by decide) ?_
  exact k_law_law_973 hF hL hN C E S0 hfl hX hsb hk23 h

set_option maxRecDepth 100000 in
set_option maxHeartbeats 4000000 in
theorem k_law_law_819 {X : rc_X} {w0 : rc_M} (hF : (q_R X).frames = 12) (hL : (q_R X).locals = 488) (hN : q_n X = 7) (C : rc_C X "RecordCallsLaw" code w0) {res : Int32 × rc_M} (E : rc_EL X res) (S0 : rc_S0 (q_s X)) (hfl : (q_l X).flags = flags0) {sb L : Nat} {xs : Nat → Int32} (hX : va_X sb L xs (q_s X) (q_s X).heap) (hsb : sb < (q_s X).heap.size ∧ sb < rc_b (q_G X)) {k23 : rc_M → Option Nat → Option Nat → Option Nat → Int32 → Option (Int32 × rc_M)} (hk23 : ∀ (w : rc_M) (r1 : Option Nat) (r2 : Option Nat) (r3 : Option Nat) (x4 : Int32), k23 w r1 r2 r3 x4 = some res → rc_J X w 23 [] [(0, va_rf (some sb)), (1, va_rf r1), (2, va_rf r2), (3, va_rf r3), (4, .int x4)]) {w : rc_M} {r1 : Option Nat} {r2 : Option Nat} {r3 : Option Nat} {x4 : Int32} (h : b_law_law_819 sb xs L k23 w r1 r2 r3 x4 = some res) : rc_J X w 819 [] [(0, va_rf (some sb)), (1, va_rf r1), (2, va_rf r2), (3, va_rf r3), (4, .int x4)] := by
  unfold b_law_law_819 at h
  refine j_goto (tgt := 973) C d_law_law_819 (by decide) ?_
  exact k_law_law_973 hF hL hN C E S0 hfl hX hsb hk23 h

set_option maxRecDepth 100000 in
set_option maxHeartbeats 4000000 in
theorem k_law_law_887 {X : rc_X} {w0 : rc_M} (hF : (q_R X).frames = 12) (hL : (q_R X).locals = 488) (hN : q_n X = 7) (C : rc_C X "RecordCallsLaw" code w0) {res : Int32 × rc_M} (E : rc_EL X res) (S0 : rc_S0 (q_s X)) (hfl : (q_l X).flags = flags0) {sb L : Nat} {xs : Nat → Int32} (hX : va_X sb L xs (q_s X) (q_s X).heap) (hsb : sb < (q_s X).heap.size ∧ sb < rc_b (q_G X)) {k23 : rc_M → Option Nat → Option Nat → Option Nat → Int32 → Option (Int32 × rc_M)} (hk23 : ∀ (w : rc_M) (r1 : Option Nat) (r2 : Option Nat) (r3 : Option Nat) (x4 : Int32), k23 w r1 r2 r3 x4 = some res → rc_J X w 23 [] [(0, va_rf (some sb)), (1, va_rf r1), (2, va_rf r2), (3, va_rf r3), (4, .int x4)]) {w : rc_M} {r1 : Option Nat} {r2 : Option Nat} {r3 : Option Nat} {x4 : Int32} (h : b_law_law_887 sb xs L k23 w r1 r2 r3 x4 = some res) : rc_J X w 887 [] [(0, va_rf (some sb)), (1, va_rf r1), (2, va_rf r2), (3, va_rf r3), (4, .int x4)] := by
  unfold b_law_law_887 at h
  refine j_goto (tgt := 973) C d_law_law_887 (by decide) ?_
  exact k_law_law_973 hF hL hN C E S0 hfl hX hsb hk23 h

set_option maxRecDepth 100000 in
set_option maxHeartbeats 4000000 in
theorem k_law_law_970 {X : rc_X} {w0 : rc_M} (hF : (q_R X).frames = 12) (hL : (q_R X).locals = 488) (hN : q_n X = 7) (C : rc_C X "RecordCallsLaw" code w0) {res : Int32 × rc_M} (E : rc_EL X res) (S0 : rc_S0 (q_s X)) (hfl : (q_l X).flags = flags0) {sb L : Nat} {xs : Nat → Int32} (hX : va_X sb L xs (q_s X) (q_s X).heap) (hsb : sb < (q_s X).heap.size ∧ sb < rc_b (q_G X)) {k23 : rc_M → Option Nat → Option Nat → Option Nat → Int32 → Option (Int32 × rc_M)} (hk23 : ∀ (w : rc_M) (r1 : Option Nat) (r2 : Option Nat) (r3 : Option Nat) (x4 : Int32), k23 w r1 r2 r3 x4 = some res → rc_J X w 23 [] [(0, va_rf (some sb)), (1, va_rf r1), (2, va_rf r2), (3, va_rf r3), (4, .int x4)]) {w : rc_M} {r1 : Option Nat} {r2 : Option Nat} {r3 : Option Nat} {x4 : Int32} (h : b_law_law_970 sb xs L k23 w r1 r2 r3 x4 = some res) : rc_J X w 970 [] [(0, va_rf (some sb)), (1, va_rf r1), (2, va_rf r2), (3, va_rf r3), (4, .int x4)] := by
  unfold b_law_law_970 at h
  refine j_goto (tgt := 973) C d_law_law_970 (by decide) ?_
  exact k_law_law_973 hF hL hN C E S0 hfl hX hsb hk23 h

set_option maxRecDepth 100000 in
set_option maxHeartbeats 4000000 in
theorem k_law_law_23 {X : rc_X} {w0 : rc_M} (hF : (q_R X).frames = 12) (hL : (q_R X).locals = 488) (hN : q_n X = 7) (C : rc_C X "RecordCallsLaw" code w0) {res : Int32 × rc_M} (E : rc_EL X res) (S0 : rc_S0 (q_s X)) (hfl : (q_l X).flags = flags0) {sb L : Nat} {xs : Nat → Int32} (hX : va_X sb L xs (q_s X) (q_s X).heap) (hsb : sb < (q_s X).heap.size ∧ sb < rc_b (q_G X)) : ∀ (fuel : Nat) (w : rc_M) (r1 : Option Nat) (r2 : Option Nat) (r3 : Option Nat) (x4 : Int32), b_law_law_23 sb xs L fuel w r1 r2 r3 x4 = some res → rc_J X w 23 [] [(0, va_rf (some sb)), (1, va_rf r1), (2, va_rf r2), (3, va_rf r3), (4, .int x4)] := by
  intro fuel
  induction fuel with
  | zero => intro w r1 r2 r3 x4 h; simp [b_law_law_23] at h
  | succ fuel ih =>
    intro w r1 r2 r3 x4 h
    unfold b_law_law_23 at h
    refine j_iload C d_law_law_23 rfl 4 rfl ?_
    refine j_aload_n C d_law_law_25 rfl 0 rfl ?_
    refine j_slen C hX hsb d_law_law_26 rfl ?_
    refine j_bipush (v := 7) C d_law_law_27 rfl (by decide) ?_
    refine j_isub C d_law_law_29 rfl ?_
    refine j_icmp_gt (tgt := 979) C d_law_law_30 (by decide) rfl (fun c1 => ?_) (fun c1 => ?_)
    · rw [if_pos c1] at h
      refine j_iconst (v := 1) C d_law_law_979 rfl (by decide) ?_
      cases h
      exact j_lawret C E d_law_law_980
    · rw [if_neg c1] at h
      refine j_aload_n C d_law_law_33 rfl 0 rfl ?_
      refine j_iload C d_law_law_34 rfl 4 rfl ?_
      obtain ⟨v2, h3, h⟩ := Option.bind_eq_some_iff.mp h
      refine j_sld C hX hsb h3 d_law_law_36 rfl ?_
      refine j_bipush (v := 15) C d_law_law_37 rfl (by decide) ?_
      refine j_iand C d_law_law_39 rfl ?_
      by_cases c4 : (v2 &&& 15) = 0
      · rw [if_pos c4] at h
        refine j_tableIn C d_law_law_40 (tgt := 112) (by rw [c4]; decide) (by rw [c4]; decide) (by rw [c4]; rfl) (by decide) ?_
        refine j_aload_n C d_law_law_112 rfl 1 rfl ?_
        refine j_aload_n C d_law_law_113 rfl 0 rfl ?_
        refine j_iload C d_law_law_114 rfl 4 rfl ?_
        refine j_iconst (v := 1) C d_law_law_116 rfl (by decide) ?_
        refine j_iadd C d_law_law_117 rfl ?_
        obtain ⟨v5, h6, h⟩ := Option.bind_eq_some_iff.mp h
        refine j_sld C hX hsb h6 d_law_law_118 rfl ?_
        refine j_aload_n C d_law_law_119 rfl 0 rfl ?_
        refine j_iload C d_law_law_120 rfl 4 rfl ?_
        refine j_iconst (v := 2) C d_law_law_122 rfl (by decide) ?_
        refine j_iadd C d_law_law_123 rfl ?_
        obtain ⟨v7, h8, h⟩ := Option.bind_eq_some_iff.mp h
        refine j_sld C hX hsb h8 d_law_law_124 rfl ?_
        refine j_aload_n C d_law_law_125 rfl 0 rfl ?_
        refine j_iload C d_law_law_126 rfl 4 rfl ?_
        refine j_iconst (v := 3) C d_law_law_128 rfl (by decide) ?_
        refine j_iadd C d_law_law_129 rfl ?_
        obtain ⟨v9, h10, h⟩ := Option.bind_eq_some_iff.mp h
        refine j_sld C hX hsb h10 d_law_law_130 rfl ?_
        refine j_aload_n C d_law_law_131 rfl 0 rfl ?_
        refine j_iload C d_law_law_132 rfl 4 rfl ?_
        refine j_iconst (v := 4) C d_law_law_134 rfl (by decide) ?_
        refine j_iadd C d_law_law_135 rfl ?_
        obtain ⟨v11, h12, h⟩ := Option.bind_eq_some_iff.mp h
        refine j_sld C hX hsb h12 d_law_law_136 rfl ?_
        refine j_aload_n C d_law_law_137 rfl 0 rfl ?_
        refine j_iload C d_law_law_138 rfl 4 rfl ?_
        refine j_iconst (v := 5) C d_law_law_140 rfl (by decide) ?_
        refine j_iadd C d_law_law_141 rfl ?_
        obtain ⟨v13, h14, h⟩ := Option.bind_eq_some_iff.mp h
        refine j_sld C hX hsb h14 d_law_law_142 rfl ?_
        refine j_aload_n C d_law_law_143 rfl 3 rfl ?_
        obtain ⟨p15, h16, h⟩ := Option.bind_eq_some_iff.mp h
        refine j_callSH C S0 (As := [va_rf r1, .int v5, .int v7, .int v9, .int v11, .int v13, va_rf r3]) (st := []) (sk' := [.int p15.1]) mk_law_feed T_288 T_289 (rc_le hF (by decide)) (rc_le hL (by decide)) (ct_law_feed hfl h16) rfl rfl (by decide) d_law_law_144 rfl rfl ?_
        refine j_istore C (i := 5) d_law_law_147 rfl [(5, .int p15.1), (0, va_rf (some sb)), (1, va_rf r1), (2, va_rf r2), (3, va_rf r3), (4, .int x4)] (rc_lt hN (by decide)) (by first | rfl | simp [va_rf_cat, rc_cat_i, rc_cat_l]) ?_
        refine j_aload_n C d_law_law_149 rfl 3 rfl ?_
        refine j_aload_n C d_law_law_150 rfl 1 rfl ?_
        refine j_iload C d_law_law_151 rfl 5 rfl ?_
        refine j_iconst (v := 1) C d_law_law_153 rfl (by decide) ?_
        refine j_iadd C d_law_law_154 rfl ?_
        obtain ⟨v17, h18, h⟩ := Option.bind_eq_some_iff.mp h
        refine j_sld C hX hsb h18 d_law_law_155 rfl ?_
        refine j_aload_n C d_law_law_156 rfl 1 rfl ?_
        refine j_iload C d_law_law_157 rfl 5 rfl ?_
        refine j_iconst (v := 2) C d_law_law_159 rfl (by decide) ?_
        refine j_iadd C d_law_law_160 rfl ?_
        obtain ⟨v19, h20, h⟩ := Option.bind_eq_some_iff.mp h
        refine j_sld C hX hsb h20 d_law_law_161 rfl ?_
        refine j_aload_n C d_law_law_162 rfl 1 rfl ?_
        refine j_iload C d_law_law_163 rfl 5 rfl ?_
        refine j_iconst (v := 3) C d_law_law_165 rfl (by decide) ?_
        refine j_iadd C d_law_law_166 rfl ?_
        obtain ⟨v21, h22, h⟩ := Option.bind_eq_some_iff.mp h
        refine j_sld C hX hsb h22 d_law_law_167 rfl ?_
        refine j_aload_n C d_law_law_168 rfl 1 rfl ?_
        refine j_iload C d_law_law_169 rfl 5 rfl ?_
        refine j_iconst (v := 4) C d_law_law_171 rfl (by decide) ?_
        refine j_iadd C d_law_law_172 rfl ?_
        obtain ⟨v23, h24, h⟩ := Option.bind_eq_some_iff.mp h
        refine j_sld C hX hsb h24 d_law_law_173 rfl ?_
        refine j_aload_n C d_law_law_174 rfl 1 rfl ?_
        refine j_iload C d_law_law_175 rfl 5 rfl ?_
        refine j_iconst (v := 5) C d_law_law_177 rfl (by decide) ?_
        refine j_iadd C d_law_law_178 rfl ?_
        obtain ⟨v25, h26, h⟩ := Option.bind_eq_some_iff.mp h
        refine j_sld C hX hsb h26 d_law_law_179 rfl ?_
        obtain ⟨a27, h28, h⟩ := Option.bind_eq_some_iff.mp h
        obtain ⟨p29, h30, h⟩ := Option.bind_eq_some_iff.mp h
        refine j_callV C (As := [.int v17, .int v19, .int v21, .int v23, .int v25]) (st := []) (sk' := [.int p29.1]) mk_mdl_feed (Or.inl T_953) T_954 T_955 (ci := 7) rfl h28 (rc_le hF (by decide)) (rc_le hL (by decide)) (ct_mdl_feed h30) rfl rfl (by decide) d_law_law_180 rfl rfl ?_
        refine j_istore C (i := 6) d_law_law_183 rfl [(6, .int p29.1), (5, .int p15.1), (0, va_rf (some sb)), (1, va_rf r1), (2, va_rf r2), (3, va_rf r3), (4, .int x4)] (rc_lt hN (by decide)) (by first | rfl | simp [va_rf_cat, rc_cat_i, rc_cat_l]) ?_
        refine j_aload_n C d_law_law_185 rfl 4 rfl ?_
        obtain ⟨a31, h32, h⟩ := Option.bind_eq_some_iff.mp h
        obtain ⟨p33, h34, h⟩ := Option.bind_eq_some_iff.mp h
        refine j_callV C (As := []) (st := []) (sk' := [.int p33.1]) mk_mdl_thrown (Or.inl T_823) T_824 T_825 (ci := 7) rfl h32 (rc_le hF (by decide)) (rc_le hL (by decide)) (ct_mdl_thrown h34) rfl rfl (by decide) d_law_law_186 rfl rfl ?_
        refine j_iload C d_law_law_189 rfl 1 rfl ?_
        refine j_icmp_eq (tgt := 196) C d_law_law_191 (by decide) rfl (fun c35 => ?_) (fun c35 => ?_)
        · rw [if_pos c35] at h
          refine j_iload C d_law_law_196 rfl 1 rfl ?_
          refine j_if_ne (tgt := 213) C d_law_law_198 (by decide) rfl (fun c36 => ?_) (fun c36 => ?_)
          · rw [if_neg c36] at h
            refine rc_J.sub (lv' := [(0, va_rf (some sb)), (1, va_rf r1), (2, va_rf r2), (3, va_rf r3), (4, .int x4)]) [2, 3, 4, 5, 6] rfl ?_
            exact k_law_law_213 hF hL hN C E S0 hfl hX hsb (fun w z0 z1 z2 z3 h => ih w z0 z1 z2 z3 h) h
          · rw [if_pos c36] at h
            refine j_aload_n C d_law_law_201 rfl 5 rfl ?_
            refine j_iconst (v := 0) C d_law_law_202 rfl (by decide) ?_
            obtain ⟨v37, h38, h⟩ := Option.bind_eq_some_iff.mp h
            refine j_lald C h38 d_law_law_203 rfl ?_
            refine j_iload C d_law_law_204 rfl 0 rfl ?_
            refine j_i2l C d_law_law_206 rfl ?_
            refine j_lcmp C d_law_law_207 rfl ?_
            refine j_if_eq (tgt := 213) C d_law_law_208 (by decide) rfl (fun c39 => ?_) (fun c39 => ?_)
            · rw [if_pos c39] at h
              refine rc_J.sub (lv' := [(0, va_rf (some sb)), (1, va_rf r1), (2, va_rf r2), (3, va_rf r3), (4, .int x4)]) [2, 3, 4, 5, 6] rfl ?_
              exact k_law_law_213 hF hL hN C E S0 hfl hX hsb (fun w z0 z1 z2 z3 h => ih w z0 z1 z2 z3 h) h
            · rw [if_neg c39] at h
              refine j_iconst (v := 0) C d_law_law_211 rfl (by decide) ?_
              cases h
              exact j_lawret C E d_law_law_212
        · rw [if_neg c35] at h
          refine j_iconst (v := 0) C d_law_law_194 rfl (by decide) ?_
          cases h
          exact j_lawret C E d_law_law_195
      · rw [if_neg c4] at h
        by_cases c40 : (v2 &&& 15) = 1
        · rw [if_pos c40] at h
          refine j_tableIn C d_law_law_40 (tgt := 216) (by rw [c40]; decide) (by rw [c40]; decide) (by rw [c40]; rfl) (by decide) ?_
          refine j_aload_n C d_law_law_216 rfl 1 rfl ?_
          refine j_aload_n C d_law_law_217 rfl 0 rfl ?_
          refine j_iload C d_law_law_218 rfl 4 rfl ?_
          refine j_iconst (v := 1) C d_law_law_220 rfl (by decide) ?_
          refine j_iadd C d_law_law_221 rfl ?_
          obtain ⟨v41, h42, h⟩ := Option.bind_eq_some_iff.mp h
          refine j_sld C hX hsb h42 d_law_law_222 rfl ?_
          obtain ⟨p43, h44, h⟩ := Option.bind_eq_some_iff.mp h
          refine j_callSH C S0 (As := [va_rf r1, .int v41]) (st := []) (sk' := [.int p43.1]) mk_law_end T_363 T_364 (rc_le hF (by decide)) (rc_le hL (by decide)) (ct_law_end hfl h44) rfl rfl (by decide) d_law_law_223 rfl rfl ?_
          refine j_istore C (i := 5) d_law_law_226 rfl [(5, .int p43.1), (0, va_rf (some sb)), (1, va_rf r1), (2, va_rf r2), (3, va_rf r3), (4, .int x4)] (rc_lt hN (by decide)) (by first | rfl | simp [va_rf_cat, rc_cat_i, rc_cat_l]) ?_
          refine j_aload_n C d_law_law_228 rfl 3 rfl ?_
          refine j_aload_n C d_law_law_229 rfl 1 rfl ?_
          refine j_iload C d_law_law_230 rfl 5 rfl ?_
          refine j_iconst (v := 1) C d_law_law_232 rfl (by decide) ?_
          refine j_iadd C d_law_law_233 rfl ?_
          obtain ⟨v45, h46, h⟩ := Option.bind_eq_some_iff.mp h
          refine j_sld C hX hsb h46 d_law_law_234 rfl ?_
          obtain ⟨a47, h48, h⟩ := Option.bind_eq_some_iff.mp h
          obtain ⟨w49, h50, h⟩ := Option.bind_eq_some_iff.mp h
          refine j_callV C (As := [.int v45]) (st := []) (sk' := []) mk_mdl_end (Or.inl T_957) T_958 T_959 (ci := 7) rfl h48 (rc_le hF (by decide)) (rc_le hL (by decide)) (ct_mdl_end h50) rfl rfl (by decide) d_law_law_235 rfl rfl ?_
          refine j_aload_n C d_law_law_238 rfl 3 rfl ?_
          obtain ⟨a51, h52, h⟩ := Option.bind_eq_some_iff.mp h
          obtain ⟨p53, h54, h⟩ := Option.bind_eq_some_iff.mp h
          refine j_callV C (As := []) (st := []) (sk' := [.int p53.1]) mk_mdl_thrown (Or.inl T_823) T_824 T_825 (ci := 7) rfl h52 (rc_le hF (by decide)) (rc_le hL (by decide)) (ct_mdl_thrown h54) rfl rfl (by decide) d_law_law_239 rfl rfl ?_
          refine j_iload C d_law_law_242 rfl 0 rfl ?_
          refine j_icmp_eq (tgt := 249) C d_law_law_244 (by decide) rfl (fun c55 => ?_) (fun c55 => ?_)
          · rw [if_pos c55] at h
            refine j_goto (tgt := 973) C d_law_law_249 (by decide) ?_
            refine rc_J.sub (lv' := [(0, va_rf (some sb)), (1, va_rf r1), (2, va_rf r2), (3, va_rf r3), (4, .int x4)]) [1, 2, 3, 4, 5] rfl ?_
            exact k_law_law_973 hF hL hN C E S0 hfl hX hsb (fun w z0 z1 z2 z3 h => ih w z0 z1 z2 z3 h) h
          · rw [if_neg c55] at h
            refine j_iconst (v := 0) C d_law_law_247 rfl (by decide) ?_
            cases h
            exact j_lawret C E d_law_law_248
        · rw [if_neg c40] at h
          by_cases c56 : (v2 &&& 15) = 2
          · rw [if_pos c56] at h
            refine j_tableIn C d_law_law_40 (tgt := 252) (by rw [c56]; decide) (by rw [c56]; decide) (by rw [c56]; rfl) (by decide) ?_
            refine j_aload_n C d_law_law_252 rfl 1 rfl ?_
            obtain ⟨a57, h58, h⟩ := Option.bind_eq_some_iff.mp h
            obtain ⟨p59, h60, h⟩ := Option.bind_eq_some_iff.mp h
            refine j_callV C (As := []) (st := []) (sk' := [.int p59.1]) mk_rec_raw (Or.inl T_204) T_205 T_206 (ci := 0) rfl h58 (rc_le hF (by decide)) (rc_le hL (by decide)) (ct_rec_raw h60) rfl rfl (by decide) d_law_law_253 rfl rfl ?_
            refine j_aload_n C d_law_law_256 rfl 2 rfl ?_
            obtain ⟨a61, h62, h⟩ := Option.bind_eq_some_iff.mp h
            obtain ⟨p63, h64, h⟩ := Option.bind_eq_some_iff.mp h
            refine j_callV C (As := []) (st := [.int p59.1]) (sk' := [.int p63.1, .int p59.1]) mk_mdl_raw (Or.inl T_827) T_828 T_829 (ci := 7) rfl h62 (rc_le hF (by decide)) (rc_le hL (by decide)) (ct_mdl_raw h64) rfl rfl (by simp [va_rf_cat, rc_cat_i, rc_cat_l]) d_law_law_257 rfl rfl ?_
            refine j_icmp_eq (tgt := 973) C d_law_law_260 (by decide) rfl (fun c65 => ?_) (fun c65 => ?_)
            · rw [if_pos c65] at h
              exact k_law_law_973 hF hL hN C E S0 hfl hX hsb (fun w z0 z1 z2 z3 h => ih w z0 z1 z2 z3 h) h
            · rw [if_neg c65] at h
              refine j_iconst (v := 0) C d_law_law_263 rfl (by decide) ?_
              cases h
              exact j_lawret C E d_law_law_264
          · rw [if_neg c56] at h
            by_cases c66 : (v2 &&& 15) = 3
            · rw [if_pos c66] at h
              refine j_tableIn C d_law_law_40 (tgt := 265) (by rw [c66]; decide) (by rw [c66]; decide) (by rw [c66]; rfl) (by decide) ?_
              refine j_aload_n C d_law_law_265 rfl 1 rfl ?_
              refine j_aload_n C d_law_law_266 rfl 0 rfl ?_
              refine j_iload C d_law_law_267 rfl 4 rfl ?_
              refine j_iconst (v := 1) C d_law_law_269 rfl (by decide) ?_
              refine j_iadd C d_law_law_270 rfl ?_
              obtain ⟨v67, h68, h⟩ := Option.bind_eq_some_iff.mp h
              refine j_sld C hX hsb h68 d_law_law_271 rfl ?_
              refine j_aload_n C d_law_law_272 rfl 3 rfl ?_
              obtain ⟨p69, h70, h⟩ := Option.bind_eq_some_iff.mp h
              refine j_callSH C S0 (As := [va_rf r1, .int v67, va_rf r3]) (st := []) (sk' := [.int p69.1]) mk_law_record T_390 T_391 (rc_le hF (by decide)) (rc_le hL (by decide)) (ct_law_record hfl h70) rfl rfl (by decide) d_law_law_273 rfl rfl ?_
              refine j_istore C (i := 5) d_law_law_276 rfl [(5, .int p69.1), (0, va_rf (some sb)), (1, va_rf r1), (2, va_rf r2), (3, va_rf r3), (4, .int x4)] (rc_lt hN (by decide)) (by first | rfl | simp [va_rf_cat, rc_cat_i, rc_cat_l]) ?_
              refine j_aload_n C d_law_law_278 rfl 3 rfl ?_
              refine j_aload_n C d_law_law_279 rfl 1 rfl ?_
              refine j_iload C d_law_law_280 rfl 5 rfl ?_
              refine j_iconst (v := 1) C d_law_law_282 rfl (by decide) ?_
              refine j_iadd C d_law_law_283 rfl ?_
              obtain ⟨v71, h72, h⟩ := Option.bind_eq_some_iff.mp h
              refine j_sld C hX hsb h72 d_law_law_284 rfl ?_
              obtain ⟨a73, h74, h⟩ := Option.bind_eq_some_iff.mp h
              obtain ⟨p75, h76, h⟩ := Option.bind_eq_some_iff.mp h
              refine j_callV C (As := [.int v71]) (st := []) (sk' := [.int p75.1]) mk_mdl_record (Or.inl T_842) T_843 T_844 (ci := 7) rfl h74 (rc_le hF (by decide)) (rc_le hL (by decide)) (ct_mdl_record h76) rfl rfl (by decide) d_law_law_285 rfl rfl ?_
              refine j_istore C (i := 6) d_law_law_288 rfl [(6, .int p75.1), (5, .int p69.1), (0, va_rf (some sb)), (1, va_rf r1), (2, va_rf r2), (3, va_rf r3), (4, .int x4)] (rc_lt hN (by decide)) (by first | rfl | simp [va_rf_cat, rc_cat_i, rc_cat_l]) ?_
              refine j_aload_n C d_law_law_290 rfl 4 rfl ?_
              obtain ⟨a77, h78, h⟩ := Option.bind_eq_some_iff.mp h
              obtain ⟨p79, h80, h⟩ := Option.bind_eq_some_iff.mp h
              refine j_callV C (As := []) (st := []) (sk' := [.int p79.1]) mk_mdl_thrown (Or.inl T_823) T_824 T_825 (ci := 7) rfl h78 (rc_le hF (by decide)) (rc_le hL (by decide)) (ct_mdl_thrown h80) rfl rfl (by decide) d_law_law_291 rfl rfl ?_
              refine j_iload C d_law_law_294 rfl 1 rfl ?_
              refine j_icmp_eq (tgt := 301) C d_law_law_296 (by decide) rfl (fun c81 => ?_) (fun c81 => ?_)
              · rw [if_pos c81] at h
                refine j_iload C d_law_law_301 rfl 1 rfl ?_
                refine j_if_ne (tgt := 318) C d_law_law_303 (by decide) rfl (fun c82 => ?_) (fun c82 => ?_)
                · rw [if_neg c82] at h
                  refine rc_J.sub (lv' := [(0, va_rf (some sb)), (1, va_rf r1), (2, va_rf r2), (3, va_rf r3), (4, .int x4)]) [2, 3, 4, 5, 6] rfl ?_
                  exact k_law_law_318 hF hL hN C E S0 hfl hX hsb (fun w z0 z1 z2 z3 h => ih w z0 z1 z2 z3 h) h
                · rw [if_pos c82] at h
                  refine j_aload_n C d_law_law_306 rfl 5 rfl ?_
                  refine j_iconst (v := 0) C d_law_law_307 rfl (by decide) ?_
                  obtain ⟨v83, h84, h⟩ := Option.bind_eq_some_iff.mp h
                  refine j_lald C h84 d_law_law_308 rfl ?_
                  refine j_iload C d_law_law_309 rfl 0 rfl ?_
                  refine j_i2l C d_law_law_311 rfl ?_
                  refine j_lcmp C d_law_law_312 rfl ?_
                  refine j_if_eq (tgt := 318) C d_law_law_313 (by decide) rfl (fun c85 => ?_) (fun c85 => ?_)
                  · rw [if_pos c85] at h
                    refine rc_J.sub (lv' := [(0, va_rf (some sb)), (1, va_rf r1), (2, va_rf r2), (3, va_rf r3), (4, .int x4)]) [2, 3, 4, 5, 6] rfl ?_
                    exact k_law_law_318 hF hL hN C E S0 hfl hX hsb (fun w z0 z1 z2 z3 h => ih w z0 z1 z2 z3 h) h
                  · rw [if_neg c85] at h
                    refine j_iconst (v := 0) C d_law_law_316 rfl (by decide) ?_
                    cases h
                    exact j_lawret C E d_law_law_317
              · rw [if_neg c81] at h
                refine j_iconst (v := 0) C d_law_law_299 rfl (by decide) ?_
                cases h
                exact j_lawret C E d_law_law_300
            · rw [if_neg c66] at h
              by_cases c86 : (v2 &&& 15) = 4
              · rw [if_pos c86] at h
                refine j_tableIn C d_law_law_40 (tgt := 321) (by rw [c86]; decide) (by rw [c86]; decide) (by rw [c86]; rfl) (by decide) ?_
                refine j_aload_n C d_law_law_321 rfl 1 rfl ?_
                refine j_aload_n C d_law_law_322 rfl 0 rfl ?_
                refine j_iload C d_law_law_323 rfl 4 rfl ?_
                refine j_iconst (v := 1) C d_law_law_325 rfl (by decide) ?_
                refine j_iadd C d_law_law_326 rfl ?_
                obtain ⟨v87, h88, h⟩ := Option.bind_eq_some_iff.mp h
                refine j_sld C hX hsb h88 d_law_law_327 rfl ?_
                refine j_aload_n C d_law_law_328 rfl 0 rfl ?_
                refine j_iload C d_law_law_329 rfl 4 rfl ?_
                refine j_iconst (v := 2) C d_law_law_331 rfl (by decide) ?_
                refine j_iadd C d_law_law_332 rfl ?_
                obtain ⟨v89, h90, h⟩ := Option.bind_eq_some_iff.mp h
                refine j_sld C hX hsb h90 d_law_law_333 rfl ?_
                refine j_aload_n C d_law_law_334 rfl 0 rfl ?_
                refine j_iload C d_law_law_335 rfl 4 rfl ?_
                refine j_iconst (v := 3) C d_law_law_337 rfl (by decide) ?_
                refine j_iadd C d_law_law_338 rfl ?_
                obtain ⟨v91, h92, h⟩ := Option.bind_eq_some_iff.mp h
                refine j_sld C hX hsb h92 d_law_law_339 rfl ?_
                refine j_aload_n C d_law_law_340 rfl 0 rfl ?_
                refine j_iload C d_law_law_341 rfl 4 rfl ?_
                refine j_iconst (v := 4) C d_law_law_343 rfl (by decide) ?_
                refine j_iadd C d_law_law_344 rfl ?_
                obtain ⟨v93, h94, h⟩ := Option.bind_eq_some_iff.mp h
                refine j_sld C hX hsb h94 d_law_law_345 rfl ?_
                refine j_if_eq (tgt := 353) C d_law_law_346 (by decide) rfl (fun c95 => ?_) (fun c95 => ?_)
                · rw [if_pos c95] at h
                  refine j_iconst (v := 0) C d_law_law_353 rfl (by decide) ?_
                  exact k_law_law_354 hF hL hN C E S0 hfl hX hsb (fun w z0 z1 z2 z3 h => ih w z0 z1 z2 z3 h) h
                · rw [if_neg c95] at h
                  refine j_iconst (v := 1) C d_law_law_349 rfl (by decide) ?_
                  refine j_goto (tgt := 354) C d_law_law_350 (by decide) ?_
                  exact k_law_law_354 hF hL hN C E S0 hfl hX hsb (fun w z0 z1 z2 z3 h => ih w z0 z1 z2 z3 h) h
              · rw [if_neg c86] at h
                by_cases c96 : (v2 &&& 15) = 5
                · rw [if_pos c96] at h
                  refine j_tableIn C d_law_law_40 (tgt := 475) (by rw [c96]; decide) (by rw [c96]; decide) (by rw [c96]; rfl) (by decide) ?_
                  refine j_aload_n C d_law_law_475 rfl 1 rfl ?_
                  refine j_aload_n C d_law_law_476 rfl 0 rfl ?_
                  refine j_iload C d_law_law_477 rfl 4 rfl ?_
                  refine j_iconst (v := 1) C d_law_law_479 rfl (by decide) ?_
                  refine j_iadd C d_law_law_480 rfl ?_
                  obtain ⟨v97, h98, h⟩ := Option.bind_eq_some_iff.mp h
                  refine j_sld C hX hsb h98 d_law_law_481 rfl ?_
                  refine j_aload_n C d_law_law_482 rfl 0 rfl ?_
                  refine j_iload C d_law_law_483 rfl 4 rfl ?_
                  refine j_iconst (v := 2) C d_law_law_485 rfl (by decide) ?_
                  refine j_iadd C d_law_law_486 rfl ?_
                  obtain ⟨v99, h100, h⟩ := Option.bind_eq_some_iff.mp h
                  refine j_sld C hX hsb h100 d_law_law_487 rfl ?_
                  refine j_aload_n C d_law_law_488 rfl 0 rfl ?_
                  refine j_iload C d_law_law_489 rfl 4 rfl ?_
                  refine j_iconst (v := 3) C d_law_law_491 rfl (by decide) ?_
                  refine j_iadd C d_law_law_492 rfl ?_
                  obtain ⟨v101, h102, h⟩ := Option.bind_eq_some_iff.mp h
                  refine j_sld C hX hsb h102 d_law_law_493 rfl ?_
                  refine j_aload_n C d_law_law_494 rfl 0 rfl ?_
                  refine j_iload C d_law_law_495 rfl 4 rfl ?_
                  refine j_iconst (v := 4) C d_law_law_497 rfl (by decide) ?_
                  refine j_iadd C d_law_law_498 rfl ?_
                  obtain ⟨v103, h104, h⟩ := Option.bind_eq_some_iff.mp h
                  refine j_sld C hX hsb h104 d_law_law_499 rfl ?_
                  refine j_aload_n C d_law_law_500 rfl 3 rfl ?_
                  obtain ⟨p105, h106, h⟩ := Option.bind_eq_some_iff.mp h
                  refine j_callSH C S0 (As := [va_rf r1, .int v97, .int v99, .int v101, .int v103, va_rf r3]) (st := []) (sk' := [.int p105.1]) mk_law_push T_434 T_435 (rc_le hF (by decide)) (rc_le hL (by decide)) (ct_law_push hfl h106) rfl rfl (by decide) d_law_law_501 rfl rfl ?_
                  refine j_istore C (i := 5) d_law_law_504 rfl [(5, .int p105.1), (0, va_rf (some sb)), (1, va_rf r1), (2, va_rf r2), (3, va_rf r3), (4, .int x4)] (rc_lt hN (by decide)) (by first | rfl | simp [va_rf_cat, rc_cat_i, rc_cat_l]) ?_
                  refine j_aload_n C d_law_law_506 rfl 3 rfl ?_
                  refine j_aload_n C d_law_law_507 rfl 1 rfl ?_
                  refine j_iload C d_law_law_508 rfl 5 rfl ?_
                  refine j_iconst (v := 1) C d_law_law_510 rfl (by decide) ?_
                  refine j_iadd C d_law_law_511 rfl ?_
                  obtain ⟨v107, h108, h⟩ := Option.bind_eq_some_iff.mp h
                  refine j_sld C hX hsb h108 d_law_law_512 rfl ?_
                  refine j_aload_n C d_law_law_513 rfl 1 rfl ?_
                  refine j_iload C d_law_law_514 rfl 5 rfl ?_
                  refine j_iconst (v := 2) C d_law_law_516 rfl (by decide) ?_
                  refine j_iadd C d_law_law_517 rfl ?_
                  obtain ⟨v109, h110, h⟩ := Option.bind_eq_some_iff.mp h
                  refine j_sld C hX hsb h110 d_law_law_518 rfl ?_
                  refine j_aload_n C d_law_law_519 rfl 1 rfl ?_
                  refine j_iload C d_law_law_520 rfl 5 rfl ?_
                  refine j_iconst (v := 3) C d_law_law_522 rfl (by decide) ?_
                  refine j_iadd C d_law_law_523 rfl ?_
                  obtain ⟨v111, h112, h⟩ := Option.bind_eq_some_iff.mp h
                  refine j_sld C hX hsb h112 d_law_law_524 rfl ?_
                  refine j_aload_n C d_law_law_525 rfl 1 rfl ?_
                  refine j_iload C d_law_law_526 rfl 5 rfl ?_
                  refine j_iconst (v := 4) C d_law_law_528 rfl (by decide) ?_
                  refine j_iadd C d_law_law_529 rfl ?_
                  obtain ⟨v113, h114, h⟩ := Option.bind_eq_some_iff.mp h
                  refine j_sld C hX hsb h114 d_law_law_530 rfl ?_
                  obtain ⟨a115, h116, h⟩ := Option.bind_eq_some_iff.mp h
                  obtain ⟨p117, h118, h⟩ := Option.bind_eq_some_iff.mp h
                  refine j_callV C (As := [.int v107, .int v109, .int v111, .int v113]) (st := []) (sk' := [.int p117.1]) mk_mdl_push (Or.inl T_856) T_857 T_858 (ci := 7) rfl h116 (rc_le hF (by decide)) (rc_le hL (by decide)) (ct_mdl_push h118) rfl rfl (by decide) d_law_law_531 rfl rfl ?_
                  refine j_istore C (i := 6) d_law_law_534 rfl [(6, .int p117.1), (5, .int p105.1), (0, va_rf (some sb)), (1, va_rf r1), (2, va_rf r2), (3, va_rf r3), (4, .int x4)] (rc_lt hN (by decide)) (by first | rfl | simp [va_rf_cat, rc_cat_i, rc_cat_l]) ?_
                  refine j_aload_n C d_law_law_536 rfl 4 rfl ?_
                  obtain ⟨a119, h120, h⟩ := Option.bind_eq_some_iff.mp h
                  obtain ⟨p121, h122, h⟩ := Option.bind_eq_some_iff.mp h
                  refine j_callV C (As := []) (st := []) (sk' := [.int p121.1]) mk_mdl_thrown (Or.inl T_823) T_824 T_825 (ci := 7) rfl h120 (rc_le hF (by decide)) (rc_le hL (by decide)) (ct_mdl_thrown h122) rfl rfl (by decide) d_law_law_537 rfl rfl ?_
                  refine j_iload C d_law_law_540 rfl 1 rfl ?_
                  refine j_icmp_eq (tgt := 547) C d_law_law_542 (by decide) rfl (fun c123 => ?_) (fun c123 => ?_)
                  · rw [if_pos c123] at h
                    refine j_iload C d_law_law_547 rfl 1 rfl ?_
                    refine j_if_ne (tgt := 564) C d_law_law_549 (by decide) rfl (fun c124 => ?_) (fun c124 => ?_)
                    · rw [if_neg c124] at h
                      refine rc_J.sub (lv' := [(0, va_rf (some sb)), (1, va_rf r1), (2, va_rf r2), (3, va_rf r3), (4, .int x4)]) [2, 3, 4, 5, 6] rfl ?_
                      exact k_law_law_564 hF hL hN C E S0 hfl hX hsb (fun w z0 z1 z2 z3 h => ih w z0 z1 z2 z3 h) h
                    · rw [if_pos c124] at h
                      refine j_aload_n C d_law_law_552 rfl 5 rfl ?_
                      refine j_iconst (v := 0) C d_law_law_553 rfl (by decide) ?_
                      obtain ⟨v125, h126, h⟩ := Option.bind_eq_some_iff.mp h
                      refine j_lald C h126 d_law_law_554 rfl ?_
                      refine j_iload C d_law_law_555 rfl 0 rfl ?_
                      refine j_i2l C d_law_law_557 rfl ?_
                      refine j_lcmp C d_law_law_558 rfl ?_
                      refine j_if_eq (tgt := 564) C d_law_law_559 (by decide) rfl (fun c127 => ?_) (fun c127 => ?_)
                      · rw [if_pos c127] at h
                        refine rc_J.sub (lv' := [(0, va_rf (some sb)), (1, va_rf r1), (2, va_rf r2), (3, va_rf r3), (4, .int x4)]) [2, 3, 4, 5, 6] rfl ?_
                        exact k_law_law_564 hF hL hN C E S0 hfl hX hsb (fun w z0 z1 z2 z3 h => ih w z0 z1 z2 z3 h) h
                      · rw [if_neg c127] at h
                        refine j_iconst (v := 0) C d_law_law_562 rfl (by decide) ?_
                        cases h
                        exact j_lawret C E d_law_law_563
                  · rw [if_neg c123] at h
                    refine j_iconst (v := 0) C d_law_law_545 rfl (by decide) ?_
                    cases h
                    exact j_lawret C E d_law_law_546
                · rw [if_neg c96] at h
                  by_cases c128 : (v2 &&& 15) = 6
                  · rw [if_pos c128] at h
                    refine j_tableIn C d_law_law_40 (tgt := 567) (by rw [c128]; decide) (by rw [c128]; decide) (by rw [c128]; rfl) (by decide) ?_
                    refine j_aload_n C d_law_law_567 rfl 1 rfl ?_
                    refine j_aload_n C d_law_law_568 rfl 0 rfl ?_
                    refine j_iload C d_law_law_569 rfl 4 rfl ?_
                    refine j_iconst (v := 1) C d_law_law_571 rfl (by decide) ?_
                    refine j_iadd C d_law_law_572 rfl ?_
                    obtain ⟨v129, h130, h⟩ := Option.bind_eq_some_iff.mp h
                    refine j_sld C hX hsb h130 d_law_law_573 rfl ?_
                    refine j_aload_n C d_law_law_574 rfl 3 rfl ?_
                    obtain ⟨p131, h132, h⟩ := Option.bind_eq_some_iff.mp h
                    refine j_callSH C S0 (As := [va_rf r1, .int v129, va_rf r3]) (st := []) (sk' := [.int p131.1]) mk_law_open T_645 T_646 (rc_le hF (by decide)) (rc_le hL (by decide)) (ct_law_open hfl h132) rfl rfl (by decide) d_law_law_575 rfl rfl ?_
                    refine j_istore C (i := 5) d_law_law_578 rfl [(5, .int p131.1), (0, va_rf (some sb)), (1, va_rf r1), (2, va_rf r2), (3, va_rf r3), (4, .int x4)] (rc_lt hN (by decide)) (by first | rfl | simp [va_rf_cat, rc_cat_i, rc_cat_l]) ?_
                    refine j_aload_n C d_law_law_580 rfl 3 rfl ?_
                    refine j_aload_n C d_law_law_581 rfl 1 rfl ?_
                    refine j_iload C d_law_law_582 rfl 5 rfl ?_
                    refine j_iconst (v := 1) C d_law_law_584 rfl (by decide) ?_
                    refine j_iadd C d_law_law_585 rfl ?_
                    obtain ⟨v133, h134, h⟩ := Option.bind_eq_some_iff.mp h
                    refine j_sld C hX hsb h134 d_law_law_586 rfl ?_
                    obtain ⟨a135, h136, h⟩ := Option.bind_eq_some_iff.mp h
                    obtain ⟨p137, h138, h⟩ := Option.bind_eq_some_iff.mp h
                    refine j_callV C (As := [.int v133]) (st := []) (sk' := [.int p137.1]) mk_mdl_open (Or.inl T_949) T_950 T_951 (ci := 7) rfl h136 (rc_le hF (by decide)) (rc_le hL (by decide)) (ct_mdl_open h138) rfl rfl (by decide) d_law_law_587 rfl rfl ?_
                    refine j_istore C (i := 6) d_law_law_590 rfl [(6, .int p137.1), (5, .int p131.1), (0, va_rf (some sb)), (1, va_rf r1), (2, va_rf r2), (3, va_rf r3), (4, .int x4)] (rc_lt hN (by decide)) (by first | rfl | simp [va_rf_cat, rc_cat_i, rc_cat_l]) ?_
                    refine j_aload_n C d_law_law_592 rfl 4 rfl ?_
                    obtain ⟨a139, h140, h⟩ := Option.bind_eq_some_iff.mp h
                    obtain ⟨p141, h142, h⟩ := Option.bind_eq_some_iff.mp h
                    refine j_callV C (As := []) (st := []) (sk' := [.int p141.1]) mk_mdl_thrown (Or.inl T_823) T_824 T_825 (ci := 7) rfl h140 (rc_le hF (by decide)) (rc_le hL (by decide)) (ct_mdl_thrown h142) rfl rfl (by decide) d_law_law_593 rfl rfl ?_
                    refine j_iload C d_law_law_596 rfl 1 rfl ?_
                    refine j_icmp_eq (tgt := 603) C d_law_law_598 (by decide) rfl (fun c143 => ?_) (fun c143 => ?_)
                    · rw [if_pos c143] at h
                      refine j_iload C d_law_law_603 rfl 1 rfl ?_
                      refine j_if_ne (tgt := 627) C d_law_law_605 (by decide) rfl (fun c144 => ?_) (fun c144 => ?_)
                      · rw [if_neg c144] at h
                        refine rc_J.sub (lv' := [(0, va_rf (some sb)), (1, va_rf r1), (2, va_rf r2), (3, va_rf r3), (4, .int x4)]) [2, 3, 4, 5, 6] rfl ?_
                        exact k_law_law_627 hF hL hN C E S0 hfl hX hsb (fun w z0 z1 z2 z3 h => ih w z0 z1 z2 z3 h) h
                      · rw [if_pos c144] at h
                        refine j_aload_n C d_law_law_608 rfl 5 rfl ?_
                        refine j_iconst (v := 0) C d_law_law_609 rfl (by decide) ?_
                        obtain ⟨v145, h146, h⟩ := Option.bind_eq_some_iff.mp h
                        refine j_lald C h146 d_law_law_610 rfl ?_
                        refine j_iload C d_law_law_611 rfl 0 rfl ?_
                        refine j_if_eq (tgt := 620) C d_law_law_613 (by decide) rfl (fun c147 => ?_) (fun c147 => ?_)
                        · rw [if_pos c147] at h
                          refine j_lconst (v := 0) C d_law_law_620 rfl (by decide) ?_
                          refine rc_J.sub (lv' := [(0, va_rf (some sb)), (1, va_rf r1), (2, va_rf r2), (3, va_rf r3), (4, .int x4)]) [2, 3, 4, 5, 6] rfl ?_
                          exact k_law_law_621 hF hL hN C E S0 hfl hX hsb (fun w z0 z1 z2 z3 h => ih w z0 z1 z2 z3 h) h
                        · rw [if_neg c147] at h
                          refine j_lconst (v := 1) C d_law_law_616 rfl (by decide) ?_
                          refine j_goto (tgt := 621) C d_law_law_617 (by decide) ?_
                          refine rc_J.sub (lv' := [(0, va_rf (some sb)), (1, va_rf r1), (2, va_rf r2), (3, va_rf r3), (4, .int x4)]) [2, 3, 4, 5, 6] rfl ?_
                          exact k_law_law_621 hF hL hN C E S0 hfl hX hsb (fun w z0 z1 z2 z3 h => ih w z0 z1 z2 z3 h) h
                    · rw [if_neg c143] at h
                      refine j_iconst (v := 0) C d_law_law_601 rfl (by decide) ?_
                      cases h
                      exact j_lawret C E d_law_law_602
                  · rw [if_neg c128] at h
                    by_cases c148 : (v2 &&& 15) = 7
                    · rw [if_pos c148] at h
                      refine j_tableIn C d_law_law_40 (tgt := 630) (by rw [c148]; decide) (by rw [c148]; decide) (by rw [c148]; rfl) (by decide) ?_
                      refine j_aload_n C d_law_law_630 rfl 1 rfl ?_
                      refine j_aload_n C d_law_law_631 rfl 0 rfl ?_
                      refine j_iload C d_law_law_632 rfl 4 rfl ?_
                      refine j_iconst (v := 1) C d_law_law_634 rfl (by decide) ?_
                      refine j_iadd C d_law_law_635 rfl ?_
                      obtain ⟨v149, h150, h⟩ := Option.bind_eq_some_iff.mp h
                      refine j_sld C hX hsb h150 d_law_law_636 rfl ?_
                      refine j_aload_n C d_law_law_637 rfl 3 rfl ?_
                      obtain ⟨p151, h152, h⟩ := Option.bind_eq_some_iff.mp h
                      refine j_callSH C S0 (As := [va_rf r1, .int v149, va_rf r3]) (st := []) (sk' := [.int p151.1]) mk_law_length T_657 T_658 (rc_le hF (by decide)) (rc_le hL (by decide)) (ct_law_length hfl h152) rfl rfl (by decide) d_law_law_638 rfl rfl ?_
                      refine j_istore C (i := 5) d_law_law_641 rfl [(5, .int p151.1), (0, va_rf (some sb)), (1, va_rf r1), (2, va_rf r2), (3, va_rf r3), (4, .int x4)] (rc_lt hN (by decide)) (by first | rfl | simp [va_rf_cat, rc_cat_i, rc_cat_l]) ?_
                      refine j_aload_n C d_law_law_643 rfl 3 rfl ?_
                      refine j_aload_n C d_law_law_644 rfl 1 rfl ?_
                      refine j_iload C d_law_law_645 rfl 5 rfl ?_
                      refine j_iconst (v := 1) C d_law_law_647 rfl (by decide) ?_
                      refine j_iadd C d_law_law_648 rfl ?_
                      obtain ⟨v153, h154, h⟩ := Option.bind_eq_some_iff.mp h
                      refine j_sld C hX hsb h154 d_law_law_649 rfl ?_
                      obtain ⟨a155, h156, h⟩ := Option.bind_eq_some_iff.mp h
                      obtain ⟨p157, h158, h⟩ := Option.bind_eq_some_iff.mp h
                      refine j_callV C (As := [.int v153]) (st := []) (sk' := [.int p157.1]) mk_mdl_length (Or.inl T_961) T_962 T_963 (ci := 7) rfl h156 (rc_le hF (by decide)) (rc_le hL (by decide)) (ct_mdl_length h158) rfl rfl (by decide) d_law_law_650 rfl rfl ?_
                      refine j_istore C (i := 6) d_law_law_653 rfl [(6, .int p157.1), (5, .int p151.1), (0, va_rf (some sb)), (1, va_rf r1), (2, va_rf r2), (3, va_rf r3), (4, .int x4)] (rc_lt hN (by decide)) (by first | rfl | simp [va_rf_cat, rc_cat_i, rc_cat_l]) ?_
                      refine j_aload_n C d_law_law_655 rfl 4 rfl ?_
                      obtain ⟨a159, h160, h⟩ := Option.bind_eq_some_iff.mp h
                      obtain ⟨p161, h162, h⟩ := Option.bind_eq_some_iff.mp h
                      refine j_callV C (As := []) (st := []) (sk' := [.int p161.1]) mk_mdl_thrown (Or.inl T_823) T_824 T_825 (ci := 7) rfl h160 (rc_le hF (by decide)) (rc_le hL (by decide)) (ct_mdl_thrown h162) rfl rfl (by decide) d_law_law_656 rfl rfl ?_
                      refine j_iload C d_law_law_659 rfl 1 rfl ?_
                      refine j_icmp_eq (tgt := 666) C d_law_law_661 (by decide) rfl (fun c163 => ?_) (fun c163 => ?_)
                      · rw [if_pos c163] at h
                        refine j_iload C d_law_law_666 rfl 1 rfl ?_
                        refine j_if_ne (tgt := 683) C d_law_law_668 (by decide) rfl (fun c164 => ?_) (fun c164 => ?_)
                        · rw [if_neg c164] at h
                          refine rc_J.sub (lv' := [(0, va_rf (some sb)), (1, va_rf r1), (2, va_rf r2), (3, va_rf r3), (4, .int x4)]) [2, 3, 4, 5, 6] rfl ?_
                          exact k_law_law_683 hF hL hN C E S0 hfl hX hsb (fun w z0 z1 z2 z3 h => ih w z0 z1 z2 z3 h) h
                        · rw [if_pos c164] at h
                          refine j_aload_n C d_law_law_671 rfl 5 rfl ?_
                          refine j_iconst (v := 0) C d_law_law_672 rfl (by decide) ?_
                          obtain ⟨v165, h166, h⟩ := Option.bind_eq_some_iff.mp h
                          refine j_lald C h166 d_law_law_673 rfl ?_
                          refine j_iload C d_law_law_674 rfl 0 rfl ?_
                          refine j_i2l C d_law_law_676 rfl ?_
                          refine j_lcmp C d_law_law_677 rfl ?_
                          refine j_if_eq (tgt := 683) C d_law_law_678 (by decide) rfl (fun c167 => ?_) (fun c167 => ?_)
                          · rw [if_pos c167] at h
                            refine rc_J.sub (lv' := [(0, va_rf (some sb)), (1, va_rf r1), (2, va_rf r2), (3, va_rf r3), (4, .int x4)]) [2, 3, 4, 5, 6] rfl ?_
                            exact k_law_law_683 hF hL hN C E S0 hfl hX hsb (fun w z0 z1 z2 z3 h => ih w z0 z1 z2 z3 h) h
                          · rw [if_neg c167] at h
                            refine j_iconst (v := 0) C d_law_law_681 rfl (by decide) ?_
                            cases h
                            exact j_lawret C E d_law_law_682
                      · rw [if_neg c163] at h
                        refine j_iconst (v := 0) C d_law_law_664 rfl (by decide) ?_
                        cases h
                        exact j_lawret C E d_law_law_665
                    · rw [if_neg c148] at h
                      by_cases c168 : (v2 &&& 15) = 8
                      · rw [if_pos c168] at h
                        refine j_tableIn C d_law_law_40 (tgt := 686) (by rw [c168]; decide) (by rw [c168]; decide) (by rw [c168]; rfl) (by decide) ?_
                        refine j_aload_n C d_law_law_686 rfl 1 rfl ?_
                        refine j_aload_n C d_law_law_687 rfl 0 rfl ?_
                        refine j_iload C d_law_law_688 rfl 4 rfl ?_
                        refine j_iconst (v := 1) C d_law_law_690 rfl (by decide) ?_
                        refine j_iadd C d_law_law_691 rfl ?_
                        obtain ⟨v169, h170, h⟩ := Option.bind_eq_some_iff.mp h
                        refine j_sld C hX hsb h170 d_law_law_692 rfl ?_
                        refine j_aload_n C d_law_law_693 rfl 0 rfl ?_
                        refine j_iload C d_law_law_694 rfl 4 rfl ?_
                        refine j_iconst (v := 2) C d_law_law_696 rfl (by decide) ?_
                        refine j_iadd C d_law_law_697 rfl ?_
                        obtain ⟨v171, h172, h⟩ := Option.bind_eq_some_iff.mp h
                        refine j_sld C hX hsb h172 d_law_law_698 rfl ?_
                        refine j_aload_n C d_law_law_699 rfl 3 rfl ?_
                        obtain ⟨p173, h174, h⟩ := Option.bind_eq_some_iff.mp h
                        refine j_callSH C S0 (As := [va_rf r1, .int v169, .int v171, va_rf r3]) (st := []) (sk' := [.int p173.1]) mk_law_byteAt T_664 T_665 (rc_le hF (by decide)) (rc_le hL (by decide)) (ct_law_byteAt hfl h174) rfl rfl (by decide) d_law_law_700 rfl rfl ?_
                        refine j_istore C (i := 5) d_law_law_703 rfl [(5, .int p173.1), (0, va_rf (some sb)), (1, va_rf r1), (2, va_rf r2), (3, va_rf r3), (4, .int x4)] (rc_lt hN (by decide)) (by first | rfl | simp [va_rf_cat, rc_cat_i, rc_cat_l]) ?_
                        refine j_aload_n C d_law_law_705 rfl 3 rfl ?_
                        refine j_aload_n C d_law_law_706 rfl 1 rfl ?_
                        refine j_iload C d_law_law_707 rfl 5 rfl ?_
                        refine j_iconst (v := 1) C d_law_law_709 rfl (by decide) ?_
                        refine j_iadd C d_law_law_710 rfl ?_
                        obtain ⟨v175, h176, h⟩ := Option.bind_eq_some_iff.mp h
                        refine j_sld C hX hsb h176 d_law_law_711 rfl ?_
                        refine j_aload_n C d_law_law_712 rfl 1 rfl ?_
                        refine j_iload C d_law_law_713 rfl 5 rfl ?_
                        refine j_iconst (v := 2) C d_law_law_715 rfl (by decide) ?_
                        refine j_iadd C d_law_law_716 rfl ?_
                        obtain ⟨v177, h178, h⟩ := Option.bind_eq_some_iff.mp h
                        refine j_sld C hX hsb h178 d_law_law_717 rfl ?_
                        obtain ⟨a179, h180, h⟩ := Option.bind_eq_some_iff.mp h
                        obtain ⟨p181, h182, h⟩ := Option.bind_eq_some_iff.mp h
                        refine j_callV C (As := [.int v175, .int v177]) (st := []) (sk' := [.int p181.1]) mk_mdl_byteAt (Or.inl T_965) T_966 T_967 (ci := 7) rfl h180 (rc_le hF (by decide)) (rc_le hL (by decide)) (ct_mdl_byteAt h182) rfl rfl (by decide) d_law_law_718 rfl rfl ?_
                        refine j_istore C (i := 6) d_law_law_721 rfl [(6, .int p181.1), (5, .int p173.1), (0, va_rf (some sb)), (1, va_rf r1), (2, va_rf r2), (3, va_rf r3), (4, .int x4)] (rc_lt hN (by decide)) (by first | rfl | simp [va_rf_cat, rc_cat_i, rc_cat_l]) ?_
                        refine j_aload_n C d_law_law_723 rfl 4 rfl ?_
                        obtain ⟨a183, h184, h⟩ := Option.bind_eq_some_iff.mp h
                        obtain ⟨p185, h186, h⟩ := Option.bind_eq_some_iff.mp h
                        refine j_callV C (As := []) (st := []) (sk' := [.int p185.1]) mk_mdl_thrown (Or.inl T_823) T_824 T_825 (ci := 7) rfl h184 (rc_le hF (by decide)) (rc_le hL (by decide)) (ct_mdl_thrown h186) rfl rfl (by decide) d_law_law_724 rfl rfl ?_
                        refine j_iload C d_law_law_727 rfl 1 rfl ?_
                        refine j_icmp_eq (tgt := 734) C d_law_law_729 (by decide) rfl (fun c187 => ?_) (fun c187 => ?_)
                        · rw [if_pos c187] at h
                          refine j_iload C d_law_law_734 rfl 1 rfl ?_
                          refine j_if_ne (tgt := 751) C d_law_law_736 (by decide) rfl (fun c188 => ?_) (fun c188 => ?_)
                          · rw [if_neg c188] at h
                            refine rc_J.sub (lv' := [(0, va_rf (some sb)), (1, va_rf r1), (2, va_rf r2), (3, va_rf r3), (4, .int x4)]) [2, 3, 4, 5, 6] rfl ?_
                            exact k_law_law_751 hF hL hN C E S0 hfl hX hsb (fun w z0 z1 z2 z3 h => ih w z0 z1 z2 z3 h) h
                          · rw [if_pos c188] at h
                            refine j_aload_n C d_law_law_739 rfl 5 rfl ?_
                            refine j_iconst (v := 0) C d_law_law_740 rfl (by decide) ?_
                            obtain ⟨v189, h190, h⟩ := Option.bind_eq_some_iff.mp h
                            refine j_lald C h190 d_law_law_741 rfl ?_
                            refine j_iload C d_law_law_742 rfl 0 rfl ?_
                            refine j_i2l C d_law_law_744 rfl ?_
                            refine j_lcmp C d_law_law_745 rfl ?_
                            refine j_if_eq (tgt := 751) C d_law_law_746 (by decide) rfl (fun c191 => ?_) (fun c191 => ?_)
                            · rw [if_pos c191] at h
                              refine rc_J.sub (lv' := [(0, va_rf (some sb)), (1, va_rf r1), (2, va_rf r2), (3, va_rf r3), (4, .int x4)]) [2, 3, 4, 5, 6] rfl ?_
                              exact k_law_law_751 hF hL hN C E S0 hfl hX hsb (fun w z0 z1 z2 z3 h => ih w z0 z1 z2 z3 h) h
                            · rw [if_neg c191] at h
                              refine j_iconst (v := 0) C d_law_law_749 rfl (by decide) ?_
                              cases h
                              exact j_lawret C E d_law_law_750
                        · rw [if_neg c187] at h
                          refine j_iconst (v := 0) C d_law_law_732 rfl (by decide) ?_
                          cases h
                          exact j_lawret C E d_law_law_733
                      · rw [if_neg c168] at h
                        by_cases c192 : (v2 &&& 15) = 9
                        · rw [if_pos c192] at h
                          refine j_tableIn C d_law_law_40 (tgt := 754) (by rw [c192]; decide) (by rw [c192]; decide) (by rw [c192]; rfl) (by decide) ?_
                          refine j_aload_n C d_law_law_754 rfl 1 rfl ?_
                          refine j_aload_n C d_law_law_755 rfl 0 rfl ?_
                          refine j_iload C d_law_law_756 rfl 4 rfl ?_
                          refine j_iconst (v := 1) C d_law_law_758 rfl (by decide) ?_
                          refine j_iadd C d_law_law_759 rfl ?_
                          obtain ⟨v193, h194, h⟩ := Option.bind_eq_some_iff.mp h
                          refine j_sld C hX hsb h194 d_law_law_760 rfl ?_
                          refine j_aload_n C d_law_law_761 rfl 0 rfl ?_
                          refine j_iload C d_law_law_762 rfl 4 rfl ?_
                          refine j_iconst (v := 2) C d_law_law_764 rfl (by decide) ?_
                          refine j_iadd C d_law_law_765 rfl ?_
                          obtain ⟨v195, h196, h⟩ := Option.bind_eq_some_iff.mp h
                          refine j_sld C hX hsb h196 d_law_law_766 rfl ?_
                          refine j_aload_n C d_law_law_767 rfl 3 rfl ?_
                          obtain ⟨p197, h198, h⟩ := Option.bind_eq_some_iff.mp h
                          refine j_callSH C S0 (As := [va_rf r1, .int v193, .int v195, va_rf r3]) (st := []) (sk' := [.int p197.1]) mk_law_word T_671 T_672 (rc_le hF (by decide)) (rc_le hL (by decide)) (ct_law_word hfl h198) rfl rfl (by decide) d_law_law_768 rfl rfl ?_
                          refine j_istore C (i := 5) d_law_law_771 rfl [(5, .int p197.1), (0, va_rf (some sb)), (1, va_rf r1), (2, va_rf r2), (3, va_rf r3), (4, .int x4)] (rc_lt hN (by decide)) (by first | rfl | simp [va_rf_cat, rc_cat_i, rc_cat_l]) ?_
                          refine j_aload_n C d_law_law_773 rfl 3 rfl ?_
                          refine j_aload_n C d_law_law_774 rfl 1 rfl ?_
                          refine j_iload C d_law_law_775 rfl 5 rfl ?_
                          refine j_iconst (v := 1) C d_law_law_777 rfl (by decide) ?_
                          refine j_iadd C d_law_law_778 rfl ?_
                          obtain ⟨v199, h200, h⟩ := Option.bind_eq_some_iff.mp h
                          refine j_sld C hX hsb h200 d_law_law_779 rfl ?_
                          refine j_aload_n C d_law_law_780 rfl 1 rfl ?_
                          refine j_iload C d_law_law_781 rfl 5 rfl ?_
                          refine j_iconst (v := 2) C d_law_law_783 rfl (by decide) ?_
                          refine j_iadd C d_law_law_784 rfl ?_
                          obtain ⟨v201, h202, h⟩ := Option.bind_eq_some_iff.mp h
                          refine j_sld C hX hsb h202 d_law_law_785 rfl ?_
                          obtain ⟨a203, h204, h⟩ := Option.bind_eq_some_iff.mp h
                          obtain ⟨p205, h206, h⟩ := Option.bind_eq_some_iff.mp h
                          refine j_callV C (As := [.int v199, .int v201]) (st := []) (sk' := [.int p205.1]) mk_mdl_word (Or.inl T_969) T_970 T_971 (ci := 7) rfl h204 (rc_le hF (by decide)) (rc_le hL (by decide)) (ct_mdl_word h206) rfl rfl (by decide) d_law_law_786 rfl rfl ?_
                          refine j_istore C (i := 6) d_law_law_789 rfl [(6, .int p205.1), (5, .int p197.1), (0, va_rf (some sb)), (1, va_rf r1), (2, va_rf r2), (3, va_rf r3), (4, .int x4)] (rc_lt hN (by decide)) (by first | rfl | simp [va_rf_cat, rc_cat_i, rc_cat_l]) ?_
                          refine j_aload_n C d_law_law_791 rfl 4 rfl ?_
                          obtain ⟨a207, h208, h⟩ := Option.bind_eq_some_iff.mp h
                          obtain ⟨p209, h210, h⟩ := Option.bind_eq_some_iff.mp h
                          refine j_callV C (As := []) (st := []) (sk' := [.int p209.1]) mk_mdl_thrown (Or.inl T_823) T_824 T_825 (ci := 7) rfl h208 (rc_le hF (by decide)) (rc_le hL (by decide)) (ct_mdl_thrown h210) rfl rfl (by decide) d_law_law_792 rfl rfl ?_
                          refine j_iload C d_law_law_795 rfl 1 rfl ?_
                          refine j_icmp_eq (tgt := 802) C d_law_law_797 (by decide) rfl (fun c211 => ?_) (fun c211 => ?_)
                          · rw [if_pos c211] at h
                            refine j_iload C d_law_law_802 rfl 1 rfl ?_
                            refine j_if_ne (tgt := 819) C d_law_law_804 (by decide) rfl (fun c212 => ?_) (fun c212 => ?_)
                            · rw [if_neg c212] at h
                              refine rc_J.sub (lv' := [(0, va_rf (some sb)), (1, va_rf r1), (2, va_rf r2), (3, va_rf r3), (4, .int x4)]) [2, 3, 4, 5, 6] rfl ?_
                              exact k_law_law_819 hF hL hN C E S0 hfl hX hsb (fun w z0 z1 z2 z3 h => ih w z0 z1 z2 z3 h) h
                            · rw [if_pos c212] at h
                              refine j_aload_n C d_law_law_807 rfl 5 rfl ?_
                              refine j_iconst (v := 0) C d_law_law_808 rfl (by decide) ?_
                              obtain ⟨v213, h214, h⟩ := Option.bind_eq_some_iff.mp h
                              refine j_lald C h214 d_law_law_809 rfl ?_
                              refine j_iload C d_law_law_810 rfl 0 rfl ?_
                              refine j_i2l C d_law_law_812 rfl ?_
                              refine j_lcmp C d_law_law_813 rfl ?_
                              refine j_if_eq (tgt := 819) C d_law_law_814 (by decide) rfl (fun c215 => ?_) (fun c215 => ?_)
                              · rw [if_pos c215] at h
                                refine rc_J.sub (lv' := [(0, va_rf (some sb)), (1, va_rf r1), (2, va_rf r2), (3, va_rf r3), (4, .int x4)]) [2, 3, 4, 5, 6] rfl ?_
                                exact k_law_law_819 hF hL hN C E S0 hfl hX hsb (fun w z0 z1 z2 z3 h => ih w z0 z1 z2 z3 h) h
                              · rw [if_neg c215] at h
                                refine j_iconst (v := 0) C d_law_law_817 rfl (by decide) ?_
                                cases h
                                exact j_lawret C E d_law_law_818
                          · rw [if_neg c211] at h
                            refine j_iconst (v := 0) C d_law_law_800 rfl (by decide) ?_
                            cases h
                            exact j_lawret C E d_law_law_801
                        · rw [if_neg c192] at h
                          by_cases c216 : (v2 &&& 15) = 10
                          · rw [if_pos c216] at h
                            refine j_tableIn C d_law_law_40 (tgt := 822) (by rw [c216]; decide) (by rw [c216]; decide) (by rw [c216]; rfl) (by decide) ?_
                            refine j_aload_n C d_law_law_822 rfl 1 rfl ?_
                            refine j_aload_n C d_law_law_823 rfl 0 rfl ?_
                            refine j_iload C d_law_law_824 rfl 4 rfl ?_
                            refine j_iconst (v := 1) C d_law_law_826 rfl (by decide) ?_
                            refine j_iadd C d_law_law_827 rfl ?_
                            obtain ⟨v217, h218, h⟩ := Option.bind_eq_some_iff.mp h
                            refine j_sld C hX hsb h218 d_law_law_828 rfl ?_
                            refine j_aload_n C d_law_law_829 rfl 0 rfl ?_
                            refine j_iload C d_law_law_830 rfl 4 rfl ?_
                            refine j_iconst (v := 2) C d_law_law_832 rfl (by decide) ?_
                            refine j_iadd C d_law_law_833 rfl ?_
                            obtain ⟨v219, h220, h⟩ := Option.bind_eq_some_iff.mp h
                            refine j_sld C hX hsb h220 d_law_law_834 rfl ?_
                            refine j_aload_n C d_law_law_835 rfl 3 rfl ?_
                            obtain ⟨p221, h222, h⟩ := Option.bind_eq_some_iff.mp h
                            refine j_callSH C S0 (As := [va_rf r1, .int v217, .int v219, va_rf r3]) (st := []) (sk' := [.int p221.1]) mk_law_says T_679 T_680 (rc_le hF (by decide)) (rc_le hL (by decide)) (ct_law_says hfl h222) rfl rfl (by decide) d_law_law_836 rfl rfl ?_
                            refine j_istore C (i := 5) d_law_law_839 rfl [(5, .int p221.1), (0, va_rf (some sb)), (1, va_rf r1), (2, va_rf r2), (3, va_rf r3), (4, .int x4)] (rc_lt hN (by decide)) (by first | rfl | simp [va_rf_cat, rc_cat_i, rc_cat_l]) ?_
                            refine j_aload_n C d_law_law_841 rfl 3 rfl ?_
                            refine j_aload_n C d_law_law_842 rfl 1 rfl ?_
                            refine j_iload C d_law_law_843 rfl 5 rfl ?_
                            refine j_iconst (v := 1) C d_law_law_845 rfl (by decide) ?_
                            refine j_iadd C d_law_law_846 rfl ?_
                            obtain ⟨v223, h224, h⟩ := Option.bind_eq_some_iff.mp h
                            refine j_sld C hX hsb h224 d_law_law_847 rfl ?_
                            refine j_aload_n C d_law_law_848 rfl 1 rfl ?_
                            refine j_iload C d_law_law_849 rfl 5 rfl ?_
                            refine j_iconst (v := 2) C d_law_law_851 rfl (by decide) ?_
                            refine j_iadd C d_law_law_852 rfl ?_
                            obtain ⟨v225, h226, h⟩ := Option.bind_eq_some_iff.mp h
                            refine j_sld C hX hsb h226 d_law_law_853 rfl ?_
                            obtain ⟨a227, h228, h⟩ := Option.bind_eq_some_iff.mp h
                            obtain ⟨p229, h230, h⟩ := Option.bind_eq_some_iff.mp h
                            refine j_callV C (As := [.int v223, .int v225]) (st := []) (sk' := [.int p229.1]) mk_mdl_says (Or.inl T_977) T_978 T_979 (ci := 7) rfl h228 (rc_le hF (by decide)) (rc_le hL (by decide)) (ct_mdl_says h230) rfl rfl (by decide) d_law_law_854 rfl rfl ?_
                            refine j_istore C (i := 6) d_law_law_857 rfl [(6, .int p229.1), (5, .int p221.1), (0, va_rf (some sb)), (1, va_rf r1), (2, va_rf r2), (3, va_rf r3), (4, .int x4)] (rc_lt hN (by decide)) (by first | rfl | simp [va_rf_cat, rc_cat_i, rc_cat_l]) ?_
                            refine j_aload_n C d_law_law_859 rfl 4 rfl ?_
                            obtain ⟨a231, h232, h⟩ := Option.bind_eq_some_iff.mp h
                            obtain ⟨p233, h234, h⟩ := Option.bind_eq_some_iff.mp h
                            refine j_callV C (As := []) (st := []) (sk' := [.int p233.1]) mk_mdl_thrown (Or.inl T_823) T_824 T_825 (ci := 7) rfl h232 (rc_le hF (by decide)) (rc_le hL (by decide)) (ct_mdl_thrown h234) rfl rfl (by decide) d_law_law_860 rfl rfl ?_
                            refine j_iload C d_law_law_863 rfl 1 rfl ?_
                            refine j_icmp_eq (tgt := 870) C d_law_law_865 (by decide) rfl (fun c235 => ?_) (fun c235 => ?_)
                            · rw [if_pos c235] at h
                              refine j_iload C d_law_law_870 rfl 1 rfl ?_
                              refine j_if_ne (tgt := 887) C d_law_law_872 (by decide) rfl (fun c236 => ?_) (fun c236 => ?_)
                              · rw [if_neg c236] at h
                                refine rc_J.sub (lv' := [(0, va_rf (some sb)), (1, va_rf r1), (2, va_rf r2), (3, va_rf r3), (4, .int x4)]) [2, 3, 4, 5, 6] rfl ?_
                                exact k_law_law_887 hF hL hN C E S0 hfl hX hsb (fun w z0 z1 z2 z3 h => ih w z0 z1 z2 z3 h) h
                              · rw [if_pos c236] at h
                                refine j_aload_n C d_law_law_875 rfl 5 rfl ?_
                                refine j_iconst (v := 0) C d_law_law_876 rfl (by decide) ?_
                                obtain ⟨v237, h238, h⟩ := Option.bind_eq_some_iff.mp h
                                refine j_lald C h238 d_law_law_877 rfl ?_
                                refine j_iload C d_law_law_878 rfl 0 rfl ?_
                                refine j_i2l C d_law_law_880 rfl ?_
                                refine j_lcmp C d_law_law_881 rfl ?_
                                refine j_if_eq (tgt := 887) C d_law_law_882 (by decide) rfl (fun c239 => ?_) (fun c239 => ?_)
                                · rw [if_pos c239] at h
                                  refine rc_J.sub (lv' := [(0, va_rf (some sb)), (1, va_rf r1), (2, va_rf r2), (3, va_rf r3), (4, .int x4)]) [2, 3, 4, 5, 6] rfl ?_
                                  exact k_law_law_887 hF hL hN C E S0 hfl hX hsb (fun w z0 z1 z2 z3 h => ih w z0 z1 z2 z3 h) h
                                · rw [if_neg c239] at h
                                  refine j_iconst (v := 0) C d_law_law_885 rfl (by decide) ?_
                                  cases h
                                  exact j_lawret C E d_law_law_886
                            · rw [if_neg c235] at h
                              refine j_iconst (v := 0) C d_law_law_868 rfl (by decide) ?_
                              cases h
                              exact j_lawret C E d_law_law_869
                          · rw [if_neg c216] at h
                            by_cases c240 : (v2 &&& 15) = 11
                            · rw [if_pos c240] at h
                              refine j_tableIn C d_law_law_40 (tgt := 890) (by rw [c240]; decide) (by rw [c240]; decide) (by rw [c240]; rfl) (by decide) ?_
                              refine j_aload_n C d_law_law_890 rfl 1 rfl ?_
                              obtain ⟨a241, h242, h⟩ := Option.bind_eq_some_iff.mp h
                              obtain ⟨p243, h244, h⟩ := Option.bind_eq_some_iff.mp h
                              refine j_callV C (As := []) (st := []) (sk' := [.long p243.1]) mk_rec_value (Or.inl T_256) T_257 T_258 (ci := 0) rfl h242 (rc_le hF (by decide)) (rc_le hL (by decide)) (ct_rec_value h244) rfl rfl (by decide) d_law_law_891 rfl rfl ?_
                              refine j_aload_n C d_law_law_894 rfl 2 rfl ?_
                              obtain ⟨a245, h246, h⟩ := Option.bind_eq_some_iff.mp h
                              obtain ⟨p247, h248, h⟩ := Option.bind_eq_some_iff.mp h
                              refine j_callV C (As := []) (st := [.long p243.1]) (sk' := [.long p247.1, .long p243.1]) mk_mdl_value (Or.inl T_989) T_990 T_991 (ci := 7) rfl h246 (rc_le hF (by decide)) (rc_le hL (by decide)) (ct_mdl_value h248) rfl rfl (by simp [va_rf_cat, rc_cat_i, rc_cat_l]) d_law_law_895 rfl rfl ?_
                              refine j_lcmp C d_law_law_898 rfl ?_
                              refine j_if_eq (tgt := 973) C d_law_law_899 (by decide) rfl (fun c249 => ?_) (fun c249 => ?_)
                              · rw [if_pos c249] at h
                                exact k_law_law_973 hF hL hN C E S0 hfl hX hsb (fun w z0 z1 z2 z3 h => ih w z0 z1 z2 z3 h) h
                              · rw [if_neg c249] at h
                                refine j_iconst (v := 0) C d_law_law_902 rfl (by decide) ?_
                                cases h
                                exact j_lawret C E d_law_law_903
                            · rw [if_neg c240] at h
                              by_cases c250 : (v2 &&& 15) = 12
                              · rw [if_pos c250] at h
                                refine j_tableIn C d_law_law_40 (tgt := 904) (by rw [c250]; decide) (by rw [c250]; decide) (by rw [c250]; rfl) (by decide) ?_
                                refine j_aload_n C d_law_law_904 rfl 1 rfl ?_
                                obtain ⟨a251, h252, h⟩ := Option.bind_eq_some_iff.mp h
                                obtain ⟨p253, h254, h⟩ := Option.bind_eq_some_iff.mp h
                                refine j_callV C (As := []) (st := []) (sk' := [.int p253.1]) mk_rec_has (Or.inl T_284) T_285 T_286 (ci := 0) rfl h252 (rc_le hF (by decide)) (rc_le hL (by decide)) (ct_rec_has h254) rfl rfl (by decide) d_law_law_905 rfl rfl ?_
                                refine j_aload_n C d_law_law_908 rfl 2 rfl ?_
                                obtain ⟨a255, h256, h⟩ := Option.bind_eq_some_iff.mp h
                                obtain ⟨p257, h258, h⟩ := Option.bind_eq_some_iff.mp h
                                refine j_callV C (As := []) (st := [.int p253.1]) (sk' := [.int p257.1, .int p253.1]) mk_mdl_has (Or.inl T_997) T_998 T_999 (ci := 7) rfl h256 (rc_le hF (by decide)) (rc_le hL (by decide)) (ct_mdl_has h258) rfl rfl (by simp [va_rf_cat, rc_cat_i, rc_cat_l]) d_law_law_909 rfl rfl ?_
                                refine j_icmp_eq (tgt := 973) C d_law_law_912 (by decide) rfl (fun c259 => ?_) (fun c259 => ?_)
                                · rw [if_pos c259] at h
                                  exact k_law_law_973 hF hL hN C E S0 hfl hX hsb (fun w z0 z1 z2 z3 h => ih w z0 z1 z2 z3 h) h
                                · rw [if_neg c259] at h
                                  refine j_iconst (v := 0) C d_law_law_915 rfl (by decide) ?_
                                  cases h
                                  exact j_lawret C E d_law_law_916
                              · rw [if_neg c250] at h
                                by_cases c260 : (v2 &&& 15) = 13
                                · rw [if_pos c260] at h
                                  refine j_tableIn C d_law_law_40 (tgt := 917) (by rw [c260]; decide) (by rw [c260]; decide) (by rw [c260]; rfl) (by decide) ?_
                                  refine j_aload_n C d_law_law_917 rfl 1 rfl ?_
                                  refine j_aload_n C d_law_law_918 rfl 0 rfl ?_
                                  refine j_iload C d_law_law_919 rfl 4 rfl ?_
                                  refine j_iconst (v := 1) C d_law_law_921 rfl (by decide) ?_
                                  refine j_iadd C d_law_law_922 rfl ?_
                                  obtain ⟨v261, h262, h⟩ := Option.bind_eq_some_iff.mp h
                                  refine j_sld C hX hsb h262 d_law_law_923 rfl ?_
                                  refine j_aload_n C d_law_law_924 rfl 3 rfl ?_
                                  obtain ⟨p263, h264, h⟩ := Option.bind_eq_some_iff.mp h
                                  refine j_callSH C S0 (As := [va_rf r1, .int v261, va_rf r3]) (st := []) (sk' := [.int p263.1]) mk_law_count T_700 T_701 (rc_le hF (by decide)) (rc_le hL (by decide)) (ct_law_count hfl h264) rfl rfl (by decide) d_law_law_925 rfl rfl ?_
                                  refine j_istore C (i := 5) d_law_law_928 rfl [(5, .int p263.1), (0, va_rf (some sb)), (1, va_rf r1), (2, va_rf r2), (3, va_rf r3), (4, .int x4)] (rc_lt hN (by decide)) (by first | rfl | simp [va_rf_cat, rc_cat_i, rc_cat_l]) ?_
                                  refine j_aload_n C d_law_law_930 rfl 3 rfl ?_
                                  refine j_aload_n C d_law_law_931 rfl 1 rfl ?_
                                  refine j_iload C d_law_law_932 rfl 5 rfl ?_
                                  refine j_iconst (v := 1) C d_law_law_934 rfl (by decide) ?_
                                  refine j_iadd C d_law_law_935 rfl ?_
                                  obtain ⟨v265, h266, h⟩ := Option.bind_eq_some_iff.mp h
                                  refine j_sld C hX hsb h266 d_law_law_936 rfl ?_
                                  obtain ⟨a267, h268, h⟩ := Option.bind_eq_some_iff.mp h
                                  obtain ⟨p269, h270, h⟩ := Option.bind_eq_some_iff.mp h
                                  refine j_callV C (As := [.int v265]) (st := []) (sk' := [.int p269.1]) mk_mdl_count (Or.inl T_1001) T_1002 T_1003 (ci := 7) rfl h268 (rc_le hF (by decide)) (rc_le hL (by decide)) (ct_mdl_count h270) rfl rfl (by decide) d_law_law_937 rfl rfl ?_
                                  refine j_istore C (i := 6) d_law_law_940 rfl [(6, .int p269.1), (5, .int p263.1), (0, va_rf (some sb)), (1, va_rf r1), (2, va_rf r2), (3, va_rf r3), (4, .int x4)] (rc_lt hN (by decide)) (by first | rfl | simp [va_rf_cat, rc_cat_i, rc_cat_l]) ?_
                                  refine j_aload_n C d_law_law_942 rfl 4 rfl ?_
                                  obtain ⟨a271, h272, h⟩ := Option.bind_eq_some_iff.mp h
                                  obtain ⟨p273, h274, h⟩ := Option.bind_eq_some_iff.mp h
                                  refine j_callV C (As := []) (st := []) (sk' := [.int p273.1]) mk_mdl_thrown (Or.inl T_823) T_824 T_825 (ci := 7) rfl h272 (rc_le hF (by decide)) (rc_le hL (by decide)) (ct_mdl_thrown h274) rfl rfl (by decide) d_law_law_943 rfl rfl ?_
                                  refine j_iload C d_law_law_946 rfl 1 rfl ?_
                                  refine j_icmp_eq (tgt := 953) C d_law_law_948 (by decide) rfl (fun c275 => ?_) (fun c275 => ?_)
                                  · rw [if_pos c275] at h
                                    refine j_iload C d_law_law_953 rfl 1 rfl ?_
                                    refine j_if_ne (tgt := 970) C d_law_law_955 (by decide) rfl (fun c276 => ?_) (fun c276 => ?_)
                                    · rw [if_neg c276] at h
                                      refine rc_J.sub (lv' := [(0, va_rf (some sb)), (1, va_rf r1), (2, va_rf r2), (3, va_rf r3), (4, .int x4)]) [2, 3, 4, 5, 6] rfl ?_
                                      exact k_law_law_970 hF hL hN C E S0 hfl hX hsb (fun w z0 z1 z2 z3 h => ih w z0 z1 z2 z3 h) h
                                    · rw [if_pos c276] at h
                                      refine j_aload_n C d_law_law_958 rfl 5 rfl ?_
                                      refine j_iconst (v := 0) C d_law_law_959 rfl (by decide) ?_
                                      obtain ⟨v277, h278, h⟩ := Option.bind_eq_some_iff.mp h
                                      refine j_lald C h278 d_law_law_960 rfl ?_
                                      refine j_iload C d_law_law_961 rfl 0 rfl ?_
                                      refine j_i2l C d_law_law_963 rfl ?_
                                      refine j_lcmp C d_law_law_964 rfl ?_
                                      refine j_if_eq (tgt := 970) C d_law_law_965 (by decide) rfl (fun c279 => ?_) (fun c279 => ?_)
                                      · rw [if_pos c279] at h
                                        refine rc_J.sub (lv' := [(0, va_rf (some sb)), (1, va_rf r1), (2, va_rf r2), (3, va_rf r3), (4, .int x4)]) [2, 3, 4, 5, 6] rfl ?_
                                        exact k_law_law_970 hF hL hN C E S0 hfl hX hsb (fun w z0 z1 z2 z3 h => ih w z0 z1 z2 z3 h) h
                                      · rw [if_neg c279] at h
                                        refine j_iconst (v := 0) C d_law_law_968 rfl (by decide) ?_
                                        cases h
                                        exact j_lawret C E d_law_law_969
                                  · rw [if_neg c275] at h
                                    refine j_iconst (v := 0) C d_law_law_951 rfl (by decide) ?_
                                    cases h
                                    exact j_lawret C E d_law_law_952
                                · rw [if_neg c260] at h
                                  refine j_tableOut C d_law_law_40 (tgt := 973) (by have e0 := lv_neT c4 (a := 0) (by decide); have e1 := lv_neT c40 (a := 1) (by decide); have e2 := lv_neT c56 (a := 2) (by decide); have e3 := lv_neT c66 (a := 3) (by decide); have e4 := lv_neT c86 (a := 4) (by decide); have e5 := lv_neT c96 (a := 5) (by decide); have e6 := lv_neT c128 (a := 6) (by decide); have e7 := lv_neT c148 (a := 7) (by decide); have e8 := lv_neT c168 (a := 8) (by decide); have e9 := lv_neT c192 (a := 9) (by decide); have e10 := lv_neT c216 (a := 10) (by decide); have e11 := lv_neT c240 (a := 11) (by decide); have e12 := lv_neT c250 (a := 12) (by decide); have e13 := lv_neT c260 (a := 13) (by decide); omega) (by decide) ?_
                                  exact k_law_law_973 hF hL hN C E S0 hfl hX hsb (fun w z0 z1 z2 z3 h => ih w z0 z1 z2 z3 h) h

set_option maxRecDepth 100000 in
set_option maxHeartbeats 4000000 in
theorem k_law_0 {X : rc_X} {w0 : rc_M} (hF : (q_R X).frames = 12) (hL : (q_R X).locals = 488) (hN : q_n X = 7) (C : rc_C X "RecordCallsLaw" code w0) {res : Int32 × rc_M} (E : rc_EL X res) (S0 : rc_S0 (q_s X)) (hfl : (q_l X).flags = flags0) {sb L : Nat} {xs : Nat → Int32} (hX : va_X sb L xs (q_s X) (q_s X).heap) (hsb : sb < (q_s X).heap.size ∧ sb < rc_b (q_G X)) {w : rc_M} (h : f_law_law w sb xs L = some res) : rc_J X w 0 [] [(0, va_rf (some sb))] := by
  unfold f_law_law at h
  obtain ⟨p1, h2, h⟩ := Option.bind_eq_some_iff.mp h
  refine j_new C (ci := 0) (by decide) T_18 T_19 T_1 h2 d_law_law_0 rfl ?_
  refine j_dup C d_law_law_3 rfl (by first | rfl | exact va_rf_cat _) ?_
  obtain ⟨w3, h4, h⟩ := Option.bind_eq_some_iff.mp h
  refine j_callI C (As := []) (st := [va_rf (some p1.1)]) mk_rec_init (Or.inl T_20) T_21 rfl rfl (rc_le hF (by decide)) (rc_le hL (by decide)) (ct_rec_init h4) rfl rfl (by simp [va_rf_cat, rc_cat_i, rc_cat_l]) d_law_law_4 rfl ?_
  refine j_astore_n C (i := 1) d_law_law_7 rfl rfl [(1, va_rf (some p1.1)), (0, va_rf (some sb))] (rc_lt hN (by decide)) (by first | rfl | simp [va_rf_cat, rc_cat_i, rc_cat_l]) ?_
  obtain ⟨p5, h6, h⟩ := Option.bind_eq_some_iff.mp h
  refine j_new C (ci := 7) (by decide) T_712 T_713 T_8 h6 d_law_law_8 rfl ?_
  refine j_dup C d_law_law_11 rfl (by first | rfl | exact va_rf_cat _) ?_
  obtain ⟨w7, h8, h⟩ := Option.bind_eq_some_iff.mp h
  refine j_callI C (As := []) (st := [va_rf (some p5.1)]) mk_mdl_init (Or.inl T_714) T_715 rfl rfl (rc_le hF (by decide)) (rc_le hL (by decide)) (ct_mdl_init h8) rfl rfl (by simp [va_rf_cat, rc_cat_i, rc_cat_l]) d_law_law_12 rfl ?_
  refine j_astore_n C (i := 2) d_law_law_15 rfl rfl [(2, va_rf (some p5.1)), (1, va_rf (some p1.1)), (0, va_rf (some sb))] (rc_lt hN (by decide)) (by first | rfl | simp [va_rf_cat, rc_cat_i, rc_cat_l]) ?_
  refine j_iconst (v := 1) C d_law_law_16 rfl (by decide) ?_
  obtain ⟨p9, h10, h⟩ := Option.bind_eq_some_iff.mp h
  refine j_newA C (kd := 1) (ty := .long) rfl rfl (fun _ _ h => h) (fun _ _ => rfl) (by decide) T_67 h10 d_law_law_17 rfl ?_
  refine j_astore_n C (i := 3) d_law_law_19 rfl rfl [(3, va_rf (some p9.1)), (2, va_rf (some p5.1)), (1, va_rf (some p1.1)), (0, va_rf (some sb))] (rc_lt hN (by decide)) (by first | rfl | simp [va_rf_cat, rc_cat_i, rc_cat_l]) ?_
  refine j_iconst (v := 0) C d_law_law_20 rfl (by decide) ?_
  refine j_istore C (i := 4) d_law_law_21 rfl [(4, .int 0), (3, va_rf (some p9.1)), (2, va_rf (some p5.1)), (1, va_rf (some p1.1)), (0, va_rf (some sb))] (rc_lt hN (by decide)) (by first | rfl | simp [va_rf_cat, rc_cat_i, rc_cat_l]) ?_
  refine rc_J.sub (lv' := [(0, va_rf (some sb)), (1, va_rf (some p1.1)), (2, va_rf (some p5.1)), (3, va_rf (some p9.1)), (4, .int 0)]) [4, 3, 2, 1, 0] rfl ?_
  exact k_law_law_23 hF hL hN C E S0 hfl hX hsb _ _ _ _ _ _ h

