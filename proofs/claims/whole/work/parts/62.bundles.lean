/-! THE PURE PART, 3: the steps in bundles -/
theorem px_mS {b : Nat} {I : Nat → Nat → Int32} {V : Nat → Nat → Int64} {G : Nat → Nat → Nat} {R : Nat → List UInt8} {M : Nat → Nat → Int32} {p : px_P}  : (rc_rc (px_W b I V G R M p) (some (b + 316)) 7 = some (b + 316)) ∧
  (rc_gI (px_W b I V G R M p) (some (b + 316)) 7 0 = some (M 316 0)) ∧
  (∀ (x : Int32), rc_pI (px_W b I V G R M p) (some (b + 316)) 7 0 x = some (px_W b I V G R (px_u2 M 316 0 x) p)) ∧
  (rc_gI (px_W b I V G R M p) (some (b + 316)) 7 2 = some (M 316 2)) ∧
  (∀ (x : Int32), rc_pI (px_W b I V G R M p) (some (b + 316)) 7 2 x = some (px_W b I V G R (px_u2 M 316 2 x) p)) ∧
  (rc_gI (px_W b I V G R M p) (some (b + 316)) 7 5 = some (M 316 5)) ∧
  (∀ (x : Int32), rc_pI (px_W b I V G R M p) (some (b + 316)) 7 5 x = some (px_W b I V G R (px_u2 M 316 5 x) p)) ∧
  (rc_gI (px_W b I V G R M p) (some (b + 316)) 7 10 = some (M 316 10)) ∧
  (∀ (x : Int32), rc_pI (px_W b I V G R M p) (some (b + 316)) 7 10 x = some (px_W b I V G R (px_u2 M 316 10 x) p)) ∧
  (rc_gI (px_W b I V G R M p) (some (b + 316)) 7 23 = some (M 316 23)) ∧
  (∀ (x : Int32), rc_pI (px_W b I V G R M p) (some (b + 316)) 7 23 x = some (px_W b I V G R (px_u2 M 316 23 x) p)) ∧
  (rc_gI (px_W b I V G R M p) (some (b + 316)) 7 24 = some (M 316 24)) ∧
  (∀ (x : Int32), rc_pI (px_W b I V G R M p) (some (b + 316)) 7 24 x = some (px_W b I V G R (px_u2 M 316 24 x) p)) ∧
  (rc_gI (px_W b I V G R M p) (some (b + 316)) 7 25 = some (M 316 25)) ∧
  (∀ (x : Int32), rc_pI (px_W b I V G R M p) (some (b + 316)) 7 25 x = some (px_W b I V G R (px_u2 M 316 25 x) p)) ∧
  (rc_gI (px_W b I V G R M p) (some (b + 316)) 7 26 = some (M 316 26)) ∧
  (∀ (x : Int32), rc_pI (px_W b I V G R M p) (some (b + 316)) 7 26 x = some (px_W b I V G R (px_u2 M 316 26 x) p)) ∧
  (rc_gI (px_W b I V G R M p) (some (b + 316)) 7 27 = some (M 316 27)) ∧
  (∀ (x : Int32), rc_pI (px_W b I V G R M p) (some (b + 316)) 7 27 x = some (px_W b I V G R (px_u2 M 316 27 x) p)) ∧
  (rc_gI (px_W b I V G R M p) (some (b + 316)) 7 28 = some (M 316 28)) ∧
  (∀ (x : Int32), rc_pI (px_W b I V G R M p) (some (b + 316)) 7 28 x = some (px_W b I V G R (px_u2 M 316 28 x) p)) ∧
  (rc_gI (px_W b I V G R M p) (some (b + 316)) 7 29 = some (M 316 29)) ∧
  (∀ (x : Int32), rc_pI (px_W b I V G R M p) (some (b + 316)) 7 29 x = some (px_W b I V G R (px_u2 M 316 29 x) p)) ∧
  (rc_gI (px_W b I V G R M p) (some (b + 316)) 7 30 = some (M 316 30)) ∧
  (∀ (x : Int32), rc_pI (px_W b I V G R M p) (some (b + 316)) 7 30 x = some (px_W b I V G R (px_u2 M 316 30 x) p)) ∧
  (rc_gI (px_W b I V G R M p) (some (b + 316)) 7 32 = some (M 316 32)) ∧
  (∀ (x : Int32), rc_pI (px_W b I V G R M p) (some (b + 316)) 7 32 x = some (px_W b I V G R (px_u2 M 316 32 x) p)) ∧
  (rc_gI (px_W b I V G R M p) (some (b + 316)) 7 33 = some (M 316 33)) ∧
  (∀ (x : Int32), rc_pI (px_W b I V G R M p) (some (b + 316)) 7 33 x = some (px_W b I V G R (px_u2 M 316 33 x) p)) ∧
  (∀ (x : Int32), rc_pZ (px_W b I V G R M p) (some (b + 316)) 7 28 x = if x = 0 ∨ x = 1 then some (px_W b I V G R (px_u2 M 316 28 x) p) else none) ∧
  (rc_gR (px_W b I V G R M p) (some (b + 316)) 7 1 = some (some (b + 317))) ∧
  (rc_gR (px_W b I V G R M p) (some (b + 316)) 7 3 = some (some (b + 318))) ∧
  (rc_gR (px_W b I V G R M p) (some (b + 316)) 7 4 = some (some (b + 319))) ∧
  (rc_gR (px_W b I V G R M p) (some (b + 316)) 7 6 = some (some (b + 320))) ∧
  (rc_gR (px_W b I V G R M p) (some (b + 316)) 7 7 = some (some (b + 321))) ∧
  (rc_gR (px_W b I V G R M p) (some (b + 316)) 7 8 = some (some (b + 322))) ∧
  (rc_gR (px_W b I V G R M p) (some (b + 316)) 7 9 = some (some (b + 323))) ∧
  (rc_gR (px_W b I V G R M p) (some (b + 316)) 7 11 = some (some (b + 324))) ∧
  (rc_gR (px_W b I V G R M p) (some (b + 316)) 7 12 = some (some (b + 325))) ∧
  (rc_gR (px_W b I V G R M p) (some (b + 316)) 7 13 = some (some (b + 326))) ∧
  (rc_gR (px_W b I V G R M p) (some (b + 316)) 7 14 = some (some (b + 327))) ∧
  (rc_gR (px_W b I V G R M p) (some (b + 316)) 7 15 = some (some (b + 328))) ∧
  (rc_gR (px_W b I V G R M p) (some (b + 316)) 7 16 = some (some (b + 329))) ∧
  (rc_gR (px_W b I V G R M p) (some (b + 316)) 7 17 = some (some (b + 330))) ∧
  (rc_gR (px_W b I V G R M p) (some (b + 316)) 7 18 = some (some (b + 331))) ∧
  (rc_gR (px_W b I V G R M p) (some (b + 316)) 7 19 = some (some (b + 332))) ∧
  (rc_gR (px_W b I V G R M p) (some (b + 316)) 7 20 = some (some (b + 333))) ∧
  (rc_gR (px_W b I V G R M p) (some (b + 316)) 7 21 = some (some (b + 334))) ∧
  (rc_gR (px_W b I V G R M p) (some (b + 316)) 7 22 = some (some (b + 335))) ∧
  (rc_gR (px_W b I V G R M p) (some (b + 316)) 7 31 = some (some (b + 336))) ∧
  (∀ (j : Nat) (hj : j < 1600), rc_aI (px_W b I V G R M p) (some (b + 317)) 0 (nI j) = some (M 317 j)) ∧
  (∀ (j : Nat) (x : Int32) (hj : j < 1600), rc_sI (px_W b I V G R M p) (some (b + 317)) 0 (nI j) x = some (px_W b I V G R (px_u2 M 317 j x) p)) ∧
  (∀ (j : Nat) (hj : j < 102400), rc_aI (px_W b I V G R M p) (some (b + 318)) 2 (nI j) = some (M 318 j)) ∧
  (∀ (j : Nat) (x : Int32) (hj : j < 102400), rc_sI (px_W b I V G R M p) (some (b + 318)) 2 (nI j) x = some (px_W b I V G R (px_u2 M 318 j x.toInt8.toInt32) p)) ∧
  (∀ (j : Nat) (hj : j < 64), rc_aI (px_W b I V G R M p) (some (b + 319)) 0 (nI j) = some (M 319 j)) ∧
  (∀ (j : Nat) (x : Int32) (hj : j < 64), rc_sI (px_W b I V G R M p) (some (b + 319)) 0 (nI j) x = some (px_W b I V G R (px_u2 M 319 j x) p)) ∧
  (∀ (j : Nat) (hj : j < 1600), rc_aI (px_W b I V G R M p) (some (b + 320)) 2 (nI j) = some (M 320 j)) ∧
  (∀ (j : Nat) (x : Int32) (hj : j < 1600), rc_sI (px_W b I V G R M p) (some (b + 320)) 2 (nI j) x = some (px_W b I V G R (px_u2 M 320 j x.toInt8.toInt32) p)) ∧
  (∀ (j : Nat) (hj : j < 656), rc_aI (px_W b I V G R M p) (some (b + 321)) 2 (nI j) = some (M 321 j)) ∧
  (∀ (j : Nat) (x : Int32) (hj : j < 656), rc_sI (px_W b I V G R M p) (some (b + 321)) 2 (nI j) x = some (px_W b I V G R (px_u2 M 321 j x.toInt8.toInt32) p)) ∧
  (∀ (j : Nat) (hj : j < 41), rc_aI (px_W b I V G R M p) (some (b + 322)) 0 (nI j) = some (M 322 j)) ∧
  (∀ (j : Nat) (x : Int32) (hj : j < 41), rc_sI (px_W b I V G R M p) (some (b + 322)) 0 (nI j) x = some (px_W b I V G R (px_u2 M 322 j x) p)) ∧
  (∀ (j : Nat) (hj : j < 4800), rc_aI (px_W b I V G R M p) (some (b + 324)) 2 (nI j) = some (M 324 j)) ∧
  (∀ (j : Nat) (x : Int32) (hj : j < 4800), rc_sI (px_W b I V G R M p) (some (b + 324)) 2 (nI j) x = some (px_W b I V G R (px_u2 M 324 j x.toInt8.toInt32) p)) ∧
  (∀ (j : Nat) (hj : j < 4), rc_aI (px_W b I V G R M p) (some (b + 325)) 0 (nI j) = some (M 325 j)) ∧
  (∀ (j : Nat) (x : Int32) (hj : j < 4), rc_sI (px_W b I V G R M p) (some (b + 325)) 0 (nI j) x = some (px_W b I V G R (px_u2 M 325 j x) p)) ∧
  (∀ (j : Nat) (hj : j < 4), rc_aI (px_W b I V G R M p) (some (b + 326)) 0 (nI j) = some (M 326 j)) ∧
  (∀ (j : Nat) (x : Int32) (hj : j < 4), rc_sI (px_W b I V G R M p) (some (b + 326)) 0 (nI j) x = some (px_W b I V G R (px_u2 M 326 j x) p)) ∧
  (∀ (j : Nat) (hj : j < 4), rc_aI (px_W b I V G R M p) (some (b + 327)) 0 (nI j) = some (M 327 j)) ∧
  (∀ (j : Nat) (x : Int32) (hj : j < 4), rc_sI (px_W b I V G R M p) (some (b + 327)) 0 (nI j) x = some (px_W b I V G R (px_u2 M 327 j x) p)) ∧
  (∀ (j : Nat) (hj : j < 4), rc_aI (px_W b I V G R M p) (some (b + 328)) 0 (nI j) = some (M 328 j)) ∧
  (∀ (j : Nat) (x : Int32) (hj : j < 4), rc_sI (px_W b I V G R M p) (some (b + 328)) 0 (nI j) x = some (px_W b I V G R (px_u2 M 328 j x) p)) ∧
  (∀ (j : Nat) (hj : j < 4), rc_aI (px_W b I V G R M p) (some (b + 329)) 3 (nI j) = some (M 329 j)) ∧
  (∀ (j : Nat) (x : Int32) (hj : j < 4), rc_sI (px_W b I V G R M p) (some (b + 329)) 3 (nI j) x = some (px_W b I V G R (px_u2 M 329 j (rc_nar 3 x)) p)) ∧
  (∀ (j : Nat) (hj : j < 4), rc_aI (px_W b I V G R M p) (some (b + 330)) 3 (nI j) = some (M 330 j)) ∧
  (∀ (j : Nat) (x : Int32) (hj : j < 4), rc_sI (px_W b I V G R M p) (some (b + 330)) 3 (nI j) x = some (px_W b I V G R (px_u2 M 330 j (rc_nar 3 x)) p)) ∧
  (∀ (j : Nat) (hj : j < 4), rc_aI (px_W b I V G R M p) (some (b + 331)) 3 (nI j) = some (M 331 j)) ∧
  (∀ (j : Nat) (x : Int32) (hj : j < 4), rc_sI (px_W b I V G R M p) (some (b + 331)) 3 (nI j) x = some (px_W b I V G R (px_u2 M 331 j (rc_nar 3 x)) p)) ∧
  (∀ (j : Nat) (hj : j < 32), rc_aI (px_W b I V G R M p) (some (b + 332)) 0 (nI j) = some (M 332 j)) ∧
  (∀ (j : Nat) (x : Int32) (hj : j < 32), rc_sI (px_W b I V G R M p) (some (b + 332)) 0 (nI j) x = some (px_W b I V G R (px_u2 M 332 j x) p)) ∧
  (∀ (j : Nat) (hj : j < 32), rc_aI (px_W b I V G R M p) (some (b + 333)) 0 (nI j) = some (M 333 j)) ∧
  (∀ (j : Nat) (x : Int32) (hj : j < 32), rc_sI (px_W b I V G R M p) (some (b + 333)) 0 (nI j) x = some (px_W b I V G R (px_u2 M 333 j x) p)) ∧
  (∀ (j : Nat) (hj : j < 12800), rc_aI (px_W b I V G R M p) (some (b + 334)) 2 (nI j) = some (M 334 j)) ∧
  (∀ (j : Nat) (x : Int32) (hj : j < 12800), rc_sI (px_W b I V G R M p) (some (b + 334)) 2 (nI j) x = some (px_W b I V G R (px_u2 M 334 j x.toInt8.toInt32) p)) ∧
  (∀ (j : Nat) (hj : j < 4), rc_aI (px_W b I V G R M p) (some (b + 335)) 0 (nI j) = some (M 335 j)) ∧
  (∀ (j : Nat) (x : Int32) (hj : j < 4), rc_sI (px_W b I V G R M p) (some (b + 335)) 0 (nI j) x = some (px_W b I V G R (px_u2 M 335 j x) p)) ∧
  (∀ (j : Nat) (hj : j < 400), rc_aI (px_W b I V G R M p) (some (b + 336)) 2 (nI j) = some (M 336 j)) ∧
  (∀ (j : Nat) (x : Int32) (hj : j < 400), rc_sI (px_W b I V G R M p) (some (b + 336)) 2 (nI j) x = some (px_W b I V G R (px_u2 M 336 j x.toInt8.toInt32) p)) ∧
  (∀ (j : Nat) (hj : j < 41), rc_aL (px_W b I V G R M p) (some (b + 323)) (nI j) = some (V 323 j)) ∧
  (∀ (j : Nat) (x : Int64) (hj : j < 41), rc_sL (px_W b I V G R M p) (some (b + 323)) (nI j) x = some (px_W b I (px_u2 V 323 j x) G R M p)) :=
  ⟨@px_rc_m b I V G R M p , @px_gI_m_0 b I V G R M p , @px_pI_m_0 b I V G R M p , @px_gI_m_2 b I V G R M p , @px_pI_m_2 b I V G R M p , @px_gI_m_5 b I V G R M p , @px_pI_m_5 b I V G R M p , @px_gI_m_10 b I V G R M p , @px_pI_m_10 b I V G R M p , @px_gI_m_23 b I V G R M p , @px_pI_m_23 b I V G R M p , @px_gI_m_24 b I V G R M p , @px_pI_m_24 b I V G R M p , @px_gI_m_25 b I V G R M p , @px_pI_m_25 b I V G R M p , @px_gI_m_26 b I V G R M p , @px_pI_m_26 b I V G R M p , @px_gI_m_27 b I V G R M p , @px_pI_m_27 b I V G R M p , @px_gI_m_28 b I V G R M p , @px_pI_m_28 b I V G R M p , @px_gI_m_29 b I V G R M p , @px_pI_m_29 b I V G R M p , @px_gI_m_30 b I V G R M p , @px_pI_m_30 b I V G R M p , @px_gI_m_32 b I V G R M p , @px_pI_m_32 b I V G R M p , @px_gI_m_33 b I V G R M p , @px_pI_m_33 b I V G R M p , @px_pZ_m_28 b I V G R M p , @px_gR_m_1 b I V G R M p , @px_gR_m_3 b I V G R M p , @px_gR_m_4 b I V G R M p , @px_gR_m_6 b I V G R M p , @px_gR_m_7 b I V G R M p , @px_gR_m_8 b I V G R M p , @px_gR_m_9 b I V G R M p , @px_gR_m_11 b I V G R M p , @px_gR_m_12 b I V G R M p , @px_gR_m_13 b I V G R M p , @px_gR_m_14 b I V G R M p , @px_gR_m_15 b I V G R M p , @px_gR_m_16 b I V G R M p , @px_gR_m_17 b I V G R M p , @px_gR_m_18 b I V G R M p , @px_gR_m_19 b I V G R M p , @px_gR_m_20 b I V G R M p , @px_gR_m_21 b I V G R M p , @px_gR_m_22 b I V G R M p , @px_gR_m_31 b I V G R M p , @px_aI_m_1 b I V G R M p , @px_sI_m_1 b I V G R M p , @px_aI_m_3 b I V G R M p , @px_sI_m_3 b I V G R M p , @px_aI_m_4 b I V G R M p , @px_sI_m_4 b I V G R M p , @px_aI_m_6 b I V G R M p , @px_sI_m_6 b I V G R M p , @px_aI_m_7 b I V G R M p , @px_sI_m_7 b I V G R M p , @px_aI_m_8 b I V G R M p , @px_sI_m_8 b I V G R M p , @px_aI_m_11 b I V G R M p , @px_sI_m_11 b I V G R M p , @px_aI_m_12 b I V G R M p , @px_sI_m_12 b I V G R M p , @px_aI_m_13 b I V G R M p , @px_sI_m_13 b I V G R M p , @px_aI_m_14 b I V G R M p , @px_sI_m_14 b I V G R M p , @px_aI_m_15 b I V G R M p , @px_sI_m_15 b I V G R M p , @px_aI_m_16 b I V G R M p , @px_sI_m_16 b I V G R M p , @px_aI_m_17 b I V G R M p , @px_sI_m_17 b I V G R M p , @px_aI_m_18 b I V G R M p , @px_sI_m_18 b I V G R M p , @px_aI_m_19 b I V G R M p , @px_sI_m_19 b I V G R M p , @px_aI_m_20 b I V G R M p , @px_sI_m_20 b I V G R M p , @px_aI_m_21 b I V G R M p , @px_sI_m_21 b I V G R M p , @px_aI_m_22 b I V G R M p , @px_sI_m_22 b I V G R M p , @px_aI_m_31 b I V G R M p , @px_sI_m_31 b I V G R M p , @px_aL_323 b I V G R M p , @px_sL_323 b I V G R M p ⟩
theorem px_cS {b : Nat} {I : Nat → Nat → Int32} {V : Nat → Nat → Int64} {G : Nat → Nat → Nat} {R : Nat → List UInt8} {M : Nat → Nat → Int32} {p : px_P}  : (rc_rc (px_W b I V G R M p) (some (b + 0)) 0 = some (b + 0)) ∧
  (rc_gI (px_W b I V G R M p) (some (b + 0)) 0 6 = some (I 0 6)) ∧
  (∀ (x : Int32), rc_pI (px_W b I V G R M p) (some (b + 0)) 0 6 x = some (px_W b (px_u2 I 0 6 x) V G R M p)) ∧
  (rc_gR (px_W b I V G R M p) (some (b + 0)) 0 0 = some (some (b + 1))) ∧
  (rc_gR (px_W b I V G R M p) (some (b + 0)) 0 1 = some (some (b + 3))) ∧
  (rc_gR (px_W b I V G R M p) (some (b + 0)) 0 2 = some (some (b + 4))) ∧
  (rc_gR (px_W b I V G R M p) (some (b + 0)) 0 3 = some (some (b + 5))) ∧
  (rc_gR (px_W b I V G R M p) (some (b + 0)) 0 4 = some (some (b + 96))) ∧
  (rc_gR (px_W b I V G R M p) (some (b + 0)) 0 5 = some (some (b + 98))) ∧
  (rc_rc (px_W b I V G R M p) (some (b + 5)) 2 = some (b + 5)) ∧
  (rc_gI (px_W b I V G R M p) (some (b + 5)) 2 3 = some (I 5 3)) ∧
  (∀ (x : Int32), rc_pI (px_W b I V G R M p) (some (b + 5)) 2 3 x = some (px_W b (px_u2 I 5 3 x) V G R M p)) ∧
  (rc_gI (px_W b I V G R M p) (some (b + 5)) 2 4 = some (I 5 4)) ∧
  (∀ (x : Int32), rc_pI (px_W b I V G R M p) (some (b + 5)) 2 4 x = some (px_W b (px_u2 I 5 4 x) V G R M p)) ∧
  (rc_gI (px_W b I V G R M p) (some (b + 5)) 2 5 = some (I 5 5)) ∧
  (∀ (x : Int32), rc_pI (px_W b I V G R M p) (some (b + 5)) 2 5 x = some (px_W b (px_u2 I 5 5 x) V G R M p)) ∧
  (rc_gI (px_W b I V G R M p) (some (b + 5)) 2 8 = some (I 5 8)) ∧
  (∀ (x : Int32), rc_pI (px_W b I V G R M p) (some (b + 5)) 2 8 x = some (px_W b (px_u2 I 5 8 x) V G R M p)) ∧
  (rc_gI (px_W b I V G R M p) (some (b + 5)) 2 9 = some (I 5 9)) ∧
  (∀ (x : Int32), rc_pI (px_W b I V G R M p) (some (b + 5)) 2 9 x = some (px_W b (px_u2 I 5 9 x) V G R M p)) ∧
  (rc_gI (px_W b I V G R M p) (some (b + 5)) 2 11 = some (I 5 11)) ∧
  (∀ (x : Int32), rc_pI (px_W b I V G R M p) (some (b + 5)) 2 11 x = some (px_W b (px_u2 I 5 11 x) V G R M p)) ∧
  (rc_gI (px_W b I V G R M p) (some (b + 5)) 2 12 = some (I 5 12)) ∧
  (∀ (x : Int32), rc_pI (px_W b I V G R M p) (some (b + 5)) 2 12 x = some (px_W b (px_u2 I 5 12 x) V G R M p)) ∧
  (rc_gR (px_W b I V G R M p) (some (b + 5)) 2 0 = some (some (b + 6))) ∧
  (rc_gR (px_W b I V G R M p) (some (b + 5)) 2 1 = some (some (b + 89))) ∧
  (rc_gR (px_W b I V G R M p) (some (b + 5)) 2 2 = some (some (b + 92))) ∧
  (rc_gR (px_W b I V G R M p) (some (b + 5)) 2 6 = some (some (b + 94))) ∧
  (rc_gR (px_W b I V G R M p) (some (b + 5)) 2 7 = some (some (b + 95))) ∧
  (rc_rc (px_W b I V G R M p) (some (b + 6)) 3 = some (b + 6)) ∧
  (rc_gI (px_W b I V G R M p) (some (b + 6)) 3 2 = some (I 6 2)) ∧
  (∀ (x : Int32), rc_pI (px_W b I V G R M p) (some (b + 6)) 3 2 x = some (px_W b (px_u2 I 6 2 x) V G R M p)) ∧
  (rc_gR (px_W b I V G R M p) (some (b + 6)) 3 0 = some (some (b + 7))) ∧
  (rc_gR (px_W b I V G R M p) (some (b + 6)) 3 1 = some (some (b + 8))) ∧
  (rc_rc (px_W b I V G R M p) (some (b + 89)) 4 = some (b + 89)) ∧
  (rc_gI (px_W b I V G R M p) (some (b + 89)) 4 1 = some (I 89 1)) ∧
  (∀ (x : Int32), rc_pI (px_W b I V G R M p) (some (b + 89)) 4 1 x = some (px_W b (px_u2 I 89 1 x) V G R M p)) ∧
  (rc_gI (px_W b I V G R M p) (some (b + 89)) 4 2 = some (I 89 2)) ∧
  (∀ (x : Int32), rc_pI (px_W b I V G R M p) (some (b + 89)) 4 2 x = some (px_W b (px_u2 I 89 2 x) V G R M p)) ∧
  (∀ (x : Int32), rc_pZ (px_W b I V G R M p) (some (b + 89)) 4 2 x = if x = 0 ∨ x = 1 then some (px_W b (px_u2 I 89 2 x) V G R M p) else none) ∧
  (rc_gR (px_W b I V G R M p) (some (b + 89)) 4 0 = some (some (b + G 89 0))) ∧
  (∀ (r : Nat), rc_pR (px_W b I V G R M p) (some (b + 89)) 4 0 (some (b + r)) = some (px_W b I V (px_u2 G 89 0 r) R M p)) ∧
  (rc_gL (px_W b I V G R M p) (some (b + 5)) 2 10 = some (V 5 10)) ∧
  (∀ (x : Int64), rc_pL (px_W b I V G R M p) (some (b + 5)) 2 10 x = some (px_W b I (px_u2 V 5 10 x) G R M p)) ∧
  (∀ (k : Nat) (h : px_mf k = true), rc_gI (px_W b I V G R M p) (some (b + 316)) 7 k = some (M 316 k)) ∧
  (∀ (j : Nat) (hj : j < 8), rc_aI (px_W b I V G R M p) (some (b + 94)) 0 (nI j) = some (I 94 j)) ∧
  (∀ (j : Nat) (x : Int32) (hj : j < 8), rc_sI (px_W b I V G R M p) (some (b + 94)) 0 (nI j) x = some (px_W b (px_u2 I 94 j x) V G R M p)) ∧
  (∀ (j : Nat) (hj : j < 8), rc_aI (px_W b I V G R M p) (some (b + 95)) 0 (nI j) = some (I 95 j)) ∧
  (∀ (j : Nat) (x : Int32) (hj : j < 8), rc_sI (px_W b I V G R M p) (some (b + 95)) 0 (nI j) x = some (px_W b (px_u2 I 95 j x) V G R M p)) ∧
  (∀ (j : Nat) (hj : j < 40), rc_aL (px_W b I V G R M p) (some (b + 8)) (nI j) = some (V 8 j)) ∧
  (∀ (j : Nat) (x : Int64) (hj : j < 40), rc_sL (px_W b I V G R M p) (some (b + 8)) (nI j) x = some (px_W b I (px_u2 V 8 j x) G R M p)) ∧
  (∀ (j : Nat) (hj : j < 1), rc_aL (px_W b I V G R M p) (some (b + 337)) (nI j) = some (V 337 j)) ∧
  (∀ (j : Nat) (x : Int64) (hj : j < 1), rc_sL (px_W b I V G R M p) (some (b + 337)) (nI j) x = some (px_W b I (px_u2 V 337 j x) G R M p)) ∧
  (∀ (j : Nat) (hj : j < 64), rc_aR (px_W b I V G R M p) (some (b + 3)) 4 (nI j) = some (some (b + (100 + 2 * j)))) ∧
  (∀ (j : Nat) (hj : j < 4), rc_aR (px_W b I V G R M p) (some (b + 4)) 5 (nI j) = some (some (b + (228 + 22 * j)))) ∧
  (∀ (j : Nat) (hj : j < 40), rc_aR (px_W b I V G R M p) (some (b + 7)) 4 (nI j) = some (some (b + G 7 j))) ∧
  (∀ (j r : Nat) (hj : j < 40) (hr : px_rw r = true), rc_sR (px_W b I V G R M p) (some (b + 7)) 4 1 (nI j) (some (b + r)) = some (px_W b I V (px_u2 G 7 j r) R M p)) :=
  ⟨@px_rc_0 b I V G R M p , @px_gI_0_6 b I V G R M p , @px_pI_0_6 b I V G R M p , @px_gR_0_0 b I V G R M p , @px_gR_0_1 b I V G R M p , @px_gR_0_2 b I V G R M p , @px_gR_0_3 b I V G R M p , @px_gR_0_4 b I V G R M p , @px_gR_0_5 b I V G R M p , @px_rc_5 b I V G R M p , @px_gI_5_3 b I V G R M p , @px_pI_5_3 b I V G R M p , @px_gI_5_4 b I V G R M p , @px_pI_5_4 b I V G R M p , @px_gI_5_5 b I V G R M p , @px_pI_5_5 b I V G R M p , @px_gI_5_8 b I V G R M p , @px_pI_5_8 b I V G R M p , @px_gI_5_9 b I V G R M p , @px_pI_5_9 b I V G R M p , @px_gI_5_11 b I V G R M p , @px_pI_5_11 b I V G R M p , @px_gI_5_12 b I V G R M p , @px_pI_5_12 b I V G R M p , @px_gR_5_0 b I V G R M p , @px_gR_5_1 b I V G R M p , @px_gR_5_2 b I V G R M p , @px_gR_5_6 b I V G R M p , @px_gR_5_7 b I V G R M p , @px_rc_6 b I V G R M p , @px_gI_6_2 b I V G R M p , @px_pI_6_2 b I V G R M p , @px_gR_6_0 b I V G R M p , @px_gR_6_1 b I V G R M p , @px_rc_89 b I V G R M p , @px_gI_89_1 b I V G R M p , @px_pI_89_1 b I V G R M p , @px_gI_89_2 b I V G R M p , @px_pI_89_2 b I V G R M p , @px_pZ_89_2 b I V G R M p , @px_gR_89_0 b I V G R M p , @px_pR_89 b I V G R M p , @px_gL_5 b I V G R M p , @px_pL_5 b I V G R M p , @px_gI_m b I V G R M p , @px_aI_94 b I V G R M p , @px_sI_94 b I V G R M p , @px_aI_95 b I V G R M p , @px_sI_95 b I V G R M p , @px_aL_8 b I V G R M p , @px_sL_8 b I V G R M p , @px_aL_337 b I V G R M p , @px_sL_337 b I V G R M p , @px_aR_3 b I V G R M p , @px_aR_4 b I V G R M p , @px_aR_7 b I V G R M p , @px_sR_7 b I V G R M p ⟩
theorem px_kS {b : Nat} {I : Nat → Nat → Int32} {V : Nat → Nat → Int64} {G : Nat → Nat → Nat} {R : Nat → List UInt8} {M : Nat → Nat → Int32} {p : px_P} (c : Nat) (hc : c < 4) : (rc_rc (px_W b I V G R M p) (some (b + (228 + 22 * c))) 5 = some (b + (228 + 22 * c))) ∧
  (rc_gI (px_W b I V G R M p) (some (b + (228 + 22 * c))) 5 2 = some (I (228 + 22 * c) 2)) ∧
  (∀ (x : Int32), rc_pI (px_W b I V G R M p) (some (b + (228 + 22 * c))) 5 2 x = some (px_W b (px_u2 I (228 + 22 * c) 2 x) V G R M p)) ∧
  (rc_gI (px_W b I V G R M p) (some (b + (228 + 22 * c))) 5 3 = some (I (228 + 22 * c) 3)) ∧
  (∀ (x : Int32), rc_pI (px_W b I V G R M p) (some (b + (228 + 22 * c))) 5 3 x = some (px_W b (px_u2 I (228 + 22 * c) 3 x) V G R M p)) ∧
  (rc_gI (px_W b I V G R M p) (some (b + (228 + 22 * c))) 5 4 = some (I (228 + 22 * c) 4)) ∧
  (∀ (x : Int32), rc_pI (px_W b I V G R M p) (some (b + (228 + 22 * c))) 5 4 x = some (px_W b (px_u2 I (228 + 22 * c) 4 x) V G R M p)) ∧
  (rc_gI (px_W b I V G R M p) (some (b + (228 + 22 * c))) 5 5 = some (I (228 + 22 * c) 5)) ∧
  (∀ (x : Int32), rc_pI (px_W b I V G R M p) (some (b + (228 + 22 * c))) 5 5 x = some (px_W b (px_u2 I (228 + 22 * c) 5 x) V G R M p)) ∧
  (rc_gR (px_W b I V G R M p) (some (b + (228 + 22 * c))) 5 0 = some (some (b + (229 + 22 * c)))) ∧
  (rc_gR (px_W b I V G R M p) (some (b + (228 + 22 * c))) 5 1 = some (some (b + (231 + 22 * c)))) ∧
  (rc_rc (px_W b I V G R M p) (some (b + (231 + 22 * c))) 6 = some (b + (231 + 22 * c))) ∧
  (rc_gI (px_W b I V G R M p) (some (b + (231 + 22 * c))) 6 2 = some (I (231 + 22 * c) 2)) ∧
  (∀ (x : Int32), rc_pI (px_W b I V G R M p) (some (b + (231 + 22 * c))) 6 2 x = some (px_W b (px_u2 I (231 + 22 * c) 2 x) V G R M p)) ∧
  (rc_gI (px_W b I V G R M p) (some (b + (231 + 22 * c))) 6 3 = some (I (231 + 22 * c) 3)) ∧
  (∀ (x : Int32), rc_pI (px_W b I V G R M p) (some (b + (231 + 22 * c))) 6 3 x = some (px_W b (px_u2 I (231 + 22 * c) 3 x) V G R M p)) ∧
  (rc_gR (px_W b I V G R M p) (some (b + (231 + 22 * c))) 6 0 = some (some (b + (232 + 22 * c)))) ∧
  (rc_gR (px_W b I V G R M p) (some (b + (231 + 22 * c))) 6 1 = some (some (b + (233 + 22 * c)))) ∧
  (∀ (x : Int32), rc_pZ (px_W b I V G R M p) (some (b + (228 + 22 * c))) 5 2 x = if x = 0 ∨ x = 1 then some (px_W b (px_u2 I (228 + 22 * c) 2 x) V G R M p) else none) ∧
  (∀ (j : Nat) (hj : j < 8), rc_aI (px_W b I V G R M p) (some (b + (233 + 22 * c))) 0 (nI j) = some (I (233 + 22 * c) j)) ∧
  (∀ (j : Nat) (x : Int32) (hj : j < 8), rc_sI (px_W b I V G R M p) (some (b + (233 + 22 * c))) 0 (nI j) x = some (px_W b (px_u2 I (233 + 22 * c) j x) V G R M p)) ∧
  (∀ (j : Nat) (hj : j < 8), rc_aR (px_W b I V G R M p) (some (b + (232 + 22 * c))) 4 (nI j) = some (some (b + (234 + 22 * c + 2 * j)))) :=
  ⟨@px_rc_c b I V G R M p c hc, @px_gI_c_2 b I V G R M p c hc, @px_pI_c_2 b I V G R M p c hc, @px_gI_c_3 b I V G R M p c hc, @px_pI_c_3 b I V G R M p c hc, @px_gI_c_4 b I V G R M p c hc, @px_pI_c_4 b I V G R M p c hc, @px_gI_c_5 b I V G R M p c hc, @px_pI_c_5 b I V G R M p c hc, @px_gR_c_0 b I V G R M p c hc, @px_gR_c_1 b I V G R M p c hc, @px_rc_r b I V G R M p c hc, @px_gI_r_2 b I V G R M p c hc, @px_pI_r_2 b I V G R M p c hc, @px_gI_r_3 b I V G R M p c hc, @px_pI_r_3 b I V G R M p c hc, @px_gR_r_0 b I V G R M p c hc, @px_gR_r_1 b I V G R M p c hc, @px_pZ_c_2 b I V G R M p c hc, @px_aI_no b I V G R M p c hc, @px_sI_no b I V G R M p c hc, @px_aR_p b I V G R M p c hc⟩
theorem px_bs {α β : Type} (x : α) (f : α → Option β) : (some x).bind f = f x := by
  have h := Option.bind_some x f
  exact h.trans (Eq.symm (Eq.symm rfl))
theorem px_sub {a b : Nat} (h : b ≤ a) : nI a - nI b = nI (a - b) := by
  have e : nI (a - b) + nI b = nI a := by rw [nI_add]; congr 1; omega
  rw [← e]; simp
theorem px_mul (a b : Nat) : nI a * nI b = nI (a * b) := (Int32.ofNat_mul a b).symm
theorem px_div {a b : Nat} (ha : a < 2 ^ 31) (hb : b < 2 ^ 31) : nI a / nI b = nI (a / b) := by
  by_cases h0 : b = 0
  · subst h0; simp [nI]
  apply Int32.toInt_inj.mp
  rw [Int32.toInt_div, nI_toInt ha, nI_toInt hb, nI_toInt (Nat.lt_of_le_of_lt (Nat.div_le_self a b) ha)]
  have hle : a / b ≤ a := Nat.div_le_self a b
  have e : (a : Int).tdiv (b : Int) = ((a / b : Nat) : Int) := by rw [Int.tdiv_eq_ediv_of_nonneg (by omega)]; rfl
  rw [e]; clear e; have h1 : (0 : Int) ≤ ((a / b : Nat) : Int) := Int.natCast_nonneg _
  exact Int.bmod_eq_of_le (by omega) (by omega)
theorem px_mod64 {a : Nat} (ha : a < 2 ^ 31) : nI a - nI a / 64 * 64 = nI (a % 64) := by
  rw [show (64 : Int32) = nI 64 from rfl, px_div ha (by decide), px_mul, px_sub (by omega)]
  congr 1; omega
theorem px_mod8 {a : Nat} (ha : a < 2 ^ 31) : nI a - nI a / 8 * 8 = nI (a % 8) := by
  rw [show (8 : Int32) = nI 8 from rfl, px_div ha (by decide), px_mul, px_sub (by omega)]
  congr 1; omega
theorem px_mod4 {a : Nat} (ha : a < 2 ^ 31) : nI a - nI a / 4 * 4 = nI (a % 4) := by
  rw [show (4 : Int32) = nI 4 from rfl, px_div ha (by decide), px_mul, px_sub (by omega)]
  congr 1; omega
theorem px_modG {a m : Nat} (ha : a < 2 ^ 31) (hm : m < 2 ^ 31) : nI a - nI a / nI m * nI m = nI (a % m) := by
  rw [px_div ha hm, px_mul, px_sub (Nat.div_mul_le_self a m)]
  congr 1
  have := Nat.div_add_mod a m
  rw [Nat.mul_comm] at this
  omega
theorem px_lt0 {a : Nat} (ha : a < 2 ^ 31) : (nI a < 0) = False := eq_false (nI_pos ha)
theorem px_le0 {a : Nat} (ha : a < 2 ^ 31) : (nI a ≤ 0) = (a = 0) := by
  rw [show (0 : Int32) = nI 0 from rfl, nI_leI ha (by decide)]; simp
theorem px_0le {a : Nat} (ha : a < 2 ^ 31) : (0 ≤ nI a) = True := eq_true (nI_pos' ha)
theorem px_eq0 {a : Nat} (ha : a < 2 ^ 31) : (nI a = 0) = (a = 0) := by
  rw [show (0 : Int32) = nI 0 from rfl, nI_eq ha (by decide)]
theorem px_eq1 {a : Nat} (ha : a < 2 ^ 31) : (nI a = 1) = (a = 1) := by
  rw [show (1 : Int32) = nI 1 from rfl, nI_eq ha (by decide)]
theorem px_le {a b : Nat} (ha : a < 2 ^ 31) (hb : b < 2 ^ 31) : (nI a ≤ nI b) = (a ≤ b) := propext (nI_leI ha hb)
theorem px_lt {a b : Nat} (ha : a < 2 ^ 31) (hb : b < 2 ^ 31) : (nI a < nI b) = (a < b) := propext (nI_ltI ha hb)
theorem px_eq {a b : Nat} (ha : a < 2 ^ 31) (hb : b < 2 ^ 31) : (nI a = nI b) = (a = b) := propext (nI_eq ha hb)
theorem px_0 : (0 : Int32) = nI 0 := rfl
theorem px_10 : ((1 : Int32) = 0) = False := by decide
theorem px_1 : (1 : Int32) = nI 1 := rfl
theorem px_lit : (2 : Int32) = nI 2 ∧ (3 : Int32) = nI 3 ∧ (4 : Int32) = nI 4 ∧ (5 : Int32) = nI 5 ∧ (6 : Int32) = nI 6 ∧ (7 : Int32) = nI 7 ∧ (8 : Int32) = nI 8 ∧ (9 : Int32) = nI 9 ∧ (10 : Int32) = nI 10 ∧ (11 : Int32) = nI 11 ∧ (12 : Int32) = nI 12 ∧ (13 : Int32) = nI 13 ∧ (14 : Int32) = nI 14 ∧ (15 : Int32) = nI 15 ∧ (16 : Int32) = nI 16 ∧ (17 : Int32) = nI 17 ∧ (18 : Int32) = nI 18 ∧ (19 : Int32) = nI 19 ∧ (20 : Int32) = nI 20 ∧ (21 : Int32) = nI 21 ∧ (22 : Int32) = nI 22 ∧ (23 : Int32) = nI 23 ∧ (24 : Int32) = nI 24 ∧ (25 : Int32) = nI 25 ∧ (26 : Int32) = nI 26 ∧ (27 : Int32) = nI 27 ∧ (28 : Int32) = nI 28 ∧ (32 : Int32) = nI 32 ∧ (40 : Int32) = nI 40 ∧ (44 : Int32) = nI 44 ∧ (64 : Int32) = nI 64 ∧ (400 : Int32) = nI 400 ∧ (1200 : Int32) = nI 1200 ∧ (1600 : Int32) = nI 1600 := ⟨rfl, rfl, rfl, rfl, rfl, rfl, rfl, rfl, rfl, rfl, rfl, rfl, rfl, rfl, rfl, rfl, rfl, rfl, rfl, rfl, rfl, rfl, rfl, rfl, rfl, rfl, rfl, rfl, rfl, rfl, rfl, rfl, rfl, rfl⟩
theorem px_msub {a b : Nat} (ha : a < 2 ^ 30) (hb : b < 2 ^ 30) (c : Nat) (hc : c < 2 ^ 30) : (nI c < nI a - nI b) = (c + b < a) := by
  apply propext
  rw [Int32.lt_iff_toInt_lt, nI_toInt (by omega), rc_subI (by omega) (nI_pos (by omega)), nI_toInt (by omega)]
  omega
theorem px_msub2 {a b : Nat} (ha : a < 2 ^ 30) (hb : b < 2 ^ 30) (c : Nat) (hc : c < 2 ^ 30) : (nI a - nI b < nI c) = (a < c + b) := by
  apply propext
  rw [Int32.lt_iff_toInt_lt, nI_toInt (by omega), rc_subI (by omega) (nI_pos (by omega)), nI_toInt (by omega)]
  omega
theorem px_msub3 {a b : Nat} (ha : a < 2 ^ 30) (hb : b < 2 ^ 31) (c : Nat) (hc : c < 2 ^ 31) : (nI c ≤ nI a - nI b) = (c + b ≤ a) := by
  apply propext
  rw [Int32.le_iff_toInt_le, nI_toInt (by omega), rc_subI (by omega) (nI_pos (by omega)), nI_toInt (by omega)]
  omega
theorem px_msub4 {a b : Nat} (ha : a < 2 ^ 30) (hb : b < 2 ^ 31) (c : Nat) (hc : c < 2 ^ 31) : (nI a - nI b < nI c) = (a < c + b) := by
  apply propext
  rw [Int32.lt_iff_toInt_lt, nI_toInt (by omega), rc_subI (by omega) (nI_pos (by omega)), nI_toInt (by omega)]
  omega
