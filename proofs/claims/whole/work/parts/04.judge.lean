/-! THE JUDGEMENT: at a program counter, with a world, a stack and known locals, the machine comes to what is asked -/
abbrev rc_X : Type := (Program × Launch × Env × Room × State) × (MethodId × Array Value × List Frame × Method × Code) × rc_G × Nat × (State → Prop)
abbrev q_p (X : rc_X) : Program := X.1.1
abbrev q_l (X : rc_X) : Launch := X.1.2.1
abbrev q_e (X : rc_X) : Env := X.1.2.2.1
abbrev q_R (X : rc_X) : Room := X.1.2.2.2.1
abbrev q_s (X : rc_X) : State := X.1.2.2.2.2
abbrev q_m (X : rc_X) : MethodId := X.2.1.1
abbrev q_a (X : rc_X) : Array Value := X.2.1.2.1
abbrev q_b (X : rc_X) : List Frame := X.2.1.2.2.1
abbrev q_t (X : rc_X) : Method := X.2.1.2.2.2.1
abbrev q_c (X : rc_X) : Code := X.2.1.2.2.2.2
abbrev q_G (X : rc_X) : rc_G := X.2.2.1
abbrev q_n (X : rc_X) : Nat := X.2.2.2.1
abbrev q_Q (X : rc_X) : State → Prop := X.2.2.2.2
def rc_tys (G : rc_G) : List (ClassId × FieldType) := [(G.2.1 0, .int), (G.2.1 1, .long), (G.2.1 2, .byte), (G.2.1 3, .boolean), (G.2.1 4, .object (rc_R 1)), (G.2.1 5, .object (rc_R 5))]
def rc_K (G : rc_G) (U : State) : Prop := va_K G.1 rc_cl (rc_tys G) U
def rc_T (U : State) : Prop := ∀ w ∈ rc_tb, w.before #[] U = true
theorem rc_args {w : Cond} (h : rc_kind w = true) (A A' : Array Value) (U : State) : w.before A U = w.before A' U := by
  unfold rc_kind at h
  split at h <;> first | rfl | cases h
theorem rc_T.use {U : State} (h : rc_T U) (A : Array Value) : ∀ w ∈ rc_tb, w.before A U = true := fun w hw => by rw [rc_args (rc_kinds w hw) A #[] U]; exact h w hw
theorem rc_move {w : Cond} {s U : State} (h : rc_kind w = true) (hW : s.WarmedH U.vm) (hb : w.before #[] s = true) : w.before #[] U = true := by
  have face : w.onTables = true → w.keepsFace = true → w.before #[] U = true := fun h1 h2 => va_tabs h1 (rfl : (s.setVm U.vm).vm = U.vm) (Cond.before_shiftedFace (State.Shifted.of_warmed hW) _ h2 hb)
  unfold rc_kind at h
  split at h <;> first
    | exact word_at hW (Or.inl rfl) hb
    | exact word_at hW (Or.inr ⟨_, rfl⟩) hb
    | exact va_Nw.warmF hW hb
    | exact va_Nw.warmM hW hb
    | exact va_AO.moved hW.alike hb
    | exact face rfl rfl
    | cases h
theorem rc_T.moved {s U : State} (h : rc_T s) (hW : s.WarmedH U.vm) : rc_T U := fun w hw => rc_move (rc_kinds w hw) hW (h w hw)
/-- what holds all through a method: the machine, its code, its class, the tables, the start's world and its room -/
def rc_C (X : rc_X) (own : String) (cc : ByteArray) (w0 : rc_M) : Prop :=
  (q_p X).tables.exec = Jvm.exec ∧ (q_c X).code = cc ∧ (q_s X).vm.findClass own = some (q_m X).cls ∧ rc_T (q_s X) ∧ rc_K (q_G X) (q_s X) ∧ (q_c X).maxLocals = q_n X ∧ (q_t X).locks = false ∧
  rc_H (q_G X) w0 (q_s X).heap ∧ (q_R X).cells = rc_zc w0 - rc_z w0 ∧ (q_R X).slots = rc_zs w0 - rc_tz w0
theorem rc_C.ts {X : rc_X} {own : String} {cc : ByteArray} {w0 : rc_M} (C : rc_C X own cc w0) : ∀ w ∈ rc_tb, w.before (q_a X) (q_s X) = true := C.2.2.2.1.use _
abbrev rc_V (X : rc_X) (H : Heap) (locs : List Loc) (cells slots : Nat) (g : JFrame) : Prop := W (q_p X) (q_l X) (q_e X) (q_R X) (q_s X) (q_m X) (q_a X) (q_b X) (q_t X) (q_c X) H locs cells slots (q_Q X) g
def rc_J (X : rc_X) (w : rc_M) (pc : Nat) (st : List Value) (lv : List (Nat × Value)) : Prop := ∀ (H : Heap) (locs : List Loc) (ls : Array Slot), rc_H (q_G X) w H → va_S (fun q => rc_b (q_G X) ≤ q) (q_s X).heap H locs → lv_has ls (q_n X) lv → rc_V X H locs (q_R X).cells (q_R X).slots (F0 (q_m X) pc ls st)
theorem rc_J.sub {X : rc_X} {w : rc_M} {pc : Nat} {st : List Value} {lv lv' : List (Nat × Value)} (ks : List Nat) (hl : lv_pick lv ks = lv') (k : rc_J X w pc st lv') : rc_J X w pc st lv := fun H locs ls h1 h2 h3 => k H locs ls h1 h2 (lv_sub h3 ks hl)
section RCJ
variable {X : rc_X} {own : String} {cc : ByteArray} {w0 w : rc_M} {pc n : Nat} {st : List Value} {lv : List (Nat × Value)}
theorem j_iadd (C : rc_C X own cc w0) {x y : Int32} (hd : decode cc pc = .ok (.iadd, 1)) (hn : pc + 1 = n) (k : rc_J X w n (.int (x + y) :: st) lv) : rc_J X w pc (.int y :: .int x :: st) lv := by
  subst hn
  exact fun H locs ls h1 h2 h3 => lv_iadd C.1 C.2.1 hd (k H locs ls h1 h2 h3)
theorem j_isub (C : rc_C X own cc w0) {x y : Int32} (hd : decode cc pc = .ok (.isub, 1)) (hn : pc + 1 = n) (k : rc_J X w n (.int (x - y) :: st) lv) : rc_J X w pc (.int y :: .int x :: st) lv := by
  subst hn
  exact fun H locs ls h1 h2 h3 => lv_isub C.1 C.2.1 hd (k H locs ls h1 h2 h3)
theorem j_imul (C : rc_C X own cc w0) {x y : Int32} (hd : decode cc pc = .ok (.imul, 1)) (hn : pc + 1 = n) (k : rc_J X w n (.int (x * y) :: st) lv) : rc_J X w pc (.int y :: .int x :: st) lv := by
  subst hn
  exact fun H locs ls h1 h2 h3 => lv_imul C.1 C.2.1 hd (k H locs ls h1 h2 h3)
theorem j_iand (C : rc_C X own cc w0) {x y : Int32} (hd : decode cc pc = .ok (.iand, 1)) (hn : pc + 1 = n) (k : rc_J X w n (.int (x &&& y) :: st) lv) : rc_J X w pc (.int y :: .int x :: st) lv := by
  subst hn
  exact fun H locs ls h1 h2 h3 => lv_iand C.1 C.2.1 hd (k H locs ls h1 h2 h3)
theorem j_ior (C : rc_C X own cc w0) {x y : Int32} (hd : decode cc pc = .ok (.ior, 1)) (hn : pc + 1 = n) (k : rc_J X w n (.int (x ||| y) :: st) lv) : rc_J X w pc (.int y :: .int x :: st) lv := by
  subst hn
  exact fun H locs ls h1 h2 h3 => lv_ior C.1 C.2.1 hd (k H locs ls h1 h2 h3)
theorem j_ixor (C : rc_C X own cc w0) {x y : Int32} (hd : decode cc pc = .ok (.ixor, 1)) (hn : pc + 1 = n) (k : rc_J X w n (.int (x ^^^ y) :: st) lv) : rc_J X w pc (.int y :: .int x :: st) lv := by
  subst hn
  exact fun H locs ls h1 h2 h3 => lv_ixor C.1 C.2.1 hd (k H locs ls h1 h2 h3)
theorem j_ishl (C : rc_C X own cc w0) {x y : Int32} (hd : decode cc pc = .ok (.ishl, 1)) (hn : pc + 1 = n) (k : rc_J X w n (.int (x <<< (y &&& 31)) :: st) lv) : rc_J X w pc (.int y :: .int x :: st) lv := by
  subst hn
  exact fun H locs ls h1 h2 h3 => lv_ishl C.1 C.2.1 hd (k H locs ls h1 h2 h3)
theorem j_ishr (C : rc_C X own cc w0) {x y : Int32} (hd : decode cc pc = .ok (.ishr, 1)) (hn : pc + 1 = n) (k : rc_J X w n (.int (x >>> (y &&& 31)) :: st) lv) : rc_J X w pc (.int y :: .int x :: st) lv := by
  subst hn
  exact fun H locs ls h1 h2 h3 => lv_ishr C.1 C.2.1 hd (k H locs ls h1 h2 h3)
theorem j_iushr (C : rc_C X own cc w0) {x y : Int32} (hd : decode cc pc = .ok (.iushr, 1)) (hn : pc + 1 = n) (k : rc_J X w n (.int (x.toUInt32 >>> (y.toUInt32 &&& Int32.toUInt32 31)).toInt32 :: st) lv) : rc_J X w pc (.int y :: .int x :: st) lv := by
  subst hn
  exact fun H locs ls h1 h2 h3 => lv_iushr C.1 C.2.1 hd rfl (k H locs ls h1 h2 h3)
theorem j_idiv (C : rc_C X own cc w0) {x y : Int32} (hd : decode cc pc = .ok (.idiv, 1)) (hn : pc + 1 = n) (hne : ¬ y = 0) (k : rc_J X w n (.int (x / y) :: st) lv) : rc_J X w pc (.int y :: .int x :: st) lv := by
  subst hn
  exact fun H locs ls h1 h2 h3 => lv_idiv C.1 C.2.1 hd hne (k H locs ls h1 h2 h3)
theorem j_irem (C : rc_C X own cc w0) {x y : Int32} (hd : decode cc pc = .ok (.irem, 1)) (hn : pc + 1 = n) (hne : ¬ y = 0) (k : rc_J X w n (.int (x - x / y * y) :: st) lv) : rc_J X w pc (.int y :: .int x :: st) lv := by
  subst hn
  exact fun H locs ls h1 h2 h3 => lv_irem C.1 C.2.1 hd hne (k H locs ls h1 h2 h3)
theorem j_ineg (C : rc_C X own cc w0) {x : Int32} (hd : decode cc pc = .ok (.ineg, 1)) (hn : pc + 1 = n) (k : rc_J X w n (.int (-x) :: st) lv) : rc_J X w pc (.int x :: st) lv := by
  subst hn
  exact fun H locs ls h1 h2 h3 => lv_ineg C.1 C.2.1 hd (k H locs ls h1 h2 h3)
theorem j_ladd (C : rc_C X own cc w0) {x y : Int64} (hd : decode cc pc = .ok (.ladd, 1)) (hn : pc + 1 = n) (k : rc_J X w n (.long (x + y) :: st) lv) : rc_J X w pc (.long y :: .long x :: st) lv := by
  subst hn
  exact fun H locs ls h1 h2 h3 => lv_ladd C.1 C.2.1 hd (k H locs ls h1 h2 h3)
theorem j_lsub (C : rc_C X own cc w0) {x y : Int64} (hd : decode cc pc = .ok (.lsub, 1)) (hn : pc + 1 = n) (k : rc_J X w n (.long (x - y) :: st) lv) : rc_J X w pc (.long y :: .long x :: st) lv := by
  subst hn
  exact fun H locs ls h1 h2 h3 => lv_lsub C.1 C.2.1 hd (k H locs ls h1 h2 h3)
theorem j_lmul (C : rc_C X own cc w0) {x y : Int64} (hd : decode cc pc = .ok (.lmul, 1)) (hn : pc + 1 = n) (k : rc_J X w n (.long (x * y) :: st) lv) : rc_J X w pc (.long y :: .long x :: st) lv := by
  subst hn
  exact fun H locs ls h1 h2 h3 => lv_lmul C.1 C.2.1 hd (k H locs ls h1 h2 h3)
theorem j_land (C : rc_C X own cc w0) {x y : Int64} (hd : decode cc pc = .ok (.land, 1)) (hn : pc + 1 = n) (k : rc_J X w n (.long (x &&& y) :: st) lv) : rc_J X w pc (.long y :: .long x :: st) lv := by
  subst hn
  exact fun H locs ls h1 h2 h3 => lv_land C.1 C.2.1 hd (k H locs ls h1 h2 h3)
theorem j_lor (C : rc_C X own cc w0) {x y : Int64} (hd : decode cc pc = .ok (.lor, 1)) (hn : pc + 1 = n) (k : rc_J X w n (.long (x ||| y) :: st) lv) : rc_J X w pc (.long y :: .long x :: st) lv := by
  subst hn
  exact fun H locs ls h1 h2 h3 => lv_lor C.1 C.2.1 hd (k H locs ls h1 h2 h3)
theorem j_lxor (C : rc_C X own cc w0) {x y : Int64} (hd : decode cc pc = .ok (.lxor, 1)) (hn : pc + 1 = n) (k : rc_J X w n (.long (x ^^^ y) :: st) lv) : rc_J X w pc (.long y :: .long x :: st) lv := by
  subst hn
  exact fun H locs ls h1 h2 h3 => lv_lxor C.1 C.2.1 hd (k H locs ls h1 h2 h3)
theorem j_lshl (C : rc_C X own cc w0) {x : Int64} {y : Int32} (hd : decode cc pc = .ok (.lshl, 1)) (hn : pc + 1 = n) (k : rc_J X w n (.long (x <<< (y.toInt64 &&& 63)) :: st) lv) : rc_J X w pc (.int y :: .long x :: st) lv := by
  subst hn
  exact fun H locs ls h1 h2 h3 => lv_lshl C.1 C.2.1 hd rfl (k H locs ls h1 h2 h3)
theorem j_lshr (C : rc_C X own cc w0) {x : Int64} {y : Int32} (hd : decode cc pc = .ok (.lshr, 1)) (hn : pc + 1 = n) (k : rc_J X w n (.long (x >>> (y.toInt64 &&& 63)) :: st) lv) : rc_J X w pc (.int y :: .long x :: st) lv := by
  subst hn
  exact fun H locs ls h1 h2 h3 => lv_lshr C.1 C.2.1 hd rfl (k H locs ls h1 h2 h3)
theorem j_lushr (C : rc_C X own cc w0) {x : Int64} {y : Int32} (hd : decode cc pc = .ok (.lushr, 1)) (hn : pc + 1 = n) (k : rc_J X w n (.long (x.toUInt64 >>> (y.toInt64.toUInt64 &&& Int64.toUInt64 63)).toInt64 :: st) lv) : rc_J X w pc (.int y :: .long x :: st) lv := by
  subst hn
  exact fun H locs ls h1 h2 h3 => lv_lushr C.1 C.2.1 hd rfl (k H locs ls h1 h2 h3)
theorem j_lcmp (C : rc_C X own cc w0) {x y : Int64} (hd : decode cc pc = .ok (.lcmp, 1)) (hn : pc + 1 = n) (k : rc_J X w n (.int (lg_cmp x y) :: st) lv) : rc_J X w pc (.long y :: .long x :: st) lv := by
  subst hn
  exact fun H locs ls h1 h2 h3 => W.lcmp C.1 C.2.1 hd (k H locs ls h1 h2 h3)
theorem j_i2l (C : rc_C X own cc w0) {x : Int32} (hd : decode cc pc = .ok (.i2l, 1)) (hn : pc + 1 = n) (k : rc_J X w n (.long x.toInt64 :: st) lv) : rc_J X w pc (.int x :: st) lv := by
  subst hn
  exact fun H locs ls h1 h2 h3 => lv_i2l C.1 C.2.1 hd rfl (k H locs ls h1 h2 h3)
theorem j_l2i (C : rc_C X own cc w0) {x : Int64} (hd : decode cc pc = .ok (.l2i, 1)) (hn : pc + 1 = n) (k : rc_J X w n (.int x.toInt32 :: st) lv) : rc_J X w pc (.long x :: st) lv := by
  subst hn
  exact fun H locs ls h1 h2 h3 => lv_l2i C.1 C.2.1 hd rfl (k H locs ls h1 h2 h3)
theorem j_i2b (C : rc_C X own cc w0) {x : Int32} (hd : decode cc pc = .ok (.i2b, 1)) (hn : pc + 1 = n) (k : rc_J X w n (.int x.toInt8.toInt32 :: st) lv) : rc_J X w pc (.int x :: st) lv := by
  subst hn
  exact fun H locs ls h1 h2 h3 => lv_i2b C.1 C.2.1 hd rfl (k H locs ls h1 h2 h3)
theorem j_iconst (C : rc_C X own cc w0) {i : Int} {v : Int32} (hd : decode cc pc = .ok (.iconst i, 1)) (hn : pc + 1 = n) (hv : Int32.ofInt i = v) (k : rc_J X w n (.int v :: st) lv) : rc_J X w pc (st) lv := by
  subst hn
  exact fun H locs ls h1 h2 h3 => lv_iconst C.1 C.2.1 hd hv (k H locs ls h1 h2 h3)
theorem j_bipush (C : rc_C X own cc w0) {i : Int} {v : Int32} (hd : decode cc pc = .ok (.bipush i, 2)) (hn : pc + 2 = n) (hv : (Int8.ofInt i).toInt32 = v) (k : rc_J X w n (.int v :: st) lv) : rc_J X w pc (st) lv := by
  subst hn
  exact fun H locs ls h1 h2 h3 => lv_bipush C.1 C.2.1 hd hv (k H locs ls h1 h2 h3)
theorem j_sipush (C : rc_C X own cc w0) {i : Int} {v : Int32} (hd : decode cc pc = .ok (.sipush i, 3)) (hn : pc + 3 = n) (hv : (Int16.ofInt i).toInt32 = v) (k : rc_J X w n (.int v :: st) lv) : rc_J X w pc (st) lv := by
  subst hn
  exact fun H locs ls h1 h2 h3 => lv_sipush C.1 C.2.1 hd hv (k H locs ls h1 h2 h3)
theorem j_lconst (C : rc_C X own cc w0) {i : Fin 2} {v : Int64} (hd : decode cc pc = .ok (.lconst i, 1)) (hn : pc + 1 = n) (hv : Int64.ofNat (i : Nat) = v) (k : rc_J X w n (.long v :: st) lv) : rc_J X w pc (st) lv := by
  subst hn
  exact fun H locs ls h1 h2 h3 => lv_lconst C.1 C.2.1 hd hv (k H locs ls h1 h2 h3)
theorem j_ldc (C : rc_C X own cc w0) {i : Nat} {v : Int32} (hd : decode cc pc = .ok (.ldc i, 2)) (hn : pc + 2 = n) (hc : Cond.constant own i v ∈ rc_tb) (k : rc_J X w n (.int v :: st) lv) : rc_J X w pc (st) lv := by
  subst hn
  exact fun H locs ls h1 h2 h3 => lv_ldc C.1 C.2.1 C.2.2.1 (C.ts _ hc) hd (k H locs ls h1 h2 h3)
theorem j_ldc2 (C : rc_C X own cc w0) {i : Nat} {v : Int64} (hd : decode cc pc = .ok (.ldc2_w i, 3)) (hn : pc + 3 = n) (hc : Cond.constantLong own i v ∈ rc_tb) (k : rc_J X w n (.long v :: st) lv) : rc_J X w pc (st) lv := by
  subst hn
  exact fun H locs ls h1 h2 h3 => lv_ldc2 C.1 C.2.1 C.2.2.1 (C.ts _ hc) hd (k H locs ls h1 h2 h3)
theorem j_null (C : rc_C X own cc w0)  (hd : decode cc pc = .ok (.aconst_null, 1)) (hn : pc + 1 = n) (k : rc_J X w n (va_rf none :: st) lv) : rc_J X w pc (st) lv := by
  subst hn
  exact fun H locs ls h1 h2 h3 => lv_null C.1 C.2.1 hd (k H locs ls h1 h2 h3)
theorem j_dup (C : rc_C X own cc w0) {v : Value} (hd : decode cc pc = .ok (.dup, 1)) (hn : pc + 1 = n) (hv : v.category = 1) (k : rc_J X w n (v :: v :: st) lv) : rc_J X w pc (v :: st) lv := by
  subst hn
  exact fun H locs ls h1 h2 h3 => lv_dup C.1 C.2.1 hd hv (k H locs ls h1 h2 h3)
theorem j_pop (C : rc_C X own cc w0) {v : Value} (hd : decode cc pc = .ok (.pop, 1)) (hn : pc + 1 = n) (hv : v.category = 1) (k : rc_J X w n (st) lv) : rc_J X w pc (v :: st) lv := by
  subst hn
  exact fun H locs ls h1 h2 h3 => lv_pop C.1 C.2.1 hd hv (k H locs ls h1 h2 h3)
theorem j_pop2 (C : rc_C X own cc w0) {v : Value} (hd : decode cc pc = .ok (.pop2, 1)) (hn : pc + 1 = n) (hv : v.category = 2) (k : rc_J X w n (st) lv) : rc_J X w pc (v :: st) lv := by
  subst hn
  exact fun H locs ls h1 h2 h3 => lv_pop2_2 C.1 C.2.1 hd hv (k H locs ls h1 h2 h3)
theorem j_dup_x1 (C : rc_C X own cc w0) {v u : Value} (hd : decode cc pc = .ok (.dup_x1, 1)) (hn : pc + 1 = n) (hv : v.category = 1) (hu : u.category = 1) (k : rc_J X w n (v :: u :: v :: st) lv) : rc_J X w pc (v :: u :: st) lv := by
  subst hn
  exact fun H locs ls h1 h2 h3 => lv_dup_x1 C.1 C.2.1 hd hv hu (k H locs ls h1 h2 h3)
theorem j_dup2 (C : rc_C X own cc w0) {v u : Value} (hd : decode cc pc = .ok (.dup2, 1)) (hn : pc + 1 = n) (hv : v.category = 1) (hu : u.category = 1) (k : rc_J X w n (v :: u :: v :: u :: st) lv) : rc_J X w pc (v :: u :: st) lv := by
  subst hn
  exact fun H locs ls h1 h2 h3 => lv_dup2_11 C.1 C.2.1 hd hv hu (k H locs ls h1 h2 h3)
theorem va_rf_cat (r : Option Nat) : (va_rf r).category = 1 := by cases r <;> rfl
theorem j_iload (C : rc_C X own cc w0) {i : Nat} {x : Int32} (hd : decode cc pc = .ok (.iload i, 2)) (hn : pc + 2 = n) (q : Nat) (hl : lv[q]? = some (i, .int x)) (k : rc_J X w n (.int x :: st) lv) : rc_J X w pc st lv := by
  subst hn
  exact fun H locs ls h1 h2 h3 => lv_iload C.1 C.2.1 hd (lv_at h3 q hl) (k H locs ls h1 h2 h3)
theorem j_iload_n (C : rc_C X own cc w0) {f : Fin 4} {x : Int32} (hd : decode cc pc = .ok (.iload_n f, 1)) (hn : pc + 1 = n) (q : Nat) (hl : lv[q]? = some ((f : Nat), .int x)) (k : rc_J X w n (.int x :: st) lv) : rc_J X w pc st lv := by
  subst hn
  exact fun H locs ls h1 h2 h3 => lv_iload_n C.1 C.2.1 hd rfl (lv_at h3 q hl) (k H locs ls h1 h2 h3)
theorem j_lload (C : rc_C X own cc w0) {i : Nat} {x : Int64} (hd : decode cc pc = .ok (.lload i, 2)) (hn : pc + 2 = n) (q : Nat) (hl : lv[q]? = some (i, .long x)) (k : rc_J X w n (.long x :: st) lv) : rc_J X w pc st lv := by
  subst hn
  exact fun H locs ls h1 h2 h3 => lv_lload C.1 C.2.1 hd (lv_at h3 q hl) (k H locs ls h1 h2 h3)
theorem j_lload_n (C : rc_C X own cc w0) {f : Fin 4} {x : Int64} (hd : decode cc pc = .ok (.lload_n f, 1)) (hn : pc + 1 = n) (q : Nat) (hl : lv[q]? = some ((f : Nat), .long x)) (k : rc_J X w n (.long x :: st) lv) : rc_J X w pc st lv := by
  subst hn
  exact fun H locs ls h1 h2 h3 => lv_lload_n C.1 C.2.1 hd rfl (lv_at h3 q hl) (k H locs ls h1 h2 h3)
theorem j_aload (C : rc_C X own cc w0) {i : Nat} {r : Option Nat} (hd : decode cc pc = .ok (.aload i, 2)) (hn : pc + 2 = n) (q : Nat) (hl : lv[q]? = some (i, va_rf r)) (k : rc_J X w n (va_rf r :: st) lv) : rc_J X w pc st lv := by
  subst hn
  intro H locs ls h1 h2 h3
  cases r with
  | none => exact lv_aloadN C.1 C.2.1 hd (lv_at h3 q hl) (k H locs ls h1 h2 h3)
  | some a => exact lv_aload C.1 C.2.1 hd (lv_at h3 q hl) (k H locs ls h1 h2 h3)
theorem j_aload_n (C : rc_C X own cc w0) {f : Fin 4} {r : Option Nat} (hd : decode cc pc = .ok (.aload_n f, 1)) (hn : pc + 1 = n) (q : Nat) (hl : lv[q]? = some ((f : Nat), va_rf r)) (k : rc_J X w n (va_rf r :: st) lv) : rc_J X w pc st lv := by
  subst hn
  intro H locs ls h1 h2 h3
  cases r with
  | none => exact lv_aload_nN C.1 C.2.1 hd rfl (lv_at h3 q hl) (k H locs ls h1 h2 h3)
  | some a => exact lv_aload_n C.1 C.2.1 hd rfl (lv_at h3 q hl) (k H locs ls h1 h2 h3)
theorem j_istore (C : rc_C X own cc w0) {i : Nat} {x : Int32} (hd : decode cc pc = .ok (.istore i, 2)) (hn : pc + 2 = n) (lv' : List (Nat × Value)) (hi : i < q_n X) (hl : (i, Value.int x) :: lv.filter (fun q => !(q.1 == i) && !(q.1 + 1 == i && q.2.category == 2)) = lv') (k : rc_J X w n st lv') : rc_J X w pc (.int x :: st) lv := by
  subst hn
  exact fun H locs ls h1 h2 h3 => lv_istore C.1 C.2.1 hd h3 hi hl (fun ls' h4 => k H locs ls' h1 h2 h4)
theorem j_istore_n (C : rc_C X own cc w0) {g : Fin 4} {i : Nat} {x : Int32} (hd : decode cc pc = .ok (.istore_n g, 1)) (hg : (g : Nat) = i) (hn : pc + 1 = n) (lv' : List (Nat × Value)) (hi : i < q_n X) (hl : (i, Value.int x) :: lv.filter (fun q => !(q.1 == i) && !(q.1 + 1 == i && q.2.category == 2)) = lv') (k : rc_J X w n st lv') : rc_J X w pc (.int x :: st) lv := by
  subst hn
  exact fun H locs ls h1 h2 h3 => lv_istore_n C.1 C.2.1 hd hg h3 hi hl (fun ls' h4 => k H locs ls' h1 h2 h4)
theorem j_lstore (C : rc_C X own cc w0) {i : Nat} {x : Int64} (hd : decode cc pc = .ok (.lstore i, 2)) (hn : pc + 2 = n) (lv' : List (Nat × Value)) (hi : i + 1 < q_n X) (hl : (i, Value.long x) :: lv.filter (fun q => !(q.1 == i) && (!(q.1 == i + 1) && !(q.1 + 1 == i && q.2.category == 2))) = lv') (k : rc_J X w n st lv') : rc_J X w pc (.long x :: st) lv := by
  subst hn
  exact fun H locs ls h1 h2 h3 => lv_lstore C.1 C.2.1 hd h3 hi hl (fun ls' h4 => k H locs ls' h1 h2 h4)
theorem j_lstore_n (C : rc_C X own cc w0) {g : Fin 4} {i : Nat} {x : Int64} (hd : decode cc pc = .ok (.lstore_n g, 1)) (hg : (g : Nat) = i) (hn : pc + 1 = n) (lv' : List (Nat × Value)) (hi : i + 1 < q_n X) (hl : (i, Value.long x) :: lv.filter (fun q => !(q.1 == i) && (!(q.1 == i + 1) && !(q.1 + 1 == i && q.2.category == 2))) = lv') (k : rc_J X w n st lv') : rc_J X w pc (.long x :: st) lv := by
  subst hn
  exact fun H locs ls h1 h2 h3 => lv_lstore_n C.1 C.2.1 hd hg h3 hi hl (fun ls' h4 => k H locs ls' h1 h2 h4)
theorem j_astore (C : rc_C X own cc w0) {i : Nat} {r : Option Nat} (hd : decode cc pc = .ok (.astore i, 2)) (hn : pc + 2 = n) (lv' : List (Nat × Value)) (hi : i < q_n X) (hl : (i, va_rf r) :: lv.filter (fun q => !(q.1 == i) && !(q.1 + 1 == i && q.2.category == 2)) = lv') (k : rc_J X w n st lv') : rc_J X w pc (va_rf r :: st) lv := by
  subst hn
  intro H locs ls h1 h2 h3
  cases r with
  | none => exact lv_astoreN C.1 C.2.1 hd h3 hi hl (fun ls' h4 => k H locs ls' h1 h2 h4)
  | some a => exact lv_astore C.1 C.2.1 hd h3 hi hl (fun ls' h4 => k H locs ls' h1 h2 h4)
theorem j_astore_n (C : rc_C X own cc w0) {g : Fin 4} {i : Nat} {r : Option Nat} (hd : decode cc pc = .ok (.astore_n g, 1)) (hg : (g : Nat) = i) (hn : pc + 1 = n) (lv' : List (Nat × Value)) (hi : i < q_n X) (hl : (i, va_rf r) :: lv.filter (fun q => !(q.1 == i) && !(q.1 + 1 == i && q.2.category == 2)) = lv') (k : rc_J X w n st lv') : rc_J X w pc (va_rf r :: st) lv := by
  subst hn
  intro H locs ls h1 h2 h3
  cases r with
  | none => exact lv_astore_nN C.1 C.2.1 hd hg h3 hi hl (fun ls' h4 => k H locs ls' h1 h2 h4)
  | some a => exact lv_astore_n C.1 C.2.1 hd hg h3 hi hl (fun ls' h4 => k H locs ls' h1 h2 h4)
theorem j_iinc (C : rc_C X own cc w0) {i : Nat} {d : Int} {x v : Int32} (hd : decode cc pc = .ok (.iinc i d, 3)) (hn : pc + 3 = n) (q : Nat) (lv' : List (Nat × Value)) (hq : lv[q]? = some (i, .int x)) (hv : x + Int32.ofInt d = v) (hi : i < q_n X) (hl : (i, Value.int v) :: lv.filter (fun q => !(q.1 == i) && !(q.1 + 1 == i && q.2.category == 2)) = lv') (k : rc_J X w n st lv') : rc_J X w pc st lv := by
  subst hn
  exact fun H locs ls h1 h2 h3 => lv_iinc C.1 C.2.1 hd h3 hq hv hi hl (fun ls' h4 => k H locs ls' h1 h2 h4)
theorem j_if_eq (C : rc_C X own cc w0) {x : Int32} {off : Int} {tgt : Nat} (hd : decode cc pc = .ok (.ifCond .eq off, 3)) (ht : (pc : Int) + off = (tgt : Int)) (hn : pc + 3 = n) (kt : x = 0 → rc_J X w tgt st lv) (kf : ¬ x = 0 → rc_J X w n st lv) : rc_J X w pc (.int x :: st) lv := by
  subst hn
  exact fun H locs ls h1 h2 h3 => lv_if_eq C.1 C.2.1 hd ht (fun q => kt q H locs ls h1 h2 h3) (fun q => kf q H locs ls h1 h2 h3)
theorem j_icmp_eq (C : rc_C X own cc w0) {x y : Int32} {off : Int} {tgt : Nat} (hd : decode cc pc = .ok (.if_icmp .eq off, 3)) (ht : (pc : Int) + off = (tgt : Int)) (hn : pc + 3 = n) (kt : x = y → rc_J X w tgt st lv) (kf : ¬ x = y → rc_J X w n st lv) : rc_J X w pc (.int y :: .int x :: st) lv := by
  subst hn
  exact fun H locs ls h1 h2 h3 => lv_icmp_eq C.1 C.2.1 hd ht (fun q => kt q H locs ls h1 h2 h3) (fun q => kf q H locs ls h1 h2 h3)
theorem j_if_ne (C : rc_C X own cc w0) {x : Int32} {off : Int} {tgt : Nat} (hd : decode cc pc = .ok (.ifCond .ne off, 3)) (ht : (pc : Int) + off = (tgt : Int)) (hn : pc + 3 = n) (kt : ¬ x = 0 → rc_J X w tgt st lv) (kf : x = 0 → rc_J X w n st lv) : rc_J X w pc (.int x :: st) lv := by
  subst hn
  exact fun H locs ls h1 h2 h3 => lv_if_ne C.1 C.2.1 hd ht (fun q => kt q H locs ls h1 h2 h3) (fun q => kf q H locs ls h1 h2 h3)
theorem j_icmp_ne (C : rc_C X own cc w0) {x y : Int32} {off : Int} {tgt : Nat} (hd : decode cc pc = .ok (.if_icmp .ne off, 3)) (ht : (pc : Int) + off = (tgt : Int)) (hn : pc + 3 = n) (kt : ¬ x = y → rc_J X w tgt st lv) (kf : x = y → rc_J X w n st lv) : rc_J X w pc (.int y :: .int x :: st) lv := by
  subst hn
  exact fun H locs ls h1 h2 h3 => lv_icmp_ne C.1 C.2.1 hd ht (fun q => kt q H locs ls h1 h2 h3) (fun q => kf q H locs ls h1 h2 h3)
theorem j_if_lt (C : rc_C X own cc w0) {x : Int32} {off : Int} {tgt : Nat} (hd : decode cc pc = .ok (.ifCond .lt off, 3)) (ht : (pc : Int) + off = (tgt : Int)) (hn : pc + 3 = n) (kt : x < 0 → rc_J X w tgt st lv) (kf : ¬ x < 0 → rc_J X w n st lv) : rc_J X w pc (.int x :: st) lv := by
  subst hn
  exact fun H locs ls h1 h2 h3 => lv_if_lt C.1 C.2.1 hd ht (fun q => kt q H locs ls h1 h2 h3) (fun q => kf q H locs ls h1 h2 h3)
theorem j_icmp_lt (C : rc_C X own cc w0) {x y : Int32} {off : Int} {tgt : Nat} (hd : decode cc pc = .ok (.if_icmp .lt off, 3)) (ht : (pc : Int) + off = (tgt : Int)) (hn : pc + 3 = n) (kt : x < y → rc_J X w tgt st lv) (kf : ¬ x < y → rc_J X w n st lv) : rc_J X w pc (.int y :: .int x :: st) lv := by
  subst hn
  exact fun H locs ls h1 h2 h3 => lv_icmp_lt C.1 C.2.1 hd ht (fun q => kt q H locs ls h1 h2 h3) (fun q => kf q H locs ls h1 h2 h3)
theorem j_if_ge (C : rc_C X own cc w0) {x : Int32} {off : Int} {tgt : Nat} (hd : decode cc pc = .ok (.ifCond .ge off, 3)) (ht : (pc : Int) + off = (tgt : Int)) (hn : pc + 3 = n) (kt : 0 ≤ x → rc_J X w tgt st lv) (kf : ¬ 0 ≤ x → rc_J X w n st lv) : rc_J X w pc (.int x :: st) lv := by
  subst hn
  exact fun H locs ls h1 h2 h3 => lv_if_ge C.1 C.2.1 hd ht (fun q => kt q H locs ls h1 h2 h3) (fun q => kf q H locs ls h1 h2 h3)
theorem j_icmp_ge (C : rc_C X own cc w0) {x y : Int32} {off : Int} {tgt : Nat} (hd : decode cc pc = .ok (.if_icmp .ge off, 3)) (ht : (pc : Int) + off = (tgt : Int)) (hn : pc + 3 = n) (kt : y ≤ x → rc_J X w tgt st lv) (kf : ¬ y ≤ x → rc_J X w n st lv) : rc_J X w pc (.int y :: .int x :: st) lv := by
  subst hn
  exact fun H locs ls h1 h2 h3 => lv_icmp_ge C.1 C.2.1 hd ht (fun q => kt q H locs ls h1 h2 h3) (fun q => kf q H locs ls h1 h2 h3)
theorem j_if_gt (C : rc_C X own cc w0) {x : Int32} {off : Int} {tgt : Nat} (hd : decode cc pc = .ok (.ifCond .gt off, 3)) (ht : (pc : Int) + off = (tgt : Int)) (hn : pc + 3 = n) (kt : 0 < x → rc_J X w tgt st lv) (kf : ¬ 0 < x → rc_J X w n st lv) : rc_J X w pc (.int x :: st) lv := by
  subst hn
  exact fun H locs ls h1 h2 h3 => lv_if_gt C.1 C.2.1 hd ht (fun q => kt q H locs ls h1 h2 h3) (fun q => kf q H locs ls h1 h2 h3)
theorem j_icmp_gt (C : rc_C X own cc w0) {x y : Int32} {off : Int} {tgt : Nat} (hd : decode cc pc = .ok (.if_icmp .gt off, 3)) (ht : (pc : Int) + off = (tgt : Int)) (hn : pc + 3 = n) (kt : y < x → rc_J X w tgt st lv) (kf : ¬ y < x → rc_J X w n st lv) : rc_J X w pc (.int y :: .int x :: st) lv := by
  subst hn
  exact fun H locs ls h1 h2 h3 => lv_icmp_gt C.1 C.2.1 hd ht (fun q => kt q H locs ls h1 h2 h3) (fun q => kf q H locs ls h1 h2 h3)
theorem j_if_le (C : rc_C X own cc w0) {x : Int32} {off : Int} {tgt : Nat} (hd : decode cc pc = .ok (.ifCond .le off, 3)) (ht : (pc : Int) + off = (tgt : Int)) (hn : pc + 3 = n) (kt : x ≤ 0 → rc_J X w tgt st lv) (kf : ¬ x ≤ 0 → rc_J X w n st lv) : rc_J X w pc (.int x :: st) lv := by
  subst hn
  exact fun H locs ls h1 h2 h3 => lv_if_le C.1 C.2.1 hd ht (fun q => kt q H locs ls h1 h2 h3) (fun q => kf q H locs ls h1 h2 h3)
theorem j_icmp_le (C : rc_C X own cc w0) {x y : Int32} {off : Int} {tgt : Nat} (hd : decode cc pc = .ok (.if_icmp .le off, 3)) (ht : (pc : Int) + off = (tgt : Int)) (hn : pc + 3 = n) (kt : x ≤ y → rc_J X w tgt st lv) (kf : ¬ x ≤ y → rc_J X w n st lv) : rc_J X w pc (.int y :: .int x :: st) lv := by
  subst hn
  exact fun H locs ls h1 h2 h3 => lv_icmp_le C.1 C.2.1 hd ht (fun q => kt q H locs ls h1 h2 h3) (fun q => kf q H locs ls h1 h2 h3)
theorem j_goto (C : rc_C X own cc w0) {off : Int} {tgt : Nat} (hd : decode cc pc = .ok (.goto off, 3)) (ht : (pc : Int) + off = (tgt : Int)) (k : rc_J X w tgt st lv) : rc_J X w pc st lv := fun H locs ls h1 h2 h3 => lv_goto C.1 C.2.1 hd ht (k H locs ls h1 h2 h3)
theorem j_ifnull (C : rc_C X own cc w0) {r : Option Nat} {off : Int} {tgt : Nat} (hd : decode cc pc = .ok (.ifnull off, 3)) (ht : (pc : Int) + off = (tgt : Int)) (hn : pc + 3 = n) (kt : r = none → rc_J X w tgt st lv) (kf : ¬ r = none → rc_J X w n st lv) : rc_J X w pc (va_rf r :: st) lv := by
  subst hn
  intro H locs ls h1 h2 h3
  cases r with
  | none => exact lv_ifnullN C.1 C.2.1 hd ht (kt rfl H locs ls h1 h2 h3)
  | some a => exact lv_ifnull C.1 C.2.1 hd (kf (fun q => by cases q) H locs ls h1 h2 h3)
theorem j_ifnonnull (C : rc_C X own cc w0) {r : Option Nat} {off : Int} {tgt : Nat} (hd : decode cc pc = .ok (.ifnonnull off, 3)) (ht : (pc : Int) + off = (tgt : Int)) (hn : pc + 3 = n) (kt : ¬ r = none → rc_J X w tgt st lv) (kf : r = none → rc_J X w n st lv) : rc_J X w pc (va_rf r :: st) lv := by
  subst hn
  intro H locs ls h1 h2 h3
  cases r with
  | none => exact lv_ifnonnullN C.1 C.2.1 hd (kf rfl H locs ls h1 h2 h3)
  | some a => exact lv_ifnonnull C.1 C.2.1 hd ht (kt (fun q => by cases q) H locs ls h1 h2 h3)
theorem j_tableIn (C : rc_C X own cc w0) {dflt lo hi : Int} {offs : Array Int} {len : Nat} {x : Int32} {off : Int} {tgt : Nat} (hd : decode cc pc = .ok (.tableswitch dflt lo hi offs, len)) (h1 : ¬ x.toInt < lo) (h2 : ¬ hi < x.toInt) (ho : offs[(x.toInt - lo).toNat]? = some off) (ht : (pc : Int) + off = (tgt : Int)) (k : rc_J X w tgt st lv) : rc_J X w pc (.int x :: st) lv := fun H locs ls g1 g2 g3 => lv_tableIn C.1 C.2.1 hd h1 h2 ho ht (k H locs ls g1 g2 g3)
theorem j_tableOut (C : rc_C X own cc w0) {dflt lo hi : Int} {offs : Array Int} {len : Nat} {x : Int32} {tgt : Nat} (hd : decode cc pc = .ok (.tableswitch dflt lo hi offs, len)) (h : x.toInt < lo ∨ hi < x.toInt) (ht : (pc : Int) + dflt = (tgt : Int)) (k : rc_J X w tgt st lv) : rc_J X w pc (.int x :: st) lv := fun H locs ls g1 g2 g3 => lv_tableOut C.1 C.2.1 hd h ht (k H locs ls g1 g2 g3)
theorem j_lookup (C : rc_C X own cc w0) {dflt : Int} {ps : Array (Int × Int)} {len : Nat} {x : Int32} {off : Int} {tgt : Nat} (hd : decode cc pc = .ok (.lookupswitch dflt ps, len)) (hp : (ps.toList.zip (ps.toList.drop 1)).all (fun (a, next) => a.1 < next.1) = true) (ho : Op.lookupswitch.offset ps.toList dflt x.toInt = off) (ht : (pc : Int) + off = (tgt : Int)) (k : rc_J X w tgt st lv) : rc_J X w pc (.int x :: st) lv := fun H locs ls g1 g2 g3 => lv_lookup C.1 C.2.1 hd hp ho ht (k H locs ls g1 g2 g3)
end RCJ
