section KR
variable {X : Cx} {o : OO} {cc : ByteArray} {own : String} {nL : Nat} {R : Room} {st : St} {pc pc' : Nat} {lv lv' : List (Nat × Value)} {stk : List Value}
theorem k_sub (ks : List Nat) (hl : lv_pick lv ks = lv') (kk : Wk X o nL st pc lv' stk) : Wk X o nL st pc lv stk := fun H locs ls hP hS h => kk H locs ls hP hS (lv_sub h ks hl)
theorem k_iconst (h : Ok X o cc own nL R) {n : Int} {v : Int32} (hd : decode cc pc = .ok (.iconst n, 1)) (hn : pc + 1 = pc') (hv : Int32.ofInt n = v) (kk : Wk X o nL st pc' lv (.int v :: stk)) : Wk X o nL st pc lv (stk) := by
  subst hn
  intro H locs ls hP hS hl
  exact lv_iconst h.1 h.2.1 hd hv (kk H locs ls hP hS hl)
theorem k_bipush (h : Ok X o cc own nL R) {n : Int} {v : Int32} (hd : decode cc pc = .ok (.bipush n, 2)) (hn : pc + 2 = pc') (hv : (Int8.ofInt n).toInt32 = v) (kk : Wk X o nL st pc' lv (.int v :: stk)) : Wk X o nL st pc lv (stk) := by
  subst hn
  intro H locs ls hP hS hl
  exact lv_bipush h.1 h.2.1 hd hv (kk H locs ls hP hS hl)
theorem k_sipush (h : Ok X o cc own nL R) {n : Int} {v : Int32} (hd : decode cc pc = .ok (.sipush n, 3)) (hn : pc + 3 = pc') (hv : (Int16.ofInt n).toInt32 = v) (kk : Wk X o nL st pc' lv (.int v :: stk)) : Wk X o nL st pc lv (stk) := by
  subst hn
  intro H locs ls hP hS hl
  exact lv_sipush h.1 h.2.1 hd hv (kk H locs ls hP hS hl)
theorem k_lconst (h : Ok X o cc own nL R) {n : Fin 2} {v : Int64} (hd : decode cc pc = .ok (.lconst n, 1)) (hn : pc + 1 = pc') (hv : Int64.ofNat (n : Nat) = v) (kk : Wk X o nL st pc' lv (.long v :: stk)) : Wk X o nL st pc lv (stk) := by
  subst hn
  intro H locs ls hP hS hl
  exact lv_lconst h.1 h.2.1 hd hv (kk H locs ls hP hS hl)
theorem k_iload_n (h : Ok X o cc own nL R) {k : Fin 4} {i : Nat} {x : Int32} (hd : decode cc pc = .ok (.iload_n k, 1)) (hn : pc + 1 = pc') (hi : (k : Nat) = i) (j : Nat) (hj : lv[j]? = some (i, .int x)) (kk : Wk X o nL st pc' lv (.int x :: stk)) : Wk X o nL st pc lv (stk) := by
  subst hn
  intro H locs ls hP hS hl
  exact lv_iload_n h.1 h.2.1 hd hi (lv_at hl j hj) (kk H locs ls hP hS hl)
theorem k_iload (h : Ok X o cc own nL R) {i : Nat} {x : Int32} (hd : decode cc pc = .ok (.iload i, 2)) (hn : pc + 2 = pc') (j : Nat) (hj : lv[j]? = some (i, .int x)) (kk : Wk X o nL st pc' lv (.int x :: stk)) : Wk X o nL st pc lv (stk) := by
  subst hn
  intro H locs ls hP hS hl
  exact lv_iload h.1 h.2.1 hd (lv_at hl j hj) (kk H locs ls hP hS hl)
theorem k_istore_n (h : Ok X o cc own nL R) {k : Fin 4} {i : Nat} {x : Int32} (hd : decode cc pc = .ok (.istore_n k, 1)) (hn : pc + 1 = pc') (hi : (k : Nat) = i) (hL : i < nL) (ks : List Nat) (hs : lv_pick ((i, Value.int x) :: lv.filter (fun q => !(q.1 == i) && !(q.1 + 1 == i && q.2.category == 2))) ks = lv') (kk : Wk X o nL st pc' lv' stk) : Wk X o nL st pc lv (.int x :: stk) := by
  subst hn
  intro H locs ls hP hS hl
  exact lv_istore_n h.1 h.2.1 hd hi hl hL rfl (fun ls2 hl2 => kk H locs ls2 hP hS (lv_sub hl2 ks hs))
theorem k_istore (h : Ok X o cc own nL R) {i : Nat} {x : Int32} (hd : decode cc pc = .ok (.istore i, 2)) (hn : pc + 2 = pc') (hL : i < nL) (ks : List Nat) (hs : lv_pick ((i, Value.int x) :: lv.filter (fun q => !(q.1 == i) && !(q.1 + 1 == i && q.2.category == 2))) ks = lv') (kk : Wk X o nL st pc' lv' stk) : Wk X o nL st pc lv (.int x :: stk) := by
  subst hn
  intro H locs ls hP hS hl
  exact lv_istore h.1 h.2.1 hd hl hL rfl (fun ls2 hl2 => kk H locs ls2 hP hS (lv_sub hl2 ks hs))
theorem k_aload_n (h : Ok X o cc own nL R) {k : Fin 4} {i : Nat} {x : Nat} (hd : decode cc pc = .ok (.aload_n k, 1)) (hn : pc + 1 = pc') (hi : (k : Nat) = i) (j : Nat) (hj : lv[j]? = some (i, .ref x)) (kk : Wk X o nL st pc' lv (.ref x :: stk)) : Wk X o nL st pc lv (stk) := by
  subst hn
  intro H locs ls hP hS hl
  exact lv_aload_n h.1 h.2.1 hd hi (lv_at hl j hj) (kk H locs ls hP hS hl)
theorem k_aload (h : Ok X o cc own nL R) {i : Nat} {x : Nat} (hd : decode cc pc = .ok (.aload i, 2)) (hn : pc + 2 = pc') (j : Nat) (hj : lv[j]? = some (i, .ref x)) (kk : Wk X o nL st pc' lv (.ref x :: stk)) : Wk X o nL st pc lv (stk) := by
  subst hn
  intro H locs ls hP hS hl
  exact lv_aload h.1 h.2.1 hd (lv_at hl j hj) (kk H locs ls hP hS hl)
theorem k_astore_n (h : Ok X o cc own nL R) {k : Fin 4} {i : Nat} {x : Nat} (hd : decode cc pc = .ok (.astore_n k, 1)) (hn : pc + 1 = pc') (hi : (k : Nat) = i) (hL : i < nL) (ks : List Nat) (hs : lv_pick ((i, Value.ref x) :: lv.filter (fun q => !(q.1 == i) && !(q.1 + 1 == i && q.2.category == 2))) ks = lv') (kk : Wk X o nL st pc' lv' stk) : Wk X o nL st pc lv (.ref x :: stk) := by
  subst hn
  intro H locs ls hP hS hl
  exact lv_astore_n h.1 h.2.1 hd hi hl hL rfl (fun ls2 hl2 => kk H locs ls2 hP hS (lv_sub hl2 ks hs))
theorem k_astore (h : Ok X o cc own nL R) {i : Nat} {x : Nat} (hd : decode cc pc = .ok (.astore i, 2)) (hn : pc + 2 = pc') (hL : i < nL) (ks : List Nat) (hs : lv_pick ((i, Value.ref x) :: lv.filter (fun q => !(q.1 == i) && !(q.1 + 1 == i && q.2.category == 2))) ks = lv') (kk : Wk X o nL st pc' lv' stk) : Wk X o nL st pc lv (.ref x :: stk) := by
  subst hn
  intro H locs ls hP hS hl
  exact lv_astore h.1 h.2.1 hd hl hL rfl (fun ls2 hl2 => kk H locs ls2 hP hS (lv_sub hl2 ks hs))
theorem k_lload_n (h : Ok X o cc own nL R) {k : Fin 4} {i : Nat} {x : Int64} (hd : decode cc pc = .ok (.lload_n k, 1)) (hn : pc + 1 = pc') (hi : (k : Nat) = i) (j : Nat) (hj : lv[j]? = some (i, .long x)) (kk : Wk X o nL st pc' lv (.long x :: stk)) : Wk X o nL st pc lv (stk) := by
  subst hn
  intro H locs ls hP hS hl
  exact lv_lload_n h.1 h.2.1 hd hi (lv_at hl j hj) (kk H locs ls hP hS hl)
theorem k_lload (h : Ok X o cc own nL R) {i : Nat} {x : Int64} (hd : decode cc pc = .ok (.lload i, 2)) (hn : pc + 2 = pc') (j : Nat) (hj : lv[j]? = some (i, .long x)) (kk : Wk X o nL st pc' lv (.long x :: stk)) : Wk X o nL st pc lv (stk) := by
  subst hn
  intro H locs ls hP hS hl
  exact lv_lload h.1 h.2.1 hd (lv_at hl j hj) (kk H locs ls hP hS hl)
theorem k_lstore_n (h : Ok X o cc own nL R) {k : Fin 4} {i : Nat} {x : Int64} (hd : decode cc pc = .ok (.lstore_n k, 1)) (hn : pc + 1 = pc') (hi : (k : Nat) = i) (hL : i + 1 < nL) (ks : List Nat) (hs : lv_pick ((i, Value.long x) :: lv.filter (fun q => !(q.1 == i) && (!(q.1 == i + 1) && !(q.1 + 1 == i && q.2.category == 2)))) ks = lv') (kk : Wk X o nL st pc' lv' stk) : Wk X o nL st pc lv (.long x :: stk) := by
  subst hn
  intro H locs ls hP hS hl
  exact lv_lstore_n h.1 h.2.1 hd hi hl hL rfl (fun ls2 hl2 => kk H locs ls2 hP hS (lv_sub hl2 ks hs))
theorem k_lstore (h : Ok X o cc own nL R) {i : Nat} {x : Int64} (hd : decode cc pc = .ok (.lstore i, 2)) (hn : pc + 2 = pc') (hL : i + 1 < nL) (ks : List Nat) (hs : lv_pick ((i, Value.long x) :: lv.filter (fun q => !(q.1 == i) && (!(q.1 == i + 1) && !(q.1 + 1 == i && q.2.category == 2)))) ks = lv') (kk : Wk X o nL st pc' lv' stk) : Wk X o nL st pc lv (.long x :: stk) := by
  subst hn
  intro H locs ls hP hS hl
  exact lv_lstore h.1 h.2.1 hd hl hL rfl (fun ls2 hl2 => kk H locs ls2 hP hS (lv_sub hl2 ks hs))
theorem k_iinc (h : Ok X o cc own nL R) {i : Nat} {n : Int} {x v : Int32} (hd : decode cc pc = .ok (.iinc i n, 3)) (hn : pc + 3 = pc') (j : Nat) (hj : lv[j]? = some (i, .int x)) (hv : x + Int32.ofInt n = v) (hL : i < nL) (ks : List Nat) (hs : lv_pick ((i, Value.int v) :: lv.filter (fun q => !(q.1 == i) && !(q.1 + 1 == i && q.2.category == 2))) ks = lv') (kk : Wk X o nL st pc' lv' stk) : Wk X o nL st pc lv stk := by
  subst hn
  intro H locs ls hP hS hl
  exact lv_iinc h.1 h.2.1 hd hl hj hv hL rfl (fun ls2 hl2 => kk H locs ls2 hP hS (lv_sub hl2 ks hs))
theorem k_iadd (h : Ok X o cc own nL R) {x y : Int32} (hd : decode cc pc = .ok (.iadd, 1)) (hn : pc + 1 = pc')  (kk : Wk X o nL st pc' lv (.int (x + y) :: stk)) : Wk X o nL st pc lv (.int y :: .int x :: stk) := by
  subst hn
  intro H locs ls hP hS hl
  exact lv_iadd h.1 h.2.1 hd (kk H locs ls hP hS hl)
theorem k_isub (h : Ok X o cc own nL R) {x y : Int32} (hd : decode cc pc = .ok (.isub, 1)) (hn : pc + 1 = pc')  (kk : Wk X o nL st pc' lv (.int (x - y) :: stk)) : Wk X o nL st pc lv (.int y :: .int x :: stk) := by
  subst hn
  intro H locs ls hP hS hl
  exact lv_isub h.1 h.2.1 hd (kk H locs ls hP hS hl)
theorem k_imul (h : Ok X o cc own nL R) {x y : Int32} (hd : decode cc pc = .ok (.imul, 1)) (hn : pc + 1 = pc')  (kk : Wk X o nL st pc' lv (.int (x * y) :: stk)) : Wk X o nL st pc lv (.int y :: .int x :: stk) := by
  subst hn
  intro H locs ls hP hS hl
  exact lv_imul h.1 h.2.1 hd (kk H locs ls hP hS hl)
theorem k_iand (h : Ok X o cc own nL R) {x y : Int32} (hd : decode cc pc = .ok (.iand, 1)) (hn : pc + 1 = pc')  (kk : Wk X o nL st pc' lv (.int (x &&& y) :: stk)) : Wk X o nL st pc lv (.int y :: .int x :: stk) := by
  subst hn
  intro H locs ls hP hS hl
  exact lv_iand h.1 h.2.1 hd (kk H locs ls hP hS hl)
theorem k_ior (h : Ok X o cc own nL R) {x y : Int32} (hd : decode cc pc = .ok (.ior, 1)) (hn : pc + 1 = pc')  (kk : Wk X o nL st pc' lv (.int (x ||| y) :: stk)) : Wk X o nL st pc lv (.int y :: .int x :: stk) := by
  subst hn
  intro H locs ls hP hS hl
  exact lv_ior h.1 h.2.1 hd (kk H locs ls hP hS hl)
theorem k_ishl (h : Ok X o cc own nL R) {x y : Int32} (hd : decode cc pc = .ok (.ishl, 1)) (hn : pc + 1 = pc')  (kk : Wk X o nL st pc' lv (.int (x <<< (y &&& 31)) :: stk)) : Wk X o nL st pc lv (.int y :: .int x :: stk) := by
  subst hn
  intro H locs ls hP hS hl
  exact lv_ishl h.1 h.2.1 hd (kk H locs ls hP hS hl)
theorem k_ishr (h : Ok X o cc own nL R) {x y : Int32} (hd : decode cc pc = .ok (.ishr, 1)) (hn : pc + 1 = pc')  (kk : Wk X o nL st pc' lv (.int (x >>> (y &&& 31)) :: stk)) : Wk X o nL st pc lv (.int y :: .int x :: stk) := by
  subst hn
  intro H locs ls hP hS hl
  exact lv_ishr h.1 h.2.1 hd (kk H locs ls hP hS hl)
theorem k_iushr (h : Ok X o cc own nL R) {x y : Int32} (hd : decode cc pc = .ok (.iushr, 1)) (hn : pc + 1 = pc')  (kk : Wk X o nL st pc' lv (.int ((x.toUInt32 >>> (y.toUInt32 &&& Int32.toUInt32 31)).toInt32) :: stk)) : Wk X o nL st pc lv (.int y :: .int x :: stk) := by
  subst hn
  intro H locs ls hP hS hl
  exact lv_iushr h.1 h.2.1 hd rfl (kk H locs ls hP hS hl)
theorem k_idiv (h : Ok X o cc own nL R) {x y : Int32} (hd : decode cc pc = .ok (.idiv, 1)) (hn : pc + 1 = pc') (hz : ¬ y = 0) (kk : Wk X o nL st pc' lv (.int (x / y) :: stk)) : Wk X o nL st pc lv (.int y :: .int x :: stk) := by
  subst hn
  intro H locs ls hP hS hl
  exact lv_idiv h.1 h.2.1 hd hz (kk H locs ls hP hS hl)
theorem k_irem (h : Ok X o cc own nL R) {x y : Int32} (hd : decode cc pc = .ok (.irem, 1)) (hn : pc + 1 = pc') (hz : ¬ y = 0) (kk : Wk X o nL st pc' lv (.int (x - x / y * y) :: stk)) : Wk X o nL st pc lv (.int y :: .int x :: stk) := by
  subst hn
  intro H locs ls hP hS hl
  exact lv_irem h.1 h.2.1 hd hz (kk H locs ls hP hS hl)
theorem k_ladd (h : Ok X o cc own nL R) {x y : Int64} (hd : decode cc pc = .ok (.ladd, 1)) (hn : pc + 1 = pc')  (kk : Wk X o nL st pc' lv (.long (x + y) :: stk)) : Wk X o nL st pc lv (.long y :: .long x :: stk) := by
  subst hn
  intro H locs ls hP hS hl
  exact lv_ladd h.1 h.2.1 hd (kk H locs ls hP hS hl)
theorem k_lmul (h : Ok X o cc own nL R) {x y : Int64} (hd : decode cc pc = .ok (.lmul, 1)) (hn : pc + 1 = pc')  (kk : Wk X o nL st pc' lv (.long (x * y) :: stk)) : Wk X o nL st pc lv (.long y :: .long x :: stk) := by
  subst hn
  intro H locs ls hP hS hl
  exact lv_lmul h.1 h.2.1 hd (kk H locs ls hP hS hl)
theorem k_ldiv (h : Ok X o cc own nL R) {x y : Int64} (hd : decode cc pc = .ok (.ldiv, 1)) (hn : pc + 1 = pc') (hz : ¬ y = 0) (kk : Wk X o nL st pc' lv (.long (x / y) :: stk)) : Wk X o nL st pc lv (.long y :: .long x :: stk) := by
  subst hn
  intro H locs ls hP hS hl
  exact lv_ldiv h.1 h.2.1 hd hz (kk H locs ls hP hS hl)
theorem k_lrem (h : Ok X o cc own nL R) {x y : Int64} (hd : decode cc pc = .ok (.lrem, 1)) (hn : pc + 1 = pc') (hz : ¬ y = 0) (kk : Wk X o nL st pc' lv (.long (x - x / y * y) :: stk)) : Wk X o nL st pc lv (.long y :: .long x :: stk) := by
  subst hn
  intro H locs ls hP hS hl
  exact lv_lrem h.1 h.2.1 hd hz (kk H locs ls hP hS hl)
theorem k_lcmp (h : Ok X o cc own nL R) {x y : Int64} (hd : decode cc pc = .ok (.lcmp, 1)) (hn : pc + 1 = pc')  (kk : Wk X o nL st pc' lv (.int (lg_cmp x y) :: stk)) : Wk X o nL st pc lv (.long y :: .long x :: stk) := by
  subst hn
  intro H locs ls hP hS hl
  exact W.lcmp h.1 h.2.1 hd (kk H locs ls hP hS hl)
theorem k_i2l (h : Ok X o cc own nL R) {x : Int32} (hd : decode cc pc = .ok (.i2l, 1)) (hn : pc + 1 = pc')  (kk : Wk X o nL st pc' lv (.long x.toInt64 :: stk)) : Wk X o nL st pc lv (.int x :: stk) := by
  subst hn
  intro H locs ls hP hS hl
  exact lv_i2l h.1 h.2.1 hd rfl (kk H locs ls hP hS hl)
theorem k_l2i (h : Ok X o cc own nL R) {x : Int64} (hd : decode cc pc = .ok (.l2i, 1)) (hn : pc + 1 = pc')  (kk : Wk X o nL st pc' lv (.int x.toInt32 :: stk)) : Wk X o nL st pc lv (.long x :: stk) := by
  subst hn
  intro H locs ls hP hS hl
  exact lv_l2i h.1 h.2.1 hd rfl (kk H locs ls hP hS hl)
theorem k_i2b (h : Ok X o cc own nL R) {x : Int32} (hd : decode cc pc = .ok (.i2b, 1)) (hn : pc + 1 = pc')  (kk : Wk X o nL st pc' lv (.int x.toInt8.toInt32 :: stk)) : Wk X o nL st pc lv (.int x :: stk) := by
  subst hn
  intro H locs ls hP hS hl
  exact lv_i2b h.1 h.2.1 hd rfl (kk H locs ls hP hS hl)
theorem k_dup (h : Ok X o cc own nL R) {va : Value} (hd : decode cc pc = .ok (.dup, 1)) (hn : pc + 1 = pc') (hc : va.category = 1) (kk : Wk X o nL st pc' lv (va :: va :: stk)) : Wk X o nL st pc lv (va :: stk) := by
  subst hn
  intro H locs ls hP hS hl
  exact lv_dup h.1 h.2.1 hd hc (kk H locs ls hP hS hl)
theorem k_pop (h : Ok X o cc own nL R) {va : Value} (hd : decode cc pc = .ok (.pop, 1)) (hn : pc + 1 = pc') (hc : va.category = 1) (kk : Wk X o nL st pc' lv (stk)) : Wk X o nL st pc lv (va :: stk) := by
  subst hn
  intro H locs ls hP hS hl
  exact lv_pop h.1 h.2.1 hd hc (kk H locs ls hP hS hl)
theorem k_dup2 (h : Ok X o cc own nL R) {va vb : Value} (hd : decode cc pc = .ok (.dup2, 1)) (hn : pc + 1 = pc') (hc : va.category = 1) (hc2 : vb.category = 1) (kk : Wk X o nL st pc' lv (va :: vb :: va :: vb :: stk)) : Wk X o nL st pc lv (va :: vb :: stk) := by
  subst hn
  intro H locs ls hP hS hl
  exact lv_dup2_11 h.1 h.2.1 hd hc hc2 (kk H locs ls hP hS hl)
theorem k_ldcw (h : Ok X o cc own nL R) {idx : Nat} {v : Int32} (hd : decode cc pc = .ok (.ldc_w idx, 3)) (hn : pc + 3 = pc') (hw : Cond.constant own idx v ∈ gtb) (kk : Wk X o nL st pc' lv (.int v :: stk)) : Wk X o nL st pc lv (stk) := by
  subst hn
  intro H locs ls hP hS hl
  exact lv_ldcw h.1 h.2.1 h.2.2.2.1 (h.2.2.2.2.1 _ hw) hd (kk H locs ls hP hS hl)
theorem k_ldc (h : Ok X o cc own nL R) {idx : Nat} {v : Int32} (hd : decode cc pc = .ok (.ldc idx, 2)) (hn : pc + 2 = pc') (hw : Cond.constant own idx v ∈ gtb) (kk : Wk X o nL st pc' lv (.int v :: stk)) : Wk X o nL st pc lv (stk) := by
  subst hn
  intro H locs ls hP hS hl
  exact lv_ldc h.1 h.2.1 h.2.2.2.1 (h.2.2.2.2.1 _ hw) hd (kk H locs ls hP hS hl)
theorem k_ldc2 (h : Ok X o cc own nL R) {idx : Nat} {v : Int64} (hd : decode cc pc = .ok (.ldc2_w idx, 3)) (hn : pc + 3 = pc') (hw : Cond.constantLong own idx v ∈ gtb) (kk : Wk X o nL st pc' lv (.long v :: stk)) : Wk X o nL st pc lv (stk) := by
  subst hn
  intro H locs ls hP hS hl
  exact lv_ldc2 h.1 h.2.1 h.2.2.2.1 (h.2.2.2.2.1 _ hw) hd (kk H locs ls hP hS hl)
theorem k_goto (h : Ok X o cc own nL R) {off : Int} {tgt : Nat} (hd : decode cc pc = .ok (.goto off, 3)) (ht : (pc : Int) + off = (tgt : Int)) (kk : Wk X o nL st tgt lv stk) : Wk X o nL st pc lv stk := fun H locs ls hP hS hl => lv_goto h.1 h.2.1 hd ht (kk H locs ls hP hS hl)
theorem k_if_eq (h : Ok X o cc own nL R) {x : Int32} {off : Int} {tgt : Nat} (hd : decode cc pc = .ok (.ifCond .eq off, 3)) (hn : pc + 3 = pc') (ht : (pc : Int) + off = (tgt : Int)) (kt : x = 0 → Wk X o nL st tgt lv stk) (kf : ¬ x = 0 → Wk X o nL st pc' lv stk) : Wk X o nL st pc lv (.int x :: stk) := by
  subst hn
  intro H locs ls hP hS hl
  exact lv_if_eq h.1 h.2.1 hd ht (fun q => kt q H locs ls hP hS hl) (fun q => kf q H locs ls hP hS hl)
theorem k_if_ne (h : Ok X o cc own nL R) {x : Int32} {off : Int} {tgt : Nat} (hd : decode cc pc = .ok (.ifCond .ne off, 3)) (hn : pc + 3 = pc') (ht : (pc : Int) + off = (tgt : Int)) (kt : ¬ x = 0 → Wk X o nL st tgt lv stk) (kf : x = 0 → Wk X o nL st pc' lv stk) : Wk X o nL st pc lv (.int x :: stk) := by
  subst hn
  intro H locs ls hP hS hl
  exact lv_if_ne h.1 h.2.1 hd ht (fun q => kt q H locs ls hP hS hl) (fun q => kf q H locs ls hP hS hl)
theorem k_if_lt (h : Ok X o cc own nL R) {x : Int32} {off : Int} {tgt : Nat} (hd : decode cc pc = .ok (.ifCond .lt off, 3)) (hn : pc + 3 = pc') (ht : (pc : Int) + off = (tgt : Int)) (kt : x < 0 → Wk X o nL st tgt lv stk) (kf : ¬ x < 0 → Wk X o nL st pc' lv stk) : Wk X o nL st pc lv (.int x :: stk) := by
  subst hn
  intro H locs ls hP hS hl
  exact lv_if_lt h.1 h.2.1 hd ht (fun q => kt q H locs ls hP hS hl) (fun q => kf q H locs ls hP hS hl)
theorem k_if_ge (h : Ok X o cc own nL R) {x : Int32} {off : Int} {tgt : Nat} (hd : decode cc pc = .ok (.ifCond .ge off, 3)) (hn : pc + 3 = pc') (ht : (pc : Int) + off = (tgt : Int)) (kt : 0 ≤ x → Wk X o nL st tgt lv stk) (kf : ¬ 0 ≤ x → Wk X o nL st pc' lv stk) : Wk X o nL st pc lv (.int x :: stk) := by
  subst hn
  intro H locs ls hP hS hl
  exact lv_if_ge h.1 h.2.1 hd ht (fun q => kt q H locs ls hP hS hl) (fun q => kf q H locs ls hP hS hl)
theorem k_if_gt (h : Ok X o cc own nL R) {x : Int32} {off : Int} {tgt : Nat} (hd : decode cc pc = .ok (.ifCond .gt off, 3)) (hn : pc + 3 = pc') (ht : (pc : Int) + off = (tgt : Int)) (kt : 0 < x → Wk X o nL st tgt lv stk) (kf : ¬ 0 < x → Wk X o nL st pc' lv stk) : Wk X o nL st pc lv (.int x :: stk) := by
  subst hn
  intro H locs ls hP hS hl
  exact lv_if_gt h.1 h.2.1 hd ht (fun q => kt q H locs ls hP hS hl) (fun q => kf q H locs ls hP hS hl)
theorem k_if_le (h : Ok X o cc own nL R) {x : Int32} {off : Int} {tgt : Nat} (hd : decode cc pc = .ok (.ifCond .le off, 3)) (hn : pc + 3 = pc') (ht : (pc : Int) + off = (tgt : Int)) (kt : x ≤ 0 → Wk X o nL st tgt lv stk) (kf : ¬ x ≤ 0 → Wk X o nL st pc' lv stk) : Wk X o nL st pc lv (.int x :: stk) := by
  subst hn
  intro H locs ls hP hS hl
  exact lv_if_le h.1 h.2.1 hd ht (fun q => kt q H locs ls hP hS hl) (fun q => kf q H locs ls hP hS hl)
theorem k_icmp_eq (h : Ok X o cc own nL R) {x y : Int32} {off : Int} {tgt : Nat} (hd : decode cc pc = .ok (.if_icmp .eq off, 3)) (hn : pc + 3 = pc') (ht : (pc : Int) + off = (tgt : Int)) (kt : x = y → Wk X o nL st tgt lv stk) (kf : ¬ x = y → Wk X o nL st pc' lv stk) : Wk X o nL st pc lv (.int y :: .int x :: stk) := by
  subst hn
  intro H locs ls hP hS hl
  exact lv_icmp_eq h.1 h.2.1 hd ht (fun q => kt q H locs ls hP hS hl) (fun q => kf q H locs ls hP hS hl)
theorem k_icmp_ne (h : Ok X o cc own nL R) {x y : Int32} {off : Int} {tgt : Nat} (hd : decode cc pc = .ok (.if_icmp .ne off, 3)) (hn : pc + 3 = pc') (ht : (pc : Int) + off = (tgt : Int)) (kt : ¬ x = y → Wk X o nL st tgt lv stk) (kf : x = y → Wk X o nL st pc' lv stk) : Wk X o nL st pc lv (.int y :: .int x :: stk) := by
  subst hn
  intro H locs ls hP hS hl
  exact lv_icmp_ne h.1 h.2.1 hd ht (fun q => kt q H locs ls hP hS hl) (fun q => kf q H locs ls hP hS hl)
theorem k_icmp_lt (h : Ok X o cc own nL R) {x y : Int32} {off : Int} {tgt : Nat} (hd : decode cc pc = .ok (.if_icmp .lt off, 3)) (hn : pc + 3 = pc') (ht : (pc : Int) + off = (tgt : Int)) (kt : x < y → Wk X o nL st tgt lv stk) (kf : ¬ x < y → Wk X o nL st pc' lv stk) : Wk X o nL st pc lv (.int y :: .int x :: stk) := by
  subst hn
  intro H locs ls hP hS hl
  exact lv_icmp_lt h.1 h.2.1 hd ht (fun q => kt q H locs ls hP hS hl) (fun q => kf q H locs ls hP hS hl)
theorem k_icmp_ge (h : Ok X o cc own nL R) {x y : Int32} {off : Int} {tgt : Nat} (hd : decode cc pc = .ok (.if_icmp .ge off, 3)) (hn : pc + 3 = pc') (ht : (pc : Int) + off = (tgt : Int)) (kt : y ≤ x → Wk X o nL st tgt lv stk) (kf : ¬ y ≤ x → Wk X o nL st pc' lv stk) : Wk X o nL st pc lv (.int y :: .int x :: stk) := by
  subst hn
  intro H locs ls hP hS hl
  exact lv_icmp_ge h.1 h.2.1 hd ht (fun q => kt q H locs ls hP hS hl) (fun q => kf q H locs ls hP hS hl)
theorem k_icmp_gt (h : Ok X o cc own nL R) {x y : Int32} {off : Int} {tgt : Nat} (hd : decode cc pc = .ok (.if_icmp .gt off, 3)) (hn : pc + 3 = pc') (ht : (pc : Int) + off = (tgt : Int)) (kt : y < x → Wk X o nL st tgt lv stk) (kf : ¬ y < x → Wk X o nL st pc' lv stk) : Wk X o nL st pc lv (.int y :: .int x :: stk) := by
  subst hn
  intro H locs ls hP hS hl
  exact lv_icmp_gt h.1 h.2.1 hd ht (fun q => kt q H locs ls hP hS hl) (fun q => kf q H locs ls hP hS hl)
theorem k_icmp_le (h : Ok X o cc own nL R) {x y : Int32} {off : Int} {tgt : Nat} (hd : decode cc pc = .ok (.if_icmp .le off, 3)) (hn : pc + 3 = pc') (ht : (pc : Int) + off = (tgt : Int)) (kt : x ≤ y → Wk X o nL st tgt lv stk) (kf : ¬ x ≤ y → Wk X o nL st pc' lv stk) : Wk X o nL st pc lv (.int y :: .int x :: stk) := by
  subst hn
  intro H locs ls hP hS hl
  exact lv_icmp_le h.1 h.2.1 hd ht (fun q => kt q H locs ls hP hS hl) (fun q => kf q H locs ls hP hS hl)
theorem k_tout (h : Ok X o cc own nL R) {dflt lo hi : Int} {offs : Array Int} {len : Nat} {x : Int32} {tgt : Nat} (hd : decode cc pc = .ok (.tableswitch dflt lo hi offs, len)) (hx : x.toInt < lo ∨ hi < x.toInt) (ht : (pc : Int) + dflt = (tgt : Int)) (kk : Wk X o nL st tgt lv stk) : Wk X o nL st pc lv (.int x :: stk) := fun H locs ls hP hS hl => lv_tableOut h.1 h.2.1 hd hx ht (kk H locs ls hP hS hl)
theorem k_tin (h : Ok X o cc own nL R) {dflt lo hi : Int} {offs : Array Int} {len : Nat} {x : Int32} (z : Int) {off : Int} {tgt : Nat} (hd : decode cc pc = .ok (.tableswitch dflt lo hi offs, len)) (hx : x.toInt = z) (h1 : lo ≤ z) (h2 : z ≤ hi) (ho : offs[(z - lo).toNat]? = some off) (ht : (pc : Int) + off = (tgt : Int)) (kk : Wk X o nL st tgt lv stk) : Wk X o nL st pc lv (.int x :: stk) := fun H locs ls hP hS hl => lv_tableIn h.1 h.2.1 hd (by rw [hx]; omega) (by rw [hx]; omega) (by rw [hx]; exact ho) ht (kk H locs ls hP hS hl)
theorem k_lsw (h : Ok X o cc own nL R) {dflt : Int} {ps : Array (Int × Int)} {len : Nat} {x : Int32} {off : Int} {tgt : Nat} (hd : decode cc pc = .ok (.lookupswitch dflt ps, len)) (hp : (ps.toList.zip (ps.toList.drop 1)).all (fun (a, next) => a.1 < next.1) = true) (ho : Op.lookupswitch.offset ps.toList dflt x.toInt = off) (ht : (pc : Int) + off = (tgt : Int)) (kk : Wk X o nL st tgt lv stk) : Wk X o nL st pc lv (.int x :: stk) := fun H locs ls hP hS hl => lv_lookup h.1 h.2.1 hd hp ho ht (kk H locs ls hP hS hl)
/-! the heap -/
theorem k_iald (h : Ok X o cc own nL R) {k n : Nat} {i : Int32} (hd : decode cc pc = .ok (.iaload, 1)) (hn : pc + 1 = pc') (ha : isArr o k 0 n) (hi : inb i n = true) (kk : Wk X o nL st pc' lv (.int (st.1 k i.toNatClampNeg) :: stk)) : Wk X o nL st pc lv (.int i :: .ref (al o k) :: stk) := by
  subst hn
  intro H locs ls hP hS hl
  exact va_iald h.1 h.2.1 h.2.2.2.2.2.1 hP k 0 ((wd_get st ha.1).trans (by rw [ha.2])) rfl (inb_in hi) hd (kk H locs ls hP hS hl)
theorem k_bald (h : Ok X o cc own nL R) {k n : Nat} {i : Int32} (hd : decode cc pc = .ok (.baload, 1)) (hn : pc + 1 = pc') (ha : isArr o k 1 n) (hi : inb i n = true) (kk : Wk X o nL st pc' lv (.int (st.1 k i.toNatClampNeg) :: stk)) : Wk X o nL st pc lv (.int i :: .ref (al o k) :: stk) := by
  subst hn
  intro H locs ls hP hS hl
  exact va_bald h.1 h.2.1 h.2.2.2.2.2.1 hP k 1 ((wd_get st ha.1).trans (by rw [ha.2])) rfl (inb_in hi) hd (kk H locs ls hP hS hl)
theorem k_zald (h : Ok X o cc own nL R) {k n : Nat} {i : Int32} (hd : decode cc pc = .ok (.baload, 1)) (hn : pc + 1 = pc') (ha : isArr o k 2 n) (hi : inb i n = true) (kk : Wk X o nL st pc' lv (.int (st.1 k i.toNatClampNeg) :: stk)) : Wk X o nL st pc lv (.int i :: .ref (al o k) :: stk) := by
  subst hn
  intro H locs ls hP hS hl
  exact va_zald h.1 h.2.1 h.2.2.2.2.2.1 hP k 2 ((wd_get st ha.1).trans (by rw [ha.2])) rfl (inb_in hi) hd (kk H locs ls hP hS hl)
theorem k_aald (h : Ok X o cc own nL R) {k ty n a0 : Nat} {i : Int32} {tt : FieldType} (hd : decode cc pc = .ok (.aaload, 1)) (hn : pc + 1 = pc') (ha : isRef o k ty n a0) (ht : (tyG o)[ty]? = some (cy o ty, tt)) (hr : tt.isReference = true) (hi : inb i n = true) (kk : Wk X o nL st pc' lv (.ref (al o (a0 + i.toNatClampNeg)) :: stk)) : Wk X o nL st pc lv (.int i :: .ref (al o k) :: stk) := by
  subst hn
  intro H locs ls hP hS hl
  have hc := hP k _ ((wd_get st ha.1).trans (by rw [ha.2]))
  exact W.aald (v := .ref (al o (a0 + i.toNatClampNeg))) (ty := tt) h.1 h.2.1 hc ((h.2.2.2.2.2.1.2 ty _ ht).1 n (fun j => va_rf (some (al o (a0 + j))))) hr (fun q => by cases q) (by show ¬ (i < 0 ∨ (arrV _ _ _).slots.size ≤ _); rw [arrV_size]; exact inb_in hi) (by show (arrV _ _ _).slots[_]? = _; rw [arrV_read _ _ (inb_lt hi)]; rfl) rfl rfl hd (kk H locs ls hP hS hl)
theorem k_alen (h : Ok X o cc own nL R) {k ty n : Nat} {v : Int32} {tt : FieldType} (hd : decode cc pc = .ok (.arraylength, 1)) (hn : pc + 1 = pc') (ha : isArr o k ty n) (ht : (tyG o)[ty]? = some (cy o ty, tt)) (hv : Int32.ofNat n = v) (kk : Wk X o nL st pc' lv (.int v :: stk)) : Wk X o nL st pc lv (.ref (al o k) :: stk) := by
  subst hn
  intro H locs ls hP hS hl
  exact va_alen h.1 h.2.1 h.2.2.2.2.2.1 hP k ty ((wd_get st ha.1).trans (by rw [ha.2])) ht hv hd (kk H locs ls hP hS hl)
theorem k_seta {k ty n : Nat} {f : Nat → Int32} (ha : isArr o k ty n) : (wd o st).set k (al o k, .inl (cy o ty, n, .inl f)) = wd o (sA st k f) :=
  wd_set ha.1 (by rw [sA_k, ha.2]) (fun i hi => by rw [sA_n hi, sA_2])
theorem k_iast (h : Ok X o cc own nL R) {k n : Nat} {i x : Int32} (hd : decode cc pc = .ok (.iastore, 1)) (hn : pc + 1 = pc') (ha : isArr o k 0 n) (hi : inb i n = true) (kk : Wk X o nL (sA st k (upd (st.1 k) i.toNatClampNeg x)) pc' lv stk) : Wk X o nL st pc lv (.int x :: .int i :: .ref (al o k) :: stk) := by
  subst hn
  intro H locs ls hP hS hl
  exact va_iast h.1 h.2.1 h.2.2.2.2.2.1 hP (h.2.2.2.2.2.2.1 st) hS k 0 ((wd_get st ha.1).trans (by rw [ha.2])) rfl (inb_in hi) hd (fun H1 locs1 hP1 _ hS1 => kk H1 locs1 ls (by rw [← k_seta ha]; exact hP1) hS1 hl)
theorem k_bast (h : Ok X o cc own nL R) {k n : Nat} {i x : Int32} (hd : decode cc pc = .ok (.bastore, 1)) (hn : pc + 1 = pc') (ha : isArr o k 1 n) (hi : inb i n = true) (kk : Wk X o nL (sA st k (upd (st.1 k) i.toNatClampNeg (x.toInt8.toInt32))) pc' lv stk) : Wk X o nL st pc lv (.int x :: .int i :: .ref (al o k) :: stk) := by
  subst hn
  intro H locs ls hP hS hl
  exact va_bast h.1 h.2.1 h.2.2.2.2.2.1 hP (h.2.2.2.2.2.2.1 st) hS k 1 ((wd_get st ha.1).trans (by rw [ha.2])) rfl (inb_in hi) hd (fun H1 locs1 hP1 _ hS1 => kk H1 locs1 ls (by rw [← k_seta ha]; exact hP1) hS1 hl)
theorem k_zast (h : Ok X o cc own nL R) {k n : Nat} {i x : Int32} (hd : decode cc pc = .ok (.bastore, 1)) (hn : pc + 1 = pc') (ha : isArr o k 2 n) (hi : inb i n = true) (hb : vp_nar .boolean x = x) (kk : Wk X o nL (sA st k (upd (st.1 k) i.toNatClampNeg x)) pc' lv stk) : Wk X o nL st pc lv (.int x :: .int i :: .ref (al o k) :: stk) := by
  subst hn
  intro H locs ls hP hS hl
  exact va_zast h.1 h.2.1 h.2.2.2.2.2.1 hP (h.2.2.2.2.2.2.1 st) hS k 2 ((wd_get st ha.1).trans (by rw [ha.2])) rfl (inb_in hi) hd (fun H1 locs1 hP1 _ hS1 => kk H1 locs1 ls (by rw [← k_seta ha, ← hb]; exact hP1) hS1 hl)
theorem k_get (h : Ok X o cc own nL R) {k ci j idx : Nat} {F : (Nat → Int32) → (Nat → Int64) → List Value} {v : Value} (hd : decode cc pc = .ok (.getfield idx, 3)) (hn : pc + 3 = pc') (ho : isObj o k ci F) (hf : FL own idx ci j) (hv : (F (st.1 k) st.2)[j]? = some v) (kk : Wk X o nL st pc' lv (v :: stk)) : Wk X o nL st pc lv (.ref (al o k) :: stk) := by
  subst hn
  intro H locs ls hP hS hl
  obtain ⟨C, T, N, h1, h2, h3, h4⟩ := hf
  exact va_get h.1 h.2.1 h.2.2.2.2.1 h2 h.2.2.2.1 h.2.2.2.2.2.1 hP k ((wd_get st ho.1).trans (by rw [ho.2])) h1 j h3 (h.2.2.2.2.1 _ h4) (fun _ q => q) hv hd (kk H locs ls hP hS hl)
theorem k_seto {k ci j : Nat} {F : (Nat → Int32) → (Nat → Int64) → List Value} {v : Int32} (ho : isObj o k ci F) (hs : ∀ g t v, F (upd g j v) t = (F g t).set j (.int v)) : (wd o st).set k (al o k, .inr (ci, (F (st.1 k) st.2).set j (.int v))) = wd o (sA st k (upd (st.1 k) j v)) :=
  wd_set ho.1 (by rw [sA_k, sA_2, ho.2, hs]) (fun i hi => by rw [sA_n hi, sA_2])
theorem k_put (h : Ok X o cc own nL R) {k ci j idx : Nat} {F : (Nat → Int32) → (Nat → Int64) → List Value} {v : Int32} (hd : decode cc pc = .ok (.putfield idx, 3)) (hn : pc + 3 = pc') (ho : isObj o k ci F) (hf : FP own idx ci j .int) (hs : ∀ g t v, F (upd g j v) t = (F g t).set j (.int v)) (hj : ∀ g t, j < (F g t).length) (kk : Wk X o nL (sA st k (upd (st.1 k) j v)) pc' lv stk) : Wk X o nL st pc lv (.int v :: .ref (al o k) :: stk) := by
  subst hn
  intro H locs ls hP hS hl
  obtain ⟨C, T, N, ty0, h1, h2, h3, h4, h5, h6, h7, h8⟩ := hf
  exact va_put (v := .int v) h.1 h.2.1 h.2.2.2.2.1 h2 ty0 h5 h6 h.2.2.2.1 h.2.2.2.2.2.1 hP (h.2.2.2.2.2.2.1 st) hS k ((wd_get st ho.1).trans (by rw [ho.2])) h1 j h3 (h.2.2.2.2.1 _ h4) (fun _ q => q) h7 h8 rfl rfl (hj _ _) hd (fun H1 locs1 hP1 _ hS1 => kk H1 locs1 ls (by rw [← k_seto ho hs]; exact hP1) hS1 hl)
theorem k_putz (h : Ok X o cc own nL R) {k ci j idx : Nat} {F : (Nat → Int32) → (Nat → Int64) → List Value} {v : Int32} (hd : decode cc pc = .ok (.putfield idx, 3)) (hn : pc + 3 = pc') (ho : isObj o k ci F) (hf : FP own idx ci j .boolean) (hb : v = 0 ∨ v = 1) (hs : ∀ g t v, F (upd g j v) t = (F g t).set j (.int v)) (hj : ∀ g t, j < (F g t).length) (kk : Wk X o nL (sA st k (upd (st.1 k) j v)) pc' lv stk) : Wk X o nL st pc lv (.int v :: .ref (al o k) :: stk) := by
  subst hn
  intro H locs ls hP hS hl
  obtain ⟨C, T, N, ty0, h1, h2, h3, h4, h5, h6, h7, h8⟩ := hf
  exact va_put (v := .int v) h.1 h.2.1 h.2.2.2.2.1 h2 ty0 h5 h6 h.2.2.2.1 h.2.2.2.2.2.1 hP (h.2.2.2.2.2.2.1 st) hS k ((wd_get st ho.1).trans (by rw [ho.2])) h1 j h3 (h.2.2.2.2.1 _ h4) (fun _ q => q) h7 h8 (by rcases hb with rfl | rfl <;> rfl) (by rcases hb with rfl | rfl <;> rfl) (hj _ _) hd (fun H1 locs1 hP1 _ hS1 => kk H1 locs1 ls (by rw [← k_seto ho hs]; exact hP1) hS1 hl)
theorem k_setl {ci j i : Nat} {F : (Nat → Int32) → (Nat → Int64) → List Value} {v : Int64} (ho : isObj o 0 ci F) (hN : noL o) (hs : ∀ g t v, F g (vp_updL t i v) = (F g t).set j (.long v)) : (wd o st).set 0 (al o 0, .inr (ci, (F (st.1 0) st.2).set j (.long v))) = wd o (sL st i v) :=
  wd_set ho.1 (by rw [sL_1, sL_2, ho.2, hs]) (fun q hq => by rw [sL_1]; exact hN q _ _ _ hq)
theorem k_putl (h : Ok X o cc own nL R) {ci j i idx : Nat} {F : (Nat → Int32) → (Nat → Int64) → List Value} {v : Int64} (hd : decode cc pc = .ok (.putfield idx, 3)) (hn : pc + 3 = pc') (ho : isObj o 0 ci F) (hN : noL o) (hf : FP own idx ci j .long) (hs : ∀ g t v, F g (vp_updL t i v) = (F g t).set j (.long v)) (hj : ∀ g t, j < (F g t).length) (kk : Wk X o nL (sL st i v) pc' lv stk) : Wk X o nL st pc lv (.long v :: .ref (al o 0) :: stk) := by
  subst hn
  intro H locs ls hP hS hl
  obtain ⟨C, T, N, ty0, h1, h2, h3, h4, h5, h6, h7, h8⟩ := hf
  exact va_put (v := .long v) h.1 h.2.1 h.2.2.2.2.1 h2 ty0 h5 h6 h.2.2.2.1 h.2.2.2.2.2.1 hP (h.2.2.2.2.2.2.1 st) hS 0 ((wd_get st ho.1).trans (by rw [ho.2])) h1 j h3 (h.2.2.2.2.1 _ h4) (fun _ q => q) h7 h8 rfl rfl (hj _ _) hd (fun H1 locs1 hP1 _ hS1 => kk H1 locs1 ls (by rw [← k_setl ho hN hs]; exact hP1) hS1 hl)
/-! static arrays -/
theorem k_gets0 (h : Ok X o cc own nL R) {idx : Nat} (hd : decode cc pc = .ok (.getstatic idx, 3)) (hn : pc + 3 = pc') (hw : Cond.fieldLink own idx "TheUsual" "LETTERS" "[I" ∈ gtb) (kk : Wk X o nL st pc' lv (.ref (tl o 0) :: stk)) : Wk X o nL st pc lv stk := by
  subst hn
  intro H locs ls hP hS hl
  exact va_gets h.1 h.2.1 h.2.2.2.2.2.2.2.2.1.1 hS h.2.2.2.1 (h.2.2.2.2.1 _ hw) (fun _ q => q) hd (kk H locs ls hP hS hl)
theorem k_gets1 (h : Ok X o cc own nL R) {idx : Nat} (hd : decode cc pc = .ok (.getstatic idx, 3)) (hn : pc + 3 = pc') (hw : Cond.fieldLink own idx "TheUsual" "LEAST_FIGURES" "[I" ∈ gtb) (kk : Wk X o nL st pc' lv (.ref (tl o 1) :: stk)) : Wk X o nL st pc lv stk := by
  subst hn
  intro H locs ls hP hS hl
  exact va_gets h.1 h.2.1 h.2.2.2.2.2.2.2.2.1.2.2.1 hS h.2.2.2.1 (h.2.2.2.2.1 _ hw) (fun _ q => q) hd (kk H locs ls hP hS hl)
theorem k_gets2 (h : Ok X o cc own nL R) {idx : Nat} (hd : decode cc pc = .ok (.getstatic idx, 3)) (hn : pc + 3 = pc') (hw : Cond.fieldLink own idx "TheUsual" "GREATEST_FIGURES" "[I" ∈ gtb) (kk : Wk X o nL st pc' lv (.ref (tl o 2) :: stk)) : Wk X o nL st pc lv stk := by
  subst hn
  intro H locs ls hP hS hl
  exact va_gets h.1 h.2.1 h.2.2.2.2.2.2.2.2.1.2.2.2.2.1 hS h.2.2.2.1 (h.2.2.2.2.1 _ hw) (fun _ q => q) hd (kk H locs ls hP hS hl)
theorem k_tld0 (h : Ok X o cc own nL R) {i : Int32} (hd : decode cc pc = .ok (.iaload, 1)) (hn : pc + 1 = pc') (hi : inb i 6 = true) (kk : Wk X o nL st pc' lv (.int (tb0 i.toNatClampNeg) :: stk)) : Wk X o nL st pc lv (.int i :: .ref (tl o 0) :: stk) := by
  subst hn
  intro H locs ls hP hS hl
  exact va_ti h.1 h.2.1 h.2.2.2.2.2.2.2.2.1.2.1 hS (inb_in hi) rfl hd (kk H locs ls hP hS hl)
theorem k_tld1 (h : Ok X o cc own nL R) {i : Int32} (hd : decode cc pc = .ok (.iaload, 1)) (hn : pc + 1 = pc') (hi : inb i 6 = true) (kk : Wk X o nL st pc' lv (.int (tb1 i.toNatClampNeg) :: stk)) : Wk X o nL st pc lv (.int i :: .ref (tl o 1) :: stk) := by
  subst hn
  intro H locs ls hP hS hl
  exact va_ti h.1 h.2.1 h.2.2.2.2.2.2.2.2.1.2.2.2.1 hS (inb_in hi) rfl hd (kk H locs ls hP hS hl)
theorem k_tld2 (h : Ok X o cc own nL R) {i : Int32} (hd : decode cc pc = .ok (.iaload, 1)) (hn : pc + 1 = pc') (hi : inb i 6 = true) (kk : Wk X o nL st pc' lv (.int (tb2 i.toNatClampNeg) :: stk)) : Wk X o nL st pc lv (.int i :: .ref (tl o 2) :: stk) := by
  subst hn
  intro H locs ls hP hS hl
  exact va_ti h.1 h.2.1 h.2.2.2.2.2.2.2.2.1.2.2.2.2.2 hS (inb_in hi) rfl hd (kk H locs ls hP hS hl)
/-! returns -/
theorem k_iret (h : Ok X o cc own nL R) {P : Option Value → St → Prop} {x : Int32} (r : Rt X o P (some .int)) (hd : decode cc pc = .ok (.ireturn, 1)) (hp : P (some (.int x)) st) : Wk X o nL st pc lv [.int x] := by
  intro H locs ls hP hS hl
  obtain ⟨h1, h2, Qc, free, h3, h4, h5⟩ := r
  rw [h3]
  exact W.iret h.1 h.2.1 h1 (h5 H locs _ st hP hS hp) (fun q hq => h4 _ (hS.2.2 q hq)) hd h2
theorem k_zret (h : Ok X o cc own nL R) {P : Option Value → St → Prop} {x : Int32} (r : Rt X o P (some .boolean)) (hd : decode cc pc = .ok (.ireturn, 1)) (hb : x = 0 ∨ x = 1) (hp : P (some (.int x)) st) : Wk X o nL st pc lv [.int x] := by
  intro H locs ls hP hS hl
  obtain ⟨h1, h2, Qc, free, h3, h4, h5⟩ := r
  rw [h3]
  exact W.zret h.1 h.2.1 h1 (by rcases hb with rfl | rfl <;> rfl) (h5 H locs _ st hP hS hp) (fun q hq => h4 _ (hS.2.2 q hq)) hd h2
theorem k_lret (h : Ok X o cc own nL R) {P : Option Value → St → Prop} {x : Int64} (r : Rt X o P (some .long)) (hd : decode cc pc = .ok (.lreturn, 1)) (hp : P (some (.long x)) st) : Wk X o nL st pc lv [.long x] := by
  intro H locs ls hP hS hl
  obtain ⟨h1, h2, Qc, free, h3, h4, h5⟩ := r
  rw [h3]
  exact W.lret h.1 h.2.1 h1 (h5 H locs _ st hP hS hp) (fun q hq => h4 _ (hS.2.2 q hq)) hd h2
theorem k_vret (h : Ok X o cc own nL R) {P : Option Value → St → Prop} (r : Rt X o P none) (hd : decode cc pc = .ok (.return_, 1)) (hp : P none st) : Wk X o nL st pc lv [] := by
  intro H locs ls hP hS hl
  obtain ⟨h1, h2, Qc, free, h3, h4, h5⟩ := r
  rw [h3]
  exact W.vret h.1 h.2.1 h1 (h5 H locs _ st hP hS hp) (fun q hq => h4 _ (hS.2.2 q hq)) hd h2
end KR

