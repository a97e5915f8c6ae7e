/-! The rules of G: one an instruction (written by wip/mkrules.py) -/
section GR
variable {X : gX} {M : gM} {F L C S : Nat} {pc pc' tgt : Nat} {lv : List (Nat × Value)} {st : List Value} {ws : va_W} {Post : gO → va_W → Prop}
theorem g_iconst {n : Int} (v : Int32) (hd : gD M pc (.iconst n) 1 pc') (hv : Int32.ofInt n = v) (k : G X M F L C S pc' lv (.int v :: st) ws Post) : G X M F L C S pc lv st ws Post := by
  obtain ⟨hd, rfl⟩ := hd
  exact fun p e R s m args below meth c H locs kc ks ls I => lv_iconst I.x I.b hd hv (k p e R s m args below meth c H locs kc ks ls I)
theorem g_bipush {n : Int} (v : Int32) (hd : gD M pc (.bipush n) 2 pc') (hv : (Int8.ofInt n).toInt32 = v) (k : G X M F L C S pc' lv (.int v :: st) ws Post) : G X M F L C S pc lv st ws Post := by
  obtain ⟨hd, rfl⟩ := hd
  exact fun p e R s m args below meth c H locs kc ks ls I => lv_bipush I.x I.b hd hv (k p e R s m args below meth c H locs kc ks ls I)
theorem g_sipush {n : Int} (v : Int32) (hd : gD M pc (.sipush n) 3 pc') (hv : (Int16.ofInt n).toInt32 = v) (k : G X M F L C S pc' lv (.int v :: st) ws Post) : G X M F L C S pc lv st ws Post := by
  obtain ⟨hd, rfl⟩ := hd
  exact fun p e R s m args below meth c H locs kc ks ls I => lv_sipush I.x I.b hd hv (k p e R s m args below meth c H locs kc ks ls I)
theorem g_lconst {n : Fin 2} (v : Int64) (hd : gD M pc (.lconst n) 1 pc') (hv : Int64.ofNat (n : Nat) = v) (k : G X M F L C S pc' lv (.long v :: st) ws Post) : G X M F L C S pc lv st ws Post := by
  obtain ⟨hd, rfl⟩ := hd
  exact fun p e R s m args below meth c H locs kc ks ls I => lv_lconst I.x I.b hd hv (k p e R s m args below meth c H locs kc ks ls I)
theorem g_ldc_w {i : Nat} (v : Int32) (hd : gD M pc (.ldc_w i) 3 pc') (hw : Cond.constant M.y.cls i v ∈ gTW) (k : G X M F L C S pc' lv (.int v :: st) ws Post) : G X M F L C S pc lv st ws Post := by
  obtain ⟨hd, rfl⟩ := hd
  exact fun p e R s m args below meth c H locs kc ks ls I => lv_ldcw I.x I.b I.own (I.w args hw) hd (k p e R s m args below meth c H locs kc ks ls I)
theorem g_ldc {i : Nat} (v : Int32) (hd : gD M pc (.ldc i) 2 pc') (hw : Cond.constant M.y.cls i v ∈ gTW) (k : G X M F L C S pc' lv (.int v :: st) ws Post) : G X M F L C S pc lv st ws Post := by
  obtain ⟨hd, rfl⟩ := hd
  exact fun p e R s m args below meth c H locs kc ks ls I => lv_ldc I.x I.b I.own (I.w args hw) hd (k p e R s m args below meth c H locs kc ks ls I)
theorem g_iload_n {j : Fin 4} {x : Int32} (hd : gD M pc (.iload_n j) 1 pc') (hl : lv.lookup j.val = some (.int x)) (k : G X M F L C S pc' lv (.int x :: st) ws Post) : G X M F L C S pc lv st ws Post := by
  obtain ⟨hd, rfl⟩ := hd
  exact fun p e R s m args below meth c H locs kc ks ls I => lv_iload_n I.x I.b hd rfl (lget I.hl hl) (k p e R s m args below meth c H locs kc ks ls I)
theorem g_iload {i : Nat} {x : Int32} (hd : gD M pc (.iload i) 2 pc') (hl : lv.lookup i = some (.int x)) (k : G X M F L C S pc' lv (.int x :: st) ws Post) : G X M F L C S pc lv st ws Post := by
  obtain ⟨hd, rfl⟩ := hd
  exact fun p e R s m args below meth c H locs kc ks ls I => lv_iload I.x I.b hd (lget I.hl hl) (k p e R s m args below meth c H locs kc ks ls I)
theorem g_lload_n {j : Fin 4} {x : Int64} (hd : gD M pc (.lload_n j) 1 pc') (hl : lv.lookup j.val = some (.long x)) (k : G X M F L C S pc' lv (.long x :: st) ws Post) : G X M F L C S pc lv st ws Post := by
  obtain ⟨hd, rfl⟩ := hd
  exact fun p e R s m args below meth c H locs kc ks ls I => lv_lload_n I.x I.b hd rfl (lget I.hl hl) (k p e R s m args below meth c H locs kc ks ls I)
theorem g_lload {i : Nat} {x : Int64} (hd : gD M pc (.lload i) 2 pc') (hl : lv.lookup i = some (.long x)) (k : G X M F L C S pc' lv (.long x :: st) ws Post) : G X M F L C S pc lv st ws Post := by
  obtain ⟨hd, rfl⟩ := hd
  exact fun p e R s m args below meth c H locs kc ks ls I => lv_lload I.x I.b hd (lget I.hl hl) (k p e R s m args below meth c H locs kc ks ls I)
theorem g_aload_n {j : Fin 4} {x : Nat} (hd : gD M pc (.aload_n j) 1 pc') (hl : lv.lookup j.val = some (.ref x)) (k : G X M F L C S pc' lv (.ref x :: st) ws Post) : G X M F L C S pc lv st ws Post := by
  obtain ⟨hd, rfl⟩ := hd
  exact fun p e R s m args below meth c H locs kc ks ls I => lv_aload_n I.x I.b hd rfl (lget I.hl hl) (k p e R s m args below meth c H locs kc ks ls I)
theorem g_aload {i : Nat} {x : Nat} (hd : gD M pc (.aload i) 2 pc') (hl : lv.lookup i = some (.ref x)) (k : G X M F L C S pc' lv (.ref x :: st) ws Post) : G X M F L C S pc lv st ws Post := by
  obtain ⟨hd, rfl⟩ := hd
  exact fun p e R s m args below meth c H locs kc ks ls I => lv_aload I.x I.b hd (lget I.hl hl) (k p e R s m args below meth c H locs kc ks ls I)
theorem g_istore_n {j : Fin 4} {x : Int32} (hd : gD M pc (.istore_n j) 1 pc') (hn : j.val < M.maxL) (k : G X M F L C S pc' (lset j.val (.int x) lv) st ws Post) : G X M F L C S pc lv (.int x :: st) ws Post := by
  obtain ⟨hd, rfl⟩ := hd
  exact fun p e R s m args below meth c H locs kc ks ls I => lv_istore_n I.x I.b hd rfl I.hl hn rfl (fun ls' h => k p e R s m args below meth c H locs kc ks ls' (I.wl (lput1 rfl h)))
theorem g_istore {i : Nat} {x : Int32} (hd : gD M pc (.istore i) 2 pc') (hn : i < M.maxL) (k : G X M F L C S pc' (lset i (.int x) lv) st ws Post) : G X M F L C S pc lv (.int x :: st) ws Post := by
  obtain ⟨hd, rfl⟩ := hd
  exact fun p e R s m args below meth c H locs kc ks ls I => lv_istore I.x I.b hd I.hl hn rfl (fun ls' h => k p e R s m args below meth c H locs kc ks ls' (I.wl (lput1 rfl h)))
theorem g_lstore_n {j : Fin 4} {x : Int64} (hd : gD M pc (.lstore_n j) 1 pc') (hn : j.val + 1 < M.maxL) (k : G X M F L C S pc' (lset j.val (.long x) lv) st ws Post) : G X M F L C S pc lv (.long x :: st) ws Post := by
  obtain ⟨hd, rfl⟩ := hd
  exact fun p e R s m args below meth c H locs kc ks ls I => lv_lstore_n I.x I.b hd rfl I.hl hn rfl (fun ls' h => k p e R s m args below meth c H locs kc ks ls' (I.wl (lput2 rfl h)))
theorem g_lstore {i : Nat} {x : Int64} (hd : gD M pc (.lstore i) 2 pc') (hn : i + 1 < M.maxL) (k : G X M F L C S pc' (lset i (.long x) lv) st ws Post) : G X M F L C S pc lv (.long x :: st) ws Post := by
  obtain ⟨hd, rfl⟩ := hd
  exact fun p e R s m args below meth c H locs kc ks ls I => lv_lstore I.x I.b hd I.hl hn rfl (fun ls' h => k p e R s m args below meth c H locs kc ks ls' (I.wl (lput2 rfl h)))
theorem g_astore_n {j : Fin 4} {x : Nat} (hd : gD M pc (.astore_n j) 1 pc') (hn : j.val < M.maxL) (k : G X M F L C S pc' (lset j.val (.ref x) lv) st ws Post) : G X M F L C S pc lv (.ref x :: st) ws Post := by
  obtain ⟨hd, rfl⟩ := hd
  exact fun p e R s m args below meth c H locs kc ks ls I => lv_astore_n I.x I.b hd rfl I.hl hn rfl (fun ls' h => k p e R s m args below meth c H locs kc ks ls' (I.wl (lput1 rfl h)))
theorem g_astore {i : Nat} {x : Nat} (hd : gD M pc (.astore i) 2 pc') (hn : i < M.maxL) (k : G X M F L C S pc' (lset i (.ref x) lv) st ws Post) : G X M F L C S pc lv (.ref x :: st) ws Post := by
  obtain ⟨hd, rfl⟩ := hd
  exact fun p e R s m args below meth c H locs kc ks ls I => lv_astore I.x I.b hd I.hl hn rfl (fun ls' h => k p e R s m args below meth c H locs kc ks ls' (I.wl (lput1 rfl h)))
theorem g_iinc {i : Nat} {n : Int} {x : Int32} (v : Int32) (hd : gD M pc (.iinc i n) 3 pc') (hl : lv.lookup i = some (.int x)) (hv : x + Int32.ofInt n = v) (hn : i < M.maxL) (k : G X M F L C S pc' (lset i (.int v) lv) st ws Post) : G X M F L C S pc lv st ws Post := by
  obtain ⟨hd, rfl⟩ := hd
  obtain ⟨j, hj⟩ := List.getElem?_of_mem (lget_in hl)
  exact fun p e R s m args below meth c H locs kc ks ls I => lv_iinc (k := j) I.x I.b hd I.hl hj hv hn rfl (fun ls' h => k p e R s m args below meth c H locs kc ks ls' (I.wl (lput1 rfl h)))
theorem g_iadd {x y : Int32} (hd : gD M pc .iadd 1 pc') (k : G X M F L C S pc' lv (.int (x + y) :: st) ws Post) : G X M F L C S pc lv (.int y :: .int x :: st) ws Post := by
  obtain ⟨hd, rfl⟩ := hd
  exact fun p e R s m args below meth c H locs kc ks ls I => lv_iadd I.x I.b hd (k p e R s m args below meth c H locs kc ks ls I)
theorem g_isub {x y : Int32} (hd : gD M pc .isub 1 pc') (k : G X M F L C S pc' lv (.int (x - y) :: st) ws Post) : G X M F L C S pc lv (.int y :: .int x :: st) ws Post := by
  obtain ⟨hd, rfl⟩ := hd
  exact fun p e R s m args below meth c H locs kc ks ls I => lv_isub I.x I.b hd (k p e R s m args below meth c H locs kc ks ls I)
theorem g_imul {x y : Int32} (hd : gD M pc .imul 1 pc') (k : G X M F L C S pc' lv (.int (x * y) :: st) ws Post) : G X M F L C S pc lv (.int y :: .int x :: st) ws Post := by
  obtain ⟨hd, rfl⟩ := hd
  exact fun p e R s m args below meth c H locs kc ks ls I => lv_imul I.x I.b hd (k p e R s m args below meth c H locs kc ks ls I)
theorem g_iand {x y : Int32} (hd : gD M pc .iand 1 pc') (k : G X M F L C S pc' lv (.int (x &&& y) :: st) ws Post) : G X M F L C S pc lv (.int y :: .int x :: st) ws Post := by
  obtain ⟨hd, rfl⟩ := hd
  exact fun p e R s m args below meth c H locs kc ks ls I => lv_iand I.x I.b hd (k p e R s m args below meth c H locs kc ks ls I)
theorem g_ior {x y : Int32} (hd : gD M pc .ior 1 pc') (k : G X M F L C S pc' lv (.int (x ||| y) :: st) ws Post) : G X M F L C S pc lv (.int y :: .int x :: st) ws Post := by
  obtain ⟨hd, rfl⟩ := hd
  exact fun p e R s m args below meth c H locs kc ks ls I => lv_ior I.x I.b hd (k p e R s m args below meth c H locs kc ks ls I)
theorem g_ixor {x y : Int32} (hd : gD M pc .ixor 1 pc') (k : G X M F L C S pc' lv (.int (x ^^^ y) :: st) ws Post) : G X M F L C S pc lv (.int y :: .int x :: st) ws Post := by
  obtain ⟨hd, rfl⟩ := hd
  exact fun p e R s m args below meth c H locs kc ks ls I => lv_ixor I.x I.b hd (k p e R s m args below meth c H locs kc ks ls I)
theorem g_idiv {x y : Int32} (hd : gD M pc .idiv 1 pc') (hne : ¬ y = 0) (k : G X M F L C S pc' lv (.int (x / y) :: st) ws Post) : G X M F L C S pc lv (.int y :: .int x :: st) ws Post := by
  obtain ⟨hd, rfl⟩ := hd
  exact fun p e R s m args below meth c H locs kc ks ls I => lv_idiv I.x I.b hd hne (k p e R s m args below meth c H locs kc ks ls I)
theorem g_irem {x y : Int32} (hd : gD M pc .irem 1 pc') (hne : ¬ y = 0) (k : G X M F L C S pc' lv (.int (x - x / y * y) :: st) ws Post) : G X M F L C S pc lv (.int y :: .int x :: st) ws Post := by
  obtain ⟨hd, rfl⟩ := hd
  exact fun p e R s m args below meth c H locs kc ks ls I => lv_irem I.x I.b hd hne (k p e R s m args below meth c H locs kc ks ls I)
theorem g_ishl {x y : Int32} (hd : gD M pc .ishl 1 pc') (k : G X M F L C S pc' lv (.int (x <<< (y &&& 31)) :: st) ws Post) : G X M F L C S pc lv (.int y :: .int x :: st) ws Post := by
  obtain ⟨hd, rfl⟩ := hd
  exact fun p e R s m args below meth c H locs kc ks ls I => lv_ishl I.x I.b hd (k p e R s m args below meth c H locs kc ks ls I)
theorem g_ishr {x y : Int32} (hd : gD M pc .ishr 1 pc') (k : G X M F L C S pc' lv (.int (x >>> (y &&& 31)) :: st) ws Post) : G X M F L C S pc lv (.int y :: .int x :: st) ws Post := by
  obtain ⟨hd, rfl⟩ := hd
  exact fun p e R s m args below meth c H locs kc ks ls I => lv_ishr I.x I.b hd (k p e R s m args below meth c H locs kc ks ls I)
theorem g_ladd {x y : Int64} (hd : gD M pc .ladd 1 pc') (k : G X M F L C S pc' lv (.long (x + y) :: st) ws Post) : G X M F L C S pc lv (.long y :: .long x :: st) ws Post := by
  obtain ⟨hd, rfl⟩ := hd
  exact fun p e R s m args below meth c H locs kc ks ls I => lv_ladd I.x I.b hd (k p e R s m args below meth c H locs kc ks ls I)
theorem g_lsub {x y : Int64} (hd : gD M pc .lsub 1 pc') (k : G X M F L C S pc' lv (.long (x - y) :: st) ws Post) : G X M F L C S pc lv (.long y :: .long x :: st) ws Post := by
  obtain ⟨hd, rfl⟩ := hd
  exact fun p e R s m args below meth c H locs kc ks ls I => lv_lsub I.x I.b hd (k p e R s m args below meth c H locs kc ks ls I)
theorem g_lmul {x y : Int64} (hd : gD M pc .lmul 1 pc') (k : G X M F L C S pc' lv (.long (x * y) :: st) ws Post) : G X M F L C S pc lv (.long y :: .long x :: st) ws Post := by
  obtain ⟨hd, rfl⟩ := hd
  exact fun p e R s m args below meth c H locs kc ks ls I => lv_lmul I.x I.b hd (k p e R s m args below meth c H locs kc ks ls I)
theorem g_lcmp {x y : Int64} (hd : gD M pc .lcmp 1 pc') (k : G X M F L C S pc' lv (.int (lg_cmp x y) :: st) ws Post) : G X M F L C S pc lv (.long y :: .long x :: st) ws Post := by
  obtain ⟨hd, rfl⟩ := hd
  exact fun p e R s m args below meth c H locs kc ks ls I => W.lcmp I.x I.b hd (k p e R s m args below meth c H locs kc ks ls I)
theorem g_iushr {x y : Int32} (hd : gD M pc .iushr 1 pc') (k : G X M F L C S pc' lv (.int (x.toUInt32 >>> (y.toUInt32 &&& Int32.toUInt32 31)).toInt32 :: st) ws Post) : G X M F L C S pc lv (.int y :: .int x :: st) ws Post := by
  obtain ⟨hd, rfl⟩ := hd
  exact fun p e R s m args below meth c H locs kc ks ls I => lv_iushr I.x I.b hd rfl (k p e R s m args below meth c H locs kc ks ls I)
theorem g_i2l {x : Int32} (hd : gD M pc .i2l 1 pc') (k : G X M F L C S pc' lv (.long x.toInt64 :: st) ws Post) : G X M F L C S pc lv (.int x :: st) ws Post := by
  obtain ⟨hd, rfl⟩ := hd
  exact fun p e R s m args below meth c H locs kc ks ls I => lv_i2l I.x I.b hd rfl (k p e R s m args below meth c H locs kc ks ls I)
theorem g_ineg {x : Int32} (hd : gD M pc .ineg 1 pc') (k : G X M F L C S pc' lv (.int (-x) :: st) ws Post) : G X M F L C S pc lv (.int x :: st) ws Post := by
  obtain ⟨hd, rfl⟩ := hd
  exact fun p e R s m args below meth c H locs kc ks ls I => lv_ineg I.x I.b hd (k p e R s m args below meth c H locs kc ks ls I)
theorem g_dup {a : Value} (hd : gD M pc .dup 1 pc') (ha : a.category = 1) (k : G X M F L C S pc' lv (a :: a :: st) ws Post) : G X M F L C S pc lv (a :: st) ws Post := by
  obtain ⟨hd, rfl⟩ := hd
  exact fun p e R s m args below meth c H locs kc ks ls I => lv_dup I.x I.b hd ha (k p e R s m args below meth c H locs kc ks ls I)
theorem g_pop {a : Value} (hd : gD M pc .pop 1 pc') (ha : a.category = 1) (k : G X M F L C S pc' lv (st) ws Post) : G X M F L C S pc lv (a :: st) ws Post := by
  obtain ⟨hd, rfl⟩ := hd
  exact fun p e R s m args below meth c H locs kc ks ls I => lv_pop I.x I.b hd ha (k p e R s m args below meth c H locs kc ks ls I)
theorem g_dup_x1 {a b : Value} (hd : gD M pc .dup_x1 1 pc') (ha : a.category = 1) (hb : b.category = 1) (k : G X M F L C S pc' lv (a :: b :: a :: st) ws Post) : G X M F L C S pc lv (a :: b :: st) ws Post := by
  obtain ⟨hd, rfl⟩ := hd
  exact fun p e R s m args below meth c H locs kc ks ls I => lv_dup_x1 I.x I.b hd ha hb (k p e R s m args below meth c H locs kc ks ls I)
theorem g_dup_x2 {a b z : Value} (hd : gD M pc .dup_x2 1 pc') (ha : a.category = 1) (hb : b.category = 1) (hz : z.category = 1) (k : G X M F L C S pc' lv (a :: b :: z :: a :: st) ws Post) : G X M F L C S pc lv (a :: b :: z :: st) ws Post := by
  obtain ⟨hd, rfl⟩ := hd
  exact fun p e R s m args below meth c H locs kc ks ls I => lv_dup_x2 I.x I.b hd ha hb hz (k p e R s m args below meth c H locs kc ks ls I)
theorem g_dup2 {a b : Value} (hd : gD M pc .dup2 1 pc') (ha : a.category = 1) (hb : b.category = 1) (k : G X M F L C S pc' lv (a :: b :: a :: b :: st) ws Post) : G X M F L C S pc lv (a :: b :: st) ws Post := by
  obtain ⟨hd, rfl⟩ := hd
  exact fun p e R s m args below meth c H locs kc ks ls I => lv_dup2_11 I.x I.b hd ha hb (k p e R s m args below meth c H locs kc ks ls I)
theorem g_dup2L {a : Value} (hd : gD M pc .dup2 1 pc') (ha : a.category = 2) (k : G X M F L C S pc' lv (a :: a :: st) ws Post) : G X M F L C S pc lv (a :: st) ws Post := by
  obtain ⟨hd, rfl⟩ := hd
  exact fun p e R s m args below meth c H locs kc ks ls I => lv_dup2_2 I.x I.b hd ha (k p e R s m args below meth c H locs kc ks ls I)
theorem g_if_eq {x : Int32} {off : Int} (tgt : Nat) (hd : gD M pc (.ifCond .eq off) 3 pc') (ht : (pc : Int) + off = (tgt : Int)) (kt : x = 0 → G X M F L C S tgt lv st ws Post) (kf : ¬ x = 0 → G X M F L C S pc' lv st ws Post) : G X M F L C S pc lv (.int x :: st) ws Post := by
  obtain ⟨hd, rfl⟩ := hd
  exact fun p e R s m args below meth c H locs kc ks ls I => lv_if_eq I.x I.b hd ht (fun h => kt h p e R s m args below meth c H locs kc ks ls I) (fun h => kf h p e R s m args below meth c H locs kc ks ls I)
theorem g_icmp_eq {x y : Int32} {off : Int} (tgt : Nat) (hd : gD M pc (.if_icmp .eq off) 3 pc') (ht : (pc : Int) + off = (tgt : Int)) (kt : x = y → G X M F L C S tgt lv st ws Post) (kf : ¬ x = y → G X M F L C S pc' lv st ws Post) : G X M F L C S pc lv (.int y :: .int x :: st) ws Post := by
  obtain ⟨hd, rfl⟩ := hd
  exact fun p e R s m args below meth c H locs kc ks ls I => lv_icmp_eq I.x I.b hd ht (fun h => kt h p e R s m args below meth c H locs kc ks ls I) (fun h => kf h p e R s m args below meth c H locs kc ks ls I)
theorem g_if_ne {x : Int32} {off : Int} (tgt : Nat) (hd : gD M pc (.ifCond .ne off) 3 pc') (ht : (pc : Int) + off = (tgt : Int)) (kt : ¬ x = 0 → G X M F L C S tgt lv st ws Post) (kf : x = 0 → G X M F L C S pc' lv st ws Post) : G X M F L C S pc lv (.int x :: st) ws Post := by
  obtain ⟨hd, rfl⟩ := hd
  exact fun p e R s m args below meth c H locs kc ks ls I => lv_if_ne I.x I.b hd ht (fun h => kt h p e R s m args below meth c H locs kc ks ls I) (fun h => kf h p e R s m args below meth c H locs kc ks ls I)
theorem g_icmp_ne {x y : Int32} {off : Int} (tgt : Nat) (hd : gD M pc (.if_icmp .ne off) 3 pc') (ht : (pc : Int) + off = (tgt : Int)) (kt : ¬ x = y → G X M F L C S tgt lv st ws Post) (kf : x = y → G X M F L C S pc' lv st ws Post) : G X M F L C S pc lv (.int y :: .int x :: st) ws Post := by
  obtain ⟨hd, rfl⟩ := hd
  exact fun p e R s m args below meth c H locs kc ks ls I => lv_icmp_ne I.x I.b hd ht (fun h => kt h p e R s m args below meth c H locs kc ks ls I) (fun h => kf h p e R s m args below meth c H locs kc ks ls I)
theorem g_if_lt {x : Int32} {off : Int} (tgt : Nat) (hd : gD M pc (.ifCond .lt off) 3 pc') (ht : (pc : Int) + off = (tgt : Int)) (kt : x < 0 → G X M F L C S tgt lv st ws Post) (kf : ¬ x < 0 → G X M F L C S pc' lv st ws Post) : G X M F L C S pc lv (.int x :: st) ws Post := by
  obtain ⟨hd, rfl⟩ := hd
  exact fun p e R s m args below meth c H locs kc ks ls I => lv_if_lt I.x I.b hd ht (fun h => kt h p e R s m args below meth c H locs kc ks ls I) (fun h => kf h p e R s m args below meth c H locs kc ks ls I)
theorem g_icmp_lt {x y : Int32} {off : Int} (tgt : Nat) (hd : gD M pc (.if_icmp .lt off) 3 pc') (ht : (pc : Int) + off = (tgt : Int)) (kt : x < y → G X M F L C S tgt lv st ws Post) (kf : ¬ x < y → G X M F L C S pc' lv st ws Post) : G X M F L C S pc lv (.int y :: .int x :: st) ws Post := by
  obtain ⟨hd, rfl⟩ := hd
  exact fun p e R s m args below meth c H locs kc ks ls I => lv_icmp_lt I.x I.b hd ht (fun h => kt h p e R s m args below meth c H locs kc ks ls I) (fun h => kf h p e R s m args below meth c H locs kc ks ls I)
theorem g_if_ge {x : Int32} {off : Int} (tgt : Nat) (hd : gD M pc (.ifCond .ge off) 3 pc') (ht : (pc : Int) + off = (tgt : Int)) (kt : 0 ≤ x → G X M F L C S tgt lv st ws Post) (kf : ¬ 0 ≤ x → G X M F L C S pc' lv st ws Post) : G X M F L C S pc lv (.int x :: st) ws Post := by
  obtain ⟨hd, rfl⟩ := hd
  exact fun p e R s m args below meth c H locs kc ks ls I => lv_if_ge I.x I.b hd ht (fun h => kt h p e R s m args below meth c H locs kc ks ls I) (fun h => kf h p e R s m args below meth c H locs kc ks ls I)
theorem g_icmp_ge {x y : Int32} {off : Int} (tgt : Nat) (hd : gD M pc (.if_icmp .ge off) 3 pc') (ht : (pc : Int) + off = (tgt : Int)) (kt : y ≤ x → G X M F L C S tgt lv st ws Post) (kf : ¬ y ≤ x → G X M F L C S pc' lv st ws Post) : G X M F L C S pc lv (.int y :: .int x :: st) ws Post := by
  obtain ⟨hd, rfl⟩ := hd
  exact fun p e R s m args below meth c H locs kc ks ls I => lv_icmp_ge I.x I.b hd ht (fun h => kt h p e R s m args below meth c H locs kc ks ls I) (fun h => kf h p e R s m args below meth c H locs kc ks ls I)
theorem g_if_gt {x : Int32} {off : Int} (tgt : Nat) (hd : gD M pc (.ifCond .gt off) 3 pc') (ht : (pc : Int) + off = (tgt : Int)) (kt : 0 < x → G X M F L C S tgt lv st ws Post) (kf : ¬ 0 < x → G X M F L C S pc' lv st ws Post) : G X M F L C S pc lv (.int x :: st) ws Post := by
  obtain ⟨hd, rfl⟩ := hd
  exact fun p e R s m args below meth c H locs kc ks ls I => lv_if_gt I.x I.b hd ht (fun h => kt h p e R s m args below meth c H locs kc ks ls I) (fun h => kf h p e R s m args below meth c H locs kc ks ls I)
theorem g_icmp_gt {x y : Int32} {off : Int} (tgt : Nat) (hd : gD M pc (.if_icmp .gt off) 3 pc') (ht : (pc : Int) + off = (tgt : Int)) (kt : y < x → G X M F L C S tgt lv st ws Post) (kf : ¬ y < x → G X M F L C S pc' lv st ws Post) : G X M F L C S pc lv (.int y :: .int x :: st) ws Post := by
  obtain ⟨hd, rfl⟩ := hd
  exact fun p e R s m args below meth c H locs kc ks ls I => lv_icmp_gt I.x I.b hd ht (fun h => kt h p e R s m args below meth c H locs kc ks ls I) (fun h => kf h p e R s m args below meth c H locs kc ks ls I)
theorem g_if_le {x : Int32} {off : Int} (tgt : Nat) (hd : gD M pc (.ifCond .le off) 3 pc') (ht : (pc : Int) + off = (tgt : Int)) (kt : x ≤ 0 → G X M F L C S tgt lv st ws Post) (kf : ¬ x ≤ 0 → G X M F L C S pc' lv st ws Post) : G X M F L C S pc lv (.int x :: st) ws Post := by
  obtain ⟨hd, rfl⟩ := hd
  exact fun p e R s m args below meth c H locs kc ks ls I => lv_if_le I.x I.b hd ht (fun h => kt h p e R s m args below meth c H locs kc ks ls I) (fun h => kf h p e R s m args below meth c H locs kc ks ls I)
theorem g_icmp_le {x y : Int32} {off : Int} (tgt : Nat) (hd : gD M pc (.if_icmp .le off) 3 pc') (ht : (pc : Int) + off = (tgt : Int)) (kt : x ≤ y → G X M F L C S tgt lv st ws Post) (kf : ¬ x ≤ y → G X M F L C S pc' lv st ws Post) : G X M F L C S pc lv (.int y :: .int x :: st) ws Post := by
  obtain ⟨hd, rfl⟩ := hd
  exact fun p e R s m args below meth c H locs kc ks ls I => lv_icmp_le I.x I.b hd ht (fun h => kt h p e R s m args below meth c H locs kc ks ls I) (fun h => kf h p e R s m args below meth c H locs kc ks ls I)
theorem g_goto {off : Int} (tgt : Nat) (hd : gD M pc (.goto off) 3 pc') (ht : (pc : Int) + off = (tgt : Int)) (k : G X M F L C S tgt lv st ws Post) : G X M F L C S pc lv st ws Post := by
  obtain ⟨hd, rfl⟩ := hd
  exact fun p e R s m args below meth c H locs kc ks ls I => lv_goto I.x I.b hd ht (k p e R s m args below meth c H locs kc ks ls I)
theorem g_tabOut {x : Int32} {dflt lo hi : Int} {offs : Array Int} {n : Nat} (tgt : Nat) (hd : gD M pc (.tableswitch dflt lo hi offs) n pc') (h : x.toInt < lo ∨ hi < x.toInt) (ht : (pc : Int) + dflt = (tgt : Int)) (k : G X M F L C S tgt lv st ws Post) : G X M F L C S pc lv (.int x :: st) ws Post := by
  obtain ⟨hd, rfl⟩ := hd
  exact fun p e R s m args below meth c H locs kc ks ls I => lv_tableOut I.x I.b hd h ht (k p e R s m args below meth c H locs kc ks ls I)
theorem g_tabIn {x : Int32} {dflt lo hi off : Int} {offs : Array Int} {n : Nat} (tgt : Nat) (hd : gD M pc (.tableswitch dflt lo hi offs) n pc') (h1 : ¬ x.toInt < lo) (h2 : ¬ hi < x.toInt) (ho : offs[(x.toInt - lo).toNat]? = some off) (ht : (pc : Int) + off = (tgt : Int)) (k : G X M F L C S tgt lv st ws Post) : G X M F L C S pc lv (.int x :: st) ws Post := by
  obtain ⟨hd, rfl⟩ := hd
  exact fun p e R s m args below meth c H locs kc ks ls I => lv_tableIn I.x I.b hd h1 h2 ho ht (k p e R s m args below meth c H locs kc ks ls I)
theorem g_sel (is : List Nat) {lv' : List (Nat × Value)} (h : lsel lv is = lv') (k : G X M F L C S pc lv' st ws Post) : G X M F L C S pc lv st ws Post :=
  fun p e R s m args below meth c H locs kc ks ls I => k p e R s m args below meth c H locs kc ks ls (I.wl (lsel_has I.hl is h))
theorem g_post {Post' : gO → va_W → Prop} (h : ∀ r w, Post' r w → Post r w) (k : G X M F L C S pc lv st ws Post') : G X M F L C S pc lv st ws Post :=
  fun p e R s m args below meth c H locs kc ks ls I => W.mono (fun t ⟨o, r, w, a1, a2, a3, a4, a5⟩ => ⟨o, r, w, a1, a2, a3, h r w a4, a5⟩) (k p e R s m args below meth c H locs kc ks ls I)
theorem g_less {F' L' C' S' : Nat} (hF : F' ≤ F) (hL : L' ≤ L) (hC : C' ≤ C) (hS : S' ≤ S) (k : G X M F' L' C' S' pc lv st ws Post) : G X M F L C S pc lv st ws Post :=
  fun p e R s m args below meth c H locs kc ks ls I => k p e R s m args below meth c H locs kc ks ls ⟨I.1, ⟨Nat.le_trans hF I.2.1.1, Nat.le_trans hL I.2.1.2.1, Nat.le_trans (Nat.add_le_add_left hC _) I.2.1.2.2.1, Nat.le_trans (Nat.add_le_add_left hS _) I.2.1.2.2.2⟩, I.2.2⟩
theorem gE.ret {below : List Frame} {args : Array Value} {s : State} {R : Room} {H : Heap} {locs : List Loc} {p : Program} {m : MethodId} {meth : Method} {c : Code} {kc ks : Nat} {ls : Array Slot} {v : Option Value} (I : gI X M F L C S lv ws p R s m meth c H locs kc ks ls) (hp : Post (.inl v) ws) :
    ∀ t, MQ below (fun _ _ o t => o = .returned v ∧ t.heap = H) args s R.cells R.slots (gA X s) t → gE X below s R Post t := by
  rintro t ⟨o, h1, h2, ⟨rfl, h3⟩, Ls, ⟨-, h4, h5⟩, h6⟩
  exact ⟨_, .inl v, ws, h1, h2, rfl, hp, by rw [h3]; exact I.P, I.dd.weaken (fun _ _ _ h => h.1), Ls, h4, h5, by rw [h3]; exact ⟨I.sS.1, I.sS.2.1, h6⟩⟩
theorem g_iret {v : Int32} (hd : gD M pc .ireturn 1 pc') (hr : M.ret = some .int) (hp : Post (.inl (some (.int v))) ws) : G X M F L C S pc lv [.int v] ws Post := by
  obtain ⟨hd, -⟩ := hd
  intro p e R s m args below meth c H locs kc ks ls I
  have hlocks := I.lk
  refine W.mono (gE.ret (args := args) I hp) (W.widen (k := R.cells) (n := R.slots) (by have := I.2.1.2.2.1; omega) (by have := I.2.1.2.2.2; omega) ?_)
  exact W.iret I.x I.b (I.r.trans hr) (fun t ht _ => ⟨rfl, ht⟩) I.sS.2.2 hd hlocks
theorem g_lret {v : Int64} (hd : gD M pc .lreturn 1 pc') (hr : M.ret = some .long) (hp : Post (.inl (some (.long v))) ws) : G X M F L C S pc lv [.long v] ws Post := by
  obtain ⟨hd, -⟩ := hd
  intro p e R s m args below meth c H locs kc ks ls I
  have hlocks := I.lk
  refine W.mono (gE.ret (args := args) I hp) (W.widen (k := R.cells) (n := R.slots) (by have := I.2.1.2.2.1; omega) (by have := I.2.1.2.2.2; omega) ?_)
  exact W.lret I.x I.b (I.r.trans hr) (fun t ht _ => ⟨rfl, ht⟩) I.sS.2.2 hd hlocks
theorem g_zret {v : Int32} (hz : v = 0 ∨ v = 1) (hd : gD M pc .ireturn 1 pc') (hr : M.ret = some .boolean) (hp : Post (.inl (some (.int v))) ws) : G X M F L C S pc lv [.int v] ws Post := by
  obtain ⟨hd, -⟩ := hd
  intro p e R s m args below meth c H locs kc ks ls I
  have hlocks := I.lk
  refine W.mono (gE.ret (args := args) I hp) (W.widen (k := R.cells) (n := R.slots) (by have := I.2.1.2.2.1; omega) (by have := I.2.1.2.2.2; omega) ?_)
  exact W.zret I.x I.b (I.r.trans hr) (by rcases hz with rfl | rfl <;> decide +kernel) (fun t ht _ => ⟨rfl, ht⟩) I.sS.2.2 hd hlocks
theorem g_vret (hd : gD M pc .return_ 1 pc') (hr : M.ret = none) (hp : Post (.inl none) ws) : G X M F L C S pc lv [] ws Post := by
  obtain ⟨hd, -⟩ := hd
  intro p e R s m args below meth c H locs kc ks ls I
  have hlocks := I.lk
  refine W.mono (gE.ret (args := args) I hp) (W.widen (k := R.cells) (n := R.slots) (by have := I.2.1.2.2.1; omega) (by have := I.2.1.2.2.2; omega) ?_)
  exact W.vret I.x I.b (I.r.trans hr) (fun t ht _ => ⟨rfl, ht⟩) I.sS.2.2 hd hlocks
end GR
