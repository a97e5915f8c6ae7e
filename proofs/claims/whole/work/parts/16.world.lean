/-! Worlds of 95 cells, by their places: the cell at place k lies at a k and is c k. Rules over them (written by wip/mkw.py) -/
def wl (a : Nat → Nat) (c : Nat → va_E) : va_W := (List.range 95).map (fun k => (a k, c k))
theorem wl_get {a : Nat → Nat} {c : Nat → va_E} {q : Nat} {e : va_E} (hq : q < 95) (he : c q = e) : (wl a c)[q]? = some (a q, e) := by
  rw [← he]
  simp [wl, hq]
theorem wl_set {a : Nat → Nat} {c : Nat → va_E} {q : Nat} {e : va_E} : (wl a c).set q (a q, e) = wl a (va_up c q e) := by
  apply List.ext_getElem?
  intro i
  by_cases hi : i = q
  · subst hi
    by_cases h : i < 95
    · simp [wl, List.getElem?_set, h, va_up]
    · simp [wl, List.getElem?_set, h]
  · rw [List.getElem?_set_ne (fun z => hi z.symm)]
    by_cases h : i < 95
    · simp [wl, h, va_up, hi]
    · simp [wl, h]
def wP (a : Nat → Nat) (Post : gO → (Nat → va_E) → Prop) : gO → va_W → Prop := fun r w => ∃ c, w = wl a c ∧ Post r c
def GW (X : gX) (a : Nat → Nat) (M : gM) (F L C S : Nat) (pc : Nat) (lv : List (Nat × Value)) (st : List Value) (c : Nat → va_E) (Post : gO → (Nat → va_E) → Prop) : Prop := G X M F L C S pc lv st (wl a c) (wP a Post)
section GWR
variable {X : gX} {a : Nat → Nat} {M M' : gM} {F L C S F' L' C' S' : Nat} {pc pc' tgt : Nat} {lv : List (Nat × Value)} {st stk : List Value} {c : Nat → va_E} {Post : gO → (Nat → va_E) → Prop}
theorem w_iconst {n : Int} (v : Int32) (hd : gD M pc (.iconst n) 1 pc') (hv : Int32.ofInt n = v) (k : GW X a M F L C S pc' lv (.int v :: st) c Post) : GW X a M F L C S pc lv st c Post := g_iconst v hd hv k
theorem w_bipush {n : Int} (v : Int32) (hd : gD M pc (.bipush n) 2 pc') (hv : (Int8.ofInt n).toInt32 = v) (k : GW X a M F L C S pc' lv (.int v :: st) c Post) : GW X a M F L C S pc lv st c Post := g_bipush v hd hv k
theorem w_sipush {n : Int} (v : Int32) (hd : gD M pc (.sipush n) 3 pc') (hv : (Int16.ofInt n).toInt32 = v) (k : GW X a M F L C S pc' lv (.int v :: st) c Post) : GW X a M F L C S pc lv st c Post := g_sipush v hd hv k
theorem w_lconst {n : Fin 2} (v : Int64) (hd : gD M pc (.lconst n) 1 pc') (hv : Int64.ofNat (n : Nat) = v) (k : GW X a M F L C S pc' lv (.long v :: st) c Post) : GW X a M F L C S pc lv st c Post := g_lconst v hd hv k
theorem w_ldc_w {i : Nat} (v : Int32) (hd : gD M pc (.ldc_w i) 3 pc') (hw : Cond.constant M.y.cls i v ∈ gTW) (k : GW X a M F L C S pc' lv (.int v :: st) c Post) : GW X a M F L C S pc lv st c Post := g_ldc_w v hd hw k
theorem w_ldc {i : Nat} (v : Int32) (hd : gD M pc (.ldc i) 2 pc') (hw : Cond.constant M.y.cls i v ∈ gTW) (k : GW X a M F L C S pc' lv (.int v :: st) c Post) : GW X a M F L C S pc lv st c Post := g_ldc v hd hw k
theorem w_iload_n {j : Fin 4} {x : Int32} (hd : gD M pc (.iload_n j) 1 pc') (hl : lv.lookup j.val = some (.int x)) (k : GW X a M F L C S pc' lv (.int x :: st) c Post) : GW X a M F L C S pc lv st c Post := g_iload_n hd hl k
theorem w_iload {i : Nat} {x : Int32} (hd : gD M pc (.iload i) 2 pc') (hl : lv.lookup i = some (.int x)) (k : GW X a M F L C S pc' lv (.int x :: st) c Post) : GW X a M F L C S pc lv st c Post := g_iload hd hl k
theorem w_lload_n {j : Fin 4} {x : Int64} (hd : gD M pc (.lload_n j) 1 pc') (hl : lv.lookup j.val = some (.long x)) (k : GW X a M F L C S pc' lv (.long x :: st) c Post) : GW X a M F L C S pc lv st c Post := g_lload_n hd hl k
theorem w_lload {i : Nat} {x : Int64} (hd : gD M pc (.lload i) 2 pc') (hl : lv.lookup i = some (.long x)) (k : GW X a M F L C S pc' lv (.long x :: st) c Post) : GW X a M F L C S pc lv st c Post := g_lload hd hl k
theorem w_aload_n {j : Fin 4} {x : Nat} (hd : gD M pc (.aload_n j) 1 pc') (hl : lv.lookup j.val = some (.ref x)) (k : GW X a M F L C S pc' lv (.ref x :: st) c Post) : GW X a M F L C S pc lv st c Post := g_aload_n hd hl k
theorem w_aload {i : Nat} {x : Nat} (hd : gD M pc (.aload i) 2 pc') (hl : lv.lookup i = some (.ref x)) (k : GW X a M F L C S pc' lv (.ref x :: st) c Post) : GW X a M F L C S pc lv st c Post := g_aload hd hl k
theorem w_istore_n {j : Fin 4} {x : Int32} (hd : gD M pc (.istore_n j) 1 pc') (hn : j.val < M.maxL) (k : GW X a M F L C S pc' (lset j.val (.int x) lv) st c Post) : GW X a M F L C S pc lv (.int x :: st) c Post := g_istore_n hd hn k
theorem w_istore {i : Nat} {x : Int32} (hd : gD M pc (.istore i) 2 pc') (hn : i < M.maxL) (k : GW X a M F L C S pc' (lset i (.int x) lv) st c Post) : GW X a M F L C S pc lv (.int x :: st) c Post := g_istore hd hn k
theorem w_lstore_n {j : Fin 4} {x : Int64} (hd : gD M pc (.lstore_n j) 1 pc') (hn : j.val + 1 < M.maxL) (k : GW X a M F L C S pc' (lset j.val (.long x) lv) st c Post) : GW X a M F L C S pc lv (.long x :: st) c Post := g_lstore_n hd hn k
theorem w_lstore {i : Nat} {x : Int64} (hd : gD M pc (.lstore i) 2 pc') (hn : i + 1 < M.maxL) (k : GW X a M F L C S pc' (lset i (.long x) lv) st c Post) : GW X a M F L C S pc lv (.long x :: st) c Post := g_lstore hd hn k
theorem w_astore_n {j : Fin 4} {x : Nat} (hd : gD M pc (.astore_n j) 1 pc') (hn : j.val < M.maxL) (k : GW X a M F L C S pc' (lset j.val (.ref x) lv) st c Post) : GW X a M F L C S pc lv (.ref x :: st) c Post := g_astore_n hd hn k
theorem w_astore {i : Nat} {x : Nat} (hd : gD M pc (.astore i) 2 pc') (hn : i < M.maxL) (k : GW X a M F L C S pc' (lset i (.ref x) lv) st c Post) : GW X a M F L C S pc lv (.ref x :: st) c Post := g_astore hd hn k
theorem w_iinc {i : Nat} {n : Int} {x : Int32} (v : Int32) (hd : gD M pc (.iinc i n) 3 pc') (hl : lv.lookup i = some (.int x)) (hv : x + Int32.ofInt n = v) (hn : i < M.maxL) (k : GW X a M F L C S pc' (lset i (.int v) lv) st c Post) : GW X a M F L C S pc lv st c Post := g_iinc v hd hl hv hn k
theorem w_iadd {x y : Int32} (hd : gD M pc .iadd 1 pc') (k : GW X a M F L C S pc' lv (.int (x + y) :: st) c Post) : GW X a M F L C S pc lv (.int y :: .int x :: st) c Post := g_iadd hd k
theorem w_isub {x y : Int32} (hd : gD M pc .isub 1 pc') (k : GW X a M F L C S pc' lv (.int (x - y) :: st) c Post) : GW X a M F L C S pc lv (.int y :: .int x :: st) c Post := g_isub hd k
theorem w_imul {x y : Int32} (hd : gD M pc .imul 1 pc') (k : GW X a M F L C S pc' lv (.int (x * y) :: st) c Post) : GW X a M F L C S pc lv (.int y :: .int x :: st) c Post := g_imul hd k
theorem w_iand {x y : Int32} (hd : gD M pc .iand 1 pc') (k : GW X a M F L C S pc' lv (.int (x &&& y) :: st) c Post) : GW X a M F L C S pc lv (.int y :: .int x :: st) c Post := g_iand hd k
theorem w_ior {x y : Int32} (hd : gD M pc .ior 1 pc') (k : GW X a M F L C S pc' lv (.int (x ||| y) :: st) c Post) : GW X a M F L C S pc lv (.int y :: .int x :: st) c Post := g_ior hd k
theorem w_ixor {x y : Int32} (hd : gD M pc .ixor 1 pc') (k : GW X a M F L C S pc' lv (.int (x ^^^ y) :: st) c Post) : GW X a M F L C S pc lv (.int y :: .int x :: st) c Post := g_ixor hd k
theorem w_idiv {x y : Int32} (hd : gD M pc .idiv 1 pc') (hne : ¬ y = 0) (k : GW X a M F L C S pc' lv (.int (x / y) :: st) c Post) : GW X a M F L C S pc lv (.int y :: .int x :: st) c Post := g_idiv hd hne k
theorem w_irem {x y : Int32} (hd : gD M pc .irem 1 pc') (hne : ¬ y = 0) (k : GW X a M F L C S pc' lv (.int (x - x / y * y) :: st) c Post) : GW X a M F L C S pc lv (.int y :: .int x :: st) c Post := g_irem hd hne k
theorem w_ishl {x y : Int32} (hd : gD M pc .ishl 1 pc') (k : GW X a M F L C S pc' lv (.int (x <<< (y &&& 31)) :: st) c Post) : GW X a M F L C S pc lv (.int y :: .int x :: st) c Post := g_ishl hd k
theorem w_ishr {x y : Int32} (hd : gD M pc .ishr 1 pc') (k : GW X a M F L C S pc' lv (.int (x >>> (y &&& 31)) :: st) c Post) : GW X a M F L C S pc lv (.int y :: .int x :: st) c Post := g_ishr hd k
theorem w_ladd {x y : Int64} (hd : gD M pc .ladd 1 pc') (k : GW X a M F L C S pc' lv (.long (x + y) :: st) c Post) : GW X a M F L C S pc lv (.long y :: .long x :: st) c Post := g_ladd hd k
theorem w_lsub {x y : Int64} (hd : gD M pc .lsub 1 pc') (k : GW X a M F L C S pc' lv (.long (x - y) :: st) c Post) : GW X a M F L C S pc lv (.long y :: .long x :: st) c Post := g_lsub hd k
theorem w_lmul {x y : Int64} (hd : gD M pc .lmul 1 pc') (k : GW X a M F L C S pc' lv (.long (x * y) :: st) c Post) : GW X a M F L C S pc lv (.long y :: .long x :: st) c Post := g_lmul hd k
theorem w_lcmp {x y : Int64} (hd : gD M pc .lcmp 1 pc') (k : GW X a M F L C S pc' lv (.int (lg_cmp x y) :: st) c Post) : GW X a M F L C S pc lv (.long y :: .long x :: st) c Post := g_lcmp hd k
theorem w_iushr {x y : Int32} (hd : gD M pc .iushr 1 pc') (k : GW X a M F L C S pc' lv (.int (x.toUInt32 >>> (y.toUInt32 &&& Int32.toUInt32 31)).toInt32 :: st) c Post) : GW X a M F L C S pc lv (.int y :: .int x :: st) c Post := g_iushr hd k
theorem w_i2l {x : Int32} (hd : gD M pc .i2l 1 pc') (k : GW X a M F L C S pc' lv (.long x.toInt64 :: st) c Post) : GW X a M F L C S pc lv (.int x :: st) c Post := g_i2l hd k
theorem w_ineg {x : Int32} (hd : gD M pc .ineg 1 pc') (k : GW X a M F L C S pc' lv (.int (-x) :: st) c Post) : GW X a M F L C S pc lv (.int x :: st) c Post := g_ineg hd k
theorem w_dup {u : Value} (hd : gD M pc .dup 1 pc') (ha : u.category = 1) (k : GW X a M F L C S pc' lv (u :: u :: st) c Post) : GW X a M F L C S pc lv (u :: st) c Post := g_dup hd ha k
theorem w_pop {u : Value} (hd : gD M pc .pop 1 pc') (ha : u.category = 1) (k : GW X a M F L C S pc' lv (st) c Post) : GW X a M F L C S pc lv (u :: st) c Post := g_pop hd ha k
theorem w_dup_x1 {u b : Value} (hd : gD M pc .dup_x1 1 pc') (ha : u.category = 1) (hb : b.category = 1) (k : GW X a M F L C S pc' lv (u :: b :: u :: st) c Post) : GW X a M F L C S pc lv (u :: b :: st) c Post := g_dup_x1 hd ha hb k
theorem w_dup_x2 {u b z : Value} (hd : gD M pc .dup_x2 1 pc') (ha : u.category = 1) (hb : b.category = 1) (hz : z.category = 1) (k : GW X a M F L C S pc' lv (u :: b :: z :: u :: st) c Post) : GW X a M F L C S pc lv (u :: b :: z :: st) c Post := g_dup_x2 hd ha hb hz k
theorem w_dup2 {u b : Value} (hd : gD M pc .dup2 1 pc') (ha : u.category = 1) (hb : b.category = 1) (k : GW X a M F L C S pc' lv (u :: b :: u :: b :: st) c Post) : GW X a M F L C S pc lv (u :: b :: st) c Post := g_dup2 hd ha hb k
theorem w_dup2L {u : Value} (hd : gD M pc .dup2 1 pc') (ha : u.category = 2) (k : GW X a M F L C S pc' lv (u :: u :: st) c Post) : GW X a M F L C S pc lv (u :: st) c Post := g_dup2L hd ha k
theorem w_if_eq {x : Int32} {off : Int} (tgt : Nat) (hd : gD M pc (.ifCond .eq off) 3 pc') (ht : (pc : Int) + off = (tgt : Int)) (kt : x = 0 → GW X a M F L C S tgt lv st c Post) (kf : ¬ x = 0 → GW X a M F L C S pc' lv st c Post) : GW X a M F L C S pc lv (.int x :: st) c Post := g_if_eq tgt hd ht kt kf
theorem w_icmp_eq {x y : Int32} {off : Int} (tgt : Nat) (hd : gD M pc (.if_icmp .eq off) 3 pc') (ht : (pc : Int) + off = (tgt : Int)) (kt : x = y → GW X a M F L C S tgt lv st c Post) (kf : ¬ x = y → GW X a M F L C S pc' lv st c Post) : GW X a M F L C S pc lv (.int y :: .int x :: st) c Post := g_icmp_eq tgt hd ht kt kf
theorem w_if_ne {x : Int32} {off : Int} (tgt : Nat) (hd : gD M pc (.ifCond .ne off) 3 pc') (ht : (pc : Int) + off = (tgt : Int)) (kt : ¬ x = 0 → GW X a M F L C S tgt lv st c Post) (kf : x = 0 → GW X a M F L C S pc' lv st c Post) : GW X a M F L C S pc lv (.int x :: st) c Post := g_if_ne tgt hd ht kt kf
theorem w_icmp_ne {x y : Int32} {off : Int} (tgt : Nat) (hd : gD M pc (.if_icmp .ne off) 3 pc') (ht : (pc : Int) + off = (tgt : Int)) (kt : ¬ x = y → GW X a M F L C S tgt lv st c Post) (kf : x = y → GW X a M F L C S pc' lv st c Post) : GW X a M F L C S pc lv (.int y :: .int x :: st) c Post := g_icmp_ne tgt hd ht kt kf
theorem w_if_lt {x : Int32} {off : Int} (tgt : Nat) (hd : gD M pc (.ifCond .lt off) 3 pc') (ht : (pc : Int) + off = (tgt : Int)) (kt : x < 0 → GW X a M F L C S tgt lv st c Post) (kf : ¬ x < 0 → GW X a M F L C S pc' lv st c Post) : GW X a M F L C S pc lv (.int x :: st) c Post := g_if_lt tgt hd ht kt kf
theorem w_icmp_lt {x y : Int32} {off : Int} (tgt : Nat) (hd : gD M pc (.if_icmp .lt off) 3 pc') (ht : (pc : Int) + off = (tgt : Int)) (kt : x < y → GW X a M F L C S tgt lv st c Post) (kf : ¬ x < y → GW X a M F L C S pc' lv st c Post) : GW X a M F L C S pc lv (.int y :: .int x :: st) c Post := g_icmp_lt tgt hd ht kt kf
theorem w_if_ge {x : Int32} {off : Int} (tgt : Nat) (hd : gD M pc (.ifCond .ge off) 3 pc') (ht : (pc : Int) + off = (tgt : Int)) (kt : 0 ≤ x → GW X a M F L C S tgt lv st c Post) (kf : ¬ 0 ≤ x → GW X a M F L C S pc' lv st c Post) : GW X a M F L C S pc lv (.int x :: st) c Post := g_if_ge tgt hd ht kt kf
theorem w_icmp_ge {x y : Int32} {off : Int} (tgt : Nat) (hd : gD M pc (.if_icmp .ge off) 3 pc') (ht : (pc : Int) + off = (tgt : Int)) (kt : y ≤ x → GW X a M F L C S tgt lv st c Post) (kf : ¬ y ≤ x → GW X a M F L C S pc' lv st c Post) : GW X a M F L C S pc lv (.int y :: .int x :: st) c Post := g_icmp_ge tgt hd ht kt kf
theorem w_if_gt {x : Int32} {off : Int} (tgt : Nat) (hd : gD M pc (.ifCond .gt off) 3 pc') (ht : (pc : Int) + off = (tgt : Int)) (kt : 0 < x → GW X a M F L C S tgt lv st c Post) (kf : ¬ 0 < x → GW X a M F L C S pc' lv st c Post) : GW X a M F L C S pc lv (.int x :: st) c Post := g_if_gt tgt hd ht kt kf
theorem w_icmp_gt {x y : Int32} {off : Int} (tgt : Nat) (hd : gD M pc (.if_icmp .gt off) 3 pc') (ht : (pc : Int) + off = (tgt : Int)) (kt : y < x → GW X a M F L C S tgt lv st c Post) (kf : ¬ y < x → GW X a M F L C S pc' lv st c Post) : GW X a M F L C S pc lv (.int y :: .int x :: st) c Post := g_icmp_gt tgt hd ht kt kf
theorem w_if_le {x : Int32} {off : Int} (tgt : Nat) (hd : gD M pc (.ifCond .le off) 3 pc') (ht : (pc : Int) + off = (tgt : Int)) (kt : x ≤ 0 → GW X a M F L C S tgt lv st c Post) (kf : ¬ x ≤ 0 → GW X a M F L C S pc' lv st c Post) : GW X a M F L C S pc lv (.int x :: st) c Post := g_if_le tgt hd ht kt kf
theorem w_icmp_le {x y : Int32} {off : Int} (tgt : Nat) (hd : gD M pc (.if_icmp .le off) 3 pc') (ht : (pc : Int) + off = (tgt : Int)) (kt : x ≤ y → GW X a M F L C S tgt lv st c Post) (kf : ¬ x ≤ y → GW X a M F L C S pc' lv st c Post) : GW X a M F L C S pc lv (.int y :: .int x :: st) c Post := g_icmp_le tgt hd ht kt kf
theorem w_goto {off : Int} (tgt : Nat) (hd : gD M pc (.goto off) 3 pc') (ht : (pc : Int) + off = (tgt : Int)) (k : GW X a M F L C S tgt lv st c Post) : GW X a M F L C S pc lv st c Post := g_goto tgt hd ht k
theorem w_tabOut {x : Int32} {dflt lo hi : Int} {offs : Array Int} {n : Nat} (tgt : Nat) (hd : gD M pc (.tableswitch dflt lo hi offs) n pc') (h : x.toInt < lo ∨ hi < x.toInt) (ht : (pc : Int) + dflt = (tgt : Int)) (k : GW X a M F L C S tgt lv st c Post) : GW X a M F L C S pc lv (.int x :: st) c Post := g_tabOut tgt hd h ht k
theorem w_tabIn {x : Int32} {dflt lo hi off : Int} {offs : Array Int} {n : Nat} (tgt : Nat) (hd : gD M pc (.tableswitch dflt lo hi offs) n pc') (h1 : ¬ x.toInt < lo) (h2 : ¬ hi < x.toInt) (ho : offs[(x.toInt - lo).toNat]? = some off) (ht : (pc : Int) + off = (tgt : Int)) (k : GW X a M F L C S tgt lv st c Post) : GW X a M F L C S pc lv (.int x :: st) c Post := g_tabIn tgt hd h1 h2 ho ht k
theorem w_sel (is : List Nat) {lv' : List (Nat × Value)} (h : lsel lv is = lv') (k : GW X a M F L C S pc lv' st c Post) : GW X a M F L C S pc lv st c Post := g_sel is h k
theorem w_iret {v : Int32} (hd : gD M pc .ireturn 1 pc') (hr : M.ret = some .int) (hp : Post (.inl (some (.int v))) c) : GW X a M F L C S pc lv [.int v] c Post := g_iret hd hr ⟨c, rfl, hp⟩
theorem w_lret {v : Int64} (hd : gD M pc .lreturn 1 pc') (hr : M.ret = some .long) (hp : Post (.inl (some (.long v))) c) : GW X a M F L C S pc lv [.long v] c Post := g_lret hd hr ⟨c, rfl, hp⟩
theorem w_zret {v : Int32} (hz : v = 0 ∨ v = 1) (hd : gD M pc .ireturn 1 pc') (hr : M.ret = some .boolean) (hp : Post (.inl (some (.int v))) c) : GW X a M F L C S pc lv [.int v] c Post := g_zret hz hd hr ⟨c, rfl, hp⟩
theorem w_vret (hd : gD M pc .return_ 1 pc') (hr : M.ret = none) (hp : Post (.inl none) c) : GW X a M F L C S pc lv [] c Post := g_vret hd hr ⟨c, rfl, hp⟩
theorem w_post {Post' : gO → (Nat → va_E) → Prop} (h : ∀ r w, Post' r w → Post r w) (k : GW X a M F L C S pc lv st c Post') : GW X a M F L C S pc lv st c Post := g_post (fun r w ⟨c', h1, h2⟩ => ⟨c', h1, h r c' h2⟩) k
theorem w_less {F' L' C' S' : Nat} (hF : F' ≤ F) (hL : L' ≤ L) (hC : C' ≤ C) (hS : S' ≤ S) (k : GW X a M F' L' C' S' pc lv st c Post) : GW X a M F L C S pc lv st c Post := g_less hF hL hC hS k
theorem w_getf {idx ci k q : Nat} {fs : List Value} {v : Value} (hf : gFg M.y.cls idx ci k) (hd : gD M pc (.getfield idx) 3 pc') (he : c q = .inr (ci, fs)) (hv : fs[k]? = some v) (hq : q < 95)
    (kk : GW X a M F L C S pc' lv (v :: st) c Post) : GW X a M F L C S pc lv (.ref (a q) :: st) c Post := g_getf hf hd (wl_get hq he) hv kk
theorem w_putf {idx ci k q : Nat} {fs : List Value} {v : Value} {ty : FieldType} (hf : gFp M.y.cls idx ci k ty false) (hd : gD M pc (.putfield idx) 3 pc') (he : c q = .inr (ci, fs)) (hn : narrow ty v = v) (hfit : fits ty v = true) (hl : k < fs.length) (hq : q < 95)
    (kk : GW X a M F L C S pc' lv st (va_up c q (.inr (ci, fs.set k v))) Post) : GW X a M F L C S pc lv (v :: .ref (a q) :: st) c Post := g_putf hf hd (wl_get hq he) hn hfit hl (by rw [wl_set]; exact kk)
theorem w_iald {q n j : Nat} {f : Nat → Int32} {i : Int32} (hd : gD M pc .iaload 1 pc') (he : c q = .inl (X.cI, n, .inl f)) (hi : i = nI j) (hj : j < n) (hn : n < 2 ^ 31) (hq : q < 95)
    (kk : GW X a M F L C S pc' lv (.int (f j) :: st) c Post) : GW X a M F L C S pc lv (.int i :: .ref (a q) :: st) c Post := g_iald hd (wl_get hq he) hi hj hn kk
theorem w_zald {q n j : Nat} {f : Nat → Int32} {i : Int32} (hd : gD M pc .baload 1 pc') (he : c q = .inl (X.cZ, n, .inl f)) (hi : i = nI j) (hj : j < n) (hn : n < 2 ^ 31) (hq : q < 95)
    (kk : GW X a M F L C S pc' lv (.int (f j) :: st) c Post) : GW X a M F L C S pc lv (.int i :: .ref (a q) :: st) c Post := g_zald hd (wl_get hq he) hi hj hn kk
theorem w_lald {q n j : Nat} {f : Nat → Int64} {i : Int32} (hd : gD M pc .laload 1 pc') (he : c q = .inl (X.cJ, n, .inr (.inl f))) (hi : i = nI j) (hj : j < n) (hn : n < 2 ^ 31) (hq : q < 95)
    (kk : GW X a M F L C S pc' lv (.long (f j) :: st) c Post) : GW X a M F L C S pc lv (.int i :: .ref (a q) :: st) c Post := g_lald hd (wl_get hq he) hi hj hn kk
theorem w_aald {q n j : Nat} {f : Nat → Option Nat} {i : Int32} (hd : gD M pc .aaload 1 pc') (he : c q = .inl (X.cQ, n, .inr (.inr (.inr (.inr f))))) (hi : i = nI j) (hj : j < n) (hn : n < 2 ^ 31) (hq : q < 95)
    (kk : GW X a M F L C S pc' lv (va_rf (f j) :: st) c Post) : GW X a M F L C S pc lv (.int i :: .ref (a q) :: st) c Post := g_aald hd (wl_get hq he) hi hj hn kk
theorem w_iast {q n j : Nat} {f : Nat → Int32} {i : Int32} {x : Int32} (hd : gD M pc .iastore 1 pc') (he : c q = .inl (X.cI, n, .inl f)) (hi : i = nI j) (hj : j < n) (hn : n < 2 ^ 31) (hq : q < 95)
    (kk : GW X a M F L C S pc' lv st (va_up c q (.inl (X.cI, n, .inl (upd f j x)))) Post) : GW X a M F L C S pc lv (.int x :: .int i :: .ref (a q) :: st) c Post := g_iast hd (wl_get hq he) hi hj hn (by rw [wl_set]; exact kk)
theorem w_zast {q n j : Nat} {f : Nat → Int32} {i : Int32} {x : Int32} (hd : gD M pc .bastore 1 pc') (he : c q = .inl (X.cZ, n, .inl f)) (hi : i = nI j) (hj : j < n) (hn : n < 2 ^ 31) (hx : vp_nar .boolean x = x) (hq : q < 95)
    (kk : GW X a M F L C S pc' lv st (va_up c q (.inl (X.cZ, n, .inl (upd f j x)))) Post) : GW X a M F L C S pc lv (.int x :: .int i :: .ref (a q) :: st) c Post := g_zast hd (wl_get hq he) hi hj hn hx (by rw [wl_set]; exact kk)
theorem w_last {q n j : Nat} {f : Nat → Int64} {i : Int32} {x : Int64} (hd : gD M pc .lastore 1 pc') (he : c q = .inl (X.cJ, n, .inr (.inl f))) (hi : i = nI j) (hj : j < n) (hn : n < 2 ^ 31) (hq : q < 95)
    (kk : GW X a M F L C S pc' lv st (va_up c q (.inl (X.cJ, n, .inr (.inl (vp_updL f j x))))) Post) : GW X a M F L C S pc lv (.long x :: .int i :: .ref (a q) :: st) c Post := g_last hd (wl_get hq he) hi hj hn (by rw [wl_set]; exact kk)
theorem w_aast {q n j qk ci : Nat} {f : Nat → Option Nat} {i : Int32} {vs : List Value} {r : vw_C} (hd : gD M pc .aastore 1 pc') (he : c q = .inl (X.cQ, n, .inr (.inr (.inr (.inr f))))) (hv : c qk = .inr (ci, vs)) (hc : vwCl[ci]? = some r) (hr : r.1 = gShape) (hi : i = nI j) (hj : j < n) (hn : n < 2 ^ 31) (hq : q < 95) (hqk : qk < 95)
    (kk : GW X a M F L C S pc' lv st (va_up c q (.inl (X.cQ, n, .inr (.inr (.inr (.inr (va_up f j (some (a qk)))))))) ) Post) : GW X a M F L C S pc lv (.ref (a qk) :: .int i :: .ref (a q) :: st) c Post := g_aast hd (wl_get hq he) (wl_get hqk hv) hc hr hi hj hn (by rw [wl_set]; exact kk)
theorem w_alen {q : Nat} {x : vp_A} (hd : gD M pc .arraylength 1 pc') (he : c q = .inl (X.cI, x)) (hq : q < 95)
    (kk : GW X a M F L C S pc' lv (.int (nI x.1) :: st) c Post) : GW X a M F L C S pc lv (.ref (a q) :: st) c Post := g_alen hd (wl_get hq he) kk
theorem w_vV {idx n q ci : Nat} {fs : List Value} {K : u_T} {N : Nat} {P : (Nat → va_E) → Prop} (As : List Value) (hc : gCV M.y.cls idx M' n) (hd : gD M pc (.invokevirtual idx) 3 pc') (hci : vwCl[ci]? = some (M'.y.cls, K, N)) (he : c q = .inr (ci, fs)) (hq : q < 95) (con : GW X a M' F' L' C' S' 0 (lv_args 0 (.ref (a q) :: As)) [] c (pV P)) (kk : ∀ w, P w → GW X a M F L (C - C') (S - S') pc' lv st w Post)
    (hs : stk = As.reverse ++ .ref (a q) :: st) (hn : As.length = n) (hent : (lg_sl (.ref (a q) :: As)).length ≤ M'.maxL) (hst : (st.map fun v => v.category).sum ≤ 8) (hF : F' + 1 ≤ F) (hL : 8 + (M'.maxL + 11) + L' ≤ L) (hC : C' ≤ C) (hS : S' ≤ S) : GW X a M F L C S pc lv stk c Post := by
  subst hs
  refine g_callV hc hd hci (wl_get hq he) hn con hent hst hF hL hC hS (fun v w h => ?_) (fun k w h => ?_)
  · obtain ⟨c', rfl, h⟩ := h
    obtain ⟨h1, h2⟩ := h
    cases h1
    exact kk _ h2
  · obtain ⟨c', rfl, h⟩ := h
    obtain ⟨h1, h2⟩ := h
    cases h1
theorem w_vVT {idx n q ci : Nat} {fs : List Value} {K : u_T} {N : Nat} {P : (Nat → va_E) → Prop} {PT : Nat → (Nat → va_E) → Prop} (As : List Value) (hc : gCV M.y.cls idx M' n) (hd : gD M pc (.invokevirtual idx) 3 pc') (hci : vwCl[ci]? = some (M'.y.cls, K, N)) (he : c q = .inr (ci, fs)) (hq : q < 95) (con : GW X a M' F' L' C' S' 0 (lv_args 0 (.ref (a q) :: As)) [] c (pVT P PT)) (kk : ∀ w, P w → GW X a M F L (C - C') (S - S') pc' lv st w Post) (kt : ∀ k w, PT k w → Post (.inr k) w) (hh : M.hh = some [])
    (hs : stk = As.reverse ++ .ref (a q) :: st) (hn : As.length = n) (hent : (lg_sl (.ref (a q) :: As)).length ≤ M'.maxL) (hst : (st.map fun v => v.category).sum ≤ 8) (hF : F' + 1 ≤ F) (hL : 8 + (M'.maxL + 11) + L' ≤ L) (hC : C' ≤ C) (hS : S' ≤ S) : GW X a M F L C S pc lv stk c Post := by
  subst hs
  refine g_callV hc hd hci (wl_get hq he) hn con hent hst hF hL hC hS (fun v w h => ?_) (fun k w h => ?_)
  · obtain ⟨c', rfl, h⟩ := h
    rcases h with ⟨h1, h2⟩ | ⟨k, h1, h2⟩
    · cases h1
      exact kk _ h2
    · cases h1
  · obtain ⟨c', rfl, h⟩ := h
    rcases h with ⟨h1, h2⟩ | ⟨k', h1, h2⟩
    · cases h1
    · cases h1
      exact ⟨hh, c', rfl, kt k c' h2⟩
theorem w_vI {idx n q ci : Nat} {fs : List Value} {K : u_T} {N : Nat} {P : Int32 → (Nat → va_E) → Prop} (As : List Value) (hc : gCV M.y.cls idx M' n) (hd : gD M pc (.invokevirtual idx) 3 pc') (hci : vwCl[ci]? = some (M'.y.cls, K, N)) (he : c q = .inr (ci, fs)) (hq : q < 95) (con : GW X a M' F' L' C' S' 0 (lv_args 0 (.ref (a q) :: As)) [] c (pI P)) (kk : ∀ x w, P x w → GW X a M F L (C - C') (S - S') pc' lv (.int x :: st) w Post)
    (hs : stk = As.reverse ++ .ref (a q) :: st) (hn : As.length = n) (hent : (lg_sl (.ref (a q) :: As)).length ≤ M'.maxL) (hst : (st.map fun v => v.category).sum ≤ 8) (hF : F' + 1 ≤ F) (hL : 8 + (M'.maxL + 11) + L' ≤ L) (hC : C' ≤ C) (hS : S' ≤ S) : GW X a M F L C S pc lv stk c Post := by
  subst hs
  refine g_callV hc hd hci (wl_get hq he) hn con hent hst hF hL hC hS (fun v w h => ?_) (fun k w h => ?_)
  · obtain ⟨c', rfl, h⟩ := h
    obtain ⟨x, h1, h2⟩ := h
    cases h1
    exact kk x _ h2
  · obtain ⟨c', rfl, h⟩ := h
    obtain ⟨x, h1, h2⟩ := h
    cases h1
theorem w_vIT {idx n q ci : Nat} {fs : List Value} {K : u_T} {N : Nat} {P : Int32 → (Nat → va_E) → Prop} {PT : Nat → (Nat → va_E) → Prop} (As : List Value) (hc : gCV M.y.cls idx M' n) (hd : gD M pc (.invokevirtual idx) 3 pc') (hci : vwCl[ci]? = some (M'.y.cls, K, N)) (he : c q = .inr (ci, fs)) (hq : q < 95) (con : GW X a M' F' L' C' S' 0 (lv_args 0 (.ref (a q) :: As)) [] c (pIT P PT)) (kk : ∀ x w, P x w → GW X a M F L (C - C') (S - S') pc' lv (.int x :: st) w Post) (kt : ∀ k w, PT k w → Post (.inr k) w) (hh : M.hh = some [])
    (hs : stk = As.reverse ++ .ref (a q) :: st) (hn : As.length = n) (hent : (lg_sl (.ref (a q) :: As)).length ≤ M'.maxL) (hst : (st.map fun v => v.category).sum ≤ 8) (hF : F' + 1 ≤ F) (hL : 8 + (M'.maxL + 11) + L' ≤ L) (hC : C' ≤ C) (hS : S' ≤ S) : GW X a M F L C S pc lv stk c Post := by
  subst hs
  refine g_callV hc hd hci (wl_get hq he) hn con hent hst hF hL hC hS (fun v w h => ?_) (fun k w h => ?_)
  · obtain ⟨c', rfl, h⟩ := h
    rcases h with ⟨x, h1, h2⟩ | ⟨k, h1, h2⟩
    · cases h1
      exact kk x _ h2
    · cases h1
  · obtain ⟨c', rfl, h⟩ := h
    rcases h with ⟨x, h1, h2⟩ | ⟨k', h1, h2⟩
    · cases h1
    · cases h1
      exact ⟨hh, c', rfl, kt k c' h2⟩
theorem w_vJ {idx n q ci : Nat} {fs : List Value} {K : u_T} {N : Nat} {P : Int64 → (Nat → va_E) → Prop} (As : List Value) (hc : gCV M.y.cls idx M' n) (hd : gD M pc (.invokevirtual idx) 3 pc') (hci : vwCl[ci]? = some (M'.y.cls, K, N)) (he : c q = .inr (ci, fs)) (hq : q < 95) (con : GW X a M' F' L' C' S' 0 (lv_args 0 (.ref (a q) :: As)) [] c (pJ P)) (kk : ∀ x w, P x w → GW X a M F L (C - C') (S - S') pc' lv (.long x :: st) w Post)
    (hs : stk = As.reverse ++ .ref (a q) :: st) (hn : As.length = n) (hent : (lg_sl (.ref (a q) :: As)).length ≤ M'.maxL) (hst : (st.map fun v => v.category).sum ≤ 8) (hF : F' + 1 ≤ F) (hL : 8 + (M'.maxL + 11) + L' ≤ L) (hC : C' ≤ C) (hS : S' ≤ S) : GW X a M F L C S pc lv stk c Post := by
  subst hs
  refine g_callV hc hd hci (wl_get hq he) hn con hent hst hF hL hC hS (fun v w h => ?_) (fun k w h => ?_)
  · obtain ⟨c', rfl, h⟩ := h
    obtain ⟨x, h1, h2⟩ := h
    cases h1
    exact kk x _ h2
  · obtain ⟨c', rfl, h⟩ := h
    obtain ⟨x, h1, h2⟩ := h
    cases h1
theorem w_vJT {idx n q ci : Nat} {fs : List Value} {K : u_T} {N : Nat} {P : Int64 → (Nat → va_E) → Prop} {PT : Nat → (Nat → va_E) → Prop} (As : List Value) (hc : gCV M.y.cls idx M' n) (hd : gD M pc (.invokevirtual idx) 3 pc') (hci : vwCl[ci]? = some (M'.y.cls, K, N)) (he : c q = .inr (ci, fs)) (hq : q < 95) (con : GW X a M' F' L' C' S' 0 (lv_args 0 (.ref (a q) :: As)) [] c (pJT P PT)) (kk : ∀ x w, P x w → GW X a M F L (C - C') (S - S') pc' lv (.long x :: st) w Post) (kt : ∀ k w, PT k w → Post (.inr k) w) (hh : M.hh = some [])
    (hs : stk = As.reverse ++ .ref (a q) :: st) (hn : As.length = n) (hent : (lg_sl (.ref (a q) :: As)).length ≤ M'.maxL) (hst : (st.map fun v => v.category).sum ≤ 8) (hF : F' + 1 ≤ F) (hL : 8 + (M'.maxL + 11) + L' ≤ L) (hC : C' ≤ C) (hS : S' ≤ S) : GW X a M F L C S pc lv stk c Post := by
  subst hs
  refine g_callV hc hd hci (wl_get hq he) hn con hent hst hF hL hC hS (fun v w h => ?_) (fun k w h => ?_)
  · obtain ⟨c', rfl, h⟩ := h
    rcases h with ⟨x, h1, h2⟩ | ⟨k, h1, h2⟩
    · cases h1
      exact kk x _ h2
    · cases h1
  · obtain ⟨c', rfl, h⟩ := h
    rcases h with ⟨x, h1, h2⟩ | ⟨k', h1, h2⟩
    · cases h1
    · cases h1
      exact ⟨hh, c', rfl, kt k c' h2⟩
theorem w_sV {idx n : Nat} {P : (Nat → va_E) → Prop} (As : List Value) (hc : gCS M.y.cls idx M' n) (hd : gD M pc (.invokestatic idx) 3 pc') (con : GW X a M' F' L' C' S' 0 (lv_args 0 (As)) [] c (pV P)) (kk : ∀ w, P w → GW X a M F L (C - C') (S - S') pc' lv st w Post)
    (hs : stk = As.reverse ++  st) (hn : As.length = n) (hent : (lg_sl (As)).length ≤ M'.maxL) (hst : (st.map fun v => v.category).sum ≤ 8) (hF : F' + 1 ≤ F) (hL : 8 + (M'.maxL + 11) + L' ≤ L) (hC : C' ≤ C) (hS : S' ≤ S) : GW X a M F L C S pc lv stk c Post := by
  subst hs
  refine g_callS hc hd hn con hent hst hF hL hC hS (fun v w h => ?_) (fun k w h => ?_)
  · obtain ⟨c', rfl, h⟩ := h
    obtain ⟨h1, h2⟩ := h
    cases h1
    exact kk _ h2
  · obtain ⟨c', rfl, h⟩ := h
    obtain ⟨h1, h2⟩ := h
    cases h1
theorem w_sVT {idx n : Nat} {P : (Nat → va_E) → Prop} {PT : Nat → (Nat → va_E) → Prop} (As : List Value) (hc : gCS M.y.cls idx M' n) (hd : gD M pc (.invokestatic idx) 3 pc') (con : GW X a M' F' L' C' S' 0 (lv_args 0 (As)) [] c (pVT P PT)) (kk : ∀ w, P w → GW X a M F L (C - C') (S - S') pc' lv st w Post) (kt : ∀ k w, PT k w → Post (.inr k) w) (hh : M.hh = some [])
    (hs : stk = As.reverse ++  st) (hn : As.length = n) (hent : (lg_sl (As)).length ≤ M'.maxL) (hst : (st.map fun v => v.category).sum ≤ 8) (hF : F' + 1 ≤ F) (hL : 8 + (M'.maxL + 11) + L' ≤ L) (hC : C' ≤ C) (hS : S' ≤ S) : GW X a M F L C S pc lv stk c Post := by
  subst hs
  refine g_callS hc hd hn con hent hst hF hL hC hS (fun v w h => ?_) (fun k w h => ?_)
  · obtain ⟨c', rfl, h⟩ := h
    rcases h with ⟨h1, h2⟩ | ⟨k, h1, h2⟩
    · cases h1
      exact kk _ h2
    · cases h1
  · obtain ⟨c', rfl, h⟩ := h
    rcases h with ⟨h1, h2⟩ | ⟨k', h1, h2⟩
    · cases h1
    · cases h1
      exact ⟨hh, c', rfl, kt k c' h2⟩
theorem w_sI {idx n : Nat} {P : Int32 → (Nat → va_E) → Prop} (As : List Value) (hc : gCS M.y.cls idx M' n) (hd : gD M pc (.invokestatic idx) 3 pc') (con : GW X a M' F' L' C' S' 0 (lv_args 0 (As)) [] c (pI P)) (kk : ∀ x w, P x w → GW X a M F L (C - C') (S - S') pc' lv (.int x :: st) w Post)
    (hs : stk = As.reverse ++  st) (hn : As.length = n) (hent : (lg_sl (As)).length ≤ M'.maxL) (hst : (st.map fun v => v.category).sum ≤ 8) (hF : F' + 1 ≤ F) (hL : 8 + (M'.maxL + 11) + L' ≤ L) (hC : C' ≤ C) (hS : S' ≤ S) : GW X a M F L C S pc lv stk c Post := by
  subst hs
  refine g_callS hc hd hn con hent hst hF hL hC hS (fun v w h => ?_) (fun k w h => ?_)
  · obtain ⟨c', rfl, h⟩ := h
    obtain ⟨x, h1, h2⟩ := h
    cases h1
    exact kk x _ h2
  · obtain ⟨c', rfl, h⟩ := h
    obtain ⟨x, h1, h2⟩ := h
    cases h1
theorem w_sIT {idx n : Nat} {P : Int32 → (Nat → va_E) → Prop} {PT : Nat → (Nat → va_E) → Prop} (As : List Value) (hc : gCS M.y.cls idx M' n) (hd : gD M pc (.invokestatic idx) 3 pc') (con : GW X a M' F' L' C' S' 0 (lv_args 0 (As)) [] c (pIT P PT)) (kk : ∀ x w, P x w → GW X a M F L (C - C') (S - S') pc' lv (.int x :: st) w Post) (kt : ∀ k w, PT k w → Post (.inr k) w) (hh : M.hh = some [])
    (hs : stk = As.reverse ++  st) (hn : As.length = n) (hent : (lg_sl (As)).length ≤ M'.maxL) (hst : (st.map fun v => v.category).sum ≤ 8) (hF : F' + 1 ≤ F) (hL : 8 + (M'.maxL + 11) + L' ≤ L) (hC : C' ≤ C) (hS : S' ≤ S) : GW X a M F L C S pc lv stk c Post := by
  subst hs
  refine g_callS hc hd hn con hent hst hF hL hC hS (fun v w h => ?_) (fun k w h => ?_)
  · obtain ⟨c', rfl, h⟩ := h
    rcases h with ⟨x, h1, h2⟩ | ⟨k, h1, h2⟩
    · cases h1
      exact kk x _ h2
    · cases h1
  · obtain ⟨c', rfl, h⟩ := h
    rcases h with ⟨x, h1, h2⟩ | ⟨k', h1, h2⟩
    · cases h1
    · cases h1
      exact ⟨hh, c', rfl, kt k c' h2⟩
theorem w_sJ {idx n : Nat} {P : Int64 → (Nat → va_E) → Prop} (As : List Value) (hc : gCS M.y.cls idx M' n) (hd : gD M pc (.invokestatic idx) 3 pc') (con : GW X a M' F' L' C' S' 0 (lv_args 0 (As)) [] c (pJ P)) (kk : ∀ x w, P x w → GW X a M F L (C - C') (S - S') pc' lv (.long x :: st) w Post)
    (hs : stk = As.reverse ++  st) (hn : As.length = n) (hent : (lg_sl (As)).length ≤ M'.maxL) (hst : (st.map fun v => v.category).sum ≤ 8) (hF : F' + 1 ≤ F) (hL : 8 + (M'.maxL + 11) + L' ≤ L) (hC : C' ≤ C) (hS : S' ≤ S) : GW X a M F L C S pc lv stk c Post := by
  subst hs
  refine g_callS hc hd hn con hent hst hF hL hC hS (fun v w h => ?_) (fun k w h => ?_)
  · obtain ⟨c', rfl, h⟩ := h
    obtain ⟨x, h1, h2⟩ := h
    cases h1
    exact kk x _ h2
  · obtain ⟨c', rfl, h⟩ := h
    obtain ⟨x, h1, h2⟩ := h
    cases h1
theorem w_sJT {idx n : Nat} {P : Int64 → (Nat → va_E) → Prop} {PT : Nat → (Nat → va_E) → Prop} (As : List Value) (hc : gCS M.y.cls idx M' n) (hd : gD M pc (.invokestatic idx) 3 pc') (con : GW X a M' F' L' C' S' 0 (lv_args 0 (As)) [] c (pJT P PT)) (kk : ∀ x w, P x w → GW X a M F L (C - C') (S - S') pc' lv (.long x :: st) w Post) (kt : ∀ k w, PT k w → Post (.inr k) w) (hh : M.hh = some [])
    (hs : stk = As.reverse ++  st) (hn : As.length = n) (hent : (lg_sl (As)).length ≤ M'.maxL) (hst : (st.map fun v => v.category).sum ≤ 8) (hF : F' + 1 ≤ F) (hL : 8 + (M'.maxL + 11) + L' ≤ L) (hC : C' ≤ C) (hS : S' ≤ S) : GW X a M F L C S pc lv stk c Post := by
  subst hs
  refine g_callS hc hd hn con hent hst hF hL hC hS (fun v w h => ?_) (fun k w h => ?_)
  · obtain ⟨c', rfl, h⟩ := h
    rcases h with ⟨x, h1, h2⟩ | ⟨k, h1, h2⟩
    · cases h1
      exact kk x _ h2
    · cases h1
  · obtain ⟨c', rfl, h⟩ := h
    rcases h with ⟨x, h1, h2⟩ | ⟨k', h1, h2⟩
    · cases h1
    · cases h1
      exact ⟨hh, c', rfl, kt k c' h2⟩
theorem w_iV {idx n q ci : Nat} {fs : List Value} {K : u_T} {N : Nat} {P : (Nat → va_E) → Prop} (As : List Value) (hc : gCI M.y.cls idx M' n) (hd : gD M pc (.invokespecial idx) 3 pc') (con : GW X a M' F' L' C' S' 0 (lv_args 0 (.ref (a q) :: As)) [] c (pV P)) (kk : ∀ w, P w → GW X a M F L (C - C') (S - S') pc' lv st w Post)
    (hs : stk = As.reverse ++ .ref (a q) :: st) (hn : As.length = n) (hent : (lg_sl (.ref (a q) :: As)).length ≤ M'.maxL) (hst : (st.map fun v => v.category).sum ≤ 8) (hF : F' + 1 ≤ F) (hL : 8 + (M'.maxL + 11) + L' ≤ L) (hC : C' ≤ C) (hS : S' ≤ S) : GW X a M F L C S pc lv stk c Post := by
  subst hs
  refine g_callI hc hd hn con hent hst hF hL hC hS (fun v w h => ?_) (fun k w h => ?_)
  · obtain ⟨c', rfl, h⟩ := h
    obtain ⟨h1, h2⟩ := h
    cases h1
    exact kk _ h2
  · obtain ⟨c', rfl, h⟩ := h
    obtain ⟨h1, h2⟩ := h
    cases h1
theorem w_mmax {idx : Nat} {x y : Int32} (hl : Cond.methodLink M.y.cls idx Lib.Math.max.name ∈ gTW) (hd : gD M pc (.invokestatic idx) 3 pc') (hF : 1 ≤ F) (hst : (st.map fun v => v.category).sum + 13 ≤ L) (kk : GW X a M F L C S pc' lv (.int (if x < y then y else x) :: st) c Post) : GW X a M F L C S pc lv (.int y :: .int x :: st) c Post := g_mmax hl hd hF hst kk
theorem w_mmin {idx : Nat} {x y : Int32} (hl : Cond.methodLink M.y.cls idx Lib.Math.min.name ∈ gTW) (hd : gD M pc (.invokestatic idx) 3 pc') (hF : 1 ≤ F) (hst : (st.map fun v => v.category).sum + 13 ≤ L) (kk : GW X a M F L C S pc' lv (.int (if y < x then y else x) :: st) c Post) : GW X a M F L C S pc lv (.int y :: .int x :: st) c Post := g_mmin hl hd hF hst kk
theorem w_get1 {idx : Nat} (hl : gLk M.y.cls idx "SelfArranger" "FIRST_COLUMN" "[I") (hd : gD M pc (.getstatic idx) 3 pc') (kk : GW X a M F L C S pc' lv (.ref X.t1 :: st) c Post) : GW X a M F L C S pc lv st c Post := g_get1 hl hd kk
theorem w_get2 {idx : Nat} (hl : gLk M.y.cls idx "SelfArranger" "SECOND_COLUMN" "[I") (hd : gD M pc (.getstatic idx) 3 pc') (kk : GW X a M F L C S pc' lv (.ref X.t2 :: st) c Post) : GW X a M F L C S pc lv st c Post := g_get2 hl hd kk
theorem w_ald1 {j : Nat} {i : Int32} (hd : gD M pc .iaload 1 pc') (hi : i = nI j) (hj : j < 9) (kk : GW X a M F L C S pc' lv (.int (([0, 1, 2, 0, 0, 1, 1, 2, 2] : List Int32).getD j 0) :: st) c Post) : GW X a M F L C S pc lv (.int i :: .ref X.t1 :: st) c Post := g_ald1 hd hi hj kk
theorem w_ald2 {j : Nat} {i : Int32} (hd : gD M pc .iaload 1 pc') (hi : i = nI j) (hj : j < 9) (kk : GW X a M F L C S pc' lv (.int (([-1, -1, -1, 1, 2, 0, 2, 0, 1] : List Int32).getD j 0) :: st) c Post) : GW X a M F L C S pc lv (.int i :: .ref X.t2 :: st) c Post := g_ald2 hd hi hj kk
theorem w_sald {j : Nat} {i : Int32} (hd : gD M pc .iaload 1 pc') (hi : i = nI j) (hj : j < X.sl) (hn : X.sl < 2 ^ 31) (kk : GW X a M F L C S pc' lv (.int (X.sx j) :: st) c Post) : GW X a M F L C S pc lv (.int i :: .ref X.sb :: st) c Post := g_sald hd hi hj hn kk
theorem w_slen (hd : gD M pc .arraylength 1 pc') (kk : GW X a M F L C S pc' lv (.int (nI X.sl) :: st) c Post) : GW X a M F L C S pc lv (.ref X.sb :: st) c Post := g_slen hd kk
-- an answer that is known, a world that is as it was
def eI (v : Int32) (c : Nat → va_E) : Int32 → (Nat → va_E) → Prop := fun x w => v = x ∧ c = w
def eJ (v : Int64) (c : Nat → va_E) : Int64 → (Nat → va_E) → Prop := fun x w => v = x ∧ c = w
def eV (c : Nat → va_E) : (Nat → va_E) → Prop := fun w => c = w
end GWR
