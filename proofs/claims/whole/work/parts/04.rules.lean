section CYL
variable {G : cy_G} {F : cy_F} {own : String} {cc : ByteArray} {nL d rc rs kc ks pc : Nat} {lv : List (Nat × Value)} {st : List Value} {M : cy_Hp}
theorem wm_iconst (C : cy_C G F own cc nL d rc rs) {n : Int} {v : Int32} (hdg : decode cc pc = .ok (.iconst n, 1)) (hv : Int32.ofInt n = v) (k : WM G F nL kc ks (pc + 1) lv (.int v :: st) M) : WM G F nL kc ks pc lv (st) M := by
  obtain ⟨p, l, e, R, s, m, args, below, meth, c, Q⟩ := F
  obtain ⟨hl0, hx, hb, -⟩ := C
  exact fun H ls locs hl9 hM hS => lv_iconst hx hb hdg hv (k H ls locs hl9 hM hS)
theorem wm_bipush (C : cy_C G F own cc nL d rc rs) {n : Int} {v : Int32} (hdg : decode cc pc = .ok (.bipush n, 2)) (hv : (Int8.ofInt n).toInt32 = v) (k : WM G F nL kc ks (pc + 2) lv (.int v :: st) M) : WM G F nL kc ks pc lv (st) M := by
  obtain ⟨p, l, e, R, s, m, args, below, meth, c, Q⟩ := F
  obtain ⟨hl0, hx, hb, -⟩ := C
  exact fun H ls locs hl9 hM hS => lv_bipush hx hb hdg hv (k H ls locs hl9 hM hS)
theorem wm_sipush (C : cy_C G F own cc nL d rc rs) {n : Int} {v : Int32} (hdg : decode cc pc = .ok (.sipush n, 3)) (hv : (Int16.ofInt n).toInt32 = v) (k : WM G F nL kc ks (pc + 3) lv (.int v :: st) M) : WM G F nL kc ks pc lv (st) M := by
  obtain ⟨p, l, e, R, s, m, args, below, meth, c, Q⟩ := F
  obtain ⟨hl0, hx, hb, -⟩ := C
  exact fun H ls locs hl9 hM hS => lv_sipush hx hb hdg hv (k H ls locs hl9 hM hS)
theorem wm_iload_n (C : cy_C G F own cc nL d rc rs) {k : Fin 4} {i : Nat} {x : Int32} (hdg : decode cc pc = .ok (.iload_n k, 1)) (hi : (k : Nat) = i) {j : Nat} (hl : lv[j]? = some (i, (.int x))) (k : WM G F nL kc ks (pc + 1) lv (.int x :: st) M) : WM G F nL kc ks pc lv (st) M := by
  obtain ⟨p, l, e, R, s, m, args, below, meth, c, Q⟩ := F
  obtain ⟨hl0, hx, hb, -⟩ := C
  exact fun H ls locs hl9 hM hS => lv_iload_n hx hb hdg hi (lv_at hl9 _ hl) (k H ls locs hl9 hM hS)
theorem wm_iload (C : cy_C G F own cc nL d rc rs) {i : Nat} {x : Int32} (hdg : decode cc pc = .ok (.iload i, 2)) {j : Nat} (hl : lv[j]? = some (i, (.int x))) (k : WM G F nL kc ks (pc + 2) lv (.int x :: st) M) : WM G F nL kc ks pc lv (st) M := by
  obtain ⟨p, l, e, R, s, m, args, below, meth, c, Q⟩ := F
  obtain ⟨hl0, hx, hb, -⟩ := C
  exact fun H ls locs hl9 hM hS => lv_iload hx hb hdg (lv_at hl9 _ hl) (k H ls locs hl9 hM hS)
theorem wm_aload_n (C : cy_C G F own cc nL d rc rs) {k : Fin 4} {i : Nat} {x : Nat} (hdg : decode cc pc = .ok (.aload_n k, 1)) (hi : (k : Nat) = i) {j : Nat} (hl : lv[j]? = some (i, (.ref x))) (k : WM G F nL kc ks (pc + 1) lv (.ref x :: st) M) : WM G F nL kc ks pc lv (st) M := by
  obtain ⟨p, l, e, R, s, m, args, below, meth, c, Q⟩ := F
  obtain ⟨hl0, hx, hb, -⟩ := C
  exact fun H ls locs hl9 hM hS => lv_aload_n hx hb hdg hi (lv_at hl9 _ hl) (k H ls locs hl9 hM hS)
theorem wm_aload (C : cy_C G F own cc nL d rc rs) {i : Nat} {x : Nat} (hdg : decode cc pc = .ok (.aload i, 2)) {j : Nat} (hl : lv[j]? = some (i, (.ref x))) (k : WM G F nL kc ks (pc + 2) lv (.ref x :: st) M) : WM G F nL kc ks pc lv (st) M := by
  obtain ⟨p, l, e, R, s, m, args, below, meth, c, Q⟩ := F
  obtain ⟨hl0, hx, hb, -⟩ := C
  exact fun H ls locs hl9 hM hS => lv_aload hx hb hdg (lv_at hl9 _ hl) (k H ls locs hl9 hM hS)
theorem wm_aload_nN (C : cy_C G F own cc nL d rc rs) {k : Fin 4} {i : Nat} (hdg : decode cc pc = .ok (.aload_n k, 1)) (hi : (k : Nat) = i) {j : Nat} (hl : lv[j]? = some (i, (.null))) (k : WM G F nL kc ks (pc + 1) lv (.null :: st) M) : WM G F nL kc ks pc lv (st) M := by
  obtain ⟨p, l, e, R, s, m, args, below, meth, c, Q⟩ := F
  obtain ⟨hl0, hx, hb, -⟩ := C
  exact fun H ls locs hl9 hM hS => lv_aload_nN hx hb hdg hi (lv_at hl9 _ hl) (k H ls locs hl9 hM hS)
theorem wm_aloadN (C : cy_C G F own cc nL d rc rs) {i : Nat} (hdg : decode cc pc = .ok (.aload i, 2)) {j : Nat} (hl : lv[j]? = some (i, (.null))) (k : WM G F nL kc ks (pc + 2) lv (.null :: st) M) : WM G F nL kc ks pc lv (st) M := by
  obtain ⟨p, l, e, R, s, m, args, below, meth, c, Q⟩ := F
  obtain ⟨hl0, hx, hb, -⟩ := C
  exact fun H ls locs hl9 hM hS => lv_aloadN hx hb hdg (lv_at hl9 _ hl) (k H ls locs hl9 hM hS)
theorem wm_istore_n (C : cy_C G F own cc nL d rc rs) {k : Fin 4} {i : Nat} {x : Int32} {lv' : List (Nat × Value)} (hdg : decode cc pc = .ok (.istore_n k, 1)) (hi : (k : Nat) = i) (hn : i < nL) (hl : (i, Value.int x) :: lv.filter (fun q => !(q.1 == i) && !(q.1 + 1 == i && q.2.category == 2)) = lv') (kk : WM G F nL kc ks (pc + 1) lv' st M) : WM G F nL kc ks pc lv (.int x :: st) M := by
  obtain ⟨p, l, e, R, s, m, args, below, meth, c, Q⟩ := F
  obtain ⟨hl0, hx, hb, -⟩ := C
  exact fun H ls locs hl9 hM hS => lv_istore_n hx hb hdg hi hl9 hn hl (fun ls9 hl9 => kk H ls9 locs hl9 hM hS)
theorem wm_istore (C : cy_C G F own cc nL d rc rs) {i : Nat} {x : Int32} {lv' : List (Nat × Value)} (hdg : decode cc pc = .ok (.istore i, 2)) (hn : i < nL) (hl : (i, Value.int x) :: lv.filter (fun q => !(q.1 == i) && !(q.1 + 1 == i && q.2.category == 2)) = lv') (kk : WM G F nL kc ks (pc + 2) lv' st M) : WM G F nL kc ks pc lv (.int x :: st) M := by
  obtain ⟨p, l, e, R, s, m, args, below, meth, c, Q⟩ := F
  obtain ⟨hl0, hx, hb, -⟩ := C
  exact fun H ls locs hl9 hM hS => lv_istore hx hb hdg hl9 hn hl (fun ls9 hl9 => kk H ls9 locs hl9 hM hS)
theorem wm_astore_n (C : cy_C G F own cc nL d rc rs) {k : Fin 4} {i : Nat} {x : Nat} {lv' : List (Nat × Value)} (hdg : decode cc pc = .ok (.astore_n k, 1)) (hi : (k : Nat) = i) (hn : i < nL) (hl : (i, Value.ref x) :: lv.filter (fun q => !(q.1 == i) && !(q.1 + 1 == i && q.2.category == 2)) = lv') (kk : WM G F nL kc ks (pc + 1) lv' st M) : WM G F nL kc ks pc lv (.ref x :: st) M := by
  obtain ⟨p, l, e, R, s, m, args, below, meth, c, Q⟩ := F
  obtain ⟨hl0, hx, hb, -⟩ := C
  exact fun H ls locs hl9 hM hS => lv_astore_n hx hb hdg hi hl9 hn hl (fun ls9 hl9 => kk H ls9 locs hl9 hM hS)
theorem wm_astore (C : cy_C G F own cc nL d rc rs) {i : Nat} {x : Nat} {lv' : List (Nat × Value)} (hdg : decode cc pc = .ok (.astore i, 2)) (hn : i < nL) (hl : (i, Value.ref x) :: lv.filter (fun q => !(q.1 == i) && !(q.1 + 1 == i && q.2.category == 2)) = lv') (kk : WM G F nL kc ks (pc + 2) lv' st M) : WM G F nL kc ks pc lv (.ref x :: st) M := by
  obtain ⟨p, l, e, R, s, m, args, below, meth, c, Q⟩ := F
  obtain ⟨hl0, hx, hb, -⟩ := C
  exact fun H ls locs hl9 hM hS => lv_astore hx hb hdg hl9 hn hl (fun ls9 hl9 => kk H ls9 locs hl9 hM hS)
theorem wm_astore_nN (C : cy_C G F own cc nL d rc rs) {k : Fin 4} {i : Nat} {lv' : List (Nat × Value)} (hdg : decode cc pc = .ok (.astore_n k, 1)) (hi : (k : Nat) = i) (hn : i < nL) (hl : (i, Value.null) :: lv.filter (fun q => !(q.1 == i) && !(q.1 + 1 == i && q.2.category == 2)) = lv') (kk : WM G F nL kc ks (pc + 1) lv' st M) : WM G F nL kc ks pc lv (.null :: st) M := by
  obtain ⟨p, l, e, R, s, m, args, below, meth, c, Q⟩ := F
  obtain ⟨hl0, hx, hb, -⟩ := C
  exact fun H ls locs hl9 hM hS => lv_astore_nN hx hb hdg hi hl9 hn hl (fun ls9 hl9 => kk H ls9 locs hl9 hM hS)
theorem wm_astoreN (C : cy_C G F own cc nL d rc rs) {i : Nat} {lv' : List (Nat × Value)} (hdg : decode cc pc = .ok (.astore i, 2)) (hn : i < nL) (hl : (i, Value.null) :: lv.filter (fun q => !(q.1 == i) && !(q.1 + 1 == i && q.2.category == 2)) = lv') (kk : WM G F nL kc ks (pc + 2) lv' st M) : WM G F nL kc ks pc lv (.null :: st) M := by
  obtain ⟨p, l, e, R, s, m, args, below, meth, c, Q⟩ := F
  obtain ⟨hl0, hx, hb, -⟩ := C
  exact fun H ls locs hl9 hM hS => lv_astoreN hx hb hdg hl9 hn hl (fun ls9 hl9 => kk H ls9 locs hl9 hM hS)
theorem wm_iinc (C : cy_C G F own cc nL d rc rs) {i k : Nat} {n : Int} {x v : Int32} {lv' : List (Nat × Value)} (hdg : decode cc pc = .ok (.iinc i n, 3)) (hk : lv[k]? = some (i, .int x)) (hv : x + Int32.ofInt n = v) (hn : i < nL) (hl : (i, Value.int v) :: lv.filter (fun q => !(q.1 == i) && !(q.1 + 1 == i && q.2.category == 2)) = lv') (kk : WM G F nL kc ks (pc + 3) lv' st M) : WM G F nL kc ks pc lv st M := by
  obtain ⟨p, l, e, R, s, m, args, below, meth, c, Q⟩ := F
  obtain ⟨hl0, hx, hb, -⟩ := C
  exact fun H ls locs hl9 hM hS => lv_iinc hx hb hdg hl9 hk hv hn hl (fun ls9 hl9 => kk H ls9 locs hl9 hM hS)
theorem wm_iadd (C : cy_C G F own cc nL d rc rs) {x y : Int32} (hdg : decode cc pc = .ok (.iadd, 1)) (k : WM G F nL kc ks (pc + 1) lv (.int (x + y) :: st) M) : WM G F nL kc ks pc lv (.int y :: .int x :: st) M := by
  obtain ⟨p, l, e, R, s, m, args, below, meth, c, Q⟩ := F
  obtain ⟨hl0, hx, hb, -⟩ := C
  exact fun H ls locs hl9 hM hS => lv_iadd hx hb hdg (k H ls locs hl9 hM hS)
theorem wm_isub (C : cy_C G F own cc nL d rc rs) {x y : Int32} (hdg : decode cc pc = .ok (.isub, 1)) (k : WM G F nL kc ks (pc + 1) lv (.int (x - y) :: st) M) : WM G F nL kc ks pc lv (.int y :: .int x :: st) M := by
  obtain ⟨p, l, e, R, s, m, args, below, meth, c, Q⟩ := F
  obtain ⟨hl0, hx, hb, -⟩ := C
  exact fun H ls locs hl9 hM hS => lv_isub hx hb hdg (k H ls locs hl9 hM hS)
theorem wm_imul (C : cy_C G F own cc nL d rc rs) {x y : Int32} (hdg : decode cc pc = .ok (.imul, 1)) (k : WM G F nL kc ks (pc + 1) lv (.int (x * y) :: st) M) : WM G F nL kc ks pc lv (.int y :: .int x :: st) M := by
  obtain ⟨p, l, e, R, s, m, args, below, meth, c, Q⟩ := F
  obtain ⟨hl0, hx, hb, -⟩ := C
  exact fun H ls locs hl9 hM hS => lv_imul hx hb hdg (k H ls locs hl9 hM hS)
theorem wm_iand (C : cy_C G F own cc nL d rc rs) {x y : Int32} (hdg : decode cc pc = .ok (.iand, 1)) (k : WM G F nL kc ks (pc + 1) lv (.int (x &&& y) :: st) M) : WM G F nL kc ks pc lv (.int y :: .int x :: st) M := by
  obtain ⟨p, l, e, R, s, m, args, below, meth, c, Q⟩ := F
  obtain ⟨hl0, hx, hb, -⟩ := C
  exact fun H ls locs hl9 hM hS => lv_iand hx hb hdg (k H ls locs hl9 hM hS)
theorem wm_ior (C : cy_C G F own cc nL d rc rs) {x y : Int32} (hdg : decode cc pc = .ok (.ior, 1)) (k : WM G F nL kc ks (pc + 1) lv (.int (x ||| y) :: st) M) : WM G F nL kc ks pc lv (.int y :: .int x :: st) M := by
  obtain ⟨p, l, e, R, s, m, args, below, meth, c, Q⟩ := F
  obtain ⟨hl0, hx, hb, -⟩ := C
  exact fun H ls locs hl9 hM hS => lv_ior hx hb hdg (k H ls locs hl9 hM hS)
theorem wm_ixor (C : cy_C G F own cc nL d rc rs) {x y : Int32} (hdg : decode cc pc = .ok (.ixor, 1)) (k : WM G F nL kc ks (pc + 1) lv (.int (x ^^^ y) :: st) M) : WM G F nL kc ks pc lv (.int y :: .int x :: st) M := by
  obtain ⟨p, l, e, R, s, m, args, below, meth, c, Q⟩ := F
  obtain ⟨hl0, hx, hb, -⟩ := C
  exact fun H ls locs hl9 hM hS => lv_ixor hx hb hdg (k H ls locs hl9 hM hS)
theorem wm_idiv (C : cy_C G F own cc nL d rc rs) {x y : Int32} (hdg : decode cc pc = .ok (.idiv, 1)) (hne : ¬ y = 0) (k : WM G F nL kc ks (pc + 1) lv (.int (x / y) :: st) M) : WM G F nL kc ks pc lv (.int y :: .int x :: st) M := by
  obtain ⟨p, l, e, R, s, m, args, below, meth, c, Q⟩ := F
  obtain ⟨hl0, hx, hb, -⟩ := C
  exact fun H ls locs hl9 hM hS => lv_idiv hx hb hdg hne (k H ls locs hl9 hM hS)
theorem wm_irem (C : cy_C G F own cc nL d rc rs) {x y : Int32} (hdg : decode cc pc = .ok (.irem, 1)) (hne : ¬ y = 0) (k : WM G F nL kc ks (pc + 1) lv (.int (x - x / y * y) :: st) M) : WM G F nL kc ks pc lv (.int y :: .int x :: st) M := by
  obtain ⟨p, l, e, R, s, m, args, below, meth, c, Q⟩ := F
  obtain ⟨hl0, hx, hb, -⟩ := C
  exact fun H ls locs hl9 hM hS => lv_irem hx hb hdg hne (k H ls locs hl9 hM hS)
theorem wm_ineg (C : cy_C G F own cc nL d rc rs) {x : Int32} (hdg : decode cc pc = .ok (.ineg, 1)) (k : WM G F nL kc ks (pc + 1) lv (.int (-x) :: st) M) : WM G F nL kc ks pc lv (.int x :: st) M := by
  obtain ⟨p, l, e, R, s, m, args, below, meth, c, Q⟩ := F
  obtain ⟨hl0, hx, hb, -⟩ := C
  exact fun H ls locs hl9 hM hS => lv_ineg hx hb hdg (k H ls locs hl9 hM hS)
theorem wm_ishl (C : cy_C G F own cc nL d rc rs) {x y : Int32} (hdg : decode cc pc = .ok (.ishl, 1)) (k : WM G F nL kc ks (pc + 1) lv (.int (x <<< (y &&& 31)) :: st) M) : WM G F nL kc ks pc lv (.int y :: .int x :: st) M := by
  obtain ⟨p, l, e, R, s, m, args, below, meth, c, Q⟩ := F
  obtain ⟨hl0, hx, hb, -⟩ := C
  exact fun H ls locs hl9 hM hS => lv_ishl hx hb hdg (k H ls locs hl9 hM hS)
theorem wm_ishr (C : cy_C G F own cc nL d rc rs) {x y : Int32} (hdg : decode cc pc = .ok (.ishr, 1)) (k : WM G F nL kc ks (pc + 1) lv (.int (x >>> (y &&& 31)) :: st) M) : WM G F nL kc ks pc lv (.int y :: .int x :: st) M := by
  obtain ⟨p, l, e, R, s, m, args, below, meth, c, Q⟩ := F
  obtain ⟨hl0, hx, hb, -⟩ := C
  exact fun H ls locs hl9 hM hS => lv_ishr hx hb hdg (k H ls locs hl9 hM hS)
theorem wm_iushr (C : cy_C G F own cc nL d rc rs) {x y v : Int32} (hdg : decode cc pc = .ok (.iushr, 1)) (hv : (x.toUInt32 >>> (y.toUInt32 &&& Int32.toUInt32 31)).toInt32 = v) (k : WM G F nL kc ks (pc + 1) lv (.int v :: st) M) : WM G F nL kc ks pc lv (.int y :: .int x :: st) M := by
  obtain ⟨p, l, e, R, s, m, args, below, meth, c, Q⟩ := F
  obtain ⟨hl0, hx, hb, -⟩ := C
  exact fun H ls locs hl9 hM hS => lv_iushr hx hb hdg hv (k H ls locs hl9 hM hS)
theorem wm_i2b (C : cy_C G F own cc nL d rc rs) {x : Int32} {v : Int32} (hdg : decode cc pc = .ok (.i2b, 1)) (hv : x.toInt8.toInt32 = v) (k : WM G F nL kc ks (pc + 1) lv (.int v :: st) M) : WM G F nL kc ks pc lv (.int x :: st) M := by
  obtain ⟨p, l, e, R, s, m, args, below, meth, c, Q⟩ := F
  obtain ⟨hl0, hx, hb, -⟩ := C
  exact fun H ls locs hl9 hM hS => lv_i2b hx hb hdg hv (k H ls locs hl9 hM hS)
theorem wm_i2s (C : cy_C G F own cc nL d rc rs) {x : Int32} {v : Int32} (hdg : decode cc pc = .ok (.i2s, 1)) (hv : x.toInt16.toInt32 = v) (k : WM G F nL kc ks (pc + 1) lv (.int v :: st) M) : WM G F nL kc ks pc lv (.int x :: st) M := by
  obtain ⟨p, l, e, R, s, m, args, below, meth, c, Q⟩ := F
  obtain ⟨hl0, hx, hb, -⟩ := C
  exact fun H ls locs hl9 hM hS => lv_i2s hx hb hdg hv (k H ls locs hl9 hM hS)
theorem wm_i2c (C : cy_C G F own cc nL d rc rs) {x : Int32} {v : Int32} (hdg : decode cc pc = .ok (.i2c, 1)) (hv : (x.toUInt32 % 65536).toInt32 = v) (k : WM G F nL kc ks (pc + 1) lv (.int v :: st) M) : WM G F nL kc ks pc lv (.int x :: st) M := by
  obtain ⟨p, l, e, R, s, m, args, below, meth, c, Q⟩ := F
  obtain ⟨hl0, hx, hb, -⟩ := C
  exact fun H ls locs hl9 hM hS => lv_i2c hx hb hdg hv (k H ls locs hl9 hM hS)
theorem wm_dup (C : cy_C G F own cc nL d rc rs) {va : Value} (hdg : decode cc pc = .ok (.dup, 1)) (hva : va.category = 1) (k : WM G F nL kc ks (pc + 1) lv (va :: va :: st) M) : WM G F nL kc ks pc lv (va :: st) M := by
  obtain ⟨p, l, e, R, s, m, args, below, meth, c, Q⟩ := F
  obtain ⟨hl0, hx, hb, -⟩ := C
  exact fun H ls locs hl9 hM hS => lv_dup hx hb hdg hva (k H ls locs hl9 hM hS)
theorem wm_pop (C : cy_C G F own cc nL d rc rs) {va : Value} (hdg : decode cc pc = .ok (.pop, 1)) (hva : va.category = 1) (k : WM G F nL kc ks (pc + 1) lv (st) M) : WM G F nL kc ks pc lv (va :: st) M := by
  obtain ⟨p, l, e, R, s, m, args, below, meth, c, Q⟩ := F
  obtain ⟨hl0, hx, hb, -⟩ := C
  exact fun H ls locs hl9 hM hS => lv_pop hx hb hdg hva (k H ls locs hl9 hM hS)
theorem wm_dup_x1 (C : cy_C G F own cc nL d rc rs) {va vb : Value} (hdg : decode cc pc = .ok (.dup_x1, 1)) (hva : va.category = 1) (hvb : vb.category = 1) (k : WM G F nL kc ks (pc + 1) lv (va :: vb :: va :: st) M) : WM G F nL kc ks pc lv (va :: vb :: st) M := by
  obtain ⟨p, l, e, R, s, m, args, below, meth, c, Q⟩ := F
  obtain ⟨hl0, hx, hb, -⟩ := C
  exact fun H ls locs hl9 hM hS => lv_dup_x1 hx hb hdg hva hvb (k H ls locs hl9 hM hS)
theorem wm_dup_x2 (C : cy_C G F own cc nL d rc rs) {va vb vd : Value} (hdg : decode cc pc = .ok (.dup_x2, 1)) (hva : va.category = 1) (hvb : vb.category = 1) (hvd : vd.category = 1) (k : WM G F nL kc ks (pc + 1) lv (va :: vb :: vd :: va :: st) M) : WM G F nL kc ks pc lv (va :: vb :: vd :: st) M := by
  obtain ⟨p, l, e, R, s, m, args, below, meth, c, Q⟩ := F
  obtain ⟨hl0, hx, hb, -⟩ := C
  exact fun H ls locs hl9 hM hS => lv_dup_x2 hx hb hdg hva hvb hvd (k H ls locs hl9 hM hS)
theorem wm_dup2_11 (C : cy_C G F own cc nL d rc rs) {va vb : Value} (hdg : decode cc pc = .ok (.dup2, 1)) (hva : va.category = 1) (hvb : vb.category = 1) (k : WM G F nL kc ks (pc + 1) lv (va :: vb :: va :: vb :: st) M) : WM G F nL kc ks pc lv (va :: vb :: st) M := by
  obtain ⟨p, l, e, R, s, m, args, below, meth, c, Q⟩ := F
  obtain ⟨hl0, hx, hb, -⟩ := C
  exact fun H ls locs hl9 hM hS => lv_dup2_11 hx hb hdg hva hvb (k H ls locs hl9 hM hS)
theorem wm_if_eq (C : cy_C G F own cc nL d rc rs) {x : Int32} {off : Int} {tgt : Nat} (hdg : decode cc pc = .ok (.ifCond .eq off, 3)) (ht : (pc : Int) + off = (tgt : Int)) (kt : x = 0 → WM G F nL kc ks tgt lv st M) (kf : ¬ x = 0 → WM G F nL kc ks (pc + 3) lv st M) : WM G F nL kc ks pc lv (.int x :: st) M := by
  obtain ⟨p, l, e, R, s, m, args, below, meth, c, Q⟩ := F
  obtain ⟨hl0, hx, hb, -⟩ := C
  exact fun H ls locs hl9 hM hS => lv_if_eq hx hb hdg ht (fun h9 => kt h9 H ls locs hl9 hM hS) (fun h9 => kf h9 H ls locs hl9 hM hS)
theorem wm_icmp_eq (C : cy_C G F own cc nL d rc rs) {x y : Int32} {off : Int} {tgt : Nat} (hdg : decode cc pc = .ok (.if_icmp .eq off, 3)) (ht : (pc : Int) + off = (tgt : Int)) (kt : x = y → WM G F nL kc ks tgt lv st M) (kf : ¬ x = y → WM G F nL kc ks (pc + 3) lv st M) : WM G F nL kc ks pc lv (.int y :: .int x :: st) M := by
  obtain ⟨p, l, e, R, s, m, args, below, meth, c, Q⟩ := F
  obtain ⟨hl0, hx, hb, -⟩ := C
  exact fun H ls locs hl9 hM hS => lv_icmp_eq hx hb hdg ht (fun h9 => kt h9 H ls locs hl9 hM hS) (fun h9 => kf h9 H ls locs hl9 hM hS)
theorem wm_if_ne (C : cy_C G F own cc nL d rc rs) {x : Int32} {off : Int} {tgt : Nat} (hdg : decode cc pc = .ok (.ifCond .ne off, 3)) (ht : (pc : Int) + off = (tgt : Int)) (kt : ¬ x = 0 → WM G F nL kc ks tgt lv st M) (kf : x = 0 → WM G F nL kc ks (pc + 3) lv st M) : WM G F nL kc ks pc lv (.int x :: st) M := by
  obtain ⟨p, l, e, R, s, m, args, below, meth, c, Q⟩ := F
  obtain ⟨hl0, hx, hb, -⟩ := C
  exact fun H ls locs hl9 hM hS => lv_if_ne hx hb hdg ht (fun h9 => kt h9 H ls locs hl9 hM hS) (fun h9 => kf h9 H ls locs hl9 hM hS)
theorem wm_icmp_ne (C : cy_C G F own cc nL d rc rs) {x y : Int32} {off : Int} {tgt : Nat} (hdg : decode cc pc = .ok (.if_icmp .ne off, 3)) (ht : (pc : Int) + off = (tgt : Int)) (kt : ¬ x = y → WM G F nL kc ks tgt lv st M) (kf : x = y → WM G F nL kc ks (pc + 3) lv st M) : WM G F nL kc ks pc lv (.int y :: .int x :: st) M := by
  obtain ⟨p, l, e, R, s, m, args, below, meth, c, Q⟩ := F
  obtain ⟨hl0, hx, hb, -⟩ := C
  exact fun H ls locs hl9 hM hS => lv_icmp_ne hx hb hdg ht (fun h9 => kt h9 H ls locs hl9 hM hS) (fun h9 => kf h9 H ls locs hl9 hM hS)
theorem wm_if_lt (C : cy_C G F own cc nL d rc rs) {x : Int32} {off : Int} {tgt : Nat} (hdg : decode cc pc = .ok (.ifCond .lt off, 3)) (ht : (pc : Int) + off = (tgt : Int)) (kt : x < 0 → WM G F nL kc ks tgt lv st M) (kf : ¬ x < 0 → WM G F nL kc ks (pc + 3) lv st M) : WM G F nL kc ks pc lv (.int x :: st) M := by
  obtain ⟨p, l, e, R, s, m, args, below, meth, c, Q⟩ := F
  obtain ⟨hl0, hx, hb, -⟩ := C
  exact fun H ls locs hl9 hM hS => lv_if_lt hx hb hdg ht (fun h9 => kt h9 H ls locs hl9 hM hS) (fun h9 => kf h9 H ls locs hl9 hM hS)
theorem wm_icmp_lt (C : cy_C G F own cc nL d rc rs) {x y : Int32} {off : Int} {tgt : Nat} (hdg : decode cc pc = .ok (.if_icmp .lt off, 3)) (ht : (pc : Int) + off = (tgt : Int)) (kt : x < y → WM G F nL kc ks tgt lv st M) (kf : ¬ x < y → WM G F nL kc ks (pc + 3) lv st M) : WM G F nL kc ks pc lv (.int y :: .int x :: st) M := by
  obtain ⟨p, l, e, R, s, m, args, below, meth, c, Q⟩ := F
  obtain ⟨hl0, hx, hb, -⟩ := C
  exact fun H ls locs hl9 hM hS => lv_icmp_lt hx hb hdg ht (fun h9 => kt h9 H ls locs hl9 hM hS) (fun h9 => kf h9 H ls locs hl9 hM hS)
theorem wm_if_ge (C : cy_C G F own cc nL d rc rs) {x : Int32} {off : Int} {tgt : Nat} (hdg : decode cc pc = .ok (.ifCond .ge off, 3)) (ht : (pc : Int) + off = (tgt : Int)) (kt : 0 ≤ x → WM G F nL kc ks tgt lv st M) (kf : ¬ 0 ≤ x → WM G F nL kc ks (pc + 3) lv st M) : WM G F nL kc ks pc lv (.int x :: st) M := by
  obtain ⟨p, l, e, R, s, m, args, below, meth, c, Q⟩ := F
  obtain ⟨hl0, hx, hb, -⟩ := C
  exact fun H ls locs hl9 hM hS => lv_if_ge hx hb hdg ht (fun h9 => kt h9 H ls locs hl9 hM hS) (fun h9 => kf h9 H ls locs hl9 hM hS)
theorem wm_icmp_ge (C : cy_C G F own cc nL d rc rs) {x y : Int32} {off : Int} {tgt : Nat} (hdg : decode cc pc = .ok (.if_icmp .ge off, 3)) (ht : (pc : Int) + off = (tgt : Int)) (kt : y ≤ x → WM G F nL kc ks tgt lv st M) (kf : ¬ y ≤ x → WM G F nL kc ks (pc + 3) lv st M) : WM G F nL kc ks pc lv (.int y :: .int x :: st) M := by
  obtain ⟨p, l, e, R, s, m, args, below, meth, c, Q⟩ := F
  obtain ⟨hl0, hx, hb, -⟩ := C
  exact fun H ls locs hl9 hM hS => lv_icmp_ge hx hb hdg ht (fun h9 => kt h9 H ls locs hl9 hM hS) (fun h9 => kf h9 H ls locs hl9 hM hS)
theorem wm_if_gt (C : cy_C G F own cc nL d rc rs) {x : Int32} {off : Int} {tgt : Nat} (hdg : decode cc pc = .ok (.ifCond .gt off, 3)) (ht : (pc : Int) + off = (tgt : Int)) (kt : 0 < x → WM G F nL kc ks tgt lv st M) (kf : ¬ 0 < x → WM G F nL kc ks (pc + 3) lv st M) : WM G F nL kc ks pc lv (.int x :: st) M := by
  obtain ⟨p, l, e, R, s, m, args, below, meth, c, Q⟩ := F
  obtain ⟨hl0, hx, hb, -⟩ := C
  exact fun H ls locs hl9 hM hS => lv_if_gt hx hb hdg ht (fun h9 => kt h9 H ls locs hl9 hM hS) (fun h9 => kf h9 H ls locs hl9 hM hS)
theorem wm_icmp_gt (C : cy_C G F own cc nL d rc rs) {x y : Int32} {off : Int} {tgt : Nat} (hdg : decode cc pc = .ok (.if_icmp .gt off, 3)) (ht : (pc : Int) + off = (tgt : Int)) (kt : y < x → WM G F nL kc ks tgt lv st M) (kf : ¬ y < x → WM G F nL kc ks (pc + 3) lv st M) : WM G F nL kc ks pc lv (.int y :: .int x :: st) M := by
  obtain ⟨p, l, e, R, s, m, args, below, meth, c, Q⟩ := F
  obtain ⟨hl0, hx, hb, -⟩ := C
  exact fun H ls locs hl9 hM hS => lv_icmp_gt hx hb hdg ht (fun h9 => kt h9 H ls locs hl9 hM hS) (fun h9 => kf h9 H ls locs hl9 hM hS)
theorem wm_if_le (C : cy_C G F own cc nL d rc rs) {x : Int32} {off : Int} {tgt : Nat} (hdg : decode cc pc = .ok (.ifCond .le off, 3)) (ht : (pc : Int) + off = (tgt : Int)) (kt : x ≤ 0 → WM G F nL kc ks tgt lv st M) (kf : ¬ x ≤ 0 → WM G F nL kc ks (pc + 3) lv st M) : WM G F nL kc ks pc lv (.int x :: st) M := by
  obtain ⟨p, l, e, R, s, m, args, below, meth, c, Q⟩ := F
  obtain ⟨hl0, hx, hb, -⟩ := C
  exact fun H ls locs hl9 hM hS => lv_if_le hx hb hdg ht (fun h9 => kt h9 H ls locs hl9 hM hS) (fun h9 => kf h9 H ls locs hl9 hM hS)
theorem wm_icmp_le (C : cy_C G F own cc nL d rc rs) {x y : Int32} {off : Int} {tgt : Nat} (hdg : decode cc pc = .ok (.if_icmp .le off, 3)) (ht : (pc : Int) + off = (tgt : Int)) (kt : x ≤ y → WM G F nL kc ks tgt lv st M) (kf : ¬ x ≤ y → WM G F nL kc ks (pc + 3) lv st M) : WM G F nL kc ks pc lv (.int y :: .int x :: st) M := by
  obtain ⟨p, l, e, R, s, m, args, below, meth, c, Q⟩ := F
  obtain ⟨hl0, hx, hb, -⟩ := C
  exact fun H ls locs hl9 hM hS => lv_icmp_le hx hb hdg ht (fun h9 => kt h9 H ls locs hl9 hM hS) (fun h9 => kf h9 H ls locs hl9 hM hS)
theorem wm_goto (C : cy_C G F own cc nL d rc rs) {off : Int} {tgt : Nat} (hdg : decode cc pc = .ok (.goto off, 3)) (ht : (pc : Int) + off = (tgt : Int)) (k : WM G F nL kc ks tgt lv st M) : WM G F nL kc ks pc lv st M := by
  obtain ⟨p, l, e, R, s, m, args, below, meth, c, Q⟩ := F
  obtain ⟨hl0, hx, hb, -⟩ := C
  exact fun H ls locs hl9 hM hS => lv_goto hx hb hdg ht (k H ls locs hl9 hM hS)
theorem wm_ifnonnull (C : cy_C G F own cc nL d rc rs) {x : Nat} {off : Int} {tgt : Nat} (hdg : decode cc pc = .ok (.ifnonnull off, 3)) (ht : (pc : Int) + off = (tgt : Int)) (k : WM G F nL kc ks tgt lv st M) : WM G F nL kc ks pc lv (.ref x :: st) M := by
  obtain ⟨p, l, e, R, s, m, args, below, meth, c, Q⟩ := F
  obtain ⟨hl0, hx, hb, -⟩ := C
  exact fun H ls locs hl9 hM hS => lv_ifnonnull hx hb hdg ht (k H ls locs hl9 hM hS)
theorem wm_ifnull (C : cy_C G F own cc nL d rc rs) {x : Nat} {off : Int} (hdg : decode cc pc = .ok (.ifnull off, 3)) (k : WM G F nL kc ks (pc + 3) lv st M) : WM G F nL kc ks pc lv (.ref x :: st) M := by
  obtain ⟨p, l, e, R, s, m, args, below, meth, c, Q⟩ := F
  obtain ⟨hl0, hx, hb, -⟩ := C
  exact fun H ls locs hl9 hM hS => lv_ifnull hx hb hdg (k H ls locs hl9 hM hS)
theorem wm_null (C : cy_C G F own cc nL d rc rs) (hdg : decode cc pc = .ok (.aconst_null, 1)) (k : WM G F nL kc ks (pc + 1) lv (.null :: st) M) : WM G F nL kc ks pc lv st M := by
  obtain ⟨p, l, e, R, s, m, args, below, meth, c, Q⟩ := F
  obtain ⟨hl0, hx, hb, -⟩ := C
  exact fun H ls locs hl9 hM hS => lv_null hx hb hdg (k H ls locs hl9 hM hS)
theorem wm_ifnullN (C : cy_C G F own cc nL d rc rs) {off : Int} {tgt : Nat} (hdg : decode cc pc = .ok (.ifnull off, 3)) (ht : (pc : Int) + off = (tgt : Int)) (k : WM G F nL kc ks tgt lv st M) : WM G F nL kc ks pc lv (.null :: st) M := by
  obtain ⟨p, l, e, R, s, m, args, below, meth, c, Q⟩ := F
  obtain ⟨hl0, hx, hb, -⟩ := C
  exact fun H ls locs hl9 hM hS => lv_ifnullN hx hb hdg ht (k H ls locs hl9 hM hS)
theorem wm_ifnonnullN (C : cy_C G F own cc nL d rc rs) {off : Int} (hdg : decode cc pc = .ok (.ifnonnull off, 3)) (k : WM G F nL kc ks (pc + 3) lv st M) : WM G F nL kc ks pc lv (.null :: st) M := by
  obtain ⟨p, l, e, R, s, m, args, below, meth, c, Q⟩ := F
  obtain ⟨hl0, hx, hb, -⟩ := C
  exact fun H ls locs hl9 hM hS => lv_ifnonnullN hx hb hdg (k H ls locs hl9 hM hS)
theorem wm_lookup (C : cy_C G F own cc nL d rc rs) {dflt : Int} {ps : Array (Int × Int)} {len : Nat} {x : Int32} {off : Int} {tgt : Nat} (hdg : decode cc pc = .ok (.lookupswitch dflt ps, len)) (hp : (ps.toList.zip (ps.toList.drop 1)).all (fun (a, next) => a.1 < next.1) = true) (ho : Op.lookupswitch.offset ps.toList dflt x.toInt = off) (ht : (pc : Int) + off = (tgt : Int)) (k : WM G F nL kc ks tgt lv st M) : WM G F nL kc ks pc lv (.int x :: st) M := by
  obtain ⟨p, l, e, R, s, m, args, below, meth, c, Q⟩ := F
  obtain ⟨hl0, hx, hb, -⟩ := C
  exact fun H ls locs hl9 hM hS => lv_lookup hx hb hdg hp ho ht (k H ls locs hl9 hM hS)
theorem wm_tableOut (C : cy_C G F own cc nL d rc rs) {dflt lo hi : Int} {offs : Array Int} {len : Nat} {x : Int32} {tgt : Nat} (hdg : decode cc pc = .ok (.tableswitch dflt lo hi offs, len)) (h : x.toInt < lo ∨ hi < x.toInt) (ht : (pc : Int) + dflt = (tgt : Int)) (k : WM G F nL kc ks tgt lv st M) : WM G F nL kc ks pc lv (.int x :: st) M := by
  obtain ⟨p, l, e, R, s, m, args, below, meth, c, Q⟩ := F
  obtain ⟨hl0, hx, hb, -⟩ := C
  exact fun H ls locs hl9 hM hS => lv_tableOut hx hb hdg h ht (k H ls locs hl9 hM hS)
theorem wm_tableIn (C : cy_C G F own cc nL d rc rs) {dflt lo hi : Int} {offs : Array Int} {len : Nat} {x : Int32} {off : Int} {tgt : Nat} (hdg : decode cc pc = .ok (.tableswitch dflt lo hi offs, len)) (h1 : ¬ x.toInt < lo) (h2 : ¬ hi < x.toInt) (ho : offs[(x.toInt - lo).toNat]? = some off) (ht : (pc : Int) + off = (tgt : Int)) (k : WM G F nL kc ks tgt lv st M) : WM G F nL kc ks pc lv (.int x :: st) M := by
  obtain ⟨p, l, e, R, s, m, args, below, meth, c, Q⟩ := F
  obtain ⟨hl0, hx, hb, -⟩ := C
  exact fun H ls locs hl9 hM hS => lv_tableIn hx hb hdg h1 h2 ho ht (k H ls locs hl9 hM hS)
theorem wm_acmp_eq (C : cy_C G F own cc nL d rc rs) {rx ry : Option Nat} {off : Int} {tgt : Nat} (hdg : decode cc pc = .ok (.if_acmp .eq off, 3)) (ht : (pc : Int) + off = (tgt : Int)) (kt : rx = ry → WM G F nL kc ks tgt lv st M) (kf : ¬ rx = ry → WM G F nL kc ks (pc + 3) lv st M) : WM G F nL kc ks pc lv (va_rf ry :: va_rf rx :: st) M := by
  obtain ⟨p, l, e, R, s, m, args, below, meth, c, Q⟩ := F
  obtain ⟨hl0, hx, hb, -⟩ := C
  exact fun H ls locs hl9 hM hS => lv_acmp_eq hx hb hdg ht (fun h9 => kt h9 H ls locs hl9 hM hS) (fun h9 => kf h9 H ls locs hl9 hM hS)
theorem wm_acmp_ne (C : cy_C G F own cc nL d rc rs) {rx ry : Option Nat} {off : Int} {tgt : Nat} (hdg : decode cc pc = .ok (.if_acmp .ne off, 3)) (ht : (pc : Int) + off = (tgt : Int)) (kt : ¬ rx = ry → WM G F nL kc ks tgt lv st M) (kf : rx = ry → WM G F nL kc ks (pc + 3) lv st M) : WM G F nL kc ks pc lv (va_rf ry :: va_rf rx :: st) M := by
  obtain ⟨p, l, e, R, s, m, args, below, meth, c, Q⟩ := F
  obtain ⟨hl0, hx, hb, -⟩ := C
  exact fun H ls locs hl9 hM hS => lv_acmp_ne hx hb hdg ht (fun h9 => kt h9 H ls locs hl9 hM hS) (fun h9 => kf h9 H ls locs hl9 hM hS)
end CYL
