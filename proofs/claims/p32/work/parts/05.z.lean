section ZB
variable {E : EV} {y : MethodName} {cc : ByteArray} {nL : Nat} {ret : Option FieldType} {lev : Nat} {h : AS} {pc : Nat} {lv : List (Nat × Value)} {rest : List Value} {sh : Sh} {d : Dt} {ρ : Type} {A B : Option ρ} {r : ρ}
theorem z_iload (k : Nat) {i : Nat} {x : Int32} (hdg : decode cc pc = .ok (.iload i, 2)) (hk : lv[k]? = some (i, .int x)) (kk : Z E y cc nL ret lev h (pc + 2) lv (.int x :: rest)) : Z E y cc nL ret lev h pc lv rest := z_pass (fun _ _ _ _ _ _ _ _ _ _ _ _ _ _ _ _ hx hb _ _ hl k9 => lv_iload hx hb hdg (lv_at hl k hk) (k9 _ hl)) kk
theorem z_iload_n (k : Nat) {n : Fin 4} {i : Nat} {x : Int32} (hdg : decode cc pc = .ok (.iload_n n, 1)) (hi : (n : Nat) = i) (hk : lv[k]? = some (i, .int x)) (kk : Z E y cc nL ret lev h (pc + 1) lv (.int x :: rest)) : Z E y cc nL ret lev h pc lv rest := z_pass (fun _ _ _ _ _ _ _ _ _ _ _ _ _ _ _ _ hx hb _ _ hl k9 => lv_iload_n hx hb hdg hi (lv_at hl k hk) (k9 _ hl)) kk
theorem z_istore (lv' : List (Nat × Value)) {i : Nat} {x : Int32} (hdg : decode cc pc = .ok (.istore i, 2)) (hn : i < nL) (hl9 : (i, Value.int x) :: lv.filter (fun q => !(q.1 == i) && !(q.1 + 1 == i && q.2.category == 2)) = lv') (kk : Z E y cc nL ret lev h (pc + 2) lv' rest) : Z E y cc nL ret lev h pc lv (.int x :: rest) := z_pass (fun _ _ _ _ _ _ _ _ _ _ _ _ _ _ _ _ hx hb _ _ hl k9 => lv_istore hx hb hdg hl hn hl9 (fun ls' h' => k9 ls' h')) kk
theorem z_istore_n (lv' : List (Nat × Value)) {n : Fin 4} {i : Nat} {x : Int32} (hdg : decode cc pc = .ok (.istore_n n, 1)) (hi : (n : Nat) = i) (hn : i < nL) (hl9 : (i, Value.int x) :: lv.filter (fun q => !(q.1 == i) && !(q.1 + 1 == i && q.2.category == 2)) = lv') (kk : Z E y cc nL ret lev h (pc + 1) lv' rest) : Z E y cc nL ret lev h pc lv (.int x :: rest) := z_pass (fun _ _ _ _ _ _ _ _ _ _ _ _ _ _ _ _ hx hb _ _ hl k9 => lv_istore_n hx hb hdg hi hl hn hl9 (fun ls' h' => k9 ls' h')) kk
theorem z_lload (k : Nat) {i : Nat} {x : Int64} (hdg : decode cc pc = .ok (.lload i, 2)) (hk : lv[k]? = some (i, .long x)) (kk : Z E y cc nL ret lev h (pc + 2) lv (.long x :: rest)) : Z E y cc nL ret lev h pc lv rest := z_pass (fun _ _ _ _ _ _ _ _ _ _ _ _ _ _ _ _ hx hb _ _ hl k9 => lv_lload hx hb hdg (lv_at hl k hk) (k9 _ hl)) kk
theorem z_lload_n (k : Nat) {n : Fin 4} {i : Nat} {x : Int64} (hdg : decode cc pc = .ok (.lload_n n, 1)) (hi : (n : Nat) = i) (hk : lv[k]? = some (i, .long x)) (kk : Z E y cc nL ret lev h (pc + 1) lv (.long x :: rest)) : Z E y cc nL ret lev h pc lv rest := z_pass (fun _ _ _ _ _ _ _ _ _ _ _ _ _ _ _ _ hx hb _ _ hl k9 => lv_lload_n hx hb hdg hi (lv_at hl k hk) (k9 _ hl)) kk
theorem z_lstore (lv' : List (Nat × Value)) {i : Nat} {x : Int64} (hdg : decode cc pc = .ok (.lstore i, 2)) (hn : i + 1 < nL) (hl9 : (i, Value.long x) :: lv.filter (fun q => !(q.1 == i) && (!(q.1 == i + 1) && !(q.1 + 1 == i && q.2.category == 2))) = lv') (kk : Z E y cc nL ret lev h (pc + 2) lv' rest) : Z E y cc nL ret lev h pc lv (.long x :: rest) := z_pass (fun _ _ _ _ _ _ _ _ _ _ _ _ _ _ _ _ hx hb _ _ hl k9 => lv_lstore hx hb hdg hl hn hl9 (fun ls' h' => k9 ls' h')) kk
theorem z_lstore_n (lv' : List (Nat × Value)) {n : Fin 4} {i : Nat} {x : Int64} (hdg : decode cc pc = .ok (.lstore_n n, 1)) (hi : (n : Nat) = i) (hn : i + 1 < nL) (hl9 : (i, Value.long x) :: lv.filter (fun q => !(q.1 == i) && (!(q.1 == i + 1) && !(q.1 + 1 == i && q.2.category == 2))) = lv') (kk : Z E y cc nL ret lev h (pc + 1) lv' rest) : Z E y cc nL ret lev h pc lv (.long x :: rest) := z_pass (fun _ _ _ _ _ _ _ _ _ _ _ _ _ _ _ _ hx hb _ _ hl k9 => lv_lstore_n hx hb hdg hi hl hn hl9 (fun ls' h' => k9 ls' h')) kk
theorem z_fload (k : Nat) {i : Nat} {x : UInt32} (hdg : decode cc pc = .ok (.fload i, 2)) (hk : lv[k]? = some (i, .float x)) (kk : Z E y cc nL ret lev h (pc + 2) lv (.float x :: rest)) : Z E y cc nL ret lev h pc lv rest := z_pass (fun _ _ _ _ _ _ _ _ _ _ _ _ _ _ _ _ hx hb _ _ hl k9 => lv_fload hx hb hdg (lv_at hl k hk) (k9 _ hl)) kk
theorem z_fload_n (k : Nat) {n : Fin 4} {i : Nat} {x : UInt32} (hdg : decode cc pc = .ok (.fload_n n, 1)) (hi : (n : Nat) = i) (hk : lv[k]? = some (i, .float x)) (kk : Z E y cc nL ret lev h (pc + 1) lv (.float x :: rest)) : Z E y cc nL ret lev h pc lv rest := z_pass (fun _ _ _ _ _ _ _ _ _ _ _ _ _ _ _ _ hx hb _ _ hl k9 => lv_fload_n hx hb hdg hi (lv_at hl k hk) (k9 _ hl)) kk
theorem z_fstore (lv' : List (Nat × Value)) {i : Nat} {x : UInt32} (hdg : decode cc pc = .ok (.fstore i, 2)) (hn : i < nL) (hl9 : (i, Value.float x) :: lv.filter (fun q => !(q.1 == i) && !(q.1 + 1 == i && q.2.category == 2)) = lv') (kk : Z E y cc nL ret lev h (pc + 2) lv' rest) : Z E y cc nL ret lev h pc lv (.float x :: rest) := z_pass (fun _ _ _ _ _ _ _ _ _ _ _ _ _ _ _ _ hx hb _ _ hl k9 => lv_fstore hx hb hdg hl hn hl9 (fun ls' h' => k9 ls' h')) kk
theorem z_fstore_n (lv' : List (Nat × Value)) {n : Fin 4} {i : Nat} {x : UInt32} (hdg : decode cc pc = .ok (.fstore_n n, 1)) (hi : (n : Nat) = i) (hn : i < nL) (hl9 : (i, Value.float x) :: lv.filter (fun q => !(q.1 == i) && !(q.1 + 1 == i && q.2.category == 2)) = lv') (kk : Z E y cc nL ret lev h (pc + 1) lv' rest) : Z E y cc nL ret lev h pc lv (.float x :: rest) := z_pass (fun _ _ _ _ _ _ _ _ _ _ _ _ _ _ _ _ hx hb _ _ hl k9 => lv_fstore_n hx hb hdg hi hl hn hl9 (fun ls' h' => k9 ls' h')) kk
theorem z_aload (k : Nat) {i : Nat} {x : Nat} (hdg : decode cc pc = .ok (.aload i, 2)) (hk : lv[k]? = some (i, .ref x)) (kk : Z E y cc nL ret lev h (pc + 2) lv (.ref x :: rest)) : Z E y cc nL ret lev h pc lv rest := z_pass (fun _ _ _ _ _ _ _ _ _ _ _ _ _ _ _ _ hx hb _ _ hl k9 => lv_aload hx hb hdg (lv_at hl k hk) (k9 _ hl)) kk
theorem z_aload_n (k : Nat) {n : Fin 4} {i : Nat} {x : Nat} (hdg : decode cc pc = .ok (.aload_n n, 1)) (hi : (n : Nat) = i) (hk : lv[k]? = some (i, .ref x)) (kk : Z E y cc nL ret lev h (pc + 1) lv (.ref x :: rest)) : Z E y cc nL ret lev h pc lv rest := z_pass (fun _ _ _ _ _ _ _ _ _ _ _ _ _ _ _ _ hx hb _ _ hl k9 => lv_aload_n hx hb hdg hi (lv_at hl k hk) (k9 _ hl)) kk
theorem z_astore (lv' : List (Nat × Value)) {i : Nat} {x : Nat} (hdg : decode cc pc = .ok (.astore i, 2)) (hn : i < nL) (hl9 : (i, Value.ref x) :: lv.filter (fun q => !(q.1 == i) && !(q.1 + 1 == i && q.2.category == 2)) = lv') (kk : Z E y cc nL ret lev h (pc + 2) lv' rest) : Z E y cc nL ret lev h pc lv (.ref x :: rest) := z_pass (fun _ _ _ _ _ _ _ _ _ _ _ _ _ _ _ _ hx hb _ _ hl k9 => lv_astore hx hb hdg hl hn hl9 (fun ls' h' => k9 ls' h')) kk
theorem z_astore_n (lv' : List (Nat × Value)) {n : Fin 4} {i : Nat} {x : Nat} (hdg : decode cc pc = .ok (.astore_n n, 1)) (hi : (n : Nat) = i) (hn : i < nL) (hl9 : (i, Value.ref x) :: lv.filter (fun q => !(q.1 == i) && !(q.1 + 1 == i && q.2.category == 2)) = lv') (kk : Z E y cc nL ret lev h (pc + 1) lv' rest) : Z E y cc nL ret lev h pc lv (.ref x :: rest) := z_pass (fun _ _ _ _ _ _ _ _ _ _ _ _ _ _ _ _ hx hb _ _ hl k9 => lv_astore_n hx hb hdg hi hl hn hl9 (fun ls' h' => k9 ls' h')) kk
theorem z_iinc (lv' : List (Nat × Value)) (k : Nat) (v : Int32) {i : Nat} {n : Int} {x : Int32} (hdg : decode cc pc = .ok (.iinc i n, 3)) (hk : lv[k]? = some (i, .int x)) (hv : x + Int32.ofInt n = v) (hn : i < nL) (hl9 : (i, Value.int v) :: lv.filter (fun q => !(q.1 == i) && !(q.1 + 1 == i && q.2.category == 2)) = lv') (kk : Z E y cc nL ret lev h (pc + 3) lv' rest) : Z E y cc nL ret lev h pc lv rest := z_pass (fun _ _ _ _ _ _ _ _ _ _ _ _ _ _ _ _ hx hb _ _ hl k9 => lv_iinc hx hb hdg hl hk hv hn hl9 (fun ls' h' => k9 ls' h')) kk
theorem z_iadd {x : Int32} {y9 : Int32} (hdg : decode cc pc = .ok (.iadd, 1)) (kk : Z E y cc nL ret lev h (pc + 1) lv (.int (x + y9) :: rest)) : Z E y cc nL ret lev h pc lv (.int y9 :: .int x :: rest) := z_pass (fun _ _ _ _ _ _ _ _ _ _ _ _ _ _ _ _ hx hb _ _ hl k9 => lv_iadd hx hb hdg (k9 _ hl)) kk
theorem z_isub {x : Int32} {y9 : Int32} (hdg : decode cc pc = .ok (.isub, 1)) (kk : Z E y cc nL ret lev h (pc + 1) lv (.int (x - y9) :: rest)) : Z E y cc nL ret lev h pc lv (.int y9 :: .int x :: rest) := z_pass (fun _ _ _ _ _ _ _ _ _ _ _ _ _ _ _ _ hx hb _ _ hl k9 => lv_isub hx hb hdg (k9 _ hl)) kk
theorem z_imul {x : Int32} {y9 : Int32} (hdg : decode cc pc = .ok (.imul, 1)) (kk : Z E y cc nL ret lev h (pc + 1) lv (.int (x * y9) :: rest)) : Z E y cc nL ret lev h pc lv (.int y9 :: .int x :: rest) := z_pass (fun _ _ _ _ _ _ _ _ _ _ _ _ _ _ _ _ hx hb _ _ hl k9 => lv_imul hx hb hdg (k9 _ hl)) kk
theorem z_iand {x : Int32} {y9 : Int32} (hdg : decode cc pc = .ok (.iand, 1)) (kk : Z E y cc nL ret lev h (pc + 1) lv (.int (x &&& y9) :: rest)) : Z E y cc nL ret lev h pc lv (.int y9 :: .int x :: rest) := z_pass (fun _ _ _ _ _ _ _ _ _ _ _ _ _ _ _ _ hx hb _ _ hl k9 => lv_iand hx hb hdg (k9 _ hl)) kk
theorem z_ior {x : Int32} {y9 : Int32} (hdg : decode cc pc = .ok (.ior, 1)) (kk : Z E y cc nL ret lev h (pc + 1) lv (.int (x ||| y9) :: rest)) : Z E y cc nL ret lev h pc lv (.int y9 :: .int x :: rest) := z_pass (fun _ _ _ _ _ _ _ _ _ _ _ _ _ _ _ _ hx hb _ _ hl k9 => lv_ior hx hb hdg (k9 _ hl)) kk
theorem z_ixor {x : Int32} {y9 : Int32} (hdg : decode cc pc = .ok (.ixor, 1)) (kk : Z E y cc nL ret lev h (pc + 1) lv (.int (x ^^^ y9) :: rest)) : Z E y cc nL ret lev h pc lv (.int y9 :: .int x :: rest) := z_pass (fun _ _ _ _ _ _ _ _ _ _ _ _ _ _ _ _ hx hb _ _ hl k9 => lv_ixor hx hb hdg (k9 _ hl)) kk
theorem z_ishl {x : Int32} {y9 : Int32} (hdg : decode cc pc = .ok (.ishl, 1)) (kk : Z E y cc nL ret lev h (pc + 1) lv (.int (x <<< (y9 &&& 31)) :: rest)) : Z E y cc nL ret lev h pc lv (.int y9 :: .int x :: rest) := z_pass (fun _ _ _ _ _ _ _ _ _ _ _ _ _ _ _ _ hx hb _ _ hl k9 => lv_ishl hx hb hdg (k9 _ hl)) kk
theorem z_ishr {x : Int32} {y9 : Int32} (hdg : decode cc pc = .ok (.ishr, 1)) (kk : Z E y cc nL ret lev h (pc + 1) lv (.int (x >>> (y9 &&& 31)) :: rest)) : Z E y cc nL ret lev h pc lv (.int y9 :: .int x :: rest) := z_pass (fun _ _ _ _ _ _ _ _ _ _ _ _ _ _ _ _ hx hb _ _ hl k9 => lv_ishr hx hb hdg (k9 _ hl)) kk
theorem z_iushr {x : Int32} {y9 : Int32} (hdg : decode cc pc = .ok (.iushr, 1)) (kk : Z E y cc nL ret lev h (pc + 1) lv (.int ((x.toUInt32 >>> (y9.toUInt32 &&& Int32.toUInt32 31)).toInt32) :: rest)) : Z E y cc nL ret lev h pc lv (.int y9 :: .int x :: rest) := z_pass (fun _ _ _ _ _ _ _ _ _ _ _ _ _ _ _ _ hx hb _ _ hl k9 => lv_iushr hx hb hdg rfl (k9 _ hl)) kk
theorem z_ladd {x : Int64} {y9 : Int64} (hdg : decode cc pc = .ok (.ladd, 1)) (kk : Z E y cc nL ret lev h (pc + 1) lv (.long (x + y9) :: rest)) : Z E y cc nL ret lev h pc lv (.long y9 :: .long x :: rest) := z_pass (fun _ _ _ _ _ _ _ _ _ _ _ _ _ _ _ _ hx hb _ _ hl k9 => lv_ladd hx hb hdg (k9 _ hl)) kk
theorem z_lsub {x : Int64} {y9 : Int64} (hdg : decode cc pc = .ok (.lsub, 1)) (kk : Z E y cc nL ret lev h (pc + 1) lv (.long (x - y9) :: rest)) : Z E y cc nL ret lev h pc lv (.long y9 :: .long x :: rest) := z_pass (fun _ _ _ _ _ _ _ _ _ _ _ _ _ _ _ _ hx hb _ _ hl k9 => lv_lsub hx hb hdg (k9 _ hl)) kk
theorem z_lmul {x : Int64} {y9 : Int64} (hdg : decode cc pc = .ok (.lmul, 1)) (kk : Z E y cc nL ret lev h (pc + 1) lv (.long (x * y9) :: rest)) : Z E y cc nL ret lev h pc lv (.long y9 :: .long x :: rest) := z_pass (fun _ _ _ _ _ _ _ _ _ _ _ _ _ _ _ _ hx hb _ _ hl k9 => lv_lmul hx hb hdg (k9 _ hl)) kk
theorem z_land {x : Int64} {y9 : Int64} (hdg : decode cc pc = .ok (.land, 1)) (kk : Z E y cc nL ret lev h (pc + 1) lv (.long (x &&& y9) :: rest)) : Z E y cc nL ret lev h pc lv (.long y9 :: .long x :: rest) := z_pass (fun _ _ _ _ _ _ _ _ _ _ _ _ _ _ _ _ hx hb _ _ hl k9 => lv_land hx hb hdg (k9 _ hl)) kk
theorem z_lor {x : Int64} {y9 : Int64} (hdg : decode cc pc = .ok (.lor, 1)) (kk : Z E y cc nL ret lev h (pc + 1) lv (.long (x ||| y9) :: rest)) : Z E y cc nL ret lev h pc lv (.long y9 :: .long x :: rest) := z_pass (fun _ _ _ _ _ _ _ _ _ _ _ _ _ _ _ _ hx hb _ _ hl k9 => lv_lor hx hb hdg (k9 _ hl)) kk
theorem z_lxor {x : Int64} {y9 : Int64} (hdg : decode cc pc = .ok (.lxor, 1)) (kk : Z E y cc nL ret lev h (pc + 1) lv (.long (x ^^^ y9) :: rest)) : Z E y cc nL ret lev h pc lv (.long y9 :: .long x :: rest) := z_pass (fun _ _ _ _ _ _ _ _ _ _ _ _ _ _ _ _ hx hb _ _ hl k9 => lv_lxor hx hb hdg (k9 _ hl)) kk
theorem z_lshl {x : Int64} {y9 : Int32} (hdg : decode cc pc = .ok (.lshl, 1)) (kk : Z E y cc nL ret lev h (pc + 1) lv (.long (x <<< (y9.toInt64 &&& 63)) :: rest)) : Z E y cc nL ret lev h pc lv (.int y9 :: .long x :: rest) := z_pass (fun _ _ _ _ _ _ _ _ _ _ _ _ _ _ _ _ hx hb _ _ hl k9 => lv_lshl hx hb hdg rfl (k9 _ hl)) kk
theorem z_lshr {x : Int64} {y9 : Int32} (hdg : decode cc pc = .ok (.lshr, 1)) (kk : Z E y cc nL ret lev h (pc + 1) lv (.long (x >>> (y9.toInt64 &&& 63)) :: rest)) : Z E y cc nL ret lev h pc lv (.int y9 :: .long x :: rest) := z_pass (fun _ _ _ _ _ _ _ _ _ _ _ _ _ _ _ _ hx hb _ _ hl k9 => lv_lshr hx hb hdg rfl (k9 _ hl)) kk
theorem z_lushr {x : Int64} {y9 : Int32} (hdg : decode cc pc = .ok (.lushr, 1)) (kk : Z E y cc nL ret lev h (pc + 1) lv (.long ((x.toUInt64 >>> (y9.toInt64.toUInt64 &&& Int64.toUInt64 63)).toInt64) :: rest)) : Z E y cc nL ret lev h pc lv (.int y9 :: .long x :: rest) := z_pass (fun _ _ _ _ _ _ _ _ _ _ _ _ _ _ _ _ hx hb _ _ hl k9 => lv_lushr hx hb hdg rfl (k9 _ hl)) kk
theorem z_lcmp {x y9 : Int64} (hdg : decode cc pc = .ok (.lcmp, 1)) (kk : Z E y cc nL ret lev h (pc + 1) lv (.int (lg_cmp x y9) :: rest)) : Z E y cc nL ret lev h pc lv (.long y9 :: .long x :: rest) := z_pass (fun _ _ _ _ _ _ _ _ _ _ _ _ _ _ _ _ hx hb _ _ hl k9 => W.lcmp hx hb hdg (k9 _ hl)) kk
theorem z_fcmp {x y9 : UInt32} {op : CmpOp} (hdg : decode cc pc = .ok (.fcmp op, 1)) (kk : Z E y cc nL ret lev h (pc + 1) lv (.int (Op.cmpValue (FP.fcmp x y9) op) :: rest)) : Z E y cc nL ret lev h pc lv (.float y9 :: .float x :: rest) := z_pass (fun _ _ _ _ _ _ _ _ _ _ _ _ _ _ _ _ hx hb _ _ hl k9 => lv_fcmp hx hb hdg (k9 _ hl)) kk
theorem z_lneg {x : Int64} (hdg : decode cc pc = .ok (.lneg, 1)) (kk : Z E y cc nL ret lev h (pc + 1) lv (.long (-x) :: rest)) : Z E y cc nL ret lev h pc lv (.long x :: rest) := z_pass (fun _ _ _ _ _ _ _ _ _ _ _ _ _ _ _ _ hx hb _ _ hl k9 => lv_lneg hx hb hdg (k9 _ hl)) kk
theorem z_l2i {x : Int64} (hdg : decode cc pc = .ok (.l2i, 1)) (kk : Z E y cc nL ret lev h (pc + 1) lv (.int (x.toInt32) :: rest)) : Z E y cc nL ret lev h pc lv (.long x :: rest) := z_pass (fun _ _ _ _ _ _ _ _ _ _ _ _ _ _ _ _ hx hb _ _ hl k9 => lv_l2i hx hb hdg rfl (k9 _ hl)) kk
theorem z_i2l {x : Int32} (hdg : decode cc pc = .ok (.i2l, 1)) (kk : Z E y cc nL ret lev h (pc + 1) lv (.long (x.toInt64) :: rest)) : Z E y cc nL ret lev h pc lv (.int x :: rest) := z_pass (fun _ _ _ _ _ _ _ _ _ _ _ _ _ _ _ _ hx hb _ _ hl k9 => lv_i2l hx hb hdg rfl (k9 _ hl)) kk
theorem z_i2s {x : Int32} (hdg : decode cc pc = .ok (.i2s, 1)) (kk : Z E y cc nL ret lev h (pc + 1) lv (.int (x.toInt16.toInt32) :: rest)) : Z E y cc nL ret lev h pc lv (.int x :: rest) := z_pass (fun _ _ _ _ _ _ _ _ _ _ _ _ _ _ _ _ hx hb _ _ hl k9 => lv_i2s hx hb hdg rfl (k9 _ hl)) kk
theorem z_i2c {x : Int32} (hdg : decode cc pc = .ok (.i2c, 1)) (kk : Z E y cc nL ret lev h (pc + 1) lv (.int ((x.toUInt32 % 65536).toInt32) :: rest)) : Z E y cc nL ret lev h pc lv (.int x :: rest) := z_pass (fun _ _ _ _ _ _ _ _ _ _ _ _ _ _ _ _ hx hb _ _ hl k9 => lv_i2c hx hb hdg rfl (k9 _ hl)) kk
theorem z_i2f {x : Int32} (hdg : decode cc pc = .ok (.i2f, 1)) (kk : Z E y cc nL ret lev h (pc + 1) lv (.float (FP.i2f x) :: rest)) : Z E y cc nL ret lev h pc lv (.int x :: rest) := z_pass (fun _ _ _ _ _ _ _ _ _ _ _ _ _ _ _ _ hx hb _ _ hl k9 => lv_i2f hx hb hdg (k9 _ hl)) kk
theorem z_l2f {x : Int64} (hdg : decode cc pc = .ok (.l2f, 1)) (kk : Z E y cc nL ret lev h (pc + 1) lv (.float (FP.l2f x) :: rest)) : Z E y cc nL ret lev h pc lv (.long x :: rest) := z_pass (fun _ _ _ _ _ _ _ _ _ _ _ _ _ _ _ _ hx hb _ _ hl k9 => lv_l2f hx hb hdg (k9 _ hl)) kk
theorem z_f2i {x : UInt32} (hdg : decode cc pc = .ok (.f2i, 1)) (kk : Z E y cc nL ret lev h (pc + 1) lv (.int (FP.f2i x) :: rest)) : Z E y cc nL ret lev h pc lv (.float x :: rest) := z_pass (fun _ _ _ _ _ _ _ _ _ _ _ _ _ _ _ _ hx hb _ _ hl k9 => lv_f2i hx hb hdg (k9 _ hl)) kk
theorem z_f2l {x : UInt32} (hdg : decode cc pc = .ok (.f2l, 1)) (kk : Z E y cc nL ret lev h (pc + 1) lv (.long (FP.f2l x) :: rest)) : Z E y cc nL ret lev h pc lv (.float x :: rest) := z_pass (fun _ _ _ _ _ _ _ _ _ _ _ _ _ _ _ _ hx hb _ _ hl k9 => lv_f2l hx hb hdg (k9 _ hl)) kk
def o_idiv (x y9 : Int32) : Option Int32 := if y9 = 0 then none else some (x / y9)
def o_irem (x y9 : Int32) : Option Int32 := if y9 = 0 then none else some (x - x / y9 * y9)
def o_lrem (x y9 : Int64) : Option Int64 := if y9 = 0 then none else some (x - x / y9 * y9)
/-- a float that is no NaN -/
def o_n32 (r : UInt32) : Option UInt32 := if r &&& 0x7fffffff ≤ 0x7f800000 then some r else none
/-- a boolean -/
def o_bool (x : Int32) : Option Int32 := if x = 0 ∨ x = 1 then some x else none
theorem ob {α β : Type} {q : Option α} {g : α → Option β} {r : β} (h : q.bind g = some r) : ∃ v, q = some v ∧ g v = some r := by
  cases q with
  | none => cases h
  | some v => exact ⟨v, rfl, h⟩
theorem z_idiv {x y9 : Int32} {g : Int32 → Option ρ} (hf : (o_idiv x y9).bind g = some r) (hdg : decode cc pc = .ok (.idiv, 1)) (kk : ∀ v, g v = some r → Z E y cc nL ret lev h (pc + 1) lv (.int v :: rest)) : Z E y cc nL ret lev h pc lv (.int y9 :: .int x :: rest) := by
  obtain ⟨v, ev, hf⟩ := ob hf
  unfold o_idiv at ev
  split at ev
  · cases ev
  · cases ev
    exact z_pass (fun _ _ _ _ _ _ _ _ _ _ _ _ _ _ _ _ hx hb _ _ hl k9 => lv_idiv hx hb hdg (by assumption) (k9 _ hl)) (kk _ hf)
theorem z_irem {x y9 : Int32} {g : Int32 → Option ρ} (hf : (o_irem x y9).bind g = some r) (hdg : decode cc pc = .ok (.irem, 1)) (kk : ∀ v, g v = some r → Z E y cc nL ret lev h (pc + 1) lv (.int v :: rest)) : Z E y cc nL ret lev h pc lv (.int y9 :: .int x :: rest) := by
  obtain ⟨v, ev, hf⟩ := ob hf
  unfold o_irem at ev
  split at ev
  · cases ev
  · cases ev
    exact z_pass (fun _ _ _ _ _ _ _ _ _ _ _ _ _ _ _ _ hx hb _ _ hl k9 => lv_irem hx hb hdg (by assumption) (k9 _ hl)) (kk _ hf)
theorem z_lrem {x y9 : Int64} {g : Int64 → Option ρ} (hf : (o_lrem x y9).bind g = some r) (hdg : decode cc pc = .ok (.lrem, 1)) (kk : ∀ v, g v = some r → Z E y cc nL ret lev h (pc + 1) lv (.long v :: rest)) : Z E y cc nL ret lev h pc lv (.long y9 :: .long x :: rest) := by
  obtain ⟨v, ev, hf⟩ := ob hf
  unfold o_lrem at ev
  split at ev
  · cases ev
  · cases ev
    exact z_pass (fun _ _ _ _ _ _ _ _ _ _ _ _ _ _ _ _ hx hb _ _ hl k9 => lv_lrem hx hb hdg (by assumption) (k9 _ hl)) (kk _ hf)
theorem z_fadd {x y9 : UInt32} {g : UInt32 → Option ρ} (hf : (o_n32 (FP.fadd x y9)).bind g = some r) (hdg : decode cc pc = .ok (.fadd, 1)) (kk : ∀ v, g v = some r → Z E y cc nL ret lev h (pc + 1) lv (.float v :: rest)) : Z E y cc nL ret lev h pc lv (.float y9 :: .float x :: rest) := by
  obtain ⟨v, ev, hf⟩ := ob hf
  unfold o_n32 at ev
  split at ev
  · rename_i hn
    cases ev
    exact z_pass (fun _ _ _ _ _ _ _ _ _ _ _ _ _ _ _ _ hx hb _ _ hl k9 => lv_fadd hx hb hdg hn (k9 _ hl)) (kk _ hf)
  · cases ev
theorem z_fsub {x y9 : UInt32} {g : UInt32 → Option ρ} (hf : (o_n32 (FP.fsub x y9)).bind g = some r) (hdg : decode cc pc = .ok (.fsub, 1)) (kk : ∀ v, g v = some r → Z E y cc nL ret lev h (pc + 1) lv (.float v :: rest)) : Z E y cc nL ret lev h pc lv (.float y9 :: .float x :: rest) := by
  obtain ⟨v, ev, hf⟩ := ob hf
  unfold o_n32 at ev
  split at ev
  · rename_i hn
    cases ev
    exact z_pass (fun _ _ _ _ _ _ _ _ _ _ _ _ _ _ _ _ hx hb _ _ hl k9 => lv_fsub hx hb hdg hn (k9 _ hl)) (kk _ hf)
  · cases ev
theorem z_fmul {x y9 : UInt32} {g : UInt32 → Option ρ} (hf : (o_n32 (FP.fmul x y9)).bind g = some r) (hdg : decode cc pc = .ok (.fmul, 1)) (kk : ∀ v, g v = some r → Z E y cc nL ret lev h (pc + 1) lv (.float v :: rest)) : Z E y cc nL ret lev h pc lv (.float y9 :: .float x :: rest) := by
  obtain ⟨v, ev, hf⟩ := ob hf
  unfold o_n32 at ev
  split at ev
  · rename_i hn
    cases ev
    exact z_pass (fun _ _ _ _ _ _ _ _ _ _ _ _ _ _ _ _ hx hb _ _ hl k9 => lv_fmul hx hb hdg hn (k9 _ hl)) (kk _ hf)
  · cases ev
theorem z_fdiv {x y9 : UInt32} {g : UInt32 → Option ρ} (hf : (o_n32 (FP.fdiv x y9)).bind g = some r) (hdg : decode cc pc = .ok (.fdiv, 1)) (kk : ∀ v, g v = some r → Z E y cc nL ret lev h (pc + 1) lv (.float v :: rest)) : Z E y cc nL ret lev h pc lv (.float y9 :: .float x :: rest) := by
  obtain ⟨v, ev, hf⟩ := ob hf
  unfold o_n32 at ev
  split at ev
  · rename_i hn
    cases ev
    exact z_pass (fun _ _ _ _ _ _ _ _ _ _ _ _ _ _ _ _ hx hb _ _ hl k9 => lv_fdiv hx hb hdg hn (k9 _ hl)) (kk _ hf)
  · cases ev
theorem z_frem {x y9 : UInt32} {g : UInt32 → Option ρ} (hf : (o_n32 (FP.frem x y9)).bind g = some r) (hdg : decode cc pc = .ok (.frem, 1)) (kk : ∀ v, g v = some r → Z E y cc nL ret lev h (pc + 1) lv (.float v :: rest)) : Z E y cc nL ret lev h pc lv (.float y9 :: .float x :: rest) := by
  obtain ⟨v, ev, hf⟩ := ob hf
  unfold o_n32 at ev
  split at ev
  · rename_i hn
    cases ev
    exact z_pass (fun _ _ _ _ _ _ _ _ _ _ _ _ _ _ _ _ hx hb _ _ hl k9 => lv_frem hx hb hdg hn (k9 _ hl)) (kk _ hf)
  · cases ev
theorem z_dup {va : Value} (hdg : decode cc pc = .ok (.dup, 1)) (hva : va.category = 1) (kk : Z E y cc nL ret lev h (pc + 1) lv (va :: va :: rest)) : Z E y cc nL ret lev h pc lv (va :: rest) := z_pass (fun _ _ _ _ _ _ _ _ _ _ _ _ _ _ _ _ hx hb _ _ hl k9 => lv_dup hx hb hdg hva (k9 _ hl)) kk
theorem z_pop {va : Value} (hdg : decode cc pc = .ok (.pop, 1)) (hva : va.category = 1) (kk : Z E y cc nL ret lev h (pc + 1) lv rest) : Z E y cc nL ret lev h pc lv (va :: rest) := z_pass (fun _ _ _ _ _ _ _ _ _ _ _ _ _ _ _ _ hx hb _ _ hl k9 => lv_pop hx hb hdg hva (k9 _ hl)) kk
theorem z_dup_x1 {va vb : Value} (hdg : decode cc pc = .ok (.dup_x1, 1)) (hva : va.category = 1) (hvb : vb.category = 1) (kk : Z E y cc nL ret lev h (pc + 1) lv (va :: vb :: va :: rest)) : Z E y cc nL ret lev h pc lv (va :: vb :: rest) := z_pass (fun _ _ _ _ _ _ _ _ _ _ _ _ _ _ _ _ hx hb _ _ hl k9 => lv_dup_x1 hx hb hdg hva hvb (k9 _ hl)) kk
theorem z_dup2_11 {va vb : Value} (hdg : decode cc pc = .ok (.dup2, 1)) (hva : va.category = 1) (hvb : vb.category = 1) (kk : Z E y cc nL ret lev h (pc + 1) lv (va :: vb :: va :: vb :: rest)) : Z E y cc nL ret lev h pc lv (va :: vb :: rest) := z_pass (fun _ _ _ _ _ _ _ _ _ _ _ _ _ _ _ _ hx hb _ _ hl k9 => lv_dup2_11 hx hb hdg hva hvb (k9 _ hl)) kk
theorem z_dup2_2 {va : Value} (hdg : decode cc pc = .ok (.dup2, 1)) (hva : va.category = 2) (kk : Z E y cc nL ret lev h (pc + 1) lv (va :: va :: rest)) : Z E y cc nL ret lev h pc lv (va :: rest) := z_pass (fun _ _ _ _ _ _ _ _ _ _ _ _ _ _ _ _ hx hb _ _ hl k9 => lv_dup2_2 hx hb hdg hva (k9 _ hl)) kk
theorem z_goto {off : Int} (tgt : Nat) (hdg : decode cc pc = .ok (.goto off, 3)) (ht : (pc : Int) + off = (tgt : Int)) (kk : Z E y cc nL ret lev h tgt lv rest) : Z E y cc nL ret lev h pc lv rest := z_pass (fun _ _ _ _ _ _ _ _ _ _ _ _ _ _ _ _ hx hb _ _ hl k9 => lv_goto hx hb hdg ht (k9 _ hl)) kk
theorem z_icmp_eq {x y9 : Int32} {off : Int} (tgt : Nat) (hf : (if x = y9 then A else B) = some r) (hdg : decode cc pc = .ok (.if_icmp .eq off, 3)) (ht : (pc : Int) + off = (tgt : Int)) (kt : A = some r → Z E y cc nL ret lev h tgt lv rest) (kf : B = some r → Z E y cc nL ret lev h (pc + 3) lv rest) : Z E y cc nL ret lev h pc lv (.int y9 :: .int x :: rest) := by
  by_cases c : x = y9
  · rw [if_pos c] at hf
    exact z_pass (fun _ _ _ _ _ _ _ _ _ _ _ _ _ _ _ _ hx hb _ _ hl k9 => lv_icmp_eq hx hb hdg ht (fun _ => k9 _ hl) (fun n9 => absurd c n9)) (kt hf)
  · rw [if_neg c] at hf
    exact z_pass (fun _ _ _ _ _ _ _ _ _ _ _ _ _ _ _ _ hx hb _ _ hl k9 => lv_icmp_eq hx hb hdg ht (fun n9 => absurd n9 c) (fun _ => k9 _ hl)) (kf hf)
theorem z_if_eq {x : Int32} {off : Int} (tgt : Nat) (hf : (if x = 0 then A else B) = some r) (hdg : decode cc pc = .ok (.ifCond .eq off, 3)) (ht : (pc : Int) + off = (tgt : Int)) (kt : A = some r → Z E y cc nL ret lev h tgt lv rest) (kf : B = some r → Z E y cc nL ret lev h (pc + 3) lv rest) : Z E y cc nL ret lev h pc lv (.int x :: rest) := by
  by_cases c : x = 0
  · rw [if_pos c] at hf
    exact z_pass (fun _ _ _ _ _ _ _ _ _ _ _ _ _ _ _ _ hx hb _ _ hl k9 => lv_if_eq hx hb hdg ht (fun _ => k9 _ hl) (fun n9 => absurd c n9)) (kt hf)
  · rw [if_neg c] at hf
    exact z_pass (fun _ _ _ _ _ _ _ _ _ _ _ _ _ _ _ _ hx hb _ _ hl k9 => lv_if_eq hx hb hdg ht (fun n9 => absurd n9 c) (fun _ => k9 _ hl)) (kf hf)
theorem z_icmp_ne {x y9 : Int32} {off : Int} (tgt : Nat) (hf : (if ¬ x = y9 then A else B) = some r) (hdg : decode cc pc = .ok (.if_icmp .ne off, 3)) (ht : (pc : Int) + off = (tgt : Int)) (kt : A = some r → Z E y cc nL ret lev h tgt lv rest) (kf : B = some r → Z E y cc nL ret lev h (pc + 3) lv rest) : Z E y cc nL ret lev h pc lv (.int y9 :: .int x :: rest) := by
  by_cases c : ¬ x = y9
  · rw [if_pos c] at hf
    exact z_pass (fun _ _ _ _ _ _ _ _ _ _ _ _ _ _ _ _ hx hb _ _ hl k9 => lv_icmp_ne hx hb hdg ht (fun _ => k9 _ hl) (fun n9 => absurd n9 c)) (kt hf)
  · rw [if_neg c] at hf
    exact z_pass (fun _ _ _ _ _ _ _ _ _ _ _ _ _ _ _ _ hx hb _ _ hl k9 => lv_icmp_ne hx hb hdg ht (fun n9 => absurd n9 c) (fun _ => k9 _ hl)) (kf hf)
theorem z_if_ne {x : Int32} {off : Int} (tgt : Nat) (hf : (if ¬ x = 0 then A else B) = some r) (hdg : decode cc pc = .ok (.ifCond .ne off, 3)) (ht : (pc : Int) + off = (tgt : Int)) (kt : A = some r → Z E y cc nL ret lev h tgt lv rest) (kf : B = some r → Z E y cc nL ret lev h (pc + 3) lv rest) : Z E y cc nL ret lev h pc lv (.int x :: rest) := by
  by_cases c : ¬ x = 0
  · rw [if_pos c] at hf
    exact z_pass (fun _ _ _ _ _ _ _ _ _ _ _ _ _ _ _ _ hx hb _ _ hl k9 => lv_if_ne hx hb hdg ht (fun _ => k9 _ hl) (fun n9 => absurd n9 c)) (kt hf)
  · rw [if_neg c] at hf
    exact z_pass (fun _ _ _ _ _ _ _ _ _ _ _ _ _ _ _ _ hx hb _ _ hl k9 => lv_if_ne hx hb hdg ht (fun n9 => absurd n9 c) (fun _ => k9 _ hl)) (kf hf)
theorem z_icmp_lt {x y9 : Int32} {off : Int} (tgt : Nat) (hf : (if x < y9 then A else B) = some r) (hdg : decode cc pc = .ok (.if_icmp .lt off, 3)) (ht : (pc : Int) + off = (tgt : Int)) (kt : A = some r → Z E y cc nL ret lev h tgt lv rest) (kf : B = some r → Z E y cc nL ret lev h (pc + 3) lv rest) : Z E y cc nL ret lev h pc lv (.int y9 :: .int x :: rest) := by
  by_cases c : x < y9
  · rw [if_pos c] at hf
    exact z_pass (fun _ _ _ _ _ _ _ _ _ _ _ _ _ _ _ _ hx hb _ _ hl k9 => lv_icmp_lt hx hb hdg ht (fun _ => k9 _ hl) (fun n9 => absurd c n9)) (kt hf)
  · rw [if_neg c] at hf
    exact z_pass (fun _ _ _ _ _ _ _ _ _ _ _ _ _ _ _ _ hx hb _ _ hl k9 => lv_icmp_lt hx hb hdg ht (fun n9 => absurd n9 c) (fun _ => k9 _ hl)) (kf hf)
theorem z_if_lt {x : Int32} {off : Int} (tgt : Nat) (hf : (if x < 0 then A else B) = some r) (hdg : decode cc pc = .ok (.ifCond .lt off, 3)) (ht : (pc : Int) + off = (tgt : Int)) (kt : A = some r → Z E y cc nL ret lev h tgt lv rest) (kf : B = some r → Z E y cc nL ret lev h (pc + 3) lv rest) : Z E y cc nL ret lev h pc lv (.int x :: rest) := by
  by_cases c : x < 0
  · rw [if_pos c] at hf
    exact z_pass (fun _ _ _ _ _ _ _ _ _ _ _ _ _ _ _ _ hx hb _ _ hl k9 => lv_if_lt hx hb hdg ht (fun _ => k9 _ hl) (fun n9 => absurd c n9)) (kt hf)
  · rw [if_neg c] at hf
    exact z_pass (fun _ _ _ _ _ _ _ _ _ _ _ _ _ _ _ _ hx hb _ _ hl k9 => lv_if_lt hx hb hdg ht (fun n9 => absurd n9 c) (fun _ => k9 _ hl)) (kf hf)
theorem z_icmp_ge {x y9 : Int32} {off : Int} (tgt : Nat) (hf : (if y9 ≤ x then A else B) = some r) (hdg : decode cc pc = .ok (.if_icmp .ge off, 3)) (ht : (pc : Int) + off = (tgt : Int)) (kt : A = some r → Z E y cc nL ret lev h tgt lv rest) (kf : B = some r → Z E y cc nL ret lev h (pc + 3) lv rest) : Z E y cc nL ret lev h pc lv (.int y9 :: .int x :: rest) := by
  by_cases c : y9 ≤ x
  · rw [if_pos c] at hf
    exact z_pass (fun _ _ _ _ _ _ _ _ _ _ _ _ _ _ _ _ hx hb _ _ hl k9 => lv_icmp_ge hx hb hdg ht (fun _ => k9 _ hl) (fun n9 => absurd c n9)) (kt hf)
  · rw [if_neg c] at hf
    exact z_pass (fun _ _ _ _ _ _ _ _ _ _ _ _ _ _ _ _ hx hb _ _ hl k9 => lv_icmp_ge hx hb hdg ht (fun n9 => absurd n9 c) (fun _ => k9 _ hl)) (kf hf)
theorem z_if_ge {x : Int32} {off : Int} (tgt : Nat) (hf : (if 0 ≤ x then A else B) = some r) (hdg : decode cc pc = .ok (.ifCond .ge off, 3)) (ht : (pc : Int) + off = (tgt : Int)) (kt : A = some r → Z E y cc nL ret lev h tgt lv rest) (kf : B = some r → Z E y cc nL ret lev h (pc + 3) lv rest) : Z E y cc nL ret lev h pc lv (.int x :: rest) := by
  by_cases c : 0 ≤ x
  · rw [if_pos c] at hf
    exact z_pass (fun _ _ _ _ _ _ _ _ _ _ _ _ _ _ _ _ hx hb _ _ hl k9 => lv_if_ge hx hb hdg ht (fun _ => k9 _ hl) (fun n9 => absurd c n9)) (kt hf)
  · rw [if_neg c] at hf
    exact z_pass (fun _ _ _ _ _ _ _ _ _ _ _ _ _ _ _ _ hx hb _ _ hl k9 => lv_if_ge hx hb hdg ht (fun n9 => absurd n9 c) (fun _ => k9 _ hl)) (kf hf)
theorem z_icmp_gt {x y9 : Int32} {off : Int} (tgt : Nat) (hf : (if y9 < x then A else B) = some r) (hdg : decode cc pc = .ok (.if_icmp .gt off, 3)) (ht : (pc : Int) + off = (tgt : Int)) (kt : A = some r → Z E y cc nL ret lev h tgt lv rest) (kf : B = some r → Z E y cc nL ret lev h (pc + 3) lv rest) : Z E y cc nL ret lev h pc lv (.int y9 :: .int x :: rest) := by
  by_cases c : y9 < x
  · rw [if_pos c] at hf
    exact z_pass (fun _ _ _ _ _ _ _ _ _ _ _ _ _ _ _ _ hx hb _ _ hl k9 => lv_icmp_gt hx hb hdg ht (fun _ => k9 _ hl) (fun n9 => absurd c n9)) (kt hf)
  · rw [if_neg c] at hf
    exact z_pass (fun _ _ _ _ _ _ _ _ _ _ _ _ _ _ _ _ hx hb _ _ hl k9 => lv_icmp_gt hx hb hdg ht (fun n9 => absurd n9 c) (fun _ => k9 _ hl)) (kf hf)
theorem z_if_gt {x : Int32} {off : Int} (tgt : Nat) (hf : (if 0 < x then A else B) = some r) (hdg : decode cc pc = .ok (.ifCond .gt off, 3)) (ht : (pc : Int) + off = (tgt : Int)) (kt : A = some r → Z E y cc nL ret lev h tgt lv rest) (kf : B = some r → Z E y cc nL ret lev h (pc + 3) lv rest) : Z E y cc nL ret lev h pc lv (.int x :: rest) := by
  by_cases c : 0 < x
  · rw [if_pos c] at hf
    exact z_pass (fun _ _ _ _ _ _ _ _ _ _ _ _ _ _ _ _ hx hb _ _ hl k9 => lv_if_gt hx hb hdg ht (fun _ => k9 _ hl) (fun n9 => absurd c n9)) (kt hf)
  · rw [if_neg c] at hf
    exact z_pass (fun _ _ _ _ _ _ _ _ _ _ _ _ _ _ _ _ hx hb _ _ hl k9 => lv_if_gt hx hb hdg ht (fun n9 => absurd n9 c) (fun _ => k9 _ hl)) (kf hf)
theorem z_icmp_le {x y9 : Int32} {off : Int} (tgt : Nat) (hf : (if x ≤ y9 then A else B) = some r) (hdg : decode cc pc = .ok (.if_icmp .le off, 3)) (ht : (pc : Int) + off = (tgt : Int)) (kt : A = some r → Z E y cc nL ret lev h tgt lv rest) (kf : B = some r → Z E y cc nL ret lev h (pc + 3) lv rest) : Z E y cc nL ret lev h pc lv (.int y9 :: .int x :: rest) := by
  by_cases c : x ≤ y9
  · rw [if_pos c] at hf
    exact z_pass (fun _ _ _ _ _ _ _ _ _ _ _ _ _ _ _ _ hx hb _ _ hl k9 => lv_icmp_le hx hb hdg ht (fun _ => k9 _ hl) (fun n9 => absurd c n9)) (kt hf)
  · rw [if_neg c] at hf
    exact z_pass (fun _ _ _ _ _ _ _ _ _ _ _ _ _ _ _ _ hx hb _ _ hl k9 => lv_icmp_le hx hb hdg ht (fun n9 => absurd n9 c) (fun _ => k9 _ hl)) (kf hf)
theorem z_if_le {x : Int32} {off : Int} (tgt : Nat) (hf : (if x ≤ 0 then A else B) = some r) (hdg : decode cc pc = .ok (.ifCond .le off, 3)) (ht : (pc : Int) + off = (tgt : Int)) (kt : A = some r → Z E y cc nL ret lev h tgt lv rest) (kf : B = some r → Z E y cc nL ret lev h (pc + 3) lv rest) : Z E y cc nL ret lev h pc lv (.int x :: rest) := by
  by_cases c : x ≤ 0
  · rw [if_pos c] at hf
    exact z_pass (fun _ _ _ _ _ _ _ _ _ _ _ _ _ _ _ _ hx hb _ _ hl k9 => lv_if_le hx hb hdg ht (fun _ => k9 _ hl) (fun n9 => absurd c n9)) (kt hf)
  · rw [if_neg c] at hf
    exact z_pass (fun _ _ _ _ _ _ _ _ _ _ _ _ _ _ _ _ hx hb _ _ hl k9 => lv_if_le hx hb hdg ht (fun n9 => absurd n9 c) (fun _ => k9 _ hl)) (kf hf)
theorem z_tabc {x v : Int32} {dflt lo hi : Int} {offs : Array Int} {len : Nat} (off : Int) (tgt : Nat) (hf : (if x = v then A else B) = some r) (hdg : decode cc pc = .ok (.tableswitch dflt lo hi offs, len)) (h1 : ¬ v.toInt < lo) (h2 : ¬ hi < v.toInt) (ho : offs[(v.toInt - lo).toNat]? = some off) (ht : (pc : Int) + off = (tgt : Int)) (kt : A = some r → Z E y cc nL ret lev h tgt lv rest) (kf : ¬ x = v → B = some r → Z E y cc nL ret lev h pc lv (.int x :: rest)) : Z E y cc nL ret lev h pc lv (.int x :: rest) := by
  by_cases c : x = v
  · rw [if_pos c] at hf
    subst c
    exact z_pass (fun _ _ _ _ _ _ _ _ _ _ _ _ _ _ _ _ hx hb _ _ hl k9 => lv_tableIn hx hb hdg h1 h2 ho ht (k9 _ hl)) (kt hf)
  · rw [if_neg c] at hf
    exact kf c hf
theorem z_tabd {x : Int32} {dflt lo hi : Int} {offs : Array Int} {len : Nat} (tgt : Nat) (hdg : decode cc pc = .ok (.tableswitch dflt lo hi offs, len)) (hx9 : x.toInt < lo ∨ hi < x.toInt) (ht : (pc : Int) + dflt = (tgt : Int)) (kk : Z E y cc nL ret lev h tgt lv rest) : Z E y cc nL ret lev h pc lv (.int x :: rest) := z_pass (fun _ _ _ _ _ _ _ _ _ _ _ _ _ _ _ _ hx hb _ _ hl k9 => lv_tableOut hx hb hdg hx9 ht (k9 _ hl)) kk
end ZB
