/-! the abstract heap: shape (first, next, slots made; kinds; lengths; final references) and what stands in it (ints, longs, floats, references) -/
abbrev Sh : Type := (Nat × Nat × Nat) × (Nat → Nat) × (Nat → Nat) × (Nat → Nat → Option Nat)
abbrev Dt : Type := (Nat → Nat → Int32) × (Nat → Nat → Int64) × (Nat → Nat → UInt32) × (Nat → Nat → Option Nat)
abbrev AS : Type := Sh × Dt
def up2 {α : Type} (f : Nat → Nat → α) (a k : Nat) (v : α) : Nat → Nat → α := va_up f a (va_up (f a) k v)
theorem va_up_s {α : Type} {f : Nat → α} {a : Nat} {v : α} : va_up f a v a = v := if_pos rfl
theorem va_up_n {α : Type} {f : Nat → α} {a b : Nat} {v : α} (h : b ≠ a) : va_up f a v b = f b := if_neg h
theorem up2_s {α : Type} {f : Nat → Nat → α} {a k : Nat} {v : α} : up2 f a k v a = va_up (f a) k v := va_up_s
theorem up2_n {α : Type} {f : Nat → Nat → α} {a b k : Nat} {v : α} (h : b ≠ a) : up2 f a k v b = f b := va_up_n h
/-- the fields' kinds of each class of vwCl -/
def lay : Nat → List Nat
  | 0 => [2, 0, 0]
  | 1 => [0, 2, 2, 2, 2, 2, 2, 3]
  | 2 => [2, 0, 0, 0]
  | 3 => [2, 0, 0, 2, 2]
  | 4 => [2, 2, 2, 0, 0, 2, 3, 0, 2, 2, 0, 0]
  | 5 => [2, 2, 2, 2, 2, 2, 2, 2, 0, 2, 2, 2, 0]
  | 6 => [2, 0, 0]
  | 7 => [2, 0, 0]
  | 8 => [2, 0]
  | 9 => [2, 0, 0]
  | 10 => [2, 2, 2, 2, 1, 0]
  | 11 => [2, 2, 2, 2, 2, 2, 2, 2, 2, 2, 2, 3, 0, 0]
  | 12 => [2, 2, 0, 0, 0, 0, 2, 2, 0, 2, 0, 2, 2, 2, 2, 2, 0, 2, 2, 0, 0, 0, 2, 2, 0, 2, 2, 2, 2, 2, 2, 2]
  | _ => []
def fv (sh : Sh) (d : Dt) (a k : Nat) : Nat → Value
  | 0 => .int (d.1 a k)
  | 1 => .long (d.2.1 a k)
  | 2 => va_rf (sh.2.2.2 a k)
  | _ => va_rf (d.2.2.2 a k)
def fl (sh : Sh) (d : Dt) (a : Nat) : Nat → List Nat → List Value
  | _, [] => []
  | k, x :: xs => fv sh d a k x :: fl sh d a (k + 1) xs
def kd (t : Nat) (d : Dt) (a : Nat) : (Nat → Int32) ⊕ (Nat → Int64) ⊕ (Nat → UInt32) ⊕ (Nat → UInt64) ⊕ (Nat → Option Nat) :=
  if t = 1 then .inr (.inl (d.2.1 a)) else if t = 2 then .inr (.inr (.inl (d.2.2.1 a))) else if t = 5 ∨ t = 6 then .inr (.inr (.inr (.inr (d.2.2.2 a)))) else .inl (d.1 a)
/-- kinds below 10 are arrays (0 int, 1 long, 2 float, 3 char, 4 boolean, 5 int[], 6 Plough), 10 + c is an object of class c -/
def em (G : GG) (sh : Sh) (d : Dt) (a : Nat) : va_E :=
  if sh.2.1 a < 10 then .inl (G.2 (sh.2.1 a), sh.2.2.1 a, kd (sh.2.1 a) d a) else .inr (sh.2.1 a - 10, fl sh d a 0 (lay (sh.2.1 a - 10)))
def wl (G : GG) (sh : Sh) (d : Dt) : va_W := [] ++ va_pl (List.range' sh.1.1 (sh.1.2.1 - sh.1.1)) (em G sh d)
theorem fl_get {sh : Sh} {d : Dt} {a : Nat} : ∀ (xs : List Nat) (j i : Nat), (fl sh d a j xs)[i]? = (xs[i]?).map (fv sh d a (j + i))
  | [], j, i => by simp [fl]
  | x :: xs, j, 0 => by simp [fl]
  | x :: xs, j, i + 1 => by
    show (fl sh d a (j + 1) xs)[i]? = _
    rw [fl_get xs (j + 1) i]
    simp [Nat.add_assoc, Nat.add_comm 1 i]
theorem fl_len {sh : Sh} {d : Dt} {a : Nat} : ∀ (xs : List Nat) (j : Nat), (fl sh d a j xs).length = xs.length
  | [], j => rfl
  | x :: xs, j => by simp [fl, fl_len xs (j + 1)]
theorem fl_same {sh sh' : Sh} {d d' : Dt} {a : Nat} : ∀ (xs : List Nat) (j : Nat), (∀ m, j ≤ m → fv sh' d' a m = fv sh d a m) → fl sh' d' a j xs = fl sh d a j xs
  | [], j, h => rfl
  | x :: xs, j, h => by
    show fv sh' d' a j x :: fl sh' d' a (j + 1) xs = fv sh d a j x :: fl sh d a (j + 1) xs
    rw [h j (Nat.le_refl j), fl_same xs (j + 1) (fun m hm => h m (by omega))]
/-- one field changes -/
theorem fl_set {sh sh' : Sh} {d d' : Dt} {a x : Nat} : ∀ (xs : List Nat) (j i : Nat), (∀ m y, m ≠ j + i → fv sh' d' a m y = fv sh d a m y) → (∀ y, y ≠ x → fv sh' d' a (j + i) y = fv sh d a (j + i) y) → xs[i]? = some x → (fl sh d a j xs).set i (fv sh' d' a (j + i) x) = fl sh' d' a j xs
  | [], j, i, h, h2, hx => by cases hx
  | y :: xs, j, 0, h, h2, hx => by
    cases hx
    show fv sh' d' a j x :: fl sh d a (j + 1) xs = fv sh' d' a j x :: fl sh' d' a (j + 1) xs
    rw [fl_same xs (j + 1) (sh := sh) (sh' := sh') (d := d) (d' := d') (fun m hm => funext fun y => h m y (by omega))]
  | y :: xs, j, i + 1, h, h2, hx => by
    show fv sh d a j y :: (fl sh d a (j + 1) xs).set i (fv sh' d' a (j + (i + 1)) x) = fv sh' d' a j y :: fl sh' d' a (j + 1) xs
    have e : j + (i + 1) = j + 1 + i := by omega
    rw [h j y (by omega), e, fl_set xs (j + 1) i (fun m y hm => h m y (by omega)) (by rw [← e]; exact h2) hx]
theorem em_row {G : GG} {sh sh' : Sh} {d d' : Dt} {b : Nat} (hT : sh'.2.1 b = sh.2.1 b) (hL : sh'.2.2.1 b = sh.2.2.1 b) (hR : sh'.2.2.2 b = sh.2.2.2 b) (h1 : d'.1 b = d.1 b) (h2 : d'.2.1 b = d.2.1 b) (h3 : d'.2.2.1 b = d.2.2.1 b) (h4 : d'.2.2.2 b = d.2.2.2 b) : em G sh' d' b = em G sh d b := by
  unfold em kd
  rw [hT, hL, h1, h2, h3, h4, fl_same (sh := sh) (sh' := sh') (d := d) (d' := d') _ 0 (fun m _ => funext fun y => by
    unfold fv
    rw [h1, h2, h4, hR])]
theorem wl_mem {sh : Sh} {a : Nat} : a ∈ List.range' sh.1.1 (sh.1.2.1 - sh.1.1) ↔ sh.1.1 ≤ a ∧ a < sh.1.2.1 := by
  rw [List.mem_range'_1]
  omega
theorem wl_pos {G : GG} {sh : Sh} {d : Dt} {a : Nat} (h1 : sh.1.1 ≤ a) (h2 : a < sh.1.2.1) : ∃ k : Nat, (wl G sh d)[k]? = some (a, em G sh d a) := va_pl_get (X := []) (wl_mem.mpr ⟨h1, h2⟩)
theorem wl_at {G : GG} {sh : Sh} {d : Dt} {k : Nat} {q : Nat × va_E} (h : (wl G sh d)[k]? = some q) : q = (sh.1.1 + k, em G sh d (sh.1.1 + k)) ∧ sh.1.1 + k < sh.1.2.1 := by
  unfold wl va_pl at h
  simp only [List.nil_append, List.getElem?_map] at h
  have hk : k < sh.1.2.1 - sh.1.1 := by
    rcases Nat.lt_or_ge k (sh.1.2.1 - sh.1.1) with q | q
    · exact q
    · rw [List.getElem?_eq_none (by rw [List.length_range']; exact q)] at h
      cases h
  rw [List.getElem?_range' (by omega)] at h
  simp only [Option.map_some, Option.some.injEq, Nat.one_mul] at h
  exact ⟨h.symm, by omega⟩
theorem wl_D {G : GG} {sh : Sh} {d : Dt} {z : Nat} (hz : sh.1.1 = z) : va_D (fun q => z ≤ q) (wl G sh d) := by
  refine ⟨fun i j p q hi hj h => ?_, fun k q hk => ?_⟩
  · rw [(wl_at hi).1, (wl_at hj).1] at h
    have h : sh.1.1 + i = sh.1.1 + j := h
    omega
  · rw [(wl_at hk).1]
    show z ≤ sh.1.1 + k
    omega
theorem wl_set {G : GG} {sh sh' : Sh} {d d' : Dt} {a k z : Nat} (hz : sh.1.1 = z) (h1 : sh.1.1 ≤ a) (h2 : a < sh.1.2.1) (hk : (wl G sh d)[k]? = some (a, em G sh d a)) (e1 : sh'.1 = sh.1) (ho : ∀ b, b ≠ a → em G sh' d' b = em G sh d b) : (wl G sh d).set k (a, em G sh' d' a) = wl G sh' d' := by
  have hD := wl_D (G := G) (d := d) hz
  unfold wl at hD hk ⊢
  rw [va_pl_set (f := em G sh d) hD (wl_mem.mpr ⟨h1, h2⟩) hk, e1]
  congr 2
  funext b
  by_cases hb : b = a
  · subst hb; exact va_up_s
  · rw [va_up_n hb, ho b hb]
/-- the abstract heap stands in a heap -/
def HPt (G : GG) (z : Nat) (h : AS) (H : Heap) : Prop := h.1.1.1 = z ∧ H.size = h.1.1.2.1 ∧ z ≤ h.1.1.2.1 ∧ va_P G.1 vwCl (wl G h.1 h.2) H
def hp (G : GG) (z : Nat) (H0 : Heap) (h : AS) (H : Heap) (locs : List Loc) : Prop := HPt G z h H ∧ va_S (fun q => z ≤ q) H0 H locs
abbrev EV : Type := (Program × Launch × Env × Room × State × MethodId × Array Value × List Frame × Method × Code × (State → Prop)) × GG × Nat × Nat × Option Value × AS
def PC (G : GG) (z : Nat) (av : List Value) (h : AS) : Array Value → State → Prop := va_Pc av (fun U => HPt G z h U.heap ∧ KK G U)
def QC (G : GG) (z : Nat) (h : AS) (rv : Option Value) : Array Value → State → Outcome → State → Prop := match rv with
  | none => va_Qv (S := Unit) (fun _ => True) (fun _ t => HPt G z h t.heap) (fun q => z ≤ q)
  | some (.int v) => va_Qi (S := Unit) (fun r _ => r = v) (fun _ t => HPt G z h t.heap) (fun q => z ≤ q)
  | some (.long v) => va_Ql (S := Unit) (fun r _ => r = v) (fun _ t => HPt G z h t.heap) (fun q => z ≤ q)
  | some (.float v) => va_Qf (S := Unit) (fun r _ => r = v) (fun _ t => HPt G z h t.heap) (fun q => z ≤ q)
  | some (.ref a) => va_Qr (S := Unit) (fun _ => True) (fun _ r t => r = a ∧ HPt G z h t.heap) (fun q => z ≤ q)
  | _ => fun _ _ _ _ => False
/-- what holds all through a method's run -/
def CX (E : EV) (y : MethodName) (cc : ByteArray) (nL : Nat) (ret : Option FieldType) (lev : Nat) : Prop := match E with
  | ((p, l, e, R, s, m, args, below, meth, c, Q), G, z, w0, rv, hf) => p.tables.exec = Jvm.exec ∧ c.code = cc ∧ c.maxLocals = nL ∧ (∀ w ∈ Cond.code y cc nL ret :: TT, w.before args s = true) ∧ s.vm.findClass y.cls = some m.cls ∧ meth.sig.returnType = ret ∧ meth.locks = false ∧ meth.name = y.name ∧ KK G s ∧ lev ≤ R.frames ∧ 100 * lev ≤ R.locals ∧ hf.1.1.2.1 ≤ s.heap.size + R.cells ∧ hf.1.1.2.2 ≤ w0 + R.slots ∧ z ≤ s.heap.size
/-- from the abstract heap h, at pc, with these locals and this stack, the machine comes to its end -/
def Z (E : EV) (y : MethodName) (cc : ByteArray) (nL : Nat) (ret : Option FieldType) (lev : Nat) (h : AS) (pc : Nat) (lv : List (Nat × Value)) (st : List Value) : Prop := CX E y cc nL ret lev → h.1.1.2.1 ≤ E.2.2.2.2.2.1.1.2.1 → h.1.1.2.2 ≤ E.2.2.2.2.2.1.1.2.2 → match E with
  | ((p, l, e, R, s, m, args, below, meth, c, Q), G, z, w0, rv, hf) => ∀ (H : Heap) (locs : List Loc) (cells slots : Nat) (ls : Array Slot), hp G z s.heap h H locs → s.heap.size + cells = h.1.1.2.1 → w0 + slots = h.1.1.2.2 → lv_has ls nL lv → W p l e R s m args below meth c H locs cells slots Q (F0 m pc ls st)
/-- the end that is sought: rv is returned, the abstract heap is h -/
def TG (E : EV) (rv : Option Value) (h : AS) : Prop := match E with
  | ((p, l, e, R, s, m, args, below, meth, c, Q), G, z, w0, rv', hf) => rv' = rv ∧ hf = h ∧ Q = MQ below (QC G z h rv) args s (h.1.1.2.1 - s.heap.size) (h.1.1.2.2 - w0) (fun q => z ≤ q)
/-- a method's contract -/
def Mt (l : Launch) (G : GG) (y : MethodName) (cc : ByteArray) (nL : Nat) (ret : Option FieldType) (lev : Nat) (av : List Value) (h : AS) (rv : Option Value) (h' : AS) : Prop :=
  h.1.1.2.2 ≤ h'.1.1.2.2 ∧ h.1.1.2.1 ≤ h'.1.1.2.1 ∧ Met l y (Cond.code y cc nL ret :: TT) { frames := lev, cells := h'.1.1.2.1 - h.1.1.2.1, slots := h'.1.1.2.2 - h.1.1.2.2, locals := 100 * lev } (PC G h.1.1.1 av h) (QC G h.1.1.1 h' rv) (h'.1.1.2.1 - h.1.1.2.1) (h'.1.1.2.2 - h.1.1.2.2) (fun q => h.1.1.1 ≤ q)
section ZA
variable {E : EV} {y : MethodName} {cc : ByteArray} {nL : Nat} {ret : Option FieldType} {lev : Nat} {h : AS} {pc : Nat} {lv : List (Nat × Value)} {rest : List Value}
/-- an instruction that leaves the heap -/
theorem z_pass {pc' : Nat} {lv' : List (Nat × Value)} {st st' : List Value} (step : ∀ (p : Program) (l : Launch) (e : Env) (R : Room) (s : State) (m : MethodId) (args : Array Value) (below : List Frame) (meth : Method) (c : Code) (Q : State → Prop) (H : Heap) (locs : List Loc) (cells slots : Nat) (ls : Array Slot), p.tables.exec = Jvm.exec → c.code = cc → s.vm.findClass y.cls = some m.cls → (∀ w ∈ TT, w.before args s = true) → lv_has ls nL lv → (∀ ls' : Array Slot, lv_has ls' nL lv' → W p l e R s m args below meth c H locs cells slots Q (F0 m pc' ls' st')) → W p l e R s m args below meth c H locs cells slots Q (F0 m pc ls st))
    (kk : Z E y cc nL ret lev h pc' lv' st') : Z E y cc nL ret lev h pc lv st := by
  obtain ⟨⟨p, l, e, R, s, m, args, below, meth, c, Q⟩, G, z, w0, rv, hf⟩ := E
  intro cx b1 b2 H locs cells slots ls hh h1 h2 hl
  exact step p l e R s m args below meth c Q H locs cells slots ls cx.1 cx.2.1 cx.2.2.2.2.1 (fun w hw => cx.2.2.2.1 w (List.mem_cons_of_mem _ hw)) hl (fun ls' hl' => kk cx b1 b2 H locs cells slots ls' hh h1 h2 hl')
theorem z_lv (lv' : List (Nat × Value)) (ks : List Nat) (hk : lv_pick lv ks = lv') (kk : Z E y cc nL ret lev h pc lv' rest) : Z E y cc nL ret lev h pc lv rest := z_pass (fun _ _ _ _ _ _ _ _ _ _ _ _ _ _ _ _ _ _ _ _ hl k => k _ (lv_sub hl ks hk)) kk
theorem z_iconst (n : Int) (v : Int32) (hdg : decode cc pc = .ok (.iconst n, 1)) (hv : Int32.ofInt n = v) (kk : Z E y cc nL ret lev h (pc + 1) lv (.int v :: rest)) : Z E y cc nL ret lev h pc lv rest := z_pass (fun _ _ _ _ _ _ _ _ _ _ _ _ _ _ _ _ hx hb _ _ hl k => lv_iconst hx hb hdg hv (k _ hl)) kk
theorem z_bipush (n : Int) (v : Int32) (hdg : decode cc pc = .ok (.bipush n, 2)) (hv : (Int8.ofInt n).toInt32 = v) (kk : Z E y cc nL ret lev h (pc + 2) lv (.int v :: rest)) : Z E y cc nL ret lev h pc lv rest := z_pass (fun _ _ _ _ _ _ _ _ _ _ _ _ _ _ _ _ hx hb _ _ hl k => lv_bipush hx hb hdg hv (k _ hl)) kk
theorem z_sipush (n : Int) (v : Int32) (hdg : decode cc pc = .ok (.sipush n, 3)) (hv : (Int16.ofInt n).toInt32 = v) (kk : Z E y cc nL ret lev h (pc + 3) lv (.int v :: rest)) : Z E y cc nL ret lev h pc lv rest := z_pass (fun _ _ _ _ _ _ _ _ _ _ _ _ _ _ _ _ hx hb _ _ hl k => lv_sipush hx hb hdg hv (k _ hl)) kk
theorem z_lconst (n : Fin 2) (v : Int64) (hdg : decode cc pc = .ok (.lconst n, 1)) (hv : Int64.ofNat (n : Nat) = v) (kk : Z E y cc nL ret lev h (pc + 1) lv (.long v :: rest)) : Z E y cc nL ret lev h pc lv rest := z_pass (fun _ _ _ _ _ _ _ _ _ _ _ _ _ _ _ _ hx hb _ _ hl k => lv_lconst hx hb hdg hv (k _ hl)) kk
theorem z_fconst0 (hdg : decode cc pc = .ok (.fconst 0, 1)) (kk : Z E y cc nL ret lev h (pc + 1) lv (.float FP.fconst0 :: rest)) : Z E y cc nL ret lev h pc lv rest := z_pass (fun _ _ _ _ _ _ _ _ _ _ _ _ _ _ _ _ hx hb _ _ hl k => lv_fconst0 hx hb hdg (k _ hl)) kk
theorem z_ldc {index : Nat} {v : Int32} (hw : Cond.constant y.cls index v ∈ TT) (hdg : decode cc pc = .ok (.ldc index, 2)) (kk : Z E y cc nL ret lev h (pc + 2) lv (.int v :: rest)) : Z E y cc nL ret lev h pc lv rest := z_pass (fun _ _ _ _ _ _ _ _ _ _ _ _ _ _ _ _ hx hb ho ht hl k => lv_ldc hx hb ho (ht _ hw) hdg (k _ hl)) kk
theorem z_ldcw {index : Nat} {v : Int32} (hw : Cond.constant y.cls index v ∈ TT) (hdg : decode cc pc = .ok (.ldc_w index, 3)) (kk : Z E y cc nL ret lev h (pc + 3) lv (.int v :: rest)) : Z E y cc nL ret lev h pc lv rest := z_pass (fun _ _ _ _ _ _ _ _ _ _ _ _ _ _ _ _ hx hb ho ht hl k => lv_ldcw hx hb ho (ht _ hw) hdg (k _ hl)) kk
theorem z_ldc2 {index : Nat} {v : Int64} (hw : Cond.constantLong y.cls index v ∈ TT) (hdg : decode cc pc = .ok (.ldc2_w index, 3)) (kk : Z E y cc nL ret lev h (pc + 3) lv (.long v :: rest)) : Z E y cc nL ret lev h pc lv rest := z_pass (fun _ _ _ _ _ _ _ _ _ _ _ _ _ _ _ _ hx hb ho ht hl k => lv_ldc2 hx hb ho (ht _ hw) hdg (k _ hl)) kk
theorem z_ldcf {index : Nat} {v : UInt32} (hw : Cond.constantFloat y.cls index v ∈ TT) (hdg : decode cc pc = .ok (.ldc index, 2)) (kk : Z E y cc nL ret lev h (pc + 2) lv (.float v :: rest)) : Z E y cc nL ret lev h pc lv rest := z_pass (fun _ _ _ _ _ _ _ _ _ _ _ _ _ _ _ _ hx hb ho ht hl k => lv_ldcf hx hb ho (ht _ hw) hdg (k _ hl)) kk
end ZA
