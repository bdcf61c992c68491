section ZI
variable {E : EV} {y : MethodName} {cc : ByteArray} {nL : Nat} {ret : Option FieldType} {lev : Nat} {h : AS} {pc : Nat} {lv : List (Nat × Value)} {rest : List Value} {sh : Sh} {d : Dt} {ρ : Type} {r : ρ} {a : Nat}
/-- an instruction that reads the heap -/
theorem z_read {pc' : Nat} {st st' : List Value} (step : ∀ (p : Program) (l : Launch) (e : Env) (R : Room) (s : State) (m : MethodId) (args : Array Value) (below : List Frame) (meth : Method) (c : Code) (Q : State → Prop) (G : GG) (z : Nat) (H : Heap) (locs : List Loc) (cells slots : Nat) (ls : Array Slot), p.tables.exec = Jvm.exec → c.code = cc → s.vm.findClass y.cls = some m.cls → (∀ w ∈ TT, w.before args s = true) → meth.name = y.name → KK G s → HPt G z (sh, d) H → W p l e R s m args below meth c H locs cells slots Q (F0 m pc' ls st') → W p l e R s m args below meth c H locs cells slots Q (F0 m pc ls st)) (kk : Z E y cc nL ret lev (sh, d) pc' lv st') : Z E y cc nL ret lev (sh, d) pc lv st := by
  obtain ⟨⟨p, l, e, R, s, m, args, below, meth, c, Q⟩, G, z, w0, rv, hf⟩ := E
  intro cx b1 b2 H locs cells slots ls hh h1 h2 hl
  exact step p l e R s m args below meth c Q G z H locs cells slots ls cx.1 cx.2.1 cx.2.2.2.2.1 (fun w hw => cx.2.2.2.1 w (List.mem_cons_of_mem _ hw)) cx.2.2.2.2.2.2.2.1 cx.2.2.2.2.2.2.2.2.1 hh.1 (kk cx b1 b2 H locs cells slots ls hh h1 h2 hl)
/-- an instruction that writes into one cell -/
theorem z_write {pc' : Nat} {st st' : List Value} (sh' : Sh) (d' : Dt) (e1 : sh'.1 = sh.1) (step : ∀ (p : Program) (l : Launch) (e : Env) (R : Room) (s : State) (m : MethodId) (args : Array Value) (below : List Frame) (meth : Method) (c : Code) (Q : State → Prop) (G : GG) (z : Nat) (H : Heap) (locs : List Loc) (cells slots : Nat) (ls : Array Slot), p.tables.exec = Jvm.exec → c.code = cc → s.vm.findClass y.cls = some m.cls → (∀ w ∈ TT, w.before args s = true) → meth.name = y.name → KK G s → HPt G z (sh, d) H → va_S (fun q => z ≤ q) s.heap H locs → s.heap.size + cells = sh.1.2.1 → (∀ (H1 : Heap) (locs1 : List Loc), hp G z s.heap (sh', d') H1 locs1 → W p l e R s m args below meth c H1 locs1 cells slots Q (F0 m pc' ls st')) → W p l e R s m args below meth c H locs cells slots Q (F0 m pc ls st)) (kk : Z E y cc nL ret lev (sh', d') pc' lv st') : Z E y cc nL ret lev (sh, d) pc lv st := by
  obtain ⟨⟨p, l, e, R, s, m, args, below, meth, c, Q⟩, G, z, w0, rv, hf⟩ := E
  intro cx b1 b2 H locs cells slots ls hh h1 h2 hl
  exact step p l e R s m args below meth c Q G z H locs cells slots ls cx.1 cx.2.1 cx.2.2.2.2.1 (fun w hw => cx.2.2.2.1 w (List.mem_cons_of_mem _ hw)) cx.2.2.2.2.2.2.2.1 cx.2.2.2.2.2.2.2.2.1 hh.1 hh.2 h1 (fun H1 locs1 hh1 => kk cx (by show sh'.1.2.1 ≤ _; rw [e1]; exact b1) (by show sh'.1.2.2 ≤ _; rw [e1]; exact b2) H1 locs1 cells slots ls hh1 (by show _ = sh'.1.2.1; rw [e1]; exact h1) (by show _ = sh'.1.2.2; rw [e1]; exact h2) hl)
/-- getfield of an object of class ci -/
theorem z_get {ci k index : Nat} {C ref : String} {T : u_T} {N : Nat} (hc : vwCl[ci]? = some (C, T, N)) (hin : ∀ w ∈ u_ws C T N, w ∈ TT) (hk : k < N) (hlink : Cond.fieldLink y.cls index ref (T k).2.1 (T k).2.2.1 ∈ TT) (hsame : ∀ (args : Array Value) (s : State), (∀ w ∈ TT, w.before args s = true) → ∀ x, s.fieldFound? (T k).1 (T k).2.1 (T k).2.2.1 = some x → s.fieldFound? ref (T k).2.1 (T k).2.2.1 = some x) (x : Nat) (hl : (lay ci)[k]? = some x) (h1 : sh.1.1 ≤ a) (h2 : a < sh.1.2.1) (h3 : sh.2.1 a = 10 + ci) (hdg : decode cc pc = .ok (.getfield index, 3)) (kk : Z E y cc nL ret lev (sh, d) (pc + 3) lv (fv sh d a k x :: rest)) : Z E y cc nL ret lev (sh, d) pc lv (.ref a :: rest) :=
  z_read (fun p l e R s m args below meth c Q G z H locs cells slots ls hx hb ho ht _ hK hh k9 => by
    obtain ⟨q, hq⟩ := wl_pos (G := G) (d := d) h1 h2
    rw [em_o h3] at hq
    exact va_get hx hb ht hin ho hK.1 hh.2.2.2 q hq hc k hk (ht _ hlink) (hsame args s ht) (by rw [fl_get, hl, Nat.zero_add]; rfl) hdg k9) kk
theorem z_gI {g : Int32 → Option ρ} {ci k index : Nat} {C ref : String} {T : u_T} {N : Nat} (hc : vwCl[ci]? = some (C, T, N)) (hin : ∀ w ∈ u_ws C T N, w ∈ TT) (hk : k < N) (hlink : Cond.fieldLink y.cls index ref (T k).2.1 (T k).2.2.1 ∈ TT) (hsame : ∀ (args : Array Value) (s : State), (∀ w ∈ TT, w.before args s = true) → ∀ x, s.fieldFound? (T k).1 (T k).2.1 (T k).2.2.1 = some x → s.fieldFound? ref (T k).2.1 (T k).2.2.1 = some x) (hf : (gI sh d a ci k).bind g = some r) (h6 : ci ≠ 6) (hl : (lay ci)[k]? = some 0) (hdg : decode cc pc = .ok (.getfield index, 3)) (kk : ∀ v, g v = some r → Z E y cc nL ret lev (sh, d) (pc + 3) lv (.int v :: rest)) : Z E y cc nL ret lev (sh, d) pc lv (.ref a :: rest) := by
  obtain ⟨v, ev, hf⟩ := ob hf
  unfold gI at ev
  split at ev
  · rename_i q
    cases ev
    exact z_get hc hin hk hlink hsame 0 hl q.1 q.2.1 (q.2.2.elim id (fun w => absurd w.1 h6)) hdg (kk _ hf)
  · cases ev
theorem z_gJ {g : Int64 → Option ρ} {ci k index : Nat} {C ref : String} {T : u_T} {N : Nat} (hc : vwCl[ci]? = some (C, T, N)) (hin : ∀ w ∈ u_ws C T N, w ∈ TT) (hk : k < N) (hlink : Cond.fieldLink y.cls index ref (T k).2.1 (T k).2.2.1 ∈ TT) (hsame : ∀ (args : Array Value) (s : State), (∀ w ∈ TT, w.before args s = true) → ∀ x, s.fieldFound? (T k).1 (T k).2.1 (T k).2.2.1 = some x → s.fieldFound? ref (T k).2.1 (T k).2.2.1 = some x) (hf : (gJ sh d a ci k).bind g = some r) (h6 : ci ≠ 6) (hl : (lay ci)[k]? = some 1) (hdg : decode cc pc = .ok (.getfield index, 3)) (kk : ∀ v, g v = some r → Z E y cc nL ret lev (sh, d) (pc + 3) lv (.long v :: rest)) : Z E y cc nL ret lev (sh, d) pc lv (.ref a :: rest) := by
  obtain ⟨v, ev, hf⟩ := ob hf
  unfold gJ at ev
  split at ev
  · rename_i q
    cases ev
    exact z_get hc hin hk hlink hsame 1 hl q.1 q.2.1 (q.2.2.elim id (fun w => absurd w.1 h6)) hdg (kk _ hf)
  · cases ev
theorem z_gP {g : Nat → Option ρ} {ci k index : Nat} {C ref : String} {T : u_T} {N : Nat} (hc : vwCl[ci]? = some (C, T, N)) (hin : ∀ w ∈ u_ws C T N, w ∈ TT) (hk : k < N) (hlink : Cond.fieldLink y.cls index ref (T k).2.1 (T k).2.2.1 ∈ TT) (hsame : ∀ (args : Array Value) (s : State), (∀ w ∈ TT, w.before args s = true) → ∀ x, s.fieldFound? (T k).1 (T k).2.1 (T k).2.2.1 = some x → s.fieldFound? ref (T k).2.1 (T k).2.2.1 = some x) (hf : (gP sh a ci k).bind g = some r) (h6 : ci ≠ 6) (hl : (lay ci)[k]? = some 2) (hdg : decode cc pc = .ok (.getfield index, 3)) (kk : ∀ v, g v = some r → Z E y cc nL ret lev (sh, d) (pc + 3) lv (.ref v :: rest)) : Z E y cc nL ret lev (sh, d) pc lv (.ref a :: rest) := by
  obtain ⟨v, ev, hf⟩ := ob hf
  unfold gP at ev
  split at ev
  · rename_i q
    refine z_get hc hin hk hlink hsame 2 hl q.1 q.2.1 (q.2.2.elim id (fun w => absurd w.1 h6)) hdg ?_
    show Z E y cc nL ret lev (sh, d) (pc + 3) lv (va_rf (sh.2.2.2 a k) :: rest)
    rw [ev]
    exact kk _ hf
  · cases ev
theorem z_gQ {g : Nat → Option ρ} {ci k index : Nat} {C ref : String} {T : u_T} {N : Nat} (hc : vwCl[ci]? = some (C, T, N)) (hin : ∀ w ∈ u_ws C T N, w ∈ TT) (hk : k < N) (hlink : Cond.fieldLink y.cls index ref (T k).2.1 (T k).2.2.1 ∈ TT) (hsame : ∀ (args : Array Value) (s : State), (∀ w ∈ TT, w.before args s = true) → ∀ x, s.fieldFound? (T k).1 (T k).2.1 (T k).2.2.1 = some x → s.fieldFound? ref (T k).2.1 (T k).2.2.1 = some x) (hf : (gQ sh d a ci k).bind g = some r) (h6 : ci ≠ 6) (hl : (lay ci)[k]? = some 3) (hdg : decode cc pc = .ok (.getfield index, 3)) (kk : ∀ v, g v = some r → Z E y cc nL ret lev (sh, d) (pc + 3) lv (.ref v :: rest)) : Z E y cc nL ret lev (sh, d) pc lv (.ref a :: rest) := by
  obtain ⟨v, ev, hf⟩ := ob hf
  unfold gQ at ev
  split at ev
  · rename_i q
    refine z_get hc hin hk hlink hsame 3 hl q.1 q.2.1 (q.2.2.elim id (fun w => absurd w.1 h6)) hdg ?_
    show Z E y cc nL ret lev (sh, d) (pc + 3) lv (va_rf (d.2.2.2 a k) :: rest)
    rw [ev]
    exact kk _ hf
  · cases ev
theorem z_g6_1 {g : Int32 → Option ρ} {index : Nat} (hf : (gI sh d a 6 1).bind g = some r) (hlink : Cond.fieldLink y.cls index "PloughDepot$Plough" "speed" "I" ∈ TT) (hdg : decode cc pc = .ok (.getfield index, 3)) (kk : ∀ v, g v = some r → Z E y cc nL ret lev (sh, d) (pc + 3) lv (.int v :: rest)) : Z E y cc nL ret lev (sh, d) pc lv (.ref a :: rest) := by
  obtain ⟨v, ev, hf⟩ := ob hf
  unfold gI at ev
  split at ev
  · rename_i q
    cases ev
    rcases q with ⟨h1, h2, h3 | ⟨-, h3 | h3 | h3 | h3⟩⟩
    · exact z_get (ci := 6) (k := 1) (C := RX6) (T := TX6) (N := 3) rfl inlX6 (by decide) hlink (fun _ _ _ _ h9 => h9) 0 rfl h1 h2 h3 hdg (kk _ hf)
    · exact z_get (ci := 0) (k := 1) (C := RX0) (T := TX0) (N := 3) rfl inlX0 (by decide) hlink (fun _ _ _ _ h9 => h9) 0 rfl h1 h2 h3 hdg (kk _ hf)
    · exact z_get (ci := 3) (k := 1) (C := RX3) (T := TX3) (N := 5) rfl inlX3 (by decide) hlink (fun _ _ _ _ h9 => h9) 0 rfl h1 h2 h3 hdg (kk _ hf)
    · exact z_get (ci := 7) (k := 1) (C := RX7) (T := TX7) (N := 3) rfl inlX7 (by decide) hlink (fun _ _ _ _ h9 => h9) 0 rfl h1 h2 h3 hdg (kk _ hf)
    · exact z_get (ci := 9) (k := 1) (C := RX9) (T := TX9) (N := 3) rfl inlX9 (by decide) hlink (fun _ _ _ _ h9 => h9) 0 rfl h1 h2 h3 hdg (kk _ hf)
  · cases ev
theorem z_g6_2 {g : Int32 → Option ρ} {index : Nat} (hf : (gI sh d a 6 2).bind g = some r) (hlink : Cond.fieldLink y.cls index "PloughDepot$Plough" "reach" "I" ∈ TT) (hdg : decode cc pc = .ok (.getfield index, 3)) (kk : ∀ v, g v = some r → Z E y cc nL ret lev (sh, d) (pc + 3) lv (.int v :: rest)) : Z E y cc nL ret lev (sh, d) pc lv (.ref a :: rest) := by
  obtain ⟨v, ev, hf⟩ := ob hf
  unfold gI at ev
  split at ev
  · rename_i q
    cases ev
    rcases q with ⟨h1, h2, h3 | ⟨-, h3 | h3 | h3 | h3⟩⟩
    · exact z_get (ci := 6) (k := 2) (C := RX6) (T := TX6) (N := 3) rfl inlX6 (by decide) hlink (fun _ _ _ _ h9 => h9) 0 rfl h1 h2 h3 hdg (kk _ hf)
    · exact z_get (ci := 0) (k := 2) (C := RX0) (T := TX0) (N := 3) rfl inlX0 (by decide) hlink (fun _ _ _ _ h9 => h9) 0 rfl h1 h2 h3 hdg (kk _ hf)
    · exact z_get (ci := 3) (k := 2) (C := RX3) (T := TX3) (N := 5) rfl inlX3 (by decide) hlink (fun _ _ _ _ h9 => h9) 0 rfl h1 h2 h3 hdg (kk _ hf)
    · exact z_get (ci := 7) (k := 2) (C := RX7) (T := TX7) (N := 3) rfl inlX7 (by decide) hlink (fun _ _ _ _ h9 => h9) 0 rfl h1 h2 h3 hdg (kk _ hf)
    · exact z_get (ci := 9) (k := 2) (C := RX9) (T := TX9) (N := 3) rfl inlX9 (by decide) hlink (fun _ _ _ _ h9 => h9) 0 rfl h1 h2 h3 hdg (kk _ hf)
  · cases ev
theorem z_g6_0 {g : Nat → Option ρ} {index : Nat} (hf : (gP sh a 6 0).bind g = some r) (hlink : Cond.fieldLink y.cls index "PloughDepot$Plough" "log" "LPloughDepot$Log;" ∈ TT) (hdg : decode cc pc = .ok (.getfield index, 3)) (kk : ∀ v, g v = some r → Z E y cc nL ret lev (sh, d) (pc + 3) lv (.ref v :: rest)) : Z E y cc nL ret lev (sh, d) pc lv (.ref a :: rest) := by
  obtain ⟨v, ev, hf⟩ := ob hf
  unfold gP at ev
  split at ev
  · rename_i q
    have kk : Z E y cc nL ret lev (sh, d) (pc + 3) lv (va_rf (sh.2.2.2 a 0) :: rest) := by rw [ev]; exact kk _ hf
    rcases q with ⟨h1, h2, h3 | ⟨-, h3 | h3 | h3 | h3⟩⟩
    · exact z_get (ci := 6) (k := 0) (C := RX6) (T := TX6) (N := 3) rfl inlX6 (by decide) hlink (fun _ _ _ _ h9 => h9) 2 rfl h1 h2 h3 hdg (kk)
    · exact z_get (ci := 0) (k := 0) (C := RX0) (T := TX0) (N := 3) rfl inlX0 (by decide) hlink (fun _ _ _ _ h9 => h9) 2 rfl h1 h2 h3 hdg (kk)
    · exact z_get (ci := 3) (k := 0) (C := RX3) (T := TX3) (N := 5) rfl inlX3 (by decide) hlink (fun _ _ _ _ h9 => h9) 2 rfl h1 h2 h3 hdg (kk)
    · exact z_get (ci := 7) (k := 0) (C := RX7) (T := TX7) (N := 3) rfl inlX7 (by decide) hlink (fun _ _ _ _ h9 => h9) 2 rfl h1 h2 h3 hdg (kk)
    · exact z_get (ci := 9) (k := 0) (C := RX9) (T := TX9) (N := 3) rfl inlX9 (by decide) hlink (fun _ _ _ _ h9 => h9) 2 rfl h1 h2 h3 hdg (kk)
  · cases ev
theorem z_put {ci k index : Nat} {C ref : String} {T : u_T} {N : Nat} (hc : vwCl[ci]? = some (C, T, N)) (hin : ∀ w ∈ u_ws C T N, w ∈ TT) (hk : k < N) (hlink : Cond.fieldLink y.cls index ref (T k).2.1 (T k).2.2.1 ∈ TT) (hsame : ∀ (args : Array Value) (s : State), (∀ w ∈ TT, w.before args s = true) → ∀ x, s.fieldFound? (T k).1 (T k).2.1 (T k).2.2.1 = some x → s.fieldFound? ref (T k).2.1 (T k).2.2.1 = some x) (ty0 : Nat → FieldType) (hty : ∀ k, k < N → parseFieldDescriptor (T k).2.2.1 = some (ty0 k)) (hnm : ∀ a, a < N → ∀ b, b < N → a ≠ b → (T a).2.1 ≠ (T b).2.1) (hfin : (T k).2.2.2 = false) (x : Nat) (sh' : Sh) (d' : Dt) (e1 : sh'.1 = sh.1) (e2 : sh'.2.1 = sh.2.1) (ho : ∀ (G : GG) b, b ≠ a → em G sh' d' b = em G sh d b) (hm : ∀ m y, m ≠ k → fv sh' d' a m y = fv sh d a m y) (hm2 : ∀ y, y ≠ x → fv sh' d' a k y = fv sh d a k y) (hl : (lay ci)[k]? = some x) (h1 : sh.1.1 ≤ a) (h2 : a < sh.1.2.1) (h3 : sh.2.1 a = 10 + ci) {v : Value} (hv : fv sh' d' a k x = v) (hn : narrow (ty0 k) v = v) (hfit : fits (ty0 k) v = true) (hdg : decode cc pc = .ok (.putfield index, 3)) (kk : Z E y cc nL ret lev (sh', d') (pc + 3) lv rest) : Z E y cc nL ret lev (sh, d) pc lv (v :: .ref a :: rest) :=
  z_write sh' d' e1 (fun p l e R s m args below meth c Q G z H locs cells slots ls hx hb ho9 ht hmn hK hh hS hsz k9 => by
    obtain ⟨q, hq⟩ := wl_pos (G := G) (d := d) h1 h2
    have hq0 := hq
    rw [em_o h3] at hq
    refine va_put hx hb ht hin ty0 hty hnm ho9 hK.1 hh.2.2.2 (wl_D hh.1) hS q hq hc k hk (ht _ hlink) (hsame args s ht) hfin (hty k hk) hn hfit (by rw [fl_len]; exact (List.getElem?_eq_some_iff.mp hl).1) hdg (fun H1 locs1 hP1 hD1 hS1 => hp_sz (fun hle => k9 H1 locs1 (hp_back (sh' := sh') (d' := d') ⟨hh, hS⟩ h1 h2 hq0 hsz e1 (ho G) ?_ hS1 hle)))
    have h3' : sh'.2.1 a = 10 + ci := by rw [e2]; exact h3
    have es := fl_set (sh := sh) (sh' := sh') (d := d) (d' := d') (a := a) (x := x) (lay ci) 0 k (fun m y h => hm m y (by omega)) (fun y h => by rw [Nat.zero_add]; exact hm2 y h) hl
    rw [Nat.zero_add, hv] at es
    rw [em_o h3', ← es]
    exact hP1) kk
theorem z_putF {ci k index : Nat} {C ref : String} {T : u_T} {N : Nat} (hc : vwCl[ci]? = some (C, T, N)) (hin : ∀ w ∈ u_ws C T N, w ∈ TT) (hk : k < N) (hlink : Cond.fieldLink y.cls index ref (T k).2.1 (T k).2.2.1 ∈ TT) (hsame : ∀ (args : Array Value) (s : State), (∀ w ∈ TT, w.before args s = true) → ∀ x, s.fieldFound? (T k).1 (T k).2.1 (T k).2.2.1 = some x → s.fieldFound? ref (T k).2.1 (T k).2.2.1 = some x) (ty0 : Nat → FieldType) (hty : ∀ k, k < N → parseFieldDescriptor (T k).2.2.1 = some (ty0 k)) (hnm : ∀ a, a < N → ∀ b, b < N → a ≠ b → (T a).2.1 ≠ (T b).2.1) (hfin : (T k).2.2.2 = true) (hini : y.name = "<init>") (hdecl : (T k).1 = y.cls) (x : Nat) (sh' : Sh) (d' : Dt) (e1 : sh'.1 = sh.1) (e2 : sh'.2.1 = sh.2.1) (ho : ∀ (G : GG) b, b ≠ a → em G sh' d' b = em G sh d b) (hm : ∀ m y, m ≠ k → fv sh' d' a m y = fv sh d a m y) (hm2 : ∀ y, y ≠ x → fv sh' d' a k y = fv sh d a k y) (hl : (lay ci)[k]? = some x) (h1 : sh.1.1 ≤ a) (h2 : a < sh.1.2.1) (h3 : sh.2.1 a = 10 + ci) {v : Value} (hv : fv sh' d' a k x = v) (hn : narrow (ty0 k) v = v) (hfit : fits (ty0 k) v = true) (hdg : decode cc pc = .ok (.putfield index, 3)) (kk : Z E y cc nL ret lev (sh', d') (pc + 3) lv rest) : Z E y cc nL ret lev (sh, d) pc lv (v :: .ref a :: rest) :=
  z_write sh' d' e1 (fun p l e R s m args below meth c Q G z H locs cells slots ls hx hb ho9 ht hmn hK hh hS hsz k9 => by
    obtain ⟨q, hq⟩ := wl_pos (G := G) (d := d) h1 h2
    have hq0 := hq
    rw [em_o h3] at hq
    refine va_putF hx hb ht hin ty0 hty hnm ho9 hK.1 hh.2.2.2 (wl_D hh.1) hS q hq hc k hk (ht _ hlink) (hsame args s ht) hfin (hmn.trans hini) hdecl (hty k hk) hn hfit (by rw [fl_len]; exact (List.getElem?_eq_some_iff.mp hl).1) hdg (fun H1 locs1 hP1 hD1 hS1 => hp_sz (fun hle => k9 H1 locs1 (hp_back (sh' := sh') (d' := d') ⟨hh, hS⟩ h1 h2 hq0 hsz e1 (ho G) ?_ hS1 hle)))
    have h3' : sh'.2.1 a = 10 + ci := by rw [e2]; exact h3
    have es := fl_set (sh := sh) (sh' := sh') (d := d) (d' := d') (a := a) (x := x) (lay ci) 0 k (fun m y h => hm m y (by omega)) (fun y h => by rw [Nat.zero_add]; exact hm2 y h) hl
    rw [Nat.zero_add, hv] at es
    rw [em_o h3', ← es]
    exact hP1) kk
theorem fvm_I {k : Nat} {v : Int32} : ∀ m y, m ≠ k → fv sh (up2 d.1 a k v, d.2) a m y = fv sh d a m y
  | m, 0, hm => by show Value.int (up2 d.1 a k v a m) = Value.int (d.1 a m); rw [up2_s, va_up_n hm]
  | m, 1, hm => rfl
  | m, 2, hm => rfl
  | m, y + 3, hm => rfl
theorem fvn_I {k : Nat} {v : Int32} : ∀ y, y ≠ 0 → fv sh (up2 d.1 a k v, d.2) a k y = fv sh d a k y
  | 0, hy => absurd rfl hy
  | 1, hy => rfl
  | 2, hy => rfl
  | y + 3, hy => rfl
theorem fvm_J {k : Nat} {v : Int64} : ∀ m y, m ≠ k → fv sh (d.1, up2 d.2.1 a k v, d.2.2) a m y = fv sh d a m y
  | m, 0, hm => rfl
  | m, 1, hm => by show Value.long (up2 d.2.1 a k v a m) = Value.long (d.2.1 a m); rw [up2_s, va_up_n hm]
  | m, 2, hm => rfl
  | m, y + 3, hm => rfl
theorem fvn_J {k : Nat} {v : Int64} : ∀ y, y ≠ 1 → fv sh (d.1, up2 d.2.1 a k v, d.2.2) a k y = fv sh d a k y
  | 0, hy => rfl
  | 1, hy => absurd rfl hy
  | 2, hy => rfl
  | y + 3, hy => rfl
theorem fvm_Q {k v : Nat} : ∀ m y, m ≠ k → fv sh (d.1, d.2.1, d.2.2.1, up2 d.2.2.2 a k (some v)) a m y = fv sh d a m y
  | m, 0, hm => rfl
  | m, 1, hm => rfl
  | m, 2, hm => rfl
  | m, y + 3, hm => by show va_rf (up2 d.2.2.2 a k (some v) a m) = va_rf (d.2.2.2 a m); rw [up2_s, va_up_n hm]
theorem fvm_P {k v : Nat} : ∀ m y, m ≠ k → fv (sh.1, sh.2.1, sh.2.2.1, up2 sh.2.2.2 a k (some v)) d a m y = fv sh d a m y
  | m, 0, hm => rfl
  | m, 1, hm => rfl
  | m, 2, hm => by show va_rf (up2 sh.2.2.2 a k (some v) a m) = va_rf (sh.2.2.2 a m); rw [up2_s, va_up_n hm]
  | m, y + 3, hm => rfl
theorem fvn_P {k v : Nat} : ∀ y, y ≠ 2 → fv (sh.1, sh.2.1, sh.2.2.1, up2 sh.2.2.2 a k (some v)) d a k y = fv sh d a k y
  | 0, hy => rfl
  | 1, hy => rfl
  | 2, hy => absurd rfl hy
  | y + 3, hy => rfl
theorem z_pI {v : Int32} {g : Dt → Option ρ} {ci k index : Nat} {C ref : String} {T : u_T} {N : Nat} (hc : vwCl[ci]? = some (C, T, N)) (hin : ∀ w ∈ u_ws C T N, w ∈ TT) (hk : k < N) (hlink : Cond.fieldLink y.cls index ref (T k).2.1 (T k).2.2.1 ∈ TT) (hsame : ∀ (args : Array Value) (s : State), (∀ w ∈ TT, w.before args s = true) → ∀ x, s.fieldFound? (T k).1 (T k).2.1 (T k).2.2.1 = some x → s.fieldFound? ref (T k).2.1 (T k).2.2.1 = some x) (ty0 : Nat → FieldType) (hty : ∀ k, k < N → parseFieldDescriptor (T k).2.2.1 = some (ty0 k)) (hnm : ∀ a, a < N → ∀ b, b < N → a ≠ b → (T a).2.1 ≠ (T b).2.1) (hfin : (T k).2.2.2 = false) (hf : (pI sh d a ci k v).bind g = some r) (h6 : ci ≠ 6 ∨ sh.2.1 a = 16) (hl : (lay ci)[k]? = some 0) (hn : narrow (ty0 k) (.int v) = .int v) (hfit : fits (ty0 k) (.int v) = true) (hdg : decode cc pc = .ok (.putfield index, 3)) (kk : ∀ d1, g d1 = some r → Z E y cc nL ret lev (sh, d1) (pc + 3) lv rest) : Z E y cc nL ret lev (sh, d) pc lv (.int v :: .ref a :: rest) := by
  obtain ⟨v9, ev, hf⟩ := ob hf
  unfold pI at ev
  split at ev
  · rename_i q
    cases ev
    refine z_put (sh := sh) (d := d) hc hin hk hlink hsame ty0 hty hnm hfin 0 sh (up2 d.1 a k v, d.2) rfl rfl (fun G b hb => em_row rfl rfl rfl (up2_n hb) rfl rfl rfl) fvm_I fvn_I hl q.1 q.2.1 (q.2.2.elim id (fun w => h6.elim (fun h => absurd w.1 h) (fun h => by rw [h, w.1]))) ?_ hn hfit hdg (kk _ hf)
    show Value.int (up2 d.1 a k v a k) = _
    rw [up2_s, va_up_s]
  · cases ev
theorem z_pIF {v : Int32} {g : Dt → Option ρ} {ci k index : Nat} {C ref : String} {T : u_T} {N : Nat} (hc : vwCl[ci]? = some (C, T, N)) (hin : ∀ w ∈ u_ws C T N, w ∈ TT) (hk : k < N) (hlink : Cond.fieldLink y.cls index ref (T k).2.1 (T k).2.2.1 ∈ TT) (hsame : ∀ (args : Array Value) (s : State), (∀ w ∈ TT, w.before args s = true) → ∀ x, s.fieldFound? (T k).1 (T k).2.1 (T k).2.2.1 = some x → s.fieldFound? ref (T k).2.1 (T k).2.2.1 = some x) (ty0 : Nat → FieldType) (hty : ∀ k, k < N → parseFieldDescriptor (T k).2.2.1 = some (ty0 k)) (hnm : ∀ a, a < N → ∀ b, b < N → a ≠ b → (T a).2.1 ≠ (T b).2.1) (hfin : (T k).2.2.2 = true) (hini : y.name = "<init>") (hdecl : (T k).1 = y.cls) (hf : (pI sh d a ci k v).bind g = some r) (h6 : ci ≠ 6 ∨ sh.2.1 a = 16) (hl : (lay ci)[k]? = some 0) (hn : narrow (ty0 k) (.int v) = .int v) (hfit : fits (ty0 k) (.int v) = true) (hdg : decode cc pc = .ok (.putfield index, 3)) (kk : ∀ d1, g d1 = some r → Z E y cc nL ret lev (sh, d1) (pc + 3) lv rest) : Z E y cc nL ret lev (sh, d) pc lv (.int v :: .ref a :: rest) := by
  obtain ⟨v9, ev, hf⟩ := ob hf
  unfold pI at ev
  split at ev
  · rename_i q
    cases ev
    refine z_putF (sh := sh) (d := d) hc hin hk hlink hsame ty0 hty hnm hfin hini hdecl 0 sh (up2 d.1 a k v, d.2) rfl rfl (fun G b hb => em_row rfl rfl rfl (up2_n hb) rfl rfl rfl) fvm_I fvn_I hl q.1 q.2.1 (q.2.2.elim id (fun w => h6.elim (fun h => absurd w.1 h) (fun h => by rw [h, w.1]))) ?_ hn hfit hdg (kk _ hf)
    show Value.int (up2 d.1 a k v a k) = _
    rw [up2_s, va_up_s]
  · cases ev
theorem z_pJ {v : Int64} {g : Dt → Option ρ} {ci k index : Nat} {C ref : String} {T : u_T} {N : Nat} (hc : vwCl[ci]? = some (C, T, N)) (hin : ∀ w ∈ u_ws C T N, w ∈ TT) (hk : k < N) (hlink : Cond.fieldLink y.cls index ref (T k).2.1 (T k).2.2.1 ∈ TT) (hsame : ∀ (args : Array Value) (s : State), (∀ w ∈ TT, w.before args s = true) → ∀ x, s.fieldFound? (T k).1 (T k).2.1 (T k).2.2.1 = some x → s.fieldFound? ref (T k).2.1 (T k).2.2.1 = some x) (ty0 : Nat → FieldType) (hty : ∀ k, k < N → parseFieldDescriptor (T k).2.2.1 = some (ty0 k)) (hnm : ∀ a, a < N → ∀ b, b < N → a ≠ b → (T a).2.1 ≠ (T b).2.1) (hfin : (T k).2.2.2 = false) (hf : (pJ sh d a ci k v).bind g = some r) (h6 : ci ≠ 6 ∨ sh.2.1 a = 16) (hl : (lay ci)[k]? = some 1) (hn : narrow (ty0 k) (.long v) = .long v) (hfit : fits (ty0 k) (.long v) = true) (hdg : decode cc pc = .ok (.putfield index, 3)) (kk : ∀ d1, g d1 = some r → Z E y cc nL ret lev (sh, d1) (pc + 3) lv rest) : Z E y cc nL ret lev (sh, d) pc lv (.long v :: .ref a :: rest) := by
  obtain ⟨v9, ev, hf⟩ := ob hf
  unfold pJ at ev
  split at ev
  · rename_i q
    cases ev
    refine z_put (sh := sh) (d := d) hc hin hk hlink hsame ty0 hty hnm hfin 1 sh (d.1, up2 d.2.1 a k v, d.2.2) rfl rfl (fun G b hb => em_row rfl rfl rfl rfl (up2_n hb) rfl rfl) fvm_J fvn_J hl q.1 q.2.1 (q.2.2.elim id (fun w => h6.elim (fun h => absurd w.1 h) (fun h => by rw [h, w.1]))) ?_ hn hfit hdg (kk _ hf)
    show Value.long (up2 d.2.1 a k v a k) = _
    rw [up2_s, va_up_s]
  · cases ev
theorem z_pQ {v : Nat} {g : Dt → Option ρ} {ci k index : Nat} {C ref : String} {T : u_T} {N : Nat} (hc : vwCl[ci]? = some (C, T, N)) (hin : ∀ w ∈ u_ws C T N, w ∈ TT) (hk : k < N) (hlink : Cond.fieldLink y.cls index ref (T k).2.1 (T k).2.2.1 ∈ TT) (hsame : ∀ (args : Array Value) (s : State), (∀ w ∈ TT, w.before args s = true) → ∀ x, s.fieldFound? (T k).1 (T k).2.1 (T k).2.2.1 = some x → s.fieldFound? ref (T k).2.1 (T k).2.2.1 = some x) (ty0 : Nat → FieldType) (hty : ∀ k, k < N → parseFieldDescriptor (T k).2.2.1 = some (ty0 k)) (hnm : ∀ a, a < N → ∀ b, b < N → a ≠ b → (T a).2.1 ≠ (T b).2.1) (hfin : (T k).2.2.2 = false) (hf : (pQ sh d a ci k v).bind g = some r) (h6 : ci ≠ 6) (hl : (lay ci)[k]? = some 3) (hn : narrow (ty0 k) (.ref v) = .ref v) (hfit : fits (ty0 k) (.ref v) = true) (hdg : decode cc pc = .ok (.putfield index, 3)) (kk : ∀ d1, g d1 = some r → Z E y cc nL ret lev (sh, d1) (pc + 3) lv rest) : Z E y cc nL ret lev (sh, d) pc lv (.ref v :: .ref a :: rest) := by
  obtain ⟨v9, ev, hf⟩ := ob hf
  unfold pQ at ev
  split at ev
  · rename_i q
    cases ev
    refine z_write sh (d.1, d.2.1, d.2.2.1, up2 d.2.2.2 a k (some v)) rfl (fun p l e R s m args below meth c Q G z H locs cells slots ls hx hb ho9 ht hmn hK hh hS hsz k9 => ?_) (kk _ hf)
    have h3 : sh.2.1 a = 10 + ci := q.2.2.elim id (fun w => absurd w.1 h6)
    obtain ⟨q0, hq⟩ := wl_pos (G := G) (d := d) q.1 q.2.1
    have hq0 := hq
    rw [em_o h3] at hq
    refine va_put hx hb ht hin ty0 hty hnm ho9 hK.1 hh.2.2.2 (wl_D hh.1) hS q0 hq hc k hk (ht _ hlink) (hsame args s ht) hfin (hty k hk) hn hfit (by rw [fl_len]; exact (List.getElem?_eq_some_iff.mp hl).1) hdg (fun H1 locs1 hP1 hD1 hS1 => hp_sz (fun hle => k9 H1 locs1 (hp_back (sh' := sh) (d' := (d.1, d.2.1, d.2.2.1, up2 d.2.2.2 a k (some v))) ⟨hh, hS⟩ q.1 q.2.1 hq0 hsz rfl (fun b hb => em_row rfl rfl rfl rfl rfl rfl (up2_n hb)) ?_ hS1 hle)))
    rw [em_o h3]
    have es : (fl sh d a 0 (lay ci)).set k (.ref v) = fl sh (d.1, d.2.1, d.2.2.1, up2 d.2.2.2 a k (some v)) a 0 (lay ci) := by
      apply List.ext_getElem?
      intro i
      rw [List.getElem?_set, fl_get, fl_get, fl_len]
      by_cases hi : k = i
      · subst hi
        rw [if_pos rfl, if_pos (List.getElem?_eq_some_iff.mp hl).1, hl, Nat.zero_add]
        show some (Value.ref v) = some (va_rf (up2 d.2.2.2 a k (some v) a k))
        rw [up2_s, va_up_s]
        rfl
      · rw [if_neg hi, Nat.zero_add]
        cases (lay ci)[i]? with
        | none => rfl
        | some x => exact congrArg some (fvm_Q i x (fun h => hi h.symm)).symm
    rw [← es]
    exact hP1
  · cases ev
theorem z_pP {v : Nat} {g : AS → Option ρ} {ci k index : Nat} {C ref : String} {T : u_T} {N : Nat} (hc : vwCl[ci]? = some (C, T, N)) (hin : ∀ w ∈ u_ws C T N, w ∈ TT) (hk : k < N) (hlink : Cond.fieldLink y.cls index ref (T k).2.1 (T k).2.2.1 ∈ TT) (hsame : ∀ (args : Array Value) (s : State), (∀ w ∈ TT, w.before args s = true) → ∀ x, s.fieldFound? (T k).1 (T k).2.1 (T k).2.2.1 = some x → s.fieldFound? ref (T k).2.1 (T k).2.2.1 = some x) (ty0 : Nat → FieldType) (hty : ∀ k, k < N → parseFieldDescriptor (T k).2.2.1 = some (ty0 k)) (hnm : ∀ a, a < N → ∀ b, b < N → a ≠ b → (T a).2.1 ≠ (T b).2.1) (hfin : (T k).2.2.2 = true) (hini : y.name = "<init>") (hdecl : (T k).1 = y.cls) (hf : (pP (sh, d) a ci k v).bind g = some r) (h6 : ci ≠ 6 ∨ sh.2.1 a = 16) (hl : (lay ci)[k]? = some 2) (hn : narrow (ty0 k) (.ref v) = .ref v) (hfit : fits (ty0 k) (.ref v) = true) (hdg : decode cc pc = .ok (.putfield index, 3)) (kk : ∀ s1 : AS, s1.1.1 = sh.1 → g s1 = some r → Z E y cc nL ret lev s1 (pc + 3) lv rest) : Z E y cc nL ret lev (sh, d) pc lv (.ref v :: .ref a :: rest) := by
  obtain ⟨v9, ev, hf⟩ := ob hf
  unfold pP at ev
  split at ev
  · rename_i q
    cases ev
    refine z_putF (sh := sh) (d := d) hc hin hk hlink hsame ty0 hty hnm hfin hini hdecl 2 (sh.1, sh.2.1, sh.2.2.1, up2 sh.2.2.2 a k (some v)) d rfl rfl (fun G b hb => em_row rfl rfl (up2_n hb) rfl rfl rfl rfl) fvm_P fvn_P hl q.1 q.2.1 (q.2.2.elim id (fun w => h6.elim (fun h => absurd w.1 h) (fun h => by rw [h, w.1]))) ?_ hn hfit hdg (kk _ rfl hf)
    show va_rf (up2 sh.2.2.2 a k (some v) a k) = _
    rw [up2_s, va_up_s]
    rfl
  · cases ev
end ZI
