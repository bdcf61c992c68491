/-! new cells -/
def Le (s t : AS) : Prop := s.1.1.2.1 ≤ t.1.1.2.1 ∧ s.1.1.2.2 ≤ t.1.1.2.2
theorem Le.rf {s : AS} : Le s s := ⟨Nat.le_refl _, Nat.le_refl _⟩
theorem Le.tr {s t u : AS} (h : Le s t) (k : Le t u) : Le s u := ⟨Nat.le_trans h.1 k.1, Nat.le_trans h.2 k.2⟩
theorem le_nArr {s t : AS} {k : Nat} {n : Int32} (h : nArr s k n = some t) : Le s t := by
  unfold nArr at h
  split at h
  · cases h
    exact ⟨Nat.le_succ _, Nat.le_add_right _ _⟩
  · cases h
theorem le_nObj {s : AS} {c : Nat} : Le s (nObj s c) := ⟨Nat.le_succ _, Nat.le_add_right _ _⟩
theorem le_nMul {s t : AS} {n k : Int32} (h : nMul s n k = some t) : Le s t := by
  unfold nMul at h
  split at h
  · cases h
    exact ⟨by show s.1.1.2.1 ≤ s.1.1.2.1 + 1 + n.toNatClampNeg; omega, Nat.le_add_right _ _⟩
  · cases h
theorem le_pP {s t : AS} {a c k v : Nat} (h : pP s a c k v = some t) : Le s t := by
  unfold pP at h
  split at h
  · cases h
    exact Le.rf
  · cases h
theorem wl_push {G : GG} {s : AS} {t n m : Nat} (hz : s.1.1.1 ≤ s.1.1.2.1) : wl G s.1 s.2 ++ [(s.1.1.2.1, em G (push s t n m).1 (push s t n m).2 s.1.1.2.1)] = wl G (push s t n m).1 (push s t n m).2 := by
  unfold wl va_pl
  simp only [List.nil_append]
  show _ = (List.range' s.1.1.1 (s.1.1.2.1 + 1 - s.1.1.1)).map _
  rw [show s.1.1.2.1 + 1 - s.1.1.1 = (s.1.1.2.1 - s.1.1.1) + 1 by omega, List.range'_1_concat, List.map_append]
  congr 1
  · apply List.map_congr_left
    intro b hb
    rw [List.mem_range'_1] at hb
    have hne : b ≠ s.1.1.2.1 := by omega
    rw [em_row (sh := s.1) (d := s.2) (sh' := (push s t n m).1) (d' := (push s t n m).2) (va_up_n hne) (va_up_n hne) (va_up_n hne) (va_up_n hne) (va_up_n hne) (va_up_n hne) (va_up_n hne)]
  · have e : s.1.1.1 + (s.1.1.2.1 - s.1.1.1) = s.1.1.2.1 := by omega
    rw [List.map_cons, List.map_nil, e]
def dv : Nat → Value
  | 0 => .int 0
  | 1 => .long 0
  | _ => .null
theorem fl_new {sh : Sh} {d : Dt} {a : Nat} (h1 : d.1 a = fun _ => 0) (h2 : d.2.1 a = fun _ => 0) (h3 : sh.2.2.2 a = fun _ => none) (h4 : d.2.2.2 a = fun _ => none) : ∀ (xs : List Nat) (k : Nat), fl sh d a k xs = xs.map dv
  | [], k => rfl
  | x :: xs, k => by
    show fv sh d a k x :: fl sh d a (k + 1) xs = dv x :: xs.map dv
    rw [fl_new h1 h2 h3 h4 xs (k + 1)]
    congr 1
    rcases x with _ | _ | _ | x
    · show Value.int (d.1 a k) = _; rw [h1]; rfl
    · show Value.long (d.2.1 a k) = _; rw [h2]; rfl
    · show va_rf (sh.2.2.2 a k) = _; rw [h3]; rfl
    · show va_rf (d.2.2.2 a k) = _; rw [h4]; rfl
theorem em_pushO {G : GG} {s : AS} {c m : Nat} : em G (push s (10 + c) 0 m).1 (push s (10 + c) 0 m).2 s.1.1.2.1 = .inr (c, (lay c).map dv) := by
  rw [em_o (c := c) (va_up_s), fl_new va_up_s va_up_s va_up_s va_up_s]
theorem em_pushA {G : GG} {s : AS} {t n m : Nat} (ht : t < 10) : em G (push s t n m).1 (push s t n m).2 s.1.1.2.1 = .inl (G.2 t, n, kd t (push s t n m).2 s.1.1.2.1) := by
  rw [em_a (t := t) (va_up_s) ht, show (push s t n m).1.2.2.1 s.1.1.2.1 = n from va_up_s]
section ZN
variable {E : EV} {y : MethodName} {cc : ByteArray} {nL : Nat} {ret : Option FieldType} {lev : Nat} {h : AS} {pc : Nat} {lv : List (Nat × Value)} {rest : List Value} {ρ : Type} {r : ρ} {a : Nat} {s : AS}
/-- a new cell stands at the heap's end -/
theorem hp_fresh {G : GG} {z cells : Nat} {H0 H H1 : Heap} {locs locs1 : List Loc} {U : State} {q t n m : Nat} {e9 : va_E} (hh : hp G z H0 s H locs) (hsz : U.heap.size + cells = s.1.1.2.1) (hle : H1.size ≤ U.heap.size + (cells + 1)) (hP1 : va_P G.1 vwCl (wl G s.1 s.2 ++ [(q, e9)]) H1) (hD1 : va_D (fun q => z ≤ q) (wl G s.1 s.2 ++ [(q, e9)])) (hS1 : va_S (fun q => z ≤ q) H0 H1 locs1) (he : e9 = em G (push s t n m).1 (push s t n m).2 s.1.1.2.1) : q = s.1.1.2.1 ∧ hp G z H0 (push s t n m) H1 locs1 := by
  have hlast : (wl G s.1 s.2 ++ [(q, e9)])[(wl G s.1 s.2).length]? = some (q, e9) := by simp
  have hqz : z ≤ q := hD1.2 _ _ hlast
  have hqs : q < H1.size := (hP1 _ _ hlast).lt
  have hz : s.1.1.1 = z := hh.1.1
  have hzn : z ≤ s.1.1.2.1 := hh.1.2.2.1
  have hq : q = s.1.1.2.1 := by
    rcases Nat.lt_or_ge q s.1.1.2.1 with hlt | hge
    · obtain ⟨k, hk⟩ := wl_pos (G := G) (sh := s.1) (d := s.2) (a := q) (by omega) hlt
      have hkl : k < (wl G s.1 s.2).length := (List.getElem?_eq_some_iff.mp hk).1
      have hk2 : (wl G s.1 s.2 ++ [(q, e9)])[k]? = some (q, em G s.1 s.2 q) := by rw [List.getElem?_append_left hkl]; exact hk
      have := hD1.1 k _ _ _ hk2 hlast rfl
      omega
    · omega
  subst hq
  rw [he, wl_push (by omega)] at hP1
  have hlow : s.1.1.2.1 + 1 ≤ H1.size := hp_low (G := G) (h := push s t n m) (by show s.1.1.1 < s.1.1.2.1 + 1; omega) hP1
  refine ⟨rfl, ⟨hz, ?_, ?_, hP1⟩, hS1⟩
  · show H1.size = s.1.1.2.1 + 1
    omega
  · show z ≤ s.1.1.2.1 + 1
    omega
/-- one cell more -/
theorem z_alloc {pc' t n m : Nat} {st st' : List Value} (hle9 : Le (push s t n m) E.2.2.2.2.2)
    (step : ∀ (p : Program) (l : Launch) (e : Env) (R : Room) (U : State) (m0 : MethodId) (args : Array Value) (below : List Frame) (meth : Method) (c : Code) (Q : State → Prop) (G : GG) (z : Nat) (H : Heap) (locs : List Loc) (cells slots : Nat) (ls : Array Slot), p.tables.exec = Jvm.exec → c.code = cc → U.vm.findClass y.cls = some m0.cls → (∀ w ∈ TT, w.before args U = true) → KK G U → HPt G z s H → va_S (fun q => z ≤ q) U.heap H locs → z ≤ U.heap.size → cells + 1 ≤ R.cells → slots + m ≤ R.slots →
      (∀ (q : Nat) (H1 : Heap) (e9 : va_E), e9 = em G (push s t n m).1 (push s t n m).2 s.1.1.2.1 → va_P G.1 vwCl (wl G s.1 s.2 ++ [(q, e9)]) H1 → va_D (fun q => z ≤ q) (wl G s.1 s.2 ++ [(q, e9)]) → va_S (fun q => z ≤ q) U.heap H1 locs → W p l e R U m0 args below meth c H1 locs (cells + 1) (slots + m) Q (F0 m0 pc' ls (.ref q :: st'))) → W p l e R U m0 args below meth c H locs cells slots Q (F0 m0 pc ls st))
    (kk : Z E y cc nL ret lev (push s t n m) pc' lv (.ref s.1.1.2.1 :: st')) : Z E y cc nL ret lev s pc lv st := by
  obtain ⟨⟨p, l, e, R, U, m0, args, below, meth, c, Q⟩, G, z, w0, rv, hfin⟩ := E
  intro cx b1 b2 H locs cells slots ls hh h1 h2 hl
  have r1 := cx.2.2.2.2.2.2.2.2.2.2.2.1
  have r2 := cx.2.2.2.2.2.2.2.2.2.2.2.2.1
  have n1 : s.1.1.2.1 + 1 ≤ hfin.1.1.2.1 := hle9.1
  have n2 : s.1.1.2.2 + m ≤ hfin.1.1.2.2 := hle9.2
  refine step p l e R U m0 args below meth c Q G z H locs cells slots ls cx.1 cx.2.1 cx.2.2.2.2.1 (fun w hw => cx.2.2.2.1 w (List.mem_cons_of_mem _ hw)) cx.2.2.2.2.2.2.2.2.1 hh.1 hh.2 cx.2.2.2.2.2.2.2.2.2.2.2.2.2 (by omega) (by omega) (fun q H1 e9 he hP1 hD1 hS1 => hp_sz (fun hle => ?_))
  obtain ⟨rfl, hh1⟩ := hp_fresh hh h1 hle hP1 hD1 hS1 he
  exact kk cx hle9.1 hle9.2 H1 locs _ _ ls hh1 (by show U.heap.size + (cells + 1) = s.1.1.2.1 + 1; omega) (by show w0 + (slots + m) = s.1.1.2.2 + m; omega) hl
theorem z_newo {ci index N : Nat} {C : String} {T : u_T} (hc : vwCl[ci]? = some (C, T, N)) (hin : ∀ w ∈ u_ws C T N, w ∈ TT) (ty : Nat → FieldType) (hty : ∀ k, k < N → parseFieldDescriptor (T k).2.2.1 = some (ty k)) (hw1 : Cond.classLink y.cls index C ∈ TT) (hw2 : Cond.instantiable C N ∈ TT) (hw3 : Cond.initialized C ∈ TT) (hN : (lay ci).length = N) (hfs : ∀ j, j < N → defaultValue (ty j) = vp_V ((lay ci).map dv) j) (hle9 : Le (nObj s ci) E.2.2.2.2.2) (hdg : decode cc pc = .ok (.new index, 3))
    (kk : Z E y cc nL ret lev (nObj s ci) (pc + 3) lv (.ref s.1.1.2.1 :: rest)) : Z E y cc nL ret lev s pc lv rest :=
  z_alloc hle9 (fun p l e R U m0 args below meth c Q G z H locs cells slots ls hx hb ho ht hK hh hS hz hc1 hs1 k9 =>
    va_new (fs := (lay ci).map dv) hx hb ht hin ty hty ho (ht _ hw1) (ht _ hw2) (ht _ hw3) hK.1 hh.2.2.2 (wl_D hh.1) hS (fun q hq => Nat.le_trans hz hq) hc hfs hc1 (by rw [hN] at hs1; exact hs1) hdg (fun q H1 hP1 hD1 hS1 => by
      have k := k9 q H1 _ em_pushO.symm hP1 hD1 hS1
      rw [hN] at k
      exact k)) kk
theorem z_newa {t : Nat} {atype : ArrayType} {ty : FieldType} {n : Int32} {g : AS → Option ρ} (hf : (nArr s t n).bind g = some r) (hle9 : ∀ s1, g s1 = some r → Le s1 E.2.2.2.2.2) (hw : Cond.arrayClass (newarray.typeOf atype) ∈ TT) (hty : newarray.typeOf atype = ty) (ht : ∀ G : GG, (tyG G)[t]? = some (G.2 t, ty)) (ht10 : t < 10) (h1 : ∀ (G : GG) (U : State), va_RA U (G.2 t) ty → U.vm.findClass ("[" ++ ty.toString) = some (G.2 t)) (a0 : Nat → vp_A) (ha : ∀ (cA : ClassId) (N : Nat), vp_cell cA (a0 N) = arrV cA N (fun _ => defaultValue ty)) (hcb : componentBytes ty ≤ 8) (hem : ∀ (m : Nat), (m, kd t (push s t m m).2 s.1.1.2.1) = a0 m) (hdg : decode cc pc = .ok (.newarray atype, 2))
    (kk : ∀ s1, g s1 = some r → Z E y cc nL ret lev s1 (pc + 2) lv (.ref s.1.1.2.1 :: rest)) : Z E y cc nL ret lev s pc lv (.int n :: rest) := by
  obtain ⟨s1, ev, hf⟩ := ob hf
  have hle9 := hle9 s1 hf
  have kk := kk s1 hf
  unfold nArr at ev
  split at ev
  · rename_i q
    cases ev
    refine z_alloc hle9 (fun p l e R U m0 args below meth c Q G z H locs cells slots ls hx hb ho ht9 hK hh hS hz hc1 hs1 k9 => ?_) kk
    refine ns_new t (a0 := a0 n.toNatClampNeg) hx hb (ht9 _ hw) hty (ht G) (h1 G U) hK hh.2.2.2 (wl_D hh.1) hS (fun q hq => Nat.le_trans hz hq) (fun cA => ha cA _) q.1 rfl ?_ hc1 hs1 hdg (fun q H1 hP1 hD1 hS1 => k9 q H1 _ ?_ hP1 hD1 hS1)
    · have h20 := q.2
      have : n.toNatClampNeg * componentBytes ty ≤ n.toNatClampNeg * 8 := Nat.mul_le_mul_left _ hcb
      omega
    · rw [em_pushA ht10]
      show Sum.inl (G.2 t, a0 n.toNatClampNeg) = Sum.inl (G.2 t, (n.toNatClampNeg, kd t (push s t n.toNatClampNeg n.toNatClampNeg).2 s.1.1.2.1))
      rw [hem]
  · cases ev
theorem z_newq {index : Nat} {n : Int32} {g : AS → Option ρ} (hf : (nArr s 6 n).bind g = some r) (hle9 : ∀ s1, g s1 = some r → Le s1 E.2.2.2.2.2) (hw : Cond.classLink y.cls index "PloughDepot$Plough" ∈ TT) (hdg : decode cc pc = .ok (.anewarray index, 3))
    (kk : ∀ s1, g s1 = some r → Z E y cc nL ret lev s1 (pc + 3) lv (.ref s.1.1.2.1 :: rest)) : Z E y cc nL ret lev s pc lv (.int n :: rest) := by
  obtain ⟨s1, ev, hf⟩ := ob hf
  have hle9 := hle9 s1 hf
  have kk := kk s1 hf
  unfold nArr at ev
  split at ev
  · rename_i q
    cases ev
    refine z_alloc hle9 (fun p l e R U m0 args below meth c Q G z H locs cells slots ls hx hb ho ht9 hK hh hS hz hc1 hs1 k9 => ?_) kk
    refine va_newq hx hb ho (ht9 _ hw) hK.2.2.1 hK.1 hh.2.2.2 (wl_D hh.1) hS (fun q hq => Nat.le_trans hz hq) q.1 rfl (by have := q.2; omega) hc1 hs1 hdg (fun q cA H1 hK2 hP1 hD1 hS1 => ?_)
    obtain ⟨-, -, -, -, -, h6⟩ := (hK2.2 7 _ rfl).2
    obtain ⟨-, -, -, -, -, h5⟩ := (hK.1.2 6 _ rfl).2
    obtain rfl : cA = G.2 6 := Option.some.inj (h6.symm.trans h5)
    refine k9 q H1 _ ?_ hP1 hD1 hS1
    rw [em_pushA (by decide), kd_q (by decide)]
    show _ = Sum.inl (G.2 6, n.toNatClampNeg, Sum.inr (Sum.inr (Sum.inr (Sum.inr (va_up s.2.2.2.2 s.1.1.2.1 (fun _ => none) s.1.1.2.1)))))
    rw [va_up_s]
  · cases ev
end ZN
