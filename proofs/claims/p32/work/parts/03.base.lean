/-! the words of all methods: the law's own list -/
abbrev TT : List Cond := wsL_law
theorem tt_all : wsL_law.all goodWord = true := by decide +kernel
theorem tt_good {w : Cond} (h : w ∈ TT) : (w.onTables && w.keeps) = true ∨ ∃ ty, w = .arrayClass ty := good_of_word (List.all_eq_true.mp tt_all w h)
theorem gd_T {w0 cd : Cond} (h5 : cd ∈ TT) : GoodIn (w0 :: TT) (cd :: TT) := fun w h => by
  have hm : w ∈ TT := by
    rcases List.mem_cons.mp h with e | e
    · rw [e]; exact h5
    · exact e
  exact ⟨List.mem_cons_of_mem _ hm, tt_good hm⟩
theorem gd_V {w0 cd : Cond} {own C : String} {idx : Nat} {y : MethodName} (h1 : Cond.methodLink own idx y ∈ TT) (h2 : Cond.instanceMethod y ∈ TT) (h3 : Cond.selects C y y ∈ TT) (h4 : Cond.initialized C ∈ TT) (h5 : cd ∈ TT) : GoodIn (w0 :: TT) (wsV own idx C y (cd :: TT)) := fun w h => by
  unfold wsV at h
  rcases List.mem_append.mp h with h | h
  · have hm : w ∈ TT := by
      simp only [List.mem_cons, List.not_mem_nil, or_false] at h
      rcases h with rfl | rfl | rfl | rfl <;> assumption
    exact ⟨List.mem_cons_of_mem _ hm, tt_good hm⟩
  · exact gd_T h5 w h
theorem gd_S {w0 cd : Cond} {own : String} {idx : Nat} {y : MethodName} (h1 : Cond.methodLink own idx y ∈ TT) (h2 : Cond.static y ∈ TT) (h4 : Cond.initialized own ∈ TT) (h5 : cd ∈ TT) : GoodIn (w0 :: TT) (wsS own idx y (cd :: TT)) := fun w h => by
  unfold wsS at h
  rcases List.mem_append.mp h with h | h
  · have hm : w ∈ TT := by
      simp only [List.mem_cons, List.not_mem_nil, or_false] at h
      rcases h with rfl | rfl | rfl <;> assumption
    exact ⟨List.mem_cons_of_mem _ hm, tt_good hm⟩
  · exact gd_T h5 w h
/-! the tables' facts that every contract carries -/
/-- the numbers of the classes and fields, and of the array classes: 0 int, 1 long, 2 float, 3 char, 4 boolean, 5 int[], 6 Plough -/
abbrev GG : Type := va_G × (Nat → ClassId)
abbrev tyG (G : GG) : List (ClassId × FieldType) := [(G.2 0, .int), (G.2 1, .long), (G.2 2, .float), (G.2 3, .char), (G.2 4, .boolean), (G.2 5, .array .int), (G.2 6, .object "PloughDepot$Plough")]
def KK (G : GG) (U : State) : Prop := va_K G.1 vwCl (tyG G) U ∧ va_AOA .int U ∧ va_AO "PloughDepot$Plough" U ∧ va_Nw (.methodLinkNest "PloughDepot" 9 yX2_init "PloughDepot") U ∧ va_Nw (.methodLinkNest "PloughDepot$Ways" 81 yX11_lowest "PloughDepot") U ∧ va_Nw (.methodLinkNest "PloughDepot$Pairing" 91 yX11_lowest "PloughDepot") U ∧ va_Nw (.methodLinkNest "PloughDepot$Planner" 150 yX11_lowest "PloughDepot") U ∧ va_Nw (.castable "PloughDepot$Blower" "PloughDepot$Plough") U ∧ va_Nw (.castable "PloughDepot$Salter" "PloughDepot$Plough") U ∧ va_Nw (.castable "PloughDepot$Tractor" "PloughDepot$Plough") U ∧ va_Nw (.castable "PloughDepot$Pair" "PloughDepot$Plough") U ∧ va_Nc "PloughDepot$Plough" "PloughDepot$Salter" U ∧ va_Nc "PloughDepot$Blower" "PloughDepot$Salter" U ∧ va_Nc "PloughDepot$Tractor" "PloughDepot$Salter" U ∧ va_Nc "PloughDepot$Pair" "PloughDepot$Salter" U ∧ va_Nc "PloughDepot$Plough" "PloughDepot$Pair" U ∧ va_Nc "PloughDepot$Blower" "PloughDepot$Pair" U ∧ va_Nc "PloughDepot$Salter" "PloughDepot$Pair" U ∧ va_Nc "PloughDepot$Tractor" "PloughDepot$Pair" U
theorem KK.warm {G : GG} {s U : State} (hW : s.WarmedH U.vm) (h : KK G s) : KK G U := ⟨va_K.moved hW.alike h.1, va_AOA.moved hW.alike h.2.1, va_AO.moved hW.alike h.2.2.1, va_Nw.warmM hW h.2.2.2.1, va_Nw.warmM hW h.2.2.2.2.1, va_Nw.warmM hW h.2.2.2.2.2.1, va_Nw.warmM hW h.2.2.2.2.2.2.1, va_Nw.warmC hW h.2.2.2.2.2.2.2.1, va_Nw.warmC hW h.2.2.2.2.2.2.2.2.1, va_Nw.warmC hW h.2.2.2.2.2.2.2.2.2.1, va_Nw.warmC hW h.2.2.2.2.2.2.2.2.2.2.1, va_Nc.moved hW.alike h.2.2.2.2.2.2.2.2.2.2.2.1, va_Nc.moved hW.alike h.2.2.2.2.2.2.2.2.2.2.2.2.1, va_Nc.moved hW.alike h.2.2.2.2.2.2.2.2.2.2.2.2.2.1, va_Nc.moved hW.alike h.2.2.2.2.2.2.2.2.2.2.2.2.2.2.1, va_Nc.moved hW.alike h.2.2.2.2.2.2.2.2.2.2.2.2.2.2.2.1, va_Nc.moved hW.alike h.2.2.2.2.2.2.2.2.2.2.2.2.2.2.2.2.1, va_Nc.moved hW.alike h.2.2.2.2.2.2.2.2.2.2.2.2.2.2.2.2.2.1, va_Nc.moved hW.alike h.2.2.2.2.2.2.2.2.2.2.2.2.2.2.2.2.2.2⟩
theorem KK.same {G : GG} {u U : State} (h : u.vm = U.vm) (hK : KK G u) : KK G U := ⟨va_K.moved (by rw [h]; exact Vm.Alike.refl _) hK.1, va_AOA.moved (by rw [h]; exact Vm.Alike.refl _) hK.2.1, va_AO.moved (by rw [h]; exact Vm.Alike.refl _) hK.2.2.1, va_Nw.same rfl h hK.2.2.2.1, va_Nw.same rfl h hK.2.2.2.2.1, va_Nw.same rfl h hK.2.2.2.2.2.1, va_Nw.same rfl h hK.2.2.2.2.2.2.1, va_Nw.same rfl h hK.2.2.2.2.2.2.2.1, va_Nw.same rfl h hK.2.2.2.2.2.2.2.2.1, va_Nw.same rfl h hK.2.2.2.2.2.2.2.2.2.1, va_Nw.same rfl h hK.2.2.2.2.2.2.2.2.2.2.1, va_Nc.moved (by rw [h]; exact Vm.Alike.refl _) hK.2.2.2.2.2.2.2.2.2.2.2.1, va_Nc.moved (by rw [h]; exact Vm.Alike.refl _) hK.2.2.2.2.2.2.2.2.2.2.2.2.1, va_Nc.moved (by rw [h]; exact Vm.Alike.refl _) hK.2.2.2.2.2.2.2.2.2.2.2.2.2.1, va_Nc.moved (by rw [h]; exact Vm.Alike.refl _) hK.2.2.2.2.2.2.2.2.2.2.2.2.2.2.1, va_Nc.moved (by rw [h]; exact Vm.Alike.refl _) hK.2.2.2.2.2.2.2.2.2.2.2.2.2.2.2.1, va_Nc.moved (by rw [h]; exact Vm.Alike.refl _) hK.2.2.2.2.2.2.2.2.2.2.2.2.2.2.2.2.1, va_Nc.moved (by rw [h]; exact Vm.Alike.refl _) hK.2.2.2.2.2.2.2.2.2.2.2.2.2.2.2.2.2.1, va_Nc.moved (by rw [h]; exact Vm.Alike.refl _) hK.2.2.2.2.2.2.2.2.2.2.2.2.2.2.2.2.2.2⟩
theorem KK.calling {G : GG} {U : State} {g : JFrame} {mk : MethodId} {a : Array Value} (h : KK G U) : KK G (U.calling g mk a) := h.same rfl
/-- a method's start: its world ws in a heap of sz cells -/
def c0_P (G : GG) (av : List Value) (sz : Nat) (ws : va_W) : Array Value → State → Prop := va_Pc av (fun U => U.heap.size = sz ∧ va_P G.1 vwCl ws U.heap ∧ KK G U ∧ va_D (fun _ => True) ws)
/-- the world behind it -/
def c0_B (G : GG) (A : Nat → Prop) (ws : va_W) (t : State) : Prop := va_P G.1 vwCl ws t.heap ∧ va_D A ws
theorem c0_blind {G : GG} {av : List Value} {sz : Nat} {ws : va_W} : FrameBlind (c0_P G av sz ws) := fun a U g mk q => by
  obtain ⟨q0, q1, qP, qK, qD⟩ := q
  exact ⟨q0, q1, qP, qK.calling, qD⟩
theorem c0_pre {G : GG} {As : List Value} {ws : va_W} {s : State} {H : Heap} (hP : va_P G.1 vwCl ws H) (hK : KK G s) {A : Nat → Prop} (hD : va_D A ws) : PreS s H (c0_P G As H.size ws) As := ⟨c0_blind, fun U hU hW => ⟨rfl, by rw [hU], by rw [hU]; exact hP, hK.warm hW, hD.weaken (fun _ _ _ _ => trivial)⟩⟩
theorem c0_preV {G : GG} {As : List Value} {ws : va_W} {s : State} {H : Heap} {b q0 ci : Nat} {fs : List Value} {q : vw_C} (hP : va_P G.1 vwCl ws H) (hK : KK G s) {A : Nat → Prop} (hD : va_D A ws) (hc : vwCl[ci]? = some q) (he : ws[q0]? = some (b, .inr (ci, fs))) : PreV s H q.1 b (c0_P G (.ref b :: As) H.size ws) As := ⟨c0_blind, va_recv hK.1 hP hc he, (c0_pre hP hK hD).2⟩
theorem arr_same {G : GG} {s : State} (hK : KK G s) {i : Nat} {cA : ClassId} {ty : FieldType} (ht : (tyG G)[i]? = some (G.2 i, ty)) (h1 : va_RA s (G.2 i) ty → s.vm.findClass ("[" ++ ty.toString) = some (G.2 i)) (h2 : s.vm.findClass ("[" ++ ty.toString) = some cA) : cA = G.2 i := Option.some.inj (h2.symm.trans (h1 (hK.1.2 i _ ht).2))
section NSR
variable {p : Program} {l : Launch} {e : Env} {R : Room} {s : State} {m : MethodId} {args : Array Value} {below : List Frame} {meth : Method} {c : Code} {H : Heap} {locs : List Loc} {cells slots : Nat} {Q : State → Prop}
variable {cc : ByteArray} {pc : Nat} {ls : Array Slot} {rest : List Value} {G : GG} {A : Nat → Prop} {a : Nat} {ws : va_W} {H0 : Heap}
/-- a new array of a primitive type, its class by its number in G -/
theorem ns_new (ti : Nat) (hexec : p.tables.exec = Jvm.exec) (hb : c.code = cc) {atype : ArrayType} (harr : (Cond.arrayClass (newarray.typeOf atype)).before args s = true) {ty : FieldType} (hty : newarray.typeOf atype = ty) (ht : (tyG G)[ti]? = some (G.2 ti, ty)) (h1 : va_RA s (G.2 ti) ty → s.vm.findClass ("[" ++ ty.toString) = some (G.2 ti)) (hK : KK G s) (hP : va_P G.1 vwCl ws H) (hD : va_D A ws) (hS : va_S A H0 H locs) (hA : ∀ q, H0.size ≤ q → A q)
    {n : Int32} {N' : Nat} {a0 : vp_A} (ha : ∀ cA : ClassId, vp_cell cA a0 = arrV cA N' (fun _ => defaultValue ty)) (hn : ¬ n < 0) (hN : n.toNatClampNeg = N') (hbytes : N' * componentBytes ty ≤ 536870912) (hcells : cells + 1 ≤ R.cells) (hslots : slots + N' ≤ R.slots) (hdg : decode cc pc = .ok (.newarray atype, 2))
    (kk : ∀ (q : Nat) (H1 : Heap), va_P G.1 vwCl (ws ++ [(q, .inl (G.2 ti, a0))]) H1 → va_D A (ws ++ [(q, .inl (G.2 ti, a0))]) → va_S A H0 H1 locs →
      W p l e R s m args below meth c H1 locs (cells + 1) (slots + N') Q (F0 m (pc + 2) ls (.ref q :: rest))) : W p l e R s m args below meth c H locs cells slots Q (F0 m pc ls (.int n :: rest)) := by
  subst hty
  refine va_newaK hexec hb harr rfl hdg rfl hn hN hbytes hcells hslots rfl fun H1 cA e1 z1 o1 hAr hNm => ?_
  obtain rfl : cA = G.2 ti := arr_same hK ht h1 hNm
  have hk : ∀ (k : Nat) (x : Nat × va_E), ws[k]? = some x → H1[x.1]? = H[x.1]? := fun k x hx => o1 x.1 ((hP k x hx).lt)
  refine kk H.size H1 ((hP.kept hk).app (fun k x hx => ?_)) (hD.push hP rfl (hA _ hS.1)) ⟨Nat.le_trans hS.1 (by omega), fun x h1 h2 => (o1 x (Nat.lt_of_lt_of_le h1 hS.1)).trans (hS.2.1 x h1 h2), hS.2.2⟩
  have hz : k < 1 := (List.getElem?_eq_some_iff.mp hx).1
  rw [show k = 0 by omega] at hx
  cases hx
  show H1[H.size]? = some (vp_cell _ _)
  rw [ha]
  exact e1
/-- a row of an array of arrays of ints -/
theorem ns_row (hexec : p.tables.exec = Jvm.exec) (hb : c.code = cc) (hK : KK G s) (hP : va_P G.1 vwCl ws H) (q0 : Nat) {n : Nat} {f : Nat → Option Nat} (ha : ws[q0]? = some (a, .inl (G.2 5, n, .inr (.inr (.inr (.inr f)))))) {i : Int32} (hin : vp_in i n) {y : Nat} (hy : f i.toNatClampNeg = some y) (hdg : decode cc pc = .ok (.aaload, 1))
    (kk : W p l e R s m args below meth c H locs cells slots Q (F0 m (pc + 1) ls (.ref y :: rest))) : W p l e R s m args below meth c H locs cells slots Q (F0 m pc ls (.int i :: .ref a :: rest)) := by
  have hlt : i.toNatClampNeg < n := Nat.not_le.mp fun q => hin (Or.inr q)
  exact W.aald (v := .ref y) (ty := .array .int) hexec hb (hP q0 _ ha) ((hK.1.2 5 _ rfl).1 n (fun j => va_rf (f j))) rfl (fun q => by cases q) (by show ¬ (i < 0 ∨ (arrV _ _ _).slots.size ≤ _); rw [arrV_size]; exact hin) (by show (arrV _ _ _).slots[_]? = _; rw [arrV_read _ _ hlt, hy]; rfl) rfl rfl hdg kk
end NSR
