section NSM
variable {p : Program} {l : Launch} {e : Env} {R : Room} {s : State} {m : MethodId} {args : Array Value} {below : List Frame} {meth : Method} {c : Code} {H : Heap} {locs : List Loc} {cells slots : Nat} {Q : State → Prop}
variable {cc : ByteArray} {pc : Nat} {ls : Array Slot} {rest : List Value} {G : GG} {A : Nat → Prop} {X ws : va_W} {L : List Nat} {f : Nat → va_E} {H0 : Heap}
/-- new int[n][k]: its rows go to the pool -/
theorem ns_mna (hexec : p.tables.exec = Jvm.exec) (hb : c.code = cc) {own : String} {index : Nat} (hown : s.vm.findClass own = some m.cls) (hclink : (Cond.classLink own index "[[I").before args s = true) (harr : (Cond.arrayClass .int).before args s = true) (hK : KK G s) (hRo : Ro G L f) (hP : va_P G.1 vwCl (X ++ va_pl L f) H) (hD : va_D A (X ++ va_pl L f)) (hS : va_S A H0 H locs) (hA : ∀ q, H0.size ≤ q → A q)
    {n k : Int32} {N' K' : Nat} (hn : ¬ n < 0) (hk : ¬ k < 0) (hN : n.toNatClampNeg = N') (hM : k.toNatClampNeg = K') (hN9 : N' < 2 ^ 20) (h4 : 4 ≤ K') (hK9 : K' < 2 ^ 20) (hcells : cells + (1 + N') ≤ R.cells) (hslots : slots + (N' + N' * K') ≤ R.slots) (hdg : decode cc pc = .ok (.multianewarray index 2, 4))
    (kk : ∀ (q : Nat) (g : Nat → Option Nat) (L2 : List Nat) (f2 : Nat → va_E) (H1 : Heap), Ro G L2 f2 → (∀ a9, a9 ∈ L → a9 ∈ L2) → Gr L2 g N' → va_P G.1 vwCl ((X ++ [(q, .inl (G.2 5, N', .inr (.inr (.inr (.inr g)))))]) ++ va_pl L2 f2) H1 → va_D A ((X ++ [(q, .inl (G.2 5, N', .inr (.inr (.inr (.inr g)))))]) ++ va_pl L2 f2) → va_S A H0 H1 locs →
      W p l e R s m args below meth c H1 locs (cells + 1 + N') (slots + N' + N' * K') Q (F0 m (pc + 4) ls (.ref q :: rest))) : W p l e R s m args below meth c H locs cells slots Q (F0 m pc ls (.int k :: .int n :: rest)) := by
  have hcy : s.vm.findClass (FieldType.array .int).toString = some (G.2 0) := (hK.1.2 0 _ rfl).2
  have h5 : s.vm.findClass ("[" ++ (FieldType.array .int).toString) = some (G.2 5) := (hK.1.2 5 _ rfl).2
  refine va_mna (ty := .int) (cy := G.2 0) (z := (K', .inl (fun _ => 0))) hexec hb hown hclink hK.2.1 harr hcy hK.1 hP hD hS hA hn hk hN hM (by omega) (by show K' * 4 ≤ 536870912; omega) (by omega) rfl rfl hcells hslots (fun c9 => ?_) hdg (fun q r cA H1 hinj hnl hK2 hP1 hD1 hS1 => ?_)
  · show ({ cls := c9, slots := Array.replicate K' (.int 0), vm := .none } : Cell) = _
    rw [vp_cell_i, arrV_new]
  · have h6 : s.vm.findClass ("[" ++ (FieldType.array .int).toString) = some cA := (hK2.2 7 _ rfl).2
    obtain rfl : cA = G.2 5 := Option.some.inj (h6.symm.trans h5)
    refine kk q _ _ _ H1 (hRo.app h4 hK9) (fun a9 h => List.mem_append_left _ h) (fun i hi => ⟨r i, if_pos hi, ?_⟩) hP1 hD1 hS1
    exact List.mem_append_right _ (List.mem_map.mpr ⟨i, List.mem_range.mpr hi, rfl⟩)
/-- new Plough[n] -/
theorem ns_newq (hexec : p.tables.exec = Jvm.exec) (hb : c.code = cc) {own : String} {index : Nat} (hown : s.vm.findClass own = some m.cls) (hclink : (Cond.classLink own index "PloughDepot$Plough").before args s = true) (hK : KK G s) (hP : va_P G.1 vwCl ws H) (hD : va_D A ws) (hS : va_S A H0 H locs) (hA : ∀ q, H0.size ≤ q → A q)
    {n : Int32} {N' : Nat} (hn : ¬ n < 0) (hN : n.toNatClampNeg = N') (hbytes : N' * 4 ≤ 536870912) (hcells : cells + 1 ≤ R.cells) (hslots : slots + N' ≤ R.slots) (hdg : decode cc pc = .ok (.anewarray index, 3))
    (kk : ∀ (q : Nat) (H1 : Heap), va_P G.1 vwCl (ws ++ [(q, .inl (G.2 6, N', .inr (.inr (.inr (.inr (fun _ => none))))))]) H1 → va_D A (ws ++ [(q, .inl (G.2 6, N', .inr (.inr (.inr (.inr (fun _ => none))))))]) → va_S A H0 H1 locs →
      W p l e R s m args below meth c H1 locs (cells + 1) (slots + N') Q (F0 m (pc + 3) ls (.ref q :: rest))) : W p l e R s m args below meth c H locs cells slots Q (F0 m pc ls (.int n :: rest)) := by
  refine va_newq hexec hb hown hclink hK.2.2.1 hK.1 hP hD hS hA hn hN hbytes hcells hslots hdg (fun q cA H1 hK2 hP1 hD1 hS1 => ?_)
  obtain ⟨-, -, -, -, -, h6⟩ := (hK2.2 7 _ rfl).2
  obtain ⟨-, -, -, -, -, h5⟩ := (hK.1.2 6 _ rfl).2
  obtain rfl : cA = G.2 6 := Option.some.inj (h6.symm.trans h5)
  exact kk q H1 hP1 hD1 hS1
end NSM
