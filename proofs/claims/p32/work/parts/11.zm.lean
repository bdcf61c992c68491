section ZM
variable {p : Program} {l : Launch} {e : Env} {R : Room} {U : State} {m : MethodId} {args : Array Value} {below : List Frame} {meth : Method} {c : Code} {H : Heap} {locs : List Loc} {cells slots : Nat} {Q : State → Prop} {cc : ByteArray} {pc : Nat} {ls : Array Slot} {rest : List Value}
/-- new int[n][k], its cells in their order -/
theorem mn_raw (hexec : p.tables.exec = Jvm.exec) (hb : c.code = cc) {own : String} {index : Nat} {cy : ClassId} (hown : U.vm.findClass own = some m.cls) (hclink : (Cond.classLink own index ("[" ++ (FieldType.array .int).toString)).before args U = true) (hover : va_AOA .int U) (harr : (Cond.arrayClass .int).before args U = true) (hcy : U.vm.findClass (FieldType.array .int).toString = some cy) {n k : Int32} (hn : ¬ n < 0) (hk : ¬ k < 0) (h20 : n.toNatClampNeg < 2 ^ 20) (h21 : k.toNatClampNeg < 2 ^ 20) (hcells : cells + (1 + n.toNatClampNeg) ≤ R.cells) (hslots : slots + (n.toNatClampNeg + n.toNatClampNeg * k.toNatClampNeg) ≤ R.slots) (hdg : decode cc pc = .ok (.multianewarray index 2, 4))
    (kk : ∀ (cA : ClassId) (H1 : Heap), U.vm.findClass ("[" ++ (FieldType.array .int).toString) = some cA → H1.size = H.size + 1 + n.toNatClampNeg → (∀ x : Nat, x < H.size → H1[x]? = H[x]?) → H1[H.size]? = some (vp_cell cA (n.toNatClampNeg, .inr (.inr (.inr (.inr (fun i => if i < n.toNatClampNeg then some (H.size + 1 + i) else none)))))) → (∀ j : Nat, j < n.toNatClampNeg → H1[H.size + 1 + j]? = some (vp_cell cy (k.toNatClampNeg, .inl (fun _ => 0)))) →
      W p l e R U m args below meth c H1 locs (cells + 1 + n.toNatClampNeg) (slots + n.toNatClampNeg + n.toNatClampNeg * k.toNatClampNeg) Q (F0 m (pc + 4) ls (.ref H.size :: rest))) : W p l e R U m args below meth c H locs cells slots Q (F0 m pc ls (.int k :: .int n :: rest)) := by
  intro T hT Xs
  obtain ⟨vm₁, cA, comp, -, fA, fC, hO, -, X', step⟩ := Xs.multianewarray2F (ty := .int) hexec hown hclink (va_AOA.use hover) harr (g := F0 m pc ls (.int k :: .int n :: rest)) rfl (by rw [hb]; exact hdg) rfl hn hk (by omega) (by show k.toNatClampNeg * 4 ≤ _; omega) (by omega) rfl rfl hcells hslots
  have ec : some cy = some comp := hcy.symm.trans fC
  cases ec
  generalize hF : Jvm.Free.Multi.fill (T.setVm vm₁) cA cy n.toNatClampNeg k.toNatClampNeg (defaultValue .int) n.toNatClampNeg = F at X' step
  have hTh : (T.setVm vm₁).heap = H := hT
  obtain ⟨f1, f2, -, -⟩ := Jvm.Free.Multi.fill_facts (T.setVm vm₁) cA cy n.toNatClampNeg k.toNatClampNeg (defaultValue .int) n.toNatClampNeg
  rw [hF, hTh] at f1 f2
  have hold : ∀ x : Nat, x < H.size → F.heap[x]? = H[x]? := fun x hx => by
    have := Jvm.Free.Multi.fill_old (T.setVm vm₁) cA cy n.toNatClampNeg k.toNatClampNeg (defaultValue .int) (a := x) (by rw [hTh]; exact hx) n.toNatClampNeg
    rw [hF, hTh] at this
    exact this
  have hz : ∀ c9 : ClassId, Jvm.Free.Multi.innerC c9 k.toNatClampNeg (defaultValue .int) = vp_cell c9 (k.toNatClampNeg, .inl (fun _ => 0)) := fun c9 => by
    show ({ cls := c9, slots := Array.replicate k.toNatClampNeg (.int 0), vm := .none } : Cell) = _
    rw [vp_cell_i, arrV_new]
  have hrow : ∀ j : Nat, j < n.toNatClampNeg → F.heap[H.size + 1 + j]? = some (vp_cell cy (k.toNatClampNeg, .inl (fun _ => 0))) := fun j hj => by
    have := Jvm.Free.Multi.fill_inner (T.setVm vm₁) cA cy n.toNatClampNeg k.toNatClampNeg (defaultValue .int) n.toNatClampNeg j hj
    rw [hF, hTh, hz] at this
    exact this
  have hout : Jvm.Free.Multi.outerC cA n.toNatClampNeg H.size n.toNatClampNeg = vp_cell cA (n.toNatClampNeg, .inr (.inr (.inr (.inr (fun i => if i < n.toNatClampNeg then some (H.size + 1 + i) else none))))) := by
    rw [vp_cell_q]
    exact vr_outer cA n.toNatClampNeg H.size n.toNatClampNeg
  rw [hout] at f2
  obtain ⟨t, a1, b1⟩ := kk cA F.heap fA f1 hold f2 hrow F rfl X'
  refine ⟨t, step t ?_, b1⟩
  have e : T.heap.size = H.size := by rw [hT]
  rw [e]
  exact a1
end ZM
section ZP
variable {E : EV} {y : MethodName} {cc : ByteArray} {nL : Nat} {ret : Option FieldType} {lev : Nat} {pc : Nat} {lv : List (Nat × Value)} {rest : List Value} {ρ : Type} {r : ρ} {s : AS}
theorem z_mul {index : Nat} {n k : Int32} {g : AS → Option ρ} (hf : (nMul s n k).bind g = some r) (hle9 : ∀ s1, g s1 = some r → Le s1 E.2.2.2.2.2) (hw1 : Cond.classLink y.cls index "[[I" ∈ TT) (hw2 : Cond.arrayClass .int ∈ TT) (hdg : decode cc pc = .ok (.multianewarray index 2, 4))
    (kk : ∀ s1, g s1 = some r → Z E y cc nL ret lev s1 (pc + 4) lv (.ref s.1.1.2.1 :: rest)) : Z E y cc nL ret lev s pc lv (.int k :: .int n :: rest) := by
  obtain ⟨s1, ev, hf⟩ := ob hf
  have hle9 := hle9 s1 hf
  have kk := kk s1 hf
  unfold nMul at ev
  split at ev
  · rename_i q
    cases ev
    obtain ⟨⟨p, l, e, R, U, m, args, below, meth, c, Q⟩, G, z, w0, rv, hfin⟩ := E
    intro cx b1 b2 H locs cells slots ls hh h1 h2 hl
    have hK := cx.2.2.2.2.2.2.2.2.1
    have ht := fun (w : Cond) (hw : w ∈ TT) => cx.2.2.2.1 w (List.mem_cons_of_mem _ hw)
    have hcy : U.vm.findClass (FieldType.array .int).toString = some (G.2 0) := (hK.1.2 0 _ rfl).2
    have h5 : U.vm.findClass ("[" ++ (FieldType.array .int).toString) = some (G.2 5) := (hK.1.2 5 _ rfl).2
    have r1 := cx.2.2.2.2.2.2.2.2.2.2.2.1
    have r2 := cx.2.2.2.2.2.2.2.2.2.2.2.2.1
    have n1 : s.1.1.2.1 + 1 + n.toNatClampNeg ≤ hfin.1.1.2.1 := hle9.1
    have n2 : s.1.1.2.2 + (n.toNatClampNeg + n.toNatClampNeg * k.toNatClampNeg) ≤ hfin.1.1.2.2 := hle9.2
    have hsz : H.size = s.1.1.2.1 := hh.1.2.1
    have hz : s.1.1.1 = z := hh.1.1
    have hzn : z ≤ s.1.1.2.1 := hh.1.2.2.1
    refine mn_raw cx.1 cx.2.1 cx.2.2.2.2.1 (ht _ hw1) hK.2.1 (ht _ hw2) hcy q.1 q.2.1 q.2.2.1 q.2.2.2 (by omega) (by omega) hdg (fun cA H1 fA f1 hold f2 hrow => ?_)
    obtain rfl : cA = G.2 5 := Option.some.inj (fA.symm.trans h5)
    rw [hsz] at f1 f2 hrow hold ⊢
    refine kk cx hle9.1 hle9.2 H1 locs _ _ ls ⟨⟨hz, f1, ?_, ?_⟩, ?_⟩ ?_ ?_ hl
    · show z ≤ s.1.1.2.1 + 1 + n.toNatClampNeg
      omega
    · intro k9 x hx
      obtain ⟨rfl, hlt⟩ := wl_at hx
      have hlt : s.1.1.1 + k9 < s.1.1.2.1 + 1 + n.toNatClampNeg := hlt
      show va_at G.1 vwCl (s.1.1.1 + k9, em G (mul s n.toNatClampNeg k.toNatClampNeg).1 (mul s n.toNatClampNeg k.toNatClampNeg).2 (s.1.1.1 + k9)) H1
      have hb0 : s.1.1.1 ≤ s.1.1.1 + k9 := Nat.le_add_right _ _
      generalize s.1.1.1 + k9 = b at hlt hb0
      rcases Nat.lt_trichotomy b s.1.1.2.1 with h | h | h
      · obtain ⟨k8, hk8⟩ := wl_pos (G := G) (sh := s.1) (d := s.2) hb0 h
        rw [em_row (sh := s.1) (d := s.2) (sh' := (mul s n.toNatClampNeg k.toNatClampNeg).1) (d' := (mul s n.toNatClampNeg k.toNatClampNeg).2) (if_pos h) (if_pos h) (if_pos h) (if_pos h) (if_pos h) (if_pos h) (if_pos h)]
        exact (hh.1.2.2.2 k8 _ hk8).kept (hold b h)
      · have e1 : (mul s n.toNatClampNeg k.toNatClampNeg).1.2.1 b = 5 := (if_neg (by omega)).trans (if_pos h)
        have e2 : (mul s n.toNatClampNeg k.toNatClampNeg).1.2.2.1 b = n.toNatClampNeg := (if_neg (by omega)).trans (if_pos h)
        have e3 : (mul s n.toNatClampNeg k.toNatClampNeg).2.2.2.2 b = fun i => if i < n.toNatClampNeg then some (s.1.1.2.1 + 1 + i) else none := (if_neg (by omega)).trans (if_pos h)
        rw [em_a e1 (by decide), kd_q (by decide), e2, e3]
        subst h
        exact f2
      · have e1 : (mul s n.toNatClampNeg k.toNatClampNeg).1.2.1 b = 0 := (if_neg (by omega)).trans (if_neg (by omega))
        have e2 : (mul s n.toNatClampNeg k.toNatClampNeg).1.2.2.1 b = k.toNatClampNeg := (if_neg (by omega)).trans (if_neg (by omega))
        have e3 : (mul s n.toNatClampNeg k.toNatClampNeg).2.1 b = fun _ => 0 := if_neg (by omega)
        rw [em_a e1 (by decide), kd_i (by decide) (by decide) (by decide), e2, e3]
        have h9 := hrow (b - (s.1.1.2.1 + 1)) (by omega)
        rw [show s.1.1.2.1 + 1 + (b - (s.1.1.2.1 + 1)) = b by omega] at h9
        exact h9
    · have hS := hh.2
      exact ⟨by rw [f1]; have := hS.1; omega, fun x h9 h8 => (hold x (by have := hS.1; omega)).trans (hS.2.1 x h9 h8), hS.2.2⟩
    · show U.heap.size + (cells + 1 + n.toNatClampNeg) = s.1.1.2.1 + 1 + n.toNatClampNeg
      omega
    · show w0 + (slots + n.toNatClampNeg + n.toNatClampNeg * k.toNatClampNeg) = s.1.1.2.2 + (n.toNatClampNeg + n.toNatClampNeg * k.toNatClampNeg)
      omega
  · cases ev
end ZP
