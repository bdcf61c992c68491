/-! ===== BEGIN words of one list among another's, by their places ===== -/
theorem goodIn_r {big : List Cond} (ws : List Cond) (ps : List Nat) (hp : ws = ps.filterMap (fun i => big[i]?)) (h : ws.all goodWord = true) : GoodIn big ws := by
  intro w hw
  have h1 := List.all_eq_true.mp h w hw
  rw [hp] at hw
  obtain ⟨i, -, hi⟩ := List.mem_filterMap.mp hw
  have hm : w ∈ big := by first | exact List.mem_of_getElem? hi | exact List.getElem?_mem hi
  exact ⟨hm, good_of_word h1⟩
theorem goodIn_app {big a b : List Cond} (ha : GoodIn big a) (hb : GoodIn big b) : GoodIn big (a ++ b) := fun w h => (List.mem_append.mp h).elim (ha w) (hb w)
theorem goodIn_ca {big a b : List Cond} {c : Cond} (ha : GoodIn big (c :: a)) (hb : GoodIn big b) : GoodIn big (c :: (a ++ b)) := fun w h => (List.mem_cons.mp h).elim (fun e => ha w (List.mem_cons.mpr (Or.inl e))) (fun h => (List.mem_append.mp h).elim (fun h => ha w (List.mem_cons.mpr (Or.inr h))) (hb w))
theorem goodIn_sub {big ws : List Cond} (hm : ∀ w ∈ ws, w ∈ big) (h : ws.all goodWord = true) : GoodIn big ws := fun w hw => ⟨hm w hw, good_of_word (List.all_eq_true.mp h w hw)⟩
/-! ===== END ===== -/
/-- the table says: arrays of arrays of ty have their class -/
def va_AOA (ty : FieldType) (U : State) : Prop := (Cond.arrayOver (.array ty)).before #[] U = true
theorem va_AOA.use {ty : FieldType} {A : Array Value} {U : State} (h : va_AOA ty U) : (Cond.arrayOver (.array ty)).before A U = true := h
theorem va_AOA.of {ty : FieldType} {A : Array Value} {U : State} (h : (Cond.arrayOver (.array ty)).before A U = true) : va_AOA ty U := h
theorem va_AOA.moved {ty : FieldType} {u U : State} (hvm : u.vm.Alike U.vm) (h : va_AOA ty u) : va_AOA ty U := Jvm.Stand.arrayOver_alikeB hvm h
/-! ===== BEGIN new T[n][m]: the outer array a place, the inner ones among the pooled ===== -/
/-- f, but v at every address of l -/
def vr_up {α : Type} (f : Nat → α) (l : List Nat) (v : α) : Nat → α := fun a => if a ∈ l then v else f a
theorem vr_up_in {α : Type} {f : Nat → α} {l : List Nat} {v : α} {a : Nat} (h : a ∈ l) : vr_up f l v a = v := if_pos h
theorem vr_up_ne {α : Type} {f : Nat → α} {l : List Nat} {v : α} {a : Nat} (h : a ∉ l) : vr_up f l v a = f a := if_neg h
theorem vr_rows {L l : List Nat} {f : Nat → va_E} {e : va_E} (h : ∀ a, a ∈ l → a ∉ L) : va_pl L f ++ l.map (fun a => (a, e)) = va_pl (L ++ l) (vr_up f l e) := by
  unfold va_pl
  rw [List.map_append]
  congr 1
  · apply List.map_congr_left
    intro a ha
    rw [vr_up_ne (fun q => h a q ha)]
  · apply List.map_congr_left
    intro a ha
    rw [vr_up_in ha]
theorem vr_lay {X rows : va_W} {x : Nat × va_E} {pl : va_W} {D : va_G} {cl : List vw_C} {H : Heap} (hP : va_P D cl (((X ++ pl) ++ [x]) ++ rows) H) : va_P D cl ((X ++ [x]) ++ (pl ++ rows)) H := by
  rw [List.append_assoc (X ++ pl)] at hP
  have h := va_P.swap hP
  rw [← List.append_assoc X] at h
  have h2 := va_P.swap h
  rw [List.append_assoc (X ++ [x])] at h2
  exact h2
theorem vr_layD {X rows : va_W} {x : Nat × va_E} {pl : va_W} {A : Nat → Prop} (hD : va_D A (((X ++ pl) ++ [x]) ++ rows)) : va_D A ((X ++ [x]) ++ (pl ++ rows)) := by
  rw [List.append_assoc (X ++ pl)] at hD
  have h := va_D.swap hD
  rw [← List.append_assoc X] at h
  have h2 := va_D.swap h
  rw [List.append_assoc (X ++ [x])] at h2
  exact h2
theorem vr_outer (c : ClassId) (N h0 : Nat) : ∀ i : Nat, Jvm.Free.Multi.outerC c N h0 i = arrV c N (fun j => va_rf (if j < i then some (h0 + 1 + j) else none))
  | 0 => by
    show ({ cls := c, slots := Array.replicate N .null, vm := .none } : Cell) = _
    rw [arrV_new]
    refine congrArg (arrV c N) (funext fun j => ?_)
    simp [va_rf]
  | i + 1 => by
    show (Jvm.Free.Multi.outerC c N h0 i).setSlot i (.ref (h0 + 1 + i)) = _
    rw [vr_outer c N h0 i, arrV_store]
    refine congrArg (arrV c N) (funext fun j => ?_)
    by_cases e : j = i
    · subst e
      simp [updV, va_rf]
    · by_cases h : j < i
      · simp [updV, e, h, Nat.lt_succ_of_lt h]
      · simp [updV, e, h, show ¬ j < i + 1 by omega]
section VGM
variable {p : Program} {l : Launch} {e : Env} {R : Room} {s : State} {m : MethodId} {args : Array Value} {below : List Frame} {meth : Method} {c : Code} {H : Heap} {locs : List Loc} {cells slots : Nat} {Q : State → Prop}
variable {cc : ByteArray} {pc : Nat} {ls : Array Slot} {rest : List Value} {D : va_G} {cl : List vw_C} {A : Nat → Prop} {a : Nat} {tys : List (ClassId × FieldType)} {ws : va_W} {H0 : Heap}
theorem va_mna {X : va_W} {L : List Nat} {f : Nat → va_E} {cc : ByteArray} (hexec : p.tables.exec = Jvm.exec) (hb : c.code = cc) {own : String} {index : Nat} {ty : FieldType} {cy : ClassId} (hown : s.vm.findClass own = some m.cls) (hclink : (Cond.classLink own index ("[" ++ (FieldType.array ty).toString)).before args s = true) (hover : va_AOA ty s) (harr : (Cond.arrayClass ty).before args s = true) (hcy : s.vm.findClass (FieldType.array ty).toString = some cy)
    (hK : va_K D cl tys s) (hP : va_P D cl (X ++ va_pl L f) H) (hD : va_D A (X ++ va_pl L f)) (hS : va_S A H0 H locs) (hA : ∀ q, H0.size ≤ q → A q) {n k : Int32} {N' K' : Nat} {z : vp_A} (hn : ¬ n < 0) (hk : ¬ k < 0) (hN : n.toNatClampNeg = N') (hM : k.toNatClampNeg = K')
    (hb1 : N' * 4 ≤ 536870912) (hb2 : K' * componentBytes ty ≤ 536870912) (hb3 : K' ≤ 536870912) (hdf : fits ty (defaultValue ty) = true) (hdd : (defaultValue ty).isDefault = true) (hcells : cells + (1 + N') ≤ R.cells) (hslots : slots + (N' + N' * K') ≤ R.slots) (hz : ∀ c : ClassId, Jvm.Free.Multi.innerC c K' (defaultValue ty) = vp_cell c z) (hdg : decode cc pc = .ok (.multianewarray index 2, 4))
    (kk : ∀ (q : Nat) (r : Nat → Nat) (cA : ClassId) (H1 : Heap), (∀ i j : Nat, i < N' → j < N' → r i = r j → i = j) → (∀ i : Nat, i < N' → r i ∉ L) → va_K D cl (tys ++ [(cA, .array ty)]) s →
      va_P D cl ((X ++ [(q, .inl (cA, N', .inr (.inr (.inr (.inr (fun i => if i < N' then some (r i) else none))))))]) ++ va_pl (L ++ (List.range N').map r) (vr_up f ((List.range N').map r) (.inl (cy, z)))) H1 → va_D A ((X ++ [(q, .inl (cA, N', .inr (.inr (.inr (.inr (fun i => if i < N' then some (r i) else none))))))]) ++ va_pl (L ++ (List.range N').map r) (vr_up f ((List.range N').map r) (.inl (cy, z)))) → va_S A H0 H1 locs →
      W p l e R s m args below meth c H1 locs (cells + 1 + N') (slots + N' + N' * K') Q (F0 m (pc + 4) ls (.ref q :: rest))) : W p l e R s m args below meth c H locs cells slots Q (F0 m pc ls (.int k :: .int n :: rest)) := by
  subst hN
  subst hM
  intro T hT Xs
  obtain ⟨vm₁, cA, comp, -, fA, fC, hO, -, X', step⟩ := Xs.multianewarray2F hexec hown hclink (va_AOA.use hover) harr (g := F0 m pc ls (.int k :: .int n :: rest)) rfl (by rw [hb]; exact hdg) rfl hn hk hb1 hb2 hb3 hdf hdd hcells hslots
  have ec : some cy = some comp := hcy.symm.trans fC
  cases ec
  generalize hF : Jvm.Free.Multi.fill (T.setVm vm₁) cA cy n.toNatClampNeg k.toNatClampNeg (defaultValue ty) n.toNatClampNeg = F at X' step
  have hTh : (T.setVm vm₁).heap = H := hT
  obtain ⟨f1, f2, -, -⟩ := Jvm.Free.Multi.fill_facts (T.setVm vm₁) cA cy n.toNatClampNeg k.toNatClampNeg (defaultValue ty) n.toNatClampNeg
  rw [hF, hTh] at f1 f2
  have hold : ∀ x : Nat, x < H.size → F.heap[x]? = H[x]? := fun x hx => by
    have := Jvm.Free.Multi.fill_old (T.setVm vm₁) cA cy n.toNatClampNeg k.toNatClampNeg (defaultValue ty) (a := x) (by rw [hTh]; exact hx) n.toNatClampNeg
    rw [hF, hTh] at this
    exact this
  have hrow : ∀ j : Nat, j < n.toNatClampNeg → F.heap[H.size + 1 + j]? = some (vp_cell cy z) := fun j hj => by
    have := Jvm.Free.Multi.fill_inner (T.setVm vm₁) cA cy n.toNatClampNeg k.toNatClampNeg (defaultValue ty) n.toNatClampNeg j hj
    rw [hF, hTh, hz] at this
    exact this
  have hout : Jvm.Free.Multi.outerC cA n.toNatClampNeg H.size n.toNatClampNeg = vp_cell cA (n.toNatClampNeg, .inr (.inr (.inr (.inr (fun i => if i < n.toNatClampNeg then some (H.size + 1 + i) else none))))) := by
    rw [vp_cell_q]
    exact vr_outer cA n.toNatClampNeg H.size n.toNatClampNeg
  rw [hout] at f2
  have hlt : ∀ a, a ∈ L → a < H.size := fun a ha => by
    obtain ⟨k9, hk9⟩ := va_pl_get (X := X) (f := f) ha
    exact (hP k9 _ hk9).lt
  have hnl : ∀ i : Nat, i < n.toNatClampNeg → H.size + 1 + i ∉ L := fun i _ h => by
    have := hlt _ h
    omega
  have hnm : ∀ a, a ∈ (List.range n.toNatClampNeg).map (fun i => H.size + 1 + i) → a ∉ L := fun a ha h => by
    obtain ⟨i, -, rfl⟩ := List.mem_map.mp ha
    have := hlt _ h
    omega
  have hP0 : va_P D cl (X ++ va_pl L f) F.heap := hP.kept (fun k9 x hx => hold x.1 ((hP k9 x hx).lt))
  have hP1 : va_P D cl ((X ++ va_pl L f) ++ [(H.size, .inl (cA, n.toNatClampNeg, .inr (.inr (.inr (.inr (fun i => if i < n.toNatClampNeg then some (H.size + 1 + i) else none))))))]) F.heap := hP0.app (fun k9 x hx => by
    have h0 : k9 < 1 := (List.getElem?_eq_some_iff.mp hx).1
    rw [show k9 = 0 by omega] at hx
    cases hx
    exact f2)
  have hP2 : va_P D cl (((X ++ va_pl L f) ++ [(H.size, .inl (cA, n.toNatClampNeg, .inr (.inr (.inr (.inr (fun i => if i < n.toNatClampNeg then some (H.size + 1 + i) else none))))))]) ++ ((List.range n.toNatClampNeg).map (fun i => H.size + 1 + i)).map (fun a => (a, .inl (cy, z)))) F.heap := hP1.app (fun k9 x hx => by
    obtain ⟨a, ha, rfl⟩ := List.mem_map.mp (List.mem_of_getElem? hx)
    obtain ⟨i, hi, rfl⟩ := List.mem_map.mp ha
    exact hrow i (List.mem_range.mp hi))
  have hD2 : va_D A (((X ++ va_pl L f) ++ [(H.size, .inl (cA, n.toNatClampNeg, .inr (.inr (.inr (.inr (fun i => if i < n.toNatClampNeg then some (H.size + 1 + i) else none))))))]) ++ ((List.range n.toNatClampNeg).map (fun i => H.size + 1 + i)).map (fun a => (a, .inl (cy, z)))) := by
    have hD1 := hD.push (e := .inl (cA, n.toNatClampNeg, .inr (.inr (.inr (.inr (fun i => if i < n.toNatClampNeg then some (H.size + 1 + i) else none)))))) hP rfl (hA _ hS.1)
    generalize hW1 : (X ++ va_pl L f) ++ [(H.size, .inl (cA, n.toNatClampNeg, .inr (.inr (.inr (.inr (fun i => if i < n.toNatClampNeg then some (H.size + 1 + i) else none))))))] = W1 at hD1 hP1 ⊢
    have hle : ∀ (k9 : Nat) (x : Nat × va_E), W1[k9]? = some x → x.1 ≤ H.size := fun k9 x hx => by
      rw [← hW1] at hx
      by_cases hl : k9 < (X ++ va_pl L f).length
      · rw [List.getElem?_append_left hl] at hx
        exact Nat.le_of_lt ((hP k9 x hx).lt)
      · rw [List.getElem?_append_right (by omega)] at hx
        have h0 : k9 - (X ++ va_pl L f).length < 1 := (List.getElem?_eq_some_iff.mp hx).1
        rw [show k9 - (X ++ va_pl L f).length = 0 by omega] at hx
        cases hx
        exact Nat.le_refl _
    have hr : ∀ (k9 : Nat) (x : Nat × va_E), (((List.range n.toNatClampNeg).map (fun i => H.size + 1 + i)).map (fun a => ((a, .inl (cy, z)) : Nat × va_E)))[k9]? = some x → x.1 = H.size + 1 + k9 := fun k9 x hx => by
      rw [List.getElem?_map, List.getElem?_map] at hx
      by_cases h9 : k9 < n.toNatClampNeg
      · rw [List.getElem?_range h9] at hx
        cases hx
        rfl
      · have hn0 : (List.range n.toNatClampNeg)[k9]? = none := List.getElem?_eq_none (by rw [List.length_range]; omega)
        rw [hn0] at hx
        cases hx
    refine ⟨fun i j x y hi hj hxy => ?_, fun k9 x hx => ?_⟩
    · by_cases h1 : i < W1.length <;> by_cases h2 : j < W1.length
      · rw [List.getElem?_append_left h1] at hi
        rw [List.getElem?_append_left h2] at hj
        exact hD1.1 i j x y hi hj hxy
      · rw [List.getElem?_append_left h1] at hi
        rw [List.getElem?_append_right (by omega)] at hj
        have := hle _ _ hi
        have := hr _ _ hj
        omega
      · rw [List.getElem?_append_right (by omega)] at hi
        rw [List.getElem?_append_left h2] at hj
        have := hle _ _ hj
        have := hr _ _ hi
        omega
      · rw [List.getElem?_append_right (by omega)] at hi hj
        have := hr _ _ hi
        have := hr _ _ hj
        omega
    · by_cases h1 : k9 < W1.length
      · rw [List.getElem?_append_left h1] at hx
        exact hD1.2 k9 x hx
      · rw [List.getElem?_append_right (by omega)] at hx
        have := hr _ _ hx
        exact hA _ (by have := hS.1; omega)
  have hAr : ArrOfT s cA (.array ty) := fun N9 z9 => by
    obtain ⟨-, k9, hk9, cm9, hkk9⟩ := (hO 0 0 0).1
    exact ⟨(fun q hq => by cases hq), k9, hk9, cm9, hkk9⟩
  have hK2 : va_K D cl (tys ++ [(cA, .array ty)]) s := ⟨hK.1, fun k9 x hx => by
    by_cases hl : k9 < tys.length
    · rw [List.getElem?_append_left hl] at hx
      exact hK.2 k9 x hx
    · rw [List.getElem?_append_right (by omega)] at hx
      have h0 : k9 - tys.length < 1 := (List.getElem?_eq_some_iff.mp hx).1
      rw [show k9 - tys.length = 0 by omega] at hx
      cases hx
      exact ⟨hAr, fA⟩⟩
  obtain ⟨t, a1, b1⟩ := kk H.size (fun i => H.size + 1 + i) cA F.heap (fun i j _ _ h => by have h9 : H.size + 1 + i = H.size + 1 + j := h; omega) hnl hK2 (by rw [← vr_rows hnm]; exact vr_lay hP2) (by rw [← vr_rows hnm]; exact vr_layD hD2) ⟨by rw [f1]; have := hS.1; omega, fun x h1 h2 => (hold x (Nat.lt_of_lt_of_le h1 hS.1)).trans (hS.2.1 x h1 h2), hS.2.2⟩ F rfl X'
  refine ⟨t, step t ?_, b1⟩
  have e : T.heap.size = H.size := by rw [hT]
  rw [e]
  exact a1
end VGM
/-! ===== END ===== -/
def RX0 : String := "PloughDepot$Blower"
def TX0 : u_T := fun k => match k with
  | 0 => ("PloughDepot$Plough", "log", "LPloughDepot$Log;", true)
  | 1 => ("PloughDepot$Plough", "speed", "I", true)
  | _ => ("PloughDepot$Plough", "reach", "I", true)
def tyX0 : Nat → FieldType := fun k => match k with
  | 0 => .object "PloughDepot$Log"
  | 1 => .int
  | _ => .int
abbrev wsX00 : List Cond := u_ws RX0 TX0 3
theorem nmX0 : ∀ a, a < 3 → ∀ b, b < 3 → a ≠ b → (TX0 a).2.1 ≠ (TX0 b).2.1 := by decide +kernel
theorem tyX0_ok : ∀ k, k < 3 → parseFieldDescriptor (TX0 k).2.2.1 = some (tyX0 k) := by decide +kernel
abbrev cX0_init : ByteArray := prog_2_method_1_code
def yX0_init : MethodName := ⟨RX0, "<init>", "(LPloughDepot$Log;II)V"⟩
abbrev cX0_passes : ByteArray := prog_2_method_2_code
def yX0_passes : MethodName := ⟨RX0, "passes", "(I)I"⟩
def RX1 : String := "PloughDepot$Books"
def TX1 : u_T := fun k => match k with
  | 0 => ("PloughDepot$Books", "crossings", "I", false)
  | 1 => ("PloughDepot$Books", "streets", "LPloughDepot$Table;", true)
  | 2 => ("PloughDepot$Books", "gauges", "LPloughDepot$Table;", true)
  | 3 => ("PloughDepot$Books", "ploughs", "LPloughDepot$Table;", true)
  | 4 => ("PloughDepot$Books", "drives", "LPloughDepot$Table;", true)
  | 5 => ("PloughDepot$Books", "facts", "[I", true)
  | 6 => ("PloughDepot$Books", "partners", "[I", true)
  | _ => ("PloughDepot$Books", "cells", "[J", false)
def tyX1 : Nat → FieldType := fun k => match k with
  | 0 => .int
  | 1 => .object "PloughDepot$Table"
  | 2 => .object "PloughDepot$Table"
  | 3 => .object "PloughDepot$Table"
  | 4 => .object "PloughDepot$Table"
  | 5 => .array .int
  | 6 => .array .int
  | _ => .array .long
abbrev wsX10 : List Cond := u_ws RX1 TX1 8
theorem nmX1 : ∀ a, a < 8 → ∀ b, b < 8 → a ≠ b → (TX1 a).2.1 ≠ (TX1 b).2.1 := by decide +kernel
theorem tyX1_ok : ∀ k, k < 8 → parseFieldDescriptor (TX1 k).2.2.1 = some (tyX1 k) := by decide +kernel
abbrev cX1_init : ByteArray := prog_3_method_1_code
def yX1_init : MethodName := ⟨RX1, "<init>", "()V"⟩
abbrev cX1_become : ByteArray := prog_3_method_2_code
def yX1_become : MethodName := ⟨RX1, "become", "(LPloughDepot$Books;)V"⟩
abbrev cX1_widenCells : ByteArray := prog_3_method_3_code
def yX1_widenCells : MethodName := ⟨RX1, "widenCells", "()V"⟩
abbrev cX1_hasCrossing : ByteArray := prog_3_method_4_code
def yX1_hasCrossing : MethodName := ⟨RX1, "hasCrossing", "(I)Z"⟩
abbrev cX1_hasOneWay : ByteArray := prog_3_method_5_code
def yX1_hasOneWay : MethodName := ⟨RX1, "hasOneWay", "()Z"⟩
abbrev cX1_sidesDue : ByteArray := prog_3_method_6_code
def yX1_sidesDue : MethodName := ⟨RX1, "sidesDue", "(I)I"⟩
abbrev cX1_otherEnd : ByteArray := prog_3_method_7_code
def yX1_otherEnd : MethodName := ⟨RX1, "otherEnd", "(II)I"⟩
abbrev cX1_lessDrift : ByteArray := prog_3_method_8_code
def yX1_lessDrift : MethodName := ⟨RX1, "lessDrift", "(II)V"⟩
abbrev cX1_clearSide : ByteArray := prog_3_method_9_code
def yX1_clearSide : MethodName := ⟨RX1, "clearSide", "(I)V"⟩
abbrev cX1_addGauge : ByteArray := prog_3_method_10_code
def yX1_addGauge : MethodName := ⟨RX1, "addGauge", "(IZ)I"⟩
abbrev cX1_lay : ByteArray := prog_3_method_11_code
def yX1_lay : MethodName := ⟨RX1, "lay", "(II)V"⟩
abbrev cX1_isOfShorts : ByteArray := prog_3_method_12_code
def yX1_isOfShorts : MethodName := ⟨RX1, "isOfShorts", "(I)Z"⟩
abbrev cX1_isMissing : ByteArray := prog_3_method_13_code
def yX1_isMissing : MethodName := ⟨RX1, "isMissing", "(I)Z"⟩
abbrev cX1_cellOfShort : ByteArray := prog_3_method_14_code
def yX1_cellOfShort : MethodName := ⟨RX1, "cellOfShort", "(S)J"⟩
abbrev cX1_whyUnread : ByteArray := prog_3_method_15_code
def yX1_whyUnread : MethodName := ⟨RX1, "whyUnread", "(II)I"⟩
abbrev cX1_whyUncopied : ByteArray := prog_3_method_16_code
def yX1_whyUncopied : MethodName := ⟨RX1, "whyUncopied", "(IIIII)I"⟩
abbrev cX1_reaches : ByteArray := prog_3_method_17_code
def yX1_reaches : MethodName := ⟨RX1, "reaches", "(III)Z"⟩
abbrev cX1_copyReadings : ByteArray := prog_3_method_18_code
def yX1_copyReadings : MethodName := ⟨RX1, "copyReadings", "(IIIII)V"⟩
abbrev cX1_cellAt : ByteArray := prog_3_method_19_code
def yX1_cellAt : MethodName := ⟨RX1, "cellAt", "(II)I"⟩
abbrev cX1_setCell : ByteArray := prog_3_method_20_code
def yX1_setCell : MethodName := ⟨RX1, "setCell", "(IIJ)V"⟩
abbrev cX1_height : ByteArray := prog_3_method_21_code
def yX1_height : MethodName := ⟨RX1, "height", "(II)F"⟩
abbrev cX1_tenths : ByteArray := prog_3_method_22_code
def yX1_tenths : MethodName := ⟨RX1, "tenths", "(II)I"⟩
abbrev cX1_isOut : ByteArray := prog_3_method_23_code
def yX1_isOut : MethodName := ⟨RX1, "isOut", "(I)Z"⟩
abbrev cX1_sendOut : ByteArray := prog_3_method_24_code
def yX1_sendOut : MethodName := ⟨RX1, "sendOut", "(I)V"⟩
abbrev cX1_dropPart : ByteArray := prog_3_method_25_code
def yX1_dropPart : MethodName := ⟨RX1, "dropPart", "(I)V"⟩
abbrev cX1_nextDrive : ByteArray := prog_3_method_26_code
def yX1_nextDrive : MethodName := ⟨RX1, "nextDrive", "(I)I"⟩
abbrev cX1_hasDriveLeft : ByteArray := prog_3_method_27_code
def yX1_hasDriveLeft : MethodName := ⟨RX1, "hasDriveLeft", "(I)Z"⟩
abbrev cX1_isNextShut : ByteArray := prog_3_method_28_code
def yX1_isNextShut : MethodName := ⟨RX1, "isNextShut", "(I)Z"⟩
abbrev cX1_whoEndsAt : ByteArray := prog_3_method_29_code
def yX1_whoEndsAt : MethodName := ⟨RX1, "whoEndsAt", "(I)I"⟩
def RX2 : String := "PloughDepot$Log"
def TX2 : u_T := fun k => match k with
  | 0 => ("PloughDepot$Log", "findings", "[I", true)
  | 1 => ("PloughDepot$Log", "status", "I", false)
  | 2 => ("PloughDepot$Log", "trace", "I", false)
  | _ => ("PloughDepot$Log", "looks", "I", false)
def tyX2 : Nat → FieldType := fun k => match k with
  | 0 => .array .int
  | 1 => .int
  | 2 => .int
  | _ => .int
abbrev wsX20 : List Cond := u_ws RX2 TX2 4
theorem nmX2 : ∀ a, a < 4 → ∀ b, b < 4 → a ≠ b → (TX2 a).2.1 ≠ (TX2 b).2.1 := by decide +kernel
theorem tyX2_ok : ∀ k, k < 4 → parseFieldDescriptor (TX2 k).2.2.1 = some (tyX2 k) := by decide +kernel
abbrev cX2_init : ByteArray := prog_4_method_1_code
def yX2_init : MethodName := ⟨RX2, "<init>", "()V"⟩
abbrev cX2_find : ByteArray := prog_4_method_2_code
def yX2_find : MethodName := ⟨RX2, "find", "(I)V"⟩
def RX3 : String := "PloughDepot$Pair"
def TX3 : u_T := fun k => match k with
  | 0 => ("PloughDepot$Plough", "log", "LPloughDepot$Log;", true)
  | 1 => ("PloughDepot$Plough", "speed", "I", true)
  | 2 => ("PloughDepot$Plough", "reach", "I", true)
  | 3 => ("PloughDepot$Pair", "first", "LPloughDepot$Plough;", true)
  | _ => ("PloughDepot$Pair", "second", "LPloughDepot$Plough;", true)
def tyX3 : Nat → FieldType := fun k => match k with
  | 0 => .object "PloughDepot$Log"
  | 1 => .int
  | 2 => .int
  | 3 => .object "PloughDepot$Plough"
  | _ => .object "PloughDepot$Plough"
abbrev wsX30 : List Cond := u_ws RX3 TX3 5
theorem nmX3 : ∀ a, a < 5 → ∀ b, b < 5 → a ≠ b → (TX3 a).2.1 ≠ (TX3 b).2.1 := by decide +kernel
theorem tyX3_ok : ∀ k, k < 5 → parseFieldDescriptor (TX3 k).2.2.1 = some (tyX3 k) := by decide +kernel
abbrev cX3_init : ByteArray := prog_5_method_1_code
def yX3_init : MethodName := ⟨RX3, "<init>", "(LPloughDepot$Log;LPloughDepot$Plough;LPloughDepot$Plough;)V"⟩
abbrev cX3_takes : ByteArray := prog_5_method_2_code
def yX3_takes : MethodName := ⟨RX3, "takes", "(I)I"⟩
abbrev cX3_passes : ByteArray := prog_5_method_3_code
def yX3_passes : MethodName := ⟨RX3, "passes", "(I)I"⟩
def RX4 : String := "PloughDepot$Pairing"
def TX4 : u_T := fun k => match k with
  | 0 => ("PloughDepot$Pairing", "books", "LPloughDepot$Books;", true)
  | 1 => ("PloughDepot$Pairing", "ways", "LPloughDepot$Ways;", true)
  | 2 => ("PloughDepot$Pairing", "odds", "[I", true)
  | 3 => ("PloughDepot$Pairing", "many", "I", false)
  | 4 => ("PloughDepot$Pairing", "listed", "Z", false)
  | 5 => ("PloughDepot$Pairing", "gaps", "[[I", true)
  | 6 => ("PloughDepot$Pairing", "table", "[I", false)
  | 7 => ("PloughDepot$Pairing", "tabled", "Z", false)
  | 8 => ("PloughDepot$Pairing", "ones", "[I", true)
  | 9 => ("PloughDepot$Pairing", "others", "[I", true)
  | 10 => ("PloughDepot$Pairing", "pairs", "I", false)
  | _ => ("PloughDepot$Pairing", "exchanges", "I", false)
def tyX4 : Nat → FieldType := fun k => match k with
  | 0 => .object "PloughDepot$Books"
  | 1 => .object "PloughDepot$Ways"
  | 2 => .array .int
  | 3 => .int
  | 4 => .boolean
  | 5 => .array (.array .int)
  | 6 => .array .int
  | 7 => .boolean
  | 8 => .array .int
  | 9 => .array .int
  | 10 => .int
  | _ => .int
abbrev wsX40 : List Cond := u_ws RX4 TX4 12
theorem nmX4 : ∀ a, a < 12 → ∀ b, b < 12 → a ≠ b → (TX4 a).2.1 ≠ (TX4 b).2.1 := by decide +kernel
theorem tyX4_ok : ∀ k, k < 12 → parseFieldDescriptor (TX4 k).2.2.1 = some (tyX4 k) := by decide +kernel
abbrev cX4_init : ByteArray := prog_6_method_1_code
def yX4_init : MethodName := ⟨RX4, "<init>", "(LPloughDepot$Books;LPloughDepot$Ways;)V"⟩
abbrev cX4_forget : ByteArray := prog_6_method_2_code
def yX4_forget : MethodName := ⟨RX4, "forget", "()V"⟩
abbrev cX4_list : ByteArray := prog_6_method_3_code
def yX4_list : MethodName := ⟨RX4, "list", "()I"⟩
abbrev cX4_oddBits : ByteArray := prog_6_method_4_code
def yX4_oddBits : MethodName := ⟨RX4, "oddBits", "()J"⟩
abbrev cX4_oddAt : ByteArray := prog_6_method_5_code
def yX4_oddAt : MethodName := ⟨RX4, "oddAt", "(I)I"⟩
abbrev cX4_leastOf : ByteArray := prog_6_method_6_code
def yX4_leastOf : MethodName := ⟨RX4, "leastOf", "(I)I"⟩
abbrev cX4_fillTable : ByteArray := prog_6_method_7_code
def yX4_fillTable : MethodName := ⟨RX4, "fillTable", "()V"⟩
abbrev cX4_leastByPartner : ByteArray := prog_6_method_8_code
def yX4_leastByPartner : MethodName := ⟨RX4, "leastByPartner", "(I)I"⟩
abbrev cX4_pairUp : ByteArray := prog_6_method_9_code
def yX4_pairUp : MethodName := ⟨RX4, "pairUp", "()V"⟩
abbrev cX4_pairExactly : ByteArray := prog_6_method_10_code
def yX4_pairExactly : MethodName := ⟨RX4, "pairExactly", "()V"⟩
abbrev cX4_firstPartner : ByteArray := prog_6_method_11_code
def yX4_firstPartner : MethodName := ⟨RX4, "firstPartner", "(I)I"⟩
abbrev cX4_pairInOrder : ByteArray := prog_6_method_12_code
def yX4_pairInOrder : MethodName := ⟨RX4, "pairInOrder", "()V"⟩
abbrev cX4_addPair : ByteArray := prog_6_method_13_code
def yX4_addPair : MethodName := ⟨RX4, "addPair", "(II)V"⟩
abbrev cX4_exchangeAll : ByteArray := prog_6_method_14_code
def yX4_exchangeAll : MethodName := ⟨RX4, "exchangeAll", "()V"⟩
abbrev cX4_exchangeFirst : ByteArray := prog_6_method_15_code
def yX4_exchangeFirst : MethodName := ⟨RX4, "exchangeFirst", "()Z"⟩
abbrev cX4_exchange : ByteArray := prog_6_method_16_code
def yX4_exchange : MethodName := ⟨RX4, "exchange", "(II)Z"⟩
abbrev cX4_stand : ByteArray := prog_6_method_17_code
def yX4_stand : MethodName := ⟨RX4, "stand", "(III)V"⟩
def RX5 : String := "PloughDepot$Planner"
def TX5 : u_T := fun k => match k with
  | 0 => ("PloughDepot$Planner", "books", "LPloughDepot$Books;", true)
  | 1 => ("PloughDepot$Planner", "ways", "LPloughDepot$Ways;", true)
  | 2 => ("PloughDepot$Planner", "pairing", "LPloughDepot$Pairing;", true)
  | 3 => ("PloughDepot$Planner", "drives", "LPloughDepot$Table;", true)
  | 4 => ("PloughDepot$Planner", "facts", "[I", true)
  | 5 => ("PloughDepot$Planner", "partners", "[I", true)
  | 6 => ("PloughDepot$Planner", "endA", "[I", true)
  | 7 => ("PloughDepot$Planner", "endB", "[I", true)
  | 8 => ("PloughDepot$Planner", "streets", "I", false)
  | 9 => ("PloughDepot$Planner", "left", "[I", true)
  | 10 => ("PloughDepot$Planner", "due", "[I", true)
  | 11 => ("PloughDepot$Planner", "near", "[J", true)
  | _ => ("PloughDepot$Planner", "place", "I", false)
def tyX5 : Nat → FieldType := fun k => match k with
  | 0 => .object "PloughDepot$Books"
  | 1 => .object "PloughDepot$Ways"
  | 2 => .object "PloughDepot$Pairing"
  | 3 => .object "PloughDepot$Table"
  | 4 => .array .int
  | 5 => .array .int
  | 6 => .array .int
  | 7 => .array .int
  | 8 => .int
  | 9 => .array .int
  | 10 => .array .int
  | 11 => .array .long
  | _ => .int
abbrev wsX50 : List Cond := u_ws RX5 TX5 13
theorem nmX5 : ∀ a, a < 13 → ∀ b, b < 13 → a ≠ b → (TX5 a).2.1 ≠ (TX5 b).2.1 := by decide +kernel
theorem tyX5_ok : ∀ k, k < 13 → parseFieldDescriptor (TX5 k).2.2.1 = some (tyX5 k) := by decide +kernel
abbrev cX5_init : ByteArray := prog_7_method_1_code
def yX5_init : MethodName := ⟨RX5, "<init>", "(LPloughDepot$Books;LPloughDepot$Ways;LPloughDepot$Pairing;)V"⟩
abbrev cX5_handTo : ByteArray := prog_7_method_2_code
def yX5_handTo : MethodName := ⟨RX5, "handTo", "(LPloughDepot$Books;)V"⟩
abbrev cX5_begin : ByteArray := prog_7_method_3_code
def yX5_begin : MethodName := ⟨RX5, "begin", "(I)V"⟩
abbrev cX5_addDrive : ByteArray := prog_7_method_4_code
def yX5_addDrive : MethodName := ⟨RX5, "addDrive", "(IZ)I"⟩
abbrev cX5_planBothWays : ByteArray := prog_7_method_5_code
def yX5_planBothWays : MethodName := ⟨RX5, "planBothWays", "()I"⟩
abbrev cX5_lookAtLeft : ByteArray := prog_7_method_6_code
def yX5_lookAtLeft : MethodName := ⟨RX5, "lookAtLeft", "()J"⟩
abbrev cX5_reachedFrom : ByteArray := prog_7_method_7_code
def yX5_reachedFrom : MethodName := ⟨RX5, "reachedFrom", "(I)J"⟩
abbrev cX5_joinAll : ByteArray := prog_7_method_8_code
def yX5_joinAll : MethodName := ⟨RX5, "joinAll", "()Z"⟩
abbrev cX5_join : ByteArray := prog_7_method_9_code
def yX5_join : MethodName := ⟨RX5, "join", "(JJ)Z"⟩
abbrev cX5_addPairs : ByteArray := prog_7_method_10_code
def yX5_addPairs : MethodName := ⟨RX5, "addPairs", "()V"⟩
abbrev cX5_addWay : ByteArray := prog_7_method_11_code
def yX5_addWay : MethodName := ⟨RX5, "addWay", "(III)V"⟩
abbrev cX5_driveAll : ByteArray := prog_7_method_12_code
def yX5_driveAll : MethodName := ⟨RX5, "driveAll", "(I)V"⟩
abbrev cX5_leave : ByteArray := prog_7_method_13_code
def yX5_leave : MethodName := ⟨RX5, "leave", "()I"⟩
abbrev cX5_planOneWays : ByteArray := prog_7_method_14_code
def yX5_planOneWays : MethodName := ⟨RX5, "planOneWays", "()I"⟩
abbrev cX5_nearestStart : ByteArray := prog_7_method_15_code
def yX5_nearestStart : MethodName := ⟨RX5, "nearestStart", "()I"⟩
abbrev cX5_driveTo : ByteArray := prog_7_method_16_code
def yX5_driveTo : MethodName := ⟨RX5, "driveTo", "(I)I"⟩
def RX6 : String := "PloughDepot$Plough"
def TX6 : u_T := fun k => match k with
  | 0 => ("PloughDepot$Plough", "log", "LPloughDepot$Log;", true)
  | 1 => ("PloughDepot$Plough", "speed", "I", true)
  | _ => ("PloughDepot$Plough", "reach", "I", true)
def tyX6 : Nat → FieldType := fun k => match k with
  | 0 => .object "PloughDepot$Log"
  | 1 => .int
  | _ => .int
abbrev wsX60 : List Cond := u_ws RX6 TX6 3
theorem nmX6 : ∀ a, a < 3 → ∀ b, b < 3 → a ≠ b → (TX6 a).2.1 ≠ (TX6 b).2.1 := by decide +kernel
theorem tyX6_ok : ∀ k, k < 3 → parseFieldDescriptor (TX6 k).2.2.1 = some (tyX6 k) := by decide +kernel
abbrev cX6_init : ByteArray := prog_8_method_1_code
def yX6_init : MethodName := ⟨RX6, "<init>", "(LPloughDepot$Log;II)V"⟩
abbrev cX6_takes : ByteArray := prog_8_method_2_code
def yX6_takes : MethodName := ⟨RX6, "takes", "(I)I"⟩
abbrev cX6_passes : ByteArray := prog_8_method_3_code
def yX6_passes : MethodName := ⟨RX6, "passes", "(I)I"⟩
abbrev cX6_passesUpTo : ByteArray := prog_8_method_4_code
def yX6_passesUpTo : MethodName := ⟨RX6, "passesUpTo", "(II)I"⟩
def RX7 : String := "PloughDepot$Salter"
def TX7 : u_T := fun k => match k with
  | 0 => ("PloughDepot$Plough", "log", "LPloughDepot$Log;", true)
  | 1 => ("PloughDepot$Plough", "speed", "I", true)
  | _ => ("PloughDepot$Plough", "reach", "I", true)
def tyX7 : Nat → FieldType := fun k => match k with
  | 0 => .object "PloughDepot$Log"
  | 1 => .int
  | _ => .int
abbrev wsX70 : List Cond := u_ws RX7 TX7 3
theorem nmX7 : ∀ a, a < 3 → ∀ b, b < 3 → a ≠ b → (TX7 a).2.1 ≠ (TX7 b).2.1 := by decide +kernel
theorem tyX7_ok : ∀ k, k < 3 → parseFieldDescriptor (TX7 k).2.2.1 = some (tyX7 k) := by decide +kernel
abbrev cX7_init : ByteArray := prog_9_method_1_code
def yX7_init : MethodName := ⟨RX7, "<init>", "(LPloughDepot$Log;II)V"⟩
abbrev cX7_takes : ByteArray := prog_9_method_2_code
def yX7_takes : MethodName := ⟨RX7, "takes", "(I)I"⟩
def RX8 : String := "PloughDepot$Table"
def TX8 : u_T := fun k => match k with
  | 0 => ("PloughDepot$Table", "cells", "[[I", true)
  | _ => ("PloughDepot$Table", "size", "I", false)
def tyX8 : Nat → FieldType := fun k => match k with
  | 0 => .array (.array .int)
  | _ => .int
abbrev wsX80 : List Cond := u_ws RX8 TX8 2
theorem nmX8 : ∀ a, a < 2 → ∀ b, b < 2 → a ≠ b → (TX8 a).2.1 ≠ (TX8 b).2.1 := by decide +kernel
theorem tyX8_ok : ∀ k, k < 2 → parseFieldDescriptor (TX8 k).2.2.1 = some (tyX8 k) := by decide +kernel
abbrev cX8_init : ByteArray := prog_10_method_1_code
def yX8_init : MethodName := ⟨RX8, "<init>", "(II)V"⟩
abbrev cX8_has : ByteArray := prog_10_method_2_code
def yX8_has : MethodName := ⟨RX8, "has", "(I)Z"⟩
abbrev cX8_get : ByteArray := prog_10_method_3_code
def yX8_get : MethodName := ⟨RX8, "get", "(II)I"⟩
abbrev cX8_put : ByteArray := prog_10_method_4_code
def yX8_put : MethodName := ⟨RX8, "put", "(III)V"⟩
abbrev cX8_raise : ByteArray := prog_10_method_5_code
def yX8_raise : MethodName := ⟨RX8, "raise", "(III)V"⟩
abbrev cX8_add : ByteArray := prog_10_method_6_code
def yX8_add : MethodName := ⟨RX8, "add", "()I"⟩
abbrev cX8_become : ByteArray := prog_10_method_7_code
def yX8_become : MethodName := ⟨RX8, "become", "(LPloughDepot$Table;)V"⟩
abbrev cX8_digestOf : ByteArray := prog_10_method_8_code
def yX8_digestOf : MethodName := ⟨RX8, "digestOf", "(I)I"⟩
abbrev cX8_widen : ByteArray := prog_10_method_9_code
def yX8_widen : MethodName := ⟨RX8, "widen", "(I)V"⟩
def RX9 : String := "PloughDepot$Tractor"
def TX9 : u_T := fun k => match k with
  | 0 => ("PloughDepot$Plough", "log", "LPloughDepot$Log;", true)
  | 1 => ("PloughDepot$Plough", "speed", "I", true)
  | _ => ("PloughDepot$Plough", "reach", "I", true)
def tyX9 : Nat → FieldType := fun k => match k with
  | 0 => .object "PloughDepot$Log"
  | 1 => .int
  | _ => .int
abbrev wsX90 : List Cond := u_ws RX9 TX9 3
theorem nmX9 : ∀ a, a < 3 → ∀ b, b < 3 → a ≠ b → (TX9 a).2.1 ≠ (TX9 b).2.1 := by decide +kernel
theorem tyX9_ok : ∀ k, k < 3 → parseFieldDescriptor (TX9 k).2.2.1 = some (tyX9 k) := by decide +kernel
abbrev cX9_init : ByteArray := prog_11_method_1_code
def yX9_init : MethodName := ⟨RX9, "<init>", "(LPloughDepot$Log;II)V"⟩
abbrev cX9_takes : ByteArray := prog_11_method_2_code
def yX9_takes : MethodName := ⟨RX9, "takes", "(I)I"⟩
def RX10 : String := "PloughDepot$Ways"
def TX10 : u_T := fun k => match k with
  | 0 => ("PloughDepot$Ways", "books", "LPloughDepot$Books;", true)
  | 1 => ("PloughDepot$Ways", "hop", "[[I", true)
  | 2 => ("PloughDepot$Ways", "into", "[J", true)
  | 3 => ("PloughDepot$Ways", "gap", "[[I", true)
  | 4 => ("PloughDepot$Ways", "measured", "J", false)
  | _ => ("PloughDepot$Ways", "ready", "Z", false)
def tyX10 : Nat → FieldType := fun k => match k with
  | 0 => .object "PloughDepot$Books"
  | 1 => .array (.array .int)
  | 2 => .array .long
  | 3 => .array (.array .int)
  | 4 => .long
  | _ => .boolean
abbrev wsX100 : List Cond := u_ws RX10 TX10 6
theorem nmX10 : ∀ a, a < 6 → ∀ b, b < 6 → a ≠ b → (TX10 a).2.1 ≠ (TX10 b).2.1 := by decide +kernel
theorem tyX10_ok : ∀ k, k < 6 → parseFieldDescriptor (TX10 k).2.2.1 = some (tyX10 k) := by decide +kernel
abbrev cX10_init : ByteArray := prog_12_method_1_code
def yX10_init : MethodName := ⟨RX10, "<init>", "(LPloughDepot$Books;)V"⟩
abbrev cX10_forget : ByteArray := prog_12_method_2_code
def yX10_forget : MethodName := ⟨RX10, "forget", "()V"⟩
abbrev cX10_prepare : ByteArray := prog_12_method_3_code
def yX10_prepare : MethodName := ⟨RX10, "prepare", "()V"⟩
abbrev cX10_offer : ByteArray := prog_12_method_4_code
def yX10_offer : MethodName := ⟨RX10, "offer", "(III)V"⟩
abbrev cX10_measureEach : ByteArray := prog_12_method_5_code
def yX10_measureEach : MethodName := ⟨RX10, "measureEach", "(J)V"⟩
abbrev cX10_measure : ByteArray := prog_12_method_6_code
def yX10_measure : MethodName := ⟨RX10, "measure", "(I)V"⟩
abbrev cX10_nearestOf : ByteArray := prog_12_method_7_code
def yX10_nearestOf : MethodName := ⟨RX10, "nearestOf", "([IJ)I"⟩
abbrev cX10_between : ByteArray := prog_12_method_8_code
def yX10_between : MethodName := ⟨RX10, "between", "(II)I"⟩
abbrev cX10_nextStreet : ByteArray := prog_12_method_9_code
def yX10_nextStreet : MethodName := ⟨RX10, "nextStreet", "(II)I"⟩
abbrev cX10_streetAt : ByteArray := prog_12_method_10_code
def yX10_streetAt : MethodName := ⟨RX10, "streetAt", "(III)I"⟩
abbrev cX10_areJoined : ByteArray := prog_12_method_11_code
def yX10_areJoined : MethodName := ⟨RX10, "areJoined", "(II)Z"⟩
def RX11 : String := "PloughDepot"
def TX11 : u_T := fun k => match k with
  | 0 => ("PloughDepot", "log", "LPloughDepot$Log;", true)
  | 1 => ("PloughDepot", "now", "LPloughDepot$Books;", true)
  | 2 => ("PloughDepot", "before", "LPloughDepot$Books;", true)
  | 3 => ("PloughDepot", "ways", "LPloughDepot$Ways;", true)
  | 4 => ("PloughDepot", "pairing", "LPloughDepot$Pairing;", true)
  | 5 => ("PloughDepot", "planner", "LPloughDepot$Planner;", true)
  | 6 => ("PloughDepot", "bodies", "[LPloughDepot$Plough;", true)
  | 7 => ("PloughDepot", "heights", "[F", true)
  | 8 => ("PloughDepot", "starts", "[I", true)
  | 9 => ("PloughDepot", "ends", "[I", true)
  | 10 => ("PloughDepot", "found", "[I", true)
  | 11 => ("PloughDepot", "signs", "[C", false)
  | 12 => ("PloughDepot", "written", "I", false)
  | _ => ("PloughDepot", "undoable", "Z", false)
def tyX11 : Nat → FieldType := fun k => match k with
  | 0 => .object "PloughDepot$Log"
  | 1 => .object "PloughDepot$Books"
  | 2 => .object "PloughDepot$Books"
  | 3 => .object "PloughDepot$Ways"
  | 4 => .object "PloughDepot$Pairing"
  | 5 => .object "PloughDepot$Planner"
  | 6 => .array (.object "PloughDepot$Plough")
  | 7 => .array .float
  | 8 => .array .int
  | 9 => .array .int
  | 10 => .array .int
  | 11 => .array .char
  | 12 => .int
  | _ => .boolean
abbrev wsX110 : List Cond := u_ws RX11 TX11 14
theorem nmX11 : ∀ a, a < 14 → ∀ b, b < 14 → a ≠ b → (TX11 a).2.1 ≠ (TX11 b).2.1 := by decide +kernel
theorem tyX11_ok : ∀ k, k < 14 → parseFieldDescriptor (TX11 k).2.2.1 = some (tyX11 k) := by decide +kernel
abbrev cX11_init : ByteArray := prog_1_method_1_code
def yX11_init : MethodName := ⟨RX11, "<init>", "()V"⟩
abbrev cX11_crossings : ByteArray := prog_1_method_2_code
def yX11_crossings : MethodName := ⟨RX11, "crossings", "(I)I"⟩
abbrev cX11_street : ByteArray := prog_1_method_3_code
def yX11_street : MethodName := ⟨RX11, "street", "(IIIZ)I"⟩
abbrev cX11_oneWay : ByteArray := prog_1_method_4_code
def yX11_oneWay : MethodName := ⟨RX11, "oneWay", "(IZ)I"⟩
abbrev cX11_shut : ByteArray := prog_1_method_5_code
def yX11_shut : MethodName := ⟨RX11, "shut", "(IZ)I"⟩
abbrev cX11_sides : ByteArray := prog_1_method_6_code
def yX11_sides : MethodName := ⟨RX11, "sides", "(II)I"⟩
abbrev cX11_told : ByteArray := prog_1_method_7_code
def yX11_told : MethodName := ⟨RX11, "told", "(II)I"⟩
abbrev cX11_way : ByteArray := prog_1_method_8_code
def yX11_way : MethodName := ⟨RX11, "way", "(II)I"⟩
abbrev cX11_wayAt : ByteArray := prog_1_method_9_code
def yX11_wayAt : MethodName := ⟨RX11, "wayAt", "(III)I"⟩
abbrev cX11_gauge : ByteArray := prog_1_method_10_code
def yX11_gauge : MethodName := ⟨RX11, "gauge", "(IZ)I"⟩
abbrev cX11_row : ByteArray := prog_1_method_11_code
def yX11_row : MethodName := ⟨RX11, "row", "(II)I"⟩
abbrev cX11_lose : ByteArray := prog_1_method_12_code
def yX11_lose : MethodName := ⟨RX11, "lose", "(I)I"⟩
abbrev cX11_reading : ByteArray := prog_1_method_13_code
def yX11_reading : MethodName := ⟨RX11, "reading", "(III)I"⟩
abbrev cX11_none : ByteArray := prog_1_method_14_code
def yX11_none : MethodName := ⟨RX11, "none", "(III)I"⟩
abbrev cX11_read : ByteArray := prog_1_method_15_code
def yX11_read : MethodName := ⟨RX11, "read", "(II)I"⟩
abbrev cX11_copy : ByteArray := prog_1_method_16_code
def yX11_copy : MethodName := ⟨RX11, "copy", "(IIIII)I"⟩
abbrev cX11_copies : ByteArray := prog_1_method_17_code
def yX11_copies : MethodName := ⟨RX11, "copies", "(III)I"⟩
abbrev cX11_snow : ByteArray := prog_1_method_18_code
def yX11_snow : MethodName := ⟨RX11, "snow", "(I)I"⟩
abbrev cX11_melt : ByteArray := prog_1_method_19_code
def yX11_melt : MethodName := ⟨RX11, "melt", "(II)I"⟩
abbrev cX11_plough : ByteArray := prog_1_method_20_code
def yX11_plough : MethodName := ⟨RX11, "plough", "(II)I"⟩
abbrev cX11_pair : ByteArray := prog_1_method_21_code
def yX11_pair : MethodName := ⟨RX11, "pair", "(III)I"⟩
abbrev cX11_out : ByteArray := prog_1_method_22_code
def yX11_out : MethodName := ⟨RX11, "out", "(I)I"⟩
abbrev cX11_asks : ByteArray := prog_1_method_23_code
def yX11_asks : MethodName := ⟨RX11, "asks", "(III)I"⟩
abbrev cX11_salt : ByteArray := prog_1_method_24_code
def yX11_salt : MethodName := ⟨RX11, "salt", "(II)I"⟩
abbrev cX11_odd : ByteArray := prog_1_method_25_code
def yX11_odd : MethodName := ⟨RX11, "odd", "(I)I"⟩
abbrev cX11_least : ByteArray := prog_1_method_26_code
def yX11_least : MethodName := ⟨RX11, "least", "(I)I"⟩
abbrev cX11_round : ByteArray := prog_1_method_27_code
def yX11_round : MethodName := ⟨RX11, "round", "()I"⟩
abbrev cX11_at : ByteArray := prog_1_method_28_code
def yX11_at : MethodName := ⟨RX11, "at", "(II)I"⟩
abbrev cX11_length : ByteArray := prog_1_method_29_code
def yX11_length : MethodName := ⟨RX11, "length", "(I)I"⟩
abbrev cX11_partner : ByteArray := prog_1_method_30_code
def yX11_partner : MethodName := ⟨RX11, "partner", "(I)I"⟩
abbrev cX11_split : ByteArray := prog_1_method_31_code
def yX11_split : MethodName := ⟨RX11, "split", "()I"⟩
abbrev cX11_part : ByteArray := prog_1_method_32_code
def yX11_part : MethodName := ⟨RX11, "part", "(II)I"⟩
abbrev cX11_go : ByteArray := prog_1_method_33_code
def yX11_go : MethodName := ⟨RX11, "go", "(II)I"⟩
abbrev cX11_looks : ByteArray := prog_1_method_34_code
def yX11_looks : MethodName := ⟨RX11, "looks", "()I"⟩
abbrev cX11_text : ByteArray := prog_1_method_35_code
def yX11_text : MethodName := ⟨RX11, "text", "()I"⟩
abbrev cX11_sign : ByteArray := prog_1_method_36_code
def yX11_sign : MethodName := ⟨RX11, "sign", "(I)I"⟩
abbrev cX11_digest : ByteArray := prog_1_method_37_code
def yX11_digest : MethodName := ⟨RX11, "digest", "()I"⟩
abbrev cX11_undo : ByteArray := prog_1_method_38_code
def yX11_undo : MethodName := ⟨RX11, "undo", "()I"⟩
abbrev cX11_findings : ByteArray := prog_1_method_39_code
def yX11_findings : MethodName := ⟨RX11, "findings", "(I)I"⟩
abbrev cX11_status : ByteArray := prog_1_method_40_code
def yX11_status : MethodName := ⟨RX11, "status", "()I"⟩
abbrev cX11_trace : ByteArray := prog_1_method_41_code
def yX11_trace : MethodName := ⟨RX11, "trace", "()I"⟩
abbrev cX11_count : ByteArray := prog_1_method_42_code
def yX11_count : MethodName := ⟨RX11, "count", "(I)I"⟩
abbrev cX11_lowest : ByteArray := prog_1_method_43_code
def yX11_lowest : MethodName := ⟨RX11, "lowest", "(J)I"⟩
abbrev cX11_answer : ByteArray := prog_1_method_44_code
def yX11_answer : MethodName := ⟨RX11, "answer", "(I)I"⟩
abbrev cX11_refuse : ByteArray := prog_1_method_45_code
def yX11_refuse : MethodName := ⟨RX11, "refuse", "(I)I"⟩
abbrev cX11_change : ByteArray := prog_1_method_46_code
def yX11_change : MethodName := ⟨RX11, "change", "()V"⟩
abbrev cX11_forgetWays : ByteArray := prog_1_method_47_code
def yX11_forgetWays : MethodName := ⟨RX11, "forgetWays", "()V"⟩
abbrev cX11_become : ByteArray := prog_1_method_48_code
def yX11_become : MethodName := ⟨RX11, "become", "(III)I"⟩
abbrev cX11_note : ByteArray := prog_1_method_49_code
def yX11_note : MethodName := ⟨RX11, "note", "(IIJ)I"⟩
abbrev cX11_readGauges : ByteArray := prog_1_method_50_code
def yX11_readGauges : MethodName := ⟨RX11, "readGauges", "(I)V"⟩
abbrev cX11_fallOn : ByteArray := prog_1_method_51_code
def yX11_fallOn : MethodName := ⟨RX11, "fallOn", "(I)Z"⟩
abbrev cX11_nearness : ByteArray := prog_1_method_52_code
def yX11_nearness : MethodName := ⟨RX11, "nearness", "(II)I"⟩
abbrev cX11_wholeIn : ByteArray := prog_1_method_53_code
def yX11_wholeIn : MethodName := ⟨RX11, "wholeIn", "(II)I"⟩
abbrev cX11_bodyOf : ByteArray := prog_1_method_54_code
def yX11_bodyOf : MethodName := ⟨RX11, "bodyOf", "(I)LPloughDepot$Plough;"⟩
abbrev cX11_enlist : ByteArray := prog_1_method_55_code
def yX11_enlist : MethodName := ⟨RX11, "enlist", "(LPloughDepot$Plough;II)I"⟩
abbrev cX11_whyUnpaired : ByteArray := prog_1_method_56_code
def yX11_whyUnpaired : MethodName := ⟨RX11, "whyUnpaired", "(I)I"⟩
abbrev cX11_takeDrives : ByteArray := prog_1_method_57_code
def yX11_takeDrives : MethodName := ⟨RX11, "takeDrives", "(II)I"⟩
abbrev cX11_driveNext : ByteArray := prog_1_method_58_code
def yX11_driveNext : MethodName := ⟨RX11, "driveNext", "(I)V"⟩
abbrev cX11_write : ByteArray := prog_1_method_59_code
def yX11_write : MethodName := ⟨RX11, "write", "(I)Z"⟩
abbrev cX11_put : ByteArray := prog_1_method_60_code
def yX11_put : MethodName := ⟨RX11, "put", "(C)V"⟩
def RX12 : String := "PloughDepotModel"
def TX12 : u_T := fun k => match k with
  | 0 => ("PloughDepotModel", "now", "[I", true)
  | 1 => ("PloughDepotModel", "kept", "[I", true)
  | 2 => ("PloughDepotModel", "isKept", "Z", false)
  | 3 => ("PloughDepotModel", "status", "I", false)
  | 4 => ("PloughDepotModel", "trace", "I", false)
  | 5 => ("PloughDepotModel", "looks", "I", false)
  | 6 => ("PloughDepotModel", "findings", "[I", true)
  | 7 => ("PloughDepotModel", "text", "[C", true)
  | 8 => ("PloughDepotModel", "signs", "I", false)
  | 9 => ("PloughDepotModel", "far", "[I", true)
  | 10 => ("PloughDepotModel", "isReckoned", "Z", false)
  | 11 => ("PloughDepotModel", "some", "[I", true)
  | 12 => ("PloughDepotModel", "told", "[Z", true)
  | 13 => ("PloughDepotModel", "read", "[F", true)
  | 14 => ("PloughDepotModel", "times", "[I", true)
  | 15 => ("PloughDepotModel", "odd", "[I", true)
  | 16 => ("PloughDepotModel", "odds", "I", false)
  | 17 => ("PloughDepotModel", "come", "[Z", true)
  | 18 => ("PloughDepotModel", "least", "[I", true)
  | 19 => ("PloughDepotModel", "joins", "I", false)
  | 20 => ("PloughDepotModel", "exchanges", "I", false)
  | 21 => ("PloughDepotModel", "pairs", "I", false)
  | 22 => ("PloughDepotModel", "one", "[I", true)
  | 23 => ("PloughDepotModel", "two", "[I", true)
  | 24 => ("PloughDepotModel", "drives", "I", false)
  | 25 => ("PloughDepotModel", "street", "[I", true)
  | 26 => ("PloughDepotModel", "from", "[I", true)
  | 27 => ("PloughDepotModel", "clears", "[I", true)
  | 28 => ("PloughDepotModel", "done", "[I", true)
  | 29 => ("PloughDepotModel", "begins", "[I", true)
  | 30 => ("PloughDepotModel", "ends", "[I", true)
  | _ => ("PloughDepotModel", "took", "[I", true)
def tyX12 : Nat → FieldType := fun k => match k with
  | 0 => .array .int
  | 1 => .array .int
  | 2 => .boolean
  | 3 => .int
  | 4 => .int
  | 5 => .int
  | 6 => .array .int
  | 7 => .array .char
  | 8 => .int
  | 9 => .array .int
  | 10 => .boolean
  | 11 => .array .int
  | 12 => .array .boolean
  | 13 => .array .float
  | 14 => .array .int
  | 15 => .array .int
  | 16 => .int
  | 17 => .array .boolean
  | 18 => .array .int
  | 19 => .int
  | 20 => .int
  | 21 => .int
  | 22 => .array .int
  | 23 => .array .int
  | 24 => .int
  | 25 => .array .int
  | 26 => .array .int
  | 27 => .array .int
  | 28 => .array .int
  | 29 => .array .int
  | 30 => .array .int
  | _ => .array .int
abbrev wsX120 : List Cond := u_ws RX12 TX12 32
theorem nmX12 : ∀ a, a < 32 → ∀ b, b < 32 → a ≠ b → (TX12 a).2.1 ≠ (TX12 b).2.1 := by decide +kernel
theorem tyX12_ok : ∀ k, k < 32 → parseFieldDescriptor (TX12 k).2.2.1 = some (tyX12 k) := by decide +kernel
abbrev cX12_init : ByteArray := prog_14_method_1_code
def yX12_init : MethodName := ⟨RX12, "<init>", "()V"⟩
abbrev cX12_in : ByteArray := prog_14_method_3_code
def yX12_in : MethodName := ⟨RX12, "in", "(III)Z"⟩
abbrev cX12_lesser : ByteArray := prog_14_method_4_code
def yX12_lesser : MethodName := ⟨RX12, "lesser", "(II)I"⟩
abbrev cX12_refuses : ByteArray := prog_14_method_5_code
def yX12_refuses : MethodName := ⟨RX12, "refuses", "(I)I"⟩
abbrev cX12_finds : ByteArray := prog_14_method_6_code
def yX12_finds : MethodName := ⟨RX12, "finds", "(I)V"⟩
abbrev cX12_says : ByteArray := prog_14_method_7_code
def yX12_says : MethodName := ⟨RX12, "says", "(I)I"⟩
abbrev cX12_keeps : ByteArray := prog_14_method_8_code
def yX12_keeps : MethodName := ⟨RX12, "keeps", "()V"⟩
abbrev cX12_isCrossing : ByteArray := prog_14_method_9_code
def yX12_isCrossing : MethodName := ⟨RX12, "isCrossing", "(I)Z"⟩
abbrev cX12_isStreet : ByteArray := prog_14_method_10_code
def yX12_isStreet : MethodName := ⟨RX12, "isStreet", "(I)Z"⟩
abbrev cX12_isGauge : ByteArray := prog_14_method_11_code
def yX12_isGauge : MethodName := ⟨RX12, "isGauge", "(I)Z"⟩
abbrev cX12_isPlough : ByteArray := prog_14_method_12_code
def yX12_isPlough : MethodName := ⟨RX12, "isPlough", "(I)Z"⟩
abbrev cX12_st : ByteArray := prog_14_method_13_code
def yX12_st : MethodName := ⟨RX12, "st", "(I)I"⟩
abbrev cX12_ga : ByteArray := prog_14_method_14_code
def yX12_ga : MethodName := ⟨RX12, "ga", "(I)I"⟩
abbrev cX12_pl : ByteArray := prog_14_method_15_code
def yX12_pl : MethodName := ⟨RX12, "pl", "(I)I"⟩
abbrev cX12_crossings : ByteArray := prog_14_method_16_code
def yX12_crossings : MethodName := ⟨RX12, "crossings", "(I)I"⟩
abbrev cX12_street : ByteArray := prog_14_method_17_code
def yX12_street : MethodName := ⟨RX12, "street", "(IIIZ)I"⟩
abbrev cX12_turned : ByteArray := prog_14_method_18_code
def yX12_turned : MethodName := ⟨RX12, "turned", "(IIZ)I"⟩
abbrev cX12_oneWay : ByteArray := prog_14_method_19_code
def yX12_oneWay : MethodName := ⟨RX12, "oneWay", "(IZ)I"⟩
abbrev cX12_shut : ByteArray := prog_14_method_20_code
def yX12_shut : MethodName := ⟨RX12, "shut", "(IZ)I"⟩
abbrev cX12_sides : ByteArray := prog_14_method_21_code
def yX12_sides : MethodName := ⟨RX12, "sides", "(II)I"⟩
abbrev cX12_told : ByteArray := prog_14_method_22_code
def yX12_told : MethodName := ⟨RX12, "told", "(II)I"⟩
abbrev cX12_isOpen : ByteArray := prog_14_method_23_code
def yX12_isOpen : MethodName := ⟨RX12, "isOpen", "(I)Z"⟩
abbrev cX12_must : ByteArray := prog_14_method_24_code
def yX12_must : MethodName := ⟨RX12, "must", "(I)Z"⟩
abbrev cX12_leads : ByteArray := prog_14_method_25_code
def yX12_leads : MethodName := ⟨RX12, "leads", "(II)I"⟩
abbrev cX12_reckon : ByteArray := prog_14_method_26_code
def yX12_reckon : MethodName := ⟨RX12, "reckon", "()V"⟩
abbrev cX12_reckonTo : ByteArray := prog_14_method_27_code
def yX12_reckonTo : MethodName := ⟨RX12, "reckonTo", "(I)V"⟩
abbrev cX12_lessens : ByteArray := prog_14_method_28_code
def yX12_lessens : MethodName := ⟨RX12, "lessens", "(IIII)Z"⟩
abbrev cX12_onTo : ByteArray := prog_14_method_29_code
def yX12_onTo : MethodName := ⟨RX12, "onTo", "(II)I"⟩
abbrev cX12_way : ByteArray := prog_14_method_30_code
def yX12_way : MethodName := ⟨RX12, "way", "(II)I"⟩
abbrev cX12_wayAt : ByteArray := prog_14_method_31_code
def yX12_wayAt : MethodName := ⟨RX12, "wayAt", "(III)I"⟩
abbrev cX12_gauge : ByteArray := prog_14_method_32_code
def yX12_gauge : MethodName := ⟨RX12, "gauge", "(IZ)I"⟩
abbrev cX12_row : ByteArray := prog_14_method_33_code
def yX12_row : MethodName := ⟨RX12, "row", "(II)I"⟩
abbrev cX12_lose : ByteArray := prog_14_method_34_code
def yX12_lose : MethodName := ⟨RX12, "lose", "(I)I"⟩
abbrev cX12_bars : ByteArray := prog_14_method_35_code
def yX12_bars : MethodName := ⟨RX12, "bars", "(II)I"⟩
abbrev cX12_writes : ByteArray := prog_14_method_36_code
def yX12_writes : MethodName := ⟨RX12, "writes", "(IIII)I"⟩
abbrev cX12_reading : ByteArray := prog_14_method_37_code
def yX12_reading : MethodName := ⟨RX12, "reading", "(III)I"⟩
abbrev cX12_none : ByteArray := prog_14_method_38_code
def yX12_none : MethodName := ⟨RX12, "none", "(III)I"⟩
abbrev cX12_x : ByteArray := prog_14_method_39_code
def yX12_x : MethodName := ⟨RX12, "x", "(II)F"⟩
abbrev cX12_whole : ByteArray := prog_14_method_40_code
def yX12_whole : MethodName := ⟨RX12, "whole", "(F)I"⟩
abbrev cX12_tells : ByteArray := prog_14_method_41_code
def yX12_tells : MethodName := ⟨RX12, "tells", "(II)I"⟩
abbrev cX12_read : ByteArray := prog_14_method_42_code
def yX12_read : MethodName := ⟨RX12, "read", "(II)I"⟩
abbrev cX12_against : ByteArray := prog_14_method_43_code
def yX12_against : MethodName := ⟨RX12, "against", "(IIIII)I"⟩
abbrev cX12_brings : ByteArray := prog_14_method_44_code
def yX12_brings : MethodName := ⟨RX12, "brings", "(IIIII)V"⟩
abbrev cX12_copy : ByteArray := prog_14_method_45_code
def yX12_copy : MethodName := ⟨RX12, "copy", "(IIIII)I"⟩
abbrev cX12_copies : ByteArray := prog_14_method_46_code
def yX12_copies : MethodName := ⟨RX12, "copies", "(III)I"⟩
abbrev cX12_snow : ByteArray := prog_14_method_47_code
def yX12_snow : MethodName := ⟨RX12, "snow", "(I)I"⟩
abbrev cX12_near : ByteArray := prog_14_method_48_code
def yX12_near : MethodName := ⟨RX12, "near", "(II)I"⟩
abbrev cX12_snows : ByteArray := prog_14_method_49_code
def yX12_snows : MethodName := ⟨RX12, "snows", "(I)Z"⟩
abbrev cX12_melt : ByteArray := prog_14_method_50_code
def yX12_melt : MethodName := ⟨RX12, "melt", "(II)I"⟩
abbrev cX12_thins : ByteArray := prog_14_method_51_code
def yX12_thins : MethodName := ⟨RX12, "thins", "(II)V"⟩
abbrev cX12_comes : ByteArray := prog_14_method_52_code
def yX12_comes : MethodName := ⟨RX12, "comes", "(IIII)I"⟩
abbrev cX12_plough : ByteArray := prog_14_method_53_code
def yX12_plough : MethodName := ⟨RX12, "plough", "(II)I"⟩
abbrev cX12_unfit : ByteArray := prog_14_method_54_code
def yX12_unfit : MethodName := ⟨RX12, "unfit", "(I)I"⟩
abbrev cX12_leaves : ByteArray := prog_14_method_55_code
def yX12_leaves : MethodName := ⟨RX12, "leaves", "(I)V"⟩
abbrev cX12_losesPart : ByteArray := prog_14_method_56_code
def yX12_losesPart : MethodName := ⟨RX12, "losesPart", "(I)V"⟩
abbrev cX12_pair : ByteArray := prog_14_method_57_code
def yX12_pair : MethodName := ⟨RX12, "pair", "(III)I"⟩
abbrev cX12_out : ByteArray := prog_14_method_58_code
def yX12_out : MethodName := ⟨RX12, "out", "(I)I"⟩
abbrev cX12_speedOf : ByteArray := prog_14_method_59_code
def yX12_speedOf : MethodName := ⟨RX12, "speedOf", "(I)I"⟩
abbrev cX12_reachOf : ByteArray := prog_14_method_60_code
def yX12_reachOf : MethodName := ⟨RX12, "reachOf", "(I)I"⟩
abbrev cX12_kindOf : ByteArray := prog_14_method_61_code
def yX12_kindOf : MethodName := ⟨RX12, "kindOf", "(I)I"⟩
abbrev cX12_first : ByteArray := prog_14_method_62_code
def yX12_first : MethodName := ⟨RX12, "first", "(I)I"⟩
abbrev cX12_second : ByteArray := prog_14_method_63_code
def yX12_second : MethodName := ⟨RX12, "second", "(I)I"⟩
abbrev cX12_speed : ByteArray := prog_14_method_64_code
def yX12_speed : MethodName := ⟨RX12, "speed", "(I)I"⟩
abbrev cX12_reach : ByteArray := prog_14_method_65_code
def yX12_reach : MethodName := ⟨RX12, "reach", "(I)I"⟩
abbrev cX12_takesOf : ByteArray := prog_14_method_66_code
def yX12_takesOf : MethodName := ⟨RX12, "takesOf", "(II)I"⟩
abbrev cX12_takes : ByteArray := prog_14_method_67_code
def yX12_takes : MethodName := ⟨RX12, "takes", "(II)I"⟩
abbrev cX12_passes : ByteArray := prog_14_method_68_code
def yX12_passes : MethodName := ⟨RX12, "passes", "(II)I"⟩
abbrev cX12_asks : ByteArray := prog_14_method_69_code
def yX12_asks : MethodName := ⟨RX12, "asks", "(III)I"⟩
abbrev cX12_salt : ByteArray := prog_14_method_70_code
def yX12_salt : MethodName := ⟨RX12, "salt", "(II)I"⟩
abbrev cX12_beginTimes : ByteArray := prog_14_method_71_code
def yX12_beginTimes : MethodName := ⟨RX12, "beginTimes", "()V"⟩
abbrev cX12_findOdd : ByteArray := prog_14_method_72_code
def yX12_findOdd : MethodName := ⟨RX12, "findOdd", "()V"⟩
abbrev cX12_odd : ByteArray := prog_14_method_73_code
def yX12_odd : MethodName := ⟨RX12, "odd", "(I)I"⟩
abbrev cX12_isOneWay : ByteArray := prog_14_method_74_code
def yX12_isOneWay : MethodName := ⟨RX12, "isOneWay", "()Z"⟩
abbrev cX12_between : ByteArray := prog_14_method_75_code
def yX12_between : MethodName := ⟨RX12, "between", "(II)I"⟩
abbrev cX12_findLeast : ByteArray := prog_14_method_76_code
def yX12_findLeast : MethodName := ⟨RX12, "findLeast", "(I)V"⟩
abbrev cX12_lowest : ByteArray := prog_14_method_77_code
def yX12_lowest : MethodName := ⟨RX12, "lowest", "(I)I"⟩
abbrev cX12_findLeastOf : ByteArray := prog_14_method_78_code
def yX12_findLeastOf : MethodName := ⟨RX12, "findLeastOf", "(I)V"⟩
abbrev cX12_least : ByteArray := prog_14_method_79_code
def yX12_least : MethodName := ⟨RX12, "least", "(I)I"⟩
abbrev cX12_follows : ByteArray := prog_14_method_80_code
def yX12_follows : MethodName := ⟨RX12, "follows", "(I[I)V"⟩
abbrev cX12_hasMore : ByteArray := prog_14_method_81_code
def yX12_hasMore : MethodName := ⟨RX12, "hasMore", "([I)Z"⟩
abbrev cX12_isApart : ByteArray := prog_14_method_82_code
def yX12_isApart : MethodName := ⟨RX12, "isApart", "(I)Z"⟩
abbrev cX12_adds : ByteArray := prog_14_method_83_code
def yX12_adds : MethodName := ⟨RX12, "adds", "(III)V"⟩
abbrev cX12_joinsAll : ByteArray := prog_14_method_84_code
def yX12_joinsAll : MethodName := ⟨RX12, "joinsAll", "()Z"⟩
abbrev cX12_pairsUp : ByteArray := prog_14_method_85_code
def yX12_pairsUp : MethodName := ⟨RX12, "pairsUp", "(III)V"⟩
abbrev cX12_pairsLeast : ByteArray := prog_14_method_86_code
def yX12_pairsLeast : MethodName := ⟨RX12, "pairsLeast", "()V"⟩
abbrev cX12_pairsInOrder : ByteArray := prog_14_method_87_code
def yX12_pairsInOrder : MethodName := ⟨RX12, "pairsInOrder", "()V"⟩
abbrev cX12_isExchanged : ByteArray := prog_14_method_88_code
def yX12_isExchanged : MethodName := ⟨RX12, "isExchanged", "()Z"⟩
abbrev cX12_drive : ByteArray := prog_14_method_89_code
def yX12_drive : MethodName := ⟨RX12, "drive", "(IIZ)V"⟩
abbrev cX12_drivesAll : ByteArray := prog_14_method_90_code
def yX12_drivesAll : MethodName := ⟨RX12, "drivesAll", "()V"⟩
abbrev cX12_nextStreet : ByteArray := prog_14_method_91_code
def yX12_nextStreet : MethodName := ⟨RX12, "nextStreet", "(I)I"⟩
abbrev cX12_roundByPairs : ByteArray := prog_14_method_92_code
def yX12_roundByPairs : MethodName := ⟨RX12, "roundByPairs", "()I"⟩
abbrev cX12_drivesEmpty : ByteArray := prog_14_method_93_code
def yX12_drivesEmpty : MethodName := ⟨RX12, "drivesEmpty", "(II)I"⟩
abbrev cX12_roundByNearest : ByteArray := prog_14_method_94_code
def yX12_roundByNearest : MethodName := ⟨RX12, "roundByNearest", "()I"⟩
abbrev cX12_round : ByteArray := prog_14_method_95_code
def yX12_round : MethodName := ⟨RX12, "round", "()I"⟩
abbrev cX12_to : ByteArray := prog_14_method_96_code
def yX12_to : MethodName := ⟨RX12, "to", "(I)I"⟩
abbrev cX12_driveAt : ByteArray := prog_14_method_97_code
def yX12_driveAt : MethodName := ⟨RX12, "driveAt", "(II)I"⟩
abbrev cX12_at : ByteArray := prog_14_method_98_code
def yX12_at : MethodName := ⟨RX12, "at", "(II)I"⟩
abbrev cX12_length : ByteArray := prog_14_method_99_code
def yX12_length : MethodName := ⟨RX12, "length", "(I)I"⟩
abbrev cX12_partner : ByteArray := prog_14_method_100_code
def yX12_partner : MethodName := ⟨RX12, "partner", "(I)I"⟩
abbrev cX12_minutes : ByteArray := prog_14_method_101_code
def yX12_minutes : MethodName := ⟨RX12, "minutes", "(II)I"⟩
abbrev cX12_split : ByteArray := prog_14_method_102_code
def yX12_split : MethodName := ⟨RX12, "split", "()I"⟩
abbrev cX12_partAt : ByteArray := prog_14_method_103_code
def yX12_partAt : MethodName := ⟨RX12, "partAt", "(II)I"⟩
abbrev cX12_part : ByteArray := prog_14_method_104_code
def yX12_part : MethodName := ⟨RX12, "part", "(II)I"⟩
abbrev cX12_isShutAhead : ByteArray := prog_14_method_105_code
def yX12_isShutAhead : MethodName := ⟨RX12, "isShutAhead", "(I)Z"⟩
abbrev cX12_goesOn : ByteArray := prog_14_method_106_code
def yX12_goesOn : MethodName := ⟨RX12, "goesOn", "(I)V"⟩
abbrev cX12_go : ByteArray := prog_14_method_107_code
def yX12_go : MethodName := ⟨RX12, "go", "(II)I"⟩
abbrev cX12_looks : ByteArray := prog_14_method_108_code
def yX12_looks : MethodName := ⟨RX12, "looks", "()I"⟩
abbrev cX12_writes_ : ByteArray := prog_14_method_109_code
def yX12_writes_ : MethodName := ⟨RX12, "writes", "(I)V"⟩
abbrev cX12_endOf : ByteArray := prog_14_method_110_code
def yX12_endOf : MethodName := ⟨RX12, "endOf", "(I)I"⟩
abbrev cX12_text : ByteArray := prog_14_method_111_code
def yX12_text : MethodName := ⟨RX12, "text", "()I"⟩
abbrev cX12_sign : ByteArray := prog_14_method_112_code
def yX12_sign : MethodName := ⟨RX12, "sign", "(I)I"⟩
abbrev cX12_digest : ByteArray := prog_14_method_113_code
def yX12_digest : MethodName := ⟨RX12, "digest", "()I"⟩
abbrev cX12_undo : ByteArray := prog_14_method_114_code
def yX12_undo : MethodName := ⟨RX12, "undo", "()I"⟩
abbrev cX12_findings : ByteArray := prog_14_method_115_code
def yX12_findings : MethodName := ⟨RX12, "findings", "(I)I"⟩
abbrev cX12_status : ByteArray := prog_14_method_116_code
def yX12_status : MethodName := ⟨RX12, "status", "()I"⟩
abbrev cX12_trace : ByteArray := prog_14_method_117_code
def yX12_trace : MethodName := ⟨RX12, "trace", "()I"⟩
abbrev cX12_count : ByteArray := prog_14_method_118_code
def yX12_count : MethodName := ⟨RX12, "count", "(I)I"⟩
def RJx8e188 : String := "java/lang/Cloneable"
def TJx8e188 : u_T := fun k => match k with
  | _ => ("", "", "", false)
def tyJx8e188 : Nat → FieldType := fun k => match k with
  | _ => .int
abbrev wsJx8e1880 : List Cond := u_ws RJx8e188 TJx8e188 0
theorem nmJx8e188 : ∀ a, a < 0 → ∀ b, b < 0 → a ≠ b → (TJx8e188 a).2.1 ≠ (TJx8e188 b).2.1 := by decide +kernel
theorem tyJx8e188_ok : ∀ k, k < 0 → parseFieldDescriptor (TJx8e188 k).2.2.1 = some (tyJx8e188 k) := by decide +kernel
def RJ6 : String := "java/lang/Integer"
def TJ6 : u_T := fun k => match k with
  | _ => ("", "", "", false)
def tyJ6 : Nat → FieldType := fun k => match k with
  | _ => .int
abbrev wsJ60 : List Cond := u_ws RJ6 TJ6 0
theorem nmJ6 : ∀ a, a < 0 → ∀ b, b < 0 → a ≠ b → (TJ6 a).2.1 ≠ (TJ6 b).2.1 := by decide +kernel
theorem tyJ6_ok : ∀ k, k < 0 → parseFieldDescriptor (TJ6 k).2.2.1 = some (tyJ6 k) := by decide +kernel
abbrev cJ6_bitCount_0f7a4 : ByteArray := prog_16_method_49_code
def yJ6_bitCount_0f7a4 : MethodName := ⟨RJ6, "bitCount", "(I)I"⟩
def RJ13 : String := "java/lang/Long"
def TJ13 : u_T := fun k => match k with
  | _ => ("", "", "", false)
def tyJ13 : Nat → FieldType := fun k => match k with
  | _ => .int
abbrev wsJ130 : List Cond := u_ws RJ13 TJ13 0
theorem nmJ13 : ∀ a, a < 0 → ∀ b, b < 0 → a ≠ b → (TJ13 a).2.1 ≠ (TJ13 b).2.1 := by decide +kernel
theorem tyJ13_ok : ∀ k, k < 0 → parseFieldDescriptor (TJ13 k).2.2.1 = some (tyJ13 k) := by decide +kernel
abbrev cJ13_bitCount_95d88 : ByteArray := prog_17_method_50_code
def yJ13_bitCount_95d88 : MethodName := ⟨RJ13, "bitCount", "(J)I"⟩
def RJ9 : String := "java/lang/Math"
def TJ9 : u_T := fun k => match k with
  | _ => ("", "", "", false)
def tyJ9 : Nat → FieldType := fun k => match k with
  | _ => .int
abbrev wsJ90 : List Cond := u_ws RJ9 TJ9 0
theorem nmJ9 : ∀ a, a < 0 → ∀ b, b < 0 → a ≠ b → (TJ9 a).2.1 ≠ (TJ9 b).2.1 := by decide +kernel
theorem tyJ9_ok : ∀ k, k < 0 → parseFieldDescriptor (TJ9 k).2.2.1 = some (tyJ9 k) := by decide +kernel
abbrev cJ9_max_7cf53 : ByteArray := prog_18_method_65_code
def yJ9_max_7cf53 : MethodName := ⟨RJ9, "max", "(II)I"⟩
abbrev cJ9_min_7cf53 : ByteArray := prog_18_method_69_code
def yJ9_min_7cf53 : MethodName := ⟨RJ9, "min", "(II)I"⟩
def RJ10 : String := "java/lang/System"
def TJ10 : u_T := fun k => match k with
  | _ => ("", "", "", false)
def tyJ10 : Nat → FieldType := fun k => match k with
  | _ => .int
abbrev wsJ100 : List Cond := u_ws RJ10 TJ10 0
theorem nmJ10 : ∀ a, a < 0 → ∀ b, b < 0 → a ≠ b → (TJ10 a).2.1 ≠ (TJ10 b).2.1 := by decide +kernel
theorem tyJ10_ok : ∀ k, k < 0 → parseFieldDescriptor (TJ10 k).2.2.1 = some (tyJ10 k) := by decide +kernel
def RJ7 : String := "java/util/Arrays"
def TJ7 : u_T := fun k => match k with
  | _ => ("", "", "", false)
def tyJ7 : Nat → FieldType := fun k => match k with
  | _ => .int
abbrev wsJ70 : List Cond := u_ws RJ7 TJ7 0
theorem nmJ7 : ∀ a, a < 0 → ∀ b, b < 0 → a ≠ b → (TJ7 a).2.1 ≠ (TJ7 b).2.1 := by decide +kernel
theorem tyJ7_ok : ∀ k, k < 0 → parseFieldDescriptor (TJ7 k).2.2.1 = some (tyJ7 k) := by decide +kernel
abbrev cJ7_fill_d0a16 : ByteArray := prog_20_method_101_code
def yJ7_fill_d0a16 : MethodName := ⟨RJ7, "fill", "([JJ)V"⟩
abbrev cJ7_fill_53178 : ByteArray := prog_20_method_103_code
def yJ7_fill_53178 : MethodName := ⟨RJ7, "fill", "([II)V"⟩
abbrev cJ7_copyOf_59c91 : ByteArray := prog_20_method_123_code
def yJ7_copyOf_59c91 : MethodName := ⟨RJ7, "copyOf", "([II)[I"⟩
abbrev cJ7_copyOf_c38d5 : ByteArray := prog_20_method_124_code
def yJ7_copyOf_c38d5 : MethodName := ⟨RJ7, "copyOf", "([JI)[J"⟩
def RL : String := "PloughDepotLaw"
abbrev cL_law : ByteArray := code
def yL_law : MethodName := ⟨RL, "law", "([I)Z"⟩
def wsL_law_r1 : List Cond := [Cond.classLink RL 7 RX11, Cond.instantiable RX11 14, Cond.initialized RX11, Cond.classLink RL 10 RX12, Cond.instantiable RX12 32, Cond.initialized RX12, Cond.methodLink RL 9 yX11_init, Cond.instanceMethod yX11_init, Cond.code yX11_init cX11_init 3 none, Cond.methodLink RX11 1 objectInit, Cond.instanceMethod objectInit, Cond.code objectInit ⟨#[0xb1]⟩ 1 none, Cond.classLink RX11 7 RX2, Cond.instantiable RX2 4, Cond.initialized RX2, Cond.fieldLink RX11 10 "PloughDepot" "log" "LPloughDepot$Log;", Cond.classLink RX11 16 RX1, Cond.instantiable RX1 8, Cond.initialized RX1, Cond.fieldLink RX11 19 "PloughDepot" "now" "LPloughDepot$Books;", Cond.fieldLink RX11 23 "PloughDepot" "before" "LPloughDepot$Books;", Cond.classLink RX11 26 RX10, Cond.instantiable RX10 6, Cond.initialized RX10]
def wsL_law_r2 : List Cond := [Cond.fieldLink RX11 31 "PloughDepot" "ways" "LPloughDepot$Ways;", Cond.classLink RX11 35 RX4, Cond.instantiable RX4 12, Cond.initialized RX4, Cond.fieldLink RX11 40 "PloughDepot" "pairing" "LPloughDepot$Pairing;", Cond.classLink RX11 44 RX5, Cond.instantiable RX5 13, Cond.initialized RX5, Cond.fieldLink RX11 49 "PloughDepot" "planner" "LPloughDepot$Planner;", Cond.classLink RX11 53 RX6, Cond.fieldLink RX11 55 "PloughDepot" "bodies" "[LPloughDepot$Plough;", Cond.arrayClass .float, Cond.fieldLink RX11 59 "PloughDepot" "heights" "[F", Cond.arrayClass .int, Cond.fieldLink RX11 63 "PloughDepot" "starts" "[I", Cond.fieldLink RX11 67 "PloughDepot" "ends" "[I", Cond.fieldLink RX11 70 "PloughDepot" "found" "[I", Cond.arrayClass .char, Cond.fieldLink RX11 73 "PloughDepot" "signs" "[C", Cond.fieldLink RX11 77 "PloughDepot" "written" "I", Cond.fieldLink RX11 81 "PloughDepot" "undoable" "Z", Cond.instantiable RX6 3, Cond.initialized RX6, Cond.instanceMethod yX2_init]
def wsL_law_r3 : List Cond := [Cond.code yX2_init cX2_init 1 none, Cond.methodLink RX2 3 objectInit, Cond.fieldLink RX2 9 "PloughDepot$Log" "findings" "[I", Cond.fieldLink RX2 15 "PloughDepot$Log" "status" "I", Cond.fieldLink RX2 19 "PloughDepot$Log" "trace" "I", Cond.fieldLink RX2 22 "PloughDepot$Log" "looks" "I", Cond.methodLink RX11 18 yX1_init, Cond.instanceMethod yX1_init, Cond.code yX1_init cX1_init 1 none, Cond.methodLink RX1 3 objectInit, Cond.fieldLink RX1 9 "PloughDepot$Books" "crossings" "I", Cond.classLink RX1 15 RX8, Cond.instantiable RX8 2, Cond.initialized RX8, Cond.fieldLink RX1 20 "PloughDepot$Books" "streets" "LPloughDepot$Table;", Cond.fieldLink RX1 24 "PloughDepot$Books" "gauges" "LPloughDepot$Table;", Cond.fieldLink RX1 27 "PloughDepot$Books" "ploughs" "LPloughDepot$Table;", Cond.fieldLink RX1 30 "PloughDepot$Books" "drives" "LPloughDepot$Table;", Cond.fieldLink RX1 33 "PloughDepot$Books" "facts" "[I", Cond.fieldLink RX1 37 "PloughDepot$Books" "partners" "[I", Cond.arrayClass .long, Cond.fieldLink RX1 40 "PloughDepot$Books" "cells" "[J", Cond.methodLink RX1 17 yX8_init, Cond.instanceMethod yX8_init]
def wsL_law_r4 : List Cond := [Cond.code yX8_init cX8_init 3 none, Cond.methodLink RX8 3 objectInit, Cond.fieldLink RX8 9 "PloughDepot$Table" "size" "I", Cond.classLink RX8 15 "[[I", Cond.fieldLink RX8 17 "PloughDepot$Table" "cells" "[[I", Cond.methodLink RX1 44 yJ7_fill_53178, Cond.static yJ7_fill_53178, Cond.initialized RJ7, Cond.code yJ7_fill_53178 cJ7_fill_53178 4 none, Cond.methodLink RX11 28 yX10_init, Cond.instanceMethod yX10_init, Cond.code yX10_init cX10_init 2 none, Cond.methodLink RX10 3 objectInit, Cond.classLink RX10 9 "[[I", Cond.fieldLink RX10 11 "PloughDepot$Ways" "hop" "[[I", Cond.fieldLink RX10 16 "PloughDepot$Ways" "into" "[J", Cond.fieldLink RX10 20 "PloughDepot$Ways" "gap" "[[I", Cond.fieldLink RX10 23 "PloughDepot$Ways" "measured" "J", Cond.fieldLink RX10 27 "PloughDepot$Ways" "ready" "Z", Cond.fieldLink RX10 31 "PloughDepot$Ways" "books" "LPloughDepot$Books;", Cond.methodLink RX11 37 yX4_init, Cond.instanceMethod yX4_init, Cond.code yX4_init cX4_init 3 none, Cond.methodLink RX4 3 objectInit]
def wsL_law_r5 : List Cond := [Cond.fieldLink RX4 9 "PloughDepot$Pairing" "odds" "[I", Cond.fieldLink RX4 15 "PloughDepot$Pairing" "many" "I", Cond.fieldLink RX4 19 "PloughDepot$Pairing" "listed" "Z", Cond.classLink RX4 23 "[[I", Cond.fieldLink RX4 25 "PloughDepot$Pairing" "gaps" "[[I", Cond.fieldLink RX4 28 "PloughDepot$Pairing" "table" "[I", Cond.fieldLink RX4 31 "PloughDepot$Pairing" "tabled" "Z", Cond.fieldLink RX4 34 "PloughDepot$Pairing" "ones" "[I", Cond.fieldLink RX4 37 "PloughDepot$Pairing" "others" "[I", Cond.fieldLink RX4 40 "PloughDepot$Pairing" "pairs" "I", Cond.fieldLink RX4 43 "PloughDepot$Pairing" "exchanges" "I", Cond.fieldLink RX4 46 "PloughDepot$Pairing" "books" "LPloughDepot$Books;", Cond.fieldLink RX4 50 "PloughDepot$Pairing" "ways" "LPloughDepot$Ways;", Cond.methodLink RX11 46 yX5_init, Cond.instanceMethod yX5_init, Cond.code yX5_init cX5_init 4 none, Cond.methodLink RX5 3 objectInit, Cond.classLink RX5 9 RX8, Cond.fieldLink RX5 14 "PloughDepot$Planner" "drives" "LPloughDepot$Table;", Cond.fieldLink RX5 20 "PloughDepot$Planner" "facts" "[I", Cond.fieldLink RX5 24 "PloughDepot$Planner" "partners" "[I", Cond.fieldLink RX5 27 "PloughDepot$Planner" "endA" "[I", Cond.fieldLink RX5 30 "PloughDepot$Planner" "endB" "[I", Cond.fieldLink RX5 33 "PloughDepot$Planner" "streets" "I"]
def wsL_law_r6 : List Cond := [Cond.fieldLink RX5 37 "PloughDepot$Planner" "left" "[I", Cond.fieldLink RX5 40 "PloughDepot$Planner" "due" "[I", Cond.fieldLink RX5 43 "PloughDepot$Planner" "near" "[J", Cond.fieldLink RX5 47 "PloughDepot$Planner" "place" "I", Cond.fieldLink RX5 50 "PloughDepot$Planner" "books" "LPloughDepot$Books;", Cond.fieldLink RX5 54 "PloughDepot$Planner" "ways" "LPloughDepot$Ways;", Cond.fieldLink RX5 58 "PloughDepot$Planner" "pairing" "LPloughDepot$Pairing;", Cond.methodLink RX5 11 yX8_init, Cond.methodLink RX11 85 yX6_init, Cond.instanceMethod yX6_init, Cond.code yX6_init cX6_init 4 none, Cond.methodLink RX6 3 objectInit, Cond.fieldLink RX6 9 "PloughDepot$Plough" "log" "LPloughDepot$Log;", Cond.fieldLink RX6 15 "PloughDepot$Plough" "speed" "I", Cond.fieldLink RX6 19 "PloughDepot$Plough" "reach" "I", Cond.methodLink RL 12 yX12_init, Cond.instanceMethod yX12_init, Cond.code yX12_init cX12_init 2 none, Cond.methodLink RX12 1 objectInit, Cond.fieldLink RX12 7 "PloughDepotModel" "now" "[I", Cond.fieldLink RX12 13 "PloughDepotModel" "kept" "[I", Cond.fieldLink RX12 16 "PloughDepotModel" "findings" "[I", Cond.fieldLink RX12 19 "PloughDepotModel" "text" "[C", Cond.fieldLink RX12 23 "PloughDepotModel" "far" "[I"]
def wsL_law_r7 : List Cond := [Cond.fieldLink RX12 26 "PloughDepotModel" "some" "[I", Cond.arrayClass .boolean, Cond.fieldLink RX12 29 "PloughDepotModel" "told" "[Z", Cond.fieldLink RX12 33 "PloughDepotModel" "read" "[F", Cond.fieldLink RX12 37 "PloughDepotModel" "times" "[I", Cond.fieldLink RX12 40 "PloughDepotModel" "odd" "[I", Cond.fieldLink RX12 43 "PloughDepotModel" "come" "[Z", Cond.fieldLink RX12 46 "PloughDepotModel" "least" "[I", Cond.fieldLink RX12 49 "PloughDepotModel" "one" "[I", Cond.fieldLink RX12 52 "PloughDepotModel" "two" "[I", Cond.fieldLink RX12 55 "PloughDepotModel" "street" "[I", Cond.fieldLink RX12 58 "PloughDepotModel" "from" "[I", Cond.fieldLink RX12 61 "PloughDepotModel" "clears" "[I", Cond.fieldLink RX12 64 "PloughDepotModel" "done" "[I", Cond.fieldLink RX12 67 "PloughDepotModel" "begins" "[I", Cond.fieldLink RX12 70 "PloughDepotModel" "ends" "[I", Cond.fieldLink RX12 73 "PloughDepotModel" "took" "[I", Cond.methodLink RL 13 yX11_crossings, Cond.instanceMethod yX11_crossings, Cond.selects RX11 yX11_crossings yX11_crossings, Cond.code yX11_crossings cX11_crossings 2 (some .int), Cond.fieldLink RX11 92 "PloughDepot$Books" "crossings" "I", Cond.methodLink RX11 88 yX11_refuse, Cond.instanceMethod yX11_refuse]
def wsL_law_r8 : List Cond := [Cond.selects RX11 yX11_refuse yX11_refuse, Cond.code yX11_refuse cX11_refuse 2 (some .int), Cond.fieldLink RX11 312 "PloughDepot$Log" "status" "I", Cond.methodLink RX11 324 yX2_find, Cond.instanceMethod yX2_find, Cond.selects RX2 yX2_find yX2_find, Cond.code yX2_find cX2_find 2 none, Cond.methodLink RX11 95 yX11_change, Cond.instanceMethod yX11_change, Cond.selects RX11 yX11_change yX11_change, Cond.code yX11_change cX11_change 1 none, Cond.methodLink RX11 304 yX1_become, Cond.instanceMethod yX1_become, Cond.selects RX1 yX1_become yX1_become, Cond.code yX1_become cX1_become 4 none, Cond.methodLink RX1 54 arraycopyName, Cond.native arraycopyName, Cond.static arraycopyName, Cond.initialized "java/lang/System", Cond.fieldLink RX1 63 "PloughDepot$Table" "size" "I", Cond.methodLink RX1 70 Lib.Math.max.name, Cond.static Lib.Math.max.name, Cond.initialized "java/lang/Math", Cond.code Lib.Math.max.name Lib.Math.max.code 2 (some .int)]
def wsL_law_r9 : List Cond := [Cond.methodLink RX1 50 yX8_become, Cond.instanceMethod yX8_become, Cond.selects RX8 yX8_become yX8_become, Cond.code yX8_become cX8_become 3 none, Cond.methodLink RX8 32 arraycopyName, Cond.methodLink RX8 28 yX8_widen, Cond.instanceMethod yX8_widen, Cond.selects RX8 yX8_widen yX8_widen, Cond.code yX8_widen cX8_widen 3 none, Cond.methodLink RX8 38 Lib.Math.max.name, Cond.methodLink RX8 43 yJ7_copyOf_59c91, Cond.static yJ7_copyOf_59c91, Cond.code yJ7_copyOf_59c91 cJ7_copyOf_59c91 3 (some (.array .int)), Cond.methodLink RJ7 316 ⟨"[I", "clone", "()Ljava/lang/Object;"⟩, Cond.sameMethod "[I" "java/lang/Object" "clone" "()Ljava/lang/Object;", Cond.native ⟨"java/lang/Object", "clone", "()Ljava/lang/Object;"⟩, Cond.instanceMethod ⟨"java/lang/Object", "clone", "()Ljava/lang/Object;"⟩, Cond.selects "[I" ⟨"[I", "clone", "()Ljava/lang/Object;"⟩ ⟨"java/lang/Object", "clone", "()Ljava/lang/Object;"⟩, Cond.classLink RJ7 317 "[I", Cond.methodLink RJ7 304 Lib.Math.min.name, Cond.static Lib.Math.min.name, Cond.code Lib.Math.min.name Lib.Math.min.code 2 (some .int), Cond.methodLink RJ7 150 arraycopyName, Cond.methodLink RX1 60 yX1_widenCells]
def wsL_law_r10 : List Cond := [Cond.instanceMethod yX1_widenCells, Cond.selects RX1 yX1_widenCells yX1_widenCells, Cond.code yX1_widenCells cX1_widenCells 2 none, Cond.methodLink RX1 75 yJ7_copyOf_c38d5, Cond.static yJ7_copyOf_c38d5, Cond.code yJ7_copyOf_c38d5 cJ7_copyOf_c38d5 3 (some (.array .long)), Cond.methodLink RJ7 319 ⟨"[J", "clone", "()Ljava/lang/Object;"⟩, Cond.sameMethod "[J" "java/lang/Object" "clone" "()Ljava/lang/Object;", Cond.selects "[J" ⟨"[J", "clone", "()Ljava/lang/Object;"⟩ ⟨"java/lang/Object", "clone", "()Ljava/lang/Object;"⟩, Cond.classLink RJ7 320 "[J", Cond.methodLink RX1 66 yX8_get, Cond.instanceMethod yX8_get, Cond.selects RX8 yX8_get yX8_get, Cond.code yX8_get cX8_get 3 (some .int), Cond.methodLink RX11 306 yX11_forgetWays, Cond.instanceMethod yX11_forgetWays, Cond.selects RX11 yX11_forgetWays yX11_forgetWays, Cond.code yX11_forgetWays cX11_forgetWays 1 none, Cond.methodLink RX11 327 yX10_forget, Cond.instanceMethod yX10_forget, Cond.selects RX10 yX10_forget yX10_forget, Cond.code yX10_forget cX10_forget 1 none, Cond.methodLink RX11 330 yX4_forget, Cond.instanceMethod yX4_forget]
def wsL_law_r11 : List Cond := [Cond.selects RX4 yX4_forget yX4_forget, Cond.code yX4_forget cX4_forget 1 none, Cond.methodLink RX11 98 yX11_answer, Cond.instanceMethod yX11_answer, Cond.selects RX11 yX11_answer yX11_answer, Cond.code yX11_answer cX11_answer 2 (some .int), Cond.methodLink RL 17 yX12_crossings, Cond.instanceMethod yX12_crossings, Cond.selects RX12 yX12_crossings yX12_crossings, Cond.code yX12_crossings cX12_crossings 2 (some .int), Cond.fieldLink RX12 99 "PloughDepotModel" "isReckoned" "Z", Cond.methodLink RX12 88 yX12_in, Cond.static yX12_in, Cond.code yX12_in cX12_in 3 (some .boolean), Cond.methodLink RX12 92 yX12_refuses, Cond.instanceMethod yX12_refuses, Cond.selects RX12 yX12_refuses yX12_refuses, Cond.code yX12_refuses cX12_refuses 2 (some .int), Cond.fieldLink RX12 76 "PloughDepotModel" "status" "I", Cond.methodLink RX12 80 yX12_finds, Cond.instanceMethod yX12_finds, Cond.selects RX12 yX12_finds yX12_finds, Cond.code yX12_finds cX12_finds 2 none, Cond.methodLink RX12 96 yX12_keeps]
def wsL_law_r12 : List Cond := [Cond.instanceMethod yX12_keeps, Cond.selects RX12 yX12_keeps yX12_keeps, Cond.code yX12_keeps cX12_keeps 2 none, Cond.fieldLink RX12 84 "PloughDepotModel" "isKept" "Z", Cond.methodLink RX12 102 yX12_says, Cond.instanceMethod yX12_says, Cond.selects RX12 yX12_says yX12_says, Cond.code yX12_says cX12_says 2 (some .int), Cond.methodLink RL 18 yX11_street, Cond.instanceMethod yX11_street, Cond.selects RX11 yX11_street yX11_street, Cond.code yX11_street cX11_street 6 (some .int), Cond.fieldLink RX11 105 "PloughDepot$Books" "streets" "LPloughDepot$Table;", Cond.fieldLink RX11 109 "PloughDepot$Table" "size" "I", Cond.methodLink RX11 101 yX1_hasCrossing, Cond.instanceMethod yX1_hasCrossing, Cond.selects RX1 yX1_hasCrossing yX1_hasCrossing, Cond.code yX1_hasCrossing cX1_hasCrossing 2 (some .boolean), Cond.methodLink RX11 114 yX8_add, Cond.instanceMethod yX8_add, Cond.selects RX8 yX8_add yX8_add, Cond.code yX8_add cX8_add 2 (some .int), Cond.methodLink RX11 118 yX8_put, Cond.instanceMethod yX8_put]
def wsL_law_r13 : List Cond := [Cond.selects RX8 yX8_put yX8_put, Cond.code yX8_put cX8_put 4 none, Cond.methodLink RL 22 yX12_street, Cond.instanceMethod yX12_street, Cond.selects RX12 yX12_street yX12_street, Cond.code yX12_street cX12_street 6 (some .int), Cond.methodLink RX12 105 yX12_isCrossing, Cond.instanceMethod yX12_isCrossing, Cond.selects RX12 yX12_isCrossing yX12_isCrossing, Cond.code yX12_isCrossing cX12_isCrossing 2 (some .boolean), Cond.methodLink RX12 109 yX12_st, Cond.instanceMethod yX12_st, Cond.selects RX12 yX12_st yX12_st, Cond.code yX12_st cX12_st 2 (some .int), Cond.methodLink RL 23 yX11_oneWay, Cond.instanceMethod yX11_oneWay, Cond.selects RX11 yX11_oneWay yX11_oneWay, Cond.code yX11_oneWay cX11_oneWay 3 (some .int), Cond.methodLink RX11 122 yX11_become, Cond.instanceMethod yX11_become, Cond.selects RX11 yX11_become yX11_become, Cond.code yX11_become cX11_become 5 (some .int), Cond.methodLink RX11 126 yX8_has, Cond.instanceMethod yX8_has]
def wsL_law_r14 : List Cond := [Cond.selects RX8 yX8_has yX8_has, Cond.code yX8_has cX8_has 2 (some .boolean), Cond.methodLink RX11 129 yX8_get, Cond.methodLink RL 27 yX12_oneWay, Cond.instanceMethod yX12_oneWay, Cond.selects RX12 yX12_oneWay yX12_oneWay, Cond.code yX12_oneWay cX12_oneWay 3 (some .int), Cond.methodLink RX12 115 yX12_turned, Cond.instanceMethod yX12_turned, Cond.selects RX12 yX12_turned yX12_turned, Cond.code yX12_turned cX12_turned 5 (some .int), Cond.methodLink RX12 112 yX12_isStreet, Cond.instanceMethod yX12_isStreet, Cond.selects RX12 yX12_isStreet yX12_isStreet, Cond.code yX12_isStreet cX12_isStreet 2 (some .boolean), Cond.methodLink RL 28 yX11_shut, Cond.instanceMethod yX11_shut, Cond.selects RX11 yX11_shut yX11_shut, Cond.code yX11_shut cX11_shut 3 (some .int), Cond.methodLink RL 31 yX12_shut, Cond.instanceMethod yX12_shut, Cond.selects RX12 yX12_shut yX12_shut, Cond.code yX12_shut cX12_shut 3 (some .int), Cond.methodLink RL 32 yX11_sides]
def wsL_law_r15 : List Cond := [Cond.instanceMethod yX11_sides, Cond.selects RX11 yX11_sides yX11_sides, Cond.code yX11_sides cX11_sides 4 (some .int), Cond.methodLink RL 36 yX12_sides, Cond.instanceMethod yX12_sides, Cond.selects RX12 yX12_sides yX12_sides, Cond.code yX12_sides cX12_sides 4 (some .int), Cond.methodLink RL 37 yX11_told, Cond.instanceMethod yX11_told, Cond.selects RX11 yX11_told yX11_told, Cond.code yX11_told cX11_told 3 (some .int), Cond.methodLink RL 40 yX12_told, Cond.instanceMethod yX12_told, Cond.selects RX12 yX12_told yX12_told, Cond.code yX12_told cX12_told 3 (some .int), Cond.methodLink RL 41 yX11_way, Cond.instanceMethod yX11_way, Cond.selects RX11 yX11_way yX11_way, Cond.code yX11_way cX11_way 4 (some .int), Cond.constant RX11 140 (1000000000), Cond.methodLink RX11 133 yX10_measureEach, Cond.instanceMethod yX10_measureEach, Cond.selects RX10 yX10_measureEach yX10_measureEach, Cond.code yX10_measureEach cX10_measureEach 4 none]
def wsL_law_r16 : List Cond := [Cond.fieldLink RX10 67 "PloughDepot$Books" "crossings" "I", Cond.constantLong RX10 70 (-1), Cond.methodLink RX10 64 yX10_prepare, Cond.instanceMethod yX10_prepare, Cond.selects RX10 yX10_prepare yX10_prepare, Cond.code yX10_prepare cX10_prepare 4 none, Cond.fieldLink RX10 44 "PloughDepot$Books" "streets" "LPloughDepot$Table;", Cond.fieldLink RX10 50 "PloughDepot$Table" "size" "I", Cond.methodLink RX10 35 yJ7_fill_53178, Cond.methodLink RX10 41 yJ7_fill_d0a16, Cond.static yJ7_fill_d0a16, Cond.code yJ7_fill_d0a16 cJ7_fill_d0a16 5 none, Cond.methodLink RX10 56 yX8_get, Cond.methodLink RX10 60 yX10_offer, Cond.instanceMethod yX10_offer, Cond.selects RX10 yX10_offer yX10_offer, Cond.code yX10_offer cX10_offer 5 none, Cond.methodLink RX10 72 yX10_measure, Cond.instanceMethod yX10_measure, Cond.selects RX10 yX10_measure yX10_measure, Cond.code yX10_measure cX10_measure 13 none, Cond.constant RX10 76 (1000000000), Cond.methodLink RX10 85 Lib.Math.min.name, Cond.methodLink RX10 77 yX10_nearestOf]
def wsL_law_r17 : List Cond := [Cond.static yX10_nearestOf, Cond.code yX10_nearestOf cX10_nearestOf 8 (some .int), Cond.static yX11_lowest, Cond.code yX11_lowest cX11_lowest 2 (some .int), Cond.methodLink RX11 318 yJ13_bitCount_95d88, Cond.static yJ13_bitCount_95d88, Cond.initialized RJ13, Cond.code yJ13_bitCount_95d88 cJ13_bitCount_95d88 2 (some .int), Cond.constantLong RJ13 314 (6148914691236517205), Cond.constantLong RJ13 316 (3689348814741910323), Cond.constantLong RJ13 318 (1085102592571150095), Cond.methodLink RX11 137 yX10_between, Cond.instanceMethod yX10_between, Cond.selects RX10 yX10_between yX10_between, Cond.code yX10_between cX10_between 4 (some .int), Cond.methodLink RL 44 yX12_way, Cond.instanceMethod yX12_way, Cond.selects RX12 yX12_way yX12_way, Cond.code yX12_way cX12_way 3 (some .int), Cond.constant RX12 125 (268435456), Cond.methodLink RX12 134 yX12_reckon, Cond.instanceMethod yX12_reckon, Cond.selects RX12 yX12_reckon yX12_reckon, Cond.code yX12_reckon cX12_reckon 2 none]
def wsL_law_r18 : List Cond := [Cond.methodLink RX12 122 yX12_reckonTo, Cond.instanceMethod yX12_reckonTo, Cond.selects RX12 yX12_reckonTo yX12_reckonTo, Cond.code yX12_reckonTo cX12_reckonTo 7 none, Cond.methodLink RX12 119 yX12_isOpen, Cond.instanceMethod yX12_isOpen, Cond.selects RX12 yX12_isOpen yX12_isOpen, Cond.code yX12_isOpen cX12_isOpen 2 (some .boolean), Cond.methodLink RX12 126 yX12_lessens, Cond.instanceMethod yX12_lessens, Cond.selects RX12 yX12_lessens yX12_lessens, Cond.code yX12_lessens cX12_lessens 5 (some .boolean), Cond.methodLink RL 45 yX11_wayAt, Cond.instanceMethod yX11_wayAt, Cond.selects RX11 yX11_wayAt yX11_wayAt, Cond.code yX11_wayAt cX11_wayAt 4 (some .int), Cond.methodLink RX11 141 yX10_streetAt, Cond.instanceMethod yX10_streetAt, Cond.selects RX10 yX10_streetAt yX10_streetAt, Cond.code yX10_streetAt cX10_streetAt 7 (some .int), Cond.methodLink RX10 93 yX10_nextStreet, Cond.instanceMethod yX10_nextStreet, Cond.selects RX10 yX10_nextStreet yX10_nextStreet, Cond.code yX10_nextStreet cX10_nextStreet 6 (some .int)]
def wsL_law_r19 : List Cond := [Cond.methodLink RX10 90 yX10_between, Cond.methodLink RX10 96 yX1_otherEnd, Cond.instanceMethod yX1_otherEnd, Cond.selects RX1 yX1_otherEnd yX1_otherEnd, Cond.code yX1_otherEnd cX1_otherEnd 4 (some .int), Cond.methodLink RL 49 yX12_wayAt, Cond.instanceMethod yX12_wayAt, Cond.selects RX12 yX12_wayAt yX12_wayAt, Cond.code yX12_wayAt cX12_wayAt 7 (some .int), Cond.methodLink RX12 137 yX12_onTo, Cond.instanceMethod yX12_onTo, Cond.selects RX12 yX12_onTo yX12_onTo, Cond.code yX12_onTo cX12_onTo 7 (some .int), Cond.methodLink RX12 130 yX12_leads, Cond.instanceMethod yX12_leads, Cond.selects RX12 yX12_leads yX12_leads, Cond.code yX12_leads cX12_leads 4 (some .int), Cond.methodLink RL 50 yX11_gauge, Cond.instanceMethod yX11_gauge, Cond.selects RX11 yX11_gauge yX11_gauge, Cond.code yX11_gauge cX11_gauge 3 (some .int), Cond.fieldLink RX11 144 "PloughDepot$Books" "gauges" "LPloughDepot$Table;", Cond.methodLink RX11 147 yX1_addGauge, Cond.instanceMethod yX1_addGauge]
def wsL_law_r20 : List Cond := [Cond.selects RX1 yX1_addGauge yX1_addGauge, Cond.code yX1_addGauge cX1_addGauge 4 (some .int), Cond.methodLink RX1 86 yX8_add, Cond.methodLink RX1 79 yX8_put, Cond.methodLink RL 53 yX12_gauge, Cond.instanceMethod yX12_gauge, Cond.selects RX12 yX12_gauge yX12_gauge, Cond.code yX12_gauge cX12_gauge 4 (some .int), Cond.methodLink RX12 140 yX12_ga, Cond.instanceMethod yX12_ga, Cond.selects RX12 yX12_ga yX12_ga, Cond.code yX12_ga cX12_ga 2 (some .int), Cond.methodLink RL 54 yX11_row, Cond.instanceMethod yX11_row, Cond.selects RX11 yX11_row yX11_row, Cond.code yX11_row cX11_row 3 (some .int), Cond.methodLink RX11 151 yX1_lay, Cond.instanceMethod yX1_lay, Cond.selects RX1 yX1_lay yX1_lay, Cond.code yX1_lay cX1_lay 4 none, Cond.methodLink RX1 90 yX1_setCell, Cond.instanceMethod yX1_setCell, Cond.selects RX1 yX1_setCell yX1_setCell, Cond.code yX1_setCell cX1_setCell 6 none]
def wsL_law_r21 : List Cond := [Cond.methodLink RX1 109 yX1_cellAt, Cond.instanceMethod yX1_cellAt, Cond.selects RX1 yX1_cellAt yX1_cellAt, Cond.code yX1_cellAt cX1_cellAt 5 (some .int), Cond.methodLink RX1 106 yX8_has, Cond.methodLink RL 57 yX12_row, Cond.instanceMethod yX12_row, Cond.selects RX12 yX12_row yX12_row, Cond.code yX12_row cX12_row 4 (some .int), Cond.methodLink RX12 143 yX12_isGauge, Cond.instanceMethod yX12_isGauge, Cond.selects RX12 yX12_isGauge yX12_isGauge, Cond.code yX12_isGauge cX12_isGauge 2 (some .boolean), Cond.methodLink RL 58 yX11_lose, Cond.instanceMethod yX11_lose, Cond.selects RX11 yX11_lose yX11_lose, Cond.code yX11_lose cX11_lose 3 (some .int), Cond.methodLink RX11 155 yX1_isMissing, Cond.instanceMethod yX1_isMissing, Cond.selects RX1 yX1_isMissing yX1_isMissing, Cond.code yX1_isMissing cX1_isMissing 2 (some .boolean), Cond.methodLink RL 61 yX12_lose, Cond.instanceMethod yX12_lose, Cond.selects RX12 yX12_lose yX12_lose]
def wsL_law_r22 : List Cond := [Cond.code yX12_lose cX12_lose 3 (some .int), Cond.methodLink RL 62 yX11_reading, Cond.instanceMethod yX11_reading, Cond.selects RX11 yX11_reading yX11_reading, Cond.code yX11_reading cX11_reading 4 (some .int), Cond.methodLink RX11 158 yX1_isOfShorts, Cond.instanceMethod yX1_isOfShorts, Cond.selects RX1 yX1_isOfShorts yX1_isOfShorts, Cond.code yX1_isOfShorts cX1_isOfShorts 2 (some .boolean), Cond.methodLink RX11 161 yX1_cellOfShort, Cond.static yX1_cellOfShort, Cond.code yX1_cellOfShort cX1_cellOfShort 1 (some .long), Cond.constantLong RX1 94 (1099511627776), Cond.constantLong RX1 96 (2199023255552), Cond.methodLink RX11 165 yX11_note, Cond.instanceMethod yX11_note, Cond.selects RX11 yX11_note yX11_note, Cond.code yX11_note cX11_note 6 (some .int), Cond.methodLink RX11 173 yX1_whyUnread, Cond.instanceMethod yX1_whyUnread, Cond.selects RX1 yX1_whyUnread yX1_whyUnread, Cond.code yX1_whyUnread cX1_whyUnread 3 (some .int), Cond.methodLink RX1 98 yX1_isMissing, Cond.methodLink RX11 331 yX1_setCell]
def wsL_law_r23 : List Cond := [Cond.methodLink RL 65 yX12_reading, Cond.instanceMethod yX12_reading, Cond.selects RX12 yX12_reading yX12_reading, Cond.code yX12_reading cX12_reading 5 (some .int), Cond.methodLink RX12 149 yX12_writes, Cond.instanceMethod yX12_writes, Cond.selects RX12 yX12_writes yX12_writes, Cond.code yX12_writes cX12_writes 6 (some .int), Cond.methodLink RX12 146 yX12_bars, Cond.instanceMethod yX12_bars, Cond.selects RX12 yX12_bars yX12_bars, Cond.code yX12_bars cX12_bars 4 (some .int), Cond.methodLink RL 66 yX11_none, Cond.instanceMethod yX11_none, Cond.selects RX11 yX11_none yX11_none, Cond.code yX11_none cX11_none 4 (some .int), Cond.constantLong RX11 169 (1099511627776), Cond.constantLong RX11 171 (2199023255552), Cond.methodLink RL 69 yX12_none, Cond.instanceMethod yX12_none, Cond.selects RX12 yX12_none yX12_none, Cond.code yX12_none cX12_none 4 (some .int), Cond.methodLink RL 70 yX11_read, Cond.instanceMethod yX11_read]
def wsL_law_r24 : List Cond := [Cond.selects RX11 yX11_read yX11_read, Cond.code yX11_read cX11_read 4 (some .int), Cond.methodLink RX11 176 yX1_tenths, Cond.instanceMethod yX1_tenths, Cond.selects RX1 yX1_tenths yX1_tenths, Cond.code yX1_tenths cX1_tenths 4 (some .int), Cond.constant RX1 122 (100000), Cond.constantFloat RX1 116 (1092616192), Cond.methodLink RX1 123 Lib.Math.min.name, Cond.methodLink RX1 118 yX1_height, Cond.instanceMethod yX1_height, Cond.selects RX1 yX1_height yX1_height, Cond.code yX1_height cX1_height 6 (some .float), Cond.constantFloat RX1 112 (3212836864), Cond.constantFloat RX1 117 (1090519040), Cond.methodLink RX1 113 yX1_isOfShorts, Cond.methodLink RL 73 yX12_read, Cond.instanceMethod yX12_read, Cond.selects RX12 yX12_read yX12_read, Cond.code yX12_read cX12_read 4 (some .int), Cond.methodLink RX12 167 yX12_tells, Cond.instanceMethod yX12_tells, Cond.selects RX12 yX12_tells yX12_tells, Cond.code yX12_tells cX12_tells 3 (some .int)]
def wsL_law_r25 : List Cond := [Cond.constantFloat RX12 154 (1092616192), Cond.methodLink RX12 159 yX12_x, Cond.instanceMethod yX12_x, Cond.selects RX12 yX12_x yX12_x, Cond.code yX12_x cX12_x 5 (some .float), Cond.constantFloat RX12 153 (1090519040), Cond.methodLink RX12 163 yX12_whole, Cond.instanceMethod yX12_whole, Cond.selects RX12 yX12_whole yX12_whole, Cond.code yX12_whole cX12_whole 2 (some .int), Cond.constant RX12 155 (100000), Cond.methodLink RX12 156 yX12_lesser, Cond.static yX12_lesser, Cond.code yX12_lesser cX12_lesser 2 (some .int), Cond.methodLink RL 74 yX11_copy, Cond.instanceMethod yX11_copy, Cond.selects RX11 yX11_copy yX11_copy, Cond.code yX11_copy cX11_copy 7 (some .int), Cond.methodLink RX11 179 yX1_whyUncopied, Cond.instanceMethod yX1_whyUncopied, Cond.selects RX1 yX1_whyUncopied yX1_whyUncopied, Cond.code yX1_whyUncopied cX1_whyUncopied 6 (some .int), Cond.methodLink RX1 102 yX1_reaches, Cond.instanceMethod yX1_reaches]
def wsL_law_r26 : List Cond := [Cond.selects RX1 yX1_reaches yX1_reaches, Cond.code yX1_reaches cX1_reaches 4 (some .boolean), Cond.methodLink RX11 183 yX1_copyReadings, Cond.instanceMethod yX1_copyReadings, Cond.selects RX1 yX1_copyReadings yX1_copyReadings, Cond.code yX1_copyReadings cX1_copyReadings 6 none, Cond.methodLink RL 78 yX12_copy, Cond.instanceMethod yX12_copy, Cond.selects RX12 yX12_copy yX12_copy, Cond.code yX12_copy cX12_copy 7 (some .int), Cond.methodLink RX12 170 yX12_against, Cond.instanceMethod yX12_against, Cond.selects RX12 yX12_against yX12_against, Cond.code yX12_against cX12_against 8 (some .int), Cond.methodLink RX12 174 yX12_brings, Cond.instanceMethod yX12_brings, Cond.selects RX12 yX12_brings yX12_brings, Cond.code yX12_brings cX12_brings 7 none, Cond.methodLink RL 79 yX11_copies, Cond.instanceMethod yX11_copies, Cond.selects RX11 yX11_copies yX11_copies, Cond.code yX11_copies cX11_copies 7 (some .int), Cond.methodLink RL 82 yX12_copies, Cond.instanceMethod yX12_copies]
def wsL_law_r27 : List Cond := [Cond.selects RX12 yX12_copies yX12_copies, Cond.code yX12_copies cX12_copies 6 (some .int), Cond.methodLink RL 83 yX11_snow, Cond.instanceMethod yX11_snow, Cond.selects RX11 yX11_snow yX11_snow, Cond.code yX11_snow cX11_snow 4 (some .int), Cond.methodLink RX11 187 yX11_readGauges, Cond.instanceMethod yX11_readGauges, Cond.selects RX11 yX11_readGauges yX11_readGauges, Cond.code yX11_readGauges cX11_readGauges 4 none, Cond.constantFloat RX11 339 (3212836864), Cond.methodLink RX11 335 yX1_height, Cond.methodLink RX11 191 yX10_prepare, Cond.methodLink RX11 194 yX11_fallOn, Cond.instanceMethod yX11_fallOn, Cond.selects RX11 yX11_fallOn yX11_fallOn, Cond.code yX11_fallOn cX11_fallOn 6 (some .boolean), Cond.constant RX11 343 (100000), Cond.constantFloat RX11 344 (1092616192), Cond.methodLink RX11 345 Lib.Math.min.name, Cond.methodLink RX11 340 yX11_nearness, Cond.instanceMethod yX11_nearness, Cond.selects RX11 yX11_nearness yX11_nearness, Cond.code yX11_nearness cX11_nearness 6 (some .int)]
def wsL_law_r28 : List Cond := [Cond.methodLink RX11 350 yX10_areJoined, Cond.instanceMethod yX10_areJoined, Cond.selects RX10 yX10_areJoined yX10_areJoined, Cond.code yX10_areJoined cX10_areJoined 4 (some .boolean), Cond.methodLink RL 86 yX12_snow, Cond.instanceMethod yX12_snow, Cond.selects RX12 yX12_snow yX12_snow, Cond.code yX12_snow cX12_snow 4 (some .int), Cond.methodLink RX12 178 yX12_snows, Cond.instanceMethod yX12_snows, Cond.selects RX12 yX12_snows yX12_snows, Cond.code yX12_snows cX12_snows 6 (some .boolean), Cond.methodLink RX12 181 yX12_near, Cond.instanceMethod yX12_near, Cond.selects RX12 yX12_near yX12_near, Cond.code yX12_near cX12_near 10 (some .int), Cond.methodLink RL 87 yX11_melt, Cond.instanceMethod yX11_melt, Cond.selects RX11 yX11_melt yX11_melt, Cond.code yX11_melt cX11_melt 5 (some .int), Cond.methodLink RX11 197 yX11_wholeIn, Cond.static yX11_wholeIn, Cond.code yX11_wholeIn cX11_wholeIn 9 (some .int), Cond.constantFloat RX11 354 (1090519040)]
def wsL_law_r29 : List Cond := [Cond.methodLink RX11 200 yX1_lessDrift, Cond.instanceMethod yX1_lessDrift, Cond.selects RX1 yX1_lessDrift yX1_lessDrift, Cond.code yX1_lessDrift cX1_lessDrift 3 none, Cond.methodLink RL 90 yX12_melt, Cond.instanceMethod yX12_melt, Cond.selects RX12 yX12_melt yX12_melt, Cond.code yX12_melt cX12_melt 7 (some .int), Cond.methodLink RX12 184 yX12_thins, Cond.instanceMethod yX12_thins, Cond.selects RX12 yX12_thins yX12_thins, Cond.code yX12_thins cX12_thins 4 none, Cond.methodLink RL 91 yX11_plough, Cond.instanceMethod yX11_plough, Cond.selects RX11 yX11_plough yX11_plough, Cond.code yX11_plough cX11_plough 3 (some .int), Cond.fieldLink RX11 203 "PloughDepot$Books" "ploughs" "LPloughDepot$Table;", Cond.methodLink RX11 206 yX11_bodyOf, Cond.instanceMethod yX11_bodyOf, Cond.selects RX11 yX11_bodyOf yX11_bodyOf, Cond.code yX11_bodyOf cX11_bodyOf 2 (some (.object "PloughDepot$Plough")), Cond.classLink RX11 355 RX0, Cond.instantiable RX0 3, Cond.initialized RX0]
def wsL_law_r30 : List Cond := [Cond.classLink RX11 240 RX7, Cond.instantiable RX7 3, Cond.initialized RX7, Cond.classLink RX11 359 RX9, Cond.instantiable RX9 3, Cond.initialized RX9, Cond.methodLink RX11 357 yX0_init, Cond.instanceMethod yX0_init, Cond.code yX0_init cX0_init 4 none, Cond.methodLink RX0 1 yX6_init, Cond.methodLink RX11 358 yX7_init, Cond.instanceMethod yX7_init, Cond.code yX7_init cX7_init 4 none, Cond.methodLink RX7 1 yX6_init, Cond.methodLink RX11 361 yX9_init, Cond.instanceMethod yX9_init, Cond.code yX9_init cX9_init 4 none, Cond.methodLink RX9 1 yX6_init, Cond.methodLink RX11 210 yX11_enlist, Cond.instanceMethod yX11_enlist, Cond.selects RX11 yX11_enlist yX11_enlist, Cond.code yX11_enlist cX11_enlist 5 (some .int), Cond.methodLink RL 94 yX12_plough, Cond.instanceMethod yX12_plough]
def wsL_law_r31 : List Cond := [Cond.selects RX12 yX12_plough yX12_plough, Cond.code yX12_plough cX12_plough 3 (some .int), Cond.methodLink RX12 191 yX12_comes, Cond.instanceMethod yX12_comes, Cond.selects RX12 yX12_comes yX12_comes, Cond.code yX12_comes cX12_comes 7 (some .int), Cond.methodLink RX12 188 yX12_pl, Cond.instanceMethod yX12_pl, Cond.selects RX12 yX12_pl yX12_pl, Cond.code yX12_pl cX12_pl 2 (some .int), Cond.methodLink RL 95 yX11_pair, Cond.instanceMethod yX11_pair, Cond.selects RX11 yX11_pair yX11_pair, Cond.code yX11_pair cX11_pair 5 (some .int), Cond.classLink RX11 220 RX3, Cond.instantiable RX3 5, Cond.initialized RX3, Cond.methodLink RX11 214 yX11_whyUnpaired, Cond.instanceMethod yX11_whyUnpaired, Cond.selects RX11 yX11_whyUnpaired yX11_whyUnpaired, Cond.code yX11_whyUnpaired cX11_whyUnpaired 2 (some .int), Cond.classLink RX11 220 "PloughDepot$Pair", Cond.methodLink RX11 225 yX1_isOut, Cond.instanceMethod yX1_isOut]
def wsL_law_r32 : List Cond := [Cond.selects RX1 yX1_isOut yX1_isOut, Cond.code yX1_isOut cX1_isOut 2 (some .boolean), Cond.methodLink RX11 217 yX1_sendOut, Cond.instanceMethod yX1_sendOut, Cond.selects RX1 yX1_sendOut yX1_sendOut, Cond.code yX1_sendOut cX1_sendOut 2 none, Cond.methodLink RX1 126 yX1_dropPart, Cond.instanceMethod yX1_dropPart, Cond.selects RX1 yX1_dropPart yX1_dropPart, Cond.code yX1_dropPart cX1_dropPart 3 none, Cond.methodLink RX11 222 yX3_init, Cond.instanceMethod yX3_init, Cond.code yX3_init cX3_init 4 none, Cond.fieldLink RX3 1 "PloughDepot$Plough" "speed" "I", Cond.methodLink RX3 7 Lib.Math.min.name, Cond.fieldLink RX3 13 "PloughDepot$Plough" "reach" "I", Cond.fieldLink RX3 20 "PloughDepot$Pair" "first" "LPloughDepot$Plough;", Cond.fieldLink RX3 26 "PloughDepot$Pair" "second" "LPloughDepot$Plough;", Cond.methodLink RX3 16 yX6_init, Cond.methodLink RL 98 yX12_pair, Cond.instanceMethod yX12_pair, Cond.selects RX12 yX12_pair yX12_pair, Cond.code yX12_pair cX12_pair 5 (some .int), Cond.methodLink RX12 197 yX12_isPlough]
def wsL_law_r33 : List Cond := [Cond.instanceMethod yX12_isPlough, Cond.selects RX12 yX12_isPlough yX12_isPlough, Cond.code yX12_isPlough cX12_isPlough 2 (some .boolean), Cond.methodLink RX12 200 yX12_unfit, Cond.instanceMethod yX12_unfit, Cond.selects RX12 yX12_unfit yX12_unfit, Cond.code yX12_unfit cX12_unfit 2 (some .int), Cond.methodLink RX12 203 yX12_leaves, Cond.instanceMethod yX12_leaves, Cond.selects RX12 yX12_leaves yX12_leaves, Cond.code yX12_leaves cX12_leaves 2 none, Cond.methodLink RX12 194 yX12_losesPart, Cond.instanceMethod yX12_losesPart, Cond.selects RX12 yX12_losesPart yX12_losesPart, Cond.code yX12_losesPart cX12_losesPart 3 none, Cond.methodLink RL 99 yX11_out, Cond.instanceMethod yX11_out, Cond.selects RX11 yX11_out yX11_out, Cond.code yX11_out cX11_out 3 (some .int), Cond.methodLink RL 102 yX12_out, Cond.instanceMethod yX12_out, Cond.selects RX12 yX12_out yX12_out, Cond.code yX12_out cX12_out 3 (some .int), Cond.methodLink RL 103 yX11_asks]
def wsL_law_r34 : List Cond := [Cond.instanceMethod yX11_asks, Cond.selects RX11 yX11_asks yX11_asks, Cond.code yX11_asks cX11_asks 6 (some .int), Cond.fieldLink RX11 228 "PloughDepot$Plough" "speed" "I", Cond.fieldLink RX11 231 "PloughDepot$Plough" "reach" "I", Cond.methodLink RX11 234 ⟨"PloughDepot$Plough", "takes", "(I)I"⟩, Cond.sameMethod "PloughDepot$Plough" "PloughDepot$Plough" "takes" "(I)I", Cond.selects RX0 ⟨"PloughDepot$Plough", "takes", "(I)I"⟩ yX6_takes, Cond.instanceMethod yX6_takes, Cond.code yX6_takes cX6_takes 2 (some .int), Cond.fieldLink RX6 22 "PloughDepot$Log" "trace" "I", Cond.instanceMethod ⟨"PloughDepot$Plough", "takes", "(I)I"⟩, Cond.selects RX3 ⟨"PloughDepot$Plough", "takes", "(I)I"⟩ yX3_takes, Cond.instanceMethod yX3_takes, Cond.code yX3_takes cX3_takes 3 (some .int), Cond.fieldLink RX3 29 "PloughDepot$Pair" "log" "LPloughDepot$Log;", Cond.sameField "PloughDepot$Pair" "PloughDepot$Plough" "log" "LPloughDepot$Log;", Cond.fieldLink RX3 33 "PloughDepot$Log" "trace" "I", Cond.methodLink RX3 42 Lib.Math.max.name, Cond.methodLink RX3 38 ⟨"PloughDepot$Plough", "takes", "(I)I"⟩, Cond.methodLink RX3 38 yX6_takes, Cond.selects RX6 yX6_takes yX6_takes, Cond.selects RX7 ⟨"PloughDepot$Plough", "takes", "(I)I"⟩ yX7_takes, Cond.instanceMethod yX7_takes]
def wsL_law_r35 : List Cond := [Cond.code yX7_takes cX7_takes 2 (some .int), Cond.fieldLink RX7 7 "PloughDepot$Salter" "log" "LPloughDepot$Log;", Cond.sameField "PloughDepot$Salter" "PloughDepot$Plough" "log" "LPloughDepot$Log;", Cond.fieldLink RX7 13 "PloughDepot$Log" "trace" "I", Cond.methodLink RX7 19 yX6_takes, Cond.superclass RX7 RX6, Cond.selects RX9 ⟨"PloughDepot$Plough", "takes", "(I)I"⟩ yX9_takes, Cond.instanceMethod yX9_takes, Cond.code yX9_takes cX9_takes 2 (some .int), Cond.fieldLink RX9 7 "PloughDepot$Tractor" "log" "LPloughDepot$Log;", Cond.sameField "PloughDepot$Tractor" "PloughDepot$Plough" "log" "LPloughDepot$Log;", Cond.fieldLink RX9 13 "PloughDepot$Log" "trace" "I", Cond.methodLink RX9 19 yX6_takes, Cond.superclass RX9 RX6, Cond.methodLink RX11 234 yX6_takes, Cond.methodLink RX11 237 ⟨"PloughDepot$Plough", "passes", "(I)I"⟩, Cond.sameMethod "PloughDepot$Plough" "PloughDepot$Plough" "passes" "(I)I", Cond.instanceMethod ⟨"PloughDepot$Plough", "passes", "(I)I"⟩, Cond.selects RX0 ⟨"PloughDepot$Plough", "passes", "(I)I"⟩ yX0_passes, Cond.instanceMethod yX0_passes, Cond.code yX0_passes cX0_passes 2 (some .int), Cond.fieldLink RX0 7 "PloughDepot$Blower" "log" "LPloughDepot$Log;", Cond.sameField "PloughDepot$Blower" "PloughDepot$Plough" "log" "LPloughDepot$Log;", Cond.fieldLink RX0 13 "PloughDepot$Log" "trace" "I"]
def wsL_law_r36 : List Cond := [Cond.methodLink RX0 19 ⟨"PloughDepot$Blower", "passesUpTo", "(II)I"⟩, Cond.sameMethod "PloughDepot$Blower" "PloughDepot$Plough" "passesUpTo" "(II)I", Cond.selects RX0 ⟨"PloughDepot$Blower", "passesUpTo", "(II)I"⟩ yX6_passesUpTo, Cond.instanceMethod yX6_passesUpTo, Cond.code yX6_passesUpTo cX6_passesUpTo 3 (some .int), Cond.code yX6_passes cX6_passes 2 (some .int), Cond.selects RX3 ⟨"PloughDepot$Plough", "passes", "(I)I"⟩ yX3_passes, Cond.instanceMethod yX3_passes, Cond.code yX3_passes cX3_passes 2 (some .int), Cond.methodLink RX3 45 ⟨"PloughDepot$Pair", "passesUpTo", "(II)I"⟩, Cond.sameMethod "PloughDepot$Pair" "PloughDepot$Plough" "passesUpTo" "(II)I", Cond.selects RX3 ⟨"PloughDepot$Pair", "passesUpTo", "(II)I"⟩ yX6_passesUpTo, Cond.methodLink RX11 237 yX6_passes, Cond.instanceMethod yX6_passes, Cond.selects RX6 yX6_passes yX6_passes, Cond.methodLink RX6 27 ⟨"PloughDepot$Plough", "passesUpTo", "(II)I"⟩, Cond.sameMethod "PloughDepot$Plough" "PloughDepot$Plough" "passesUpTo" "(II)I", Cond.selects RX0 ⟨"PloughDepot$Plough", "passesUpTo", "(II)I"⟩ yX6_passesUpTo, Cond.selects RX3 ⟨"PloughDepot$Plough", "passesUpTo", "(II)I"⟩ yX6_passesUpTo, Cond.methodLink RX6 27 yX6_passesUpTo, Cond.selects RX6 yX6_passesUpTo yX6_passesUpTo, Cond.selects RX7 ⟨"PloughDepot$Plough", "passesUpTo", "(II)I"⟩ yX6_passesUpTo, Cond.selects RX9 ⟨"PloughDepot$Plough", "passesUpTo", "(II)I"⟩ yX6_passesUpTo, Cond.selects RX7 ⟨"PloughDepot$Plough", "passes", "(I)I"⟩ yX6_passes]
def wsL_law_r37 : List Cond := [Cond.selects RX9 ⟨"PloughDepot$Plough", "passes", "(I)I"⟩ yX6_passes, Cond.methodLink RL 106 yX12_asks, Cond.instanceMethod yX12_asks, Cond.selects RX12 yX12_asks yX12_asks, Cond.code yX12_asks cX12_asks 5 (some .int), Cond.methodLink RX12 230 yX12_speed, Cond.instanceMethod yX12_speed, Cond.selects RX12 yX12_speed yX12_speed, Cond.code yX12_speed cX12_speed 2 (some .int), Cond.methodLink RX12 206 yX12_kindOf, Cond.instanceMethod yX12_kindOf, Cond.selects RX12 yX12_kindOf yX12_kindOf, Cond.code yX12_kindOf cX12_kindOf 2 (some .int), Cond.methodLink RX12 209 yX12_first, Cond.instanceMethod yX12_first, Cond.selects RX12 yX12_first yX12_first, Cond.code yX12_first cX12_first 2 (some .int), Cond.methodLink RX12 212 yX12_speedOf, Cond.static yX12_speedOf, Cond.code yX12_speedOf cX12_speedOf 1 (some .int), Cond.methodLink RX12 215 yX12_second, Cond.instanceMethod yX12_second, Cond.selects RX12 yX12_second yX12_second, Cond.code yX12_second cX12_second 2 (some .int)]
def wsL_law_r38 : List Cond := [Cond.methodLink RX12 227 yX12_reach, Cond.instanceMethod yX12_reach, Cond.selects RX12 yX12_reach yX12_reach, Cond.code yX12_reach cX12_reach 2 (some .int), Cond.methodLink RX12 218 yX12_reachOf, Cond.static yX12_reachOf, Cond.code yX12_reachOf cX12_reachOf 1 (some .int), Cond.methodLink RX12 233 yX12_takes, Cond.instanceMethod yX12_takes, Cond.selects RX12 yX12_takes yX12_takes, Cond.code yX12_takes cX12_takes 5 (some .int), Cond.fieldLink RX12 221 "PloughDepotModel" "trace" "I", Cond.methodLink RX12 224 yX12_takesOf, Cond.instanceMethod yX12_takesOf, Cond.selects RX12 yX12_takesOf yX12_takesOf, Cond.code yX12_takesOf cX12_takesOf 5 (some .int), Cond.methodLink RX12 236 yX12_passes, Cond.instanceMethod yX12_passes, Cond.selects RX12 yX12_passes yX12_passes, Cond.code yX12_passes cX12_passes 5 (some .int), Cond.methodLink RL 107 yX11_salt, Cond.instanceMethod yX11_salt, Cond.selects RX11 yX11_salt yX11_salt, Cond.code yX11_salt cX11_salt 3 (some .int)]
def wsL_law_r39 : List Cond := [Cond.classLink RX11 240 "PloughDepot$Salter", Cond.methodLink RL 110 yX12_salt, Cond.instanceMethod yX12_salt, Cond.selects RX12 yX12_salt yX12_salt, Cond.code yX12_salt cX12_salt 3 (some .int), Cond.methodLink RL 111 yX11_odd, Cond.instanceMethod yX11_odd, Cond.selects RX11 yX11_odd yX11_odd, Cond.code yX11_odd cX11_odd 2 (some .int), Cond.methodLink RX11 242 yX4_list, Cond.instanceMethod yX4_list, Cond.selects RX4 yX4_list yX4_list, Cond.code yX4_list cX4_list 4 (some .int), Cond.methodLink RX4 54 yX4_oddBits, Cond.instanceMethod yX4_oddBits, Cond.selects RX4 yX4_oddBits yX4_oddBits, Cond.code yX4_oddBits cX4_oddBits 4 (some .long), Cond.fieldLink RX4 58 "PloughDepot$Books" "streets" "LPloughDepot$Table;", Cond.fieldLink RX4 64 "PloughDepot$Table" "size" "I", Cond.methodLink RX4 69 yX1_sidesDue, Cond.instanceMethod yX1_sidesDue, Cond.selects RX1 yX1_sidesDue yX1_sidesDue, Cond.code yX1_sidesDue cX1_sidesDue 2 (some .int), Cond.methodLink RX4 73 yX8_get]
def wsL_law_r40 : List Cond := [Cond.methodLink RX11 245 yX4_oddAt, Cond.instanceMethod yX4_oddAt, Cond.selects RX4 yX4_oddAt yX4_oddAt, Cond.code yX4_oddAt cX4_oddAt 2 (some .int), Cond.methodLink RL 114 yX12_odd, Cond.instanceMethod yX12_odd, Cond.selects RX12 yX12_odd yX12_odd, Cond.code yX12_odd cX12_odd 2 (some .int), Cond.fieldLink RX12 242 "PloughDepotModel" "odds" "I", Cond.methodLink RX12 245 yX12_beginTimes, Cond.instanceMethod yX12_beginTimes, Cond.selects RX12 yX12_beginTimes yX12_beginTimes, Cond.code yX12_beginTimes cX12_beginTimes 2 none, Cond.methodLink RX12 239 yX12_must, Cond.instanceMethod yX12_must, Cond.selects RX12 yX12_must yX12_must, Cond.code yX12_must cX12_must 2 (some .boolean), Cond.methodLink RX12 248 yX12_findOdd, Cond.instanceMethod yX12_findOdd, Cond.selects RX12 yX12_findOdd yX12_findOdd, Cond.code yX12_findOdd cX12_findOdd 5 none, Cond.methodLink RL 115 yX11_least, Cond.instanceMethod yX11_least, Cond.selects RX11 yX11_least yX11_least]
def wsL_law_r41 : List Cond := [Cond.code yX11_least cX11_least 4 (some .int), Cond.methodLink RX11 248 yX1_hasOneWay, Cond.instanceMethod yX1_hasOneWay, Cond.selects RX1 yX1_hasOneWay yX1_hasOneWay, Cond.code yX1_hasOneWay cX1_hasOneWay 2 (some .boolean), Cond.methodLink RX11 252 yX4_oddBits, Cond.methodLink RX11 256 yX4_fillTable, Cond.instanceMethod yX4_fillTable, Cond.selects RX4 yX4_fillTable yX4_fillTable, Cond.code yX4_fillTable cX4_fillTable 3 none, Cond.constant RX4 77 (1000000000), Cond.methodLink RX4 78 yX10_between, Cond.methodLink RX4 83 yJ6_bitCount_0f7a4, Cond.static yJ6_bitCount_0f7a4, Cond.initialized RJ6, Cond.code yJ6_bitCount_0f7a4 cJ6_bitCount_0f7a4 1 (some .int), Cond.constant RJ6 265 (1431655765), Cond.constant RJ6 266 (858993459), Cond.constant RJ6 267 (252645135), Cond.methodLink RX4 88 yX4_leastByPartner, Cond.instanceMethod yX4_leastByPartner, Cond.selects RX4 yX4_leastByPartner yX4_leastByPartner, Cond.code yX4_leastByPartner cX4_leastByPartner 6 (some .int), Cond.methodLink RX4 95 Lib.Math.min.name]
def wsL_law_r42 : List Cond := [Cond.methodLink RX11 259 yX4_leastOf, Cond.instanceMethod yX4_leastOf, Cond.selects RX4 yX4_leastOf yX4_leastOf, Cond.code yX4_leastOf cX4_leastOf 2 (some .int), Cond.methodLink RL 118 yX12_least, Cond.instanceMethod yX12_least, Cond.selects RX12 yX12_least yX12_least, Cond.code yX12_least cX12_least 2 (some .int), Cond.methodLink RX12 260 yX12_isOneWay, Cond.instanceMethod yX12_isOneWay, Cond.selects RX12 yX12_isOneWay yX12_isOneWay, Cond.code yX12_isOneWay cX12_isOneWay 3 (some .boolean), Cond.methodLink RX12 264 yX12_findLeast, Cond.instanceMethod yX12_findLeast, Cond.selects RX12 yX12_findLeast yX12_findLeast, Cond.code yX12_findLeast cX12_findLeast 3 none, Cond.methodLink RX12 251 yX12_findLeastOf, Cond.instanceMethod yX12_findLeastOf, Cond.selects RX12 yX12_findLeastOf yX12_findLeastOf, Cond.code yX12_findLeastOf cX12_findLeastOf 5 none, Cond.methodLink RX12 254 yX12_lowest, Cond.static yX12_lowest, Cond.code yX12_lowest cX12_lowest 2 (some .int), Cond.methodLink RX12 257 yX12_between]
def wsL_law_r43 : List Cond := [Cond.instanceMethod yX12_between, Cond.selects RX12 yX12_between yX12_between, Cond.code yX12_between cX12_between 3 (some .int), Cond.methodLink RL 119 yX11_round, Cond.instanceMethod yX11_round, Cond.selects RX11 yX11_round yX11_round, Cond.code yX11_round cX11_round 3 (some .int), Cond.fieldLink RX11 274 "PloughDepot$Books" "drives" "LPloughDepot$Table;", Cond.methodLink RX11 262 yX5_planOneWays, Cond.instanceMethod yX5_planOneWays, Cond.selects RX5 yX5_planOneWays yX5_planOneWays, Cond.code yX5_planOneWays cX5_planOneWays 6 (some .int), Cond.methodLink RX5 109 yX5_begin, Cond.instanceMethod yX5_begin, Cond.selects RX5 yX5_begin yX5_begin, Cond.code yX5_begin cX5_begin 3 none, Cond.fieldLink RX5 62 "PloughDepot$Table" "size" "I", Cond.fieldLink RX5 86 "PloughDepot$Books" "streets" "LPloughDepot$Table;", Cond.methodLink RX5 88 Lib.Math.min.name, Cond.methodLink RX5 80 yJ7_fill_53178, Cond.methodLink RX5 94 yX8_get, Cond.methodLink RX5 97 yX1_sidesDue, Cond.methodLink RX5 113 yX5_lookAtLeft, Cond.instanceMethod yX5_lookAtLeft]
def wsL_law_r44 : List Cond := [Cond.selects RX5 yX5_lookAtLeft yX5_lookAtLeft, Cond.code yX5_lookAtLeft cX5_lookAtLeft 6 (some .long), Cond.methodLink RX5 147 yJ7_fill_d0a16, Cond.methodLink RX5 128 yX10_measureEach, Cond.methodLink RX5 190 yX5_nearestStart, Cond.instanceMethod yX5_nearestStart, Cond.selects RX5 yX5_nearestStart yX5_nearestStart, Cond.code yX5_nearestStart cX5_nearestStart 5 (some .int), Cond.constant RX5 158 (1000000000), Cond.methodLink RX5 159 yX10_between, Cond.methodLink RX5 193 yX5_driveTo, Cond.instanceMethod yX5_driveTo, Cond.selects RX5 yX5_driveTo yX5_driveTo, Cond.code yX5_driveTo cX5_driveTo 5 (some .int), Cond.methodLink RX5 177 yX10_nextStreet, Cond.methodLink RX5 186 yX5_addDrive, Cond.instanceMethod yX5_addDrive, Cond.selects RX5 yX5_addDrive yX5_addDrive, Cond.code yX5_addDrive cX5_addDrive 5 (some .int), Cond.methodLink RX5 101 yX8_add, Cond.methodLink RX5 105 yX8_put, Cond.methodLink RX11 265 yX5_planBothWays, Cond.instanceMethod yX5_planBothWays, Cond.selects RX5 yX5_planBothWays yX5_planBothWays]
def wsL_law_r45 : List Cond := [Cond.code yX5_planBothWays cX5_planBothWays 5 (some .int), Cond.constantLong RX5 121 (-1), Cond.methodLink RX5 117 yX5_reachedFrom, Cond.instanceMethod yX5_reachedFrom, Cond.selects RX5 yX5_reachedFrom yX5_reachedFrom, Cond.code yX5_reachedFrom cX5_reachedFrom 8 (some .long), Cond.methodLink RX5 123 yX4_oddBits, Cond.methodLink RX5 134 yX5_joinAll, Cond.instanceMethod yX5_joinAll, Cond.selects RX5 yX5_joinAll yX5_joinAll, Cond.code yX5_joinAll cX5_joinAll 6 (some .boolean), Cond.methodLink RX5 154 yX5_join, Cond.instanceMethod yX5_join, Cond.selects RX5 yX5_join yX5_join, Cond.code yX5_join cX5_join 10 (some .boolean), Cond.methodLink RX5 162 yX5_addWay, Cond.instanceMethod yX5_addWay, Cond.selects RX5 yX5_addWay yX5_addWay, Cond.code yX5_addWay cX5_addWay 7 none, Cond.methodLink RX5 180 yX1_otherEnd, Cond.methodLink RX5 138 yX4_pairUp, Cond.instanceMethod yX4_pairUp, Cond.selects RX4 yX4_pairUp yX4_pairUp, Cond.code yX4_pairUp cX4_pairUp 1 none]
def wsL_law_r46 : List Cond := [Cond.methodLink RX4 100 yX4_list, Cond.methodLink RX4 104 yX4_fillTable, Cond.methodLink RX4 107 yX4_pairExactly, Cond.instanceMethod yX4_pairExactly, Cond.selects RX4 yX4_pairExactly yX4_pairExactly, Cond.code yX4_pairExactly cX4_pairExactly 4 none, Cond.methodLink RX4 116 yX4_firstPartner, Cond.instanceMethod yX4_firstPartner, Cond.selects RX4 yX4_firstPartner yX4_firstPartner, Cond.code yX4_firstPartner cX4_firstPartner 5 (some .int), Cond.methodLink RX4 119 yX4_addPair, Cond.instanceMethod yX4_addPair, Cond.selects RX4 yX4_addPair yX4_addPair, Cond.code yX4_addPair cX4_addPair 3 none, Cond.methodLink RX4 110 yX4_pairInOrder, Cond.instanceMethod yX4_pairInOrder, Cond.selects RX4 yX4_pairInOrder yX4_pairInOrder, Cond.code yX4_pairInOrder cX4_pairInOrder 2 none, Cond.methodLink RX4 113 yX4_exchangeAll, Cond.instanceMethod yX4_exchangeAll, Cond.selects RX4 yX4_exchangeAll yX4_exchangeAll, Cond.code yX4_exchangeAll cX4_exchangeAll 1 none, Cond.methodLink RX4 123 yX4_exchangeFirst, Cond.instanceMethod yX4_exchangeFirst]
def wsL_law_r47 : List Cond := [Cond.selects RX4 yX4_exchangeFirst yX4_exchangeFirst, Cond.code yX4_exchangeFirst cX4_exchangeFirst 3 (some .boolean), Cond.methodLink RX4 127 yX4_exchange, Cond.instanceMethod yX4_exchange, Cond.selects RX4 yX4_exchange yX4_exchange, Cond.code yX4_exchange cX4_exchange 8 (some .boolean), Cond.methodLink RX4 131 yX4_stand, Cond.instanceMethod yX4_stand, Cond.selects RX4 yX4_stand yX4_stand, Cond.code yX4_stand cX4_stand 4 none, Cond.methodLink RX4 135 Lib.Math.max.name, Cond.methodLink RX5 141 yX5_addPairs, Cond.instanceMethod yX5_addPairs, Cond.selects RX5 yX5_addPairs yX5_addPairs, Cond.code yX5_addPairs cX5_addPairs 4 none, Cond.fieldLink RX5 165 "PloughDepot$Pairing" "pairs" "I", Cond.fieldLink RX5 168 "PloughDepot$Pairing" "exchanges" "I", Cond.fieldLink RX5 171 "PloughDepot$Pairing" "ones" "[I", Cond.fieldLink RX5 174 "PloughDepot$Pairing" "others" "[I", Cond.methodLink RX5 144 yX5_driveAll, Cond.instanceMethod yX5_driveAll, Cond.selects RX5 yX5_driveAll yX5_driveAll, Cond.code yX5_driveAll cX5_driveAll 4 none, Cond.methodLink RX5 183 yX5_leave]
def wsL_law_r48 : List Cond := [Cond.instanceMethod yX5_leave, Cond.selects RX5 yX5_leave yX5_leave, Cond.code yX5_leave cX5_leave 4 (some .int), Cond.methodLink RX11 268 yX5_handTo, Cond.instanceMethod yX5_handTo, Cond.selects RX5 yX5_handTo yX5_handTo, Cond.code yX5_handTo cX5_handTo 2 none, Cond.fieldLink RX5 65 "PloughDepot$Books" "drives" "LPloughDepot$Table;", Cond.fieldLink RX5 72 "PloughDepot$Books" "facts" "[I", Cond.methodLink RX5 73 arraycopyName, Cond.fieldLink RX5 79 "PloughDepot$Books" "partners" "[I", Cond.methodLink RX5 68 yX8_become, Cond.methodLink RX11 271 yX1_dropPart, Cond.methodLink RL 123 yX12_round, Cond.instanceMethod yX12_round, Cond.selects RX12 yX12_round yX12_round, Cond.code yX12_round cX12_round 4 (some .int), Cond.fieldLink RX12 267 "PloughDepotModel" "joins" "I", Cond.fieldLink RX12 291 "PloughDepotModel" "exchanges" "I", Cond.fieldLink RX12 285 "PloughDepotModel" "pairs" "I", Cond.fieldLink RX12 297 "PloughDepotModel" "drives" "I", Cond.methodLink RX12 322 yX12_roundByNearest, Cond.instanceMethod yX12_roundByNearest, Cond.selects RX12 yX12_roundByNearest yX12_roundByNearest]
def wsL_law_r49 : List Cond := [Cond.code yX12_roundByNearest cX12_roundByNearest 9 (some .int), Cond.methodLink RX12 319 yX12_drivesEmpty, Cond.instanceMethod yX12_drivesEmpty, Cond.selects RX12 yX12_drivesEmpty yX12_drivesEmpty, Cond.code yX12_drivesEmpty cX12_drivesEmpty 5 (some .int), Cond.methodLink RX12 303 yX12_drive, Cond.instanceMethod yX12_drive, Cond.selects RX12 yX12_drive yX12_drive, Cond.code yX12_drive cX12_drive 4 none, Cond.methodLink RX12 326 yX12_roundByPairs, Cond.instanceMethod yX12_roundByPairs, Cond.selects RX12 yX12_roundByPairs yX12_roundByPairs, Cond.code yX12_roundByPairs cX12_roundByPairs 3 (some .int), Cond.methodLink RX12 307 yX12_joinsAll, Cond.instanceMethod yX12_joinsAll, Cond.selects RX12 yX12_joinsAll yX12_joinsAll, Cond.code yX12_joinsAll cX12_joinsAll 8 (some .boolean), Cond.methodLink RX12 270 yX12_follows, Cond.instanceMethod yX12_follows, Cond.selects RX12 yX12_follows yX12_follows, Cond.code yX12_follows cX12_follows 7 none, Cond.methodLink RX12 274 yX12_hasMore, Cond.instanceMethod yX12_hasMore, Cond.selects RX12 yX12_hasMore yX12_hasMore]
def wsL_law_r50 : List Cond := [Cond.code yX12_hasMore cX12_hasMore 4 (some .boolean), Cond.methodLink RX12 278 yX12_isApart, Cond.instanceMethod yX12_isApart, Cond.selects RX12 yX12_isApart yX12_isApart, Cond.code yX12_isApart cX12_isApart 4 (some .boolean), Cond.methodLink RX12 281 yX12_adds, Cond.instanceMethod yX12_adds, Cond.selects RX12 yX12_adds yX12_adds, Cond.code yX12_adds cX12_adds 6 none, Cond.methodLink RX12 310 yX12_pairsLeast, Cond.instanceMethod yX12_pairsLeast, Cond.selects RX12 yX12_pairsLeast yX12_pairsLeast, Cond.code yX12_pairsLeast cX12_pairsLeast 4 none, Cond.methodLink RX12 288 yX12_pairsUp, Cond.instanceMethod yX12_pairsUp, Cond.selects RX12 yX12_pairsUp yX12_pairsUp, Cond.code yX12_pairsUp cX12_pairsUp 4 none, Cond.methodLink RX12 313 yX12_pairsInOrder, Cond.instanceMethod yX12_pairsInOrder, Cond.selects RX12 yX12_pairsInOrder yX12_pairsInOrder, Cond.code yX12_pairsInOrder cX12_pairsInOrder 2 none, Cond.methodLink RX12 294 yX12_isExchanged, Cond.instanceMethod yX12_isExchanged, Cond.selects RX12 yX12_isExchanged yX12_isExchanged]
def wsL_law_r51 : List Cond := [Cond.code yX12_isExchanged cX12_isExchanged 8 (some .boolean), Cond.methodLink RX12 316 yX12_drivesAll, Cond.instanceMethod yX12_drivesAll, Cond.selects RX12 yX12_drivesAll yX12_drivesAll, Cond.code yX12_drivesAll cX12_drivesAll 3 none, Cond.methodLink RX12 300 yX12_nextStreet, Cond.instanceMethod yX12_nextStreet, Cond.selects RX12 yX12_nextStreet yX12_nextStreet, Cond.code yX12_nextStreet cX12_nextStreet 5 (some .int), Cond.methodLink RL 124 yX11_at, Cond.instanceMethod yX11_at, Cond.selects RX11 yX11_at yX11_at, Cond.code yX11_at cX11_at 3 (some .int), Cond.methodLink RL 127 yX12_at, Cond.instanceMethod yX12_at, Cond.selects RX12 yX12_at yX12_at, Cond.code yX12_at cX12_at 3 (some .int), Cond.methodLink RX12 332 yX12_driveAt, Cond.instanceMethod yX12_driveAt, Cond.selects RX12 yX12_driveAt yX12_driveAt, Cond.code yX12_driveAt cX12_driveAt 3 (some .int), Cond.methodLink RX12 329 yX12_to, Cond.instanceMethod yX12_to, Cond.selects RX12 yX12_to yX12_to]
def wsL_law_r52 : List Cond := [Cond.code yX12_to cX12_to 3 (some .int), Cond.methodLink RL 128 yX11_length, Cond.instanceMethod yX11_length, Cond.selects RX11 yX11_length yX11_length, Cond.code yX11_length cX11_length 2 (some .int), Cond.fieldLink RX11 277 "PloughDepot$Books" "facts" "[I", Cond.methodLink RL 131 yX12_length, Cond.instanceMethod yX12_length, Cond.selects RX12 yX12_length yX12_length, Cond.code yX12_length cX12_length 5 (some .int), Cond.methodLink RL 132 yX11_partner, Cond.instanceMethod yX11_partner, Cond.selects RX11 yX11_partner yX11_partner, Cond.code yX11_partner cX11_partner 2 (some .int), Cond.fieldLink RX11 280 "PloughDepot$Books" "partners" "[I", Cond.methodLink RL 135 yX12_partner, Cond.instanceMethod yX12_partner, Cond.selects RX12 yX12_partner yX12_partner, Cond.code yX12_partner cX12_partner 2 (some .int), Cond.methodLink RL 136 yX11_split, Cond.instanceMethod yX11_split, Cond.selects RX11 yX11_split yX11_split, Cond.code yX11_split cX11_split 3 (some .int), Cond.methodLink RX11 283 yX11_takeDrives]
def wsL_law_r53 : List Cond := [Cond.instanceMethod yX11_takeDrives, Cond.selects RX11 yX11_takeDrives yX11_takeDrives, Cond.code yX11_takeDrives cX11_takeDrives 9 (some .int), Cond.methodLink RL 139 yX12_split, Cond.instanceMethod yX12_split, Cond.selects RX12 yX12_split yX12_split, Cond.code yX12_split cX12_split 5 (some .int), Cond.methodLink RX12 335 yX12_minutes, Cond.instanceMethod yX12_minutes, Cond.selects RX12 yX12_minutes yX12_minutes, Cond.code yX12_minutes cX12_minutes 5 (some .int), Cond.methodLink RL 140 yX11_part, Cond.instanceMethod yX11_part, Cond.selects RX11 yX11_part yX11_part, Cond.code yX11_part cX11_part 3 (some .int), Cond.methodLink RL 143 yX12_part, Cond.instanceMethod yX12_part, Cond.selects RX12 yX12_part yX12_part, Cond.code yX12_part cX12_part 3 (some .int), Cond.methodLink RX12 338 yX12_partAt, Cond.instanceMethod yX12_partAt, Cond.selects RX12 yX12_partAt yX12_partAt, Cond.code yX12_partAt cX12_partAt 4 (some .int), Cond.methodLink RL 144 yX11_go]
def wsL_law_r54 : List Cond := [Cond.instanceMethod yX11_go, Cond.selects RX11 yX11_go yX11_go, Cond.code yX11_go cX11_go 4 (some .int), Cond.fieldLink RX11 292 "PloughDepot$Log" "looks" "I", Cond.methodLink RX11 286 yX1_hasDriveLeft, Cond.instanceMethod yX1_hasDriveLeft, Cond.selects RX1 yX1_hasDriveLeft yX1_hasDriveLeft, Cond.code yX1_hasDriveLeft cX1_hasDriveLeft 2 (some .boolean), Cond.methodLink RX11 289 yX1_isNextShut, Cond.instanceMethod yX1_isNextShut, Cond.selects RX1 yX1_isNextShut yX1_isNextShut, Cond.code yX1_isNextShut cX1_isNextShut 2 (some .boolean), Cond.methodLink RX1 130 yX1_nextDrive, Cond.instanceMethod yX1_nextDrive, Cond.selects RX1 yX1_nextDrive yX1_nextDrive, Cond.code yX1_nextDrive cX1_nextDrive 2 (some .int), Cond.methodLink RX11 295 yX11_driveNext, Cond.instanceMethod yX11_driveNext, Cond.selects RX11 yX11_driveNext yX11_driveNext, Cond.code yX11_driveNext cX11_driveNext 8 none, Cond.methodLink RX11 365 Lib.Math.max.name, Cond.methodLink RX11 362 yX1_nextDrive, Cond.methodLink RX11 368 yX1_clearSide, Cond.instanceMethod yX1_clearSide]
def wsL_law_r55 : List Cond := [Cond.selects RX1 yX1_clearSide yX1_clearSide, Cond.code yX1_clearSide cX1_clearSide 3 none, Cond.methodLink RX1 83 yX8_raise, Cond.instanceMethod yX8_raise, Cond.selects RX8 yX8_raise yX8_raise, Cond.code yX8_raise cX8_raise 4 none, Cond.methodLink RX8 20 yX8_get, Cond.methodLink RX8 24 yX8_put, Cond.methodLink RX11 371 yX8_raise, Cond.methodLink RL 147 yX12_go, Cond.instanceMethod yX12_go, Cond.selects RX12 yX12_go yX12_go, Cond.code yX12_go cX12_go 6 (some .int), Cond.fieldLink RX12 341 "PloughDepotModel" "looks" "I", Cond.methodLink RX12 344 yX12_isShutAhead, Cond.instanceMethod yX12_isShutAhead, Cond.selects RX12 yX12_isShutAhead yX12_isShutAhead, Cond.code yX12_isShutAhead cX12_isShutAhead 3 (some .boolean), Cond.methodLink RX12 347 yX12_goesOn, Cond.instanceMethod yX12_goesOn, Cond.selects RX12 yX12_goesOn yX12_goesOn, Cond.code yX12_goesOn cX12_goesOn 7 none, Cond.methodLink RL 148 yX11_looks, Cond.instanceMethod yX11_looks]
def wsL_law_r56 : List Cond := [Cond.selects RX11 yX11_looks yX11_looks, Cond.code yX11_looks cX11_looks 1 (some .int), Cond.methodLink RL 151 yX12_looks, Cond.instanceMethod yX12_looks, Cond.selects RX12 yX12_looks yX12_looks, Cond.code yX12_looks cX12_looks 1 (some .int), Cond.methodLink RL 152 yX11_text, Cond.instanceMethod yX11_text, Cond.selects RX11 yX11_text yX11_text, Cond.code yX11_text cX11_text 3 (some .int), Cond.methodLink RX11 298 yX11_write, Cond.instanceMethod yX11_write, Cond.selects RX11 yX11_write yX11_write, Cond.code yX11_write cX11_write 5 (some .boolean), Cond.methodLink RX11 374 yX1_whoEndsAt, Cond.instanceMethod yX1_whoEndsAt, Cond.selects RX1 yX1_whoEndsAt yX1_whoEndsAt, Cond.code yX1_whoEndsAt cX1_whoEndsAt 4 (some .int), Cond.methodLink RX11 377 yX11_put, Cond.instanceMethod yX11_put, Cond.selects RX11 yX11_put yX11_put, Cond.code yX11_put cX11_put 3 none, Cond.methodLink RX11 380 arraycopyName, Cond.methodLink RL 155 yX12_text]
def wsL_law_r57 : List Cond := [Cond.instanceMethod yX12_text, Cond.selects RX12 yX12_text yX12_text, Cond.code yX12_text cX12_text 6 (some .int), Cond.fieldLink RX12 350 "PloughDepotModel" "signs" "I", Cond.methodLink RX12 353 yX12_endOf, Cond.instanceMethod yX12_endOf, Cond.selects RX12 yX12_endOf yX12_endOf, Cond.code yX12_endOf cX12_endOf 5 (some .int), Cond.methodLink RX12 356 yX12_writes_, Cond.instanceMethod yX12_writes_, Cond.selects RX12 yX12_writes_ yX12_writes_, Cond.code yX12_writes_ cX12_writes_ 2 none, Cond.methodLink RL 156 yX11_sign, Cond.instanceMethod yX11_sign, Cond.selects RX11 yX11_sign yX11_sign, Cond.code yX11_sign cX11_sign 2 (some .int), Cond.methodLink RL 159 yX12_sign, Cond.instanceMethod yX12_sign, Cond.selects RX12 yX12_sign yX12_sign, Cond.code yX12_sign cX12_sign 2 (some .int), Cond.methodLink RL 160 yX11_digest, Cond.instanceMethod yX11_digest, Cond.selects RX11 yX11_digest yX11_digest, Cond.code yX11_digest cX11_digest 5 (some .int)]
def wsL_law_r58 : List Cond := [Cond.methodLink RX11 301 yX8_digestOf, Cond.instanceMethod yX8_digestOf, Cond.selects RX8 yX8_digestOf yX8_digestOf, Cond.code yX8_digestOf cX8_digestOf 5 (some .int), Cond.methodLink RL 163 yX12_digest, Cond.instanceMethod yX12_digest, Cond.selects RX12 yX12_digest yX12_digest, Cond.code yX12_digest cX12_digest 4 (some .int), Cond.methodLink RL 164 yX11_undo, Cond.instanceMethod yX11_undo, Cond.selects RX11 yX11_undo yX11_undo, Cond.code yX11_undo cX11_undo 1 (some .int), Cond.methodLink RL 167 yX12_undo, Cond.instanceMethod yX12_undo, Cond.selects RX12 yX12_undo yX12_undo, Cond.code yX12_undo cX12_undo 2 (some .int), Cond.methodLink RL 168 yX11_findings, Cond.instanceMethod yX11_findings, Cond.selects RX11 yX11_findings yX11_findings, Cond.code yX11_findings cX11_findings 2 (some .int), Cond.fieldLink RX11 309 "PloughDepot$Log" "findings" "[I", Cond.methodLink RL 171 yX12_findings, Cond.instanceMethod yX12_findings, Cond.selects RX12 yX12_findings yX12_findings]
def wsL_law_r59 : List Cond := [Cond.code yX12_findings cX12_findings 2 (some .int), Cond.methodLink RL 172 yX11_status, Cond.instanceMethod yX11_status, Cond.selects RX11 yX11_status yX11_status, Cond.code yX11_status cX11_status 1 (some .int), Cond.methodLink RL 175 yX12_status, Cond.instanceMethod yX12_status, Cond.selects RX12 yX12_status yX12_status, Cond.code yX12_status cX12_status 1 (some .int), Cond.methodLink RL 176 yX11_trace, Cond.instanceMethod yX11_trace, Cond.selects RX11 yX11_trace yX11_trace, Cond.code yX11_trace cX11_trace 1 (some .int), Cond.fieldLink RX11 315 "PloughDepot$Log" "trace" "I", Cond.methodLink RL 179 yX12_trace, Cond.instanceMethod yX12_trace, Cond.selects RX12 yX12_trace yX12_trace, Cond.code yX12_trace cX12_trace 1 (some .int), Cond.methodLink RL 180 yX11_count, Cond.instanceMethod yX11_count, Cond.selects RX11 yX11_count yX11_count, Cond.code yX11_count cX11_count 2 (some .int), Cond.methodLink RL 183 yX12_count, Cond.instanceMethod yX12_count]
def wsL_law_r60 : List Cond := [Cond.selects RX12 yX12_count yX12_count, Cond.code yX12_count cX12_count 2 (some .int)]
def wsL_law : List Cond := (wsL_law_r1 ++ (wsL_law_r2 ++ (wsL_law_r3 ++ (wsL_law_r4 ++ (wsL_law_r5 ++ (wsL_law_r6 ++ (wsL_law_r7 ++ (wsL_law_r8 ++ (wsL_law_r9 ++ (wsL_law_r10 ++ (wsL_law_r11 ++ (wsL_law_r12 ++ (wsL_law_r13 ++ (wsL_law_r14 ++ (wsL_law_r15 ++ (wsL_law_r16 ++ (wsL_law_r17 ++ (wsL_law_r18 ++ (wsL_law_r19 ++ (wsL_law_r20 ++ (wsL_law_r21 ++ (wsL_law_r22 ++ (wsL_law_r23 ++ (wsL_law_r24 ++ (wsL_law_r25 ++ (wsL_law_r26 ++ (wsL_law_r27 ++ (wsL_law_r28 ++ (wsL_law_r29 ++ (wsL_law_r30 ++ (wsL_law_r31 ++ (wsL_law_r32 ++ (wsL_law_r33 ++ (wsL_law_r34 ++ (wsL_law_r35 ++ (wsL_law_r36 ++ (wsL_law_r37 ++ (wsL_law_r38 ++ (wsL_law_r39 ++ (wsL_law_r40 ++ (wsL_law_r41 ++ (wsL_law_r42 ++ (wsL_law_r43 ++ (wsL_law_r44 ++ (wsL_law_r45 ++ (wsL_law_r46 ++ (wsL_law_r47 ++ (wsL_law_r48 ++ (wsL_law_r49 ++ (wsL_law_r50 ++ (wsL_law_r51 ++ (wsL_law_r52 ++ (wsL_law_r53 ++ (wsL_law_r54 ++ (wsL_law_r55 ++ (wsL_law_r56 ++ (wsL_law_r57 ++ (wsL_law_r58 ++ (wsL_law_r59 ++ wsL_law_r60))))))))))))))))))))))))))))))))))))))))))))))))))))))))))) ++ wsX110 ++ wsX120 ++ wsX20 ++ wsX10 ++ wsX100 ++ wsX40 ++ wsX50 ++ wsX60 ++ wsX80 ++ wsX00 ++ wsX30 ++ wsX70 ++ wsX90 ++ ([] : List Cond)
theorem inlX0 : ∀ w ∈ wsX00, w ∈ wsL_law := fun _ h => List.mem_append_left _ (List.mem_append_left _ (List.mem_append_left _ (List.mem_append_left _ (List.mem_append_right _ h))))
theorem inlX1 : ∀ w ∈ wsX10, w ∈ wsL_law := fun _ h => List.mem_append_left _ (List.mem_append_left _ (List.mem_append_left _ (List.mem_append_left _ (List.mem_append_left _ (List.mem_append_left _ (List.mem_append_left _ (List.mem_append_left _ (List.mem_append_left _ (List.mem_append_left _ (List.mem_append_right _ h))))))))))
theorem inlX2 : ∀ w ∈ wsX20, w ∈ wsL_law := fun _ h => List.mem_append_left _ (List.mem_append_left _ (List.mem_append_left _ (List.mem_append_left _ (List.mem_append_left _ (List.mem_append_left _ (List.mem_append_left _ (List.mem_append_left _ (List.mem_append_left _ (List.mem_append_left _ (List.mem_append_left _ (List.mem_append_right _ h)))))))))))
theorem inlX3 : ∀ w ∈ wsX30, w ∈ wsL_law := fun _ h => List.mem_append_left _ (List.mem_append_left _ (List.mem_append_left _ (List.mem_append_right _ h)))
theorem inlX4 : ∀ w ∈ wsX40, w ∈ wsL_law := fun _ h => List.mem_append_left _ (List.mem_append_left _ (List.mem_append_left _ (List.mem_append_left _ (List.mem_append_left _ (List.mem_append_left _ (List.mem_append_left _ (List.mem_append_left _ (List.mem_append_right _ h))))))))
theorem inlX5 : ∀ w ∈ wsX50, w ∈ wsL_law := fun _ h => List.mem_append_left _ (List.mem_append_left _ (List.mem_append_left _ (List.mem_append_left _ (List.mem_append_left _ (List.mem_append_left _ (List.mem_append_left _ (List.mem_append_right _ h)))))))
theorem inlX6 : ∀ w ∈ wsX60, w ∈ wsL_law := fun _ h => List.mem_append_left _ (List.mem_append_left _ (List.mem_append_left _ (List.mem_append_left _ (List.mem_append_left _ (List.mem_append_left _ (List.mem_append_right _ h))))))
theorem inlX7 : ∀ w ∈ wsX70, w ∈ wsL_law := fun _ h => List.mem_append_left _ (List.mem_append_left _ (List.mem_append_right _ h))
theorem inlX8 : ∀ w ∈ wsX80, w ∈ wsL_law := fun _ h => List.mem_append_left _ (List.mem_append_left _ (List.mem_append_left _ (List.mem_append_left _ (List.mem_append_left _ (List.mem_append_right _ h)))))
theorem inlX9 : ∀ w ∈ wsX90, w ∈ wsL_law := fun _ h => List.mem_append_left _ (List.mem_append_right _ h)
theorem inlX10 : ∀ w ∈ wsX100, w ∈ wsL_law := fun _ h => List.mem_append_left _ (List.mem_append_left _ (List.mem_append_left _ (List.mem_append_left _ (List.mem_append_left _ (List.mem_append_left _ (List.mem_append_left _ (List.mem_append_left _ (List.mem_append_left _ (List.mem_append_right _ h)))))))))
theorem inlX11 : ∀ w ∈ wsX110, w ∈ wsL_law := fun _ h => List.mem_append_left _ (List.mem_append_left _ (List.mem_append_left _ (List.mem_append_left _ (List.mem_append_left _ (List.mem_append_left _ (List.mem_append_left _ (List.mem_append_left _ (List.mem_append_left _ (List.mem_append_left _ (List.mem_append_left _ (List.mem_append_left _ (List.mem_append_left _ (List.mem_append_right _ h)))))))))))))
theorem inlX12 : ∀ w ∈ wsX120, w ∈ wsL_law := fun _ h => List.mem_append_left _ (List.mem_append_left _ (List.mem_append_left _ (List.mem_append_left _ (List.mem_append_left _ (List.mem_append_left _ (List.mem_append_left _ (List.mem_append_left _ (List.mem_append_left _ (List.mem_append_left _ (List.mem_append_left _ (List.mem_append_left _ (List.mem_append_right _ h))))))))))))
abbrev vwCl : List vw_C := [(RX0, TX0, 3), (RX1, TX1, 8), (RX2, TX2, 4), (RX3, TX3, 5), (RX4, TX4, 12), (RX5, TX5, 13), (RX6, TX6, 3), (RX7, TX7, 3), (RX8, TX8, 2), (RX9, TX9, 3), (RX10, TX10, 6), (RX11, TX11, 14), (RX12, TX12, 32)]
