theorem fa_lt (a b : Int32) : a < b ↔ a.toInt < b.toInt := Int32.lt_iff_toInt_lt
theorem fa_le (a b : Int32) : a ≤ b ↔ a.toInt ≤ b.toInt := Int32.le_iff_toInt_le
theorem fa_eq (a b : Int32) : a = b ↔ a.toInt = b.toInt := Int32.toInt_inj.symm
theorem va_P_nil {D : va_G} {cl : List vw_C} {H : Heap} : va_P D cl [] H := fun k q h => by simp at h
theorem va_D_nil {A : Nat → Prop} : va_D A [] := ⟨fun i j p q h => by simp at h, fun k q h => by simp at h⟩
set_option maxHeartbeats 4000000 in
set_option maxRecDepth 100000 in
theorem k_find_m2 (l : Launch) (G : GG) (sz : Nat) (lg : Nat) (lgv : List Value)  : Met l yX2_find (.code yX2_find cX2_find 2 none :: TT) ({ frames := 1, cells := 0, slots := 0, locals := 100 } : Room) (c0_P G [.ref lg, .int (-2)] sz ([(lg, .inr (2, lgv))])) (va_Qv (S := Unit) (fun (u : Unit) => True) (fun (u : Unit) (t : State) => c0_B G (va_A ([(lg, .inr (2, lgv))]) sz) ([(lg, .inr (2, lgv))]) t) (va_A ([(lg, .inr (2, lgv))]) sz)) 0 0 (va_A ([(lg, .inr (2, lgv))]) sz) := by
  refine Met.ofW (cc := cX2_find) (maxL := 2) (ret := none) (by decide) rfl ?_
  intro p e s m args below meth c s₁ B hml hv
  obtain ⟨rfl, hsz, hP, hK, hD0⟩ := hv
  have hx := B.exec
  have hb := B.bytes
  have hr := B.returns
  have hts := atoms_spec (ws := .code yX2_find cX2_find 2 none :: TT) B.pre
  have ht := fun (w : Cond) (h : w ∈ TT) => hts w (List.mem_cons_of_mem _ h)
  have hown : s.vm.findClass RX2 = some m.cls := findClass_of_methodNamed B.named
  have hlocks := B.notSynchronized
  subst hsz
  have hD := hD0.self (sz := s.heap.size)
  generalize hAe : va_A ([(lg, .inr (2, lgv))]) s.heap.size = A at hD ⊢
  have hA : ∀ q : Nat, s.heap.size ≤ q → A q := fun q h => by rw [← hAe]; exact Or.inr h
  have hS : va_S A s.heap s.heap [] := va_S.rf
  have hP : va_P G.1 vwCl ([(lg, .inr (2, lgv))]) s.heap := hP
  have hl := lv_entry ([.ref lg, .int (-2)]) (n := 2) (Nat.le_of_ble_eq_true rfl)
  rw [lg_entry_eq]
  generalize (lg_sl ([.ref lg, .int (-2)]) ++ List.replicate (2 - (lg_sl ([.ref lg, .int (-2)])).length) Slot.unset).toArray = ls at hl ⊢
  have hl : lv_has ls 2 [(0, .ref lg), (1, .int (-2))] := hl
  refine lv_iload_n hx hb dX2_find_0 rfl (lv_at hl 1 rfl) ?_
  refine lv_bipush (v := (-9)) hx hb dX2_find_1 (by decide) ?_
  refine lv_icmp_ne (tgt := 19) hx hb dX2_find_3 (by decide) (fun c_1 => ?_) (fun c_1 => ?_)
  · refine lv_iload_n hx hb dX2_find_19 rfl (lv_at hl 1 rfl) ?_
    refine lv_bipush (v := (-4)) hx hb dX2_find_20 (by decide) ?_
    refine lv_icmp_gt (tgt := 44) hx hb dX2_find_22 (by decide) (fun c_2 => ?_) (fun c_2 => ?_)
    · have hP9 := hP.sub (ws' := [(lg, .inr (2, lgv))]) [0] rfl
      have hD9 := hD.sub (ws' := [(lg, .inr (2, lgv))]) [0] (by decide) rfl
      exact W.vret hx hb hr (fun t ht hW => ⟨⟨(), rfl, trivial, ⟨by rw [ht]; exact hP9, hD9⟩⟩, hS.F ht⟩) hS.2.2 dX2_find_44
    · exact absurd c_2 (by decide)
  · exact absurd c_1 (by decide)

set_option maxHeartbeats 4000000 in
set_option maxRecDepth 100000 in
theorem k_refuse_m2 (l : Launch) (G : GG) (sz : Nat) (dp : Nat) (lg : Nat) (dv : List Value) (lfi : Value) (lst : Value) (ltr : Value) (llk : Value)  : Met l yX11_refuse (.code yX11_refuse cX11_refuse 2 (some .int) :: TT) ({ frames := 2, cells := 0, slots := 0, locals := 200 } : Room) (c0_P G [.ref dp, .int (-2)] sz ([(dp, .inr (11, .ref lg :: dv)), (lg, .inr (2, [lfi, lst, ltr, llk]))])) (va_Qi (S := Unit) (fun (r : Int32) (u : Unit) => r = (-2)) (fun (u : Unit) (t : State) => c0_B G (va_A ([(dp, .inr (11, .ref lg :: dv)), (lg, .inr (2, [lfi, lst, ltr, llk]))]) sz) ([(dp, .inr (11, .ref lg :: dv)), (lg, .inr (2, [lfi, .int (-2), ltr, llk]))]) t) (va_A ([(dp, .inr (11, .ref lg :: dv)), (lg, .inr (2, [lfi, lst, ltr, llk]))]) sz)) 0 0 (va_A ([(dp, .inr (11, .ref lg :: dv)), (lg, .inr (2, [lfi, lst, ltr, llk]))]) sz) := by
  refine Met.ofW (cc := cX11_refuse) (maxL := 2) (ret := (some .int)) (by decide) rfl ?_
  intro p e s m args below meth c s₁ B hml hv
  obtain ⟨rfl, hsz, hP, hK, hD0⟩ := hv
  have hx := B.exec
  have hb := B.bytes
  have hr := B.returns
  have hts := atoms_spec (ws := .code yX11_refuse cX11_refuse 2 (some .int) :: TT) B.pre
  have ht := fun (w : Cond) (h : w ∈ TT) => hts w (List.mem_cons_of_mem _ h)
  have hown : s.vm.findClass RX11 = some m.cls := findClass_of_methodNamed B.named
  have hlocks := B.notSynchronized
  subst hsz
  have hD := hD0.self (sz := s.heap.size)
  generalize hAe : va_A ([(dp, .inr (11, .ref lg :: dv)), (lg, .inr (2, [lfi, lst, ltr, llk]))]) s.heap.size = A at hD ⊢
  have hA : ∀ q : Nat, s.heap.size ≤ q → A q := fun q h => by rw [← hAe]; exact Or.inr h
  have hS : va_S A s.heap s.heap [] := va_S.rf
  have hP : va_P G.1 vwCl ([(dp, .inr (11, .ref lg :: dv)), (lg, .inr (2, [lfi, lst, ltr, llk]))]) s.heap := hP
  have hl := lv_entry ([.ref dp, .int (-2)]) (n := 2) (Nat.le_of_ble_eq_true rfl)
  rw [lg_entry_eq]
  generalize (lg_sl ([.ref dp, .int (-2)]) ++ List.replicate (2 - (lg_sl ([.ref dp, .int (-2)])).length) Slot.unset).toArray = ls at hl ⊢
  have hl : lv_has ls 2 [(0, .ref dp), (1, .int (-2))] := hl
  refine lv_aload_n hx hb dX11_refuse_0 rfl (lv_at hl 0 rfl) ?_
  refine va_get (D := G.1) (ci := 11) (v := .ref lg) (C := RX11) (T := TX11) (N := 14) hx hb ht inlX11 hown hK.1 hP 0 rfl rfl 0 (by decide) (ht (Cond.fieldLink RX11 10 "PloughDepot" "log" "LPloughDepot$Log;") mw_1_15) (fun _ h9 => h9) rfl dX11_refuse_1 ?_
  refine lv_iload_n hx hb dX11_refuse_4 rfl (lv_at hl 1 rfl) ?_
  refine va_put (D := G.1) (ci := 2) (v := .int (-2)) (ty := tyX2 1) (C := RX2) (T := TX2) (N := 4) hx hb ht inlX2 tyX2 tyX2_ok nmX2 hown hK.1 hP hD hS 1 rfl rfl 1 (by decide) (ht (Cond.fieldLink RX11 312 "PloughDepot$Log" "status" "I") mw_8_2) (fun _ h9 => h9) rfl (tyX2_ok 1 (by decide)) rfl rfl (Nat.le_of_ble_eq_true rfl) dX11_refuse_5 (fun H locs hP hD hS => ?_)
  have hP : va_P G.1 vwCl ([(dp, .inr (11, .ref lg :: dv)), (lg, .inr (2, [lfi, .int (-2), ltr, llk]))]) H := hP
  have hD : va_D A ([(dp, .inr (11, .ref lg :: dv)), (lg, .inr (2, [lfi, .int (-2), ltr, llk]))]) := hD
  refine lv_aload_n hx hb dX11_refuse_8 rfl (lv_at hl 0 rfl) ?_
  refine va_get (D := G.1) (ci := 11) (v := .ref lg) (C := RX11) (T := TX11) (N := 14) hx hb ht inlX11 hown hK.1 hP 0 rfl rfl 0 (by decide) (ht (Cond.fieldLink RX11 10 "PloughDepot" "log" "LPloughDepot$Log;") mw_1_15) (fun _ h9 => h9) rfl dX11_refuse_9 ?_
  refine lv_iload_n hx hb dX11_refuse_12 rfl (lv_at hl 1 rfl) ?_
  have hPc := hP.sub (ws' := [(lg, .inr (2, [lfi, .int (-2), ltr, llk]))]) [1] rfl
  have hDc := hD.sub (ws' := [(lg, .inr (2, [lfi, .int (-2), ltr, llk]))]) [1] (by decide) rfl
  have hFc := va_free (wc := [(lg, .inr (2, [lfi, .int (-2), ltr, llk]))]) hD hS hA [1] rfl
  refine va_callv (va_runV (As := [.int (-2)]) (rest := []) ⟨hx, hb, hml, hown, hts⟩ (k_find_m2 l G _ lg ([lfi, .int (-2), ltr, llk]) ) (cwV 1 hts (gd_V mw_8_3 mw_8_4 mw_8_5 mw_1_14 mw_8_6) rfl rfl rfl ⟨rfl, yk_X2_find⟩ ⟨Nat.le_of_ble_eq_true rfl, Nat.le_of_ble_eq_true rfl⟩) (c0_preV (q0 := 0) (ci := 2) (q := (RX2, TX2, 4)) hPc hK hDc rfl rfl) rfl rfl hl.1 rfl (lv_room (Nat.le_of_ble_eq_true rfl)) dX11_refuse_13 ⟨Nat.le_of_ble_eq_true rfl, Nat.le_of_ble_eq_true rfl⟩) hS (fun q _ h => hFc q h) hFc (fun u t H1 locs ht1 hvm hw hB hz1 hk1 hS => ?_)
  try dsimp only at hw hB
  obtain ⟨hP1, hD1⟩ := hB
  rw [ht1] at hP1
  obtain ⟨hP, hD⟩ := va_join (wr := [(dp, .inr (11, .ref lg :: dv))]) (w1 := [(lg, .inr (2, [lfi, .int (-2), ltr, llk]))]) hP hD [1] [0] rfl rfl (by decide) (by decide) hk1 hFc hP1 hD1
  generalize H1 = H at hP hS ⊢
  have hP : va_P G.1 vwCl ([(dp, .inr (11, .ref lg :: dv)), (lg, .inr (2, [lfi, .int (-2), ltr, llk]))]) H := hP
  have hD : va_D A ([(dp, .inr (11, .ref lg :: dv)), (lg, .inr (2, [lfi, .int (-2), ltr, llk]))]) := hD
  refine lv_iload_n hx hb dX11_refuse_16 rfl (lv_at hl 1 rfl) ?_
  have hP9 := hP.sub (ws' := [(dp, .inr (11, .ref lg :: dv)), (lg, .inr (2, [lfi, .int (-2), ltr, llk]))]) [0, 1] rfl
  have hD9 := hD.sub (ws' := [(dp, .inr (11, .ref lg :: dv)), (lg, .inr (2, [lfi, .int (-2), ltr, llk]))]) [0, 1] (by decide) rfl
  exact W.iret (v := (-2)) hx hb hr (fun t ht hW => ⟨⟨(-2), (), rfl, rfl, ⟨by rw [ht]; exact hP9, hD9⟩⟩, hS.F ht⟩) hS.2.2 dX11_refuse_17

set_option maxHeartbeats 4000000 in
set_option maxRecDepth 100000 in
theorem k_find_m8 (l : Launch) (G : GG) (sz : Nat) (lg : Nat) (lgv : List Value)  : Met l yX2_find (.code yX2_find cX2_find 2 none :: TT) ({ frames := 1, cells := 0, slots := 0, locals := 100 } : Room) (c0_P G [.ref lg, .int (-8)] sz ([(lg, .inr (2, lgv))])) (va_Qv (S := Unit) (fun (u : Unit) => True) (fun (u : Unit) (t : State) => c0_B G (va_A ([(lg, .inr (2, lgv))]) sz) ([(lg, .inr (2, lgv))]) t) (va_A ([(lg, .inr (2, lgv))]) sz)) 0 0 (va_A ([(lg, .inr (2, lgv))]) sz) := by
  refine Met.ofW (cc := cX2_find) (maxL := 2) (ret := none) (by decide) rfl ?_
  intro p e s m args below meth c s₁ B hml hv
  obtain ⟨rfl, hsz, hP, hK, hD0⟩ := hv
  have hx := B.exec
  have hb := B.bytes
  have hr := B.returns
  have hts := atoms_spec (ws := .code yX2_find cX2_find 2 none :: TT) B.pre
  have ht := fun (w : Cond) (h : w ∈ TT) => hts w (List.mem_cons_of_mem _ h)
  have hown : s.vm.findClass RX2 = some m.cls := findClass_of_methodNamed B.named
  have hlocks := B.notSynchronized
  subst hsz
  have hD := hD0.self (sz := s.heap.size)
  generalize hAe : va_A ([(lg, .inr (2, lgv))]) s.heap.size = A at hD ⊢
  have hA : ∀ q : Nat, s.heap.size ≤ q → A q := fun q h => by rw [← hAe]; exact Or.inr h
  have hS : va_S A s.heap s.heap [] := va_S.rf
  have hP : va_P G.1 vwCl ([(lg, .inr (2, lgv))]) s.heap := hP
  have hl := lv_entry ([.ref lg, .int (-8)]) (n := 2) (Nat.le_of_ble_eq_true rfl)
  rw [lg_entry_eq]
  generalize (lg_sl ([.ref lg, .int (-8)]) ++ List.replicate (2 - (lg_sl ([.ref lg, .int (-8)])).length) Slot.unset).toArray = ls at hl ⊢
  have hl : lv_has ls 2 [(0, .ref lg), (1, .int (-8))] := hl
  refine lv_iload_n hx hb dX2_find_0 rfl (lv_at hl 1 rfl) ?_
  refine lv_bipush (v := (-9)) hx hb dX2_find_1 (by decide) ?_
  refine lv_icmp_ne (tgt := 19) hx hb dX2_find_3 (by decide) (fun c_1 => ?_) (fun c_1 => ?_)
  · refine lv_iload_n hx hb dX2_find_19 rfl (lv_at hl 1 rfl) ?_
    refine lv_bipush (v := (-4)) hx hb dX2_find_20 (by decide) ?_
    refine lv_icmp_gt (tgt := 44) hx hb dX2_find_22 (by decide) (fun c_2 => ?_) (fun c_2 => ?_)
    · exact absurd c_2 (by decide)
    · refine lv_iload_n hx hb dX2_find_25 rfl (lv_at hl 1 rfl) ?_
      refine lv_bipush (v := (-7)) hx hb dX2_find_26 (by decide) ?_
      refine lv_icmp_lt (tgt := 44) hx hb dX2_find_28 (by decide) (fun c_3 => ?_) (fun c_3 => ?_)
      · have hP9 := hP.sub (ws' := [(lg, .inr (2, lgv))]) [0] rfl
        have hD9 := hD.sub (ws' := [(lg, .inr (2, lgv))]) [0] (by decide) rfl
        exact W.vret hx hb hr (fun t ht hW => ⟨⟨(), rfl, trivial, ⟨by rw [ht]; exact hP9, hD9⟩⟩, hS.F ht⟩) hS.2.2 dX2_find_44
      · exact absurd c_3 (by decide)
  · exact absurd c_1 (by decide)

set_option maxHeartbeats 4000000 in
set_option maxRecDepth 100000 in
theorem k_refuse_m8 (l : Launch) (G : GG) (sz : Nat) (dp : Nat) (lg : Nat) (dv : List Value) (lfi : Value) (lst : Value) (ltr : Value) (llk : Value)  : Met l yX11_refuse (.code yX11_refuse cX11_refuse 2 (some .int) :: TT) ({ frames := 2, cells := 0, slots := 0, locals := 200 } : Room) (c0_P G [.ref dp, .int (-8)] sz ([(dp, .inr (11, .ref lg :: dv)), (lg, .inr (2, [lfi, lst, ltr, llk]))])) (va_Qi (S := Unit) (fun (r : Int32) (u : Unit) => r = (-8)) (fun (u : Unit) (t : State) => c0_B G (va_A ([(dp, .inr (11, .ref lg :: dv)), (lg, .inr (2, [lfi, lst, ltr, llk]))]) sz) ([(dp, .inr (11, .ref lg :: dv)), (lg, .inr (2, [lfi, .int (-8), ltr, llk]))]) t) (va_A ([(dp, .inr (11, .ref lg :: dv)), (lg, .inr (2, [lfi, lst, ltr, llk]))]) sz)) 0 0 (va_A ([(dp, .inr (11, .ref lg :: dv)), (lg, .inr (2, [lfi, lst, ltr, llk]))]) sz) := by
  refine Met.ofW (cc := cX11_refuse) (maxL := 2) (ret := (some .int)) (by decide) rfl ?_
  intro p e s m args below meth c s₁ B hml hv
  obtain ⟨rfl, hsz, hP, hK, hD0⟩ := hv
  have hx := B.exec
  have hb := B.bytes
  have hr := B.returns
  have hts := atoms_spec (ws := .code yX11_refuse cX11_refuse 2 (some .int) :: TT) B.pre
  have ht := fun (w : Cond) (h : w ∈ TT) => hts w (List.mem_cons_of_mem _ h)
  have hown : s.vm.findClass RX11 = some m.cls := findClass_of_methodNamed B.named
  have hlocks := B.notSynchronized
  subst hsz
  have hD := hD0.self (sz := s.heap.size)
  generalize hAe : va_A ([(dp, .inr (11, .ref lg :: dv)), (lg, .inr (2, [lfi, lst, ltr, llk]))]) s.heap.size = A at hD ⊢
  have hA : ∀ q : Nat, s.heap.size ≤ q → A q := fun q h => by rw [← hAe]; exact Or.inr h
  have hS : va_S A s.heap s.heap [] := va_S.rf
  have hP : va_P G.1 vwCl ([(dp, .inr (11, .ref lg :: dv)), (lg, .inr (2, [lfi, lst, ltr, llk]))]) s.heap := hP
  have hl := lv_entry ([.ref dp, .int (-8)]) (n := 2) (Nat.le_of_ble_eq_true rfl)
  rw [lg_entry_eq]
  generalize (lg_sl ([.ref dp, .int (-8)]) ++ List.replicate (2 - (lg_sl ([.ref dp, .int (-8)])).length) Slot.unset).toArray = ls at hl ⊢
  have hl : lv_has ls 2 [(0, .ref dp), (1, .int (-8))] := hl
  refine lv_aload_n hx hb dX11_refuse_0 rfl (lv_at hl 0 rfl) ?_
  refine va_get (D := G.1) (ci := 11) (v := .ref lg) (C := RX11) (T := TX11) (N := 14) hx hb ht inlX11 hown hK.1 hP 0 rfl rfl 0 (by decide) (ht (Cond.fieldLink RX11 10 "PloughDepot" "log" "LPloughDepot$Log;") mw_1_15) (fun _ h9 => h9) rfl dX11_refuse_1 ?_
  refine lv_iload_n hx hb dX11_refuse_4 rfl (lv_at hl 1 rfl) ?_
  refine va_put (D := G.1) (ci := 2) (v := .int (-8)) (ty := tyX2 1) (C := RX2) (T := TX2) (N := 4) hx hb ht inlX2 tyX2 tyX2_ok nmX2 hown hK.1 hP hD hS 1 rfl rfl 1 (by decide) (ht (Cond.fieldLink RX11 312 "PloughDepot$Log" "status" "I") mw_8_2) (fun _ h9 => h9) rfl (tyX2_ok 1 (by decide)) rfl rfl (Nat.le_of_ble_eq_true rfl) dX11_refuse_5 (fun H locs hP hD hS => ?_)
  have hP : va_P G.1 vwCl ([(dp, .inr (11, .ref lg :: dv)), (lg, .inr (2, [lfi, .int (-8), ltr, llk]))]) H := hP
  have hD : va_D A ([(dp, .inr (11, .ref lg :: dv)), (lg, .inr (2, [lfi, .int (-8), ltr, llk]))]) := hD
  refine lv_aload_n hx hb dX11_refuse_8 rfl (lv_at hl 0 rfl) ?_
  refine va_get (D := G.1) (ci := 11) (v := .ref lg) (C := RX11) (T := TX11) (N := 14) hx hb ht inlX11 hown hK.1 hP 0 rfl rfl 0 (by decide) (ht (Cond.fieldLink RX11 10 "PloughDepot" "log" "LPloughDepot$Log;") mw_1_15) (fun _ h9 => h9) rfl dX11_refuse_9 ?_
  refine lv_iload_n hx hb dX11_refuse_12 rfl (lv_at hl 1 rfl) ?_
  have hPc := hP.sub (ws' := [(lg, .inr (2, [lfi, .int (-8), ltr, llk]))]) [1] rfl
  have hDc := hD.sub (ws' := [(lg, .inr (2, [lfi, .int (-8), ltr, llk]))]) [1] (by decide) rfl
  have hFc := va_free (wc := [(lg, .inr (2, [lfi, .int (-8), ltr, llk]))]) hD hS hA [1] rfl
  refine va_callv (va_runV (As := [.int (-8)]) (rest := []) ⟨hx, hb, hml, hown, hts⟩ (k_find_m8 l G _ lg ([lfi, .int (-8), ltr, llk]) ) (cwV 1 hts (gd_V mw_8_3 mw_8_4 mw_8_5 mw_1_14 mw_8_6) rfl rfl rfl ⟨rfl, yk_X2_find⟩ ⟨Nat.le_of_ble_eq_true rfl, Nat.le_of_ble_eq_true rfl⟩) (c0_preV (q0 := 0) (ci := 2) (q := (RX2, TX2, 4)) hPc hK hDc rfl rfl) rfl rfl hl.1 rfl (lv_room (Nat.le_of_ble_eq_true rfl)) dX11_refuse_13 ⟨Nat.le_of_ble_eq_true rfl, Nat.le_of_ble_eq_true rfl⟩) hS (fun q _ h => hFc q h) hFc (fun u t H1 locs ht1 hvm hw hB hz1 hk1 hS => ?_)
  try dsimp only at hw hB
  obtain ⟨hP1, hD1⟩ := hB
  rw [ht1] at hP1
  obtain ⟨hP, hD⟩ := va_join (wr := [(dp, .inr (11, .ref lg :: dv))]) (w1 := [(lg, .inr (2, [lfi, .int (-8), ltr, llk]))]) hP hD [1] [0] rfl rfl (by decide) (by decide) hk1 hFc hP1 hD1
  generalize H1 = H at hP hS ⊢
  have hP : va_P G.1 vwCl ([(dp, .inr (11, .ref lg :: dv)), (lg, .inr (2, [lfi, .int (-8), ltr, llk]))]) H := hP
  have hD : va_D A ([(dp, .inr (11, .ref lg :: dv)), (lg, .inr (2, [lfi, .int (-8), ltr, llk]))]) := hD
  refine lv_iload_n hx hb dX11_refuse_16 rfl (lv_at hl 1 rfl) ?_
  have hP9 := hP.sub (ws' := [(dp, .inr (11, .ref lg :: dv)), (lg, .inr (2, [lfi, .int (-8), ltr, llk]))]) [0, 1] rfl
  have hD9 := hD.sub (ws' := [(dp, .inr (11, .ref lg :: dv)), (lg, .inr (2, [lfi, .int (-8), ltr, llk]))]) [0, 1] (by decide) rfl
  exact W.iret (v := (-8)) hx hb hr (fun t ht hW => ⟨⟨(-8), (), rfl, rfl, ⟨by rw [ht]; exact hP9, hD9⟩⟩, hS.F ht⟩) hS.2.2 dX11_refuse_17

set_option maxHeartbeats 4000000 in
set_option maxRecDepth 100000 in
theorem k_answer (l : Launch) (G : GG) (sz : Nat) (dp : Nat) (av : Int32) (lg : Nat) (dv : List Value) (lfi : Value) (lst : Value) (ltr : Value) (llk : Value)  : Met l yX11_answer (.code yX11_answer cX11_answer 2 (some .int) :: TT) ({ frames := 1, cells := 0, slots := 0, locals := 100 } : Room) (c0_P G [.ref dp, .int av] sz ([(dp, .inr (11, .ref lg :: dv)), (lg, .inr (2, [lfi, lst, ltr, llk]))])) (va_Qi (S := Unit) (fun (r : Int32) (u : Unit) => r = av) (fun (u : Unit) (t : State) => c0_B G (va_A ([(dp, .inr (11, .ref lg :: dv)), (lg, .inr (2, [lfi, lst, ltr, llk]))]) sz) ([(dp, .inr (11, .ref lg :: dv)), (lg, .inr (2, [lfi, .int 0, ltr, llk]))]) t) (va_A ([(dp, .inr (11, .ref lg :: dv)), (lg, .inr (2, [lfi, lst, ltr, llk]))]) sz)) 0 0 (va_A ([(dp, .inr (11, .ref lg :: dv)), (lg, .inr (2, [lfi, lst, ltr, llk]))]) sz) := by
  refine Met.ofW (cc := cX11_answer) (maxL := 2) (ret := (some .int)) (by decide) rfl ?_
  intro p e s m args below meth c s₁ B hml hv
  obtain ⟨rfl, hsz, hP, hK, hD0⟩ := hv
  have hx := B.exec
  have hb := B.bytes
  have hr := B.returns
  have hts := atoms_spec (ws := .code yX11_answer cX11_answer 2 (some .int) :: TT) B.pre
  have ht := fun (w : Cond) (h : w ∈ TT) => hts w (List.mem_cons_of_mem _ h)
  have hown : s.vm.findClass RX11 = some m.cls := findClass_of_methodNamed B.named
  have hlocks := B.notSynchronized
  subst hsz
  have hD := hD0.self (sz := s.heap.size)
  generalize hAe : va_A ([(dp, .inr (11, .ref lg :: dv)), (lg, .inr (2, [lfi, lst, ltr, llk]))]) s.heap.size = A at hD ⊢
  have hA : ∀ q : Nat, s.heap.size ≤ q → A q := fun q h => by rw [← hAe]; exact Or.inr h
  have hS : va_S A s.heap s.heap [] := va_S.rf
  have hP : va_P G.1 vwCl ([(dp, .inr (11, .ref lg :: dv)), (lg, .inr (2, [lfi, lst, ltr, llk]))]) s.heap := hP
  have hl := lv_entry ([.ref dp, .int av]) (n := 2) (Nat.le_of_ble_eq_true rfl)
  rw [lg_entry_eq]
  generalize (lg_sl ([.ref dp, .int av]) ++ List.replicate (2 - (lg_sl ([.ref dp, .int av])).length) Slot.unset).toArray = ls at hl ⊢
  have hl : lv_has ls 2 [(0, .ref dp), (1, .int av)] := hl
  refine lv_aload_n hx hb dX11_answer_0 rfl (lv_at hl 0 rfl) ?_
  refine va_get (D := G.1) (ci := 11) (v := .ref lg) (C := RX11) (T := TX11) (N := 14) hx hb ht inlX11 hown hK.1 hP 0 rfl rfl 0 (by decide) (ht (Cond.fieldLink RX11 10 "PloughDepot" "log" "LPloughDepot$Log;") mw_1_15) (fun _ h9 => h9) rfl dX11_answer_1 ?_
  refine lv_iconst (v := 0) hx hb dX11_answer_4 (by decide) ?_
  refine va_put (D := G.1) (ci := 2) (v := .int 0) (ty := tyX2 1) (C := RX2) (T := TX2) (N := 4) hx hb ht inlX2 tyX2 tyX2_ok nmX2 hown hK.1 hP hD hS 1 rfl rfl 1 (by decide) (ht (Cond.fieldLink RX11 312 "PloughDepot$Log" "status" "I") mw_8_2) (fun _ h9 => h9) rfl (tyX2_ok 1 (by decide)) rfl rfl (Nat.le_of_ble_eq_true rfl) dX11_answer_5 (fun H locs hP hD hS => ?_)
  have hP : va_P G.1 vwCl ([(dp, .inr (11, .ref lg :: dv)), (lg, .inr (2, [lfi, .int 0, ltr, llk]))]) H := hP
  have hD : va_D A ([(dp, .inr (11, .ref lg :: dv)), (lg, .inr (2, [lfi, .int 0, ltr, llk]))]) := hD
  refine lv_iload_n hx hb dX11_answer_8 rfl (lv_at hl 1 rfl) ?_
  have hP9 := hP.sub (ws' := [(dp, .inr (11, .ref lg :: dv)), (lg, .inr (2, [lfi, .int 0, ltr, llk]))]) [0, 1] rfl
  have hD9 := hD.sub (ws' := [(dp, .inr (11, .ref lg :: dv)), (lg, .inr (2, [lfi, .int 0, ltr, llk]))]) [0, 1] (by decide) rfl
  exact W.iret (v := av) hx hb hr (fun t ht hW => ⟨⟨av, (), rfl, rfl, ⟨by rw [ht]; exact hP9, hD9⟩⟩, hS.F ht⟩) hS.2.2 dX11_answer_9

set_option maxHeartbeats 4000000 in
set_option maxRecDepth 100000 in
theorem k_has (l : Launch) (G : GG) (sz : Nat) (tb : Nat) (rw : Int32) (tc : Value)  : Met l yX8_has (.code yX8_has cX8_has 2 (some .boolean) :: TT) ({ frames := 1, cells := 0, slots := 0, locals := 100 } : Room) (c0_P G [.ref tb, .int rw] sz ([(tb, .inr (8, [tc, .int 0]))])) (va_Qi (S := Unit) (fun (r : Int32) (u : Unit) => r = 0) (fun (u : Unit) (t : State) => c0_B G (va_A ([(tb, .inr (8, [tc, .int 0]))]) sz) ([(tb, .inr (8, [tc, .int 0]))]) t) (va_A ([(tb, .inr (8, [tc, .int 0]))]) sz)) 0 0 (va_A ([(tb, .inr (8, [tc, .int 0]))]) sz) := by
  refine Met.ofW (cc := cX8_has) (maxL := 2) (ret := (some .boolean)) (by decide) rfl ?_
  intro p e s m args below meth c s₁ B hml hv
  obtain ⟨rfl, hsz, hP, hK, hD0⟩ := hv
  have hx := B.exec
  have hb := B.bytes
  have hr := B.returns
  have hts := atoms_spec (ws := .code yX8_has cX8_has 2 (some .boolean) :: TT) B.pre
  have ht := fun (w : Cond) (h : w ∈ TT) => hts w (List.mem_cons_of_mem _ h)
  have hown : s.vm.findClass RX8 = some m.cls := findClass_of_methodNamed B.named
  have hlocks := B.notSynchronized
  subst hsz
  have hD := hD0.self (sz := s.heap.size)
  generalize hAe : va_A ([(tb, .inr (8, [tc, .int 0]))]) s.heap.size = A at hD ⊢
  have hA : ∀ q : Nat, s.heap.size ≤ q → A q := fun q h => by rw [← hAe]; exact Or.inr h
  have hS : va_S A s.heap s.heap [] := va_S.rf
  have hP : va_P G.1 vwCl ([(tb, .inr (8, [tc, .int 0]))]) s.heap := hP
  have hl := lv_entry ([.ref tb, .int rw]) (n := 2) (Nat.le_of_ble_eq_true rfl)
  rw [lg_entry_eq]
  generalize (lg_sl ([.ref tb, .int rw]) ++ List.replicate (2 - (lg_sl ([.ref tb, .int rw])).length) Slot.unset).toArray = ls at hl ⊢
  have hl : lv_has ls 2 [(0, .ref tb), (1, .int rw)] := hl
  refine lv_iload_n hx hb dX8_has_0 rfl (lv_at hl 1 rfl) ?_
  refine lv_if_lt (tgt := 16) hx hb dX8_has_1 (by decide) (fun c_1 => ?_) (fun c_1 => ?_)
  · refine lv_iconst (v := 0) hx hb dX8_has_16 (by decide) ?_
    have hP9 := hP.sub (ws' := [(tb, .inr (8, [tc, .int 0]))]) [0] rfl
    have hD9 := hD.sub (ws' := [(tb, .inr (8, [tc, .int 0]))]) [0] (by decide) rfl
    exact W.zret (v := 0) hx hb hr rfl (fun t ht hW => ⟨⟨0, (), rfl, rfl, ⟨by rw [ht]; exact hP9, hD9⟩⟩, hS.F ht⟩) hS.2.2 dX8_has_17
  · refine lv_iload_n hx hb dX8_has_4 rfl (lv_at hl 1 rfl) ?_
    refine lv_aload_n hx hb dX8_has_5 rfl (lv_at hl 0 rfl) ?_
    refine va_get (D := G.1) (ci := 8) (v := .int 0) (C := RX8) (T := TX8) (N := 2) hx hb ht inlX8 hown hK.1 hP 0 rfl rfl 1 (by decide) (ht (Cond.fieldLink RX8 9 "PloughDepot$Table" "size" "I") mw_4_2) (fun _ h9 => h9) rfl dX8_has_6 ?_
    refine lv_icmp_ge (tgt := 16) hx hb dX8_has_9 (by decide) (fun c_2 => ?_) (fun c_2 => ?_)
    · refine lv_iconst (v := 0) hx hb dX8_has_16 (by decide) ?_
      have hP9 := hP.sub (ws' := [(tb, .inr (8, [tc, .int 0]))]) [0] rfl
      have hD9 := hD.sub (ws' := [(tb, .inr (8, [tc, .int 0]))]) [0] (by decide) rfl
      exact W.zret (v := 0) hx hb hr rfl (fun t ht hW => ⟨⟨0, (), rfl, rfl, ⟨by rw [ht]; exact hP9, hD9⟩⟩, hS.F ht⟩) hS.2.2 dX8_has_17
    · exfalso; simp only [fa_lt, fa_le, fa_eq] at c_1 c_2; have n0 : (0 : Int32).toInt = 0 := (by decide); omega

set_option maxHeartbeats 4000000 in
set_option maxRecDepth 100000 in
theorem k_hasCrossing (l : Launch) (G : GG) (sz : Nat) (nw : Nat) (cr : Int32) (nv : List Value)  : Met l yX1_hasCrossing (.code yX1_hasCrossing cX1_hasCrossing 2 (some .boolean) :: TT) ({ frames := 1, cells := 0, slots := 0, locals := 100 } : Room) (c0_P G [.ref nw, .int cr] sz ([(nw, .inr (1, .int 0 :: nv))])) (va_Qi (S := Unit) (fun (r : Int32) (u : Unit) => r = 0) (fun (u : Unit) (t : State) => c0_B G (va_A ([(nw, .inr (1, .int 0 :: nv))]) sz) ([(nw, .inr (1, .int 0 :: nv))]) t) (va_A ([(nw, .inr (1, .int 0 :: nv))]) sz)) 0 0 (va_A ([(nw, .inr (1, .int 0 :: nv))]) sz) := by
  refine Met.ofW (cc := cX1_hasCrossing) (maxL := 2) (ret := (some .boolean)) (by decide) rfl ?_
  intro p e s m args below meth c s₁ B hml hv
  obtain ⟨rfl, hsz, hP, hK, hD0⟩ := hv
  have hx := B.exec
  have hb := B.bytes
  have hr := B.returns
  have hts := atoms_spec (ws := .code yX1_hasCrossing cX1_hasCrossing 2 (some .boolean) :: TT) B.pre
  have ht := fun (w : Cond) (h : w ∈ TT) => hts w (List.mem_cons_of_mem _ h)
  have hown : s.vm.findClass RX1 = some m.cls := findClass_of_methodNamed B.named
  have hlocks := B.notSynchronized
  subst hsz
  have hD := hD0.self (sz := s.heap.size)
  generalize hAe : va_A ([(nw, .inr (1, .int 0 :: nv))]) s.heap.size = A at hD ⊢
  have hA : ∀ q : Nat, s.heap.size ≤ q → A q := fun q h => by rw [← hAe]; exact Or.inr h
  have hS : va_S A s.heap s.heap [] := va_S.rf
  have hP : va_P G.1 vwCl ([(nw, .inr (1, .int 0 :: nv))]) s.heap := hP
  have hl := lv_entry ([.ref nw, .int cr]) (n := 2) (Nat.le_of_ble_eq_true rfl)
  rw [lg_entry_eq]
  generalize (lg_sl ([.ref nw, .int cr]) ++ List.replicate (2 - (lg_sl ([.ref nw, .int cr])).length) Slot.unset).toArray = ls at hl ⊢
  have hl : lv_has ls 2 [(0, .ref nw), (1, .int cr)] := hl
  refine lv_iload_n hx hb dX1_hasCrossing_0 rfl (lv_at hl 1 rfl) ?_
  refine lv_if_lt (tgt := 16) hx hb dX1_hasCrossing_1 (by decide) (fun c_1 => ?_) (fun c_1 => ?_)
  · refine lv_iconst (v := 0) hx hb dX1_hasCrossing_16 (by decide) ?_
    have hP9 := hP.sub (ws' := [(nw, .inr (1, .int 0 :: nv))]) [0] rfl
    have hD9 := hD.sub (ws' := [(nw, .inr (1, .int 0 :: nv))]) [0] (by decide) rfl
    exact W.zret (v := 0) hx hb hr rfl (fun t ht hW => ⟨⟨0, (), rfl, rfl, ⟨by rw [ht]; exact hP9, hD9⟩⟩, hS.F ht⟩) hS.2.2 dX1_hasCrossing_17
  · refine lv_iload_n hx hb dX1_hasCrossing_4 rfl (lv_at hl 1 rfl) ?_
    refine lv_aload_n hx hb dX1_hasCrossing_5 rfl (lv_at hl 0 rfl) ?_
    refine va_get (D := G.1) (ci := 1) (v := .int 0) (C := RX1) (T := TX1) (N := 8) hx hb ht inlX1 hown hK.1 hP 0 rfl rfl 0 (by decide) (ht (Cond.fieldLink RX1 9 "PloughDepot$Books" "crossings" "I") mw_3_10) (fun _ h9 => h9) rfl dX1_hasCrossing_6 ?_
    refine lv_icmp_ge (tgt := 16) hx hb dX1_hasCrossing_9 (by decide) (fun c_2 => ?_) (fun c_2 => ?_)
    · refine lv_iconst (v := 0) hx hb dX1_hasCrossing_16 (by decide) ?_
      have hP9 := hP.sub (ws' := [(nw, .inr (1, .int 0 :: nv))]) [0] rfl
      have hD9 := hD.sub (ws' := [(nw, .inr (1, .int 0 :: nv))]) [0] (by decide) rfl
      exact W.zret (v := 0) hx hb hr rfl (fun t ht hW => ⟨⟨0, (), rfl, rfl, ⟨by rw [ht]; exact hP9, hD9⟩⟩, hS.F ht⟩) hS.2.2 dX1_hasCrossing_17
    · exfalso; simp only [fa_lt, fa_le, fa_eq] at c_1 c_2; have n0 : (0 : Int32).toInt = 0 := (by decide); omega

