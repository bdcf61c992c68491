set_option maxHeartbeats 4000000 in
set_option maxRecDepth 100000 in
theorem k_pinit_6 (l : Launch) (G : GG) (sz : Nat) (ob : Nat) (lg : Nat) (sp : Int32) (re : Int32)  : Met l yX6_init (.code yX6_init cX6_init 4 none :: TT) ({ frames := 1, cells := 0, slots := 0, locals := 100 } : Room) (c0_P G [.ref ob, .ref lg, .int sp, .int re] sz ([(ob, .inr (6, [.null, .int 0, .int 0]))])) (va_Qv (S := Unit) (fun (u : Unit) => True) (fun (u : Unit) (t : State) => c0_B G (va_A ([(ob, .inr (6, [.null, .int 0, .int 0]))]) sz) ([(ob, .inr (6, [.ref lg, .int sp, .int re]))]) t) (va_A ([(ob, .inr (6, [.null, .int 0, .int 0]))]) sz)) 0 0 (va_A ([(ob, .inr (6, [.null, .int 0, .int 0]))]) sz) := by
  refine Met.ofW (cc := cX6_init) (maxL := 4) (ret := none) (by decide) rfl ?_
  intro p e s m args below meth c s₁ B hml hv
  obtain ⟨rfl, hsz, hP, hK, hD0⟩ := hv
  have hx := B.exec
  have hb := B.bytes
  have hr := B.returns
  have hts := atoms_spec (ws := .code yX6_init cX6_init 4 none :: TT) B.pre
  have ht := fun (w : Cond) (h : w ∈ TT) => hts w (List.mem_cons_of_mem _ h)
  have hown : s.vm.findClass RX6 = some m.cls := findClass_of_methodNamed B.named
  have hlocks := B.notSynchronized
  have hin : meth.name = "<init>" := (name_of_methodNamed B.named B.method).1
  subst hsz
  have hD := hD0.self (sz := s.heap.size)
  generalize hAe : va_A ([(ob, .inr (6, [.null, .int 0, .int 0]))]) s.heap.size = A at hD ⊢
  have hA : ∀ q : Nat, s.heap.size ≤ q → A q := fun q h => by rw [← hAe]; exact Or.inr h
  have hS : va_S A s.heap s.heap [] := va_S.rf
  have hP : va_P G.1 vwCl ([(ob, .inr (6, [.null, .int 0, .int 0]))]) s.heap := hP
  have hl := lv_entry ([.ref ob, .ref lg, .int sp, .int re]) (n := 4) (Nat.le_of_ble_eq_true rfl)
  rw [lg_entry_eq]
  generalize (lg_sl ([.ref ob, .ref lg, .int sp, .int re]) ++ List.replicate (4 - (lg_sl ([.ref ob, .ref lg, .int sp, .int re])).length) Slot.unset).toArray = ls at hl ⊢
  have hl : lv_has ls 4 [(0, .ref ob), (1, .ref lg), (2, .int sp), (3, .int re)] := hl
  refine lv_aload_n hx hb dX6_init_0 rfl (lv_at hl 0 rfl) ?_
  refine W.objInit hx hb hown (ht (Cond.methodLink RX6 3 objectInit) mw_6_11) (ht (Cond.instanceMethod objectInit) mw_1_10) (ht (Cond.code objectInit ⟨#[0xb1]⟩ 1 none) mw_1_11) rfl (by rw [hml]; exact hl.1) rfl dX6_init_1 (Nat.le_of_ble_eq_true rfl) (Nat.le_of_ble_eq_true rfl) ?_
  refine W.eq (g2 := F0 m 4 ls []) rfl ?_
  refine lv_aload_n hx hb dX6_init_4 rfl (lv_at hl 0 rfl) ?_
  refine lv_aload_n hx hb dX6_init_5 rfl (lv_at hl 1 rfl) ?_
  refine va_putF (D := G.1) (ci := 6) (v := .ref lg) (ty := tyX6 0) (C := RX6) (T := TX6) (N := 3) hx hb ht inlX6 tyX6 tyX6_ok nmX6 hown hK.1 hP hD hS 0 rfl rfl 0 (by decide) (ht (Cond.fieldLink RX6 9 "PloughDepot$Plough" "log" "LPloughDepot$Log;") mw_6_12) (fun _ h9 => h9) rfl hin rfl (tyX6_ok 0 (by decide)) rfl rfl (Nat.le_of_ble_eq_true rfl) dX6_init_6 (fun H locs hP hD hS => ?_)
  have hP : va_P G.1 vwCl ([(ob, .inr (6, [.ref lg, .int 0, .int 0]))]) H := hP
  have hD : va_D A ([(ob, .inr (6, [.ref lg, .int 0, .int 0]))]) := hD
  refine lv_aload_n hx hb dX6_init_9 rfl (lv_at hl 0 rfl) ?_
  refine lv_iload_n hx hb dX6_init_10 rfl (lv_at hl 2 rfl) ?_
  refine va_putF (D := G.1) (ci := 6) (v := .int sp) (ty := tyX6 1) (C := RX6) (T := TX6) (N := 3) hx hb ht inlX6 tyX6 tyX6_ok nmX6 hown hK.1 hP hD hS 0 rfl rfl 1 (by decide) (ht (Cond.fieldLink RX6 15 "PloughDepot$Plough" "speed" "I") mw_6_13) (fun _ h9 => h9) rfl hin rfl (tyX6_ok 1 (by decide)) rfl rfl (Nat.le_of_ble_eq_true rfl) dX6_init_11 (fun H locs hP hD hS => ?_)
  have hP : va_P G.1 vwCl ([(ob, .inr (6, [.ref lg, .int sp, .int 0]))]) H := hP
  have hD : va_D A ([(ob, .inr (6, [.ref lg, .int sp, .int 0]))]) := hD
  refine lv_aload_n hx hb dX6_init_14 rfl (lv_at hl 0 rfl) ?_
  refine lv_iload_n hx hb dX6_init_15 rfl (lv_at hl 3 rfl) ?_
  refine va_putF (D := G.1) (ci := 6) (v := .int re) (ty := tyX6 2) (C := RX6) (T := TX6) (N := 3) hx hb ht inlX6 tyX6 tyX6_ok nmX6 hown hK.1 hP hD hS 0 rfl rfl 2 (by decide) (ht (Cond.fieldLink RX6 19 "PloughDepot$Plough" "reach" "I") mw_6_14) (fun _ h9 => h9) rfl hin rfl (tyX6_ok 2 (by decide)) rfl rfl (Nat.le_of_ble_eq_true rfl) dX6_init_16 (fun H locs hP hD hS => ?_)
  have hP : va_P G.1 vwCl ([(ob, .inr (6, [.ref lg, .int sp, .int re]))]) H := hP
  have hD : va_D A ([(ob, .inr (6, [.ref lg, .int sp, .int re]))]) := hD
  have hP9 := hP.sub (ws' := [(ob, .inr (6, [.ref lg, .int sp, .int re]))]) [0] rfl
  have hD9 := hD.sub (ws' := [(ob, .inr (6, [.ref lg, .int sp, .int re]))]) [0] (by decide) rfl
  exact W.vret hx hb hr (fun t ht hW => ⟨⟨(), rfl, trivial, ⟨by rw [ht]; exact hP9, hD9⟩⟩, hS.F ht⟩) hS.2.2 dX6_init_19

set_option maxHeartbeats 4000000 in
set_option maxRecDepth 100000 in
theorem k_bodyOf_0 (l : Launch) (G : GG) (sz : Nat) (dp : Nat) (lg : Nat) (dv : List Value)  : Met l yX11_bodyOf (.code yX11_bodyOf cX11_bodyOf 2 (some (.object "PloughDepot$Plough")) :: TT) ({ frames := 2, cells := 1, slots := 3, locals := 200 } : Room) (c0_P G [.ref dp, .int 0] sz ([(dp, .inr (11, .ref lg :: dv))])) (va_Qr (S := Nat) (fun (u : Nat) => True) (fun (u : Nat) (a9 : Nat) (t : State) => a9 = u ∧ c0_B G (va_A ([(dp, .inr (11, .ref lg :: dv))]) sz) ([(dp, .inr (11, .ref lg :: dv)), (u, .inr (6, [.ref lg, .int 50, .int 200]))]) t) (va_A ([(dp, .inr (11, .ref lg :: dv))]) sz)) 1 3 (va_A ([(dp, .inr (11, .ref lg :: dv))]) sz) := by
  refine Met.ofW (cc := cX11_bodyOf) (maxL := 2) (ret := (some (.object "PloughDepot$Plough"))) (by decide) rfl ?_
  intro p e s m args below meth c s₁ B hml hv
  obtain ⟨rfl, hsz, hP, hK, hD0⟩ := hv
  have hx := B.exec
  have hb := B.bytes
  have hr := B.returns
  have hts := atoms_spec (ws := .code yX11_bodyOf cX11_bodyOf 2 (some (.object "PloughDepot$Plough")) :: TT) B.pre
  have ht := fun (w : Cond) (h : w ∈ TT) => hts w (List.mem_cons_of_mem _ h)
  have hown : s.vm.findClass RX11 = some m.cls := findClass_of_methodNamed B.named
  have hlocks := B.notSynchronized
  subst hsz
  have hD := hD0.self (sz := s.heap.size)
  generalize hAe : va_A ([(dp, .inr (11, .ref lg :: dv))]) s.heap.size = A at hD ⊢
  have hA : ∀ q : Nat, s.heap.size ≤ q → A q := fun q h => by rw [← hAe]; exact Or.inr h
  have hS : va_S A s.heap s.heap [] := va_S.rf
  have hP : va_P G.1 vwCl ([(dp, .inr (11, .ref lg :: dv))]) s.heap := hP
  have hl := lv_entry ([.ref dp, .int 0]) (n := 2) (Nat.le_of_ble_eq_true rfl)
  rw [lg_entry_eq]
  generalize (lg_sl ([.ref dp, .int 0]) ++ List.replicate (2 - (lg_sl ([.ref dp, .int 0])).length) Slot.unset).toArray = ls at hl ⊢
  have hl : lv_has ls 2 [(0, .ref dp), (1, .int 0)] := hl
  refine lv_iload_n hx hb dX11_bodyOf_0 rfl (lv_at hl 1 rfl) ?_
  refine lv_tableOut (tgt := 79) hx hb dX11_bodyOf_1 (by decide) (by decide) ?_
  refine va_new (D := G.1) (ci := 6) (fs := [.null, .int 0, .int 0]) (C := RX6) (T := TX6) (N := 3) hx hb ht inlX6 tyX6 tyX6_ok hown (ht (Cond.classLink RX11 53 RX6) mw_2_9) (ht (Cond.instantiable RX6 3) mw_2_21) (ht (Cond.initialized RX6) mw_2_22) hK.1 hP hD hS hA rfl (fun j hj => by rcases (show j = 0 ∨ j = 1 ∨ j = 2 by omega) with rfl | rfl | rfl <;> rfl) (Nat.le_of_ble_eq_true rfl) (Nat.le_of_ble_eq_true rfl) dX11_bodyOf_79 (fun q_1 H hP hD hS => ?_)
  have hP : va_P G.1 vwCl ([(dp, .inr (11, .ref lg :: dv)), (q_1, .inr (6, [.null, .int 0, .int 0]))]) H := hP
  have hD : va_D A ([(dp, .inr (11, .ref lg :: dv)), (q_1, .inr (6, [.null, .int 0, .int 0]))]) := hD
  refine W.widen (k := 1) (n := 3) (by omega) (by omega) ?_
  refine lv_dup hx hb dX11_bodyOf_82 rfl ?_
  refine lv_aload_n hx hb dX11_bodyOf_83 rfl (lv_at hl 0 rfl) ?_
  refine va_get (D := G.1) (ci := 11) (v := .ref lg) (C := RX11) (T := TX11) (N := 14) hx hb ht inlX11 hown hK.1 hP 0 rfl rfl 0 (by decide) (ht (Cond.fieldLink RX11 10 "PloughDepot" "log" "LPloughDepot$Log;") mw_1_15) (fun _ h9 => h9) rfl dX11_bodyOf_84 ?_
  refine lv_bipush (v := 50) hx hb dX11_bodyOf_87 (by decide) ?_
  refine lv_sipush (v := 200) hx hb dX11_bodyOf_89 (by decide) ?_
  have hPc := hP.sub (ws' := [(q_1, .inr (6, [.null, .int 0, .int 0]))]) [1] rfl
  have hDc := hD.sub (ws' := [(q_1, .inr (6, [.null, .int 0, .int 0]))]) [1] (by decide) rfl
  have hFc := va_free (wc := [(q_1, .inr (6, [.null, .int 0, .int 0]))]) hD hS hA [1] rfl
  refine va_callv (va_runI (As := [.ref lg, .int 50, .int 200]) (rest := [.ref q_1]) ⟨hx, hb, hml, hown, hts⟩ (k_pinit_6 l G _ q_1 lg 50 200 ) (cwI 3 hts (gd_T mw_6_10) rfl rfl rfl (ht (Cond.initialized RX6) mw_2_22) (ht (Cond.methodLink RX11 85 yX6_init) mw_6_8) (ht (Cond.instanceMethod yX6_init) mw_6_9) rfl yk_X6_init ⟨Nat.le_of_ble_eq_true rfl, Nat.le_of_ble_eq_true rfl⟩) (c0_pre hPc hK hDc) rfl rfl hl.1 rfl (lv_room (Nat.le_of_ble_eq_true rfl)) dX11_bodyOf_92 ⟨Nat.le_of_ble_eq_true rfl, Nat.le_of_ble_eq_true rfl⟩) hS (fun q _ h => hFc q h) hFc (fun u t H1 locs ht1 hvm hw hB hz1 hk1 hS => ?_)
  try dsimp only at hw hB
  obtain ⟨hP1, hD1⟩ := hB
  rw [ht1] at hP1
  obtain ⟨hP, hD⟩ := va_join (wr := [(dp, .inr (11, .ref lg :: dv))]) (w1 := [(q_1, .inr (6, [.ref lg, .int 50, .int 200]))]) hP hD [1] [0] rfl rfl (by decide) (by decide) hk1 hFc hP1 hD1
  generalize H1 = H at hP hS ⊢
  have hP : va_P G.1 vwCl ([(dp, .inr (11, .ref lg :: dv)), (q_1, .inr (6, [.ref lg, .int 50, .int 200]))]) H := hP
  have hD : va_D A ([(dp, .inr (11, .ref lg :: dv)), (q_1, .inr (6, [.ref lg, .int 50, .int 200]))]) := hD
  have hP9 := hP.sub (ws' := [(dp, .inr (11, .ref lg :: dv)), (q_1, .inr (6, [.ref lg, .int 50, .int 200]))]) [0, 1] rfl
  have hD9 := hD.sub (ws' := [(dp, .inr (11, .ref lg :: dv)), (q_1, .inr (6, [.ref lg, .int 50, .int 200]))]) [0, 1] (by decide) rfl
  exact W.aret (v := .ref q_1) hx hb hr (Or.inl ⟨_, rfl⟩) (Or.inr ⟨_, rfl⟩) (fun t ht hW => ⟨⟨q_1, q_1, rfl, trivial, ⟨rfl, ⟨by rw [ht]; exact hP9, hD9⟩⟩⟩, hS.F ht⟩) hS.2.2 dX11_bodyOf_95

set_option maxHeartbeats 4000000 in
set_option maxRecDepth 100000 in
theorem k_pinit_0 (l : Launch) (G : GG) (sz : Nat) (ob : Nat) (lg : Nat) (sp : Int32) (re : Int32)  : Met l yX6_init (.code yX6_init cX6_init 4 none :: TT) ({ frames := 1, cells := 0, slots := 0, locals := 100 } : Room) (c0_P G [.ref ob, .ref lg, .int sp, .int re] sz ([(ob, .inr (0, [.null, .int 0, .int 0]))])) (va_Qv (S := Unit) (fun (u : Unit) => True) (fun (u : Unit) (t : State) => c0_B G (va_A ([(ob, .inr (0, [.null, .int 0, .int 0]))]) sz) ([(ob, .inr (0, [.ref lg, .int sp, .int re]))]) t) (va_A ([(ob, .inr (0, [.null, .int 0, .int 0]))]) sz)) 0 0 (va_A ([(ob, .inr (0, [.null, .int 0, .int 0]))]) sz) := by
  refine Met.ofW (cc := cX6_init) (maxL := 4) (ret := none) (by decide) rfl ?_
  intro p e s m args below meth c s₁ B hml hv
  obtain ⟨rfl, hsz, hP, hK, hD0⟩ := hv
  have hx := B.exec
  have hb := B.bytes
  have hr := B.returns
  have hts := atoms_spec (ws := .code yX6_init cX6_init 4 none :: TT) B.pre
  have ht := fun (w : Cond) (h : w ∈ TT) => hts w (List.mem_cons_of_mem _ h)
  have hown : s.vm.findClass RX6 = some m.cls := findClass_of_methodNamed B.named
  have hlocks := B.notSynchronized
  have hin : meth.name = "<init>" := (name_of_methodNamed B.named B.method).1
  subst hsz
  have hD := hD0.self (sz := s.heap.size)
  generalize hAe : va_A ([(ob, .inr (0, [.null, .int 0, .int 0]))]) s.heap.size = A at hD ⊢
  have hA : ∀ q : Nat, s.heap.size ≤ q → A q := fun q h => by rw [← hAe]; exact Or.inr h
  have hS : va_S A s.heap s.heap [] := va_S.rf
  have hP : va_P G.1 vwCl ([(ob, .inr (0, [.null, .int 0, .int 0]))]) s.heap := hP
  have hl := lv_entry ([.ref ob, .ref lg, .int sp, .int re]) (n := 4) (Nat.le_of_ble_eq_true rfl)
  rw [lg_entry_eq]
  generalize (lg_sl ([.ref ob, .ref lg, .int sp, .int re]) ++ List.replicate (4 - (lg_sl ([.ref ob, .ref lg, .int sp, .int re])).length) Slot.unset).toArray = ls at hl ⊢
  have hl : lv_has ls 4 [(0, .ref ob), (1, .ref lg), (2, .int sp), (3, .int re)] := hl
  refine lv_aload_n hx hb dX6_init_0 rfl (lv_at hl 0 rfl) ?_
  refine W.objInit hx hb hown (ht (Cond.methodLink RX6 3 objectInit) mw_6_11) (ht (Cond.instanceMethod objectInit) mw_1_10) (ht (Cond.code objectInit ⟨#[0xb1]⟩ 1 none) mw_1_11) rfl (by rw [hml]; exact hl.1) rfl dX6_init_1 (Nat.le_of_ble_eq_true rfl) (Nat.le_of_ble_eq_true rfl) ?_
  refine W.eq (g2 := F0 m 4 ls []) rfl ?_
  refine lv_aload_n hx hb dX6_init_4 rfl (lv_at hl 0 rfl) ?_
  refine lv_aload_n hx hb dX6_init_5 rfl (lv_at hl 1 rfl) ?_
  refine va_putF (D := G.1) (ci := 0) (v := .ref lg) (ty := tyX0 0) (C := RX0) (T := TX0) (N := 3) hx hb ht inlX0 tyX0 tyX0_ok nmX0 hown hK.1 hP hD hS 0 rfl rfl 0 (by decide) (ht (Cond.fieldLink RX6 9 "PloughDepot$Plough" "log" "LPloughDepot$Log;") mw_6_12) (fun _ h9 => h9) rfl hin rfl (tyX0_ok 0 (by decide)) rfl rfl (Nat.le_of_ble_eq_true rfl) dX6_init_6 (fun H locs hP hD hS => ?_)
  have hP : va_P G.1 vwCl ([(ob, .inr (0, [.ref lg, .int 0, .int 0]))]) H := hP
  have hD : va_D A ([(ob, .inr (0, [.ref lg, .int 0, .int 0]))]) := hD
  refine lv_aload_n hx hb dX6_init_9 rfl (lv_at hl 0 rfl) ?_
  refine lv_iload_n hx hb dX6_init_10 rfl (lv_at hl 2 rfl) ?_
  refine va_putF (D := G.1) (ci := 0) (v := .int sp) (ty := tyX0 1) (C := RX0) (T := TX0) (N := 3) hx hb ht inlX0 tyX0 tyX0_ok nmX0 hown hK.1 hP hD hS 0 rfl rfl 1 (by decide) (ht (Cond.fieldLink RX6 15 "PloughDepot$Plough" "speed" "I") mw_6_13) (fun _ h9 => h9) rfl hin rfl (tyX0_ok 1 (by decide)) rfl rfl (Nat.le_of_ble_eq_true rfl) dX6_init_11 (fun H locs hP hD hS => ?_)
  have hP : va_P G.1 vwCl ([(ob, .inr (0, [.ref lg, .int sp, .int 0]))]) H := hP
  have hD : va_D A ([(ob, .inr (0, [.ref lg, .int sp, .int 0]))]) := hD
  refine lv_aload_n hx hb dX6_init_14 rfl (lv_at hl 0 rfl) ?_
  refine lv_iload_n hx hb dX6_init_15 rfl (lv_at hl 3 rfl) ?_
  refine va_putF (D := G.1) (ci := 0) (v := .int re) (ty := tyX0 2) (C := RX0) (T := TX0) (N := 3) hx hb ht inlX0 tyX0 tyX0_ok nmX0 hown hK.1 hP hD hS 0 rfl rfl 2 (by decide) (ht (Cond.fieldLink RX6 19 "PloughDepot$Plough" "reach" "I") mw_6_14) (fun _ h9 => h9) rfl hin rfl (tyX0_ok 2 (by decide)) rfl rfl (Nat.le_of_ble_eq_true rfl) dX6_init_16 (fun H locs hP hD hS => ?_)
  have hP : va_P G.1 vwCl ([(ob, .inr (0, [.ref lg, .int sp, .int re]))]) H := hP
  have hD : va_D A ([(ob, .inr (0, [.ref lg, .int sp, .int re]))]) := hD
  have hP9 := hP.sub (ws' := [(ob, .inr (0, [.ref lg, .int sp, .int re]))]) [0] rfl
  have hD9 := hD.sub (ws' := [(ob, .inr (0, [.ref lg, .int sp, .int re]))]) [0] (by decide) rfl
  exact W.vret hx hb hr (fun t ht hW => ⟨⟨(), rfl, trivial, ⟨by rw [ht]; exact hP9, hD9⟩⟩, hS.F ht⟩) hS.2.2 dX6_init_19

set_option maxHeartbeats 4000000 in
set_option maxRecDepth 100000 in
theorem k_sinit_0 (l : Launch) (G : GG) (sz : Nat) (ob : Nat) (lg : Nat) (sp : Int32) (re : Int32)  : Met l yX0_init (.code yX0_init cX0_init 4 none :: TT) ({ frames := 2, cells := 0, slots := 0, locals := 200 } : Room) (c0_P G [.ref ob, .ref lg, .int sp, .int re] sz ([(ob, .inr (0, [.null, .int 0, .int 0]))])) (va_Qv (S := Unit) (fun (u : Unit) => True) (fun (u : Unit) (t : State) => c0_B G (va_A ([(ob, .inr (0, [.null, .int 0, .int 0]))]) sz) ([(ob, .inr (0, [.ref lg, .int sp, .int re]))]) t) (va_A ([(ob, .inr (0, [.null, .int 0, .int 0]))]) sz)) 0 0 (va_A ([(ob, .inr (0, [.null, .int 0, .int 0]))]) sz) := by
  refine Met.ofW (cc := cX0_init) (maxL := 4) (ret := none) (by decide) rfl ?_
  intro p e s m args below meth c s₁ B hml hv
  obtain ⟨rfl, hsz, hP, hK, hD0⟩ := hv
  have hx := B.exec
  have hb := B.bytes
  have hr := B.returns
  have hts := atoms_spec (ws := .code yX0_init cX0_init 4 none :: TT) B.pre
  have ht := fun (w : Cond) (h : w ∈ TT) => hts w (List.mem_cons_of_mem _ h)
  have hown : s.vm.findClass RX0 = some m.cls := findClass_of_methodNamed B.named
  have hlocks := B.notSynchronized
  have hin : meth.name = "<init>" := (name_of_methodNamed B.named B.method).1
  subst hsz
  have hD := hD0.self (sz := s.heap.size)
  generalize hAe : va_A ([(ob, .inr (0, [.null, .int 0, .int 0]))]) s.heap.size = A at hD ⊢
  have hA : ∀ q : Nat, s.heap.size ≤ q → A q := fun q h => by rw [← hAe]; exact Or.inr h
  have hS : va_S A s.heap s.heap [] := va_S.rf
  have hP : va_P G.1 vwCl ([(ob, .inr (0, [.null, .int 0, .int 0]))]) s.heap := hP
  have hl := lv_entry ([.ref ob, .ref lg, .int sp, .int re]) (n := 4) (Nat.le_of_ble_eq_true rfl)
  rw [lg_entry_eq]
  generalize (lg_sl ([.ref ob, .ref lg, .int sp, .int re]) ++ List.replicate (4 - (lg_sl ([.ref ob, .ref lg, .int sp, .int re])).length) Slot.unset).toArray = ls at hl ⊢
  have hl : lv_has ls 4 [(0, .ref ob), (1, .ref lg), (2, .int sp), (3, .int re)] := hl
  refine lv_aload_n hx hb dX0_init_0 rfl (lv_at hl 0 rfl) ?_
  refine lv_aload_n hx hb dX0_init_1 rfl (lv_at hl 1 rfl) ?_
  refine lv_iload_n hx hb dX0_init_2 rfl (lv_at hl 2 rfl) ?_
  refine lv_iload_n hx hb dX0_init_3 rfl (lv_at hl 3 rfl) ?_
  have hPc := hP.sub (ws' := [(ob, .inr (0, [.null, .int 0, .int 0]))]) [0] rfl
  have hDc := hD.sub (ws' := [(ob, .inr (0, [.null, .int 0, .int 0]))]) [0] (by decide) rfl
  have hFc := va_free (wc := [(ob, .inr (0, [.null, .int 0, .int 0]))]) hD hS hA [0] rfl
  refine va_callv (va_runI (As := [.ref lg, .int sp, .int re]) (rest := []) ⟨hx, hb, hml, hown, hts⟩ (k_pinit_0 l G _ ob lg sp re ) (cwI 3 hts (gd_T mw_6_10) rfl rfl rfl (ht (Cond.initialized RX6) mw_2_22) (ht (Cond.methodLink RX0 1 yX6_init) mw_30_9) (ht (Cond.instanceMethod yX6_init) mw_6_9) rfl yk_X6_init ⟨Nat.le_of_ble_eq_true rfl, Nat.le_of_ble_eq_true rfl⟩) (c0_pre hPc hK hDc) rfl rfl hl.1 rfl (lv_room (Nat.le_of_ble_eq_true rfl)) dX0_init_4 ⟨Nat.le_of_ble_eq_true rfl, Nat.le_of_ble_eq_true rfl⟩) hS (fun q _ h => hFc q h) hFc (fun u t H1 locs ht1 hvm hw hB hz1 hk1 hS => ?_)
  try dsimp only at hw hB
  obtain ⟨hP1, hD1⟩ := hB
  rw [ht1] at hP1
  obtain ⟨hP, hD⟩ := va_join (wr := []) (w1 := [(ob, .inr (0, [.ref lg, .int sp, .int re]))]) hP hD [0] [] rfl rfl (by decide) (by decide) hk1 hFc hP1 hD1
  generalize H1 = H at hP hS ⊢
  have hP : va_P G.1 vwCl ([(ob, .inr (0, [.ref lg, .int sp, .int re]))]) H := hP
  have hD : va_D A ([(ob, .inr (0, [.ref lg, .int sp, .int re]))]) := hD
  have hP9 := hP.sub (ws' := [(ob, .inr (0, [.ref lg, .int sp, .int re]))]) [0] rfl
  have hD9 := hD.sub (ws' := [(ob, .inr (0, [.ref lg, .int sp, .int re]))]) [0] (by decide) rfl
  exact W.vret hx hb hr (fun t ht hW => ⟨⟨(), rfl, trivial, ⟨by rw [ht]; exact hP9, hD9⟩⟩, hS.F ht⟩) hS.2.2 dX0_init_7

set_option maxHeartbeats 4000000 in
set_option maxRecDepth 100000 in
theorem k_bodyOf_1 (l : Launch) (G : GG) (sz : Nat) (dp : Nat) (lg : Nat) (dv : List Value)  : Met l yX11_bodyOf (.code yX11_bodyOf cX11_bodyOf 2 (some (.object "PloughDepot$Plough")) :: TT) ({ frames := 3, cells := 1, slots := 3, locals := 300 } : Room) (c0_P G [.ref dp, .int 1] sz ([(dp, .inr (11, .ref lg :: dv))])) (va_Qr (S := Nat) (fun (u : Nat) => True) (fun (u : Nat) (a9 : Nat) (t : State) => a9 = u ∧ c0_B G (va_A ([(dp, .inr (11, .ref lg :: dv))]) sz) ([(dp, .inr (11, .ref lg :: dv)), (u, .inr (0, [.ref lg, .int 30, .int 600]))]) t) (va_A ([(dp, .inr (11, .ref lg :: dv))]) sz)) 1 3 (va_A ([(dp, .inr (11, .ref lg :: dv))]) sz) := by
  refine Met.ofW (cc := cX11_bodyOf) (maxL := 2) (ret := (some (.object "PloughDepot$Plough"))) (by decide) rfl ?_
  intro p e s m args below meth c s₁ B hml hv
  obtain ⟨rfl, hsz, hP, hK, hD0⟩ := hv
  have hx := B.exec
  have hb := B.bytes
  have hr := B.returns
  have hts := atoms_spec (ws := .code yX11_bodyOf cX11_bodyOf 2 (some (.object "PloughDepot$Plough")) :: TT) B.pre
  have ht := fun (w : Cond) (h : w ∈ TT) => hts w (List.mem_cons_of_mem _ h)
  have hown : s.vm.findClass RX11 = some m.cls := findClass_of_methodNamed B.named
  have hlocks := B.notSynchronized
  subst hsz
  have hD := hD0.self (sz := s.heap.size)
  generalize hAe : va_A ([(dp, .inr (11, .ref lg :: dv))]) s.heap.size = A at hD ⊢
  have hA : ∀ q : Nat, s.heap.size ≤ q → A q := fun q h => by rw [← hAe]; exact Or.inr h
  have hS : va_S A s.heap s.heap [] := va_S.rf
  have hP : va_P G.1 vwCl ([(dp, .inr (11, .ref lg :: dv))]) s.heap := hP
  have hl := lv_entry ([.ref dp, .int 1]) (n := 2) (Nat.le_of_ble_eq_true rfl)
  rw [lg_entry_eq]
  generalize (lg_sl ([.ref dp, .int 1]) ++ List.replicate (2 - (lg_sl ([.ref dp, .int 1])).length) Slot.unset).toArray = ls at hl ⊢
  have hl : lv_has ls 2 [(0, .ref dp), (1, .int 1)] := hl
  refine lv_iload_n hx hb dX11_bodyOf_0 rfl (lv_at hl 1 rfl) ?_
  refine lv_tableIn (tgt := 28) (off := 27) hx hb dX11_bodyOf_1 (by decide) (by decide) (by decide) (by decide) ?_
  refine va_new (D := G.1) (ci := 0) (fs := [.null, .int 0, .int 0]) (C := RX0) (T := TX0) (N := 3) hx hb ht inlX0 tyX0 tyX0_ok hown (ht (Cond.classLink RX11 355 RX0) mw_29_21) (ht (Cond.instantiable RX0 3) mw_29_22) (ht (Cond.initialized RX0) mw_29_23) hK.1 hP hD hS hA rfl (fun j hj => by rcases (show j = 0 ∨ j = 1 ∨ j = 2 by omega) with rfl | rfl | rfl <;> rfl) (Nat.le_of_ble_eq_true rfl) (Nat.le_of_ble_eq_true rfl) dX11_bodyOf_28 (fun q_1 H hP hD hS => ?_)
  have hP : va_P G.1 vwCl ([(dp, .inr (11, .ref lg :: dv)), (q_1, .inr (0, [.null, .int 0, .int 0]))]) H := hP
  have hD : va_D A ([(dp, .inr (11, .ref lg :: dv)), (q_1, .inr (0, [.null, .int 0, .int 0]))]) := hD
  refine W.widen (k := 1) (n := 3) (by omega) (by omega) ?_
  refine lv_dup hx hb dX11_bodyOf_31 rfl ?_
  refine lv_aload_n hx hb dX11_bodyOf_32 rfl (lv_at hl 0 rfl) ?_
  refine va_get (D := G.1) (ci := 11) (v := .ref lg) (C := RX11) (T := TX11) (N := 14) hx hb ht inlX11 hown hK.1 hP 0 rfl rfl 0 (by decide) (ht (Cond.fieldLink RX11 10 "PloughDepot" "log" "LPloughDepot$Log;") mw_1_15) (fun _ h9 => h9) rfl dX11_bodyOf_33 ?_
  refine lv_bipush (v := 30) hx hb dX11_bodyOf_36 (by decide) ?_
  refine lv_sipush (v := 600) hx hb dX11_bodyOf_38 (by decide) ?_
  have hPc := hP.sub (ws' := [(q_1, .inr (0, [.null, .int 0, .int 0]))]) [1] rfl
  have hDc := hD.sub (ws' := [(q_1, .inr (0, [.null, .int 0, .int 0]))]) [1] (by decide) rfl
  have hFc := va_free (wc := [(q_1, .inr (0, [.null, .int 0, .int 0]))]) hD hS hA [1] rfl
  refine va_callv (va_runI (As := [.ref lg, .int 30, .int 600]) (rest := [.ref q_1]) ⟨hx, hb, hml, hown, hts⟩ (k_sinit_0 l G _ q_1 lg 30 600 ) (cwI 3 hts (gd_T mw_30_8) rfl rfl rfl (ht (Cond.initialized RX0) mw_29_23) (ht (Cond.methodLink RX11 357 yX0_init) mw_30_6) (ht (Cond.instanceMethod yX0_init) mw_30_7) rfl yk_X0_init ⟨Nat.le_of_ble_eq_true rfl, Nat.le_of_ble_eq_true rfl⟩) (c0_pre hPc hK hDc) rfl rfl hl.1 rfl (lv_room (Nat.le_of_ble_eq_true rfl)) dX11_bodyOf_41 ⟨Nat.le_of_ble_eq_true rfl, Nat.le_of_ble_eq_true rfl⟩) hS (fun q _ h => hFc q h) hFc (fun u t H1 locs ht1 hvm hw hB hz1 hk1 hS => ?_)
  try dsimp only at hw hB
  obtain ⟨hP1, hD1⟩ := hB
  rw [ht1] at hP1
  obtain ⟨hP, hD⟩ := va_join (wr := [(dp, .inr (11, .ref lg :: dv))]) (w1 := [(q_1, .inr (0, [.ref lg, .int 30, .int 600]))]) hP hD [1] [0] rfl rfl (by decide) (by decide) hk1 hFc hP1 hD1
  generalize H1 = H at hP hS ⊢
  have hP : va_P G.1 vwCl ([(dp, .inr (11, .ref lg :: dv)), (q_1, .inr (0, [.ref lg, .int 30, .int 600]))]) H := hP
  have hD : va_D A ([(dp, .inr (11, .ref lg :: dv)), (q_1, .inr (0, [.ref lg, .int 30, .int 600]))]) := hD
  have hP9 := hP.sub (ws' := [(dp, .inr (11, .ref lg :: dv)), (q_1, .inr (0, [.ref lg, .int 30, .int 600]))]) [0, 1] rfl
  have hD9 := hD.sub (ws' := [(dp, .inr (11, .ref lg :: dv)), (q_1, .inr (0, [.ref lg, .int 30, .int 600]))]) [0, 1] (by decide) rfl
  exact W.aret (v := .ref q_1) hx hb hr (Or.inl ⟨_, rfl⟩) (Or.inr ⟨_, rfl⟩) (fun t ht hW => ⟨⟨q_1, q_1, rfl, trivial, ⟨rfl, ⟨by rw [ht]; exact hP9, hD9⟩⟩⟩, hS.F ht⟩) hS.2.2 dX11_bodyOf_44

set_option maxHeartbeats 4000000 in
set_option maxRecDepth 100000 in
theorem k_pinit_7 (l : Launch) (G : GG) (sz : Nat) (ob : Nat) (lg : Nat) (sp : Int32) (re : Int32)  : Met l yX6_init (.code yX6_init cX6_init 4 none :: TT) ({ frames := 1, cells := 0, slots := 0, locals := 100 } : Room) (c0_P G [.ref ob, .ref lg, .int sp, .int re] sz ([(ob, .inr (7, [.null, .int 0, .int 0]))])) (va_Qv (S := Unit) (fun (u : Unit) => True) (fun (u : Unit) (t : State) => c0_B G (va_A ([(ob, .inr (7, [.null, .int 0, .int 0]))]) sz) ([(ob, .inr (7, [.ref lg, .int sp, .int re]))]) t) (va_A ([(ob, .inr (7, [.null, .int 0, .int 0]))]) sz)) 0 0 (va_A ([(ob, .inr (7, [.null, .int 0, .int 0]))]) sz) := by
  refine Met.ofW (cc := cX6_init) (maxL := 4) (ret := none) (by decide) rfl ?_
  intro p e s m args below meth c s₁ B hml hv
  obtain ⟨rfl, hsz, hP, hK, hD0⟩ := hv
  have hx := B.exec
  have hb := B.bytes
  have hr := B.returns
  have hts := atoms_spec (ws := .code yX6_init cX6_init 4 none :: TT) B.pre
  have ht := fun (w : Cond) (h : w ∈ TT) => hts w (List.mem_cons_of_mem _ h)
  have hown : s.vm.findClass RX6 = some m.cls := findClass_of_methodNamed B.named
  have hlocks := B.notSynchronized
  have hin : meth.name = "<init>" := (name_of_methodNamed B.named B.method).1
  subst hsz
  have hD := hD0.self (sz := s.heap.size)
  generalize hAe : va_A ([(ob, .inr (7, [.null, .int 0, .int 0]))]) s.heap.size = A at hD ⊢
  have hA : ∀ q : Nat, s.heap.size ≤ q → A q := fun q h => by rw [← hAe]; exact Or.inr h
  have hS : va_S A s.heap s.heap [] := va_S.rf
  have hP : va_P G.1 vwCl ([(ob, .inr (7, [.null, .int 0, .int 0]))]) s.heap := hP
  have hl := lv_entry ([.ref ob, .ref lg, .int sp, .int re]) (n := 4) (Nat.le_of_ble_eq_true rfl)
  rw [lg_entry_eq]
  generalize (lg_sl ([.ref ob, .ref lg, .int sp, .int re]) ++ List.replicate (4 - (lg_sl ([.ref ob, .ref lg, .int sp, .int re])).length) Slot.unset).toArray = ls at hl ⊢
  have hl : lv_has ls 4 [(0, .ref ob), (1, .ref lg), (2, .int sp), (3, .int re)] := hl
  refine lv_aload_n hx hb dX6_init_0 rfl (lv_at hl 0 rfl) ?_
  refine W.objInit hx hb hown (ht (Cond.methodLink RX6 3 objectInit) mw_6_11) (ht (Cond.instanceMethod objectInit) mw_1_10) (ht (Cond.code objectInit ⟨#[0xb1]⟩ 1 none) mw_1_11) rfl (by rw [hml]; exact hl.1) rfl dX6_init_1 (Nat.le_of_ble_eq_true rfl) (Nat.le_of_ble_eq_true rfl) ?_
  refine W.eq (g2 := F0 m 4 ls []) rfl ?_
  refine lv_aload_n hx hb dX6_init_4 rfl (lv_at hl 0 rfl) ?_
  refine lv_aload_n hx hb dX6_init_5 rfl (lv_at hl 1 rfl) ?_
  refine va_putF (D := G.1) (ci := 7) (v := .ref lg) (ty := tyX7 0) (C := RX7) (T := TX7) (N := 3) hx hb ht inlX7 tyX7 tyX7_ok nmX7 hown hK.1 hP hD hS 0 rfl rfl 0 (by decide) (ht (Cond.fieldLink RX6 9 "PloughDepot$Plough" "log" "LPloughDepot$Log;") mw_6_12) (fun _ h9 => h9) rfl hin rfl (tyX7_ok 0 (by decide)) rfl rfl (Nat.le_of_ble_eq_true rfl) dX6_init_6 (fun H locs hP hD hS => ?_)
  have hP : va_P G.1 vwCl ([(ob, .inr (7, [.ref lg, .int 0, .int 0]))]) H := hP
  have hD : va_D A ([(ob, .inr (7, [.ref lg, .int 0, .int 0]))]) := hD
  refine lv_aload_n hx hb dX6_init_9 rfl (lv_at hl 0 rfl) ?_
  refine lv_iload_n hx hb dX6_init_10 rfl (lv_at hl 2 rfl) ?_
  refine va_putF (D := G.1) (ci := 7) (v := .int sp) (ty := tyX7 1) (C := RX7) (T := TX7) (N := 3) hx hb ht inlX7 tyX7 tyX7_ok nmX7 hown hK.1 hP hD hS 0 rfl rfl 1 (by decide) (ht (Cond.fieldLink RX6 15 "PloughDepot$Plough" "speed" "I") mw_6_13) (fun _ h9 => h9) rfl hin rfl (tyX7_ok 1 (by decide)) rfl rfl (Nat.le_of_ble_eq_true rfl) dX6_init_11 (fun H locs hP hD hS => ?_)
  have hP : va_P G.1 vwCl ([(ob, .inr (7, [.ref lg, .int sp, .int 0]))]) H := hP
  have hD : va_D A ([(ob, .inr (7, [.ref lg, .int sp, .int 0]))]) := hD
  refine lv_aload_n hx hb dX6_init_14 rfl (lv_at hl 0 rfl) ?_
  refine lv_iload_n hx hb dX6_init_15 rfl (lv_at hl 3 rfl) ?_
  refine va_putF (D := G.1) (ci := 7) (v := .int re) (ty := tyX7 2) (C := RX7) (T := TX7) (N := 3) hx hb ht inlX7 tyX7 tyX7_ok nmX7 hown hK.1 hP hD hS 0 rfl rfl 2 (by decide) (ht (Cond.fieldLink RX6 19 "PloughDepot$Plough" "reach" "I") mw_6_14) (fun _ h9 => h9) rfl hin rfl (tyX7_ok 2 (by decide)) rfl rfl (Nat.le_of_ble_eq_true rfl) dX6_init_16 (fun H locs hP hD hS => ?_)
  have hP : va_P G.1 vwCl ([(ob, .inr (7, [.ref lg, .int sp, .int re]))]) H := hP
  have hD : va_D A ([(ob, .inr (7, [.ref lg, .int sp, .int re]))]) := hD
  have hP9 := hP.sub (ws' := [(ob, .inr (7, [.ref lg, .int sp, .int re]))]) [0] rfl
  have hD9 := hD.sub (ws' := [(ob, .inr (7, [.ref lg, .int sp, .int re]))]) [0] (by decide) rfl
  exact W.vret hx hb hr (fun t ht hW => ⟨⟨(), rfl, trivial, ⟨by rw [ht]; exact hP9, hD9⟩⟩, hS.F ht⟩) hS.2.2 dX6_init_19

set_option maxHeartbeats 4000000 in
set_option maxRecDepth 100000 in
theorem k_sinit_7 (l : Launch) (G : GG) (sz : Nat) (ob : Nat) (lg : Nat) (sp : Int32) (re : Int32)  : Met l yX7_init (.code yX7_init cX7_init 4 none :: TT) ({ frames := 2, cells := 0, slots := 0, locals := 200 } : Room) (c0_P G [.ref ob, .ref lg, .int sp, .int re] sz ([(ob, .inr (7, [.null, .int 0, .int 0]))])) (va_Qv (S := Unit) (fun (u : Unit) => True) (fun (u : Unit) (t : State) => c0_B G (va_A ([(ob, .inr (7, [.null, .int 0, .int 0]))]) sz) ([(ob, .inr (7, [.ref lg, .int sp, .int re]))]) t) (va_A ([(ob, .inr (7, [.null, .int 0, .int 0]))]) sz)) 0 0 (va_A ([(ob, .inr (7, [.null, .int 0, .int 0]))]) sz) := by
  refine Met.ofW (cc := cX7_init) (maxL := 4) (ret := none) (by decide) rfl ?_
  intro p e s m args below meth c s₁ B hml hv
  obtain ⟨rfl, hsz, hP, hK, hD0⟩ := hv
  have hx := B.exec
  have hb := B.bytes
  have hr := B.returns
  have hts := atoms_spec (ws := .code yX7_init cX7_init 4 none :: TT) B.pre
  have ht := fun (w : Cond) (h : w ∈ TT) => hts w (List.mem_cons_of_mem _ h)
  have hown : s.vm.findClass RX7 = some m.cls := findClass_of_methodNamed B.named
  have hlocks := B.notSynchronized
  have hin : meth.name = "<init>" := (name_of_methodNamed B.named B.method).1
  subst hsz
  have hD := hD0.self (sz := s.heap.size)
  generalize hAe : va_A ([(ob, .inr (7, [.null, .int 0, .int 0]))]) s.heap.size = A at hD ⊢
  have hA : ∀ q : Nat, s.heap.size ≤ q → A q := fun q h => by rw [← hAe]; exact Or.inr h
  have hS : va_S A s.heap s.heap [] := va_S.rf
  have hP : va_P G.1 vwCl ([(ob, .inr (7, [.null, .int 0, .int 0]))]) s.heap := hP
  have hl := lv_entry ([.ref ob, .ref lg, .int sp, .int re]) (n := 4) (Nat.le_of_ble_eq_true rfl)
  rw [lg_entry_eq]
  generalize (lg_sl ([.ref ob, .ref lg, .int sp, .int re]) ++ List.replicate (4 - (lg_sl ([.ref ob, .ref lg, .int sp, .int re])).length) Slot.unset).toArray = ls at hl ⊢
  have hl : lv_has ls 4 [(0, .ref ob), (1, .ref lg), (2, .int sp), (3, .int re)] := hl
  refine lv_aload_n hx hb dX7_init_0 rfl (lv_at hl 0 rfl) ?_
  refine lv_aload_n hx hb dX7_init_1 rfl (lv_at hl 1 rfl) ?_
  refine lv_iload_n hx hb dX7_init_2 rfl (lv_at hl 2 rfl) ?_
  refine lv_iload_n hx hb dX7_init_3 rfl (lv_at hl 3 rfl) ?_
  have hPc := hP.sub (ws' := [(ob, .inr (7, [.null, .int 0, .int 0]))]) [0] rfl
  have hDc := hD.sub (ws' := [(ob, .inr (7, [.null, .int 0, .int 0]))]) [0] (by decide) rfl
  have hFc := va_free (wc := [(ob, .inr (7, [.null, .int 0, .int 0]))]) hD hS hA [0] rfl
  refine va_callv (va_runI (As := [.ref lg, .int sp, .int re]) (rest := []) ⟨hx, hb, hml, hown, hts⟩ (k_pinit_7 l G _ ob lg sp re ) (cwI 3 hts (gd_T mw_6_10) rfl rfl rfl (ht (Cond.initialized RX6) mw_2_22) (ht (Cond.methodLink RX7 1 yX6_init) mw_30_13) (ht (Cond.instanceMethod yX6_init) mw_6_9) rfl yk_X6_init ⟨Nat.le_of_ble_eq_true rfl, Nat.le_of_ble_eq_true rfl⟩) (c0_pre hPc hK hDc) rfl rfl hl.1 rfl (lv_room (Nat.le_of_ble_eq_true rfl)) dX7_init_4 ⟨Nat.le_of_ble_eq_true rfl, Nat.le_of_ble_eq_true rfl⟩) hS (fun q _ h => hFc q h) hFc (fun u t H1 locs ht1 hvm hw hB hz1 hk1 hS => ?_)
  try dsimp only at hw hB
  obtain ⟨hP1, hD1⟩ := hB
  rw [ht1] at hP1
  obtain ⟨hP, hD⟩ := va_join (wr := []) (w1 := [(ob, .inr (7, [.ref lg, .int sp, .int re]))]) hP hD [0] [] rfl rfl (by decide) (by decide) hk1 hFc hP1 hD1
  generalize H1 = H at hP hS ⊢
  have hP : va_P G.1 vwCl ([(ob, .inr (7, [.ref lg, .int sp, .int re]))]) H := hP
  have hD : va_D A ([(ob, .inr (7, [.ref lg, .int sp, .int re]))]) := hD
  have hP9 := hP.sub (ws' := [(ob, .inr (7, [.ref lg, .int sp, .int re]))]) [0] rfl
  have hD9 := hD.sub (ws' := [(ob, .inr (7, [.ref lg, .int sp, .int re]))]) [0] (by decide) rfl
  exact W.vret hx hb hr (fun t ht hW => ⟨⟨(), rfl, trivial, ⟨by rw [ht]; exact hP9, hD9⟩⟩, hS.F ht⟩) hS.2.2 dX7_init_7

set_option maxHeartbeats 4000000 in
set_option maxRecDepth 100000 in
theorem k_bodyOf_2 (l : Launch) (G : GG) (sz : Nat) (dp : Nat) (lg : Nat) (dv : List Value)  : Met l yX11_bodyOf (.code yX11_bodyOf cX11_bodyOf 2 (some (.object "PloughDepot$Plough")) :: TT) ({ frames := 3, cells := 1, slots := 3, locals := 300 } : Room) (c0_P G [.ref dp, .int 2] sz ([(dp, .inr (11, .ref lg :: dv))])) (va_Qr (S := Nat) (fun (u : Nat) => True) (fun (u : Nat) (a9 : Nat) (t : State) => a9 = u ∧ c0_B G (va_A ([(dp, .inr (11, .ref lg :: dv))]) sz) ([(dp, .inr (11, .ref lg :: dv)), (u, .inr (7, [.ref lg, .int 45, .int 200]))]) t) (va_A ([(dp, .inr (11, .ref lg :: dv))]) sz)) 1 3 (va_A ([(dp, .inr (11, .ref lg :: dv))]) sz) := by
  refine Met.ofW (cc := cX11_bodyOf) (maxL := 2) (ret := (some (.object "PloughDepot$Plough"))) (by decide) rfl ?_
  intro p e s m args below meth c s₁ B hml hv
  obtain ⟨rfl, hsz, hP, hK, hD0⟩ := hv
  have hx := B.exec
  have hb := B.bytes
  have hr := B.returns
  have hts := atoms_spec (ws := .code yX11_bodyOf cX11_bodyOf 2 (some (.object "PloughDepot$Plough")) :: TT) B.pre
  have ht := fun (w : Cond) (h : w ∈ TT) => hts w (List.mem_cons_of_mem _ h)
  have hown : s.vm.findClass RX11 = some m.cls := findClass_of_methodNamed B.named
  have hlocks := B.notSynchronized
  subst hsz
  have hD := hD0.self (sz := s.heap.size)
  generalize hAe : va_A ([(dp, .inr (11, .ref lg :: dv))]) s.heap.size = A at hD ⊢
  have hA : ∀ q : Nat, s.heap.size ≤ q → A q := fun q h => by rw [← hAe]; exact Or.inr h
  have hS : va_S A s.heap s.heap [] := va_S.rf
  have hP : va_P G.1 vwCl ([(dp, .inr (11, .ref lg :: dv))]) s.heap := hP
  have hl := lv_entry ([.ref dp, .int 2]) (n := 2) (Nat.le_of_ble_eq_true rfl)
  rw [lg_entry_eq]
  generalize (lg_sl ([.ref dp, .int 2]) ++ List.replicate (2 - (lg_sl ([.ref dp, .int 2])).length) Slot.unset).toArray = ls at hl ⊢
  have hl : lv_has ls 2 [(0, .ref dp), (1, .int 2)] := hl
  refine lv_iload_n hx hb dX11_bodyOf_0 rfl (lv_at hl 1 rfl) ?_
  refine lv_tableIn (tgt := 45) (off := 44) hx hb dX11_bodyOf_1 (by decide) (by decide) (by decide) (by decide) ?_
  refine va_new (D := G.1) (ci := 7) (fs := [.null, .int 0, .int 0]) (C := RX7) (T := TX7) (N := 3) hx hb ht inlX7 tyX7 tyX7_ok hown (ht (Cond.classLink RX11 240 RX7) mw_30_0) (ht (Cond.instantiable RX7 3) mw_30_1) (ht (Cond.initialized RX7) mw_30_2) hK.1 hP hD hS hA rfl (fun j hj => by rcases (show j = 0 ∨ j = 1 ∨ j = 2 by omega) with rfl | rfl | rfl <;> rfl) (Nat.le_of_ble_eq_true rfl) (Nat.le_of_ble_eq_true rfl) dX11_bodyOf_45 (fun q_1 H hP hD hS => ?_)
  have hP : va_P G.1 vwCl ([(dp, .inr (11, .ref lg :: dv)), (q_1, .inr (7, [.null, .int 0, .int 0]))]) H := hP
  have hD : va_D A ([(dp, .inr (11, .ref lg :: dv)), (q_1, .inr (7, [.null, .int 0, .int 0]))]) := hD
  refine W.widen (k := 1) (n := 3) (by omega) (by omega) ?_
  refine lv_dup hx hb dX11_bodyOf_48 rfl ?_
  refine lv_aload_n hx hb dX11_bodyOf_49 rfl (lv_at hl 0 rfl) ?_
  refine va_get (D := G.1) (ci := 11) (v := .ref lg) (C := RX11) (T := TX11) (N := 14) hx hb ht inlX11 hown hK.1 hP 0 rfl rfl 0 (by decide) (ht (Cond.fieldLink RX11 10 "PloughDepot" "log" "LPloughDepot$Log;") mw_1_15) (fun _ h9 => h9) rfl dX11_bodyOf_50 ?_
  refine lv_bipush (v := 45) hx hb dX11_bodyOf_53 (by decide) ?_
  refine lv_sipush (v := 200) hx hb dX11_bodyOf_55 (by decide) ?_
  have hPc := hP.sub (ws' := [(q_1, .inr (7, [.null, .int 0, .int 0]))]) [1] rfl
  have hDc := hD.sub (ws' := [(q_1, .inr (7, [.null, .int 0, .int 0]))]) [1] (by decide) rfl
  have hFc := va_free (wc := [(q_1, .inr (7, [.null, .int 0, .int 0]))]) hD hS hA [1] rfl
  refine va_callv (va_runI (As := [.ref lg, .int 45, .int 200]) (rest := [.ref q_1]) ⟨hx, hb, hml, hown, hts⟩ (k_sinit_7 l G _ q_1 lg 45 200 ) (cwI 3 hts (gd_T mw_30_12) rfl rfl rfl (ht (Cond.initialized RX7) mw_30_2) (ht (Cond.methodLink RX11 358 yX7_init) mw_30_10) (ht (Cond.instanceMethod yX7_init) mw_30_11) rfl yk_X7_init ⟨Nat.le_of_ble_eq_true rfl, Nat.le_of_ble_eq_true rfl⟩) (c0_pre hPc hK hDc) rfl rfl hl.1 rfl (lv_room (Nat.le_of_ble_eq_true rfl)) dX11_bodyOf_58 ⟨Nat.le_of_ble_eq_true rfl, Nat.le_of_ble_eq_true rfl⟩) hS (fun q _ h => hFc q h) hFc (fun u t H1 locs ht1 hvm hw hB hz1 hk1 hS => ?_)
  try dsimp only at hw hB
  obtain ⟨hP1, hD1⟩ := hB
  rw [ht1] at hP1
  obtain ⟨hP, hD⟩ := va_join (wr := [(dp, .inr (11, .ref lg :: dv))]) (w1 := [(q_1, .inr (7, [.ref lg, .int 45, .int 200]))]) hP hD [1] [0] rfl rfl (by decide) (by decide) hk1 hFc hP1 hD1
  generalize H1 = H at hP hS ⊢
  have hP : va_P G.1 vwCl ([(dp, .inr (11, .ref lg :: dv)), (q_1, .inr (7, [.ref lg, .int 45, .int 200]))]) H := hP
  have hD : va_D A ([(dp, .inr (11, .ref lg :: dv)), (q_1, .inr (7, [.ref lg, .int 45, .int 200]))]) := hD
  have hP9 := hP.sub (ws' := [(dp, .inr (11, .ref lg :: dv)), (q_1, .inr (7, [.ref lg, .int 45, .int 200]))]) [0, 1] rfl
  have hD9 := hD.sub (ws' := [(dp, .inr (11, .ref lg :: dv)), (q_1, .inr (7, [.ref lg, .int 45, .int 200]))]) [0, 1] (by decide) rfl
  exact W.aret (v := .ref q_1) hx hb hr (Or.inl ⟨_, rfl⟩) (Or.inr ⟨_, rfl⟩) (fun t ht hW => ⟨⟨q_1, q_1, rfl, trivial, ⟨rfl, ⟨by rw [ht]; exact hP9, hD9⟩⟩⟩, hS.F ht⟩) hS.2.2 dX11_bodyOf_61

set_option maxHeartbeats 4000000 in
set_option maxRecDepth 100000 in
theorem k_pinit_9 (l : Launch) (G : GG) (sz : Nat) (ob : Nat) (lg : Nat) (sp : Int32) (re : Int32)  : Met l yX6_init (.code yX6_init cX6_init 4 none :: TT) ({ frames := 1, cells := 0, slots := 0, locals := 100 } : Room) (c0_P G [.ref ob, .ref lg, .int sp, .int re] sz ([(ob, .inr (9, [.null, .int 0, .int 0]))])) (va_Qv (S := Unit) (fun (u : Unit) => True) (fun (u : Unit) (t : State) => c0_B G (va_A ([(ob, .inr (9, [.null, .int 0, .int 0]))]) sz) ([(ob, .inr (9, [.ref lg, .int sp, .int re]))]) t) (va_A ([(ob, .inr (9, [.null, .int 0, .int 0]))]) sz)) 0 0 (va_A ([(ob, .inr (9, [.null, .int 0, .int 0]))]) sz) := by
  refine Met.ofW (cc := cX6_init) (maxL := 4) (ret := none) (by decide) rfl ?_
  intro p e s m args below meth c s₁ B hml hv
  obtain ⟨rfl, hsz, hP, hK, hD0⟩ := hv
  have hx := B.exec
  have hb := B.bytes
  have hr := B.returns
  have hts := atoms_spec (ws := .code yX6_init cX6_init 4 none :: TT) B.pre
  have ht := fun (w : Cond) (h : w ∈ TT) => hts w (List.mem_cons_of_mem _ h)
  have hown : s.vm.findClass RX6 = some m.cls := findClass_of_methodNamed B.named
  have hlocks := B.notSynchronized
  have hin : meth.name = "<init>" := (name_of_methodNamed B.named B.method).1
  subst hsz
  have hD := hD0.self (sz := s.heap.size)
  generalize hAe : va_A ([(ob, .inr (9, [.null, .int 0, .int 0]))]) s.heap.size = A at hD ⊢
  have hA : ∀ q : Nat, s.heap.size ≤ q → A q := fun q h => by rw [← hAe]; exact Or.inr h
  have hS : va_S A s.heap s.heap [] := va_S.rf
  have hP : va_P G.1 vwCl ([(ob, .inr (9, [.null, .int 0, .int 0]))]) s.heap := hP
  have hl := lv_entry ([.ref ob, .ref lg, .int sp, .int re]) (n := 4) (Nat.le_of_ble_eq_true rfl)
  rw [lg_entry_eq]
  generalize (lg_sl ([.ref ob, .ref lg, .int sp, .int re]) ++ List.replicate (4 - (lg_sl ([.ref ob, .ref lg, .int sp, .int re])).length) Slot.unset).toArray = ls at hl ⊢
  have hl : lv_has ls 4 [(0, .ref ob), (1, .ref lg), (2, .int sp), (3, .int re)] := hl
  refine lv_aload_n hx hb dX6_init_0 rfl (lv_at hl 0 rfl) ?_
  refine W.objInit hx hb hown (ht (Cond.methodLink RX6 3 objectInit) mw_6_11) (ht (Cond.instanceMethod objectInit) mw_1_10) (ht (Cond.code objectInit ⟨#[0xb1]⟩ 1 none) mw_1_11) rfl (by rw [hml]; exact hl.1) rfl dX6_init_1 (Nat.le_of_ble_eq_true rfl) (Nat.le_of_ble_eq_true rfl) ?_
  refine W.eq (g2 := F0 m 4 ls []) rfl ?_
  refine lv_aload_n hx hb dX6_init_4 rfl (lv_at hl 0 rfl) ?_
  refine lv_aload_n hx hb dX6_init_5 rfl (lv_at hl 1 rfl) ?_
  refine va_putF (D := G.1) (ci := 9) (v := .ref lg) (ty := tyX9 0) (C := RX9) (T := TX9) (N := 3) hx hb ht inlX9 tyX9 tyX9_ok nmX9 hown hK.1 hP hD hS 0 rfl rfl 0 (by decide) (ht (Cond.fieldLink RX6 9 "PloughDepot$Plough" "log" "LPloughDepot$Log;") mw_6_12) (fun _ h9 => h9) rfl hin rfl (tyX9_ok 0 (by decide)) rfl rfl (Nat.le_of_ble_eq_true rfl) dX6_init_6 (fun H locs hP hD hS => ?_)
  have hP : va_P G.1 vwCl ([(ob, .inr (9, [.ref lg, .int 0, .int 0]))]) H := hP
  have hD : va_D A ([(ob, .inr (9, [.ref lg, .int 0, .int 0]))]) := hD
  refine lv_aload_n hx hb dX6_init_9 rfl (lv_at hl 0 rfl) ?_
  refine lv_iload_n hx hb dX6_init_10 rfl (lv_at hl 2 rfl) ?_
  refine va_putF (D := G.1) (ci := 9) (v := .int sp) (ty := tyX9 1) (C := RX9) (T := TX9) (N := 3) hx hb ht inlX9 tyX9 tyX9_ok nmX9 hown hK.1 hP hD hS 0 rfl rfl 1 (by decide) (ht (Cond.fieldLink RX6 15 "PloughDepot$Plough" "speed" "I") mw_6_13) (fun _ h9 => h9) rfl hin rfl (tyX9_ok 1 (by decide)) rfl rfl (Nat.le_of_ble_eq_true rfl) dX6_init_11 (fun H locs hP hD hS => ?_)
  have hP : va_P G.1 vwCl ([(ob, .inr (9, [.ref lg, .int sp, .int 0]))]) H := hP
  have hD : va_D A ([(ob, .inr (9, [.ref lg, .int sp, .int 0]))]) := hD
  refine lv_aload_n hx hb dX6_init_14 rfl (lv_at hl 0 rfl) ?_
  refine lv_iload_n hx hb dX6_init_15 rfl (lv_at hl 3 rfl) ?_
  refine va_putF (D := G.1) (ci := 9) (v := .int re) (ty := tyX9 2) (C := RX9) (T := TX9) (N := 3) hx hb ht inlX9 tyX9 tyX9_ok nmX9 hown hK.1 hP hD hS 0 rfl rfl 2 (by decide) (ht (Cond.fieldLink RX6 19 "PloughDepot$Plough" "reach" "I") mw_6_14) (fun _ h9 => h9) rfl hin rfl (tyX9_ok 2 (by decide)) rfl rfl (Nat.le_of_ble_eq_true rfl) dX6_init_16 (fun H locs hP hD hS => ?_)
  have hP : va_P G.1 vwCl ([(ob, .inr (9, [.ref lg, .int sp, .int re]))]) H := hP
  have hD : va_D A ([(ob, .inr (9, [.ref lg, .int sp, .int re]))]) := hD
  have hP9 := hP.sub (ws' := [(ob, .inr (9, [.ref lg, .int sp, .int re]))]) [0] rfl
  have hD9 := hD.sub (ws' := [(ob, .inr (9, [.ref lg, .int sp, .int re]))]) [0] (by decide) rfl
  exact W.vret hx hb hr (fun t ht hW => ⟨⟨(), rfl, trivial, ⟨by rw [ht]; exact hP9, hD9⟩⟩, hS.F ht⟩) hS.2.2 dX6_init_19

set_option maxHeartbeats 4000000 in
set_option maxRecDepth 100000 in
theorem k_sinit_9 (l : Launch) (G : GG) (sz : Nat) (ob : Nat) (lg : Nat) (sp : Int32) (re : Int32)  : Met l yX9_init (.code yX9_init cX9_init 4 none :: TT) ({ frames := 2, cells := 0, slots := 0, locals := 200 } : Room) (c0_P G [.ref ob, .ref lg, .int sp, .int re] sz ([(ob, .inr (9, [.null, .int 0, .int 0]))])) (va_Qv (S := Unit) (fun (u : Unit) => True) (fun (u : Unit) (t : State) => c0_B G (va_A ([(ob, .inr (9, [.null, .int 0, .int 0]))]) sz) ([(ob, .inr (9, [.ref lg, .int sp, .int re]))]) t) (va_A ([(ob, .inr (9, [.null, .int 0, .int 0]))]) sz)) 0 0 (va_A ([(ob, .inr (9, [.null, .int 0, .int 0]))]) sz) := by
  refine Met.ofW (cc := cX9_init) (maxL := 4) (ret := none) (by decide) rfl ?_
  intro p e s m args below meth c s₁ B hml hv
  obtain ⟨rfl, hsz, hP, hK, hD0⟩ := hv
  have hx := B.exec
  have hb := B.bytes
  have hr := B.returns
  have hts := atoms_spec (ws := .code yX9_init cX9_init 4 none :: TT) B.pre
  have ht := fun (w : Cond) (h : w ∈ TT) => hts w (List.mem_cons_of_mem _ h)
  have hown : s.vm.findClass RX9 = some m.cls := findClass_of_methodNamed B.named
  have hlocks := B.notSynchronized
  have hin : meth.name = "<init>" := (name_of_methodNamed B.named B.method).1
  subst hsz
  have hD := hD0.self (sz := s.heap.size)
  generalize hAe : va_A ([(ob, .inr (9, [.null, .int 0, .int 0]))]) s.heap.size = A at hD ⊢
  have hA : ∀ q : Nat, s.heap.size ≤ q → A q := fun q h => by rw [← hAe]; exact Or.inr h
  have hS : va_S A s.heap s.heap [] := va_S.rf
  have hP : va_P G.1 vwCl ([(ob, .inr (9, [.null, .int 0, .int 0]))]) s.heap := hP
  have hl := lv_entry ([.ref ob, .ref lg, .int sp, .int re]) (n := 4) (Nat.le_of_ble_eq_true rfl)
  rw [lg_entry_eq]
  generalize (lg_sl ([.ref ob, .ref lg, .int sp, .int re]) ++ List.replicate (4 - (lg_sl ([.ref ob, .ref lg, .int sp, .int re])).length) Slot.unset).toArray = ls at hl ⊢
  have hl : lv_has ls 4 [(0, .ref ob), (1, .ref lg), (2, .int sp), (3, .int re)] := hl
  refine lv_aload_n hx hb dX9_init_0 rfl (lv_at hl 0 rfl) ?_
  refine lv_aload_n hx hb dX9_init_1 rfl (lv_at hl 1 rfl) ?_
  refine lv_iload_n hx hb dX9_init_2 rfl (lv_at hl 2 rfl) ?_
  refine lv_iload_n hx hb dX9_init_3 rfl (lv_at hl 3 rfl) ?_
  have hPc := hP.sub (ws' := [(ob, .inr (9, [.null, .int 0, .int 0]))]) [0] rfl
  have hDc := hD.sub (ws' := [(ob, .inr (9, [.null, .int 0, .int 0]))]) [0] (by decide) rfl
  have hFc := va_free (wc := [(ob, .inr (9, [.null, .int 0, .int 0]))]) hD hS hA [0] rfl
  refine va_callv (va_runI (As := [.ref lg, .int sp, .int re]) (rest := []) ⟨hx, hb, hml, hown, hts⟩ (k_pinit_9 l G _ ob lg sp re ) (cwI 3 hts (gd_T mw_6_10) rfl rfl rfl (ht (Cond.initialized RX6) mw_2_22) (ht (Cond.methodLink RX9 1 yX6_init) mw_30_17) (ht (Cond.instanceMethod yX6_init) mw_6_9) rfl yk_X6_init ⟨Nat.le_of_ble_eq_true rfl, Nat.le_of_ble_eq_true rfl⟩) (c0_pre hPc hK hDc) rfl rfl hl.1 rfl (lv_room (Nat.le_of_ble_eq_true rfl)) dX9_init_4 ⟨Nat.le_of_ble_eq_true rfl, Nat.le_of_ble_eq_true rfl⟩) hS (fun q _ h => hFc q h) hFc (fun u t H1 locs ht1 hvm hw hB hz1 hk1 hS => ?_)
  try dsimp only at hw hB
  obtain ⟨hP1, hD1⟩ := hB
  rw [ht1] at hP1
  obtain ⟨hP, hD⟩ := va_join (wr := []) (w1 := [(ob, .inr (9, [.ref lg, .int sp, .int re]))]) hP hD [0] [] rfl rfl (by decide) (by decide) hk1 hFc hP1 hD1
  generalize H1 = H at hP hS ⊢
  have hP : va_P G.1 vwCl ([(ob, .inr (9, [.ref lg, .int sp, .int re]))]) H := hP
  have hD : va_D A ([(ob, .inr (9, [.ref lg, .int sp, .int re]))]) := hD
  have hP9 := hP.sub (ws' := [(ob, .inr (9, [.ref lg, .int sp, .int re]))]) [0] rfl
  have hD9 := hD.sub (ws' := [(ob, .inr (9, [.ref lg, .int sp, .int re]))]) [0] (by decide) rfl
  exact W.vret hx hb hr (fun t ht hW => ⟨⟨(), rfl, trivial, ⟨by rw [ht]; exact hP9, hD9⟩⟩, hS.F ht⟩) hS.2.2 dX9_init_7

set_option maxHeartbeats 4000000 in
set_option maxRecDepth 100000 in
theorem k_bodyOf_3 (l : Launch) (G : GG) (sz : Nat) (dp : Nat) (lg : Nat) (dv : List Value)  : Met l yX11_bodyOf (.code yX11_bodyOf cX11_bodyOf 2 (some (.object "PloughDepot$Plough")) :: TT) ({ frames := 3, cells := 1, slots := 3, locals := 300 } : Room) (c0_P G [.ref dp, .int 3] sz ([(dp, .inr (11, .ref lg :: dv))])) (va_Qr (S := Nat) (fun (u : Nat) => True) (fun (u : Nat) (a9 : Nat) (t : State) => a9 = u ∧ c0_B G (va_A ([(dp, .inr (11, .ref lg :: dv))]) sz) ([(dp, .inr (11, .ref lg :: dv)), (u, .inr (9, [.ref lg, .int 20, .int 400]))]) t) (va_A ([(dp, .inr (11, .ref lg :: dv))]) sz)) 1 3 (va_A ([(dp, .inr (11, .ref lg :: dv))]) sz) := by
  refine Met.ofW (cc := cX11_bodyOf) (maxL := 2) (ret := (some (.object "PloughDepot$Plough"))) (by decide) rfl ?_
  intro p e s m args below meth c s₁ B hml hv
  obtain ⟨rfl, hsz, hP, hK, hD0⟩ := hv
  have hx := B.exec
  have hb := B.bytes
  have hr := B.returns
  have hts := atoms_spec (ws := .code yX11_bodyOf cX11_bodyOf 2 (some (.object "PloughDepot$Plough")) :: TT) B.pre
  have ht := fun (w : Cond) (h : w ∈ TT) => hts w (List.mem_cons_of_mem _ h)
  have hown : s.vm.findClass RX11 = some m.cls := findClass_of_methodNamed B.named
  have hlocks := B.notSynchronized
  subst hsz
  have hD := hD0.self (sz := s.heap.size)
  generalize hAe : va_A ([(dp, .inr (11, .ref lg :: dv))]) s.heap.size = A at hD ⊢
  have hA : ∀ q : Nat, s.heap.size ≤ q → A q := fun q h => by rw [← hAe]; exact Or.inr h
  have hS : va_S A s.heap s.heap [] := va_S.rf
  have hP : va_P G.1 vwCl ([(dp, .inr (11, .ref lg :: dv))]) s.heap := hP
  have hl := lv_entry ([.ref dp, .int 3]) (n := 2) (Nat.le_of_ble_eq_true rfl)
  rw [lg_entry_eq]
  generalize (lg_sl ([.ref dp, .int 3]) ++ List.replicate (2 - (lg_sl ([.ref dp, .int 3])).length) Slot.unset).toArray = ls at hl ⊢
  have hl : lv_has ls 2 [(0, .ref dp), (1, .int 3)] := hl
  refine lv_iload_n hx hb dX11_bodyOf_0 rfl (lv_at hl 1 rfl) ?_
  refine lv_tableIn (tgt := 62) (off := 61) hx hb dX11_bodyOf_1 (by decide) (by decide) (by decide) (by decide) ?_
  refine va_new (D := G.1) (ci := 9) (fs := [.null, .int 0, .int 0]) (C := RX9) (T := TX9) (N := 3) hx hb ht inlX9 tyX9 tyX9_ok hown (ht (Cond.classLink RX11 359 RX9) mw_30_3) (ht (Cond.instantiable RX9 3) mw_30_4) (ht (Cond.initialized RX9) mw_30_5) hK.1 hP hD hS hA rfl (fun j hj => by rcases (show j = 0 ∨ j = 1 ∨ j = 2 by omega) with rfl | rfl | rfl <;> rfl) (Nat.le_of_ble_eq_true rfl) (Nat.le_of_ble_eq_true rfl) dX11_bodyOf_62 (fun q_1 H hP hD hS => ?_)
  have hP : va_P G.1 vwCl ([(dp, .inr (11, .ref lg :: dv)), (q_1, .inr (9, [.null, .int 0, .int 0]))]) H := hP
  have hD : va_D A ([(dp, .inr (11, .ref lg :: dv)), (q_1, .inr (9, [.null, .int 0, .int 0]))]) := hD
  refine W.widen (k := 1) (n := 3) (by omega) (by omega) ?_
  refine lv_dup hx hb dX11_bodyOf_65 rfl ?_
  refine lv_aload_n hx hb dX11_bodyOf_66 rfl (lv_at hl 0 rfl) ?_
  refine va_get (D := G.1) (ci := 11) (v := .ref lg) (C := RX11) (T := TX11) (N := 14) hx hb ht inlX11 hown hK.1 hP 0 rfl rfl 0 (by decide) (ht (Cond.fieldLink RX11 10 "PloughDepot" "log" "LPloughDepot$Log;") mw_1_15) (fun _ h9 => h9) rfl dX11_bodyOf_67 ?_
  refine lv_bipush (v := 20) hx hb dX11_bodyOf_70 (by decide) ?_
  refine lv_sipush (v := 400) hx hb dX11_bodyOf_72 (by decide) ?_
  have hPc := hP.sub (ws' := [(q_1, .inr (9, [.null, .int 0, .int 0]))]) [1] rfl
  have hDc := hD.sub (ws' := [(q_1, .inr (9, [.null, .int 0, .int 0]))]) [1] (by decide) rfl
  have hFc := va_free (wc := [(q_1, .inr (9, [.null, .int 0, .int 0]))]) hD hS hA [1] rfl
  refine va_callv (va_runI (As := [.ref lg, .int 20, .int 400]) (rest := [.ref q_1]) ⟨hx, hb, hml, hown, hts⟩ (k_sinit_9 l G _ q_1 lg 20 400 ) (cwI 3 hts (gd_T mw_30_16) rfl rfl rfl (ht (Cond.initialized RX9) mw_30_5) (ht (Cond.methodLink RX11 361 yX9_init) mw_30_14) (ht (Cond.instanceMethod yX9_init) mw_30_15) rfl yk_X9_init ⟨Nat.le_of_ble_eq_true rfl, Nat.le_of_ble_eq_true rfl⟩) (c0_pre hPc hK hDc) rfl rfl hl.1 rfl (lv_room (Nat.le_of_ble_eq_true rfl)) dX11_bodyOf_75 ⟨Nat.le_of_ble_eq_true rfl, Nat.le_of_ble_eq_true rfl⟩) hS (fun q _ h => hFc q h) hFc (fun u t H1 locs ht1 hvm hw hB hz1 hk1 hS => ?_)
  try dsimp only at hw hB
  obtain ⟨hP1, hD1⟩ := hB
  rw [ht1] at hP1
  obtain ⟨hP, hD⟩ := va_join (wr := [(dp, .inr (11, .ref lg :: dv))]) (w1 := [(q_1, .inr (9, [.ref lg, .int 20, .int 400]))]) hP hD [1] [0] rfl rfl (by decide) (by decide) hk1 hFc hP1 hD1
  generalize H1 = H at hP hS ⊢
  have hP : va_P G.1 vwCl ([(dp, .inr (11, .ref lg :: dv)), (q_1, .inr (9, [.ref lg, .int 20, .int 400]))]) H := hP
  have hD : va_D A ([(dp, .inr (11, .ref lg :: dv)), (q_1, .inr (9, [.ref lg, .int 20, .int 400]))]) := hD
  have hP9 := hP.sub (ws' := [(dp, .inr (11, .ref lg :: dv)), (q_1, .inr (9, [.ref lg, .int 20, .int 400]))]) [0, 1] rfl
  have hD9 := hD.sub (ws' := [(dp, .inr (11, .ref lg :: dv)), (q_1, .inr (9, [.ref lg, .int 20, .int 400]))]) [0, 1] (by decide) rfl
  exact W.aret (v := .ref q_1) hx hb hr (Or.inl ⟨_, rfl⟩) (Or.inr ⟨_, rfl⟩) (fun t ht hW => ⟨⟨q_1, q_1, rfl, trivial, ⟨rfl, ⟨by rw [ht]; exact hP9, hD9⟩⟩⟩, hS.F ht⟩) hS.2.2 dX11_bodyOf_78

set_option maxHeartbeats 4000000 in
set_option maxRecDepth 100000 in
theorem k_enlist_0 (l : Launch) (G : GG) (sz : Nat) (dp : Nat) (bo : Nat) (kd : Int32) (mi : Int32) (lg : Nat) (nw : Nat) (d2 : Value) (d3 : Value) (d4 : Value) (d5 : Value) (bd : Nat) (dv : List Value) (n0 : Value) (n1 : Value) (n2 : Value) (ntp : Nat) (nv : List Value) (ntpo : Nat) (ntpg : Nat → Option Nat) (bdf : Nat → Option Nat) (o0 : Value) (o1 : Value) (o2 : Value) (L : List Nat) (fp : Nat → va_E) (hRo : Ro G L fp) (hgntp : Gr L ntpg 9) : Met l yX11_enlist (.code yX11_enlist cX11_enlist 5 (some .int) :: TT) ({ frames := 3, cells := 0, slots := 0, locals := 300 } : Room) (c0_P G [.ref dp, .ref bo, .int kd, .int mi] sz ([(dp, .inr (11, .ref lg :: .ref nw :: d2 :: d3 :: d4 :: d5 :: .ref bd :: dv)), (nw, .inr (1, n0 :: n1 :: n2 :: .ref ntp :: nv)), (ntp, .inr (8, [.ref ntpo, .int 0])), (ntpo, .inl (G.2 5, 9, .inr (.inr (.inr (.inr ntpg))))), (bd, .inl (G.2 6, 12, .inr (.inr (.inr (.inr bdf))))), (bo, .inr (6, [o0, o1, o2]))] ++ va_pl L fp)) (va_Qi (S := (Nat → va_E) × (Nat → Option Nat)) (fun (r : Int32) (u : (Nat → va_E) × (Nat → Option Nat)) => r = 0 ∧ Ro G L u.1) (fun (u : (Nat → va_E) × (Nat → Option Nat)) (t : State) => c0_B G (va_A ([(dp, .inr (11, .ref lg :: .ref nw :: d2 :: d3 :: d4 :: d5 :: .ref bd :: dv)), (nw, .inr (1, n0 :: n1 :: n2 :: .ref ntp :: nv)), (ntp, .inr (8, [.ref ntpo, .int 0])), (ntpo, .inl (G.2 5, 9, .inr (.inr (.inr (.inr ntpg))))), (bd, .inl (G.2 6, 12, .inr (.inr (.inr (.inr bdf))))), (bo, .inr (6, [o0, o1, o2]))] ++ va_pl L fp) sz) ([(dp, .inr (11, .ref lg :: .ref nw :: d2 :: d3 :: d4 :: d5 :: .ref bd :: dv)), (nw, .inr (1, n0 :: n1 :: n2 :: .ref ntp :: nv)), (ntp, .inr (8, [.ref ntpo, .int 1])), (ntpo, .inl (G.2 5, 9, .inr (.inr (.inr (.inr ntpg))))), (bd, .inl (G.2 6, 12, .inr (.inr (.inr (.inr u.2))))), (bo, .inr (6, [o0, o1, o2]))] ++ va_pl L u.1) t) (va_A ([(dp, .inr (11, .ref lg :: .ref nw :: d2 :: d3 :: d4 :: d5 :: .ref bd :: dv)), (nw, .inr (1, n0 :: n1 :: n2 :: .ref ntp :: nv)), (ntp, .inr (8, [.ref ntpo, .int 0])), (ntpo, .inl (G.2 5, 9, .inr (.inr (.inr (.inr ntpg))))), (bd, .inl (G.2 6, 12, .inr (.inr (.inr (.inr bdf))))), (bo, .inr (6, [o0, o1, o2]))] ++ va_pl L fp) sz)) 0 0 (va_A ([(dp, .inr (11, .ref lg :: .ref nw :: d2 :: d3 :: d4 :: d5 :: .ref bd :: dv)), (nw, .inr (1, n0 :: n1 :: n2 :: .ref ntp :: nv)), (ntp, .inr (8, [.ref ntpo, .int 0])), (ntpo, .inl (G.2 5, 9, .inr (.inr (.inr (.inr ntpg))))), (bd, .inl (G.2 6, 12, .inr (.inr (.inr (.inr bdf))))), (bo, .inr (6, [o0, o1, o2]))] ++ va_pl L fp) sz) := by
  refine Met.ofW (cc := cX11_enlist) (maxL := 5) (ret := (some .int)) (by decide) rfl ?_
  intro p e s m args below meth c s₁ B hml hv
  obtain ⟨rfl, hsz, hP, hK, hD0⟩ := hv
  have hx := B.exec
  have hb := B.bytes
  have hr := B.returns
  have hts := atoms_spec (ws := .code yX11_enlist cX11_enlist 5 (some .int) :: TT) B.pre
  have ht := fun (w : Cond) (h : w ∈ TT) => hts w (List.mem_cons_of_mem _ h)
  have hown : s.vm.findClass RX11 = some m.cls := findClass_of_methodNamed B.named
  have hlocks := B.notSynchronized
  subst hsz
  have hD := hD0.self (sz := s.heap.size)
  generalize hAe : va_A ([(dp, .inr (11, .ref lg :: .ref nw :: d2 :: d3 :: d4 :: d5 :: .ref bd :: dv)), (nw, .inr (1, n0 :: n1 :: n2 :: .ref ntp :: nv)), (ntp, .inr (8, [.ref ntpo, .int 0])), (ntpo, .inl (G.2 5, 9, .inr (.inr (.inr (.inr ntpg))))), (bd, .inl (G.2 6, 12, .inr (.inr (.inr (.inr bdf))))), (bo, .inr (6, [o0, o1, o2]))] ++ va_pl L fp) s.heap.size = A at hD ⊢
  have hA : ∀ q : Nat, s.heap.size ≤ q → A q := fun q h => by rw [← hAe]; exact Or.inr h
  have hS : va_S A s.heap s.heap [] := va_S.rf
  have hP : va_P G.1 vwCl ([(dp, .inr (11, .ref lg :: .ref nw :: d2 :: d3 :: d4 :: d5 :: .ref bd :: dv)), (nw, .inr (1, n0 :: n1 :: n2 :: .ref ntp :: nv)), (ntp, .inr (8, [.ref ntpo, .int 0])), (ntpo, .inl (G.2 5, 9, .inr (.inr (.inr (.inr ntpg))))), (bd, .inl (G.2 6, 12, .inr (.inr (.inr (.inr bdf))))), (bo, .inr (6, [o0, o1, o2]))] ++ va_pl L fp) s.heap := hP
  have hl := lv_entry ([.ref dp, .ref bo, .int kd, .int mi]) (n := 5) (Nat.le_of_ble_eq_true rfl)
  rw [lg_entry_eq]
  generalize (lg_sl ([.ref dp, .ref bo, .int kd, .int mi]) ++ List.replicate (5 - (lg_sl ([.ref dp, .ref bo, .int kd, .int mi])).length) Slot.unset).toArray = ls at hl ⊢
  have hl : lv_has ls 5 [(0, .ref dp), (1, .ref bo), (2, .int kd), (3, .int mi)] := hl
  refine lv_aload_n hx hb dX11_enlist_0 rfl (lv_at hl 0 rfl) ?_
  refine va_get (D := G.1) (ci := 11) (v := .ref nw) (C := RX11) (T := TX11) (N := 14) hx hb ht inlX11 hown hK.1 hP 0 rfl rfl 1 (by decide) (ht (Cond.fieldLink RX11 19 "PloughDepot" "now" "LPloughDepot$Books;") mw_1_19) (fun _ h9 => h9) rfl dX11_enlist_1 ?_
  refine va_get (D := G.1) (ci := 1) (v := .ref ntp) (C := RX1) (T := TX1) (N := 8) hx hb ht inlX1 hown hK.1 hP 1 rfl rfl 3 (by decide) (ht (Cond.fieldLink RX11 203 "PloughDepot$Books" "ploughs" "LPloughDepot$Table;") mw_29_16) (fun _ h9 => h9) rfl dX11_enlist_4 ?_
  have hPc := va_P.part (X := [(dp, .inr (11, .ref lg :: .ref nw :: d2 :: d3 :: d4 :: d5 :: .ref bd :: dv)), (nw, .inr (1, n0 :: n1 :: n2 :: .ref ntp :: nv)), (ntp, .inr (8, [.ref ntpo, .int 0])), (ntpo, .inl (G.2 5, 9, .inr (.inr (.inr (.inr ntpg))))), (bd, .inl (G.2 6, 12, .inr (.inr (.inr (.inr bdf))))), (bo, .inr (6, [o0, o1, o2]))]) (cx := [(ntp, .inr (8, [.ref ntpo, .int 0])), (ntpo, .inl (G.2 5, 9, .inr (.inr (.inr (.inr ntpg)))))]) hP [2, 3] rfl
  have hDc := va_D.part (X := [(dp, .inr (11, .ref lg :: .ref nw :: d2 :: d3 :: d4 :: d5 :: .ref bd :: dv)), (nw, .inr (1, n0 :: n1 :: n2 :: .ref ntp :: nv)), (ntp, .inr (8, [.ref ntpo, .int 0])), (ntpo, .inl (G.2 5, 9, .inr (.inr (.inr (.inr ntpg))))), (bd, .inl (G.2 6, 12, .inr (.inr (.inr (.inr bdf))))), (bo, .inr (6, [o0, o1, o2]))]) (cx := [(ntp, .inr (8, [.ref ntpo, .int 0])), (ntpo, .inl (G.2 5, 9, .inr (.inr (.inr (.inr ntpg)))))]) hD [2, 3] (by decide) rfl
  have hFc := va_freeP (X := [(dp, .inr (11, .ref lg :: .ref nw :: d2 :: d3 :: d4 :: d5 :: .ref bd :: dv)), (nw, .inr (1, n0 :: n1 :: n2 :: .ref ntp :: nv)), (ntp, .inr (8, [.ref ntpo, .int 0])), (ntpo, .inl (G.2 5, 9, .inr (.inr (.inr (.inr ntpg))))), (bd, .inl (G.2 6, 12, .inr (.inr (.inr (.inr bdf))))), (bo, .inr (6, [o0, o1, o2]))]) (cx := [(ntp, .inr (8, [.ref ntpo, .int 0])), (ntpo, .inl (G.2 5, 9, .inr (.inr (.inr (.inr ntpg)))))]) hD hS hA [2, 3] rfl
  refine va_calli (va_runV (As := []) (rest := []) ⟨hx, hb, hml, hown, hts⟩ (k_tadd l G _ ntp ntpo ntpg L fp (by first | assumption | decide) (by first | assumption | decide)) (cwV 0 hts (gd_V mw_12_18 mw_12_19 mw_12_20 mw_3_13 mw_12_21) rfl rfl rfl ⟨rfl, yk_X8_add⟩ ⟨Nat.le_of_ble_eq_true rfl, Nat.le_of_ble_eq_true rfl⟩) (c0_preV (q0 := 0) (ci := 8) (q := (RX8, TX8, 2)) hPc hK hDc rfl rfl) rfl rfl hl.1 rfl (lv_room (Nat.le_of_ble_eq_true rfl)) dX11_enlist_7 ⟨Nat.le_of_ble_eq_true rfl, Nat.le_of_ble_eq_true rfl⟩) hS (fun q _ h => hFc q h) hFc (fun r_1 u t H1 locs ht1 hvm hw hB hz1 hk1 hS => ?_)
  obtain ⟨fp2_2, rfl⟩ : ∃ z, z = u := ⟨_, rfl⟩
  try dsimp only at hw hB
  obtain ⟨hr2, hq2_0⟩ := hw
  have hRo := hq2_0
  obtain rfl := hr2.symm
  obtain ⟨hP1, hD1⟩ := hB
  rw [ht1] at hP1
  obtain ⟨hP, hD⟩ := va_joinP (X := [(dp, .inr (11, .ref lg :: .ref nw :: d2 :: d3 :: d4 :: d5 :: .ref bd :: dv)), (nw, .inr (1, n0 :: n1 :: n2 :: .ref ntp :: nv)), (ntp, .inr (8, [.ref ntpo, .int 0])), (ntpo, .inl (G.2 5, 9, .inr (.inr (.inr (.inr ntpg))))), (bd, .inl (G.2 6, 12, .inr (.inr (.inr (.inr bdf))))), (bo, .inr (6, [o0, o1, o2]))]) (cx := [(ntp, .inr (8, [.ref ntpo, .int 0])), (ntpo, .inl (G.2 5, 9, .inr (.inr (.inr (.inr ntpg)))))]) (wr := [(dp, .inr (11, .ref lg :: .ref nw :: d2 :: d3 :: d4 :: d5 :: .ref bd :: dv)), (nw, .inr (1, n0 :: n1 :: n2 :: .ref ntp :: nv)), (bd, .inl (G.2 6, 12, .inr (.inr (.inr (.inr bdf))))), (bo, .inr (6, [o0, o1, o2]))]) (rx := [(ntp, .inr (8, [.ref ntpo, .int 1])), (ntpo, .inl (G.2 5, 9, .inr (.inr (.inr (.inr ntpg)))))]) (pl1 := va_pl L fp2_2) hP hD [2, 3] [0, 1, 4, 5] rfl rfl (by decide) (by decide) hk1 hFc hP1 hD1
  generalize H1 = H at hP hS ⊢
  have hP : va_P G.1 vwCl ([(dp, .inr (11, .ref lg :: .ref nw :: d2 :: d3 :: d4 :: d5 :: .ref bd :: dv)), (nw, .inr (1, n0 :: n1 :: n2 :: .ref ntp :: nv)), (bd, .inl (G.2 6, 12, .inr (.inr (.inr (.inr bdf))))), (bo, .inr (6, [o0, o1, o2])), (ntp, .inr (8, [.ref ntpo, .int 1])), (ntpo, .inl (G.2 5, 9, .inr (.inr (.inr (.inr ntpg)))))] ++ va_pl L fp2_2) H := hP
  have hD : va_D A ([(dp, .inr (11, .ref lg :: .ref nw :: d2 :: d3 :: d4 :: d5 :: .ref bd :: dv)), (nw, .inr (1, n0 :: n1 :: n2 :: .ref ntp :: nv)), (bd, .inl (G.2 6, 12, .inr (.inr (.inr (.inr bdf))))), (bo, .inr (6, [o0, o1, o2])), (ntp, .inr (8, [.ref ntpo, .int 1])), (ntpo, .inl (G.2 5, 9, .inr (.inr (.inr (.inr ntpg)))))] ++ va_pl L fp2_2) := hD
  refine lv_istore (lv' := [(4, .int 0), (0, .ref dp), (1, .ref bo), (2, .int kd), (3, .int mi)]) hx hb dX11_enlist_10 hl (by decide) rfl (fun ls hl => ?_)
  refine lv_aload_n hx hb dX11_enlist_12 rfl (lv_at hl 1 rfl) ?_
  refine va_get (D := G.1) (ci := 11) (v := .ref bd) (C := RX11) (T := TX11) (N := 14) hx hb ht inlX11 hown hK.1 hP 0 rfl rfl 6 (by decide) (ht (Cond.fieldLink RX11 55 "PloughDepot" "bodies" "[LPloughDepot$Plough;") mw_2_10) (fun _ h9 => h9) rfl dX11_enlist_13 ?_
  refine lv_iload hx hb dX11_enlist_16 (lv_at hl 0 rfl) ?_
  refine lv_aload_n hx hb dX11_enlist_18 rfl (lv_at hl 2 rfl) ?_
  refine va_astq hx hb hK.1 hP hD hS 2 6 3 6 (r := (RX6, TX6, 3)) rfl rfl rfl rfl (show ¬ ((0 : Int32) < 0 ∨ 12 ≤ (0 : Int32).toNatClampNeg) by decide) dX11_enlist_19 (fun H locs hP hD hS => ?_)
  have hP : va_P G.1 vwCl ([(dp, .inr (11, .ref lg :: .ref nw :: d2 :: d3 :: d4 :: d5 :: .ref bd :: dv)), (nw, .inr (1, n0 :: n1 :: n2 :: .ref ntp :: nv)), (bd, .inl (G.2 6, 12, .inr (.inr (.inr (.inr (va_up bdf (0 : Int32).toNatClampNeg (some bo))))))), (bo, .inr (6, [o0, o1, o2])), (ntp, .inr (8, [.ref ntpo, .int 1])), (ntpo, .inl (G.2 5, 9, .inr (.inr (.inr (.inr ntpg)))))] ++ va_pl L fp2_2) H := hP
  have hD : va_D A ([(dp, .inr (11, .ref lg :: .ref nw :: d2 :: d3 :: d4 :: d5 :: .ref bd :: dv)), (nw, .inr (1, n0 :: n1 :: n2 :: .ref ntp :: nv)), (bd, .inl (G.2 6, 12, .inr (.inr (.inr (.inr (va_up bdf (0 : Int32).toNatClampNeg (some bo))))))), (bo, .inr (6, [o0, o1, o2])), (ntp, .inr (8, [.ref ntpo, .int 1])), (ntpo, .inl (G.2 5, 9, .inr (.inr (.inr (.inr ntpg)))))] ++ va_pl L fp2_2) := hD
  generalize va_up bdf (0 : Int32).toNatClampNeg (some bo) = f_3 at hP hD
  refine lv_aload_n hx hb dX11_enlist_20 rfl (lv_at hl 1 rfl) ?_
  refine va_get (D := G.1) (ci := 11) (v := .ref nw) (C := RX11) (T := TX11) (N := 14) hx hb ht inlX11 hown hK.1 hP 0 rfl rfl 1 (by decide) (ht (Cond.fieldLink RX11 19 "PloughDepot" "now" "LPloughDepot$Books;") mw_1_19) (fun _ h9 => h9) rfl dX11_enlist_21 ?_
  refine va_get (D := G.1) (ci := 1) (v := .ref ntp) (C := RX1) (T := TX1) (N := 8) hx hb ht inlX1 hown hK.1 hP 1 rfl rfl 3 (by decide) (ht (Cond.fieldLink RX11 203 "PloughDepot$Books" "ploughs" "LPloughDepot$Table;") mw_29_16) (fun _ h9 => h9) rfl dX11_enlist_24 ?_
  refine lv_iload hx hb dX11_enlist_27 (lv_at hl 0 rfl) ?_
  refine lv_bipush (v := 6) hx hb dX11_enlist_29 (by decide) ?_
  refine lv_iload_n hx hb dX11_enlist_31 rfl (lv_at hl 3 rfl) ?_
  have hPc := va_P.part (X := [(dp, .inr (11, .ref lg :: .ref nw :: d2 :: d3 :: d4 :: d5 :: .ref bd :: dv)), (nw, .inr (1, n0 :: n1 :: n2 :: .ref ntp :: nv)), (bd, .inl (G.2 6, 12, .inr (.inr (.inr (.inr f_3))))), (bo, .inr (6, [o0, o1, o2])), (ntp, .inr (8, [.ref ntpo, .int 1])), (ntpo, .inl (G.2 5, 9, .inr (.inr (.inr (.inr ntpg)))))]) (cx := [(ntp, .inr (8, [.ref ntpo, .int 1])), (ntpo, .inl (G.2 5, 9, .inr (.inr (.inr (.inr ntpg)))))]) hP [4, 5] rfl
  have hDc := va_D.part (X := [(dp, .inr (11, .ref lg :: .ref nw :: d2 :: d3 :: d4 :: d5 :: .ref bd :: dv)), (nw, .inr (1, n0 :: n1 :: n2 :: .ref ntp :: nv)), (bd, .inl (G.2 6, 12, .inr (.inr (.inr (.inr f_3))))), (bo, .inr (6, [o0, o1, o2])), (ntp, .inr (8, [.ref ntpo, .int 1])), (ntpo, .inl (G.2 5, 9, .inr (.inr (.inr (.inr ntpg)))))]) (cx := [(ntp, .inr (8, [.ref ntpo, .int 1])), (ntpo, .inl (G.2 5, 9, .inr (.inr (.inr (.inr ntpg)))))]) hD [4, 5] (by decide) rfl
  have hFc := va_freeP (X := [(dp, .inr (11, .ref lg :: .ref nw :: d2 :: d3 :: d4 :: d5 :: .ref bd :: dv)), (nw, .inr (1, n0 :: n1 :: n2 :: .ref ntp :: nv)), (bd, .inl (G.2 6, 12, .inr (.inr (.inr (.inr f_3))))), (bo, .inr (6, [o0, o1, o2])), (ntp, .inr (8, [.ref ntpo, .int 1])), (ntpo, .inl (G.2 5, 9, .inr (.inr (.inr (.inr ntpg)))))]) (cx := [(ntp, .inr (8, [.ref ntpo, .int 1])), (ntpo, .inl (G.2 5, 9, .inr (.inr (.inr (.inr ntpg)))))]) hD hS hA [4, 5] rfl
  refine va_callv (va_runV (As := [.int 0, .int 6, .int kd]) (rest := []) ⟨hx, hb, hml, hown, hts⟩ (k_tput6 l G _ ntp kd ntpo ntpg L fp2_2 (by first | assumption | decide) (by first | assumption | decide)) (cwV 3 hts (gd_V mw_12_22 mw_12_23 mw_13_0 mw_3_13 mw_13_1) rfl rfl rfl ⟨rfl, yk_X8_put⟩ ⟨Nat.le_of_ble_eq_true rfl, Nat.le_of_ble_eq_true rfl⟩) (c0_preV (q0 := 0) (ci := 8) (q := (RX8, TX8, 2)) hPc hK hDc rfl rfl) rfl rfl hl.1 rfl (lv_room (Nat.le_of_ble_eq_true rfl)) dX11_enlist_32 ⟨Nat.le_of_ble_eq_true rfl, Nat.le_of_ble_eq_true rfl⟩) hS (fun q _ h => hFc q h) hFc (fun u t H1 locs ht1 hvm hw hB hz1 hk1 hS => ?_)
  obtain ⟨fp2_4, rfl⟩ : ∃ z, z = u := ⟨_, rfl⟩
  try dsimp only at hw hB
  have hq4_0 := hw
  have hRo := hq4_0
  obtain ⟨hP1, hD1⟩ := hB
  rw [ht1] at hP1
  obtain ⟨hP, hD⟩ := va_joinP (X := [(dp, .inr (11, .ref lg :: .ref nw :: d2 :: d3 :: d4 :: d5 :: .ref bd :: dv)), (nw, .inr (1, n0 :: n1 :: n2 :: .ref ntp :: nv)), (bd, .inl (G.2 6, 12, .inr (.inr (.inr (.inr f_3))))), (bo, .inr (6, [o0, o1, o2])), (ntp, .inr (8, [.ref ntpo, .int 1])), (ntpo, .inl (G.2 5, 9, .inr (.inr (.inr (.inr ntpg)))))]) (cx := [(ntp, .inr (8, [.ref ntpo, .int 1])), (ntpo, .inl (G.2 5, 9, .inr (.inr (.inr (.inr ntpg)))))]) (wr := [(dp, .inr (11, .ref lg :: .ref nw :: d2 :: d3 :: d4 :: d5 :: .ref bd :: dv)), (nw, .inr (1, n0 :: n1 :: n2 :: .ref ntp :: nv)), (bd, .inl (G.2 6, 12, .inr (.inr (.inr (.inr f_3))))), (bo, .inr (6, [o0, o1, o2]))]) (rx := [(ntp, .inr (8, [.ref ntpo, .int 1])), (ntpo, .inl (G.2 5, 9, .inr (.inr (.inr (.inr ntpg)))))]) (pl1 := va_pl L fp2_4) hP hD [4, 5] [0, 1, 2, 3] rfl rfl (by decide) (by decide) hk1 hFc hP1 hD1
  generalize H1 = H at hP hS ⊢
  have hP : va_P G.1 vwCl ([(dp, .inr (11, .ref lg :: .ref nw :: d2 :: d3 :: d4 :: d5 :: .ref bd :: dv)), (nw, .inr (1, n0 :: n1 :: n2 :: .ref ntp :: nv)), (bd, .inl (G.2 6, 12, .inr (.inr (.inr (.inr f_3))))), (bo, .inr (6, [o0, o1, o2])), (ntp, .inr (8, [.ref ntpo, .int 1])), (ntpo, .inl (G.2 5, 9, .inr (.inr (.inr (.inr ntpg)))))] ++ va_pl L fp2_4) H := hP
  have hD : va_D A ([(dp, .inr (11, .ref lg :: .ref nw :: d2 :: d3 :: d4 :: d5 :: .ref bd :: dv)), (nw, .inr (1, n0 :: n1 :: n2 :: .ref ntp :: nv)), (bd, .inl (G.2 6, 12, .inr (.inr (.inr (.inr f_3))))), (bo, .inr (6, [o0, o1, o2])), (ntp, .inr (8, [.ref ntpo, .int 1])), (ntpo, .inl (G.2 5, 9, .inr (.inr (.inr (.inr ntpg)))))] ++ va_pl L fp2_4) := hD
  refine lv_aload_n hx hb dX11_enlist_35 rfl (lv_at hl 1 rfl) ?_
  refine va_get (D := G.1) (ci := 11) (v := .ref nw) (C := RX11) (T := TX11) (N := 14) hx hb ht inlX11 hown hK.1 hP 0 rfl rfl 1 (by decide) (ht (Cond.fieldLink RX11 19 "PloughDepot" "now" "LPloughDepot$Books;") mw_1_19) (fun _ h9 => h9) rfl dX11_enlist_36 ?_
  refine va_get (D := G.1) (ci := 1) (v := .ref ntp) (C := RX1) (T := TX1) (N := 8) hx hb ht inlX1 hown hK.1 hP 1 rfl rfl 3 (by decide) (ht (Cond.fieldLink RX11 203 "PloughDepot$Books" "ploughs" "LPloughDepot$Table;") mw_29_16) (fun _ h9 => h9) rfl dX11_enlist_39 ?_
  refine lv_iload hx hb dX11_enlist_42 (lv_at hl 0 rfl) ?_
  refine lv_iconst (v := 5) hx hb dX11_enlist_44 (by decide) ?_
  refine lv_iload_n hx hb dX11_enlist_45 rfl (lv_at hl 4 rfl) ?_
  have hPc := va_P.part (X := [(dp, .inr (11, .ref lg :: .ref nw :: d2 :: d3 :: d4 :: d5 :: .ref bd :: dv)), (nw, .inr (1, n0 :: n1 :: n2 :: .ref ntp :: nv)), (bd, .inl (G.2 6, 12, .inr (.inr (.inr (.inr f_3))))), (bo, .inr (6, [o0, o1, o2])), (ntp, .inr (8, [.ref ntpo, .int 1])), (ntpo, .inl (G.2 5, 9, .inr (.inr (.inr (.inr ntpg)))))]) (cx := [(ntp, .inr (8, [.ref ntpo, .int 1])), (ntpo, .inl (G.2 5, 9, .inr (.inr (.inr (.inr ntpg)))))]) hP [4, 5] rfl
  have hDc := va_D.part (X := [(dp, .inr (11, .ref lg :: .ref nw :: d2 :: d3 :: d4 :: d5 :: .ref bd :: dv)), (nw, .inr (1, n0 :: n1 :: n2 :: .ref ntp :: nv)), (bd, .inl (G.2 6, 12, .inr (.inr (.inr (.inr f_3))))), (bo, .inr (6, [o0, o1, o2])), (ntp, .inr (8, [.ref ntpo, .int 1])), (ntpo, .inl (G.2 5, 9, .inr (.inr (.inr (.inr ntpg)))))]) (cx := [(ntp, .inr (8, [.ref ntpo, .int 1])), (ntpo, .inl (G.2 5, 9, .inr (.inr (.inr (.inr ntpg)))))]) hD [4, 5] (by decide) rfl
  have hFc := va_freeP (X := [(dp, .inr (11, .ref lg :: .ref nw :: d2 :: d3 :: d4 :: d5 :: .ref bd :: dv)), (nw, .inr (1, n0 :: n1 :: n2 :: .ref ntp :: nv)), (bd, .inl (G.2 6, 12, .inr (.inr (.inr (.inr f_3))))), (bo, .inr (6, [o0, o1, o2])), (ntp, .inr (8, [.ref ntpo, .int 1])), (ntpo, .inl (G.2 5, 9, .inr (.inr (.inr (.inr ntpg)))))]) (cx := [(ntp, .inr (8, [.ref ntpo, .int 1])), (ntpo, .inl (G.2 5, 9, .inr (.inr (.inr (.inr ntpg)))))]) hD hS hA [4, 5] rfl
  refine va_callv (va_runV (As := [.int 0, .int 5, .int mi]) (rest := []) ⟨hx, hb, hml, hown, hts⟩ (k_tput5 l G _ ntp mi ntpo ntpg L fp2_4 (by first | assumption | decide) (by first | assumption | decide)) (cwV 3 hts (gd_V mw_12_22 mw_12_23 mw_13_0 mw_3_13 mw_13_1) rfl rfl rfl ⟨rfl, yk_X8_put⟩ ⟨Nat.le_of_ble_eq_true rfl, Nat.le_of_ble_eq_true rfl⟩) (c0_preV (q0 := 0) (ci := 8) (q := (RX8, TX8, 2)) hPc hK hDc rfl rfl) rfl rfl hl.1 rfl (lv_room (Nat.le_of_ble_eq_true rfl)) dX11_enlist_46 ⟨Nat.le_of_ble_eq_true rfl, Nat.le_of_ble_eq_true rfl⟩) hS (fun q _ h => hFc q h) hFc (fun u t H1 locs ht1 hvm hw hB hz1 hk1 hS => ?_)
  obtain ⟨fp2_5, rfl⟩ : ∃ z, z = u := ⟨_, rfl⟩
  try dsimp only at hw hB
  have hq5_0 := hw
  have hRo := hq5_0
  obtain ⟨hP1, hD1⟩ := hB
  rw [ht1] at hP1
  obtain ⟨hP, hD⟩ := va_joinP (X := [(dp, .inr (11, .ref lg :: .ref nw :: d2 :: d3 :: d4 :: d5 :: .ref bd :: dv)), (nw, .inr (1, n0 :: n1 :: n2 :: .ref ntp :: nv)), (bd, .inl (G.2 6, 12, .inr (.inr (.inr (.inr f_3))))), (bo, .inr (6, [o0, o1, o2])), (ntp, .inr (8, [.ref ntpo, .int 1])), (ntpo, .inl (G.2 5, 9, .inr (.inr (.inr (.inr ntpg)))))]) (cx := [(ntp, .inr (8, [.ref ntpo, .int 1])), (ntpo, .inl (G.2 5, 9, .inr (.inr (.inr (.inr ntpg)))))]) (wr := [(dp, .inr (11, .ref lg :: .ref nw :: d2 :: d3 :: d4 :: d5 :: .ref bd :: dv)), (nw, .inr (1, n0 :: n1 :: n2 :: .ref ntp :: nv)), (bd, .inl (G.2 6, 12, .inr (.inr (.inr (.inr f_3))))), (bo, .inr (6, [o0, o1, o2]))]) (rx := [(ntp, .inr (8, [.ref ntpo, .int 1])), (ntpo, .inl (G.2 5, 9, .inr (.inr (.inr (.inr ntpg)))))]) (pl1 := va_pl L fp2_5) hP hD [4, 5] [0, 1, 2, 3] rfl rfl (by decide) (by decide) hk1 hFc hP1 hD1
  generalize H1 = H at hP hS ⊢
  have hP : va_P G.1 vwCl ([(dp, .inr (11, .ref lg :: .ref nw :: d2 :: d3 :: d4 :: d5 :: .ref bd :: dv)), (nw, .inr (1, n0 :: n1 :: n2 :: .ref ntp :: nv)), (bd, .inl (G.2 6, 12, .inr (.inr (.inr (.inr f_3))))), (bo, .inr (6, [o0, o1, o2])), (ntp, .inr (8, [.ref ntpo, .int 1])), (ntpo, .inl (G.2 5, 9, .inr (.inr (.inr (.inr ntpg)))))] ++ va_pl L fp2_5) H := hP
  have hD : va_D A ([(dp, .inr (11, .ref lg :: .ref nw :: d2 :: d3 :: d4 :: d5 :: .ref bd :: dv)), (nw, .inr (1, n0 :: n1 :: n2 :: .ref ntp :: nv)), (bd, .inl (G.2 6, 12, .inr (.inr (.inr (.inr f_3))))), (bo, .inr (6, [o0, o1, o2])), (ntp, .inr (8, [.ref ntpo, .int 1])), (ntpo, .inl (G.2 5, 9, .inr (.inr (.inr (.inr ntpg)))))] ++ va_pl L fp2_5) := hD
  refine lv_iload hx hb dX11_enlist_49 (lv_at hl 0 rfl) ?_
  have hP9 := va_P.part (X := [(dp, .inr (11, .ref lg :: .ref nw :: d2 :: d3 :: d4 :: d5 :: .ref bd :: dv)), (nw, .inr (1, n0 :: n1 :: n2 :: .ref ntp :: nv)), (bd, .inl (G.2 6, 12, .inr (.inr (.inr (.inr f_3))))), (bo, .inr (6, [o0, o1, o2])), (ntp, .inr (8, [.ref ntpo, .int 1])), (ntpo, .inl (G.2 5, 9, .inr (.inr (.inr (.inr ntpg)))))]) (cx := [(dp, .inr (11, .ref lg :: .ref nw :: d2 :: d3 :: d4 :: d5 :: .ref bd :: dv)), (nw, .inr (1, n0 :: n1 :: n2 :: .ref ntp :: nv)), (ntp, .inr (8, [.ref ntpo, .int 1])), (ntpo, .inl (G.2 5, 9, .inr (.inr (.inr (.inr ntpg))))), (bd, .inl (G.2 6, 12, .inr (.inr (.inr (.inr f_3))))), (bo, .inr (6, [o0, o1, o2]))]) hP [0, 1, 4, 5, 2, 3] rfl
  have hD9 := va_D.part (X := [(dp, .inr (11, .ref lg :: .ref nw :: d2 :: d3 :: d4 :: d5 :: .ref bd :: dv)), (nw, .inr (1, n0 :: n1 :: n2 :: .ref ntp :: nv)), (bd, .inl (G.2 6, 12, .inr (.inr (.inr (.inr f_3))))), (bo, .inr (6, [o0, o1, o2])), (ntp, .inr (8, [.ref ntpo, .int 1])), (ntpo, .inl (G.2 5, 9, .inr (.inr (.inr (.inr ntpg)))))]) (cx := [(dp, .inr (11, .ref lg :: .ref nw :: d2 :: d3 :: d4 :: d5 :: .ref bd :: dv)), (nw, .inr (1, n0 :: n1 :: n2 :: .ref ntp :: nv)), (ntp, .inr (8, [.ref ntpo, .int 1])), (ntpo, .inl (G.2 5, 9, .inr (.inr (.inr (.inr ntpg))))), (bd, .inl (G.2 6, 12, .inr (.inr (.inr (.inr f_3))))), (bo, .inr (6, [o0, o1, o2]))]) hD [0, 1, 4, 5, 2, 3] (by decide) rfl
  exact W.iret (v := 0) hx hb hr (fun t ht hW => ⟨⟨0, (fp2_5, f_3), rfl, ⟨rfl, hRo⟩, ⟨by rw [ht]; exact hP9, hD9⟩⟩, hS.F ht⟩) hS.2.2 dX11_enlist_51

set_option maxHeartbeats 4000000 in
set_option maxRecDepth 100000 in
theorem k_enlist_1 (l : Launch) (G : GG) (sz : Nat) (dp : Nat) (bo : Nat) (kd : Int32) (mi : Int32) (lg : Nat) (nw : Nat) (d2 : Value) (d3 : Value) (d4 : Value) (d5 : Value) (bd : Nat) (dv : List Value) (n0 : Value) (n1 : Value) (n2 : Value) (ntp : Nat) (nv : List Value) (ntpo : Nat) (ntpg : Nat → Option Nat) (bdf : Nat → Option Nat) (o0 : Value) (o1 : Value) (o2 : Value) (L : List Nat) (fp : Nat → va_E) (hRo : Ro G L fp) (hgntp : Gr L ntpg 9) : Met l yX11_enlist (.code yX11_enlist cX11_enlist 5 (some .int) :: TT) ({ frames := 3, cells := 0, slots := 0, locals := 300 } : Room) (c0_P G [.ref dp, .ref bo, .int kd, .int mi] sz ([(dp, .inr (11, .ref lg :: .ref nw :: d2 :: d3 :: d4 :: d5 :: .ref bd :: dv)), (nw, .inr (1, n0 :: n1 :: n2 :: .ref ntp :: nv)), (ntp, .inr (8, [.ref ntpo, .int 0])), (ntpo, .inl (G.2 5, 9, .inr (.inr (.inr (.inr ntpg))))), (bd, .inl (G.2 6, 12, .inr (.inr (.inr (.inr bdf))))), (bo, .inr (0, [o0, o1, o2]))] ++ va_pl L fp)) (va_Qi (S := (Nat → va_E) × (Nat → Option Nat)) (fun (r : Int32) (u : (Nat → va_E) × (Nat → Option Nat)) => r = 0 ∧ Ro G L u.1) (fun (u : (Nat → va_E) × (Nat → Option Nat)) (t : State) => c0_B G (va_A ([(dp, .inr (11, .ref lg :: .ref nw :: d2 :: d3 :: d4 :: d5 :: .ref bd :: dv)), (nw, .inr (1, n0 :: n1 :: n2 :: .ref ntp :: nv)), (ntp, .inr (8, [.ref ntpo, .int 0])), (ntpo, .inl (G.2 5, 9, .inr (.inr (.inr (.inr ntpg))))), (bd, .inl (G.2 6, 12, .inr (.inr (.inr (.inr bdf))))), (bo, .inr (0, [o0, o1, o2]))] ++ va_pl L fp) sz) ([(dp, .inr (11, .ref lg :: .ref nw :: d2 :: d3 :: d4 :: d5 :: .ref bd :: dv)), (nw, .inr (1, n0 :: n1 :: n2 :: .ref ntp :: nv)), (ntp, .inr (8, [.ref ntpo, .int 1])), (ntpo, .inl (G.2 5, 9, .inr (.inr (.inr (.inr ntpg))))), (bd, .inl (G.2 6, 12, .inr (.inr (.inr (.inr u.2))))), (bo, .inr (0, [o0, o1, o2]))] ++ va_pl L u.1) t) (va_A ([(dp, .inr (11, .ref lg :: .ref nw :: d2 :: d3 :: d4 :: d5 :: .ref bd :: dv)), (nw, .inr (1, n0 :: n1 :: n2 :: .ref ntp :: nv)), (ntp, .inr (8, [.ref ntpo, .int 0])), (ntpo, .inl (G.2 5, 9, .inr (.inr (.inr (.inr ntpg))))), (bd, .inl (G.2 6, 12, .inr (.inr (.inr (.inr bdf))))), (bo, .inr (0, [o0, o1, o2]))] ++ va_pl L fp) sz)) 0 0 (va_A ([(dp, .inr (11, .ref lg :: .ref nw :: d2 :: d3 :: d4 :: d5 :: .ref bd :: dv)), (nw, .inr (1, n0 :: n1 :: n2 :: .ref ntp :: nv)), (ntp, .inr (8, [.ref ntpo, .int 0])), (ntpo, .inl (G.2 5, 9, .inr (.inr (.inr (.inr ntpg))))), (bd, .inl (G.2 6, 12, .inr (.inr (.inr (.inr bdf))))), (bo, .inr (0, [o0, o1, o2]))] ++ va_pl L fp) sz) := by
  refine Met.ofW (cc := cX11_enlist) (maxL := 5) (ret := (some .int)) (by decide) rfl ?_
  intro p e s m args below meth c s₁ B hml hv
  obtain ⟨rfl, hsz, hP, hK, hD0⟩ := hv
  have hx := B.exec
  have hb := B.bytes
  have hr := B.returns
  have hts := atoms_spec (ws := .code yX11_enlist cX11_enlist 5 (some .int) :: TT) B.pre
  have ht := fun (w : Cond) (h : w ∈ TT) => hts w (List.mem_cons_of_mem _ h)
  have hown : s.vm.findClass RX11 = some m.cls := findClass_of_methodNamed B.named
  have hlocks := B.notSynchronized
  subst hsz
  have hD := hD0.self (sz := s.heap.size)
  generalize hAe : va_A ([(dp, .inr (11, .ref lg :: .ref nw :: d2 :: d3 :: d4 :: d5 :: .ref bd :: dv)), (nw, .inr (1, n0 :: n1 :: n2 :: .ref ntp :: nv)), (ntp, .inr (8, [.ref ntpo, .int 0])), (ntpo, .inl (G.2 5, 9, .inr (.inr (.inr (.inr ntpg))))), (bd, .inl (G.2 6, 12, .inr (.inr (.inr (.inr bdf))))), (bo, .inr (0, [o0, o1, o2]))] ++ va_pl L fp) s.heap.size = A at hD ⊢
  have hA : ∀ q : Nat, s.heap.size ≤ q → A q := fun q h => by rw [← hAe]; exact Or.inr h
  have hS : va_S A s.heap s.heap [] := va_S.rf
  have hP : va_P G.1 vwCl ([(dp, .inr (11, .ref lg :: .ref nw :: d2 :: d3 :: d4 :: d5 :: .ref bd :: dv)), (nw, .inr (1, n0 :: n1 :: n2 :: .ref ntp :: nv)), (ntp, .inr (8, [.ref ntpo, .int 0])), (ntpo, .inl (G.2 5, 9, .inr (.inr (.inr (.inr ntpg))))), (bd, .inl (G.2 6, 12, .inr (.inr (.inr (.inr bdf))))), (bo, .inr (0, [o0, o1, o2]))] ++ va_pl L fp) s.heap := hP
  have hl := lv_entry ([.ref dp, .ref bo, .int kd, .int mi]) (n := 5) (Nat.le_of_ble_eq_true rfl)
  rw [lg_entry_eq]
  generalize (lg_sl ([.ref dp, .ref bo, .int kd, .int mi]) ++ List.replicate (5 - (lg_sl ([.ref dp, .ref bo, .int kd, .int mi])).length) Slot.unset).toArray = ls at hl ⊢
  have hl : lv_has ls 5 [(0, .ref dp), (1, .ref bo), (2, .int kd), (3, .int mi)] := hl
  refine lv_aload_n hx hb dX11_enlist_0 rfl (lv_at hl 0 rfl) ?_
  refine va_get (D := G.1) (ci := 11) (v := .ref nw) (C := RX11) (T := TX11) (N := 14) hx hb ht inlX11 hown hK.1 hP 0 rfl rfl 1 (by decide) (ht (Cond.fieldLink RX11 19 "PloughDepot" "now" "LPloughDepot$Books;") mw_1_19) (fun _ h9 => h9) rfl dX11_enlist_1 ?_
  refine va_get (D := G.1) (ci := 1) (v := .ref ntp) (C := RX1) (T := TX1) (N := 8) hx hb ht inlX1 hown hK.1 hP 1 rfl rfl 3 (by decide) (ht (Cond.fieldLink RX11 203 "PloughDepot$Books" "ploughs" "LPloughDepot$Table;") mw_29_16) (fun _ h9 => h9) rfl dX11_enlist_4 ?_
  have hPc := va_P.part (X := [(dp, .inr (11, .ref lg :: .ref nw :: d2 :: d3 :: d4 :: d5 :: .ref bd :: dv)), (nw, .inr (1, n0 :: n1 :: n2 :: .ref ntp :: nv)), (ntp, .inr (8, [.ref ntpo, .int 0])), (ntpo, .inl (G.2 5, 9, .inr (.inr (.inr (.inr ntpg))))), (bd, .inl (G.2 6, 12, .inr (.inr (.inr (.inr bdf))))), (bo, .inr (0, [o0, o1, o2]))]) (cx := [(ntp, .inr (8, [.ref ntpo, .int 0])), (ntpo, .inl (G.2 5, 9, .inr (.inr (.inr (.inr ntpg)))))]) hP [2, 3] rfl
  have hDc := va_D.part (X := [(dp, .inr (11, .ref lg :: .ref nw :: d2 :: d3 :: d4 :: d5 :: .ref bd :: dv)), (nw, .inr (1, n0 :: n1 :: n2 :: .ref ntp :: nv)), (ntp, .inr (8, [.ref ntpo, .int 0])), (ntpo, .inl (G.2 5, 9, .inr (.inr (.inr (.inr ntpg))))), (bd, .inl (G.2 6, 12, .inr (.inr (.inr (.inr bdf))))), (bo, .inr (0, [o0, o1, o2]))]) (cx := [(ntp, .inr (8, [.ref ntpo, .int 0])), (ntpo, .inl (G.2 5, 9, .inr (.inr (.inr (.inr ntpg)))))]) hD [2, 3] (by decide) rfl
  have hFc := va_freeP (X := [(dp, .inr (11, .ref lg :: .ref nw :: d2 :: d3 :: d4 :: d5 :: .ref bd :: dv)), (nw, .inr (1, n0 :: n1 :: n2 :: .ref ntp :: nv)), (ntp, .inr (8, [.ref ntpo, .int 0])), (ntpo, .inl (G.2 5, 9, .inr (.inr (.inr (.inr ntpg))))), (bd, .inl (G.2 6, 12, .inr (.inr (.inr (.inr bdf))))), (bo, .inr (0, [o0, o1, o2]))]) (cx := [(ntp, .inr (8, [.ref ntpo, .int 0])), (ntpo, .inl (G.2 5, 9, .inr (.inr (.inr (.inr ntpg)))))]) hD hS hA [2, 3] rfl
  refine va_calli (va_runV (As := []) (rest := []) ⟨hx, hb, hml, hown, hts⟩ (k_tadd l G _ ntp ntpo ntpg L fp (by first | assumption | decide) (by first | assumption | decide)) (cwV 0 hts (gd_V mw_12_18 mw_12_19 mw_12_20 mw_3_13 mw_12_21) rfl rfl rfl ⟨rfl, yk_X8_add⟩ ⟨Nat.le_of_ble_eq_true rfl, Nat.le_of_ble_eq_true rfl⟩) (c0_preV (q0 := 0) (ci := 8) (q := (RX8, TX8, 2)) hPc hK hDc rfl rfl) rfl rfl hl.1 rfl (lv_room (Nat.le_of_ble_eq_true rfl)) dX11_enlist_7 ⟨Nat.le_of_ble_eq_true rfl, Nat.le_of_ble_eq_true rfl⟩) hS (fun q _ h => hFc q h) hFc (fun r_1 u t H1 locs ht1 hvm hw hB hz1 hk1 hS => ?_)
  obtain ⟨fp2_2, rfl⟩ : ∃ z, z = u := ⟨_, rfl⟩
  try dsimp only at hw hB
  obtain ⟨hr2, hq2_0⟩ := hw
  have hRo := hq2_0
  obtain rfl := hr2.symm
  obtain ⟨hP1, hD1⟩ := hB
  rw [ht1] at hP1
  obtain ⟨hP, hD⟩ := va_joinP (X := [(dp, .inr (11, .ref lg :: .ref nw :: d2 :: d3 :: d4 :: d5 :: .ref bd :: dv)), (nw, .inr (1, n0 :: n1 :: n2 :: .ref ntp :: nv)), (ntp, .inr (8, [.ref ntpo, .int 0])), (ntpo, .inl (G.2 5, 9, .inr (.inr (.inr (.inr ntpg))))), (bd, .inl (G.2 6, 12, .inr (.inr (.inr (.inr bdf))))), (bo, .inr (0, [o0, o1, o2]))]) (cx := [(ntp, .inr (8, [.ref ntpo, .int 0])), (ntpo, .inl (G.2 5, 9, .inr (.inr (.inr (.inr ntpg)))))]) (wr := [(dp, .inr (11, .ref lg :: .ref nw :: d2 :: d3 :: d4 :: d5 :: .ref bd :: dv)), (nw, .inr (1, n0 :: n1 :: n2 :: .ref ntp :: nv)), (bd, .inl (G.2 6, 12, .inr (.inr (.inr (.inr bdf))))), (bo, .inr (0, [o0, o1, o2]))]) (rx := [(ntp, .inr (8, [.ref ntpo, .int 1])), (ntpo, .inl (G.2 5, 9, .inr (.inr (.inr (.inr ntpg)))))]) (pl1 := va_pl L fp2_2) hP hD [2, 3] [0, 1, 4, 5] rfl rfl (by decide) (by decide) hk1 hFc hP1 hD1
  generalize H1 = H at hP hS ⊢
  have hP : va_P G.1 vwCl ([(dp, .inr (11, .ref lg :: .ref nw :: d2 :: d3 :: d4 :: d5 :: .ref bd :: dv)), (nw, .inr (1, n0 :: n1 :: n2 :: .ref ntp :: nv)), (bd, .inl (G.2 6, 12, .inr (.inr (.inr (.inr bdf))))), (bo, .inr (0, [o0, o1, o2])), (ntp, .inr (8, [.ref ntpo, .int 1])), (ntpo, .inl (G.2 5, 9, .inr (.inr (.inr (.inr ntpg)))))] ++ va_pl L fp2_2) H := hP
  have hD : va_D A ([(dp, .inr (11, .ref lg :: .ref nw :: d2 :: d3 :: d4 :: d5 :: .ref bd :: dv)), (nw, .inr (1, n0 :: n1 :: n2 :: .ref ntp :: nv)), (bd, .inl (G.2 6, 12, .inr (.inr (.inr (.inr bdf))))), (bo, .inr (0, [o0, o1, o2])), (ntp, .inr (8, [.ref ntpo, .int 1])), (ntpo, .inl (G.2 5, 9, .inr (.inr (.inr (.inr ntpg)))))] ++ va_pl L fp2_2) := hD
  refine lv_istore (lv' := [(4, .int 0), (0, .ref dp), (1, .ref bo), (2, .int kd), (3, .int mi)]) hx hb dX11_enlist_10 hl (by decide) rfl (fun ls hl => ?_)
  refine lv_aload_n hx hb dX11_enlist_12 rfl (lv_at hl 1 rfl) ?_
  refine va_get (D := G.1) (ci := 11) (v := .ref bd) (C := RX11) (T := TX11) (N := 14) hx hb ht inlX11 hown hK.1 hP 0 rfl rfl 6 (by decide) (ht (Cond.fieldLink RX11 55 "PloughDepot" "bodies" "[LPloughDepot$Plough;") mw_2_10) (fun _ h9 => h9) rfl dX11_enlist_13 ?_
  refine lv_iload hx hb dX11_enlist_16 (lv_at hl 0 rfl) ?_
  refine lv_aload_n hx hb dX11_enlist_18 rfl (lv_at hl 2 rfl) ?_
  refine va_astqO hx hb hK.1 hP hD hS 2 6 3 0 (E := "PloughDepot$Plough") (r := (RX0, TX0, 3)) rfl rfl hK.2.2.2.2.2.2.2.1 rfl rfl (show ¬ ((0 : Int32) < 0 ∨ 12 ≤ (0 : Int32).toNatClampNeg) by decide) dX11_enlist_19 (fun H locs hP hD hS => ?_)
  have hP : va_P G.1 vwCl ([(dp, .inr (11, .ref lg :: .ref nw :: d2 :: d3 :: d4 :: d5 :: .ref bd :: dv)), (nw, .inr (1, n0 :: n1 :: n2 :: .ref ntp :: nv)), (bd, .inl (G.2 6, 12, .inr (.inr (.inr (.inr (va_up bdf (0 : Int32).toNatClampNeg (some bo))))))), (bo, .inr (0, [o0, o1, o2])), (ntp, .inr (8, [.ref ntpo, .int 1])), (ntpo, .inl (G.2 5, 9, .inr (.inr (.inr (.inr ntpg)))))] ++ va_pl L fp2_2) H := hP
  have hD : va_D A ([(dp, .inr (11, .ref lg :: .ref nw :: d2 :: d3 :: d4 :: d5 :: .ref bd :: dv)), (nw, .inr (1, n0 :: n1 :: n2 :: .ref ntp :: nv)), (bd, .inl (G.2 6, 12, .inr (.inr (.inr (.inr (va_up bdf (0 : Int32).toNatClampNeg (some bo))))))), (bo, .inr (0, [o0, o1, o2])), (ntp, .inr (8, [.ref ntpo, .int 1])), (ntpo, .inl (G.2 5, 9, .inr (.inr (.inr (.inr ntpg)))))] ++ va_pl L fp2_2) := hD
  generalize va_up bdf (0 : Int32).toNatClampNeg (some bo) = f_3 at hP hD
  refine lv_aload_n hx hb dX11_enlist_20 rfl (lv_at hl 1 rfl) ?_
  refine va_get (D := G.1) (ci := 11) (v := .ref nw) (C := RX11) (T := TX11) (N := 14) hx hb ht inlX11 hown hK.1 hP 0 rfl rfl 1 (by decide) (ht (Cond.fieldLink RX11 19 "PloughDepot" "now" "LPloughDepot$Books;") mw_1_19) (fun _ h9 => h9) rfl dX11_enlist_21 ?_
  refine va_get (D := G.1) (ci := 1) (v := .ref ntp) (C := RX1) (T := TX1) (N := 8) hx hb ht inlX1 hown hK.1 hP 1 rfl rfl 3 (by decide) (ht (Cond.fieldLink RX11 203 "PloughDepot$Books" "ploughs" "LPloughDepot$Table;") mw_29_16) (fun _ h9 => h9) rfl dX11_enlist_24 ?_
  refine lv_iload hx hb dX11_enlist_27 (lv_at hl 0 rfl) ?_
  refine lv_bipush (v := 6) hx hb dX11_enlist_29 (by decide) ?_
  refine lv_iload_n hx hb dX11_enlist_31 rfl (lv_at hl 3 rfl) ?_
  have hPc := va_P.part (X := [(dp, .inr (11, .ref lg :: .ref nw :: d2 :: d3 :: d4 :: d5 :: .ref bd :: dv)), (nw, .inr (1, n0 :: n1 :: n2 :: .ref ntp :: nv)), (bd, .inl (G.2 6, 12, .inr (.inr (.inr (.inr f_3))))), (bo, .inr (0, [o0, o1, o2])), (ntp, .inr (8, [.ref ntpo, .int 1])), (ntpo, .inl (G.2 5, 9, .inr (.inr (.inr (.inr ntpg)))))]) (cx := [(ntp, .inr (8, [.ref ntpo, .int 1])), (ntpo, .inl (G.2 5, 9, .inr (.inr (.inr (.inr ntpg)))))]) hP [4, 5] rfl
  have hDc := va_D.part (X := [(dp, .inr (11, .ref lg :: .ref nw :: d2 :: d3 :: d4 :: d5 :: .ref bd :: dv)), (nw, .inr (1, n0 :: n1 :: n2 :: .ref ntp :: nv)), (bd, .inl (G.2 6, 12, .inr (.inr (.inr (.inr f_3))))), (bo, .inr (0, [o0, o1, o2])), (ntp, .inr (8, [.ref ntpo, .int 1])), (ntpo, .inl (G.2 5, 9, .inr (.inr (.inr (.inr ntpg)))))]) (cx := [(ntp, .inr (8, [.ref ntpo, .int 1])), (ntpo, .inl (G.2 5, 9, .inr (.inr (.inr (.inr ntpg)))))]) hD [4, 5] (by decide) rfl
  have hFc := va_freeP (X := [(dp, .inr (11, .ref lg :: .ref nw :: d2 :: d3 :: d4 :: d5 :: .ref bd :: dv)), (nw, .inr (1, n0 :: n1 :: n2 :: .ref ntp :: nv)), (bd, .inl (G.2 6, 12, .inr (.inr (.inr (.inr f_3))))), (bo, .inr (0, [o0, o1, o2])), (ntp, .inr (8, [.ref ntpo, .int 1])), (ntpo, .inl (G.2 5, 9, .inr (.inr (.inr (.inr ntpg)))))]) (cx := [(ntp, .inr (8, [.ref ntpo, .int 1])), (ntpo, .inl (G.2 5, 9, .inr (.inr (.inr (.inr ntpg)))))]) hD hS hA [4, 5] rfl
  refine va_callv (va_runV (As := [.int 0, .int 6, .int kd]) (rest := []) ⟨hx, hb, hml, hown, hts⟩ (k_tput6 l G _ ntp kd ntpo ntpg L fp2_2 (by first | assumption | decide) (by first | assumption | decide)) (cwV 3 hts (gd_V mw_12_22 mw_12_23 mw_13_0 mw_3_13 mw_13_1) rfl rfl rfl ⟨rfl, yk_X8_put⟩ ⟨Nat.le_of_ble_eq_true rfl, Nat.le_of_ble_eq_true rfl⟩) (c0_preV (q0 := 0) (ci := 8) (q := (RX8, TX8, 2)) hPc hK hDc rfl rfl) rfl rfl hl.1 rfl (lv_room (Nat.le_of_ble_eq_true rfl)) dX11_enlist_32 ⟨Nat.le_of_ble_eq_true rfl, Nat.le_of_ble_eq_true rfl⟩) hS (fun q _ h => hFc q h) hFc (fun u t H1 locs ht1 hvm hw hB hz1 hk1 hS => ?_)
  obtain ⟨fp2_4, rfl⟩ : ∃ z, z = u := ⟨_, rfl⟩
  try dsimp only at hw hB
  have hq4_0 := hw
  have hRo := hq4_0
  obtain ⟨hP1, hD1⟩ := hB
  rw [ht1] at hP1
  obtain ⟨hP, hD⟩ := va_joinP (X := [(dp, .inr (11, .ref lg :: .ref nw :: d2 :: d3 :: d4 :: d5 :: .ref bd :: dv)), (nw, .inr (1, n0 :: n1 :: n2 :: .ref ntp :: nv)), (bd, .inl (G.2 6, 12, .inr (.inr (.inr (.inr f_3))))), (bo, .inr (0, [o0, o1, o2])), (ntp, .inr (8, [.ref ntpo, .int 1])), (ntpo, .inl (G.2 5, 9, .inr (.inr (.inr (.inr ntpg)))))]) (cx := [(ntp, .inr (8, [.ref ntpo, .int 1])), (ntpo, .inl (G.2 5, 9, .inr (.inr (.inr (.inr ntpg)))))]) (wr := [(dp, .inr (11, .ref lg :: .ref nw :: d2 :: d3 :: d4 :: d5 :: .ref bd :: dv)), (nw, .inr (1, n0 :: n1 :: n2 :: .ref ntp :: nv)), (bd, .inl (G.2 6, 12, .inr (.inr (.inr (.inr f_3))))), (bo, .inr (0, [o0, o1, o2]))]) (rx := [(ntp, .inr (8, [.ref ntpo, .int 1])), (ntpo, .inl (G.2 5, 9, .inr (.inr (.inr (.inr ntpg)))))]) (pl1 := va_pl L fp2_4) hP hD [4, 5] [0, 1, 2, 3] rfl rfl (by decide) (by decide) hk1 hFc hP1 hD1
  generalize H1 = H at hP hS ⊢
  have hP : va_P G.1 vwCl ([(dp, .inr (11, .ref lg :: .ref nw :: d2 :: d3 :: d4 :: d5 :: .ref bd :: dv)), (nw, .inr (1, n0 :: n1 :: n2 :: .ref ntp :: nv)), (bd, .inl (G.2 6, 12, .inr (.inr (.inr (.inr f_3))))), (bo, .inr (0, [o0, o1, o2])), (ntp, .inr (8, [.ref ntpo, .int 1])), (ntpo, .inl (G.2 5, 9, .inr (.inr (.inr (.inr ntpg)))))] ++ va_pl L fp2_4) H := hP
  have hD : va_D A ([(dp, .inr (11, .ref lg :: .ref nw :: d2 :: d3 :: d4 :: d5 :: .ref bd :: dv)), (nw, .inr (1, n0 :: n1 :: n2 :: .ref ntp :: nv)), (bd, .inl (G.2 6, 12, .inr (.inr (.inr (.inr f_3))))), (bo, .inr (0, [o0, o1, o2])), (ntp, .inr (8, [.ref ntpo, .int 1])), (ntpo, .inl (G.2 5, 9, .inr (.inr (.inr (.inr ntpg)))))] ++ va_pl L fp2_4) := hD
  refine lv_aload_n hx hb dX11_enlist_35 rfl (lv_at hl 1 rfl) ?_
  refine va_get (D := G.1) (ci := 11) (v := .ref nw) (C := RX11) (T := TX11) (N := 14) hx hb ht inlX11 hown hK.1 hP 0 rfl rfl 1 (by decide) (ht (Cond.fieldLink RX11 19 "PloughDepot" "now" "LPloughDepot$Books;") mw_1_19) (fun _ h9 => h9) rfl dX11_enlist_36 ?_
  refine va_get (D := G.1) (ci := 1) (v := .ref ntp) (C := RX1) (T := TX1) (N := 8) hx hb ht inlX1 hown hK.1 hP 1 rfl rfl 3 (by decide) (ht (Cond.fieldLink RX11 203 "PloughDepot$Books" "ploughs" "LPloughDepot$Table;") mw_29_16) (fun _ h9 => h9) rfl dX11_enlist_39 ?_
  refine lv_iload hx hb dX11_enlist_42 (lv_at hl 0 rfl) ?_
  refine lv_iconst (v := 5) hx hb dX11_enlist_44 (by decide) ?_
  refine lv_iload_n hx hb dX11_enlist_45 rfl (lv_at hl 4 rfl) ?_
  have hPc := va_P.part (X := [(dp, .inr (11, .ref lg :: .ref nw :: d2 :: d3 :: d4 :: d5 :: .ref bd :: dv)), (nw, .inr (1, n0 :: n1 :: n2 :: .ref ntp :: nv)), (bd, .inl (G.2 6, 12, .inr (.inr (.inr (.inr f_3))))), (bo, .inr (0, [o0, o1, o2])), (ntp, .inr (8, [.ref ntpo, .int 1])), (ntpo, .inl (G.2 5, 9, .inr (.inr (.inr (.inr ntpg)))))]) (cx := [(ntp, .inr (8, [.ref ntpo, .int 1])), (ntpo, .inl (G.2 5, 9, .inr (.inr (.inr (.inr ntpg)))))]) hP [4, 5] rfl
  have hDc := va_D.part (X := [(dp, .inr (11, .ref lg :: .ref nw :: d2 :: d3 :: d4 :: d5 :: .ref bd :: dv)), (nw, .inr (1, n0 :: n1 :: n2 :: .ref ntp :: nv)), (bd, .inl (G.2 6, 12, .inr (.inr (.inr (.inr f_3))))), (bo, .inr (0, [o0, o1, o2])), (ntp, .inr (8, [.ref ntpo, .int 1])), (ntpo, .inl (G.2 5, 9, .inr (.inr (.inr (.inr ntpg)))))]) (cx := [(ntp, .inr (8, [.ref ntpo, .int 1])), (ntpo, .inl (G.2 5, 9, .inr (.inr (.inr (.inr ntpg)))))]) hD [4, 5] (by decide) rfl
  have hFc := va_freeP (X := [(dp, .inr (11, .ref lg :: .ref nw :: d2 :: d3 :: d4 :: d5 :: .ref bd :: dv)), (nw, .inr (1, n0 :: n1 :: n2 :: .ref ntp :: nv)), (bd, .inl (G.2 6, 12, .inr (.inr (.inr (.inr f_3))))), (bo, .inr (0, [o0, o1, o2])), (ntp, .inr (8, [.ref ntpo, .int 1])), (ntpo, .inl (G.2 5, 9, .inr (.inr (.inr (.inr ntpg)))))]) (cx := [(ntp, .inr (8, [.ref ntpo, .int 1])), (ntpo, .inl (G.2 5, 9, .inr (.inr (.inr (.inr ntpg)))))]) hD hS hA [4, 5] rfl
  refine va_callv (va_runV (As := [.int 0, .int 5, .int mi]) (rest := []) ⟨hx, hb, hml, hown, hts⟩ (k_tput5 l G _ ntp mi ntpo ntpg L fp2_4 (by first | assumption | decide) (by first | assumption | decide)) (cwV 3 hts (gd_V mw_12_22 mw_12_23 mw_13_0 mw_3_13 mw_13_1) rfl rfl rfl ⟨rfl, yk_X8_put⟩ ⟨Nat.le_of_ble_eq_true rfl, Nat.le_of_ble_eq_true rfl⟩) (c0_preV (q0 := 0) (ci := 8) (q := (RX8, TX8, 2)) hPc hK hDc rfl rfl) rfl rfl hl.1 rfl (lv_room (Nat.le_of_ble_eq_true rfl)) dX11_enlist_46 ⟨Nat.le_of_ble_eq_true rfl, Nat.le_of_ble_eq_true rfl⟩) hS (fun q _ h => hFc q h) hFc (fun u t H1 locs ht1 hvm hw hB hz1 hk1 hS => ?_)
  obtain ⟨fp2_5, rfl⟩ : ∃ z, z = u := ⟨_, rfl⟩
  try dsimp only at hw hB
  have hq5_0 := hw
  have hRo := hq5_0
  obtain ⟨hP1, hD1⟩ := hB
  rw [ht1] at hP1
  obtain ⟨hP, hD⟩ := va_joinP (X := [(dp, .inr (11, .ref lg :: .ref nw :: d2 :: d3 :: d4 :: d5 :: .ref bd :: dv)), (nw, .inr (1, n0 :: n1 :: n2 :: .ref ntp :: nv)), (bd, .inl (G.2 6, 12, .inr (.inr (.inr (.inr f_3))))), (bo, .inr (0, [o0, o1, o2])), (ntp, .inr (8, [.ref ntpo, .int 1])), (ntpo, .inl (G.2 5, 9, .inr (.inr (.inr (.inr ntpg)))))]) (cx := [(ntp, .inr (8, [.ref ntpo, .int 1])), (ntpo, .inl (G.2 5, 9, .inr (.inr (.inr (.inr ntpg)))))]) (wr := [(dp, .inr (11, .ref lg :: .ref nw :: d2 :: d3 :: d4 :: d5 :: .ref bd :: dv)), (nw, .inr (1, n0 :: n1 :: n2 :: .ref ntp :: nv)), (bd, .inl (G.2 6, 12, .inr (.inr (.inr (.inr f_3))))), (bo, .inr (0, [o0, o1, o2]))]) (rx := [(ntp, .inr (8, [.ref ntpo, .int 1])), (ntpo, .inl (G.2 5, 9, .inr (.inr (.inr (.inr ntpg)))))]) (pl1 := va_pl L fp2_5) hP hD [4, 5] [0, 1, 2, 3] rfl rfl (by decide) (by decide) hk1 hFc hP1 hD1
  generalize H1 = H at hP hS ⊢
  have hP : va_P G.1 vwCl ([(dp, .inr (11, .ref lg :: .ref nw :: d2 :: d3 :: d4 :: d5 :: .ref bd :: dv)), (nw, .inr (1, n0 :: n1 :: n2 :: .ref ntp :: nv)), (bd, .inl (G.2 6, 12, .inr (.inr (.inr (.inr f_3))))), (bo, .inr (0, [o0, o1, o2])), (ntp, .inr (8, [.ref ntpo, .int 1])), (ntpo, .inl (G.2 5, 9, .inr (.inr (.inr (.inr ntpg)))))] ++ va_pl L fp2_5) H := hP
  have hD : va_D A ([(dp, .inr (11, .ref lg :: .ref nw :: d2 :: d3 :: d4 :: d5 :: .ref bd :: dv)), (nw, .inr (1, n0 :: n1 :: n2 :: .ref ntp :: nv)), (bd, .inl (G.2 6, 12, .inr (.inr (.inr (.inr f_3))))), (bo, .inr (0, [o0, o1, o2])), (ntp, .inr (8, [.ref ntpo, .int 1])), (ntpo, .inl (G.2 5, 9, .inr (.inr (.inr (.inr ntpg)))))] ++ va_pl L fp2_5) := hD
  refine lv_iload hx hb dX11_enlist_49 (lv_at hl 0 rfl) ?_
  have hP9 := va_P.part (X := [(dp, .inr (11, .ref lg :: .ref nw :: d2 :: d3 :: d4 :: d5 :: .ref bd :: dv)), (nw, .inr (1, n0 :: n1 :: n2 :: .ref ntp :: nv)), (bd, .inl (G.2 6, 12, .inr (.inr (.inr (.inr f_3))))), (bo, .inr (0, [o0, o1, o2])), (ntp, .inr (8, [.ref ntpo, .int 1])), (ntpo, .inl (G.2 5, 9, .inr (.inr (.inr (.inr ntpg)))))]) (cx := [(dp, .inr (11, .ref lg :: .ref nw :: d2 :: d3 :: d4 :: d5 :: .ref bd :: dv)), (nw, .inr (1, n0 :: n1 :: n2 :: .ref ntp :: nv)), (ntp, .inr (8, [.ref ntpo, .int 1])), (ntpo, .inl (G.2 5, 9, .inr (.inr (.inr (.inr ntpg))))), (bd, .inl (G.2 6, 12, .inr (.inr (.inr (.inr f_3))))), (bo, .inr (0, [o0, o1, o2]))]) hP [0, 1, 4, 5, 2, 3] rfl
  have hD9 := va_D.part (X := [(dp, .inr (11, .ref lg :: .ref nw :: d2 :: d3 :: d4 :: d5 :: .ref bd :: dv)), (nw, .inr (1, n0 :: n1 :: n2 :: .ref ntp :: nv)), (bd, .inl (G.2 6, 12, .inr (.inr (.inr (.inr f_3))))), (bo, .inr (0, [o0, o1, o2])), (ntp, .inr (8, [.ref ntpo, .int 1])), (ntpo, .inl (G.2 5, 9, .inr (.inr (.inr (.inr ntpg)))))]) (cx := [(dp, .inr (11, .ref lg :: .ref nw :: d2 :: d3 :: d4 :: d5 :: .ref bd :: dv)), (nw, .inr (1, n0 :: n1 :: n2 :: .ref ntp :: nv)), (ntp, .inr (8, [.ref ntpo, .int 1])), (ntpo, .inl (G.2 5, 9, .inr (.inr (.inr (.inr ntpg))))), (bd, .inl (G.2 6, 12, .inr (.inr (.inr (.inr f_3))))), (bo, .inr (0, [o0, o1, o2]))]) hD [0, 1, 4, 5, 2, 3] (by decide) rfl
  exact W.iret (v := 0) hx hb hr (fun t ht hW => ⟨⟨0, (fp2_5, f_3), rfl, ⟨rfl, hRo⟩, ⟨by rw [ht]; exact hP9, hD9⟩⟩, hS.F ht⟩) hS.2.2 dX11_enlist_51

set_option maxHeartbeats 4000000 in
set_option maxRecDepth 100000 in
theorem k_enlist_2 (l : Launch) (G : GG) (sz : Nat) (dp : Nat) (bo : Nat) (kd : Int32) (mi : Int32) (lg : Nat) (nw : Nat) (d2 : Value) (d3 : Value) (d4 : Value) (d5 : Value) (bd : Nat) (dv : List Value) (n0 : Value) (n1 : Value) (n2 : Value) (ntp : Nat) (nv : List Value) (ntpo : Nat) (ntpg : Nat → Option Nat) (bdf : Nat → Option Nat) (o0 : Value) (o1 : Value) (o2 : Value) (L : List Nat) (fp : Nat → va_E) (hRo : Ro G L fp) (hgntp : Gr L ntpg 9) : Met l yX11_enlist (.code yX11_enlist cX11_enlist 5 (some .int) :: TT) ({ frames := 3, cells := 0, slots := 0, locals := 300 } : Room) (c0_P G [.ref dp, .ref bo, .int kd, .int mi] sz ([(dp, .inr (11, .ref lg :: .ref nw :: d2 :: d3 :: d4 :: d5 :: .ref bd :: dv)), (nw, .inr (1, n0 :: n1 :: n2 :: .ref ntp :: nv)), (ntp, .inr (8, [.ref ntpo, .int 0])), (ntpo, .inl (G.2 5, 9, .inr (.inr (.inr (.inr ntpg))))), (bd, .inl (G.2 6, 12, .inr (.inr (.inr (.inr bdf))))), (bo, .inr (7, [o0, o1, o2]))] ++ va_pl L fp)) (va_Qi (S := (Nat → va_E) × (Nat → Option Nat)) (fun (r : Int32) (u : (Nat → va_E) × (Nat → Option Nat)) => r = 0 ∧ Ro G L u.1) (fun (u : (Nat → va_E) × (Nat → Option Nat)) (t : State) => c0_B G (va_A ([(dp, .inr (11, .ref lg :: .ref nw :: d2 :: d3 :: d4 :: d5 :: .ref bd :: dv)), (nw, .inr (1, n0 :: n1 :: n2 :: .ref ntp :: nv)), (ntp, .inr (8, [.ref ntpo, .int 0])), (ntpo, .inl (G.2 5, 9, .inr (.inr (.inr (.inr ntpg))))), (bd, .inl (G.2 6, 12, .inr (.inr (.inr (.inr bdf))))), (bo, .inr (7, [o0, o1, o2]))] ++ va_pl L fp) sz) ([(dp, .inr (11, .ref lg :: .ref nw :: d2 :: d3 :: d4 :: d5 :: .ref bd :: dv)), (nw, .inr (1, n0 :: n1 :: n2 :: .ref ntp :: nv)), (ntp, .inr (8, [.ref ntpo, .int 1])), (ntpo, .inl (G.2 5, 9, .inr (.inr (.inr (.inr ntpg))))), (bd, .inl (G.2 6, 12, .inr (.inr (.inr (.inr u.2))))), (bo, .inr (7, [o0, o1, o2]))] ++ va_pl L u.1) t) (va_A ([(dp, .inr (11, .ref lg :: .ref nw :: d2 :: d3 :: d4 :: d5 :: .ref bd :: dv)), (nw, .inr (1, n0 :: n1 :: n2 :: .ref ntp :: nv)), (ntp, .inr (8, [.ref ntpo, .int 0])), (ntpo, .inl (G.2 5, 9, .inr (.inr (.inr (.inr ntpg))))), (bd, .inl (G.2 6, 12, .inr (.inr (.inr (.inr bdf))))), (bo, .inr (7, [o0, o1, o2]))] ++ va_pl L fp) sz)) 0 0 (va_A ([(dp, .inr (11, .ref lg :: .ref nw :: d2 :: d3 :: d4 :: d5 :: .ref bd :: dv)), (nw, .inr (1, n0 :: n1 :: n2 :: .ref ntp :: nv)), (ntp, .inr (8, [.ref ntpo, .int 0])), (ntpo, .inl (G.2 5, 9, .inr (.inr (.inr (.inr ntpg))))), (bd, .inl (G.2 6, 12, .inr (.inr (.inr (.inr bdf))))), (bo, .inr (7, [o0, o1, o2]))] ++ va_pl L fp) sz) := by
  refine Met.ofW (cc := cX11_enlist) (maxL := 5) (ret := (some .int)) (by decide) rfl ?_
  intro p e s m args below meth c s₁ B hml hv
  obtain ⟨rfl, hsz, hP, hK, hD0⟩ := hv
  have hx := B.exec
  have hb := B.bytes
  have hr := B.returns
  have hts := atoms_spec (ws := .code yX11_enlist cX11_enlist 5 (some .int) :: TT) B.pre
  have ht := fun (w : Cond) (h : w ∈ TT) => hts w (List.mem_cons_of_mem _ h)
  have hown : s.vm.findClass RX11 = some m.cls := findClass_of_methodNamed B.named
  have hlocks := B.notSynchronized
  subst hsz
  have hD := hD0.self (sz := s.heap.size)
  generalize hAe : va_A ([(dp, .inr (11, .ref lg :: .ref nw :: d2 :: d3 :: d4 :: d5 :: .ref bd :: dv)), (nw, .inr (1, n0 :: n1 :: n2 :: .ref ntp :: nv)), (ntp, .inr (8, [.ref ntpo, .int 0])), (ntpo, .inl (G.2 5, 9, .inr (.inr (.inr (.inr ntpg))))), (bd, .inl (G.2 6, 12, .inr (.inr (.inr (.inr bdf))))), (bo, .inr (7, [o0, o1, o2]))] ++ va_pl L fp) s.heap.size = A at hD ⊢
  have hA : ∀ q : Nat, s.heap.size ≤ q → A q := fun q h => by rw [← hAe]; exact Or.inr h
  have hS : va_S A s.heap s.heap [] := va_S.rf
  have hP : va_P G.1 vwCl ([(dp, .inr (11, .ref lg :: .ref nw :: d2 :: d3 :: d4 :: d5 :: .ref bd :: dv)), (nw, .inr (1, n0 :: n1 :: n2 :: .ref ntp :: nv)), (ntp, .inr (8, [.ref ntpo, .int 0])), (ntpo, .inl (G.2 5, 9, .inr (.inr (.inr (.inr ntpg))))), (bd, .inl (G.2 6, 12, .inr (.inr (.inr (.inr bdf))))), (bo, .inr (7, [o0, o1, o2]))] ++ va_pl L fp) s.heap := hP
  have hl := lv_entry ([.ref dp, .ref bo, .int kd, .int mi]) (n := 5) (Nat.le_of_ble_eq_true rfl)
  rw [lg_entry_eq]
  generalize (lg_sl ([.ref dp, .ref bo, .int kd, .int mi]) ++ List.replicate (5 - (lg_sl ([.ref dp, .ref bo, .int kd, .int mi])).length) Slot.unset).toArray = ls at hl ⊢
  have hl : lv_has ls 5 [(0, .ref dp), (1, .ref bo), (2, .int kd), (3, .int mi)] := hl
  refine lv_aload_n hx hb dX11_enlist_0 rfl (lv_at hl 0 rfl) ?_
  refine va_get (D := G.1) (ci := 11) (v := .ref nw) (C := RX11) (T := TX11) (N := 14) hx hb ht inlX11 hown hK.1 hP 0 rfl rfl 1 (by decide) (ht (Cond.fieldLink RX11 19 "PloughDepot" "now" "LPloughDepot$Books;") mw_1_19) (fun _ h9 => h9) rfl dX11_enlist_1 ?_
  refine va_get (D := G.1) (ci := 1) (v := .ref ntp) (C := RX1) (T := TX1) (N := 8) hx hb ht inlX1 hown hK.1 hP 1 rfl rfl 3 (by decide) (ht (Cond.fieldLink RX11 203 "PloughDepot$Books" "ploughs" "LPloughDepot$Table;") mw_29_16) (fun _ h9 => h9) rfl dX11_enlist_4 ?_
  have hPc := va_P.part (X := [(dp, .inr (11, .ref lg :: .ref nw :: d2 :: d3 :: d4 :: d5 :: .ref bd :: dv)), (nw, .inr (1, n0 :: n1 :: n2 :: .ref ntp :: nv)), (ntp, .inr (8, [.ref ntpo, .int 0])), (ntpo, .inl (G.2 5, 9, .inr (.inr (.inr (.inr ntpg))))), (bd, .inl (G.2 6, 12, .inr (.inr (.inr (.inr bdf))))), (bo, .inr (7, [o0, o1, o2]))]) (cx := [(ntp, .inr (8, [.ref ntpo, .int 0])), (ntpo, .inl (G.2 5, 9, .inr (.inr (.inr (.inr ntpg)))))]) hP [2, 3] rfl
  have hDc := va_D.part (X := [(dp, .inr (11, .ref lg :: .ref nw :: d2 :: d3 :: d4 :: d5 :: .ref bd :: dv)), (nw, .inr (1, n0 :: n1 :: n2 :: .ref ntp :: nv)), (ntp, .inr (8, [.ref ntpo, .int 0])), (ntpo, .inl (G.2 5, 9, .inr (.inr (.inr (.inr ntpg))))), (bd, .inl (G.2 6, 12, .inr (.inr (.inr (.inr bdf))))), (bo, .inr (7, [o0, o1, o2]))]) (cx := [(ntp, .inr (8, [.ref ntpo, .int 0])), (ntpo, .inl (G.2 5, 9, .inr (.inr (.inr (.inr ntpg)))))]) hD [2, 3] (by decide) rfl
  have hFc := va_freeP (X := [(dp, .inr (11, .ref lg :: .ref nw :: d2 :: d3 :: d4 :: d5 :: .ref bd :: dv)), (nw, .inr (1, n0 :: n1 :: n2 :: .ref ntp :: nv)), (ntp, .inr (8, [.ref ntpo, .int 0])), (ntpo, .inl (G.2 5, 9, .inr (.inr (.inr (.inr ntpg))))), (bd, .inl (G.2 6, 12, .inr (.inr (.inr (.inr bdf))))), (bo, .inr (7, [o0, o1, o2]))]) (cx := [(ntp, .inr (8, [.ref ntpo, .int 0])), (ntpo, .inl (G.2 5, 9, .inr (.inr (.inr (.inr ntpg)))))]) hD hS hA [2, 3] rfl
  refine va_calli (va_runV (As := []) (rest := []) ⟨hx, hb, hml, hown, hts⟩ (k_tadd l G _ ntp ntpo ntpg L fp (by first | assumption | decide) (by first | assumption | decide)) (cwV 0 hts (gd_V mw_12_18 mw_12_19 mw_12_20 mw_3_13 mw_12_21) rfl rfl rfl ⟨rfl, yk_X8_add⟩ ⟨Nat.le_of_ble_eq_true rfl, Nat.le_of_ble_eq_true rfl⟩) (c0_preV (q0 := 0) (ci := 8) (q := (RX8, TX8, 2)) hPc hK hDc rfl rfl) rfl rfl hl.1 rfl (lv_room (Nat.le_of_ble_eq_true rfl)) dX11_enlist_7 ⟨Nat.le_of_ble_eq_true rfl, Nat.le_of_ble_eq_true rfl⟩) hS (fun q _ h => hFc q h) hFc (fun r_1 u t H1 locs ht1 hvm hw hB hz1 hk1 hS => ?_)
  obtain ⟨fp2_2, rfl⟩ : ∃ z, z = u := ⟨_, rfl⟩
  try dsimp only at hw hB
  obtain ⟨hr2, hq2_0⟩ := hw
  have hRo := hq2_0
  obtain rfl := hr2.symm
  obtain ⟨hP1, hD1⟩ := hB
  rw [ht1] at hP1
  obtain ⟨hP, hD⟩ := va_joinP (X := [(dp, .inr (11, .ref lg :: .ref nw :: d2 :: d3 :: d4 :: d5 :: .ref bd :: dv)), (nw, .inr (1, n0 :: n1 :: n2 :: .ref ntp :: nv)), (ntp, .inr (8, [.ref ntpo, .int 0])), (ntpo, .inl (G.2 5, 9, .inr (.inr (.inr (.inr ntpg))))), (bd, .inl (G.2 6, 12, .inr (.inr (.inr (.inr bdf))))), (bo, .inr (7, [o0, o1, o2]))]) (cx := [(ntp, .inr (8, [.ref ntpo, .int 0])), (ntpo, .inl (G.2 5, 9, .inr (.inr (.inr (.inr ntpg)))))]) (wr := [(dp, .inr (11, .ref lg :: .ref nw :: d2 :: d3 :: d4 :: d5 :: .ref bd :: dv)), (nw, .inr (1, n0 :: n1 :: n2 :: .ref ntp :: nv)), (bd, .inl (G.2 6, 12, .inr (.inr (.inr (.inr bdf))))), (bo, .inr (7, [o0, o1, o2]))]) (rx := [(ntp, .inr (8, [.ref ntpo, .int 1])), (ntpo, .inl (G.2 5, 9, .inr (.inr (.inr (.inr ntpg)))))]) (pl1 := va_pl L fp2_2) hP hD [2, 3] [0, 1, 4, 5] rfl rfl (by decide) (by decide) hk1 hFc hP1 hD1
  generalize H1 = H at hP hS ⊢
  have hP : va_P G.1 vwCl ([(dp, .inr (11, .ref lg :: .ref nw :: d2 :: d3 :: d4 :: d5 :: .ref bd :: dv)), (nw, .inr (1, n0 :: n1 :: n2 :: .ref ntp :: nv)), (bd, .inl (G.2 6, 12, .inr (.inr (.inr (.inr bdf))))), (bo, .inr (7, [o0, o1, o2])), (ntp, .inr (8, [.ref ntpo, .int 1])), (ntpo, .inl (G.2 5, 9, .inr (.inr (.inr (.inr ntpg)))))] ++ va_pl L fp2_2) H := hP
  have hD : va_D A ([(dp, .inr (11, .ref lg :: .ref nw :: d2 :: d3 :: d4 :: d5 :: .ref bd :: dv)), (nw, .inr (1, n0 :: n1 :: n2 :: .ref ntp :: nv)), (bd, .inl (G.2 6, 12, .inr (.inr (.inr (.inr bdf))))), (bo, .inr (7, [o0, o1, o2])), (ntp, .inr (8, [.ref ntpo, .int 1])), (ntpo, .inl (G.2 5, 9, .inr (.inr (.inr (.inr ntpg)))))] ++ va_pl L fp2_2) := hD
  refine lv_istore (lv' := [(4, .int 0), (0, .ref dp), (1, .ref bo), (2, .int kd), (3, .int mi)]) hx hb dX11_enlist_10 hl (by decide) rfl (fun ls hl => ?_)
  refine lv_aload_n hx hb dX11_enlist_12 rfl (lv_at hl 1 rfl) ?_
  refine va_get (D := G.1) (ci := 11) (v := .ref bd) (C := RX11) (T := TX11) (N := 14) hx hb ht inlX11 hown hK.1 hP 0 rfl rfl 6 (by decide) (ht (Cond.fieldLink RX11 55 "PloughDepot" "bodies" "[LPloughDepot$Plough;") mw_2_10) (fun _ h9 => h9) rfl dX11_enlist_13 ?_
  refine lv_iload hx hb dX11_enlist_16 (lv_at hl 0 rfl) ?_
  refine lv_aload_n hx hb dX11_enlist_18 rfl (lv_at hl 2 rfl) ?_
  refine va_astqO hx hb hK.1 hP hD hS 2 6 3 7 (E := "PloughDepot$Plough") (r := (RX7, TX7, 3)) rfl rfl hK.2.2.2.2.2.2.2.2.1 rfl rfl (show ¬ ((0 : Int32) < 0 ∨ 12 ≤ (0 : Int32).toNatClampNeg) by decide) dX11_enlist_19 (fun H locs hP hD hS => ?_)
  have hP : va_P G.1 vwCl ([(dp, .inr (11, .ref lg :: .ref nw :: d2 :: d3 :: d4 :: d5 :: .ref bd :: dv)), (nw, .inr (1, n0 :: n1 :: n2 :: .ref ntp :: nv)), (bd, .inl (G.2 6, 12, .inr (.inr (.inr (.inr (va_up bdf (0 : Int32).toNatClampNeg (some bo))))))), (bo, .inr (7, [o0, o1, o2])), (ntp, .inr (8, [.ref ntpo, .int 1])), (ntpo, .inl (G.2 5, 9, .inr (.inr (.inr (.inr ntpg)))))] ++ va_pl L fp2_2) H := hP
  have hD : va_D A ([(dp, .inr (11, .ref lg :: .ref nw :: d2 :: d3 :: d4 :: d5 :: .ref bd :: dv)), (nw, .inr (1, n0 :: n1 :: n2 :: .ref ntp :: nv)), (bd, .inl (G.2 6, 12, .inr (.inr (.inr (.inr (va_up bdf (0 : Int32).toNatClampNeg (some bo))))))), (bo, .inr (7, [o0, o1, o2])), (ntp, .inr (8, [.ref ntpo, .int 1])), (ntpo, .inl (G.2 5, 9, .inr (.inr (.inr (.inr ntpg)))))] ++ va_pl L fp2_2) := hD
  generalize va_up bdf (0 : Int32).toNatClampNeg (some bo) = f_3 at hP hD
  refine lv_aload_n hx hb dX11_enlist_20 rfl (lv_at hl 1 rfl) ?_
  refine va_get (D := G.1) (ci := 11) (v := .ref nw) (C := RX11) (T := TX11) (N := 14) hx hb ht inlX11 hown hK.1 hP 0 rfl rfl 1 (by decide) (ht (Cond.fieldLink RX11 19 "PloughDepot" "now" "LPloughDepot$Books;") mw_1_19) (fun _ h9 => h9) rfl dX11_enlist_21 ?_
  refine va_get (D := G.1) (ci := 1) (v := .ref ntp) (C := RX1) (T := TX1) (N := 8) hx hb ht inlX1 hown hK.1 hP 1 rfl rfl 3 (by decide) (ht (Cond.fieldLink RX11 203 "PloughDepot$Books" "ploughs" "LPloughDepot$Table;") mw_29_16) (fun _ h9 => h9) rfl dX11_enlist_24 ?_
  refine lv_iload hx hb dX11_enlist_27 (lv_at hl 0 rfl) ?_
  refine lv_bipush (v := 6) hx hb dX11_enlist_29 (by decide) ?_
  refine lv_iload_n hx hb dX11_enlist_31 rfl (lv_at hl 3 rfl) ?_
  have hPc := va_P.part (X := [(dp, .inr (11, .ref lg :: .ref nw :: d2 :: d3 :: d4 :: d5 :: .ref bd :: dv)), (nw, .inr (1, n0 :: n1 :: n2 :: .ref ntp :: nv)), (bd, .inl (G.2 6, 12, .inr (.inr (.inr (.inr f_3))))), (bo, .inr (7, [o0, o1, o2])), (ntp, .inr (8, [.ref ntpo, .int 1])), (ntpo, .inl (G.2 5, 9, .inr (.inr (.inr (.inr ntpg)))))]) (cx := [(ntp, .inr (8, [.ref ntpo, .int 1])), (ntpo, .inl (G.2 5, 9, .inr (.inr (.inr (.inr ntpg)))))]) hP [4, 5] rfl
  have hDc := va_D.part (X := [(dp, .inr (11, .ref lg :: .ref nw :: d2 :: d3 :: d4 :: d5 :: .ref bd :: dv)), (nw, .inr (1, n0 :: n1 :: n2 :: .ref ntp :: nv)), (bd, .inl (G.2 6, 12, .inr (.inr (.inr (.inr f_3))))), (bo, .inr (7, [o0, o1, o2])), (ntp, .inr (8, [.ref ntpo, .int 1])), (ntpo, .inl (G.2 5, 9, .inr (.inr (.inr (.inr ntpg)))))]) (cx := [(ntp, .inr (8, [.ref ntpo, .int 1])), (ntpo, .inl (G.2 5, 9, .inr (.inr (.inr (.inr ntpg)))))]) hD [4, 5] (by decide) rfl
  have hFc := va_freeP (X := [(dp, .inr (11, .ref lg :: .ref nw :: d2 :: d3 :: d4 :: d5 :: .ref bd :: dv)), (nw, .inr (1, n0 :: n1 :: n2 :: .ref ntp :: nv)), (bd, .inl (G.2 6, 12, .inr (.inr (.inr (.inr f_3))))), (bo, .inr (7, [o0, o1, o2])), (ntp, .inr (8, [.ref ntpo, .int 1])), (ntpo, .inl (G.2 5, 9, .inr (.inr (.inr (.inr ntpg)))))]) (cx := [(ntp, .inr (8, [.ref ntpo, .int 1])), (ntpo, .inl (G.2 5, 9, .inr (.inr (.inr (.inr ntpg)))))]) hD hS hA [4, 5] rfl
  refine va_callv (va_runV (As := [.int 0, .int 6, .int kd]) (rest := []) ⟨hx, hb, hml, hown, hts⟩ (k_tput6 l G _ ntp kd ntpo ntpg L fp2_2 (by first | assumption | decide) (by first | assumption | decide)) (cwV 3 hts (gd_V mw_12_22 mw_12_23 mw_13_0 mw_3_13 mw_13_1) rfl rfl rfl ⟨rfl, yk_X8_put⟩ ⟨Nat.le_of_ble_eq_true rfl, Nat.le_of_ble_eq_true rfl⟩) (c0_preV (q0 := 0) (ci := 8) (q := (RX8, TX8, 2)) hPc hK hDc rfl rfl) rfl rfl hl.1 rfl (lv_room (Nat.le_of_ble_eq_true rfl)) dX11_enlist_32 ⟨Nat.le_of_ble_eq_true rfl, Nat.le_of_ble_eq_true rfl⟩) hS (fun q _ h => hFc q h) hFc (fun u t H1 locs ht1 hvm hw hB hz1 hk1 hS => ?_)
  obtain ⟨fp2_4, rfl⟩ : ∃ z, z = u := ⟨_, rfl⟩
  try dsimp only at hw hB
  have hq4_0 := hw
  have hRo := hq4_0
  obtain ⟨hP1, hD1⟩ := hB
  rw [ht1] at hP1
  obtain ⟨hP, hD⟩ := va_joinP (X := [(dp, .inr (11, .ref lg :: .ref nw :: d2 :: d3 :: d4 :: d5 :: .ref bd :: dv)), (nw, .inr (1, n0 :: n1 :: n2 :: .ref ntp :: nv)), (bd, .inl (G.2 6, 12, .inr (.inr (.inr (.inr f_3))))), (bo, .inr (7, [o0, o1, o2])), (ntp, .inr (8, [.ref ntpo, .int 1])), (ntpo, .inl (G.2 5, 9, .inr (.inr (.inr (.inr ntpg)))))]) (cx := [(ntp, .inr (8, [.ref ntpo, .int 1])), (ntpo, .inl (G.2 5, 9, .inr (.inr (.inr (.inr ntpg)))))]) (wr := [(dp, .inr (11, .ref lg :: .ref nw :: d2 :: d3 :: d4 :: d5 :: .ref bd :: dv)), (nw, .inr (1, n0 :: n1 :: n2 :: .ref ntp :: nv)), (bd, .inl (G.2 6, 12, .inr (.inr (.inr (.inr f_3))))), (bo, .inr (7, [o0, o1, o2]))]) (rx := [(ntp, .inr (8, [.ref ntpo, .int 1])), (ntpo, .inl (G.2 5, 9, .inr (.inr (.inr (.inr ntpg)))))]) (pl1 := va_pl L fp2_4) hP hD [4, 5] [0, 1, 2, 3] rfl rfl (by decide) (by decide) hk1 hFc hP1 hD1
  generalize H1 = H at hP hS ⊢
  have hP : va_P G.1 vwCl ([(dp, .inr (11, .ref lg :: .ref nw :: d2 :: d3 :: d4 :: d5 :: .ref bd :: dv)), (nw, .inr (1, n0 :: n1 :: n2 :: .ref ntp :: nv)), (bd, .inl (G.2 6, 12, .inr (.inr (.inr (.inr f_3))))), (bo, .inr (7, [o0, o1, o2])), (ntp, .inr (8, [.ref ntpo, .int 1])), (ntpo, .inl (G.2 5, 9, .inr (.inr (.inr (.inr ntpg)))))] ++ va_pl L fp2_4) H := hP
  have hD : va_D A ([(dp, .inr (11, .ref lg :: .ref nw :: d2 :: d3 :: d4 :: d5 :: .ref bd :: dv)), (nw, .inr (1, n0 :: n1 :: n2 :: .ref ntp :: nv)), (bd, .inl (G.2 6, 12, .inr (.inr (.inr (.inr f_3))))), (bo, .inr (7, [o0, o1, o2])), (ntp, .inr (8, [.ref ntpo, .int 1])), (ntpo, .inl (G.2 5, 9, .inr (.inr (.inr (.inr ntpg)))))] ++ va_pl L fp2_4) := hD
  refine lv_aload_n hx hb dX11_enlist_35 rfl (lv_at hl 1 rfl) ?_
  refine va_get (D := G.1) (ci := 11) (v := .ref nw) (C := RX11) (T := TX11) (N := 14) hx hb ht inlX11 hown hK.1 hP 0 rfl rfl 1 (by decide) (ht (Cond.fieldLink RX11 19 "PloughDepot" "now" "LPloughDepot$Books;") mw_1_19) (fun _ h9 => h9) rfl dX11_enlist_36 ?_
  refine va_get (D := G.1) (ci := 1) (v := .ref ntp) (C := RX1) (T := TX1) (N := 8) hx hb ht inlX1 hown hK.1 hP 1 rfl rfl 3 (by decide) (ht (Cond.fieldLink RX11 203 "PloughDepot$Books" "ploughs" "LPloughDepot$Table;") mw_29_16) (fun _ h9 => h9) rfl dX11_enlist_39 ?_
  refine lv_iload hx hb dX11_enlist_42 (lv_at hl 0 rfl) ?_
  refine lv_iconst (v := 5) hx hb dX11_enlist_44 (by decide) ?_
  refine lv_iload_n hx hb dX11_enlist_45 rfl (lv_at hl 4 rfl) ?_
  have hPc := va_P.part (X := [(dp, .inr (11, .ref lg :: .ref nw :: d2 :: d3 :: d4 :: d5 :: .ref bd :: dv)), (nw, .inr (1, n0 :: n1 :: n2 :: .ref ntp :: nv)), (bd, .inl (G.2 6, 12, .inr (.inr (.inr (.inr f_3))))), (bo, .inr (7, [o0, o1, o2])), (ntp, .inr (8, [.ref ntpo, .int 1])), (ntpo, .inl (G.2 5, 9, .inr (.inr (.inr (.inr ntpg)))))]) (cx := [(ntp, .inr (8, [.ref ntpo, .int 1])), (ntpo, .inl (G.2 5, 9, .inr (.inr (.inr (.inr ntpg)))))]) hP [4, 5] rfl
  have hDc := va_D.part (X := [(dp, .inr (11, .ref lg :: .ref nw :: d2 :: d3 :: d4 :: d5 :: .ref bd :: dv)), (nw, .inr (1, n0 :: n1 :: n2 :: .ref ntp :: nv)), (bd, .inl (G.2 6, 12, .inr (.inr (.inr (.inr f_3))))), (bo, .inr (7, [o0, o1, o2])), (ntp, .inr (8, [.ref ntpo, .int 1])), (ntpo, .inl (G.2 5, 9, .inr (.inr (.inr (.inr ntpg)))))]) (cx := [(ntp, .inr (8, [.ref ntpo, .int 1])), (ntpo, .inl (G.2 5, 9, .inr (.inr (.inr (.inr ntpg)))))]) hD [4, 5] (by decide) rfl
  have hFc := va_freeP (X := [(dp, .inr (11, .ref lg :: .ref nw :: d2 :: d3 :: d4 :: d5 :: .ref bd :: dv)), (nw, .inr (1, n0 :: n1 :: n2 :: .ref ntp :: nv)), (bd, .inl (G.2 6, 12, .inr (.inr (.inr (.inr f_3))))), (bo, .inr (7, [o0, o1, o2])), (ntp, .inr (8, [.ref ntpo, .int 1])), (ntpo, .inl (G.2 5, 9, .inr (.inr (.inr (.inr ntpg)))))]) (cx := [(ntp, .inr (8, [.ref ntpo, .int 1])), (ntpo, .inl (G.2 5, 9, .inr (.inr (.inr (.inr ntpg)))))]) hD hS hA [4, 5] rfl
  refine va_callv (va_runV (As := [.int 0, .int 5, .int mi]) (rest := []) ⟨hx, hb, hml, hown, hts⟩ (k_tput5 l G _ ntp mi ntpo ntpg L fp2_4 (by first | assumption | decide) (by first | assumption | decide)) (cwV 3 hts (gd_V mw_12_22 mw_12_23 mw_13_0 mw_3_13 mw_13_1) rfl rfl rfl ⟨rfl, yk_X8_put⟩ ⟨Nat.le_of_ble_eq_true rfl, Nat.le_of_ble_eq_true rfl⟩) (c0_preV (q0 := 0) (ci := 8) (q := (RX8, TX8, 2)) hPc hK hDc rfl rfl) rfl rfl hl.1 rfl (lv_room (Nat.le_of_ble_eq_true rfl)) dX11_enlist_46 ⟨Nat.le_of_ble_eq_true rfl, Nat.le_of_ble_eq_true rfl⟩) hS (fun q _ h => hFc q h) hFc (fun u t H1 locs ht1 hvm hw hB hz1 hk1 hS => ?_)
  obtain ⟨fp2_5, rfl⟩ : ∃ z, z = u := ⟨_, rfl⟩
  try dsimp only at hw hB
  have hq5_0 := hw
  have hRo := hq5_0
  obtain ⟨hP1, hD1⟩ := hB
  rw [ht1] at hP1
  obtain ⟨hP, hD⟩ := va_joinP (X := [(dp, .inr (11, .ref lg :: .ref nw :: d2 :: d3 :: d4 :: d5 :: .ref bd :: dv)), (nw, .inr (1, n0 :: n1 :: n2 :: .ref ntp :: nv)), (bd, .inl (G.2 6, 12, .inr (.inr (.inr (.inr f_3))))), (bo, .inr (7, [o0, o1, o2])), (ntp, .inr (8, [.ref ntpo, .int 1])), (ntpo, .inl (G.2 5, 9, .inr (.inr (.inr (.inr ntpg)))))]) (cx := [(ntp, .inr (8, [.ref ntpo, .int 1])), (ntpo, .inl (G.2 5, 9, .inr (.inr (.inr (.inr ntpg)))))]) (wr := [(dp, .inr (11, .ref lg :: .ref nw :: d2 :: d3 :: d4 :: d5 :: .ref bd :: dv)), (nw, .inr (1, n0 :: n1 :: n2 :: .ref ntp :: nv)), (bd, .inl (G.2 6, 12, .inr (.inr (.inr (.inr f_3))))), (bo, .inr (7, [o0, o1, o2]))]) (rx := [(ntp, .inr (8, [.ref ntpo, .int 1])), (ntpo, .inl (G.2 5, 9, .inr (.inr (.inr (.inr ntpg)))))]) (pl1 := va_pl L fp2_5) hP hD [4, 5] [0, 1, 2, 3] rfl rfl (by decide) (by decide) hk1 hFc hP1 hD1
  generalize H1 = H at hP hS ⊢
  have hP : va_P G.1 vwCl ([(dp, .inr (11, .ref lg :: .ref nw :: d2 :: d3 :: d4 :: d5 :: .ref bd :: dv)), (nw, .inr (1, n0 :: n1 :: n2 :: .ref ntp :: nv)), (bd, .inl (G.2 6, 12, .inr (.inr (.inr (.inr f_3))))), (bo, .inr (7, [o0, o1, o2])), (ntp, .inr (8, [.ref ntpo, .int 1])), (ntpo, .inl (G.2 5, 9, .inr (.inr (.inr (.inr ntpg)))))] ++ va_pl L fp2_5) H := hP
  have hD : va_D A ([(dp, .inr (11, .ref lg :: .ref nw :: d2 :: d3 :: d4 :: d5 :: .ref bd :: dv)), (nw, .inr (1, n0 :: n1 :: n2 :: .ref ntp :: nv)), (bd, .inl (G.2 6, 12, .inr (.inr (.inr (.inr f_3))))), (bo, .inr (7, [o0, o1, o2])), (ntp, .inr (8, [.ref ntpo, .int 1])), (ntpo, .inl (G.2 5, 9, .inr (.inr (.inr (.inr ntpg)))))] ++ va_pl L fp2_5) := hD
  refine lv_iload hx hb dX11_enlist_49 (lv_at hl 0 rfl) ?_
  have hP9 := va_P.part (X := [(dp, .inr (11, .ref lg :: .ref nw :: d2 :: d3 :: d4 :: d5 :: .ref bd :: dv)), (nw, .inr (1, n0 :: n1 :: n2 :: .ref ntp :: nv)), (bd, .inl (G.2 6, 12, .inr (.inr (.inr (.inr f_3))))), (bo, .inr (7, [o0, o1, o2])), (ntp, .inr (8, [.ref ntpo, .int 1])), (ntpo, .inl (G.2 5, 9, .inr (.inr (.inr (.inr ntpg)))))]) (cx := [(dp, .inr (11, .ref lg :: .ref nw :: d2 :: d3 :: d4 :: d5 :: .ref bd :: dv)), (nw, .inr (1, n0 :: n1 :: n2 :: .ref ntp :: nv)), (ntp, .inr (8, [.ref ntpo, .int 1])), (ntpo, .inl (G.2 5, 9, .inr (.inr (.inr (.inr ntpg))))), (bd, .inl (G.2 6, 12, .inr (.inr (.inr (.inr f_3))))), (bo, .inr (7, [o0, o1, o2]))]) hP [0, 1, 4, 5, 2, 3] rfl
  have hD9 := va_D.part (X := [(dp, .inr (11, .ref lg :: .ref nw :: d2 :: d3 :: d4 :: d5 :: .ref bd :: dv)), (nw, .inr (1, n0 :: n1 :: n2 :: .ref ntp :: nv)), (bd, .inl (G.2 6, 12, .inr (.inr (.inr (.inr f_3))))), (bo, .inr (7, [o0, o1, o2])), (ntp, .inr (8, [.ref ntpo, .int 1])), (ntpo, .inl (G.2 5, 9, .inr (.inr (.inr (.inr ntpg)))))]) (cx := [(dp, .inr (11, .ref lg :: .ref nw :: d2 :: d3 :: d4 :: d5 :: .ref bd :: dv)), (nw, .inr (1, n0 :: n1 :: n2 :: .ref ntp :: nv)), (ntp, .inr (8, [.ref ntpo, .int 1])), (ntpo, .inl (G.2 5, 9, .inr (.inr (.inr (.inr ntpg))))), (bd, .inl (G.2 6, 12, .inr (.inr (.inr (.inr f_3))))), (bo, .inr (7, [o0, o1, o2]))]) hD [0, 1, 4, 5, 2, 3] (by decide) rfl
  exact W.iret (v := 0) hx hb hr (fun t ht hW => ⟨⟨0, (fp2_5, f_3), rfl, ⟨rfl, hRo⟩, ⟨by rw [ht]; exact hP9, hD9⟩⟩, hS.F ht⟩) hS.2.2 dX11_enlist_51

set_option maxHeartbeats 4000000 in
set_option maxRecDepth 100000 in
theorem k_enlist_3 (l : Launch) (G : GG) (sz : Nat) (dp : Nat) (bo : Nat) (kd : Int32) (mi : Int32) (lg : Nat) (nw : Nat) (d2 : Value) (d3 : Value) (d4 : Value) (d5 : Value) (bd : Nat) (dv : List Value) (n0 : Value) (n1 : Value) (n2 : Value) (ntp : Nat) (nv : List Value) (ntpo : Nat) (ntpg : Nat → Option Nat) (bdf : Nat → Option Nat) (o0 : Value) (o1 : Value) (o2 : Value) (L : List Nat) (fp : Nat → va_E) (hRo : Ro G L fp) (hgntp : Gr L ntpg 9) : Met l yX11_enlist (.code yX11_enlist cX11_enlist 5 (some .int) :: TT) ({ frames := 3, cells := 0, slots := 0, locals := 300 } : Room) (c0_P G [.ref dp, .ref bo, .int kd, .int mi] sz ([(dp, .inr (11, .ref lg :: .ref nw :: d2 :: d3 :: d4 :: d5 :: .ref bd :: dv)), (nw, .inr (1, n0 :: n1 :: n2 :: .ref ntp :: nv)), (ntp, .inr (8, [.ref ntpo, .int 0])), (ntpo, .inl (G.2 5, 9, .inr (.inr (.inr (.inr ntpg))))), (bd, .inl (G.2 6, 12, .inr (.inr (.inr (.inr bdf))))), (bo, .inr (9, [o0, o1, o2]))] ++ va_pl L fp)) (va_Qi (S := (Nat → va_E) × (Nat → Option Nat)) (fun (r : Int32) (u : (Nat → va_E) × (Nat → Option Nat)) => r = 0 ∧ Ro G L u.1) (fun (u : (Nat → va_E) × (Nat → Option Nat)) (t : State) => c0_B G (va_A ([(dp, .inr (11, .ref lg :: .ref nw :: d2 :: d3 :: d4 :: d5 :: .ref bd :: dv)), (nw, .inr (1, n0 :: n1 :: n2 :: .ref ntp :: nv)), (ntp, .inr (8, [.ref ntpo, .int 0])), (ntpo, .inl (G.2 5, 9, .inr (.inr (.inr (.inr ntpg))))), (bd, .inl (G.2 6, 12, .inr (.inr (.inr (.inr bdf))))), (bo, .inr (9, [o0, o1, o2]))] ++ va_pl L fp) sz) ([(dp, .inr (11, .ref lg :: .ref nw :: d2 :: d3 :: d4 :: d5 :: .ref bd :: dv)), (nw, .inr (1, n0 :: n1 :: n2 :: .ref ntp :: nv)), (ntp, .inr (8, [.ref ntpo, .int 1])), (ntpo, .inl (G.2 5, 9, .inr (.inr (.inr (.inr ntpg))))), (bd, .inl (G.2 6, 12, .inr (.inr (.inr (.inr u.2))))), (bo, .inr (9, [o0, o1, o2]))] ++ va_pl L u.1) t) (va_A ([(dp, .inr (11, .ref lg :: .ref nw :: d2 :: d3 :: d4 :: d5 :: .ref bd :: dv)), (nw, .inr (1, n0 :: n1 :: n2 :: .ref ntp :: nv)), (ntp, .inr (8, [.ref ntpo, .int 0])), (ntpo, .inl (G.2 5, 9, .inr (.inr (.inr (.inr ntpg))))), (bd, .inl (G.2 6, 12, .inr (.inr (.inr (.inr bdf))))), (bo, .inr (9, [o0, o1, o2]))] ++ va_pl L fp) sz)) 0 0 (va_A ([(dp, .inr (11, .ref lg :: .ref nw :: d2 :: d3 :: d4 :: d5 :: .ref bd :: dv)), (nw, .inr (1, n0 :: n1 :: n2 :: .ref ntp :: nv)), (ntp, .inr (8, [.ref ntpo, .int 0])), (ntpo, .inl (G.2 5, 9, .inr (.inr (.inr (.inr ntpg))))), (bd, .inl (G.2 6, 12, .inr (.inr (.inr (.inr bdf))))), (bo, .inr (9, [o0, o1, o2]))] ++ va_pl L fp) sz) := by
  refine Met.ofW (cc := cX11_enlist) (maxL := 5) (ret := (some .int)) (by decide) rfl ?_
  intro p e s m args below meth c s₁ B hml hv
  obtain ⟨rfl, hsz, hP, hK, hD0⟩ := hv
  have hx := B.exec
  have hb := B.bytes
  have hr := B.returns
  have hts := atoms_spec (ws := .code yX11_enlist cX11_enlist 5 (some .int) :: TT) B.pre
  have ht := fun (w : Cond) (h : w ∈ TT) => hts w (List.mem_cons_of_mem _ h)
  have hown : s.vm.findClass RX11 = some m.cls := findClass_of_methodNamed B.named
  have hlocks := B.notSynchronized
  subst hsz
  have hD := hD0.self (sz := s.heap.size)
  generalize hAe : va_A ([(dp, .inr (11, .ref lg :: .ref nw :: d2 :: d3 :: d4 :: d5 :: .ref bd :: dv)), (nw, .inr (1, n0 :: n1 :: n2 :: .ref ntp :: nv)), (ntp, .inr (8, [.ref ntpo, .int 0])), (ntpo, .inl (G.2 5, 9, .inr (.inr (.inr (.inr ntpg))))), (bd, .inl (G.2 6, 12, .inr (.inr (.inr (.inr bdf))))), (bo, .inr (9, [o0, o1, o2]))] ++ va_pl L fp) s.heap.size = A at hD ⊢
  have hA : ∀ q : Nat, s.heap.size ≤ q → A q := fun q h => by rw [← hAe]; exact Or.inr h
  have hS : va_S A s.heap s.heap [] := va_S.rf
  have hP : va_P G.1 vwCl ([(dp, .inr (11, .ref lg :: .ref nw :: d2 :: d3 :: d4 :: d5 :: .ref bd :: dv)), (nw, .inr (1, n0 :: n1 :: n2 :: .ref ntp :: nv)), (ntp, .inr (8, [.ref ntpo, .int 0])), (ntpo, .inl (G.2 5, 9, .inr (.inr (.inr (.inr ntpg))))), (bd, .inl (G.2 6, 12, .inr (.inr (.inr (.inr bdf))))), (bo, .inr (9, [o0, o1, o2]))] ++ va_pl L fp) s.heap := hP
  have hl := lv_entry ([.ref dp, .ref bo, .int kd, .int mi]) (n := 5) (Nat.le_of_ble_eq_true rfl)
  rw [lg_entry_eq]
  generalize (lg_sl ([.ref dp, .ref bo, .int kd, .int mi]) ++ List.replicate (5 - (lg_sl ([.ref dp, .ref bo, .int kd, .int mi])).length) Slot.unset).toArray = ls at hl ⊢
  have hl : lv_has ls 5 [(0, .ref dp), (1, .ref bo), (2, .int kd), (3, .int mi)] := hl
  refine lv_aload_n hx hb dX11_enlist_0 rfl (lv_at hl 0 rfl) ?_
  refine va_get (D := G.1) (ci := 11) (v := .ref nw) (C := RX11) (T := TX11) (N := 14) hx hb ht inlX11 hown hK.1 hP 0 rfl rfl 1 (by decide) (ht (Cond.fieldLink RX11 19 "PloughDepot" "now" "LPloughDepot$Books;") mw_1_19) (fun _ h9 => h9) rfl dX11_enlist_1 ?_
  refine va_get (D := G.1) (ci := 1) (v := .ref ntp) (C := RX1) (T := TX1) (N := 8) hx hb ht inlX1 hown hK.1 hP 1 rfl rfl 3 (by decide) (ht (Cond.fieldLink RX11 203 "PloughDepot$Books" "ploughs" "LPloughDepot$Table;") mw_29_16) (fun _ h9 => h9) rfl dX11_enlist_4 ?_
  have hPc := va_P.part (X := [(dp, .inr (11, .ref lg :: .ref nw :: d2 :: d3 :: d4 :: d5 :: .ref bd :: dv)), (nw, .inr (1, n0 :: n1 :: n2 :: .ref ntp :: nv)), (ntp, .inr (8, [.ref ntpo, .int 0])), (ntpo, .inl (G.2 5, 9, .inr (.inr (.inr (.inr ntpg))))), (bd, .inl (G.2 6, 12, .inr (.inr (.inr (.inr bdf))))), (bo, .inr (9, [o0, o1, o2]))]) (cx := [(ntp, .inr (8, [.ref ntpo, .int 0])), (ntpo, .inl (G.2 5, 9, .inr (.inr (.inr (.inr ntpg)))))]) hP [2, 3] rfl
  have hDc := va_D.part (X := [(dp, .inr (11, .ref lg :: .ref nw :: d2 :: d3 :: d4 :: d5 :: .ref bd :: dv)), (nw, .inr (1, n0 :: n1 :: n2 :: .ref ntp :: nv)), (ntp, .inr (8, [.ref ntpo, .int 0])), (ntpo, .inl (G.2 5, 9, .inr (.inr (.inr (.inr ntpg))))), (bd, .inl (G.2 6, 12, .inr (.inr (.inr (.inr bdf))))), (bo, .inr (9, [o0, o1, o2]))]) (cx := [(ntp, .inr (8, [.ref ntpo, .int 0])), (ntpo, .inl (G.2 5, 9, .inr (.inr (.inr (.inr ntpg)))))]) hD [2, 3] (by decide) rfl
  have hFc := va_freeP (X := [(dp, .inr (11, .ref lg :: .ref nw :: d2 :: d3 :: d4 :: d5 :: .ref bd :: dv)), (nw, .inr (1, n0 :: n1 :: n2 :: .ref ntp :: nv)), (ntp, .inr (8, [.ref ntpo, .int 0])), (ntpo, .inl (G.2 5, 9, .inr (.inr (.inr (.inr ntpg))))), (bd, .inl (G.2 6, 12, .inr (.inr (.inr (.inr bdf))))), (bo, .inr (9, [o0, o1, o2]))]) (cx := [(ntp, .inr (8, [.ref ntpo, .int 0])), (ntpo, .inl (G.2 5, 9, .inr (.inr (.inr (.inr ntpg)))))]) hD hS hA [2, 3] rfl
  refine va_calli (va_runV (As := []) (rest := []) ⟨hx, hb, hml, hown, hts⟩ (k_tadd l G _ ntp ntpo ntpg L fp (by first | assumption | decide) (by first | assumption | decide)) (cwV 0 hts (gd_V mw_12_18 mw_12_19 mw_12_20 mw_3_13 mw_12_21) rfl rfl rfl ⟨rfl, yk_X8_add⟩ ⟨Nat.le_of_ble_eq_true rfl, Nat.le_of_ble_eq_true rfl⟩) (c0_preV (q0 := 0) (ci := 8) (q := (RX8, TX8, 2)) hPc hK hDc rfl rfl) rfl rfl hl.1 rfl (lv_room (Nat.le_of_ble_eq_true rfl)) dX11_enlist_7 ⟨Nat.le_of_ble_eq_true rfl, Nat.le_of_ble_eq_true rfl⟩) hS (fun q _ h => hFc q h) hFc (fun r_1 u t H1 locs ht1 hvm hw hB hz1 hk1 hS => ?_)
  obtain ⟨fp2_2, rfl⟩ : ∃ z, z = u := ⟨_, rfl⟩
  try dsimp only at hw hB
  obtain ⟨hr2, hq2_0⟩ := hw
  have hRo := hq2_0
  obtain rfl := hr2.symm
  obtain ⟨hP1, hD1⟩ := hB
  rw [ht1] at hP1
  obtain ⟨hP, hD⟩ := va_joinP (X := [(dp, .inr (11, .ref lg :: .ref nw :: d2 :: d3 :: d4 :: d5 :: .ref bd :: dv)), (nw, .inr (1, n0 :: n1 :: n2 :: .ref ntp :: nv)), (ntp, .inr (8, [.ref ntpo, .int 0])), (ntpo, .inl (G.2 5, 9, .inr (.inr (.inr (.inr ntpg))))), (bd, .inl (G.2 6, 12, .inr (.inr (.inr (.inr bdf))))), (bo, .inr (9, [o0, o1, o2]))]) (cx := [(ntp, .inr (8, [.ref ntpo, .int 0])), (ntpo, .inl (G.2 5, 9, .inr (.inr (.inr (.inr ntpg)))))]) (wr := [(dp, .inr (11, .ref lg :: .ref nw :: d2 :: d3 :: d4 :: d5 :: .ref bd :: dv)), (nw, .inr (1, n0 :: n1 :: n2 :: .ref ntp :: nv)), (bd, .inl (G.2 6, 12, .inr (.inr (.inr (.inr bdf))))), (bo, .inr (9, [o0, o1, o2]))]) (rx := [(ntp, .inr (8, [.ref ntpo, .int 1])), (ntpo, .inl (G.2 5, 9, .inr (.inr (.inr (.inr ntpg)))))]) (pl1 := va_pl L fp2_2) hP hD [2, 3] [0, 1, 4, 5] rfl rfl (by decide) (by decide) hk1 hFc hP1 hD1
  generalize H1 = H at hP hS ⊢
  have hP : va_P G.1 vwCl ([(dp, .inr (11, .ref lg :: .ref nw :: d2 :: d3 :: d4 :: d5 :: .ref bd :: dv)), (nw, .inr (1, n0 :: n1 :: n2 :: .ref ntp :: nv)), (bd, .inl (G.2 6, 12, .inr (.inr (.inr (.inr bdf))))), (bo, .inr (9, [o0, o1, o2])), (ntp, .inr (8, [.ref ntpo, .int 1])), (ntpo, .inl (G.2 5, 9, .inr (.inr (.inr (.inr ntpg)))))] ++ va_pl L fp2_2) H := hP
  have hD : va_D A ([(dp, .inr (11, .ref lg :: .ref nw :: d2 :: d3 :: d4 :: d5 :: .ref bd :: dv)), (nw, .inr (1, n0 :: n1 :: n2 :: .ref ntp :: nv)), (bd, .inl (G.2 6, 12, .inr (.inr (.inr (.inr bdf))))), (bo, .inr (9, [o0, o1, o2])), (ntp, .inr (8, [.ref ntpo, .int 1])), (ntpo, .inl (G.2 5, 9, .inr (.inr (.inr (.inr ntpg)))))] ++ va_pl L fp2_2) := hD
  refine lv_istore (lv' := [(4, .int 0), (0, .ref dp), (1, .ref bo), (2, .int kd), (3, .int mi)]) hx hb dX11_enlist_10 hl (by decide) rfl (fun ls hl => ?_)
  refine lv_aload_n hx hb dX11_enlist_12 rfl (lv_at hl 1 rfl) ?_
  refine va_get (D := G.1) (ci := 11) (v := .ref bd) (C := RX11) (T := TX11) (N := 14) hx hb ht inlX11 hown hK.1 hP 0 rfl rfl 6 (by decide) (ht (Cond.fieldLink RX11 55 "PloughDepot" "bodies" "[LPloughDepot$Plough;") mw_2_10) (fun _ h9 => h9) rfl dX11_enlist_13 ?_
  refine lv_iload hx hb dX11_enlist_16 (lv_at hl 0 rfl) ?_
  refine lv_aload_n hx hb dX11_enlist_18 rfl (lv_at hl 2 rfl) ?_
  refine va_astqO hx hb hK.1 hP hD hS 2 6 3 9 (E := "PloughDepot$Plough") (r := (RX9, TX9, 3)) rfl rfl hK.2.2.2.2.2.2.2.2.2 rfl rfl (show ¬ ((0 : Int32) < 0 ∨ 12 ≤ (0 : Int32).toNatClampNeg) by decide) dX11_enlist_19 (fun H locs hP hD hS => ?_)
  have hP : va_P G.1 vwCl ([(dp, .inr (11, .ref lg :: .ref nw :: d2 :: d3 :: d4 :: d5 :: .ref bd :: dv)), (nw, .inr (1, n0 :: n1 :: n2 :: .ref ntp :: nv)), (bd, .inl (G.2 6, 12, .inr (.inr (.inr (.inr (va_up bdf (0 : Int32).toNatClampNeg (some bo))))))), (bo, .inr (9, [o0, o1, o2])), (ntp, .inr (8, [.ref ntpo, .int 1])), (ntpo, .inl (G.2 5, 9, .inr (.inr (.inr (.inr ntpg)))))] ++ va_pl L fp2_2) H := hP
  have hD : va_D A ([(dp, .inr (11, .ref lg :: .ref nw :: d2 :: d3 :: d4 :: d5 :: .ref bd :: dv)), (nw, .inr (1, n0 :: n1 :: n2 :: .ref ntp :: nv)), (bd, .inl (G.2 6, 12, .inr (.inr (.inr (.inr (va_up bdf (0 : Int32).toNatClampNeg (some bo))))))), (bo, .inr (9, [o0, o1, o2])), (ntp, .inr (8, [.ref ntpo, .int 1])), (ntpo, .inl (G.2 5, 9, .inr (.inr (.inr (.inr ntpg)))))] ++ va_pl L fp2_2) := hD
  generalize va_up bdf (0 : Int32).toNatClampNeg (some bo) = f_3 at hP hD
  refine lv_aload_n hx hb dX11_enlist_20 rfl (lv_at hl 1 rfl) ?_
  refine va_get (D := G.1) (ci := 11) (v := .ref nw) (C := RX11) (T := TX11) (N := 14) hx hb ht inlX11 hown hK.1 hP 0 rfl rfl 1 (by decide) (ht (Cond.fieldLink RX11 19 "PloughDepot" "now" "LPloughDepot$Books;") mw_1_19) (fun _ h9 => h9) rfl dX11_enlist_21 ?_
  refine va_get (D := G.1) (ci := 1) (v := .ref ntp) (C := RX1) (T := TX1) (N := 8) hx hb ht inlX1 hown hK.1 hP 1 rfl rfl 3 (by decide) (ht (Cond.fieldLink RX11 203 "PloughDepot$Books" "ploughs" "LPloughDepot$Table;") mw_29_16) (fun _ h9 => h9) rfl dX11_enlist_24 ?_
  refine lv_iload hx hb dX11_enlist_27 (lv_at hl 0 rfl) ?_
  refine lv_bipush (v := 6) hx hb dX11_enlist_29 (by decide) ?_
  refine lv_iload_n hx hb dX11_enlist_31 rfl (lv_at hl 3 rfl) ?_
  have hPc := va_P.part (X := [(dp, .inr (11, .ref lg :: .ref nw :: d2 :: d3 :: d4 :: d5 :: .ref bd :: dv)), (nw, .inr (1, n0 :: n1 :: n2 :: .ref ntp :: nv)), (bd, .inl (G.2 6, 12, .inr (.inr (.inr (.inr f_3))))), (bo, .inr (9, [o0, o1, o2])), (ntp, .inr (8, [.ref ntpo, .int 1])), (ntpo, .inl (G.2 5, 9, .inr (.inr (.inr (.inr ntpg)))))]) (cx := [(ntp, .inr (8, [.ref ntpo, .int 1])), (ntpo, .inl (G.2 5, 9, .inr (.inr (.inr (.inr ntpg)))))]) hP [4, 5] rfl
  have hDc := va_D.part (X := [(dp, .inr (11, .ref lg :: .ref nw :: d2 :: d3 :: d4 :: d5 :: .ref bd :: dv)), (nw, .inr (1, n0 :: n1 :: n2 :: .ref ntp :: nv)), (bd, .inl (G.2 6, 12, .inr (.inr (.inr (.inr f_3))))), (bo, .inr (9, [o0, o1, o2])), (ntp, .inr (8, [.ref ntpo, .int 1])), (ntpo, .inl (G.2 5, 9, .inr (.inr (.inr (.inr ntpg)))))]) (cx := [(ntp, .inr (8, [.ref ntpo, .int 1])), (ntpo, .inl (G.2 5, 9, .inr (.inr (.inr (.inr ntpg)))))]) hD [4, 5] (by decide) rfl
  have hFc := va_freeP (X := [(dp, .inr (11, .ref lg :: .ref nw :: d2 :: d3 :: d4 :: d5 :: .ref bd :: dv)), (nw, .inr (1, n0 :: n1 :: n2 :: .ref ntp :: nv)), (bd, .inl (G.2 6, 12, .inr (.inr (.inr (.inr f_3))))), (bo, .inr (9, [o0, o1, o2])), (ntp, .inr (8, [.ref ntpo, .int 1])), (ntpo, .inl (G.2 5, 9, .inr (.inr (.inr (.inr ntpg)))))]) (cx := [(ntp, .inr (8, [.ref ntpo, .int 1])), (ntpo, .inl (G.2 5, 9, .inr (.inr (.inr (.inr ntpg)))))]) hD hS hA [4, 5] rfl
  refine va_callv (va_runV (As := [.int 0, .int 6, .int kd]) (rest := []) ⟨hx, hb, hml, hown, hts⟩ (k_tput6 l G _ ntp kd ntpo ntpg L fp2_2 (by first | assumption | decide) (by first | assumption | decide)) (cwV 3 hts (gd_V mw_12_22 mw_12_23 mw_13_0 mw_3_13 mw_13_1) rfl rfl rfl ⟨rfl, yk_X8_put⟩ ⟨Nat.le_of_ble_eq_true rfl, Nat.le_of_ble_eq_true rfl⟩) (c0_preV (q0 := 0) (ci := 8) (q := (RX8, TX8, 2)) hPc hK hDc rfl rfl) rfl rfl hl.1 rfl (lv_room (Nat.le_of_ble_eq_true rfl)) dX11_enlist_32 ⟨Nat.le_of_ble_eq_true rfl, Nat.le_of_ble_eq_true rfl⟩) hS (fun q _ h => hFc q h) hFc (fun u t H1 locs ht1 hvm hw hB hz1 hk1 hS => ?_)
  obtain ⟨fp2_4, rfl⟩ : ∃ z, z = u := ⟨_, rfl⟩
  try dsimp only at hw hB
  have hq4_0 := hw
  have hRo := hq4_0
  obtain ⟨hP1, hD1⟩ := hB
  rw [ht1] at hP1
  obtain ⟨hP, hD⟩ := va_joinP (X := [(dp, .inr (11, .ref lg :: .ref nw :: d2 :: d3 :: d4 :: d5 :: .ref bd :: dv)), (nw, .inr (1, n0 :: n1 :: n2 :: .ref ntp :: nv)), (bd, .inl (G.2 6, 12, .inr (.inr (.inr (.inr f_3))))), (bo, .inr (9, [o0, o1, o2])), (ntp, .inr (8, [.ref ntpo, .int 1])), (ntpo, .inl (G.2 5, 9, .inr (.inr (.inr (.inr ntpg)))))]) (cx := [(ntp, .inr (8, [.ref ntpo, .int 1])), (ntpo, .inl (G.2 5, 9, .inr (.inr (.inr (.inr ntpg)))))]) (wr := [(dp, .inr (11, .ref lg :: .ref nw :: d2 :: d3 :: d4 :: d5 :: .ref bd :: dv)), (nw, .inr (1, n0 :: n1 :: n2 :: .ref ntp :: nv)), (bd, .inl (G.2 6, 12, .inr (.inr (.inr (.inr f_3))))), (bo, .inr (9, [o0, o1, o2]))]) (rx := [(ntp, .inr (8, [.ref ntpo, .int 1])), (ntpo, .inl (G.2 5, 9, .inr (.inr (.inr (.inr ntpg)))))]) (pl1 := va_pl L fp2_4) hP hD [4, 5] [0, 1, 2, 3] rfl rfl (by decide) (by decide) hk1 hFc hP1 hD1
  generalize H1 = H at hP hS ⊢
  have hP : va_P G.1 vwCl ([(dp, .inr (11, .ref lg :: .ref nw :: d2 :: d3 :: d4 :: d5 :: .ref bd :: dv)), (nw, .inr (1, n0 :: n1 :: n2 :: .ref ntp :: nv)), (bd, .inl (G.2 6, 12, .inr (.inr (.inr (.inr f_3))))), (bo, .inr (9, [o0, o1, o2])), (ntp, .inr (8, [.ref ntpo, .int 1])), (ntpo, .inl (G.2 5, 9, .inr (.inr (.inr (.inr ntpg)))))] ++ va_pl L fp2_4) H := hP
  have hD : va_D A ([(dp, .inr (11, .ref lg :: .ref nw :: d2 :: d3 :: d4 :: d5 :: .ref bd :: dv)), (nw, .inr (1, n0 :: n1 :: n2 :: .ref ntp :: nv)), (bd, .inl (G.2 6, 12, .inr (.inr (.inr (.inr f_3))))), (bo, .inr (9, [o0, o1, o2])), (ntp, .inr (8, [.ref ntpo, .int 1])), (ntpo, .inl (G.2 5, 9, .inr (.inr (.inr (.inr ntpg)))))] ++ va_pl L fp2_4) := hD
  refine lv_aload_n hx hb dX11_enlist_35 rfl (lv_at hl 1 rfl) ?_
  refine va_get (D := G.1) (ci := 11) (v := .ref nw) (C := RX11) (T := TX11) (N := 14) hx hb ht inlX11 hown hK.1 hP 0 rfl rfl 1 (by decide) (ht (Cond.fieldLink RX11 19 "PloughDepot" "now" "LPloughDepot$Books;") mw_1_19) (fun _ h9 => h9) rfl dX11_enlist_36 ?_
  refine va_get (D := G.1) (ci := 1) (v := .ref ntp) (C := RX1) (T := TX1) (N := 8) hx hb ht inlX1 hown hK.1 hP 1 rfl rfl 3 (by decide) (ht (Cond.fieldLink RX11 203 "PloughDepot$Books" "ploughs" "LPloughDepot$Table;") mw_29_16) (fun _ h9 => h9) rfl dX11_enlist_39 ?_
  refine lv_iload hx hb dX11_enlist_42 (lv_at hl 0 rfl) ?_
  refine lv_iconst (v := 5) hx hb dX11_enlist_44 (by decide) ?_
  refine lv_iload_n hx hb dX11_enlist_45 rfl (lv_at hl 4 rfl) ?_
  have hPc := va_P.part (X := [(dp, .inr (11, .ref lg :: .ref nw :: d2 :: d3 :: d4 :: d5 :: .ref bd :: dv)), (nw, .inr (1, n0 :: n1 :: n2 :: .ref ntp :: nv)), (bd, .inl (G.2 6, 12, .inr (.inr (.inr (.inr f_3))))), (bo, .inr (9, [o0, o1, o2])), (ntp, .inr (8, [.ref ntpo, .int 1])), (ntpo, .inl (G.2 5, 9, .inr (.inr (.inr (.inr ntpg)))))]) (cx := [(ntp, .inr (8, [.ref ntpo, .int 1])), (ntpo, .inl (G.2 5, 9, .inr (.inr (.inr (.inr ntpg)))))]) hP [4, 5] rfl
  have hDc := va_D.part (X := [(dp, .inr (11, .ref lg :: .ref nw :: d2 :: d3 :: d4 :: d5 :: .ref bd :: dv)), (nw, .inr (1, n0 :: n1 :: n2 :: .ref ntp :: nv)), (bd, .inl (G.2 6, 12, .inr (.inr (.inr (.inr f_3))))), (bo, .inr (9, [o0, o1, o2])), (ntp, .inr (8, [.ref ntpo, .int 1])), (ntpo, .inl (G.2 5, 9, .inr (.inr (.inr (.inr ntpg)))))]) (cx := [(ntp, .inr (8, [.ref ntpo, .int 1])), (ntpo, .inl (G.2 5, 9, .inr (.inr (.inr (.inr ntpg)))))]) hD [4, 5] (by decide) rfl
  have hFc := va_freeP (X := [(dp, .inr (11, .ref lg :: .ref nw :: d2 :: d3 :: d4 :: d5 :: .ref bd :: dv)), (nw, .inr (1, n0 :: n1 :: n2 :: .ref ntp :: nv)), (bd, .inl (G.2 6, 12, .inr (.inr (.inr (.inr f_3))))), (bo, .inr (9, [o0, o1, o2])), (ntp, .inr (8, [.ref ntpo, .int 1])), (ntpo, .inl (G.2 5, 9, .inr (.inr (.inr (.inr ntpg)))))]) (cx := [(ntp, .inr (8, [.ref ntpo, .int 1])), (ntpo, .inl (G.2 5, 9, .inr (.inr (.inr (.inr ntpg)))))]) hD hS hA [4, 5] rfl
  refine va_callv (va_runV (As := [.int 0, .int 5, .int mi]) (rest := []) ⟨hx, hb, hml, hown, hts⟩ (k_tput5 l G _ ntp mi ntpo ntpg L fp2_4 (by first | assumption | decide) (by first | assumption | decide)) (cwV 3 hts (gd_V mw_12_22 mw_12_23 mw_13_0 mw_3_13 mw_13_1) rfl rfl rfl ⟨rfl, yk_X8_put⟩ ⟨Nat.le_of_ble_eq_true rfl, Nat.le_of_ble_eq_true rfl⟩) (c0_preV (q0 := 0) (ci := 8) (q := (RX8, TX8, 2)) hPc hK hDc rfl rfl) rfl rfl hl.1 rfl (lv_room (Nat.le_of_ble_eq_true rfl)) dX11_enlist_46 ⟨Nat.le_of_ble_eq_true rfl, Nat.le_of_ble_eq_true rfl⟩) hS (fun q _ h => hFc q h) hFc (fun u t H1 locs ht1 hvm hw hB hz1 hk1 hS => ?_)
  obtain ⟨fp2_5, rfl⟩ : ∃ z, z = u := ⟨_, rfl⟩
  try dsimp only at hw hB
  have hq5_0 := hw
  have hRo := hq5_0
  obtain ⟨hP1, hD1⟩ := hB
  rw [ht1] at hP1
  obtain ⟨hP, hD⟩ := va_joinP (X := [(dp, .inr (11, .ref lg :: .ref nw :: d2 :: d3 :: d4 :: d5 :: .ref bd :: dv)), (nw, .inr (1, n0 :: n1 :: n2 :: .ref ntp :: nv)), (bd, .inl (G.2 6, 12, .inr (.inr (.inr (.inr f_3))))), (bo, .inr (9, [o0, o1, o2])), (ntp, .inr (8, [.ref ntpo, .int 1])), (ntpo, .inl (G.2 5, 9, .inr (.inr (.inr (.inr ntpg)))))]) (cx := [(ntp, .inr (8, [.ref ntpo, .int 1])), (ntpo, .inl (G.2 5, 9, .inr (.inr (.inr (.inr ntpg)))))]) (wr := [(dp, .inr (11, .ref lg :: .ref nw :: d2 :: d3 :: d4 :: d5 :: .ref bd :: dv)), (nw, .inr (1, n0 :: n1 :: n2 :: .ref ntp :: nv)), (bd, .inl (G.2 6, 12, .inr (.inr (.inr (.inr f_3))))), (bo, .inr (9, [o0, o1, o2]))]) (rx := [(ntp, .inr (8, [.ref ntpo, .int 1])), (ntpo, .inl (G.2 5, 9, .inr (.inr (.inr (.inr ntpg)))))]) (pl1 := va_pl L fp2_5) hP hD [4, 5] [0, 1, 2, 3] rfl rfl (by decide) (by decide) hk1 hFc hP1 hD1
  generalize H1 = H at hP hS ⊢
  have hP : va_P G.1 vwCl ([(dp, .inr (11, .ref lg :: .ref nw :: d2 :: d3 :: d4 :: d5 :: .ref bd :: dv)), (nw, .inr (1, n0 :: n1 :: n2 :: .ref ntp :: nv)), (bd, .inl (G.2 6, 12, .inr (.inr (.inr (.inr f_3))))), (bo, .inr (9, [o0, o1, o2])), (ntp, .inr (8, [.ref ntpo, .int 1])), (ntpo, .inl (G.2 5, 9, .inr (.inr (.inr (.inr ntpg)))))] ++ va_pl L fp2_5) H := hP
  have hD : va_D A ([(dp, .inr (11, .ref lg :: .ref nw :: d2 :: d3 :: d4 :: d5 :: .ref bd :: dv)), (nw, .inr (1, n0 :: n1 :: n2 :: .ref ntp :: nv)), (bd, .inl (G.2 6, 12, .inr (.inr (.inr (.inr f_3))))), (bo, .inr (9, [o0, o1, o2])), (ntp, .inr (8, [.ref ntpo, .int 1])), (ntpo, .inl (G.2 5, 9, .inr (.inr (.inr (.inr ntpg)))))] ++ va_pl L fp2_5) := hD
  refine lv_iload hx hb dX11_enlist_49 (lv_at hl 0 rfl) ?_
  have hP9 := va_P.part (X := [(dp, .inr (11, .ref lg :: .ref nw :: d2 :: d3 :: d4 :: d5 :: .ref bd :: dv)), (nw, .inr (1, n0 :: n1 :: n2 :: .ref ntp :: nv)), (bd, .inl (G.2 6, 12, .inr (.inr (.inr (.inr f_3))))), (bo, .inr (9, [o0, o1, o2])), (ntp, .inr (8, [.ref ntpo, .int 1])), (ntpo, .inl (G.2 5, 9, .inr (.inr (.inr (.inr ntpg)))))]) (cx := [(dp, .inr (11, .ref lg :: .ref nw :: d2 :: d3 :: d4 :: d5 :: .ref bd :: dv)), (nw, .inr (1, n0 :: n1 :: n2 :: .ref ntp :: nv)), (ntp, .inr (8, [.ref ntpo, .int 1])), (ntpo, .inl (G.2 5, 9, .inr (.inr (.inr (.inr ntpg))))), (bd, .inl (G.2 6, 12, .inr (.inr (.inr (.inr f_3))))), (bo, .inr (9, [o0, o1, o2]))]) hP [0, 1, 4, 5, 2, 3] rfl
  have hD9 := va_D.part (X := [(dp, .inr (11, .ref lg :: .ref nw :: d2 :: d3 :: d4 :: d5 :: .ref bd :: dv)), (nw, .inr (1, n0 :: n1 :: n2 :: .ref ntp :: nv)), (bd, .inl (G.2 6, 12, .inr (.inr (.inr (.inr f_3))))), (bo, .inr (9, [o0, o1, o2])), (ntp, .inr (8, [.ref ntpo, .int 1])), (ntpo, .inl (G.2 5, 9, .inr (.inr (.inr (.inr ntpg)))))]) (cx := [(dp, .inr (11, .ref lg :: .ref nw :: d2 :: d3 :: d4 :: d5 :: .ref bd :: dv)), (nw, .inr (1, n0 :: n1 :: n2 :: .ref ntp :: nv)), (ntp, .inr (8, [.ref ntpo, .int 1])), (ntpo, .inl (G.2 5, 9, .inr (.inr (.inr (.inr ntpg))))), (bd, .inl (G.2 6, 12, .inr (.inr (.inr (.inr f_3))))), (bo, .inr (9, [o0, o1, o2]))]) hD [0, 1, 4, 5, 2, 3] (by decide) rfl
  exact W.iret (v := 0) hx hb hr (fun t ht hW => ⟨⟨0, (fp2_5, f_3), rfl, ⟨rfl, hRo⟩, ⟨by rw [ht]; exact hP9, hD9⟩⟩, hS.F ht⟩) hS.2.2 dX11_enlist_51

