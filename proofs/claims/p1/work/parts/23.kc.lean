set_option maxHeartbeats 4000000 in
set_option maxRecDepth 100000 in
theorem k_tinit_9_16 (l : Launch) (G : GG) (sz : Nat) (tb : Nat) (L : List Nat) (fp : Nat → va_E) (hRo : Ro G L fp) : Met l yX8_init (.code yX8_init cX8_init 3 none :: TT) ({ frames := 1, cells := 10, slots := 153, locals := 100 } : Room) (c0_P G [.ref tb, .int 9, .int 16] sz ([(tb, .inr (8, [.null, .int 0]))] ++ va_pl L fp)) (va_Qv (S := Nat × (Nat → Option Nat) × (List Nat) × (Nat → va_E)) (fun (u : Nat × (Nat → Option Nat) × (List Nat) × (Nat → va_E)) => Ro G u.2.2.1 u.2.2.2 ∧ ∀ a9, a9 ∈ L → a9 ∈ u.2.2.1 ∧ Gr u.2.2.1 u.2.1 9) (fun (u : Nat × (Nat → Option Nat) × (List Nat) × (Nat → va_E)) (t : State) => c0_B G (va_A ([(tb, .inr (8, [.null, .int 0]))] ++ va_pl L fp) sz) ([(tb, .inr (8, [.ref u.1, .int 0])), (u.1, .inl (G.2 5, 9, .inr (.inr (.inr (.inr u.2.1)))))] ++ va_pl u.2.2.1 u.2.2.2) t) (va_A ([(tb, .inr (8, [.null, .int 0]))] ++ va_pl L fp) sz)) 10 153 (va_A ([(tb, .inr (8, [.null, .int 0]))] ++ va_pl L fp) sz) := by
  refine Met.ofW (cc := cX8_init) (maxL := 3) (ret := none) (by decide) rfl ?_
  intro p e s m args below meth c s₁ B hml hv
  obtain ⟨rfl, hsz, hP, hK, hD0⟩ := hv
  have hx := B.exec
  have hb := B.bytes
  have hr := B.returns
  have hts := atoms_spec (ws := .code yX8_init cX8_init 3 none :: TT) B.pre
  have ht := fun (w : Cond) (h : w ∈ TT) => hts w (List.mem_cons_of_mem _ h)
  have hown : s.vm.findClass RX8 = some m.cls := findClass_of_methodNamed B.named
  have hlocks := B.notSynchronized
  have hin : meth.name = "<init>" := (name_of_methodNamed B.named B.method).1
  subst hsz
  have hD := hD0.self (sz := s.heap.size)
  generalize hAe : va_A ([(tb, .inr (8, [.null, .int 0]))] ++ va_pl L fp) s.heap.size = A at hD ⊢
  have hA : ∀ q : Nat, s.heap.size ≤ q → A q := fun q h => by rw [← hAe]; exact Or.inr h
  have hS : va_S A s.heap s.heap [] := va_S.rf
  have hP : va_P G.1 vwCl ([(tb, .inr (8, [.null, .int 0]))] ++ va_pl L fp) s.heap := hP
  have hl := lv_entry ([.ref tb, .int 9, .int 16]) (n := 3) (Nat.le_of_ble_eq_true rfl)
  rw [lg_entry_eq]
  generalize (lg_sl ([.ref tb, .int 9, .int 16]) ++ List.replicate (3 - (lg_sl ([.ref tb, .int 9, .int 16])).length) Slot.unset).toArray = ls at hl ⊢
  have hl : lv_has ls 3 [(0, .ref tb), (1, .int 9), (2, .int 16)] := hl
  have hsub : ∀ a9, a9 ∈ L → a9 ∈ L := fun _ h => h
  refine lv_aload_n hx hb dX8_init_0 rfl (lv_at hl 0 rfl) ?_
  refine W.objInit hx hb hown (ht (Cond.methodLink RX8 3 objectInit) mw_4_1) (ht (Cond.instanceMethod objectInit) mw_1_10) (ht (Cond.code objectInit ⟨#[0xb1]⟩ 1 none) mw_1_11) rfl (by rw [hml]; exact hl.1) rfl dX8_init_1 (Nat.le_of_ble_eq_true rfl) (Nat.le_of_ble_eq_true rfl) ?_
  refine W.eq (g2 := F0 m 4 ls []) rfl ?_
  refine lv_aload_n hx hb dX8_init_4 rfl (lv_at hl 0 rfl) ?_
  refine lv_iconst (v := 0) hx hb dX8_init_5 (by decide) ?_
  refine va_put (D := G.1) (ci := 8) (v := .int 0) (ty := tyX8 1) (C := RX8) (T := TX8) (N := 2) hx hb ht inlX8 tyX8 tyX8_ok nmX8 hown hK.1 hP hD hS 0 rfl rfl 1 (by decide) (ht (Cond.fieldLink RX8 9 "PloughDepot$Table" "size" "I") mw_4_2) (fun _ h9 => h9) rfl (tyX8_ok 1 (by decide)) rfl rfl (Nat.le_of_ble_eq_true rfl) dX8_init_6 (fun H locs hP hD hS => ?_)
  have hP : va_P G.1 vwCl ([(tb, .inr (8, [.null, .int 0]))] ++ va_pl L fp) H := hP
  have hD : va_D A ([(tb, .inr (8, [.null, .int 0]))] ++ va_pl L fp) := hD
  refine lv_aload_n hx hb dX8_init_9 rfl (lv_at hl 0 rfl) ?_
  refine lv_iload_n hx hb dX8_init_10 rfl (lv_at hl 1 rfl) ?_
  refine lv_iload_n hx hb dX8_init_11 rfl (lv_at hl 2 rfl) ?_
  refine ns_mna (X := [(tb, .inr (8, [.null, .int 0]))]) hx hb hown (ht (Cond.classLink RX8 15 "[[I") mw_4_3) (ht (Cond.arrayClass .int) mw_2_13) hK hRo hP hD hS hA (by decide) (by decide) (N' := 9) (by decide) (K' := 16) (by decide) (by decide) (by decide) (by decide) (Nat.le_of_ble_eq_true rfl) (Nat.le_of_ble_eq_true rfl) dX8_init_12 (fun q_1 g_2 L_3 fp_4 H hRo hsb_5 hg_6 hP hD hS => ?_)
  have hsub := fun (a9 : Nat) h => hsb_5 a9 (hsub a9 h)
  have hP : va_P G.1 vwCl ([(tb, .inr (8, [.null, .int 0])), (q_1, .inl (G.2 5, 9, .inr (.inr (.inr (.inr g_2)))))] ++ va_pl L_3 fp_4) H := hP
  have hD : va_D A ([(tb, .inr (8, [.null, .int 0])), (q_1, .inl (G.2 5, 9, .inr (.inr (.inr (.inr g_2)))))] ++ va_pl L_3 fp_4) := hD
  refine W.widen (k := 10) (n := 153) (by omega) (by omega) ?_
  refine va_putF (D := G.1) (ci := 8) (v := .ref q_1) (ty := tyX8 0) (C := RX8) (T := TX8) (N := 2) hx hb ht inlX8 tyX8 tyX8_ok nmX8 hown hK.1 hP hD hS 0 rfl rfl 0 (by decide) (ht (Cond.fieldLink RX8 17 "PloughDepot$Table" "cells" "[[I") mw_4_4) (fun _ h9 => h9) rfl hin rfl (tyX8_ok 0 (by decide)) rfl rfl (Nat.le_of_ble_eq_true rfl) dX8_init_16 (fun H locs hP hD hS => ?_)
  have hP : va_P G.1 vwCl ([(tb, .inr (8, [.ref q_1, .int 0])), (q_1, .inl (G.2 5, 9, .inr (.inr (.inr (.inr g_2)))))] ++ va_pl L_3 fp_4) H := hP
  have hD : va_D A ([(tb, .inr (8, [.ref q_1, .int 0])), (q_1, .inl (G.2 5, 9, .inr (.inr (.inr (.inr g_2)))))] ++ va_pl L_3 fp_4) := hD
  have hP9 := va_P.part (X := [(tb, .inr (8, [.ref q_1, .int 0])), (q_1, .inl (G.2 5, 9, .inr (.inr (.inr (.inr g_2)))))]) (cx := [(tb, .inr (8, [.ref q_1, .int 0])), (q_1, .inl (G.2 5, 9, .inr (.inr (.inr (.inr g_2)))))]) hP [0, 1] rfl
  have hD9 := va_D.part (X := [(tb, .inr (8, [.ref q_1, .int 0])), (q_1, .inl (G.2 5, 9, .inr (.inr (.inr (.inr g_2)))))]) (cx := [(tb, .inr (8, [.ref q_1, .int 0])), (q_1, .inl (G.2 5, 9, .inr (.inr (.inr (.inr g_2)))))]) hD [0, 1] (by decide) rfl
  exact W.vret hx hb hr (fun t ht hW => ⟨⟨(q_1, g_2, L_3, fp_4), rfl, ⟨hRo, hsub, hg_6⟩, ⟨by rw [ht]; exact hP9, hD9⟩⟩, hS.F ht⟩) hS.2.2 dX8_init_19

set_option maxHeartbeats 4000000 in
set_option maxRecDepth 100000 in
theorem k_tinit_3_4 (l : Launch) (G : GG) (sz : Nat) (tb : Nat) (L : List Nat) (fp : Nat → va_E) (hRo : Ro G L fp) : Met l yX8_init (.code yX8_init cX8_init 3 none :: TT) ({ frames := 1, cells := 4, slots := 15, locals := 100 } : Room) (c0_P G [.ref tb, .int 3, .int 4] sz ([(tb, .inr (8, [.null, .int 0]))] ++ va_pl L fp)) (va_Qv (S := Nat × (Nat → Option Nat) × (List Nat) × (Nat → va_E)) (fun (u : Nat × (Nat → Option Nat) × (List Nat) × (Nat → va_E)) => Ro G u.2.2.1 u.2.2.2 ∧ ∀ a9, a9 ∈ L → a9 ∈ u.2.2.1 ∧ Gr u.2.2.1 u.2.1 3) (fun (u : Nat × (Nat → Option Nat) × (List Nat) × (Nat → va_E)) (t : State) => c0_B G (va_A ([(tb, .inr (8, [.null, .int 0]))] ++ va_pl L fp) sz) ([(tb, .inr (8, [.ref u.1, .int 0])), (u.1, .inl (G.2 5, 3, .inr (.inr (.inr (.inr u.2.1)))))] ++ va_pl u.2.2.1 u.2.2.2) t) (va_A ([(tb, .inr (8, [.null, .int 0]))] ++ va_pl L fp) sz)) 4 15 (va_A ([(tb, .inr (8, [.null, .int 0]))] ++ va_pl L fp) sz) := by
  refine Met.ofW (cc := cX8_init) (maxL := 3) (ret := none) (by decide) rfl ?_
  intro p e s m args below meth c s₁ B hml hv
  obtain ⟨rfl, hsz, hP, hK, hD0⟩ := hv
  have hx := B.exec
  have hb := B.bytes
  have hr := B.returns
  have hts := atoms_spec (ws := .code yX8_init cX8_init 3 none :: TT) B.pre
  have ht := fun (w : Cond) (h : w ∈ TT) => hts w (List.mem_cons_of_mem _ h)
  have hown : s.vm.findClass RX8 = some m.cls := findClass_of_methodNamed B.named
  have hlocks := B.notSynchronized
  have hin : meth.name = "<init>" := (name_of_methodNamed B.named B.method).1
  subst hsz
  have hD := hD0.self (sz := s.heap.size)
  generalize hAe : va_A ([(tb, .inr (8, [.null, .int 0]))] ++ va_pl L fp) s.heap.size = A at hD ⊢
  have hA : ∀ q : Nat, s.heap.size ≤ q → A q := fun q h => by rw [← hAe]; exact Or.inr h
  have hS : va_S A s.heap s.heap [] := va_S.rf
  have hP : va_P G.1 vwCl ([(tb, .inr (8, [.null, .int 0]))] ++ va_pl L fp) s.heap := hP
  have hl := lv_entry ([.ref tb, .int 3, .int 4]) (n := 3) (Nat.le_of_ble_eq_true rfl)
  rw [lg_entry_eq]
  generalize (lg_sl ([.ref tb, .int 3, .int 4]) ++ List.replicate (3 - (lg_sl ([.ref tb, .int 3, .int 4])).length) Slot.unset).toArray = ls at hl ⊢
  have hl : lv_has ls 3 [(0, .ref tb), (1, .int 3), (2, .int 4)] := hl
  have hsub : ∀ a9, a9 ∈ L → a9 ∈ L := fun _ h => h
  refine lv_aload_n hx hb dX8_init_0 rfl (lv_at hl 0 rfl) ?_
  refine W.objInit hx hb hown (ht (Cond.methodLink RX8 3 objectInit) mw_4_1) (ht (Cond.instanceMethod objectInit) mw_1_10) (ht (Cond.code objectInit ⟨#[0xb1]⟩ 1 none) mw_1_11) rfl (by rw [hml]; exact hl.1) rfl dX8_init_1 (Nat.le_of_ble_eq_true rfl) (Nat.le_of_ble_eq_true rfl) ?_
  refine W.eq (g2 := F0 m 4 ls []) rfl ?_
  refine lv_aload_n hx hb dX8_init_4 rfl (lv_at hl 0 rfl) ?_
  refine lv_iconst (v := 0) hx hb dX8_init_5 (by decide) ?_
  refine va_put (D := G.1) (ci := 8) (v := .int 0) (ty := tyX8 1) (C := RX8) (T := TX8) (N := 2) hx hb ht inlX8 tyX8 tyX8_ok nmX8 hown hK.1 hP hD hS 0 rfl rfl 1 (by decide) (ht (Cond.fieldLink RX8 9 "PloughDepot$Table" "size" "I") mw_4_2) (fun _ h9 => h9) rfl (tyX8_ok 1 (by decide)) rfl rfl (Nat.le_of_ble_eq_true rfl) dX8_init_6 (fun H locs hP hD hS => ?_)
  have hP : va_P G.1 vwCl ([(tb, .inr (8, [.null, .int 0]))] ++ va_pl L fp) H := hP
  have hD : va_D A ([(tb, .inr (8, [.null, .int 0]))] ++ va_pl L fp) := hD
  refine lv_aload_n hx hb dX8_init_9 rfl (lv_at hl 0 rfl) ?_
  refine lv_iload_n hx hb dX8_init_10 rfl (lv_at hl 1 rfl) ?_
  refine lv_iload_n hx hb dX8_init_11 rfl (lv_at hl 2 rfl) ?_
  refine ns_mna (X := [(tb, .inr (8, [.null, .int 0]))]) hx hb hown (ht (Cond.classLink RX8 15 "[[I") mw_4_3) (ht (Cond.arrayClass .int) mw_2_13) hK hRo hP hD hS hA (by decide) (by decide) (N' := 3) (by decide) (K' := 4) (by decide) (by decide) (by decide) (by decide) (Nat.le_of_ble_eq_true rfl) (Nat.le_of_ble_eq_true rfl) dX8_init_12 (fun q_1 g_2 L_3 fp_4 H hRo hsb_5 hg_6 hP hD hS => ?_)
  have hsub := fun (a9 : Nat) h => hsb_5 a9 (hsub a9 h)
  have hP : va_P G.1 vwCl ([(tb, .inr (8, [.null, .int 0])), (q_1, .inl (G.2 5, 3, .inr (.inr (.inr (.inr g_2)))))] ++ va_pl L_3 fp_4) H := hP
  have hD : va_D A ([(tb, .inr (8, [.null, .int 0])), (q_1, .inl (G.2 5, 3, .inr (.inr (.inr (.inr g_2)))))] ++ va_pl L_3 fp_4) := hD
  refine W.widen (k := 4) (n := 15) (by omega) (by omega) ?_
  refine va_putF (D := G.1) (ci := 8) (v := .ref q_1) (ty := tyX8 0) (C := RX8) (T := TX8) (N := 2) hx hb ht inlX8 tyX8 tyX8_ok nmX8 hown hK.1 hP hD hS 0 rfl rfl 0 (by decide) (ht (Cond.fieldLink RX8 17 "PloughDepot$Table" "cells" "[[I") mw_4_4) (fun _ h9 => h9) rfl hin rfl (tyX8_ok 0 (by decide)) rfl rfl (Nat.le_of_ble_eq_true rfl) dX8_init_16 (fun H locs hP hD hS => ?_)
  have hP : va_P G.1 vwCl ([(tb, .inr (8, [.ref q_1, .int 0])), (q_1, .inl (G.2 5, 3, .inr (.inr (.inr (.inr g_2)))))] ++ va_pl L_3 fp_4) H := hP
  have hD : va_D A ([(tb, .inr (8, [.ref q_1, .int 0])), (q_1, .inl (G.2 5, 3, .inr (.inr (.inr (.inr g_2)))))] ++ va_pl L_3 fp_4) := hD
  have hP9 := va_P.part (X := [(tb, .inr (8, [.ref q_1, .int 0])), (q_1, .inl (G.2 5, 3, .inr (.inr (.inr (.inr g_2)))))]) (cx := [(tb, .inr (8, [.ref q_1, .int 0])), (q_1, .inl (G.2 5, 3, .inr (.inr (.inr (.inr g_2)))))]) hP [0, 1] rfl
  have hD9 := va_D.part (X := [(tb, .inr (8, [.ref q_1, .int 0])), (q_1, .inl (G.2 5, 3, .inr (.inr (.inr (.inr g_2)))))]) (cx := [(tb, .inr (8, [.ref q_1, .int 0])), (q_1, .inl (G.2 5, 3, .inr (.inr (.inr (.inr g_2)))))]) hD [0, 1] (by decide) rfl
  exact W.vret hx hb hr (fun t ht hW => ⟨⟨(q_1, g_2, L_3, fp_4), rfl, ⟨hRo, hsub, hg_6⟩, ⟨by rw [ht]; exact hP9, hD9⟩⟩, hS.F ht⟩) hS.2.2 dX8_init_19

set_option maxHeartbeats 4000000 in
set_option maxRecDepth 100000 in
theorem k_tinit_9_4 (l : Launch) (G : GG) (sz : Nat) (tb : Nat) (L : List Nat) (fp : Nat → va_E) (hRo : Ro G L fp) : Met l yX8_init (.code yX8_init cX8_init 3 none :: TT) ({ frames := 1, cells := 10, slots := 45, locals := 100 } : Room) (c0_P G [.ref tb, .int 9, .int 4] sz ([(tb, .inr (8, [.null, .int 0]))] ++ va_pl L fp)) (va_Qv (S := Nat × (Nat → Option Nat) × (List Nat) × (Nat → va_E)) (fun (u : Nat × (Nat → Option Nat) × (List Nat) × (Nat → va_E)) => Ro G u.2.2.1 u.2.2.2 ∧ ∀ a9, a9 ∈ L → a9 ∈ u.2.2.1 ∧ Gr u.2.2.1 u.2.1 9) (fun (u : Nat × (Nat → Option Nat) × (List Nat) × (Nat → va_E)) (t : State) => c0_B G (va_A ([(tb, .inr (8, [.null, .int 0]))] ++ va_pl L fp) sz) ([(tb, .inr (8, [.ref u.1, .int 0])), (u.1, .inl (G.2 5, 9, .inr (.inr (.inr (.inr u.2.1)))))] ++ va_pl u.2.2.1 u.2.2.2) t) (va_A ([(tb, .inr (8, [.null, .int 0]))] ++ va_pl L fp) sz)) 10 45 (va_A ([(tb, .inr (8, [.null, .int 0]))] ++ va_pl L fp) sz) := by
  refine Met.ofW (cc := cX8_init) (maxL := 3) (ret := none) (by decide) rfl ?_
  intro p e s m args below meth c s₁ B hml hv
  obtain ⟨rfl, hsz, hP, hK, hD0⟩ := hv
  have hx := B.exec
  have hb := B.bytes
  have hr := B.returns
  have hts := atoms_spec (ws := .code yX8_init cX8_init 3 none :: TT) B.pre
  have ht := fun (w : Cond) (h : w ∈ TT) => hts w (List.mem_cons_of_mem _ h)
  have hown : s.vm.findClass RX8 = some m.cls := findClass_of_methodNamed B.named
  have hlocks := B.notSynchronized
  have hin : meth.name = "<init>" := (name_of_methodNamed B.named B.method).1
  subst hsz
  have hD := hD0.self (sz := s.heap.size)
  generalize hAe : va_A ([(tb, .inr (8, [.null, .int 0]))] ++ va_pl L fp) s.heap.size = A at hD ⊢
  have hA : ∀ q : Nat, s.heap.size ≤ q → A q := fun q h => by rw [← hAe]; exact Or.inr h
  have hS : va_S A s.heap s.heap [] := va_S.rf
  have hP : va_P G.1 vwCl ([(tb, .inr (8, [.null, .int 0]))] ++ va_pl L fp) s.heap := hP
  have hl := lv_entry ([.ref tb, .int 9, .int 4]) (n := 3) (Nat.le_of_ble_eq_true rfl)
  rw [lg_entry_eq]
  generalize (lg_sl ([.ref tb, .int 9, .int 4]) ++ List.replicate (3 - (lg_sl ([.ref tb, .int 9, .int 4])).length) Slot.unset).toArray = ls at hl ⊢
  have hl : lv_has ls 3 [(0, .ref tb), (1, .int 9), (2, .int 4)] := hl
  have hsub : ∀ a9, a9 ∈ L → a9 ∈ L := fun _ h => h
  refine lv_aload_n hx hb dX8_init_0 rfl (lv_at hl 0 rfl) ?_
  refine W.objInit hx hb hown (ht (Cond.methodLink RX8 3 objectInit) mw_4_1) (ht (Cond.instanceMethod objectInit) mw_1_10) (ht (Cond.code objectInit ⟨#[0xb1]⟩ 1 none) mw_1_11) rfl (by rw [hml]; exact hl.1) rfl dX8_init_1 (Nat.le_of_ble_eq_true rfl) (Nat.le_of_ble_eq_true rfl) ?_
  refine W.eq (g2 := F0 m 4 ls []) rfl ?_
  refine lv_aload_n hx hb dX8_init_4 rfl (lv_at hl 0 rfl) ?_
  refine lv_iconst (v := 0) hx hb dX8_init_5 (by decide) ?_
  refine va_put (D := G.1) (ci := 8) (v := .int 0) (ty := tyX8 1) (C := RX8) (T := TX8) (N := 2) hx hb ht inlX8 tyX8 tyX8_ok nmX8 hown hK.1 hP hD hS 0 rfl rfl 1 (by decide) (ht (Cond.fieldLink RX8 9 "PloughDepot$Table" "size" "I") mw_4_2) (fun _ h9 => h9) rfl (tyX8_ok 1 (by decide)) rfl rfl (Nat.le_of_ble_eq_true rfl) dX8_init_6 (fun H locs hP hD hS => ?_)
  have hP : va_P G.1 vwCl ([(tb, .inr (8, [.null, .int 0]))] ++ va_pl L fp) H := hP
  have hD : va_D A ([(tb, .inr (8, [.null, .int 0]))] ++ va_pl L fp) := hD
  refine lv_aload_n hx hb dX8_init_9 rfl (lv_at hl 0 rfl) ?_
  refine lv_iload_n hx hb dX8_init_10 rfl (lv_at hl 1 rfl) ?_
  refine lv_iload_n hx hb dX8_init_11 rfl (lv_at hl 2 rfl) ?_
  refine ns_mna (X := [(tb, .inr (8, [.null, .int 0]))]) hx hb hown (ht (Cond.classLink RX8 15 "[[I") mw_4_3) (ht (Cond.arrayClass .int) mw_2_13) hK hRo hP hD hS hA (by decide) (by decide) (N' := 9) (by decide) (K' := 4) (by decide) (by decide) (by decide) (by decide) (Nat.le_of_ble_eq_true rfl) (Nat.le_of_ble_eq_true rfl) dX8_init_12 (fun q_1 g_2 L_3 fp_4 H hRo hsb_5 hg_6 hP hD hS => ?_)
  have hsub := fun (a9 : Nat) h => hsb_5 a9 (hsub a9 h)
  have hP : va_P G.1 vwCl ([(tb, .inr (8, [.null, .int 0])), (q_1, .inl (G.2 5, 9, .inr (.inr (.inr (.inr g_2)))))] ++ va_pl L_3 fp_4) H := hP
  have hD : va_D A ([(tb, .inr (8, [.null, .int 0])), (q_1, .inl (G.2 5, 9, .inr (.inr (.inr (.inr g_2)))))] ++ va_pl L_3 fp_4) := hD
  refine W.widen (k := 10) (n := 45) (by omega) (by omega) ?_
  refine va_putF (D := G.1) (ci := 8) (v := .ref q_1) (ty := tyX8 0) (C := RX8) (T := TX8) (N := 2) hx hb ht inlX8 tyX8 tyX8_ok nmX8 hown hK.1 hP hD hS 0 rfl rfl 0 (by decide) (ht (Cond.fieldLink RX8 17 "PloughDepot$Table" "cells" "[[I") mw_4_4) (fun _ h9 => h9) rfl hin rfl (tyX8_ok 0 (by decide)) rfl rfl (Nat.le_of_ble_eq_true rfl) dX8_init_16 (fun H locs hP hD hS => ?_)
  have hP : va_P G.1 vwCl ([(tb, .inr (8, [.ref q_1, .int 0])), (q_1, .inl (G.2 5, 9, .inr (.inr (.inr (.inr g_2)))))] ++ va_pl L_3 fp_4) H := hP
  have hD : va_D A ([(tb, .inr (8, [.ref q_1, .int 0])), (q_1, .inl (G.2 5, 9, .inr (.inr (.inr (.inr g_2)))))] ++ va_pl L_3 fp_4) := hD
  have hP9 := va_P.part (X := [(tb, .inr (8, [.ref q_1, .int 0])), (q_1, .inl (G.2 5, 9, .inr (.inr (.inr (.inr g_2)))))]) (cx := [(tb, .inr (8, [.ref q_1, .int 0])), (q_1, .inl (G.2 5, 9, .inr (.inr (.inr (.inr g_2)))))]) hP [0, 1] rfl
  have hD9 := va_D.part (X := [(tb, .inr (8, [.ref q_1, .int 0])), (q_1, .inl (G.2 5, 9, .inr (.inr (.inr (.inr g_2)))))]) (cx := [(tb, .inr (8, [.ref q_1, .int 0])), (q_1, .inl (G.2 5, 9, .inr (.inr (.inr (.inr g_2)))))]) hD [0, 1] (by decide) rfl
  exact W.vret hx hb hr (fun t ht hW => ⟨⟨(q_1, g_2, L_3, fp_4), rfl, ⟨hRo, hsub, hg_6⟩, ⟨by rw [ht]; exact hP9, hD9⟩⟩, hS.F ht⟩) hS.2.2 dX8_init_19

set_option maxHeartbeats 4000000 in
set_option maxRecDepth 100000 in
theorem k_tinit_4_16 (l : Launch) (G : GG) (sz : Nat) (tb : Nat) (L : List Nat) (fp : Nat → va_E) (hRo : Ro G L fp) : Met l yX8_init (.code yX8_init cX8_init 3 none :: TT) ({ frames := 1, cells := 5, slots := 68, locals := 100 } : Room) (c0_P G [.ref tb, .int 4, .int 16] sz ([(tb, .inr (8, [.null, .int 0]))] ++ va_pl L fp)) (va_Qv (S := Nat × (Nat → Option Nat) × (List Nat) × (Nat → va_E)) (fun (u : Nat × (Nat → Option Nat) × (List Nat) × (Nat → va_E)) => Ro G u.2.2.1 u.2.2.2 ∧ ∀ a9, a9 ∈ L → a9 ∈ u.2.2.1 ∧ Gr u.2.2.1 u.2.1 4) (fun (u : Nat × (Nat → Option Nat) × (List Nat) × (Nat → va_E)) (t : State) => c0_B G (va_A ([(tb, .inr (8, [.null, .int 0]))] ++ va_pl L fp) sz) ([(tb, .inr (8, [.ref u.1, .int 0])), (u.1, .inl (G.2 5, 4, .inr (.inr (.inr (.inr u.2.1)))))] ++ va_pl u.2.2.1 u.2.2.2) t) (va_A ([(tb, .inr (8, [.null, .int 0]))] ++ va_pl L fp) sz)) 5 68 (va_A ([(tb, .inr (8, [.null, .int 0]))] ++ va_pl L fp) sz) := by
  refine Met.ofW (cc := cX8_init) (maxL := 3) (ret := none) (by decide) rfl ?_
  intro p e s m args below meth c s₁ B hml hv
  obtain ⟨rfl, hsz, hP, hK, hD0⟩ := hv
  have hx := B.exec
  have hb := B.bytes
  have hr := B.returns
  have hts := atoms_spec (ws := .code yX8_init cX8_init 3 none :: TT) B.pre
  have ht := fun (w : Cond) (h : w ∈ TT) => hts w (List.mem_cons_of_mem _ h)
  have hown : s.vm.findClass RX8 = some m.cls := findClass_of_methodNamed B.named
  have hlocks := B.notSynchronized
  have hin : meth.name = "<init>" := (name_of_methodNamed B.named B.method).1
  subst hsz
  have hD := hD0.self (sz := s.heap.size)
  generalize hAe : va_A ([(tb, .inr (8, [.null, .int 0]))] ++ va_pl L fp) s.heap.size = A at hD ⊢
  have hA : ∀ q : Nat, s.heap.size ≤ q → A q := fun q h => by rw [← hAe]; exact Or.inr h
  have hS : va_S A s.heap s.heap [] := va_S.rf
  have hP : va_P G.1 vwCl ([(tb, .inr (8, [.null, .int 0]))] ++ va_pl L fp) s.heap := hP
  have hl := lv_entry ([.ref tb, .int 4, .int 16]) (n := 3) (Nat.le_of_ble_eq_true rfl)
  rw [lg_entry_eq]
  generalize (lg_sl ([.ref tb, .int 4, .int 16]) ++ List.replicate (3 - (lg_sl ([.ref tb, .int 4, .int 16])).length) Slot.unset).toArray = ls at hl ⊢
  have hl : lv_has ls 3 [(0, .ref tb), (1, .int 4), (2, .int 16)] := hl
  have hsub : ∀ a9, a9 ∈ L → a9 ∈ L := fun _ h => h
  refine lv_aload_n hx hb dX8_init_0 rfl (lv_at hl 0 rfl) ?_
  refine W.objInit hx hb hown (ht (Cond.methodLink RX8 3 objectInit) mw_4_1) (ht (Cond.instanceMethod objectInit) mw_1_10) (ht (Cond.code objectInit ⟨#[0xb1]⟩ 1 none) mw_1_11) rfl (by rw [hml]; exact hl.1) rfl dX8_init_1 (Nat.le_of_ble_eq_true rfl) (Nat.le_of_ble_eq_true rfl) ?_
  refine W.eq (g2 := F0 m 4 ls []) rfl ?_
  refine lv_aload_n hx hb dX8_init_4 rfl (lv_at hl 0 rfl) ?_
  refine lv_iconst (v := 0) hx hb dX8_init_5 (by decide) ?_
  refine va_put (D := G.1) (ci := 8) (v := .int 0) (ty := tyX8 1) (C := RX8) (T := TX8) (N := 2) hx hb ht inlX8 tyX8 tyX8_ok nmX8 hown hK.1 hP hD hS 0 rfl rfl 1 (by decide) (ht (Cond.fieldLink RX8 9 "PloughDepot$Table" "size" "I") mw_4_2) (fun _ h9 => h9) rfl (tyX8_ok 1 (by decide)) rfl rfl (Nat.le_of_ble_eq_true rfl) dX8_init_6 (fun H locs hP hD hS => ?_)
  have hP : va_P G.1 vwCl ([(tb, .inr (8, [.null, .int 0]))] ++ va_pl L fp) H := hP
  have hD : va_D A ([(tb, .inr (8, [.null, .int 0]))] ++ va_pl L fp) := hD
  refine lv_aload_n hx hb dX8_init_9 rfl (lv_at hl 0 rfl) ?_
  refine lv_iload_n hx hb dX8_init_10 rfl (lv_at hl 1 rfl) ?_
  refine lv_iload_n hx hb dX8_init_11 rfl (lv_at hl 2 rfl) ?_
  refine ns_mna (X := [(tb, .inr (8, [.null, .int 0]))]) hx hb hown (ht (Cond.classLink RX8 15 "[[I") mw_4_3) (ht (Cond.arrayClass .int) mw_2_13) hK hRo hP hD hS hA (by decide) (by decide) (N' := 4) (by decide) (K' := 16) (by decide) (by decide) (by decide) (by decide) (Nat.le_of_ble_eq_true rfl) (Nat.le_of_ble_eq_true rfl) dX8_init_12 (fun q_1 g_2 L_3 fp_4 H hRo hsb_5 hg_6 hP hD hS => ?_)
  have hsub := fun (a9 : Nat) h => hsb_5 a9 (hsub a9 h)
  have hP : va_P G.1 vwCl ([(tb, .inr (8, [.null, .int 0])), (q_1, .inl (G.2 5, 4, .inr (.inr (.inr (.inr g_2)))))] ++ va_pl L_3 fp_4) H := hP
  have hD : va_D A ([(tb, .inr (8, [.null, .int 0])), (q_1, .inl (G.2 5, 4, .inr (.inr (.inr (.inr g_2)))))] ++ va_pl L_3 fp_4) := hD
  refine W.widen (k := 5) (n := 68) (by omega) (by omega) ?_
  refine va_putF (D := G.1) (ci := 8) (v := .ref q_1) (ty := tyX8 0) (C := RX8) (T := TX8) (N := 2) hx hb ht inlX8 tyX8 tyX8_ok nmX8 hown hK.1 hP hD hS 0 rfl rfl 0 (by decide) (ht (Cond.fieldLink RX8 17 "PloughDepot$Table" "cells" "[[I") mw_4_4) (fun _ h9 => h9) rfl hin rfl (tyX8_ok 0 (by decide)) rfl rfl (Nat.le_of_ble_eq_true rfl) dX8_init_16 (fun H locs hP hD hS => ?_)
  have hP : va_P G.1 vwCl ([(tb, .inr (8, [.ref q_1, .int 0])), (q_1, .inl (G.2 5, 4, .inr (.inr (.inr (.inr g_2)))))] ++ va_pl L_3 fp_4) H := hP
  have hD : va_D A ([(tb, .inr (8, [.ref q_1, .int 0])), (q_1, .inl (G.2 5, 4, .inr (.inr (.inr (.inr g_2)))))] ++ va_pl L_3 fp_4) := hD
  have hP9 := va_P.part (X := [(tb, .inr (8, [.ref q_1, .int 0])), (q_1, .inl (G.2 5, 4, .inr (.inr (.inr (.inr g_2)))))]) (cx := [(tb, .inr (8, [.ref q_1, .int 0])), (q_1, .inl (G.2 5, 4, .inr (.inr (.inr (.inr g_2)))))]) hP [0, 1] rfl
  have hD9 := va_D.part (X := [(tb, .inr (8, [.ref q_1, .int 0])), (q_1, .inl (G.2 5, 4, .inr (.inr (.inr (.inr g_2)))))]) (cx := [(tb, .inr (8, [.ref q_1, .int 0])), (q_1, .inl (G.2 5, 4, .inr (.inr (.inr (.inr g_2)))))]) hD [0, 1] (by decide) rfl
  exact W.vret hx hb hr (fun t ht hW => ⟨⟨(q_1, g_2, L_3, fp_4), rfl, ⟨hRo, hsub, hg_6⟩, ⟨by rw [ht]; exact hP9, hD9⟩⟩, hS.F ht⟩) hS.2.2 dX8_init_19

set_option maxHeartbeats 4000000 in
set_option maxRecDepth 100000 in
theorem k_binit (l : Launch) (G : GG) (sz : Nat) (bk : Nat) (L : List Nat) (fp : Nat → va_E) (hRo : Ro G L fp) : Met l yX1_init (.code yX1_init cX1_init 1 none :: TT) ({ frames := 2, cells := 36, slots := 356, locals := 200 } : Room) (c0_P G [.ref bk] sz ([(bk, .inr (1, [.int 0, .null, .null, .null, .null, .null, .null, .null]))] ++ va_pl L fp)) (va_Qv (S := Nat × Nat × (Nat → Option Nat) × Nat × Nat × (Nat → Option Nat) × Nat × Nat × (Nat → Option Nat) × Nat × Nat × (Nat → Option Nat) × Nat × Nat × Nat × (Nat → Int32) × (List Nat) × (Nat → va_E)) (fun (u : Nat × Nat × (Nat → Option Nat) × Nat × Nat × (Nat → Option Nat) × Nat × Nat × (Nat → Option Nat) × Nat × Nat × (Nat → Option Nat) × Nat × Nat × Nat × (Nat → Int32) × (List Nat) × (Nat → va_E)) => Ro G u.2.2.2.2.2.2.2.2.2.2.2.2.2.2.2.2.1 u.2.2.2.2.2.2.2.2.2.2.2.2.2.2.2.2.2 ∧ ∀ a9, a9 ∈ L → a9 ∈ u.2.2.2.2.2.2.2.2.2.2.2.2.2.2.2.2.1 ∧ Gr u.2.2.2.2.2.2.2.2.2.2.2.2.2.2.2.2.1 u.2.2.1 9 ∧ Gr u.2.2.2.2.2.2.2.2.2.2.2.2.2.2.2.2.1 u.2.2.2.2.2.1 3 ∧ Gr u.2.2.2.2.2.2.2.2.2.2.2.2.2.2.2.2.1 u.2.2.2.2.2.2.2.2.1 9 ∧ Gr u.2.2.2.2.2.2.2.2.2.2.2.2.2.2.2.2.1 u.2.2.2.2.2.2.2.2.2.2.2.1 4) (fun (u : Nat × Nat × (Nat → Option Nat) × Nat × Nat × (Nat → Option Nat) × Nat × Nat × (Nat → Option Nat) × Nat × Nat × (Nat → Option Nat) × Nat × Nat × Nat × (Nat → Int32) × (List Nat) × (Nat → va_E)) (t : State) => c0_B G (va_A ([(bk, .inr (1, [.int 0, .null, .null, .null, .null, .null, .null, .null]))] ++ va_pl L fp) sz) ([(bk, .inr (1, [.int 0, .ref u.1, .ref u.2.2.2.1, .ref u.2.2.2.2.2.2.1, .ref u.2.2.2.2.2.2.2.2.2.1, .ref u.2.2.2.2.2.2.2.2.2.2.2.2.1, .ref u.2.2.2.2.2.2.2.2.2.2.2.2.2.1, .ref u.2.2.2.2.2.2.2.2.2.2.2.2.2.2.1])), (u.1, .inr (8, [.ref u.2.1, .int 0])), (u.2.1, .inl (G.2 5, 9, .inr (.inr (.inr (.inr u.2.2.1))))), (u.2.2.2.1, .inr (8, [.ref u.2.2.2.2.1, .int 0])), (u.2.2.2.2.1, .inl (G.2 5, 3, .inr (.inr (.inr (.inr u.2.2.2.2.2.1))))), (u.2.2.2.2.2.2.1, .inr (8, [.ref u.2.2.2.2.2.2.2.1, .int 0])), (u.2.2.2.2.2.2.2.1, .inl (G.2 5, 9, .inr (.inr (.inr (.inr u.2.2.2.2.2.2.2.2.1))))), (u.2.2.2.2.2.2.2.2.2.1, .inr (8, [.ref u.2.2.2.2.2.2.2.2.2.2.1, .int 0])), (u.2.2.2.2.2.2.2.2.2.2.1, .inl (G.2 5, 4, .inr (.inr (.inr (.inr u.2.2.2.2.2.2.2.2.2.2.2.1))))), (u.2.2.2.2.2.2.2.2.2.2.2.2.1, .inl (G.2 0, 7, .inl (fun _ => 0))), (u.2.2.2.2.2.2.2.2.2.2.2.2.2.1, .inl (G.2 0, 60, .inl u.2.2.2.2.2.2.2.2.2.2.2.2.2.2.2.1)), (u.2.2.2.2.2.2.2.2.2.2.2.2.2.2.1, .inl (G.2 1, 0, .inr (.inl (fun _ => 0))))] ++ va_pl u.2.2.2.2.2.2.2.2.2.2.2.2.2.2.2.2.1 u.2.2.2.2.2.2.2.2.2.2.2.2.2.2.2.2.2) t) (va_A ([(bk, .inr (1, [.int 0, .null, .null, .null, .null, .null, .null, .null]))] ++ va_pl L fp) sz)) 36 356 (va_A ([(bk, .inr (1, [.int 0, .null, .null, .null, .null, .null, .null, .null]))] ++ va_pl L fp) sz) := by
  refine Met.ofW (cc := cX1_init) (maxL := 1) (ret := none) (by decide) rfl ?_
  intro p e s m args below meth c s₁ B hml hv
  obtain ⟨rfl, hsz, hP, hK, hD0⟩ := hv
  have hx := B.exec
  have hb := B.bytes
  have hr := B.returns
  have hts := atoms_spec (ws := .code yX1_init cX1_init 1 none :: TT) B.pre
  have ht := fun (w : Cond) (h : w ∈ TT) => hts w (List.mem_cons_of_mem _ h)
  have hown : s.vm.findClass RX1 = some m.cls := findClass_of_methodNamed B.named
  have hlocks := B.notSynchronized
  have hin : meth.name = "<init>" := (name_of_methodNamed B.named B.method).1
  subst hsz
  have hD := hD0.self (sz := s.heap.size)
  generalize hAe : va_A ([(bk, .inr (1, [.int 0, .null, .null, .null, .null, .null, .null, .null]))] ++ va_pl L fp) s.heap.size = A at hD ⊢
  have hA : ∀ q : Nat, s.heap.size ≤ q → A q := fun q h => by rw [← hAe]; exact Or.inr h
  have hS : va_S A s.heap s.heap [] := va_S.rf
  have hP : va_P G.1 vwCl ([(bk, .inr (1, [.int 0, .null, .null, .null, .null, .null, .null, .null]))] ++ va_pl L fp) s.heap := hP
  have hl := lv_entry ([.ref bk]) (n := 1) (Nat.le_of_ble_eq_true rfl)
  rw [lg_entry_eq]
  generalize (lg_sl ([.ref bk]) ++ List.replicate (1 - (lg_sl ([.ref bk])).length) Slot.unset).toArray = ls at hl ⊢
  have hl : lv_has ls 1 [(0, .ref bk)] := hl
  have hsub : ∀ a9, a9 ∈ L → a9 ∈ L := fun _ h => h
  refine lv_aload_n hx hb dX1_init_0 rfl (lv_at hl 0 rfl) ?_
  refine W.objInit hx hb hown (ht (Cond.methodLink RX1 3 objectInit) mw_3_9) (ht (Cond.instanceMethod objectInit) mw_1_10) (ht (Cond.code objectInit ⟨#[0xb1]⟩ 1 none) mw_1_11) rfl (by rw [hml]; exact hl.1) rfl dX1_init_1 (Nat.le_of_ble_eq_true rfl) (Nat.le_of_ble_eq_true rfl) ?_
  refine W.eq (g2 := F0 m 4 ls []) rfl ?_
  refine lv_aload_n hx hb dX1_init_4 rfl (lv_at hl 0 rfl) ?_
  refine lv_iconst (v := 0) hx hb dX1_init_5 (by decide) ?_
  refine va_put (D := G.1) (ci := 1) (v := .int 0) (ty := tyX1 0) (C := RX1) (T := TX1) (N := 8) hx hb ht inlX1 tyX1 tyX1_ok nmX1 hown hK.1 hP hD hS 0 rfl rfl 0 (by decide) (ht (Cond.fieldLink RX1 9 "PloughDepot$Books" "crossings" "I") mw_3_10) (fun _ h9 => h9) rfl (tyX1_ok 0 (by decide)) rfl rfl (Nat.le_of_ble_eq_true rfl) dX1_init_6 (fun H locs hP hD hS => ?_)
  have hP : va_P G.1 vwCl ([(bk, .inr (1, [.int 0, .null, .null, .null, .null, .null, .null, .null]))] ++ va_pl L fp) H := hP
  have hD : va_D A ([(bk, .inr (1, [.int 0, .null, .null, .null, .null, .null, .null, .null]))] ++ va_pl L fp) := hD
  refine lv_aload_n hx hb dX1_init_9 rfl (lv_at hl 0 rfl) ?_
  refine va_new (D := G.1) (ci := 8) (fs := [.null, .int 0]) (C := RX8) (T := TX8) (N := 2) hx hb ht inlX8 tyX8 tyX8_ok hown (ht (Cond.classLink RX1 15 RX8) mw_3_11) (ht (Cond.instantiable RX8 2) mw_3_12) (ht (Cond.initialized RX8) mw_3_13) hK.1 hP hD hS hA rfl (fun j hj => by rcases (show j = 0 ∨ j = 1 by omega) with rfl | rfl <;> rfl) (Nat.le_of_ble_eq_true rfl) (Nat.le_of_ble_eq_true rfl) dX1_init_10 (fun q_1 H hP hD hS => ?_)
  have hP := va_P.swap hP
  have hD := va_D.swap hD
  have hP : va_P G.1 vwCl ([(bk, .inr (1, [.int 0, .null, .null, .null, .null, .null, .null, .null])), (q_1, .inr (8, [.null, .int 0]))] ++ va_pl L fp) H := hP
  have hD : va_D A ([(bk, .inr (1, [.int 0, .null, .null, .null, .null, .null, .null, .null])), (q_1, .inr (8, [.null, .int 0]))] ++ va_pl L fp) := hD
  refine W.widen (k := 1) (n := 2) (by omega) (by omega) ?_
  refine lv_dup hx hb dX1_init_13 rfl ?_
  refine lv_bipush (v := 9) hx hb dX1_init_14 (by decide) ?_
  refine lv_bipush (v := 16) hx hb dX1_init_16 (by decide) ?_
  have hPc := va_P.part (X := [(bk, .inr (1, [.int 0, .null, .null, .null, .null, .null, .null, .null])), (q_1, .inr (8, [.null, .int 0]))]) (cx := [(q_1, .inr (8, [.null, .int 0]))]) hP [1] rfl
  have hDc := va_D.part (X := [(bk, .inr (1, [.int 0, .null, .null, .null, .null, .null, .null, .null])), (q_1, .inr (8, [.null, .int 0]))]) (cx := [(q_1, .inr (8, [.null, .int 0]))]) hD [1] (by decide) rfl
  have hFc := va_freeP (X := [(bk, .inr (1, [.int 0, .null, .null, .null, .null, .null, .null, .null])), (q_1, .inr (8, [.null, .int 0]))]) (cx := [(q_1, .inr (8, [.null, .int 0]))]) hD hS hA [1] rfl
  refine va_callv (va_runI (As := [.int 9, .int 16]) (rest := [.ref q_1, .ref bk]) ⟨hx, hb, hml, hown, hts⟩ (k_tinit_9_16 l G _ q_1 L fp (by first | assumption | decide)) (cwI 2 hts (gd_T mw_4_0) rfl rfl rfl (ht (Cond.initialized RX8) mw_3_13) (ht (Cond.methodLink RX1 17 yX8_init) mw_3_22) (ht (Cond.instanceMethod yX8_init) mw_3_23) rfl yk_X8_init ⟨Nat.le_of_ble_eq_true rfl, Nat.le_of_ble_eq_true rfl⟩) (c0_pre hPc hK hDc) rfl rfl hl.1 rfl (lv_room (Nat.le_of_ble_eq_true rfl)) dX1_init_18 ⟨Nat.le_of_ble_eq_true rfl, Nat.le_of_ble_eq_true rfl⟩) hS (fun q _ h => hFc q h) hFc (fun u t H1 locs ht1 hvm hw hB hz1 hk1 hS => ?_)
  obtain ⟨to_2, tg_3, L2_4, fp2_5⟩ := u
  try dsimp only at hw hB
  obtain ⟨hq5_0, hq5_1, hq5_2⟩ := hw
  have hsub := fun (a9 : Nat) h => hq5_1 a9 (hsub a9 h)
  have hRo := hq5_0
  obtain ⟨hP1, hD1⟩ := hB
  rw [ht1] at hP1
  obtain ⟨hP, hD⟩ := va_joinP (X := [(bk, .inr (1, [.int 0, .null, .null, .null, .null, .null, .null, .null])), (q_1, .inr (8, [.null, .int 0]))]) (cx := [(q_1, .inr (8, [.null, .int 0]))]) (wr := [(bk, .inr (1, [.int 0, .null, .null, .null, .null, .null, .null, .null]))]) (rx := [(q_1, .inr (8, [.ref to_2, .int 0])), (to_2, .inl (G.2 5, 9, .inr (.inr (.inr (.inr tg_3)))))]) (pl1 := va_pl L2_4 fp2_5) hP hD [1] [0] rfl rfl (by decide) (by decide) hk1 hFc hP1 hD1
  generalize H1 = H at hP hS ⊢
  have hP : va_P G.1 vwCl ([(bk, .inr (1, [.int 0, .null, .null, .null, .null, .null, .null, .null])), (q_1, .inr (8, [.ref to_2, .int 0])), (to_2, .inl (G.2 5, 9, .inr (.inr (.inr (.inr tg_3)))))] ++ va_pl L2_4 fp2_5) H := hP
  have hD : va_D A ([(bk, .inr (1, [.int 0, .null, .null, .null, .null, .null, .null, .null])), (q_1, .inr (8, [.ref to_2, .int 0])), (to_2, .inl (G.2 5, 9, .inr (.inr (.inr (.inr tg_3)))))] ++ va_pl L2_4 fp2_5) := hD
  refine W.widen (k := 11) (n := 155) (by omega) (by omega) ?_
  refine va_putF (D := G.1) (ci := 1) (v := .ref q_1) (ty := tyX1 1) (C := RX1) (T := TX1) (N := 8) hx hb ht inlX1 tyX1 tyX1_ok nmX1 hown hK.1 hP hD hS 0 rfl rfl 1 (by decide) (ht (Cond.fieldLink RX1 20 "PloughDepot$Books" "streets" "LPloughDepot$Table;") mw_3_14) (fun _ h9 => h9) rfl hin rfl (tyX1_ok 1 (by decide)) rfl rfl (Nat.le_of_ble_eq_true rfl) dX1_init_21 (fun H locs hP hD hS => ?_)
  have hP : va_P G.1 vwCl ([(bk, .inr (1, [.int 0, .ref q_1, .null, .null, .null, .null, .null, .null])), (q_1, .inr (8, [.ref to_2, .int 0])), (to_2, .inl (G.2 5, 9, .inr (.inr (.inr (.inr tg_3)))))] ++ va_pl L2_4 fp2_5) H := hP
  have hD : va_D A ([(bk, .inr (1, [.int 0, .ref q_1, .null, .null, .null, .null, .null, .null])), (q_1, .inr (8, [.ref to_2, .int 0])), (to_2, .inl (G.2 5, 9, .inr (.inr (.inr (.inr tg_3)))))] ++ va_pl L2_4 fp2_5) := hD
  refine lv_aload_n hx hb dX1_init_24 rfl (lv_at hl 0 rfl) ?_
  refine va_new (D := G.1) (ci := 8) (fs := [.null, .int 0]) (C := RX8) (T := TX8) (N := 2) hx hb ht inlX8 tyX8 tyX8_ok hown (ht (Cond.classLink RX1 15 RX8) mw_3_11) (ht (Cond.instantiable RX8 2) mw_3_12) (ht (Cond.initialized RX8) mw_3_13) hK.1 hP hD hS hA rfl (fun j hj => by rcases (show j = 0 ∨ j = 1 by omega) with rfl | rfl <;> rfl) (Nat.le_of_ble_eq_true rfl) (Nat.le_of_ble_eq_true rfl) dX1_init_25 (fun q_6 H hP hD hS => ?_)
  have hP := va_P.swap hP
  have hD := va_D.swap hD
  have hP : va_P G.1 vwCl ([(bk, .inr (1, [.int 0, .ref q_1, .null, .null, .null, .null, .null, .null])), (q_1, .inr (8, [.ref to_2, .int 0])), (to_2, .inl (G.2 5, 9, .inr (.inr (.inr (.inr tg_3))))), (q_6, .inr (8, [.null, .int 0]))] ++ va_pl L2_4 fp2_5) H := hP
  have hD : va_D A ([(bk, .inr (1, [.int 0, .ref q_1, .null, .null, .null, .null, .null, .null])), (q_1, .inr (8, [.ref to_2, .int 0])), (to_2, .inl (G.2 5, 9, .inr (.inr (.inr (.inr tg_3))))), (q_6, .inr (8, [.null, .int 0]))] ++ va_pl L2_4 fp2_5) := hD
  refine W.widen (k := 12) (n := 157) (by omega) (by omega) ?_
  refine lv_dup hx hb dX1_init_28 rfl ?_
  refine lv_iconst (v := 3) hx hb dX1_init_29 (by decide) ?_
  refine lv_iconst (v := 4) hx hb dX1_init_30 (by decide) ?_
  have hPc := va_P.part (X := [(bk, .inr (1, [.int 0, .ref q_1, .null, .null, .null, .null, .null, .null])), (q_1, .inr (8, [.ref to_2, .int 0])), (to_2, .inl (G.2 5, 9, .inr (.inr (.inr (.inr tg_3))))), (q_6, .inr (8, [.null, .int 0]))]) (cx := [(q_6, .inr (8, [.null, .int 0]))]) hP [3] rfl
  have hDc := va_D.part (X := [(bk, .inr (1, [.int 0, .ref q_1, .null, .null, .null, .null, .null, .null])), (q_1, .inr (8, [.ref to_2, .int 0])), (to_2, .inl (G.2 5, 9, .inr (.inr (.inr (.inr tg_3))))), (q_6, .inr (8, [.null, .int 0]))]) (cx := [(q_6, .inr (8, [.null, .int 0]))]) hD [3] (by decide) rfl
  have hFc := va_freeP (X := [(bk, .inr (1, [.int 0, .ref q_1, .null, .null, .null, .null, .null, .null])), (q_1, .inr (8, [.ref to_2, .int 0])), (to_2, .inl (G.2 5, 9, .inr (.inr (.inr (.inr tg_3))))), (q_6, .inr (8, [.null, .int 0]))]) (cx := [(q_6, .inr (8, [.null, .int 0]))]) hD hS hA [3] rfl
  refine va_callv (va_runI (As := [.int 3, .int 4]) (rest := [.ref q_6, .ref bk]) ⟨hx, hb, hml, hown, hts⟩ (k_tinit_3_4 l G _ q_6 L2_4 fp2_5 (by first | assumption | decide)) (cwI 2 hts (gd_T mw_4_0) rfl rfl rfl (ht (Cond.initialized RX8) mw_3_13) (ht (Cond.methodLink RX1 17 yX8_init) mw_3_22) (ht (Cond.instanceMethod yX8_init) mw_3_23) rfl yk_X8_init ⟨Nat.le_of_ble_eq_true rfl, Nat.le_of_ble_eq_true rfl⟩) (c0_pre hPc hK hDc) rfl rfl hl.1 rfl (lv_room (Nat.le_of_ble_eq_true rfl)) dX1_init_31 ⟨Nat.le_of_ble_eq_true rfl, Nat.le_of_ble_eq_true rfl⟩) hS (fun q _ h => hFc q h) hFc (fun u t H1 locs ht1 hvm hw hB hz1 hk1 hS => ?_)
  obtain ⟨to_7, tg_8, L2_9, fp2_10⟩ := u
  try dsimp only at hw hB
  obtain ⟨hq10_0, hq10_1, hq10_2⟩ := hw
  have hq5_2 := Gr.mono hq5_2 hq10_1
  have hsub := fun (a9 : Nat) h => hq10_1 a9 (hsub a9 h)
  have hRo := hq10_0
  obtain ⟨hP1, hD1⟩ := hB
  rw [ht1] at hP1
  obtain ⟨hP, hD⟩ := va_joinP (X := [(bk, .inr (1, [.int 0, .ref q_1, .null, .null, .null, .null, .null, .null])), (q_1, .inr (8, [.ref to_2, .int 0])), (to_2, .inl (G.2 5, 9, .inr (.inr (.inr (.inr tg_3))))), (q_6, .inr (8, [.null, .int 0]))]) (cx := [(q_6, .inr (8, [.null, .int 0]))]) (wr := [(bk, .inr (1, [.int 0, .ref q_1, .null, .null, .null, .null, .null, .null])), (q_1, .inr (8, [.ref to_2, .int 0])), (to_2, .inl (G.2 5, 9, .inr (.inr (.inr (.inr tg_3)))))]) (rx := [(q_6, .inr (8, [.ref to_7, .int 0])), (to_7, .inl (G.2 5, 3, .inr (.inr (.inr (.inr tg_8)))))]) (pl1 := va_pl L2_9 fp2_10) hP hD [3] [0, 1, 2] rfl rfl (by decide) (by decide) hk1 hFc hP1 hD1
  generalize H1 = H at hP hS ⊢
  have hP : va_P G.1 vwCl ([(bk, .inr (1, [.int 0, .ref q_1, .null, .null, .null, .null, .null, .null])), (q_1, .inr (8, [.ref to_2, .int 0])), (to_2, .inl (G.2 5, 9, .inr (.inr (.inr (.inr tg_3))))), (q_6, .inr (8, [.ref to_7, .int 0])), (to_7, .inl (G.2 5, 3, .inr (.inr (.inr (.inr tg_8)))))] ++ va_pl L2_9 fp2_10) H := hP
  have hD : va_D A ([(bk, .inr (1, [.int 0, .ref q_1, .null, .null, .null, .null, .null, .null])), (q_1, .inr (8, [.ref to_2, .int 0])), (to_2, .inl (G.2 5, 9, .inr (.inr (.inr (.inr tg_3))))), (q_6, .inr (8, [.ref to_7, .int 0])), (to_7, .inl (G.2 5, 3, .inr (.inr (.inr (.inr tg_8)))))] ++ va_pl L2_9 fp2_10) := hD
  refine W.widen (k := 16) (n := 172) (by omega) (by omega) ?_
  refine va_putF (D := G.1) (ci := 1) (v := .ref q_6) (ty := tyX1 2) (C := RX1) (T := TX1) (N := 8) hx hb ht inlX1 tyX1 tyX1_ok nmX1 hown hK.1 hP hD hS 0 rfl rfl 2 (by decide) (ht (Cond.fieldLink RX1 24 "PloughDepot$Books" "gauges" "LPloughDepot$Table;") mw_3_15) (fun _ h9 => h9) rfl hin rfl (tyX1_ok 2 (by decide)) rfl rfl (Nat.le_of_ble_eq_true rfl) dX1_init_34 (fun H locs hP hD hS => ?_)
  have hP : va_P G.1 vwCl ([(bk, .inr (1, [.int 0, .ref q_1, .ref q_6, .null, .null, .null, .null, .null])), (q_1, .inr (8, [.ref to_2, .int 0])), (to_2, .inl (G.2 5, 9, .inr (.inr (.inr (.inr tg_3))))), (q_6, .inr (8, [.ref to_7, .int 0])), (to_7, .inl (G.2 5, 3, .inr (.inr (.inr (.inr tg_8)))))] ++ va_pl L2_9 fp2_10) H := hP
  have hD : va_D A ([(bk, .inr (1, [.int 0, .ref q_1, .ref q_6, .null, .null, .null, .null, .null])), (q_1, .inr (8, [.ref to_2, .int 0])), (to_2, .inl (G.2 5, 9, .inr (.inr (.inr (.inr tg_3))))), (q_6, .inr (8, [.ref to_7, .int 0])), (to_7, .inl (G.2 5, 3, .inr (.inr (.inr (.inr tg_8)))))] ++ va_pl L2_9 fp2_10) := hD
  refine lv_aload_n hx hb dX1_init_37 rfl (lv_at hl 0 rfl) ?_
  refine va_new (D := G.1) (ci := 8) (fs := [.null, .int 0]) (C := RX8) (T := TX8) (N := 2) hx hb ht inlX8 tyX8 tyX8_ok hown (ht (Cond.classLink RX1 15 RX8) mw_3_11) (ht (Cond.instantiable RX8 2) mw_3_12) (ht (Cond.initialized RX8) mw_3_13) hK.1 hP hD hS hA rfl (fun j hj => by rcases (show j = 0 ∨ j = 1 by omega) with rfl | rfl <;> rfl) (Nat.le_of_ble_eq_true rfl) (Nat.le_of_ble_eq_true rfl) dX1_init_38 (fun q_11 H hP hD hS => ?_)
  have hP := va_P.swap hP
  have hD := va_D.swap hD
  have hP : va_P G.1 vwCl ([(bk, .inr (1, [.int 0, .ref q_1, .ref q_6, .null, .null, .null, .null, .null])), (q_1, .inr (8, [.ref to_2, .int 0])), (to_2, .inl (G.2 5, 9, .inr (.inr (.inr (.inr tg_3))))), (q_6, .inr (8, [.ref to_7, .int 0])), (to_7, .inl (G.2 5, 3, .inr (.inr (.inr (.inr tg_8))))), (q_11, .inr (8, [.null, .int 0]))] ++ va_pl L2_9 fp2_10) H := hP
  have hD : va_D A ([(bk, .inr (1, [.int 0, .ref q_1, .ref q_6, .null, .null, .null, .null, .null])), (q_1, .inr (8, [.ref to_2, .int 0])), (to_2, .inl (G.2 5, 9, .inr (.inr (.inr (.inr tg_3))))), (q_6, .inr (8, [.ref to_7, .int 0])), (to_7, .inl (G.2 5, 3, .inr (.inr (.inr (.inr tg_8))))), (q_11, .inr (8, [.null, .int 0]))] ++ va_pl L2_9 fp2_10) := hD
  refine W.widen (k := 17) (n := 174) (by omega) (by omega) ?_
  refine lv_dup hx hb dX1_init_41 rfl ?_
  refine lv_bipush (v := 9) hx hb dX1_init_42 (by decide) ?_
  refine lv_iconst (v := 4) hx hb dX1_init_44 (by decide) ?_
  have hPc := va_P.part (X := [(bk, .inr (1, [.int 0, .ref q_1, .ref q_6, .null, .null, .null, .null, .null])), (q_1, .inr (8, [.ref to_2, .int 0])), (to_2, .inl (G.2 5, 9, .inr (.inr (.inr (.inr tg_3))))), (q_6, .inr (8, [.ref to_7, .int 0])), (to_7, .inl (G.2 5, 3, .inr (.inr (.inr (.inr tg_8))))), (q_11, .inr (8, [.null, .int 0]))]) (cx := [(q_11, .inr (8, [.null, .int 0]))]) hP [5] rfl
  have hDc := va_D.part (X := [(bk, .inr (1, [.int 0, .ref q_1, .ref q_6, .null, .null, .null, .null, .null])), (q_1, .inr (8, [.ref to_2, .int 0])), (to_2, .inl (G.2 5, 9, .inr (.inr (.inr (.inr tg_3))))), (q_6, .inr (8, [.ref to_7, .int 0])), (to_7, .inl (G.2 5, 3, .inr (.inr (.inr (.inr tg_8))))), (q_11, .inr (8, [.null, .int 0]))]) (cx := [(q_11, .inr (8, [.null, .int 0]))]) hD [5] (by decide) rfl
  have hFc := va_freeP (X := [(bk, .inr (1, [.int 0, .ref q_1, .ref q_6, .null, .null, .null, .null, .null])), (q_1, .inr (8, [.ref to_2, .int 0])), (to_2, .inl (G.2 5, 9, .inr (.inr (.inr (.inr tg_3))))), (q_6, .inr (8, [.ref to_7, .int 0])), (to_7, .inl (G.2 5, 3, .inr (.inr (.inr (.inr tg_8))))), (q_11, .inr (8, [.null, .int 0]))]) (cx := [(q_11, .inr (8, [.null, .int 0]))]) hD hS hA [5] rfl
  refine va_callv (va_runI (As := [.int 9, .int 4]) (rest := [.ref q_11, .ref bk]) ⟨hx, hb, hml, hown, hts⟩ (k_tinit_9_4 l G _ q_11 L2_9 fp2_10 (by first | assumption | decide)) (cwI 2 hts (gd_T mw_4_0) rfl rfl rfl (ht (Cond.initialized RX8) mw_3_13) (ht (Cond.methodLink RX1 17 yX8_init) mw_3_22) (ht (Cond.instanceMethod yX8_init) mw_3_23) rfl yk_X8_init ⟨Nat.le_of_ble_eq_true rfl, Nat.le_of_ble_eq_true rfl⟩) (c0_pre hPc hK hDc) rfl rfl hl.1 rfl (lv_room (Nat.le_of_ble_eq_true rfl)) dX1_init_45 ⟨Nat.le_of_ble_eq_true rfl, Nat.le_of_ble_eq_true rfl⟩) hS (fun q _ h => hFc q h) hFc (fun u t H1 locs ht1 hvm hw hB hz1 hk1 hS => ?_)
  obtain ⟨to_12, tg_13, L2_14, fp2_15⟩ := u
  try dsimp only at hw hB
  obtain ⟨hq15_0, hq15_1, hq15_2⟩ := hw
  have hq5_2 := Gr.mono hq5_2 hq15_1
  have hq10_2 := Gr.mono hq10_2 hq15_1
  have hsub := fun (a9 : Nat) h => hq15_1 a9 (hsub a9 h)
  have hRo := hq15_0
  obtain ⟨hP1, hD1⟩ := hB
  rw [ht1] at hP1
  obtain ⟨hP, hD⟩ := va_joinP (X := [(bk, .inr (1, [.int 0, .ref q_1, .ref q_6, .null, .null, .null, .null, .null])), (q_1, .inr (8, [.ref to_2, .int 0])), (to_2, .inl (G.2 5, 9, .inr (.inr (.inr (.inr tg_3))))), (q_6, .inr (8, [.ref to_7, .int 0])), (to_7, .inl (G.2 5, 3, .inr (.inr (.inr (.inr tg_8))))), (q_11, .inr (8, [.null, .int 0]))]) (cx := [(q_11, .inr (8, [.null, .int 0]))]) (wr := [(bk, .inr (1, [.int 0, .ref q_1, .ref q_6, .null, .null, .null, .null, .null])), (q_1, .inr (8, [.ref to_2, .int 0])), (to_2, .inl (G.2 5, 9, .inr (.inr (.inr (.inr tg_3))))), (q_6, .inr (8, [.ref to_7, .int 0])), (to_7, .inl (G.2 5, 3, .inr (.inr (.inr (.inr tg_8)))))]) (rx := [(q_11, .inr (8, [.ref to_12, .int 0])), (to_12, .inl (G.2 5, 9, .inr (.inr (.inr (.inr tg_13)))))]) (pl1 := va_pl L2_14 fp2_15) hP hD [5] [0, 1, 2, 3, 4] rfl rfl (by decide) (by decide) hk1 hFc hP1 hD1
  generalize H1 = H at hP hS ⊢
  have hP : va_P G.1 vwCl ([(bk, .inr (1, [.int 0, .ref q_1, .ref q_6, .null, .null, .null, .null, .null])), (q_1, .inr (8, [.ref to_2, .int 0])), (to_2, .inl (G.2 5, 9, .inr (.inr (.inr (.inr tg_3))))), (q_6, .inr (8, [.ref to_7, .int 0])), (to_7, .inl (G.2 5, 3, .inr (.inr (.inr (.inr tg_8))))), (q_11, .inr (8, [.ref to_12, .int 0])), (to_12, .inl (G.2 5, 9, .inr (.inr (.inr (.inr tg_13)))))] ++ va_pl L2_14 fp2_15) H := hP
  have hD : va_D A ([(bk, .inr (1, [.int 0, .ref q_1, .ref q_6, .null, .null, .null, .null, .null])), (q_1, .inr (8, [.ref to_2, .int 0])), (to_2, .inl (G.2 5, 9, .inr (.inr (.inr (.inr tg_3))))), (q_6, .inr (8, [.ref to_7, .int 0])), (to_7, .inl (G.2 5, 3, .inr (.inr (.inr (.inr tg_8))))), (q_11, .inr (8, [.ref to_12, .int 0])), (to_12, .inl (G.2 5, 9, .inr (.inr (.inr (.inr tg_13)))))] ++ va_pl L2_14 fp2_15) := hD
  refine W.widen (k := 27) (n := 219) (by omega) (by omega) ?_
  refine va_putF (D := G.1) (ci := 1) (v := .ref q_11) (ty := tyX1 3) (C := RX1) (T := TX1) (N := 8) hx hb ht inlX1 tyX1 tyX1_ok nmX1 hown hK.1 hP hD hS 0 rfl rfl 3 (by decide) (ht (Cond.fieldLink RX1 27 "PloughDepot$Books" "ploughs" "LPloughDepot$Table;") mw_3_16) (fun _ h9 => h9) rfl hin rfl (tyX1_ok 3 (by decide)) rfl rfl (Nat.le_of_ble_eq_true rfl) dX1_init_48 (fun H locs hP hD hS => ?_)
  have hP : va_P G.1 vwCl ([(bk, .inr (1, [.int 0, .ref q_1, .ref q_6, .ref q_11, .null, .null, .null, .null])), (q_1, .inr (8, [.ref to_2, .int 0])), (to_2, .inl (G.2 5, 9, .inr (.inr (.inr (.inr tg_3))))), (q_6, .inr (8, [.ref to_7, .int 0])), (to_7, .inl (G.2 5, 3, .inr (.inr (.inr (.inr tg_8))))), (q_11, .inr (8, [.ref to_12, .int 0])), (to_12, .inl (G.2 5, 9, .inr (.inr (.inr (.inr tg_13)))))] ++ va_pl L2_14 fp2_15) H := hP
  have hD : va_D A ([(bk, .inr (1, [.int 0, .ref q_1, .ref q_6, .ref q_11, .null, .null, .null, .null])), (q_1, .inr (8, [.ref to_2, .int 0])), (to_2, .inl (G.2 5, 9, .inr (.inr (.inr (.inr tg_3))))), (q_6, .inr (8, [.ref to_7, .int 0])), (to_7, .inl (G.2 5, 3, .inr (.inr (.inr (.inr tg_8))))), (q_11, .inr (8, [.ref to_12, .int 0])), (to_12, .inl (G.2 5, 9, .inr (.inr (.inr (.inr tg_13)))))] ++ va_pl L2_14 fp2_15) := hD
  refine lv_aload_n hx hb dX1_init_51 rfl (lv_at hl 0 rfl) ?_
  refine va_new (D := G.1) (ci := 8) (fs := [.null, .int 0]) (C := RX8) (T := TX8) (N := 2) hx hb ht inlX8 tyX8 tyX8_ok hown (ht (Cond.classLink RX1 15 RX8) mw_3_11) (ht (Cond.instantiable RX8 2) mw_3_12) (ht (Cond.initialized RX8) mw_3_13) hK.1 hP hD hS hA rfl (fun j hj => by rcases (show j = 0 ∨ j = 1 by omega) with rfl | rfl <;> rfl) (Nat.le_of_ble_eq_true rfl) (Nat.le_of_ble_eq_true rfl) dX1_init_52 (fun q_16 H hP hD hS => ?_)
  have hP := va_P.swap hP
  have hD := va_D.swap hD
  have hP : va_P G.1 vwCl ([(bk, .inr (1, [.int 0, .ref q_1, .ref q_6, .ref q_11, .null, .null, .null, .null])), (q_1, .inr (8, [.ref to_2, .int 0])), (to_2, .inl (G.2 5, 9, .inr (.inr (.inr (.inr tg_3))))), (q_6, .inr (8, [.ref to_7, .int 0])), (to_7, .inl (G.2 5, 3, .inr (.inr (.inr (.inr tg_8))))), (q_11, .inr (8, [.ref to_12, .int 0])), (to_12, .inl (G.2 5, 9, .inr (.inr (.inr (.inr tg_13))))), (q_16, .inr (8, [.null, .int 0]))] ++ va_pl L2_14 fp2_15) H := hP
  have hD : va_D A ([(bk, .inr (1, [.int 0, .ref q_1, .ref q_6, .ref q_11, .null, .null, .null, .null])), (q_1, .inr (8, [.ref to_2, .int 0])), (to_2, .inl (G.2 5, 9, .inr (.inr (.inr (.inr tg_3))))), (q_6, .inr (8, [.ref to_7, .int 0])), (to_7, .inl (G.2 5, 3, .inr (.inr (.inr (.inr tg_8))))), (q_11, .inr (8, [.ref to_12, .int 0])), (to_12, .inl (G.2 5, 9, .inr (.inr (.inr (.inr tg_13))))), (q_16, .inr (8, [.null, .int 0]))] ++ va_pl L2_14 fp2_15) := hD
  refine W.widen (k := 28) (n := 221) (by omega) (by omega) ?_
  refine lv_dup hx hb dX1_init_55 rfl ?_
  refine lv_iconst (v := 4) hx hb dX1_init_56 (by decide) ?_
  refine lv_bipush (v := 16) hx hb dX1_init_57 (by decide) ?_
  have hPc := va_P.part (X := [(bk, .inr (1, [.int 0, .ref q_1, .ref q_6, .ref q_11, .null, .null, .null, .null])), (q_1, .inr (8, [.ref to_2, .int 0])), (to_2, .inl (G.2 5, 9, .inr (.inr (.inr (.inr tg_3))))), (q_6, .inr (8, [.ref to_7, .int 0])), (to_7, .inl (G.2 5, 3, .inr (.inr (.inr (.inr tg_8))))), (q_11, .inr (8, [.ref to_12, .int 0])), (to_12, .inl (G.2 5, 9, .inr (.inr (.inr (.inr tg_13))))), (q_16, .inr (8, [.null, .int 0]))]) (cx := [(q_16, .inr (8, [.null, .int 0]))]) hP [7] rfl
  have hDc := va_D.part (X := [(bk, .inr (1, [.int 0, .ref q_1, .ref q_6, .ref q_11, .null, .null, .null, .null])), (q_1, .inr (8, [.ref to_2, .int 0])), (to_2, .inl (G.2 5, 9, .inr (.inr (.inr (.inr tg_3))))), (q_6, .inr (8, [.ref to_7, .int 0])), (to_7, .inl (G.2 5, 3, .inr (.inr (.inr (.inr tg_8))))), (q_11, .inr (8, [.ref to_12, .int 0])), (to_12, .inl (G.2 5, 9, .inr (.inr (.inr (.inr tg_13))))), (q_16, .inr (8, [.null, .int 0]))]) (cx := [(q_16, .inr (8, [.null, .int 0]))]) hD [7] (by decide) rfl
  have hFc := va_freeP (X := [(bk, .inr (1, [.int 0, .ref q_1, .ref q_6, .ref q_11, .null, .null, .null, .null])), (q_1, .inr (8, [.ref to_2, .int 0])), (to_2, .inl (G.2 5, 9, .inr (.inr (.inr (.inr tg_3))))), (q_6, .inr (8, [.ref to_7, .int 0])), (to_7, .inl (G.2 5, 3, .inr (.inr (.inr (.inr tg_8))))), (q_11, .inr (8, [.ref to_12, .int 0])), (to_12, .inl (G.2 5, 9, .inr (.inr (.inr (.inr tg_13))))), (q_16, .inr (8, [.null, .int 0]))]) (cx := [(q_16, .inr (8, [.null, .int 0]))]) hD hS hA [7] rfl
  refine va_callv (va_runI (As := [.int 4, .int 16]) (rest := [.ref q_16, .ref bk]) ⟨hx, hb, hml, hown, hts⟩ (k_tinit_4_16 l G _ q_16 L2_14 fp2_15 (by first | assumption | decide)) (cwI 2 hts (gd_T mw_4_0) rfl rfl rfl (ht (Cond.initialized RX8) mw_3_13) (ht (Cond.methodLink RX1 17 yX8_init) mw_3_22) (ht (Cond.instanceMethod yX8_init) mw_3_23) rfl yk_X8_init ⟨Nat.le_of_ble_eq_true rfl, Nat.le_of_ble_eq_true rfl⟩) (c0_pre hPc hK hDc) rfl rfl hl.1 rfl (lv_room (Nat.le_of_ble_eq_true rfl)) dX1_init_59 ⟨Nat.le_of_ble_eq_true rfl, Nat.le_of_ble_eq_true rfl⟩) hS (fun q _ h => hFc q h) hFc (fun u t H1 locs ht1 hvm hw hB hz1 hk1 hS => ?_)
  obtain ⟨to_17, tg_18, L2_19, fp2_20⟩ := u
  try dsimp only at hw hB
  obtain ⟨hq20_0, hq20_1, hq20_2⟩ := hw
  have hq5_2 := Gr.mono hq5_2 hq20_1
  have hq10_2 := Gr.mono hq10_2 hq20_1
  have hq15_2 := Gr.mono hq15_2 hq20_1
  have hsub := fun (a9 : Nat) h => hq20_1 a9 (hsub a9 h)
  have hRo := hq20_0
  obtain ⟨hP1, hD1⟩ := hB
  rw [ht1] at hP1
  obtain ⟨hP, hD⟩ := va_joinP (X := [(bk, .inr (1, [.int 0, .ref q_1, .ref q_6, .ref q_11, .null, .null, .null, .null])), (q_1, .inr (8, [.ref to_2, .int 0])), (to_2, .inl (G.2 5, 9, .inr (.inr (.inr (.inr tg_3))))), (q_6, .inr (8, [.ref to_7, .int 0])), (to_7, .inl (G.2 5, 3, .inr (.inr (.inr (.inr tg_8))))), (q_11, .inr (8, [.ref to_12, .int 0])), (to_12, .inl (G.2 5, 9, .inr (.inr (.inr (.inr tg_13))))), (q_16, .inr (8, [.null, .int 0]))]) (cx := [(q_16, .inr (8, [.null, .int 0]))]) (wr := [(bk, .inr (1, [.int 0, .ref q_1, .ref q_6, .ref q_11, .null, .null, .null, .null])), (q_1, .inr (8, [.ref to_2, .int 0])), (to_2, .inl (G.2 5, 9, .inr (.inr (.inr (.inr tg_3))))), (q_6, .inr (8, [.ref to_7, .int 0])), (to_7, .inl (G.2 5, 3, .inr (.inr (.inr (.inr tg_8))))), (q_11, .inr (8, [.ref to_12, .int 0])), (to_12, .inl (G.2 5, 9, .inr (.inr (.inr (.inr tg_13)))))]) (rx := [(q_16, .inr (8, [.ref to_17, .int 0])), (to_17, .inl (G.2 5, 4, .inr (.inr (.inr (.inr tg_18)))))]) (pl1 := va_pl L2_19 fp2_20) hP hD [7] [0, 1, 2, 3, 4, 5, 6] rfl rfl (by decide) (by decide) hk1 hFc hP1 hD1
  generalize H1 = H at hP hS ⊢
  have hP : va_P G.1 vwCl ([(bk, .inr (1, [.int 0, .ref q_1, .ref q_6, .ref q_11, .null, .null, .null, .null])), (q_1, .inr (8, [.ref to_2, .int 0])), (to_2, .inl (G.2 5, 9, .inr (.inr (.inr (.inr tg_3))))), (q_6, .inr (8, [.ref to_7, .int 0])), (to_7, .inl (G.2 5, 3, .inr (.inr (.inr (.inr tg_8))))), (q_11, .inr (8, [.ref to_12, .int 0])), (to_12, .inl (G.2 5, 9, .inr (.inr (.inr (.inr tg_13))))), (q_16, .inr (8, [.ref to_17, .int 0])), (to_17, .inl (G.2 5, 4, .inr (.inr (.inr (.inr tg_18)))))] ++ va_pl L2_19 fp2_20) H := hP
  have hD : va_D A ([(bk, .inr (1, [.int 0, .ref q_1, .ref q_6, .ref q_11, .null, .null, .null, .null])), (q_1, .inr (8, [.ref to_2, .int 0])), (to_2, .inl (G.2 5, 9, .inr (.inr (.inr (.inr tg_3))))), (q_6, .inr (8, [.ref to_7, .int 0])), (to_7, .inl (G.2 5, 3, .inr (.inr (.inr (.inr tg_8))))), (q_11, .inr (8, [.ref to_12, .int 0])), (to_12, .inl (G.2 5, 9, .inr (.inr (.inr (.inr tg_13))))), (q_16, .inr (8, [.ref to_17, .int 0])), (to_17, .inl (G.2 5, 4, .inr (.inr (.inr (.inr tg_18)))))] ++ va_pl L2_19 fp2_20) := hD
  refine W.widen (k := 33) (n := 289) (by omega) (by omega) ?_
  refine va_putF (D := G.1) (ci := 1) (v := .ref q_16) (ty := tyX1 4) (C := RX1) (T := TX1) (N := 8) hx hb ht inlX1 tyX1 tyX1_ok nmX1 hown hK.1 hP hD hS 0 rfl rfl 4 (by decide) (ht (Cond.fieldLink RX1 30 "PloughDepot$Books" "drives" "LPloughDepot$Table;") mw_3_17) (fun _ h9 => h9) rfl hin rfl (tyX1_ok 4 (by decide)) rfl rfl (Nat.le_of_ble_eq_true rfl) dX1_init_62 (fun H locs hP hD hS => ?_)
  have hP : va_P G.1 vwCl ([(bk, .inr (1, [.int 0, .ref q_1, .ref q_6, .ref q_11, .ref q_16, .null, .null, .null])), (q_1, .inr (8, [.ref to_2, .int 0])), (to_2, .inl (G.2 5, 9, .inr (.inr (.inr (.inr tg_3))))), (q_6, .inr (8, [.ref to_7, .int 0])), (to_7, .inl (G.2 5, 3, .inr (.inr (.inr (.inr tg_8))))), (q_11, .inr (8, [.ref to_12, .int 0])), (to_12, .inl (G.2 5, 9, .inr (.inr (.inr (.inr tg_13))))), (q_16, .inr (8, [.ref to_17, .int 0])), (to_17, .inl (G.2 5, 4, .inr (.inr (.inr (.inr tg_18)))))] ++ va_pl L2_19 fp2_20) H := hP
  have hD : va_D A ([(bk, .inr (1, [.int 0, .ref q_1, .ref q_6, .ref q_11, .ref q_16, .null, .null, .null])), (q_1, .inr (8, [.ref to_2, .int 0])), (to_2, .inl (G.2 5, 9, .inr (.inr (.inr (.inr tg_3))))), (q_6, .inr (8, [.ref to_7, .int 0])), (to_7, .inl (G.2 5, 3, .inr (.inr (.inr (.inr tg_8))))), (q_11, .inr (8, [.ref to_12, .int 0])), (to_12, .inl (G.2 5, 9, .inr (.inr (.inr (.inr tg_13))))), (q_16, .inr (8, [.ref to_17, .int 0])), (to_17, .inl (G.2 5, 4, .inr (.inr (.inr (.inr tg_18)))))] ++ va_pl L2_19 fp2_20) := hD
  refine lv_aload_n hx hb dX1_init_65 rfl (lv_at hl 0 rfl) ?_
  refine lv_bipush (v := 7) hx hb dX1_init_66 (by decide) ?_
  refine ns_new 0 (a0 := (7, .inl (fun _ => 0))) hx hb (ht (Cond.arrayClass .int) mw_2_13) rfl rfl (fun h => h) hK hP hD hS hA (fun _ => rfl) (by decide) (N' := 7) (by decide) (by decide) (Nat.le_of_ble_eq_true rfl) (Nat.le_of_ble_eq_true rfl) dX1_init_68 (fun q_21 H hP hD hS => ?_)
  have hP := va_P.swap hP
  have hD := va_D.swap hD
  have hP : va_P G.1 vwCl ([(bk, .inr (1, [.int 0, .ref q_1, .ref q_6, .ref q_11, .ref q_16, .null, .null, .null])), (q_1, .inr (8, [.ref to_2, .int 0])), (to_2, .inl (G.2 5, 9, .inr (.inr (.inr (.inr tg_3))))), (q_6, .inr (8, [.ref to_7, .int 0])), (to_7, .inl (G.2 5, 3, .inr (.inr (.inr (.inr tg_8))))), (q_11, .inr (8, [.ref to_12, .int 0])), (to_12, .inl (G.2 5, 9, .inr (.inr (.inr (.inr tg_13))))), (q_16, .inr (8, [.ref to_17, .int 0])), (to_17, .inl (G.2 5, 4, .inr (.inr (.inr (.inr tg_18))))), (q_21, .inl (G.2 0, 7, .inl (fun _ => 0)))] ++ va_pl L2_19 fp2_20) H := hP
  have hD : va_D A ([(bk, .inr (1, [.int 0, .ref q_1, .ref q_6, .ref q_11, .ref q_16, .null, .null, .null])), (q_1, .inr (8, [.ref to_2, .int 0])), (to_2, .inl (G.2 5, 9, .inr (.inr (.inr (.inr tg_3))))), (q_6, .inr (8, [.ref to_7, .int 0])), (to_7, .inl (G.2 5, 3, .inr (.inr (.inr (.inr tg_8))))), (q_11, .inr (8, [.ref to_12, .int 0])), (to_12, .inl (G.2 5, 9, .inr (.inr (.inr (.inr tg_13))))), (q_16, .inr (8, [.ref to_17, .int 0])), (to_17, .inl (G.2 5, 4, .inr (.inr (.inr (.inr tg_18))))), (q_21, .inl (G.2 0, 7, .inl (fun _ => 0)))] ++ va_pl L2_19 fp2_20) := hD
  refine W.widen (k := 34) (n := 296) (by omega) (by omega) ?_
  refine va_putF (D := G.1) (ci := 1) (v := .ref q_21) (ty := tyX1 5) (C := RX1) (T := TX1) (N := 8) hx hb ht inlX1 tyX1 tyX1_ok nmX1 hown hK.1 hP hD hS 0 rfl rfl 5 (by decide) (ht (Cond.fieldLink RX1 33 "PloughDepot$Books" "facts" "[I") mw_3_18) (fun _ h9 => h9) rfl hin rfl (tyX1_ok 5 (by decide)) rfl rfl (Nat.le_of_ble_eq_true rfl) dX1_init_70 (fun H locs hP hD hS => ?_)
  have hP : va_P G.1 vwCl ([(bk, .inr (1, [.int 0, .ref q_1, .ref q_6, .ref q_11, .ref q_16, .ref q_21, .null, .null])), (q_1, .inr (8, [.ref to_2, .int 0])), (to_2, .inl (G.2 5, 9, .inr (.inr (.inr (.inr tg_3))))), (q_6, .inr (8, [.ref to_7, .int 0])), (to_7, .inl (G.2 5, 3, .inr (.inr (.inr (.inr tg_8))))), (q_11, .inr (8, [.ref to_12, .int 0])), (to_12, .inl (G.2 5, 9, .inr (.inr (.inr (.inr tg_13))))), (q_16, .inr (8, [.ref to_17, .int 0])), (to_17, .inl (G.2 5, 4, .inr (.inr (.inr (.inr tg_18))))), (q_21, .inl (G.2 0, 7, .inl (fun _ => 0)))] ++ va_pl L2_19 fp2_20) H := hP
  have hD : va_D A ([(bk, .inr (1, [.int 0, .ref q_1, .ref q_6, .ref q_11, .ref q_16, .ref q_21, .null, .null])), (q_1, .inr (8, [.ref to_2, .int 0])), (to_2, .inl (G.2 5, 9, .inr (.inr (.inr (.inr tg_3))))), (q_6, .inr (8, [.ref to_7, .int 0])), (to_7, .inl (G.2 5, 3, .inr (.inr (.inr (.inr tg_8))))), (q_11, .inr (8, [.ref to_12, .int 0])), (to_12, .inl (G.2 5, 9, .inr (.inr (.inr (.inr tg_13))))), (q_16, .inr (8, [.ref to_17, .int 0])), (to_17, .inl (G.2 5, 4, .inr (.inr (.inr (.inr tg_18))))), (q_21, .inl (G.2 0, 7, .inl (fun _ => 0)))] ++ va_pl L2_19 fp2_20) := hD
  refine lv_aload_n hx hb dX1_init_73 rfl (lv_at hl 0 rfl) ?_
  refine lv_bipush (v := 60) hx hb dX1_init_74 (by decide) ?_
  refine ns_new 0 (a0 := (60, .inl (fun _ => 0))) hx hb (ht (Cond.arrayClass .int) mw_2_13) rfl rfl (fun h => h) hK hP hD hS hA (fun _ => rfl) (by decide) (N' := 60) (by decide) (by decide) (Nat.le_of_ble_eq_true rfl) (Nat.le_of_ble_eq_true rfl) dX1_init_76 (fun q_22 H hP hD hS => ?_)
  have hP := va_P.swap hP
  have hD := va_D.swap hD
  have hP : va_P G.1 vwCl ([(bk, .inr (1, [.int 0, .ref q_1, .ref q_6, .ref q_11, .ref q_16, .ref q_21, .null, .null])), (q_1, .inr (8, [.ref to_2, .int 0])), (to_2, .inl (G.2 5, 9, .inr (.inr (.inr (.inr tg_3))))), (q_6, .inr (8, [.ref to_7, .int 0])), (to_7, .inl (G.2 5, 3, .inr (.inr (.inr (.inr tg_8))))), (q_11, .inr (8, [.ref to_12, .int 0])), (to_12, .inl (G.2 5, 9, .inr (.inr (.inr (.inr tg_13))))), (q_16, .inr (8, [.ref to_17, .int 0])), (to_17, .inl (G.2 5, 4, .inr (.inr (.inr (.inr tg_18))))), (q_21, .inl (G.2 0, 7, .inl (fun _ => 0))), (q_22, .inl (G.2 0, 60, .inl (fun _ => 0)))] ++ va_pl L2_19 fp2_20) H := hP
  have hD : va_D A ([(bk, .inr (1, [.int 0, .ref q_1, .ref q_6, .ref q_11, .ref q_16, .ref q_21, .null, .null])), (q_1, .inr (8, [.ref to_2, .int 0])), (to_2, .inl (G.2 5, 9, .inr (.inr (.inr (.inr tg_3))))), (q_6, .inr (8, [.ref to_7, .int 0])), (to_7, .inl (G.2 5, 3, .inr (.inr (.inr (.inr tg_8))))), (q_11, .inr (8, [.ref to_12, .int 0])), (to_12, .inl (G.2 5, 9, .inr (.inr (.inr (.inr tg_13))))), (q_16, .inr (8, [.ref to_17, .int 0])), (to_17, .inl (G.2 5, 4, .inr (.inr (.inr (.inr tg_18))))), (q_21, .inl (G.2 0, 7, .inl (fun _ => 0))), (q_22, .inl (G.2 0, 60, .inl (fun _ => 0)))] ++ va_pl L2_19 fp2_20) := hD
  refine W.widen (k := 35) (n := 356) (by omega) (by omega) ?_
  refine va_putF (D := G.1) (ci := 1) (v := .ref q_22) (ty := tyX1 6) (C := RX1) (T := TX1) (N := 8) hx hb ht inlX1 tyX1 tyX1_ok nmX1 hown hK.1 hP hD hS 0 rfl rfl 6 (by decide) (ht (Cond.fieldLink RX1 37 "PloughDepot$Books" "partners" "[I") mw_3_19) (fun _ h9 => h9) rfl hin rfl (tyX1_ok 6 (by decide)) rfl rfl (Nat.le_of_ble_eq_true rfl) dX1_init_78 (fun H locs hP hD hS => ?_)
  have hP : va_P G.1 vwCl ([(bk, .inr (1, [.int 0, .ref q_1, .ref q_6, .ref q_11, .ref q_16, .ref q_21, .ref q_22, .null])), (q_1, .inr (8, [.ref to_2, .int 0])), (to_2, .inl (G.2 5, 9, .inr (.inr (.inr (.inr tg_3))))), (q_6, .inr (8, [.ref to_7, .int 0])), (to_7, .inl (G.2 5, 3, .inr (.inr (.inr (.inr tg_8))))), (q_11, .inr (8, [.ref to_12, .int 0])), (to_12, .inl (G.2 5, 9, .inr (.inr (.inr (.inr tg_13))))), (q_16, .inr (8, [.ref to_17, .int 0])), (to_17, .inl (G.2 5, 4, .inr (.inr (.inr (.inr tg_18))))), (q_21, .inl (G.2 0, 7, .inl (fun _ => 0))), (q_22, .inl (G.2 0, 60, .inl (fun _ => 0)))] ++ va_pl L2_19 fp2_20) H := hP
  have hD : va_D A ([(bk, .inr (1, [.int 0, .ref q_1, .ref q_6, .ref q_11, .ref q_16, .ref q_21, .ref q_22, .null])), (q_1, .inr (8, [.ref to_2, .int 0])), (to_2, .inl (G.2 5, 9, .inr (.inr (.inr (.inr tg_3))))), (q_6, .inr (8, [.ref to_7, .int 0])), (to_7, .inl (G.2 5, 3, .inr (.inr (.inr (.inr tg_8))))), (q_11, .inr (8, [.ref to_12, .int 0])), (to_12, .inl (G.2 5, 9, .inr (.inr (.inr (.inr tg_13))))), (q_16, .inr (8, [.ref to_17, .int 0])), (to_17, .inl (G.2 5, 4, .inr (.inr (.inr (.inr tg_18))))), (q_21, .inl (G.2 0, 7, .inl (fun _ => 0))), (q_22, .inl (G.2 0, 60, .inl (fun _ => 0)))] ++ va_pl L2_19 fp2_20) := hD
  refine lv_aload_n hx hb dX1_init_81 rfl (lv_at hl 0 rfl) ?_
  refine lv_iconst (v := 0) hx hb dX1_init_82 (by decide) ?_
  refine ns_new 1 (a0 := (0, .inr (.inl (fun _ => 0)))) hx hb (ht (Cond.arrayClass .long) mw_3_20) rfl rfl (fun h => h) hK hP hD hS hA (fun _ => rfl) (by decide) (N' := 0) (by decide) (by decide) (Nat.le_of_ble_eq_true rfl) (Nat.le_of_ble_eq_true rfl) dX1_init_83 (fun q_23 H hP hD hS => ?_)
  have hP := va_P.swap hP
  have hD := va_D.swap hD
  have hP : va_P G.1 vwCl ([(bk, .inr (1, [.int 0, .ref q_1, .ref q_6, .ref q_11, .ref q_16, .ref q_21, .ref q_22, .null])), (q_1, .inr (8, [.ref to_2, .int 0])), (to_2, .inl (G.2 5, 9, .inr (.inr (.inr (.inr tg_3))))), (q_6, .inr (8, [.ref to_7, .int 0])), (to_7, .inl (G.2 5, 3, .inr (.inr (.inr (.inr tg_8))))), (q_11, .inr (8, [.ref to_12, .int 0])), (to_12, .inl (G.2 5, 9, .inr (.inr (.inr (.inr tg_13))))), (q_16, .inr (8, [.ref to_17, .int 0])), (to_17, .inl (G.2 5, 4, .inr (.inr (.inr (.inr tg_18))))), (q_21, .inl (G.2 0, 7, .inl (fun _ => 0))), (q_22, .inl (G.2 0, 60, .inl (fun _ => 0))), (q_23, .inl (G.2 1, 0, .inr (.inl (fun _ => 0))))] ++ va_pl L2_19 fp2_20) H := hP
  have hD : va_D A ([(bk, .inr (1, [.int 0, .ref q_1, .ref q_6, .ref q_11, .ref q_16, .ref q_21, .ref q_22, .null])), (q_1, .inr (8, [.ref to_2, .int 0])), (to_2, .inl (G.2 5, 9, .inr (.inr (.inr (.inr tg_3))))), (q_6, .inr (8, [.ref to_7, .int 0])), (to_7, .inl (G.2 5, 3, .inr (.inr (.inr (.inr tg_8))))), (q_11, .inr (8, [.ref to_12, .int 0])), (to_12, .inl (G.2 5, 9, .inr (.inr (.inr (.inr tg_13))))), (q_16, .inr (8, [.ref to_17, .int 0])), (to_17, .inl (G.2 5, 4, .inr (.inr (.inr (.inr tg_18))))), (q_21, .inl (G.2 0, 7, .inl (fun _ => 0))), (q_22, .inl (G.2 0, 60, .inl (fun _ => 0))), (q_23, .inl (G.2 1, 0, .inr (.inl (fun _ => 0))))] ++ va_pl L2_19 fp2_20) := hD
  refine W.widen (k := 36) (n := 356) (by omega) (by omega) ?_
  refine va_put (D := G.1) (ci := 1) (v := .ref q_23) (ty := tyX1 7) (C := RX1) (T := TX1) (N := 8) hx hb ht inlX1 tyX1 tyX1_ok nmX1 hown hK.1 hP hD hS 0 rfl rfl 7 (by decide) (ht (Cond.fieldLink RX1 40 "PloughDepot$Books" "cells" "[J") mw_3_21) (fun _ h9 => h9) rfl (tyX1_ok 7 (by decide)) rfl rfl (Nat.le_of_ble_eq_true rfl) dX1_init_85 (fun H locs hP hD hS => ?_)
  have hP : va_P G.1 vwCl ([(bk, .inr (1, [.int 0, .ref q_1, .ref q_6, .ref q_11, .ref q_16, .ref q_21, .ref q_22, .ref q_23])), (q_1, .inr (8, [.ref to_2, .int 0])), (to_2, .inl (G.2 5, 9, .inr (.inr (.inr (.inr tg_3))))), (q_6, .inr (8, [.ref to_7, .int 0])), (to_7, .inl (G.2 5, 3, .inr (.inr (.inr (.inr tg_8))))), (q_11, .inr (8, [.ref to_12, .int 0])), (to_12, .inl (G.2 5, 9, .inr (.inr (.inr (.inr tg_13))))), (q_16, .inr (8, [.ref to_17, .int 0])), (to_17, .inl (G.2 5, 4, .inr (.inr (.inr (.inr tg_18))))), (q_21, .inl (G.2 0, 7, .inl (fun _ => 0))), (q_22, .inl (G.2 0, 60, .inl (fun _ => 0))), (q_23, .inl (G.2 1, 0, .inr (.inl (fun _ => 0))))] ++ va_pl L2_19 fp2_20) H := hP
  have hD : va_D A ([(bk, .inr (1, [.int 0, .ref q_1, .ref q_6, .ref q_11, .ref q_16, .ref q_21, .ref q_22, .ref q_23])), (q_1, .inr (8, [.ref to_2, .int 0])), (to_2, .inl (G.2 5, 9, .inr (.inr (.inr (.inr tg_3))))), (q_6, .inr (8, [.ref to_7, .int 0])), (to_7, .inl (G.2 5, 3, .inr (.inr (.inr (.inr tg_8))))), (q_11, .inr (8, [.ref to_12, .int 0])), (to_12, .inl (G.2 5, 9, .inr (.inr (.inr (.inr tg_13))))), (q_16, .inr (8, [.ref to_17, .int 0])), (to_17, .inl (G.2 5, 4, .inr (.inr (.inr (.inr tg_18))))), (q_21, .inl (G.2 0, 7, .inl (fun _ => 0))), (q_22, .inl (G.2 0, 60, .inl (fun _ => 0))), (q_23, .inl (G.2 1, 0, .inr (.inl (fun _ => 0))))] ++ va_pl L2_19 fp2_20) := hD
  refine lv_aload_n hx hb dX1_init_88 rfl (lv_at hl 0 rfl) ?_
  refine va_get (D := G.1) (ci := 1) (v := .ref q_22) (C := RX1) (T := TX1) (N := 8) hx hb ht inlX1 hown hK.1 hP 0 rfl rfl 6 (by decide) (ht (Cond.fieldLink RX1 37 "PloughDepot$Books" "partners" "[I") mw_3_19) (fun _ h9 => h9) rfl dX1_init_89 ?_
  refine lv_iconst (v := (-1)) hx hb dX1_init_92 (by decide) ?_
  have hPc := hP.sub (ws' := [(q_22, .inl (G.2 0, 60, .inl (fun _ => 0)))]) [10] rfl
  have hDc := hD.sub (ws' := [(q_22, .inl (G.2 0, 60, .inl (fun _ => 0)))]) [10] (by decide) rfl
  have hFc := va_free (wc := [(q_22, .inl (G.2 0, 60, .inl (fun _ => 0)))]) hD hS hA [10] rfl
  refine va_callv (va_runS (As := [.ref q_22, .int (-1)]) (rest := []) ⟨hx, hb, hml, hown, hts⟩ (j_fillI l G _ q_22 (-1) 60 (fun _ => 0) (by first | assumption | decide)) (va_cwS 2 hts (gd_Y mw_4_5 mw_4_6 mw_4_7 mw_4_8) rfl rfl rfl yk_J7_fill_53178 ⟨Nat.le_of_ble_eq_true rfl, Nat.le_of_ble_eq_true rfl⟩) (c0_pre hPc hK hDc) rfl rfl hl.1 rfl (lv_room (Nat.le_of_ble_eq_true rfl)) dX1_init_93 ⟨Nat.le_of_ble_eq_true rfl, Nat.le_of_ble_eq_true rfl⟩) hS (fun q _ h => hFc q h) hFc (fun u t H1 locs ht1 hvm hw hB hz1 hk1 hS => ?_)
  obtain ⟨af2_24, rfl⟩ : ∃ z, z = u := ⟨_, rfl⟩
  try dsimp only at hw hB
  obtain ⟨hP1, hD1⟩ := hB
  rw [ht1] at hP1
  obtain ⟨hP, hD⟩ := va_joinQ (X := [(bk, .inr (1, [.int 0, .ref q_1, .ref q_6, .ref q_11, .ref q_16, .ref q_21, .ref q_22, .ref q_23])), (q_1, .inr (8, [.ref to_2, .int 0])), (to_2, .inl (G.2 5, 9, .inr (.inr (.inr (.inr tg_3))))), (q_6, .inr (8, [.ref to_7, .int 0])), (to_7, .inl (G.2 5, 3, .inr (.inr (.inr (.inr tg_8))))), (q_11, .inr (8, [.ref to_12, .int 0])), (to_12, .inl (G.2 5, 9, .inr (.inr (.inr (.inr tg_13))))), (q_16, .inr (8, [.ref to_17, .int 0])), (to_17, .inl (G.2 5, 4, .inr (.inr (.inr (.inr tg_18))))), (q_21, .inl (G.2 0, 7, .inl (fun _ => 0))), (q_22, .inl (G.2 0, 60, .inl (fun _ => 0))), (q_23, .inl (G.2 1, 0, .inr (.inl (fun _ => 0))))]) (wr := [(bk, .inr (1, [.int 0, .ref q_1, .ref q_6, .ref q_11, .ref q_16, .ref q_21, .ref q_22, .ref q_23])), (q_1, .inr (8, [.ref to_2, .int 0])), (to_2, .inl (G.2 5, 9, .inr (.inr (.inr (.inr tg_3))))), (q_6, .inr (8, [.ref to_7, .int 0])), (to_7, .inl (G.2 5, 3, .inr (.inr (.inr (.inr tg_8))))), (q_11, .inr (8, [.ref to_12, .int 0])), (to_12, .inl (G.2 5, 9, .inr (.inr (.inr (.inr tg_13))))), (q_16, .inr (8, [.ref to_17, .int 0])), (to_17, .inl (G.2 5, 4, .inr (.inr (.inr (.inr tg_18))))), (q_21, .inl (G.2 0, 7, .inl (fun _ => 0))), (q_23, .inl (G.2 1, 0, .inr (.inl (fun _ => 0))))]) (w1 := [(q_22, .inl (G.2 0, 60, .inl af2_24))]) (pl := va_pl L2_19 fp2_20) hP hD [10] [0, 1, 2, 3, 4, 5, 6, 7, 8, 9, 11] rfl rfl (by decide) (by decide) hk1 hFc hP1 hD1
  generalize H1 = H at hP hS ⊢
  have hP : va_P G.1 vwCl ([(bk, .inr (1, [.int 0, .ref q_1, .ref q_6, .ref q_11, .ref q_16, .ref q_21, .ref q_22, .ref q_23])), (q_1, .inr (8, [.ref to_2, .int 0])), (to_2, .inl (G.2 5, 9, .inr (.inr (.inr (.inr tg_3))))), (q_6, .inr (8, [.ref to_7, .int 0])), (to_7, .inl (G.2 5, 3, .inr (.inr (.inr (.inr tg_8))))), (q_11, .inr (8, [.ref to_12, .int 0])), (to_12, .inl (G.2 5, 9, .inr (.inr (.inr (.inr tg_13))))), (q_16, .inr (8, [.ref to_17, .int 0])), (to_17, .inl (G.2 5, 4, .inr (.inr (.inr (.inr tg_18))))), (q_21, .inl (G.2 0, 7, .inl (fun _ => 0))), (q_23, .inl (G.2 1, 0, .inr (.inl (fun _ => 0)))), (q_22, .inl (G.2 0, 60, .inl af2_24))] ++ va_pl L2_19 fp2_20) H := hP
  have hD : va_D A ([(bk, .inr (1, [.int 0, .ref q_1, .ref q_6, .ref q_11, .ref q_16, .ref q_21, .ref q_22, .ref q_23])), (q_1, .inr (8, [.ref to_2, .int 0])), (to_2, .inl (G.2 5, 9, .inr (.inr (.inr (.inr tg_3))))), (q_6, .inr (8, [.ref to_7, .int 0])), (to_7, .inl (G.2 5, 3, .inr (.inr (.inr (.inr tg_8))))), (q_11, .inr (8, [.ref to_12, .int 0])), (to_12, .inl (G.2 5, 9, .inr (.inr (.inr (.inr tg_13))))), (q_16, .inr (8, [.ref to_17, .int 0])), (to_17, .inl (G.2 5, 4, .inr (.inr (.inr (.inr tg_18))))), (q_21, .inl (G.2 0, 7, .inl (fun _ => 0))), (q_23, .inl (G.2 1, 0, .inr (.inl (fun _ => 0)))), (q_22, .inl (G.2 0, 60, .inl af2_24))] ++ va_pl L2_19 fp2_20) := hD
  have hP9 := va_P.part (X := [(bk, .inr (1, [.int 0, .ref q_1, .ref q_6, .ref q_11, .ref q_16, .ref q_21, .ref q_22, .ref q_23])), (q_1, .inr (8, [.ref to_2, .int 0])), (to_2, .inl (G.2 5, 9, .inr (.inr (.inr (.inr tg_3))))), (q_6, .inr (8, [.ref to_7, .int 0])), (to_7, .inl (G.2 5, 3, .inr (.inr (.inr (.inr tg_8))))), (q_11, .inr (8, [.ref to_12, .int 0])), (to_12, .inl (G.2 5, 9, .inr (.inr (.inr (.inr tg_13))))), (q_16, .inr (8, [.ref to_17, .int 0])), (to_17, .inl (G.2 5, 4, .inr (.inr (.inr (.inr tg_18))))), (q_21, .inl (G.2 0, 7, .inl (fun _ => 0))), (q_23, .inl (G.2 1, 0, .inr (.inl (fun _ => 0)))), (q_22, .inl (G.2 0, 60, .inl af2_24))]) (cx := [(bk, .inr (1, [.int 0, .ref q_1, .ref q_6, .ref q_11, .ref q_16, .ref q_21, .ref q_22, .ref q_23])), (q_1, .inr (8, [.ref to_2, .int 0])), (to_2, .inl (G.2 5, 9, .inr (.inr (.inr (.inr tg_3))))), (q_6, .inr (8, [.ref to_7, .int 0])), (to_7, .inl (G.2 5, 3, .inr (.inr (.inr (.inr tg_8))))), (q_11, .inr (8, [.ref to_12, .int 0])), (to_12, .inl (G.2 5, 9, .inr (.inr (.inr (.inr tg_13))))), (q_16, .inr (8, [.ref to_17, .int 0])), (to_17, .inl (G.2 5, 4, .inr (.inr (.inr (.inr tg_18))))), (q_21, .inl (G.2 0, 7, .inl (fun _ => 0))), (q_22, .inl (G.2 0, 60, .inl af2_24)), (q_23, .inl (G.2 1, 0, .inr (.inl (fun _ => 0))))]) hP [0, 1, 2, 3, 4, 5, 6, 7, 8, 9, 11, 10] rfl
  have hD9 := va_D.part (X := [(bk, .inr (1, [.int 0, .ref q_1, .ref q_6, .ref q_11, .ref q_16, .ref q_21, .ref q_22, .ref q_23])), (q_1, .inr (8, [.ref to_2, .int 0])), (to_2, .inl (G.2 5, 9, .inr (.inr (.inr (.inr tg_3))))), (q_6, .inr (8, [.ref to_7, .int 0])), (to_7, .inl (G.2 5, 3, .inr (.inr (.inr (.inr tg_8))))), (q_11, .inr (8, [.ref to_12, .int 0])), (to_12, .inl (G.2 5, 9, .inr (.inr (.inr (.inr tg_13))))), (q_16, .inr (8, [.ref to_17, .int 0])), (to_17, .inl (G.2 5, 4, .inr (.inr (.inr (.inr tg_18))))), (q_21, .inl (G.2 0, 7, .inl (fun _ => 0))), (q_23, .inl (G.2 1, 0, .inr (.inl (fun _ => 0)))), (q_22, .inl (G.2 0, 60, .inl af2_24))]) (cx := [(bk, .inr (1, [.int 0, .ref q_1, .ref q_6, .ref q_11, .ref q_16, .ref q_21, .ref q_22, .ref q_23])), (q_1, .inr (8, [.ref to_2, .int 0])), (to_2, .inl (G.2 5, 9, .inr (.inr (.inr (.inr tg_3))))), (q_6, .inr (8, [.ref to_7, .int 0])), (to_7, .inl (G.2 5, 3, .inr (.inr (.inr (.inr tg_8))))), (q_11, .inr (8, [.ref to_12, .int 0])), (to_12, .inl (G.2 5, 9, .inr (.inr (.inr (.inr tg_13))))), (q_16, .inr (8, [.ref to_17, .int 0])), (to_17, .inl (G.2 5, 4, .inr (.inr (.inr (.inr tg_18))))), (q_21, .inl (G.2 0, 7, .inl (fun _ => 0))), (q_22, .inl (G.2 0, 60, .inl af2_24)), (q_23, .inl (G.2 1, 0, .inr (.inl (fun _ => 0))))]) hD [0, 1, 2, 3, 4, 5, 6, 7, 8, 9, 11, 10] (by decide) rfl
  exact W.vret hx hb hr (fun t ht hW => ⟨⟨(q_1, to_2, tg_3, q_6, to_7, tg_8, q_11, to_12, tg_13, q_16, to_17, tg_18, q_21, q_22, q_23, af2_24, L2_19, fp2_20), rfl, ⟨hRo, hsub, hq5_2, hq10_2, hq15_2, hq20_2⟩, ⟨by rw [ht]; exact hP9, hD9⟩⟩, hS.F ht⟩) hS.2.2 dX1_init_96

