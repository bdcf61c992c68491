set_option maxHeartbeats 4000000 in
set_option maxRecDepth 100000 in
theorem k_tinit_9_16 (l : Launch) (G : GG) (sz : Nat) (tb : Nat) (L : List Nat) (fp : Nat → va_E) (hRo : Ro G L fp) : Met l yX8_init (.code yX8_init cX8_init 3 none :: TT) ({ frames := 1, cells := 10, slots := 153, locals := 100 } : Room) (c0_P G [.ref tb, .int 9, .int 16] sz ([(tb, .inr (8, [.null, .int 0]))] ++ va_pl L fp)) (va_Qv (S := Nat × (Nat → Option Nat) × (List Nat) × (Nat → va_E)) (fun (u : Nat × (Nat → Option Nat) × (List Nat) × (Nat → va_E)) => Ro G u.2.2.1 u.2.2.2 ∧ (∀ a9, a9 ∈ L → a9 ∈ u.2.2.1) ∧ Gr u.2.2.1 u.2.1 9) (fun (u : Nat × (Nat → Option Nat) × (List Nat) × (Nat → va_E)) (t : State) => c0_B G (va_A ([(tb, .inr (8, [.null, .int 0]))] ++ va_pl L fp) sz) ([(tb, .inr (8, [.ref u.1, .int 0])), (u.1, .inl (G.2 5, 9, .inr (.inr (.inr (.inr u.2.1)))))] ++ va_pl u.2.2.1 u.2.2.2) t) (va_A ([(tb, .inr (8, [.null, .int 0]))] ++ va_pl L fp) sz)) 10 153 (va_A ([(tb, .inr (8, [.null, .int 0]))] ++ va_pl L fp) sz) := by
  refine Met.ofW (cc := cX8_init) (maxL := 3) (ret := none) (by decide) rfl ?_
  intro p e s m args below meth c s₁ B hml hv
  obtain ⟨rfl, hsz, hP, hK, hD0⟩ := hv
  have hx := B.exec
  have hb := B.bytes
  have hr := B.returns
  have hts := atoms_spec (ws := .code yX8_init cX8_init 3 none :: TT) B.pre
  have ht := fun (w : Cond) (h : w ∈ TT) => hts w (List.mem_cons_of_mem _ h)
  have hown : s.vm.findClass RX8 = some m.cls := findClass_of_methodNamed B.named
  have hlocks := B.notSynchronized
  have hin : meth.name = "<init>" := (name_of_methodNamed B.named B.method).1
  subst hsz
  have hD := hD0.self (sz := s.heap.size)
  generalize hAe : va_A ([(tb, .inr (8, [.null, .int 0]))] ++ va_pl L fp) s.heap.size = A at hD ⊢
  have hA : ∀ q : Nat, s.heap.size ≤ q → A q := fun q h => by rw [← hAe]; exact Or.inr h
  have hS : va_S A s.heap s.heap [] := va_S.rf
  have hP : va_P G.1 vwCl ([(tb, .inr (8, [.null, .int 0]))] ++ va_pl L fp) s.heap := hP
  have hl := lv_entry ([.ref tb, .int 9, .int 16]) (n := 3) (Nat.le_of_ble_eq_true rfl)
  rw [lg_entry_eq]
  generalize (lg_sl ([.ref tb, .int 9, .int 16]) ++ List.replicate (3 - (lg_sl ([.ref tb, .int 9, .int 16])).length) Slot.unset).toArray = ls at hl ⊢
  have hl : lv_has ls 3 [(0, .ref tb), (1, .int 9), (2, .int 16)] := hl
  have hsub : ∀ a9, a9 ∈ L → a9 ∈ L := fun _ h => h
  refine lv_aload_n hx hb dX8_init_0 rfl (lv_at hl 0 rfl) ?_
  refine W.objInit hx hb hown (ht (Cond.methodLink RX8 3 objectInit) mw_4_1) (ht (Cond.instanceMethod objectInit) mw_1_10) (ht (Cond.code objectInit ⟨#[0xb1]⟩ 1 none) mw_1_11) rfl (by rw [hml]; exact hl.1) rfl dX8_init_1 (Nat.le_of_ble_eq_true rfl) (Nat.le_of_ble_eq_true rfl) ?_
  refine W.eq (g2 := F0 m 4 ls []) rfl ?_
  refine lv_aload_n hx hb dX8_init_4 rfl (lv_at hl 0 rfl) ?_
  refine lv_iconst (v := 0) hx hb dX8_init_5 (by decide) ?_
  refine va_put (D := G.1) (ci := 8) (v := .int 0) (ty := tyX8 1) (C := RX8) (T := TX8) (N := 2) hx hb ht inlX8 tyX8 tyX8_ok nmX8 hown hK.1 hP hD hS 0 rfl rfl 1 (by decide) (ht (Cond.fieldLink RX8 9 "PloughDepot$Table" "size" "I") mw_4_2) (fun _ h9 => h9) rfl (tyX8_ok 1 (by decide)) rfl rfl (Nat.le_of_ble_eq_true rfl) dX8_init_6 (fun H locs hP hD hS => ?_)
  have hP : va_P G.1 vwCl ([(tb, .inr (8, [.null, .int 0]))] ++ va_pl L fp) H := hP
  have hD : va_D A ([(tb, .inr (8, [.null, .int 0]))] ++ va_pl L fp) := hD
  refine lv_aload_n hx hb dX8_init_9 rfl (lv_at hl 0 rfl) ?_
  refine lv_iload_n hx hb dX8_init_10 rfl (lv_at hl 1 rfl) ?_
  refine lv_iload_n hx hb dX8_init_11 rfl (lv_at hl 2 rfl) ?_
  refine ns_mna (X := [(tb, .inr (8, [.null, .int 0]))]) hx hb hown (ht (Cond.classLink RX8 15 "[[I") mw_4_3) (ht (Cond.arrayClass .int) mw_2_13) hK hRo hP hD hS hA (by decide) (by decide) (N' := 9) (by decide) (K' := 16) (by decide) (by decide) (by decide) (by decide) (Nat.le_of_ble_eq_true rfl) (Nat.le_of_ble_eq_true rfl) dX8_init_12 (fun q_1 g_2 L_3 fp_4 H hRo hsb_5 hg_6 hP hD hS => ?_)
  have hsub := fun (a9 : Nat) h => hsb_5 a9 (hsub a9 h)
  have hP : va_P G.1 vwCl ([(tb, .inr (8, [.null, .int 0])), (q_1, .inl (G.2 5, 9, .inr (.inr (.inr (.inr g_2)))))] ++ va_pl L_3 fp_4) H := hP
  have hD : va_D A ([(tb, .inr (8, [.null, .int 0])), (q_1, .inl (G.2 5, 9, .inr (.inr (.inr (.inr g_2)))))] ++ va_pl L_3 fp_4) := hD
  refine W.widen (k := 10) (n := 153) (by omega) (by omega) ?_
  refine va_putF (D := G.1) (ci := 8) (v := .ref q_1) (ty := tyX8 0) (C := RX8) (T := TX8) (N := 2) hx hb ht inlX8 tyX8 tyX8_ok nmX8 hown hK.1 hP hD hS 0 rfl rfl 0 (by decide) (ht (Cond.fieldLink RX8 17 "PloughDepot$Table" "cells" "[[I") mw_4_4) (fun _ h9 => h9) rfl hin rfl (tyX8_ok 0 (by decide)) rfl rfl (Nat.le_of_ble_eq_true rfl) dX8_init_16 (fun H locs hP hD hS => ?_)
  have hP : va_P G.1 vwCl ([(tb, .inr (8, [.ref q_1, .int 0])), (q_1, .inl (G.2 5, 9, .inr (.inr (.inr (.inr g_2)))))] ++ va_pl L_3 fp_4) H := hP
  have hD : va_D A ([(tb, .inr (8, [.ref q_1, .int 0])), (q_1, .inl (G.2 5, 9, .inr (.inr (.inr (.inr g_2)))))] ++ va_pl L_3 fp_4) := hD
  have hP9 := va_P.part (X := [(tb, .inr (8, [.ref q_1, .int 0])), (q_1, .inl (G.2 5, 9, .inr (.inr (.inr (.inr g_2)))))]) (cx := [(tb, .inr (8, [.ref q_1, .int 0])), (q_1, .inl (G.2 5, 9, .inr (.inr (.inr (.inr g_2)))))]) hP [0, 1] rfl
  have hD9 := va_D.part (X := [(tb, .inr (8, [.ref q_1, .int 0])), (q_1, .inl (G.2 5, 9, .inr (.inr (.inr (.inr g_2)))))]) (cx := [(tb, .inr (8, [.ref q_1, .int 0])), (q_1, .inl (G.2 5, 9, .inr (.inr (.inr (.inr g_2)))))]) hD [0, 1] (by decide) rfl
  exact W.vret hx hb hr (fun t ht hW => ⟨⟨(q_1, g_2, L_3, fp_4), rfl, ⟨hRo, hsub, hg_6⟩, ⟨by rw [ht]; exact hP9, hD9⟩⟩, hS.F ht⟩) hS.2.2 dX8_init_19

set_option maxHeartbeats 4000000 in
set_option maxRecDepth 100000 in
theorem k_tinit_3_4 (l : Launch) (G : GG) (sz : Nat) (tb : Nat) (L : List Nat) (fp : Nat → va_E) (hRo : Ro G L fp) : Met l yX8_init (.code yX8_init cX8_init 3 none :: TT) ({ frames := 1, cells := 4, slots := 15, locals := 100 } : Room) (c0_P G [.ref tb, .int 3, .int 4] sz ([(tb, .inr (8, [.null, .int 0]))] ++ va_pl L fp)) (va_Qv (S := Nat × (Nat → Option Nat) × (List Nat) × (Nat → va_E)) (fun (u : Nat × (Nat → Option Nat) × (List Nat) × (Nat → va_E)) => Ro G u.2.2.1 u.2.2.2 ∧ (∀ a9, a9 ∈ L → a9 ∈ u.2.2.1) ∧ Gr u.2.2.1 u.2.1 3) (fun (u : Nat × (Nat → Option Nat) × (List Nat) × (Nat → va_E)) (t : State) => c0_B G (va_A ([(tb, .inr (8, [.null, .int 0]))] ++ va_pl L fp) sz) ([(tb, .inr (8, [.ref u.1, .int 0])), (u.1, .inl (G.2 5, 3, .inr (.inr (.inr (.inr u.2.1)))))] ++ va_pl u.2.2.1 u.2.2.2) t) (va_A ([(tb, .inr (8, [.null, .int 0]))] ++ va_pl L fp) sz)) 4 15 (va_A ([(tb, .inr (8, [.null, .int 0]))] ++ va_pl L fp) sz) := by
  refine Met.ofW (cc := cX8_init) (maxL := 3) (ret := none) (by decide) rfl ?_
  intro p e s m args below meth c s₁ B hml hv
  obtain ⟨rfl, hsz, hP, hK, hD0⟩ := hv
  have hx := B.exec
  have hb := B.bytes
  have hr := B.returns
  have hts := atoms_spec (ws := .code yX8_init cX8_init 3 none :: TT) B.pre
  have ht := fun (w : Cond) (h : w ∈ TT) => hts w (List.mem_cons_of_mem _ h)
  have hown : s.vm.findClass RX8 = some m.cls := findClass_of_methodNamed B.named
  have hlocks := B.notSynchronized
  have hin : meth.name = "<init>" := (name_of_methodNamed B.named B.method).1
  subst hsz
  have hD := hD0.self (sz := s.heap.size)
  generalize hAe : va_A ([(tb, .inr (8, [.null, .int 0]))] ++ va_pl L fp) s.heap.size = A at hD ⊢
  have hA : ∀ q : Nat, s.heap.size ≤ q → A q := fun q h => by rw [← hAe]; exact Or.inr h
  have hS : va_S A s.heap s.heap [] := va_S.rf
  have hP : va_P G.1 vwCl ([(tb, .inr (8, [.null, .int 0]))] ++ va_pl L fp) s.heap := hP
  have hl := lv_entry ([.ref tb, .int 3, .int 4]) (n := 3) (Nat.le_of_ble_eq_true rfl)
  rw [lg_entry_eq]
  generalize (lg_sl ([.ref tb, .int 3, .int 4]) ++ List.replicate (3 - (lg_sl ([.ref tb, .int 3, .int 4])).length) Slot.unset).toArray = ls at hl ⊢
  have hl : lv_has ls 3 [(0, .ref tb), (1, .int 3), (2, .int 4)] := hl
  have hsub : ∀ a9, a9 ∈ L → a9 ∈ L := fun _ h => h
  refine lv_aload_n hx hb dX8_init_0 rfl (lv_at hl 0 rfl) ?_
  refine W.objInit hx hb hown (ht (Cond.methodLink RX8 3 objectInit) mw_4_1) (ht (Cond.instanceMethod objectInit) mw_1_10) (ht (Cond.code objectInit ⟨#[0xb1]⟩ 1 none) mw_1_11) rfl (by rw [hml]; exact hl.1) rfl dX8_init_1 (Nat.le_of_ble_eq_true rfl) (Nat.le_of_ble_eq_true rfl) ?_
  refine W.eq (g2 := F0 m 4 ls []) rfl ?_
  refine lv_aload_n hx hb dX8_init_4 rfl (lv_at hl 0 rfl) ?_
  refine lv_iconst (v := 0) hx hb dX8_init_5 (by decide) ?_
  refine va_put (D := G.1) (ci := 8) (v := .int 0) (ty := tyX8 1) (C := RX8) (T := TX8) (N := 2) hx hb ht inlX8 tyX8 tyX8_ok nmX8 hown hK.1 hP hD hS 0 rfl rfl 1 (by decide) (ht (Cond.fieldLink RX8 9 "PloughDepot$Table" "size" "I") mw_4_2) (fun _ h9 => h9) rfl (tyX8_ok 1 (by decide)) rfl rfl (Nat.le_of_ble_eq_true rfl) dX8_init_6 (fun H locs hP hD hS => ?_)
  have hP : va_P G.1 vwCl ([(tb, .inr (8, [.null, .int 0]))] ++ va_pl L fp) H := hP
  have hD : va_D A ([(tb, .inr (8, [.null, .int 0]))] ++ va_pl L fp) := hD
  refine lv_aload_n hx hb dX8_init_9 rfl (lv_at hl 0 rfl) ?_
  refine lv_iload_n hx hb dX8_init_10 rfl (lv_at hl 1 rfl) ?_
  refine lv_iload_n hx hb dX8_init_11 rfl (lv_at hl 2 rfl) ?_
  refine ns_mna (X := [(tb, .inr (8, [.null, .int 0]))]) hx hb hown (ht (Cond.classLink RX8 15 "[[I") mw_4_3) (ht (Cond.arrayClass .int) mw_2_13) hK hRo hP hD hS hA (by decide) (by decide) (N' := 3) (by decide) (K' := 4) (by decide) (by decide) (by decide) (by decide) (Nat.le_of_ble_eq_true rfl) (Nat.le_of_ble_eq_true rfl) dX8_init_12 (fun q_1 g_2 L_3 fp_4 H hRo hsb_5 hg_6 hP hD hS => ?_)
  have hsub := fun (a9 : Nat) h => hsb_5 a9 (hsub a9 h)
  have hP : va_P G.1 vwCl ([(tb, .inr (8, [.null, .int 0])), (q_1, .inl (G.2 5, 3, .inr (.inr (.inr (.inr g_2)))))] ++ va_pl L_3 fp_4) H := hP
  have hD : va_D A ([(tb, .inr (8, [.null, .int 0])), (q_1, .inl (G.2 5, 3, .inr (.inr (.inr (.inr g_2)))))] ++ va_pl L_3 fp_4) := hD
  refine W.widen (k := 4) (n := 15) (by omega) (by omega) ?_
  refine va_putF (D := G.1) (ci := 8) (v := .ref q_1) (ty := tyX8 0) (C := RX8) (T := TX8) (N := 2) hx hb ht inlX8 tyX8 tyX8_ok nmX8 hown hK.1 hP hD hS 0 rfl rfl 0 (by decide) (ht (Cond.fieldLink RX8 17 "PloughDepot$Table" "cells" "[[I") mw_4_4) (fun _ h9 => h9) rfl hin rfl (tyX8_ok 0 (by decide)) rfl rfl (Nat.le_of_ble_eq_true rfl) dX8_init_16 (fun H locs hP hD hS => ?_)
  have hP : va_P G.1 vwCl ([(tb, .inr (8, [.ref q_1, .int 0])), (q_1, .inl (G.2 5, 3, .inr (.inr (.inr (.inr g_2)))))] ++ va_pl L_3 fp_4) H := hP
  have hD : va_D A ([(tb, .inr (8, [.ref q_1, .int 0])), (q_1, .inl (G.2 5, 3, .inr (.inr (.inr (.inr g_2)))))] ++ va_pl L_3 fp_4) := hD
  have hP9 := va_P.part (X := [(tb, .inr (8, [.ref q_1, .int 0])), (q_1, .inl (G.2 5, 3, .inr (.inr (.inr (.inr g_2)))))]) (cx := [(tb, .inr (8, [.ref q_1, .int 0])), (q_1, .inl (G.2 5, 3, .inr (.inr (.inr (.inr g_2)))))]) hP [0, 1] rfl
  have hD9 := va_D.part (X := [(tb, .inr (8, [.ref q_1, .int 0])), (q_1, .inl (G.2 5, 3, .inr (.inr (.inr (.inr g_2)))))]) (cx := [(tb, .inr (8, [.ref q_1, .int 0])), (q_1, .inl (G.2 5, 3, .inr (.inr (.inr (.inr g_2)))))]) hD [0, 1] (by decide) rfl
  exact W.vret hx hb hr (fun t ht hW => ⟨⟨(q_1, g_2, L_3, fp_4), rfl, ⟨hRo, hsub, hg_6⟩, ⟨by rw [ht]; exact hP9, hD9⟩⟩, hS.F ht⟩) hS.2.2 dX8_init_19

set_option maxHeartbeats 4000000 in
set_option maxRecDepth 100000 in
theorem k_tinit_9_4 (l : Launch) (G : GG) (sz : Nat) (tb : Nat) (L : List Nat) (fp : Nat → va_E) (hRo : Ro G L fp) : Met l yX8_init (.code yX8_init cX8_init 3 none :: TT) ({ frames := 1, cells := 10, slots := 45, locals := 100 } : Room) (c0_P G [.ref tb, .int 9, .int 4] sz ([(tb, .inr (8, [.null, .int 0]))] ++ va_pl L fp)) (va_Qv (S := Nat × (Nat → Option Nat) × (List Nat) × (Nat → va_E)) (fun (u : Nat × (Nat → Option Nat) × (List Nat) × (Nat → va_E)) => Ro G u.2.2.1 u.2.2.2 ∧ (∀ a9, a9 ∈ L → a9 ∈ u.2.2.1) ∧ Gr u.2.2.1 u.2.1 9) (fun (u : Nat × (Nat → Option Nat) × (List Nat) × (Nat → va_E)) (t : State) => c0_B G (va_A ([(tb, .inr (8, [.null, .int 0]))] ++ va_pl L fp) sz) ([(tb, .inr (8, [.ref u.1, .int 0])), (u.1, .inl (G.2 5, 9, .inr (.inr (.inr (.inr u.2.1)))))] ++ va_pl u.2.2.1 u.2.2.2) t) (va_A ([(tb, .inr (8, [.null, .int 0]))] ++ va_pl L fp) sz)) 10 45 (va_A ([(tb, .inr (8, [.null, .int 0]))] ++ va_pl L fp) sz) := by
  refine Met.ofW (cc := cX8_init) (maxL := 3) (ret := none) (by decide) rfl ?_
  intro p e s m args below meth c s₁ B hml hv
  obtain ⟨rfl, hsz, hP, hK, hD0⟩ := hv
  have hx := B.exec
  have hb := B.bytes
  have hr := B.returns
  have hts := atoms_spec (ws := .code yX8_init cX8_init 3 none :: TT) B.pre
  have ht := fun (w : Cond) (h : w ∈ TT) => hts w (List.mem_cons_of_mem _ h)
  have hown : s.vm.findClass RX8 = some m.cls := findClass_of_methodNamed B.named
  have hlocks := B.notSynchronized
  have hin : meth.name = "<init>" := (name_of_methodNamed B.named B.method).1
  subst hsz
  have hD := hD0.self (sz := s.heap.size)
  generalize hAe : va_A ([(tb, .inr (8, [.null, .int 0]))] ++ va_pl L fp) s.heap.size = A at hD ⊢
  have hA : ∀ q : Nat, s.heap.size ≤ q → A q := fun q h => by rw [← hAe]; exact Or.inr h
  have hS : va_S A s.heap s.heap [] := va_S.rf
  have hP : va_P G.1 vwCl ([(tb, .inr (8, [.null, .int 0]))] ++ va_pl L fp) s.heap := hP
  have hl := lv_entry ([.ref tb, .int 9, .int 4]) (n := 3) (Nat.le_of_ble_eq_true rfl)
  rw [lg_entry_eq]
  generalize (lg_sl ([.ref tb, .int 9, .int 4]) ++ List.replicate (3 - (lg_sl ([.ref tb, .int 9, .int 4])).length) Slot.unset).toArray = ls at hl ⊢
  have hl : lv_has ls 3 [(0, .ref tb), (1, .int 9), (2, .int 4)] := hl
  have hsub : ∀ a9, a9 ∈ L → a9 ∈ L := fun _ h => h
  refine lv_aload_n hx hb dX8_init_0 rfl (lv_at hl 0 rfl) ?_
  refine W.objInit hx hb hown (ht (Cond.methodLink RX8 3 objectInit) mw_4_1) (ht (Cond.instanceMethod objectInit) mw_1_10) (ht (Cond.code objectInit ⟨#[0xb1]⟩ 1 none) mw_1_11) rfl (by rw [hml]; exact hl.1) rfl dX8_init_1 (Nat.le_of_ble_eq_true rfl) (Nat.le_of_ble_eq_true rfl) ?_
  refine W.eq (g2 := F0 m 4 ls []) rfl ?_
  refine lv_aload_n hx hb dX8_init_4 rfl (lv_at hl 0 rfl) ?_
  refine lv_iconst (v := 0) hx hb dX8_init_5 (by decide) ?_
  refine va_put (D := G.1) (ci := 8) (v := .int 0) (ty := tyX8 1) (C := RX8) (T := TX8) (N := 2) hx hb ht inlX8 tyX8 tyX8_ok nmX8 hown hK.1 hP hD hS 0 rfl rfl 1 (by decide) (ht (Cond.fieldLink RX8 9 "PloughDepot$Table" "size" "I") mw_4_2) (fun _ h9 => h9) rfl (tyX8_ok 1 (by decide)) rfl rfl (Nat.le_of_ble_eq_true rfl) dX8_init_6 (fun H locs hP hD hS => ?_)
  have hP : va_P G.1 vwCl ([(tb, .inr (8, [.null, .int 0]))] ++ va_pl L fp) H := hP
  have hD : va_D A ([(tb, .inr (8, [.null, .int 0]))] ++ va_pl L fp) := hD
  refine lv_aload_n hx hb dX8_init_9 rfl (lv_at hl 0 rfl) ?_
  refine lv_iload_n hx hb dX8_init_10 rfl (lv_at hl 1 rfl) ?_
  refine lv_iload_n hx hb dX8_init_11 rfl (lv_at hl 2 rfl) ?_
  refine ns_mna (X := [(tb, .inr (8, [.null, .int 0]))]) hx hb hown (ht (Cond.classLink RX8 15 "[[I") mw_4_3) (ht (Cond.arrayClass .int) mw_2_13) hK hRo hP hD hS hA (by decide) (by decide) (N' := 9) (by decide) (K' := 4) (by decide) (by decide) (by decide) (by decide) (Nat.le_of_ble_eq_true rfl) (Nat.le_of_ble_eq_true rfl) dX8_init_12 (fun q_1 g_2 L_3 fp_4 H hRo hsb_5 hg_6 hP hD hS => ?_)
  have hsub := fun (a9 : Nat) h => hsb_5 a9 (hsub a9 h)
  have hP : va_P G.1 vwCl ([(tb, .inr (8, [.null, .int 0])), (q_1, .inl (G.2 5, 9, .inr (.inr (.inr (.inr g_2)))))] ++ va_pl L_3 fp_4) H := hP
  have hD : va_D A ([(tb, .inr (8, [.null, .int 0])), (q_1, .inl (G.2 5, 9, .inr (.inr (.inr (.inr g_2)))))] ++ va_pl L_3 fp_4) := hD
  refine W.widen (k := 10) (n := 45) (by omega) (by omega) ?_
  refine va_putF (D := G.1) (ci := 8) (v := .ref q_1) (ty := tyX8 0) (C := RX8) (T := TX8) (N := 2) hx hb ht inlX8 tyX8 tyX8_ok nmX8 hown hK.1 hP hD hS 0 rfl rfl 0 (by decide) (ht (Cond.fieldLink RX8 17 "PloughDepot$Table" "cells" "[[I") mw_4_4) (fun _ h9 => h9) rfl hin rfl (tyX8_ok 0 (by decide)) rfl rfl (Nat.le_of_ble_eq_true rfl) dX8_init_16 (fun H locs hP hD hS => ?_)
  have hP : va_P G.1 vwCl ([(tb, .inr (8, [.ref q_1, .int 0])), (q_1, .inl (G.2 5, 9, .inr (.inr (.inr (.inr g_2)))))] ++ va_pl L_3 fp_4) H := hP
  have hD : va_D A ([(tb, .inr (8, [.ref q_1, .int 0])), (q_1, .inl (G.2 5, 9, .inr (.inr (.inr (.inr g_2)))))] ++ va_pl L_3 fp_4) := hD
  have hP9 := va_P.part (X := [(tb, .inr (8, [.ref q_1, .int 0])), (q_1, .inl (G.2 5, 9, .inr (.inr (.inr (.inr g_2)))))]) (cx := [(tb, .inr (8, [.ref q_1, .int 0])), (q_1, .inl (G.2 5, 9, .inr (.inr (.inr (.inr g_2)))))]) hP [0, 1] rfl
  have hD9 := va_D.part (X := [(tb, .inr (8, [.ref q_1, .int 0])), (q_1, .inl (G.2 5, 9, .inr (.inr (.inr (.inr g_2)))))]) (cx := [(tb, .inr (8, [.ref q_1, .int 0])), (q_1, .inl (G.2 5, 9, .inr (.inr (.inr (.inr g_2)))))]) hD [0, 1] (by decide) rfl
  exact W.vret hx hb hr (fun t ht hW => ⟨⟨(q_1, g_2, L_3, fp_4), rfl, ⟨hRo, hsub, hg_6⟩, ⟨by rw [ht]; exact hP9, hD9⟩⟩, hS.F ht⟩) hS.2.2 dX8_init_19

set_option maxHeartbeats 4000000 in
set_option maxRecDepth 100000 in
theorem k_tinit_4_16 (l : Launch) (G : GG) (sz : Nat) (tb : Nat) (L : List Nat) (fp : Nat → va_E) (hRo : Ro G L fp) : Met l yX8_init (.code yX8_init cX8_init 3 none :: TT) ({ frames := 1, cells := 5, slots := 68, locals := 100 } : Room) (c0_P G [.ref tb, .int 4, .int 16] sz ([(tb, .inr (8, [.null, .int 0]))] ++ va_pl L fp)) (va_Qv (S := Nat × (Nat → Option Nat) × (List Nat) × (Nat → va_E)) (fun (u : Nat × (Nat → Option Nat) × (List Nat) × (Nat → va_E)) => Ro G u.2.2.1 u.2.2.2 ∧ (∀ a9, a9 ∈ L → a9 ∈ u.2.2.1) ∧ Gr u.2.2.1 u.2.1 4) (fun (u : Nat × (Nat → Option Nat) × (List Nat) × (Nat → va_E)) (t : State) => c0_B G (va_A ([(tb, .inr (8, [.null, .int 0]))] ++ va_pl L fp) sz) ([(tb, .inr (8, [.ref u.1, .int 0])), (u.1, .inl (G.2 5, 4, .inr (.inr (.inr (.inr u.2.1)))))] ++ va_pl u.2.2.1 u.2.2.2) t) (va_A ([(tb, .inr (8, [.null, .int 0]))] ++ va_pl L fp) sz)) 5 68 (va_A ([(tb, .inr (8, [.null, .int 0]))] ++ va_pl L fp) sz) := by
  refine Met.ofW (cc := cX8_init) (maxL := 3) (ret := none) (by decide) rfl ?_
  intro p e s m args below meth c s₁ B hml hv
  obtain ⟨rfl, hsz, hP, hK, hD0⟩ := hv
  have hx := B.exec
  have hb := B.bytes
  have hr := B.returns
  have hts := atoms_spec (ws := .code yX8_init cX8_init 3 none :: TT) B.pre
  have ht := fun (w : Cond) (h : w ∈ TT) => hts w (List.mem_cons_of_mem _ h)
  have hown : s.vm.findClass RX8 = some m.cls := findClass_of_methodNamed B.named
  have hlocks := B.notSynchronized
  have hin : meth.name = "<init>" := (name_of_methodNamed B.named B.method).1
  subst hsz
  have hD := hD0.self (sz := s.heap.size)
  generalize hAe : va_A ([(tb, .inr (8, [.null, .int 0]))] ++ va_pl L fp) s.heap.size = A at hD ⊢
  have hA : ∀ q : Nat, s.heap.size ≤ q → A q := fun q h => by rw [← hAe]; exact Or.inr h
  have hS : va_S A s.heap s.heap [] := va_S.rf
  have hP : va_P G.1 vwCl ([(tb, .inr (8, [.null, .int 0]))] ++ va_pl L fp) s.heap := hP
  have hl := lv_entry ([.ref tb, .int 4, .int 16]) (n := 3) (Nat.le_of_ble_eq_true rfl)
  rw [lg_entry_eq]
  generalize (lg_sl ([.ref tb, .int 4, .int 16]) ++ List.replicate (3 - (lg_sl ([.ref tb, .int 4, .int 16])).length) Slot.unset).toArray = ls at hl ⊢
  have hl : lv_has ls 3 [(0, .ref tb), (1, .int 4), (2, .int 16)] := hl
  have hsub : ∀ a9, a9 ∈ L → a9 ∈ L := fun _ h => h
  refine lv_aload_n hx hb dX8_init_0 rfl (lv_at hl 0 rfl) ?_
  refine W.objInit hx hb hown (ht (Cond.methodLink RX8 3 objectInit) mw_4_1) (ht (Cond.instanceMethod objectInit) mw_1_10) (ht (Cond.code objectInit ⟨#[0xb1]⟩ 1 none) mw_1_11) rfl (by rw [hml]; exact hl.1) rfl dX8_init_1 (Nat.le_of_ble_eq_true rfl) (Nat.le_of_ble_eq_true rfl) ?_
  refine W.eq (g2 := F0 m 4 ls []) rfl ?_
  refine lv_aload_n hx hb dX8_init_4 rfl (lv_at hl 0 rfl) ?_
  refine lv_iconst (v := 0) hx hb dX8_init_5 (by decide) ?_
  refine va_put (D := G.1) (ci := 8) (v := .int 0) (ty := tyX8 1) (C := RX8) (T := TX8) (N := 2) hx hb ht inlX8 tyX8 tyX8_ok nmX8 hown hK.1 hP hD hS 0 rfl rfl 1 (by decide) (ht (Cond.fieldLink RX8 9 "PloughDepot$Table" "size" "I") mw_4_2) (fun _ h9 => h9) rfl (tyX8_ok 1 (by decide)) rfl rfl (Nat.le_of_ble_eq_true rfl) dX8_init_6 (fun H locs hP hD hS => ?_)
  have hP : va_P G.1 vwCl ([(tb, .inr (8, [.null, .int 0]))] ++ va_pl L fp) H := hP
  have hD : va_D A ([(tb, .inr (8, [.null, .int 0]))] ++ va_pl L fp) := hD
  refine lv_aload_n hx hb dX8_init_9 rfl (lv_at hl 0 rfl) ?_
  refine lv_iload_n hx hb dX8_init_10 rfl (lv_at hl 1 rfl) ?_
  refine lv_iload_n hx hb dX8_init_11 rfl (lv_at hl 2 rfl) ?_
  refine ns_mna (X := [(tb, .inr (8, [.null, .int 0]))]) hx hb hown (ht (Cond.classLink RX8 15 "[[I") mw_4_3) (ht (Cond.arrayClass .int) mw_2_13) hK hRo hP hD hS hA (by decide) (by decide) (N' := 4) (by decide) (K' := 16) (by decide) (by decide) (by decide) (by decide) (Nat.le_of_ble_eq_true rfl) (Nat.le_of_ble_eq_true rfl) dX8_init_12 (fun q_1 g_2 L_3 fp_4 H hRo hsb_5 hg_6 hP hD hS => ?_)
  have hsub := fun (a9 : Nat) h => hsb_5 a9 (hsub a9 h)
  have hP : va_P G.1 vwCl ([(tb, .inr (8, [.null, .int 0])), (q_1, .inl (G.2 5, 4, .inr (.inr (.inr (.inr g_2)))))] ++ va_pl L_3 fp_4) H := hP
  have hD : va_D A ([(tb, .inr (8, [.null, .int 0])), (q_1, .inl (G.2 5, 4, .inr (.inr (.inr (.inr g_2)))))] ++ va_pl L_3 fp_4) := hD
  refine W.widen (k := 5) (n := 68) (by omega) (by omega) ?_
  refine va_putF (D := G.1) (ci := 8) (v := .ref q_1) (ty := tyX8 0) (C := RX8) (T := TX8) (N := 2) hx hb ht inlX8 tyX8 tyX8_ok nmX8 hown hK.1 hP hD hS 0 rfl rfl 0 (by decide) (ht (Cond.fieldLink RX8 17 "PloughDepot$Table" "cells" "[[I") mw_4_4) (fun _ h9 => h9) rfl hin rfl (tyX8_ok 0 (by decide)) rfl rfl (Nat.le_of_ble_eq_true rfl) dX8_init_16 (fun H locs hP hD hS => ?_)
  have hP : va_P G.1 vwCl ([(tb, .inr (8, [.ref q_1, .int 0])), (q_1, .inl (G.2 5, 4, .inr (.inr (.inr (.inr g_2)))))] ++ va_pl L_3 fp_4) H := hP
  have hD : va_D A ([(tb, .inr (8, [.ref q_1, .int 0])), (q_1, .inl (G.2 5, 4, .inr (.inr (.inr (.inr g_2)))))] ++ va_pl L_3 fp_4) := hD
  have hP9 := va_P.part (X := [(tb, .inr (8, [.ref q_1, .int 0])), (q_1, .inl (G.2 5, 4, .inr (.inr (.inr (.inr g_2)))))]) (cx := [(tb, .inr (8, [.ref q_1, .int 0])), (q_1, .inl (G.2 5, 4, .inr (.inr (.inr (.inr g_2)))))]) hP [0, 1] rfl
  have hD9 := va_D.part (X := [(tb, .inr (8, [.ref q_1, .int 0])), (q_1, .inl (G.2 5, 4, .inr (.inr (.inr (.inr g_2)))))]) (cx := [(tb, .inr (8, [.ref q_1, .int 0])), (q_1, .inl (G.2 5, 4, .inr (.inr (.inr (.inr g_2)))))]) hD [0, 1] (by decide) rfl
  exact W.vret hx hb hr (fun t ht hW => ⟨⟨(q_1, g_2, L_3, fp_4), rfl, ⟨hRo, hsub, hg_6⟩, ⟨by rw [ht]; exact hP9, hD9⟩⟩, hS.F ht⟩) hS.2.2 dX8_init_19

