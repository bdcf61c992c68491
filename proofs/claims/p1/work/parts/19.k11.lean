set_option maxHeartbeats 4000000 in
set_option maxRecDepth 100000 in
theorem j_fillJ0 (l : Launch) (G : GG) (sz : Nat) (ar : Nat) (an : Nat) (af : Nat → Int64) (hn : an < 2 ^ 20) (hf0 : ∀ j, af j = 0) : Met l yJ7_fill_d0a16 (.code yJ7_fill_d0a16 cJ7_fill_d0a16 5 none :: TT) ({ frames := 1, cells := 0, slots := 0, locals := 100 } : Room) (c0_P G [.ref ar, .long 0] sz ([(ar, .inl (G.2 1, an, .inr (.inl af)))])) (va_Qv (S := (Nat → Int64)) (fun (u : (Nat → Int64)) => ∀ j, u j = 0) (fun (u : (Nat → Int64)) (t : State) => c0_B G (va_A ([(ar, .inl (G.2 1, an, .inr (.inl af)))]) sz) ([(ar, .inl (G.2 1, an, .inr (.inl u)))]) t) (va_A ([(ar, .inl (G.2 1, an, .inr (.inl af)))]) sz)) 0 0 (va_A ([(ar, .inl (G.2 1, an, .inr (.inl af)))]) sz) := by
  refine va_MetF (cc := cJ7_fill_d0a16) (maxL := 5) (ret := none) (by decide) rfl ?_
  intro p e s m args below meth c s₁ B hml hv
  obtain ⟨rfl, hsz, hP, hK, hD0⟩ := hv
  have hx := B.exec
  have hb := B.bytes
  have hr := B.returns
  have hts := atoms_spec (ws := .code yJ7_fill_d0a16 cJ7_fill_d0a16 5 none :: TT) B.pre
  have ht := fun (w : Cond) (h : w ∈ TT) => hts w (List.mem_cons_of_mem _ h)
  have hown : s.vm.findClass RJ7 = some m.cls := findClass_of_methodNamed B.named
  have hlocks := B.notSynchronized
  subst hsz
  have hD := hD0.self (sz := s.heap.size)
  generalize hAe : va_A ([(ar, .inl (G.2 1, an, .inr (.inl af)))]) s.heap.size = A at hD ⊢
  have hA : ∀ q : Nat, s.heap.size ≤ q → A q := fun q h => by rw [← hAe]; exact Or.inr h
  have hS : va_S A s.heap s.heap [] := va_S.rf
  have hP : va_P G.1 vwCl ([(ar, .inl (G.2 1, an, .inr (.inl af)))]) s.heap := hP
  have hl := lv_entry ([.ref ar, .long 0]) (n := 5) (Nat.le_of_ble_eq_true rfl)
  rw [lg_entry_eq]
  generalize (lg_sl ([.ref ar, .long 0]) ++ List.replicate (5 - (lg_sl ([.ref ar, .long 0])).length) Slot.unset).toArray = ls at hl ⊢
  have hl : lv_has ls 5 [(0, .ref ar), (1, .long 0)] := hl
  refine lv_iconst (v := 0) hx hb dJ7_fill_d0a16_0 (by decide) ?_
  refine lv_istore_n (lv' := [(3, .int 0), (0, .ref ar), (1, .long 0)]) hx hb dJ7_fill_d0a16_1 rfl hl (by decide) rfl (fun ls hl => ?_)
  refine lv_aload_n hx hb dJ7_fill_d0a16_2 rfl (lv_at hl 1 rfl) ?_
  refine va_alen hx hb hK.1 hP 0 1 rfl rfl (v := nI an) rfl dJ7_fill_d0a16_3 ?_
  refine lv_istore (lv' := [(4, .int (nI an)), (3, .int 0), (0, .ref ar), (1, .long 0)]) hx hb dJ7_fill_d0a16_4 hl (by decide) rfl (fun ls hl => ?_)
  have lp_1 : ∀ (Q : State → Prop), (∀ (far_1 : Nat → Int64) (H : Heap) (locs : List Loc) (ls : Array Slot), (∀ j, far_1 j = 0) → va_P G.1 vwCl ([(ar, .inl (G.2 1, an, .inr (.inl far_1)))]) H → va_D A ([(ar, .inl (G.2 1, an, .inr (.inl far_1)))]) → va_S A s.heap H locs → lv_has ls 5 [(4, .int (nI an)), (0, .ref ar), (1, .long 0)] → W p l e (headSpec (.code yJ7_fill_d0a16 cJ7_fill_d0a16 5 none :: TT) ({ frames := 1, cells := 0, slots := 0, locals := 100 } : Room)).room s m [.ref ar, .long 0].toArray below meth c H locs 0 0 Q (F0 m 22 ls [])) → ∀ (n i : Nat) (x9 : Int32) (far_1 : Nat → Int64) (H : Heap) (locs : List Loc) (ls : Array Slot), i ≤ an → an + 1 ≤ i + n → x9 = nI i → (∀ j, far_1 j = 0) → va_P G.1 vwCl ([(ar, .inl (G.2 1, an, .inr (.inl far_1)))]) H → va_D A ([(ar, .inl (G.2 1, an, .inr (.inl far_1)))]) → va_S A s.heap H locs → lv_has ls 5 [(3, .int x9), (4, .int (nI an)), (0, .ref ar), (1, .long 0)] → W p l e (headSpec (.code yJ7_fill_d0a16 cJ7_fill_d0a16 5 none :: TT) ({ frames := 1, cells := 0, slots := 0, locals := 100 } : Room)).room s m [.ref ar, .long 0].toArray below meth c H locs 0 0 Q (F0 m 6 ls []) := by
    intro Q hex n
    induction n with
    | zero =>
      intro i x9 far_1 H locs ls h1 h2
      exact absurd h2 (by omega)
    | succ n ih =>
      intro i x9 far_1 H locs ls hi hin9 ex9 hf0 hP hD hS hl
      refine lv_iload_n hx hb dJ7_fill_d0a16_6 rfl (lv_at hl 0 rfl) ?_
      refine lv_iload hx hb dJ7_fill_d0a16_7 (lv_at hl 1 rfl) ?_
      refine lv_icmp_ge (tgt := 22) hx hb dJ7_fill_d0a16_9 (by decide) (fun c9 => ?_) (fun c9 => ?_)
      · have hiN : i = an := by
          rcases Nat.lt_or_ge i an with q | q
          · exact absurd c9 (by rw [ex9]; exact nI_ge q (by first | decide | omega))
          · omega
        exact hex far_1 H locs ls hf0 hP hD hS (lv_sub hl [1, 2, 3] rfl)
      · have hlt : i < an := by
          rcases Nat.lt_or_ge i an with q | q
          · exact q
          · exact absurd (by rw [ex9]; exact nI_le q (by omega)) c9
        have hin_ar : vp_in x9 an := by rw [ex9]; exact vp_in_nI (by omega) (by first | decide | omega)
        refine lv_aload_n hx hb dJ7_fill_d0a16_12 rfl (lv_at hl 2 rfl) ?_
        refine lv_iload_n hx hb dJ7_fill_d0a16_13 rfl (lv_at hl 0 rfl) ?_
        refine lv_lload_n hx hb dJ7_fill_d0a16_14 rfl (lv_at hl 3 rfl) ?_
        refine va_last hx hb hK.1 hP hD hS 0 1 rfl rfl hin_ar dJ7_fill_d0a16_15 (fun H locs hP hD hS => ?_)
        have hP : va_P G.1 vwCl ([(ar, .inl (G.2 1, an, .inr (.inl (vp_updL far_1 (x9 : Int32).toNatClampNeg 0))))]) H := hP
        have hD : va_D A ([(ar, .inl (G.2 1, an, .inr (.inl (vp_updL far_1 (x9 : Int32).toNatClampNeg 0))))]) := hD
        have hf0 : ∀ j, (vp_updL far_1 (x9 : Int32).toNatClampNeg 0) j = 0 := fun j => by unfold vp_updL; split <;> first | rfl | exact hf0 j
        generalize vp_updL far_1 (x9 : Int32).toNatClampNeg 0 = f_2 at hP hD hf0
        obtain ⟨v_3, ev_3⟩ : ∃ y : Int32, y = x9 + 1 := ⟨_, rfl⟩
        refine lv_iinc (v := v_3) (lv' := [(3, .int v_3), (4, .int (nI an)), (0, .ref ar), (1, .long 0)]) hx hb dJ7_fill_d0a16_16 hl (k := 0) rfl (by rw [ev_3]; rfl) (by decide) rfl (fun ls hl => ?_)
        refine lv_goto (tgt := 6) hx hb dJ7_fill_d0a16_19 (by decide) ?_
        exact ih (i + 1) _ f_2 _ _ _ (by omega) (by omega) (by rw [ev_3, ex9]; exact nI_1 i) hf0 hP hD hS (lv_sub hl [0, 1, 2, 3] rfl)
  refine lp_1 _ ?_ (an + 1) 0 0 af _ _ _ (by omega) (by omega) nI_0.symm hf0 hP hD hS (lv_sub hl [1, 0, 2, 3] rfl)
  intro far_1 H locs ls hf0 hP hD hS hl
  have hP9 := hP.sub (ws' := [(ar, .inl (G.2 1, an, .inr (.inl far_1)))]) [0] rfl
  have hD9 := hD.sub (ws' := [(ar, .inl (G.2 1, an, .inr (.inl far_1)))]) [0] (by decide) rfl
  exact W.vret hx hb hr (fun t ht hW => ⟨⟨far_1, rfl, hf0, ⟨by rw [ht]; exact hP9, hD9⟩⟩, hS.F ht⟩) hS.2.2 dJ7_fill_d0a16_22

set_option maxHeartbeats 4000000 in
set_option maxRecDepth 100000 in
theorem j_bc0 (l : Launch) (G : GG) (sz : Nat)   : Met l yJ13_bitCount_95d88 (.code yJ13_bitCount_95d88 cJ13_bitCount_95d88 2 (some .int) :: TT) ({ frames := 1, cells := 0, slots := 0, locals := 100 } : Room) (c0_P G [.long 0] sz ([])) (va_Qi (S := Unit) (fun (r : Int32) (u : Unit) => r = 0) (fun (u : Unit) (t : State) => c0_B G (va_A ([]) sz) ([]) t) (va_A ([]) sz)) 0 0 (va_A ([]) sz) := by
  refine va_MetF (cc := cJ13_bitCount_95d88) (maxL := 2) (ret := (some .int)) (by decide) rfl ?_
  intro p e s m args below meth c s₁ B hml hv
  obtain ⟨rfl, hsz, hP, hK, hD0⟩ := hv
  have hx := B.exec
  have hb := B.bytes
  have hr := B.returns
  have hts := atoms_spec (ws := .code yJ13_bitCount_95d88 cJ13_bitCount_95d88 2 (some .int) :: TT) B.pre
  have ht := fun (w : Cond) (h : w ∈ TT) => hts w (List.mem_cons_of_mem _ h)
  have hown : s.vm.findClass RJ13 = some m.cls := findClass_of_methodNamed B.named
  have hlocks := B.notSynchronized
  subst hsz
  have hD := hD0.self (sz := s.heap.size)
  generalize hAe : va_A ([]) s.heap.size = A at hD ⊢
  have hA : ∀ q : Nat, s.heap.size ≤ q → A q := fun q h => by rw [← hAe]; exact Or.inr h
  have hS : va_S A s.heap s.heap [] := va_S.rf
  have hP : va_P G.1 vwCl ([]) s.heap := hP
  have hl := lv_entry ([.long 0]) (n := 2) (Nat.le_of_ble_eq_true rfl)
  rw [lg_entry_eq]
  generalize (lg_sl ([.long 0]) ++ List.replicate (2 - (lg_sl ([.long 0])).length) Slot.unset).toArray = ls at hl ⊢
  have hl : lv_has ls 2 [(0, .long 0)] := hl
  refine lv_lload_n hx hb dJ13_bitCount_95d88_0 rfl (lv_at hl 0 rfl) ?_
  refine lv_lload_n hx hb dJ13_bitCount_95d88_1 rfl (lv_at hl 0 rfl) ?_
  refine lv_iconst (v := 1) hx hb dJ13_bitCount_95d88_2 (by decide) ?_
  refine lv_lushr hx hb dJ13_bitCount_95d88_3 rfl ?_
  refine lv_topl (fun v_1 ev_1 => ?_)
  obtain rfl : v_1 = 0 := ev_1.trans (by decide)
  refine lv_ldc2 hx hb hown (ht (Cond.constantLong RJ13 314 (6148914691236517205)) mw_17_8) dJ13_bitCount_95d88_4 ?_
  refine lv_land hx hb dJ13_bitCount_95d88_7 ?_
  refine lv_topl (fun v_2 ev_2 => ?_)
  obtain rfl : v_2 = 0 := ev_2.trans (by decide)
  refine lv_lsub hx hb dJ13_bitCount_95d88_8 ?_
  refine lv_topl (fun v_3 ev_3 => ?_)
  obtain rfl : v_3 = 0 := ev_3.trans (by decide)
  refine lv_lstore_n (lv' := [(0, .long 0)]) hx hb dJ13_bitCount_95d88_9 rfl hl (by decide) rfl (fun ls hl => ?_)
  refine lv_lload_n hx hb dJ13_bitCount_95d88_10 rfl (lv_at hl 0 rfl) ?_
  refine lv_ldc2 hx hb hown (ht (Cond.constantLong RJ13 316 (3689348814741910323)) mw_17_9) dJ13_bitCount_95d88_11 ?_
  refine lv_land hx hb dJ13_bitCount_95d88_14 ?_
  refine lv_topl (fun v_4 ev_4 => ?_)
  obtain rfl : v_4 = 0 := ev_4.trans (by decide)
  refine lv_lload_n hx hb dJ13_bitCount_95d88_15 rfl (lv_at hl 0 rfl) ?_
  refine lv_iconst (v := 2) hx hb dJ13_bitCount_95d88_16 (by decide) ?_
  refine lv_lushr hx hb dJ13_bitCount_95d88_17 rfl ?_
  refine lv_topl (fun v_5 ev_5 => ?_)
  obtain rfl : v_5 = 0 := ev_5.trans (by decide)
  refine lv_ldc2 hx hb hown (ht (Cond.constantLong RJ13 316 (3689348814741910323)) mw_17_9) dJ13_bitCount_95d88_18 ?_
  refine lv_land hx hb dJ13_bitCount_95d88_21 ?_
  refine lv_topl (fun v_6 ev_6 => ?_)
  obtain rfl : v_6 = 0 := ev_6.trans (by decide)
  refine lv_ladd hx hb dJ13_bitCount_95d88_22 ?_
  refine lv_topl (fun v_7 ev_7 => ?_)
  obtain rfl : v_7 = 0 := ev_7.trans (by decide)
  refine lv_lstore_n (lv' := [(0, .long 0)]) hx hb dJ13_bitCount_95d88_23 rfl hl (by decide) rfl (fun ls hl => ?_)
  refine lv_lload_n hx hb dJ13_bitCount_95d88_24 rfl (lv_at hl 0 rfl) ?_
  refine lv_lload_n hx hb dJ13_bitCount_95d88_25 rfl (lv_at hl 0 rfl) ?_
  refine lv_iconst (v := 4) hx hb dJ13_bitCount_95d88_26 (by decide) ?_
  refine lv_lushr hx hb dJ13_bitCount_95d88_27 rfl ?_
  refine lv_topl (fun v_8 ev_8 => ?_)
  obtain rfl : v_8 = 0 := ev_8.trans (by decide)
  refine lv_ladd hx hb dJ13_bitCount_95d88_28 ?_
  refine lv_topl (fun v_9 ev_9 => ?_)
  obtain rfl : v_9 = 0 := ev_9.trans (by decide)
  refine lv_ldc2 hx hb hown (ht (Cond.constantLong RJ13 318 (1085102592571150095)) mw_17_10) dJ13_bitCount_95d88_29 ?_
  refine lv_land hx hb dJ13_bitCount_95d88_32 ?_
  refine lv_topl (fun v_10 ev_10 => ?_)
  obtain rfl : v_10 = 0 := ev_10.trans (by decide)
  refine lv_lstore_n (lv' := [(0, .long 0)]) hx hb dJ13_bitCount_95d88_33 rfl hl (by decide) rfl (fun ls hl => ?_)
  refine lv_lload_n hx hb dJ13_bitCount_95d88_34 rfl (lv_at hl 0 rfl) ?_
  refine lv_lload_n hx hb dJ13_bitCount_95d88_35 rfl (lv_at hl 0 rfl) ?_
  refine lv_bipush (v := 8) hx hb dJ13_bitCount_95d88_36 (by decide) ?_
  refine lv_lushr hx hb dJ13_bitCount_95d88_38 rfl ?_
  refine lv_topl (fun v_11 ev_11 => ?_)
  obtain rfl : v_11 = 0 := ev_11.trans (by decide)
  refine lv_ladd hx hb dJ13_bitCount_95d88_39 ?_
  refine lv_topl (fun v_12 ev_12 => ?_)
  obtain rfl : v_12 = 0 := ev_12.trans (by decide)
  refine lv_lstore_n (lv' := [(0, .long 0)]) hx hb dJ13_bitCount_95d88_40 rfl hl (by decide) rfl (fun ls hl => ?_)
  refine lv_lload_n hx hb dJ13_bitCount_95d88_41 rfl (lv_at hl 0 rfl) ?_
  refine lv_lload_n hx hb dJ13_bitCount_95d88_42 rfl (lv_at hl 0 rfl) ?_
  refine lv_bipush (v := 16) hx hb dJ13_bitCount_95d88_43 (by decide) ?_
  refine lv_lushr hx hb dJ13_bitCount_95d88_45 rfl ?_
  refine lv_topl (fun v_13 ev_13 => ?_)
  obtain rfl : v_13 = 0 := ev_13.trans (by decide)
  refine lv_ladd hx hb dJ13_bitCount_95d88_46 ?_
  refine lv_topl (fun v_14 ev_14 => ?_)
  obtain rfl : v_14 = 0 := ev_14.trans (by decide)
  refine lv_lstore_n (lv' := [(0, .long 0)]) hx hb dJ13_bitCount_95d88_47 rfl hl (by decide) rfl (fun ls hl => ?_)
  refine lv_lload_n hx hb dJ13_bitCount_95d88_48 rfl (lv_at hl 0 rfl) ?_
  refine lv_lload_n hx hb dJ13_bitCount_95d88_49 rfl (lv_at hl 0 rfl) ?_
  refine lv_bipush (v := 32) hx hb dJ13_bitCount_95d88_50 (by decide) ?_
  refine lv_lushr hx hb dJ13_bitCount_95d88_52 rfl ?_
  refine lv_topl (fun v_15 ev_15 => ?_)
  obtain rfl : v_15 = 0 := ev_15.trans (by decide)
  refine lv_ladd hx hb dJ13_bitCount_95d88_53 ?_
  refine lv_topl (fun v_16 ev_16 => ?_)
  obtain rfl : v_16 = 0 := ev_16.trans (by decide)
  refine lv_lstore_n (lv' := [(0, .long 0)]) hx hb dJ13_bitCount_95d88_54 rfl hl (by decide) rfl (fun ls hl => ?_)
  refine lv_lload_n hx hb dJ13_bitCount_95d88_55 rfl (lv_at hl 0 rfl) ?_
  refine lv_l2i (v := 0) hx hb dJ13_bitCount_95d88_56 (by decide) ?_
  refine lv_bipush (v := 127) hx hb dJ13_bitCount_95d88_57 (by decide) ?_
  refine lv_iand hx hb dJ13_bitCount_95d88_59 ?_
  refine lv_topi (fun v_17 ev_17 => ?_)
  obtain rfl : v_17 = 0 := ev_17.trans (by decide)
  have hP9 := hP.sub (ws' := []) [] rfl
  have hD9 := hD.sub (ws' := []) [] (by decide) rfl
  exact W.iret (v := 0) hx hb hr (fun t ht hW => ⟨⟨0, (), rfl, rfl, ⟨by rw [ht]; exact hP9, hD9⟩⟩, hS.F ht⟩) hS.2.2 dJ13_bitCount_95d88_60

set_option maxHeartbeats 4000000 in
set_option maxRecDepth 100000 in
theorem k_lowest1 (l : Launch) (G : GG) (sz : Nat)   : Met l yX11_lowest (.code yX11_lowest cX11_lowest 2 (some .int) :: TT) ({ frames := 2, cells := 0, slots := 0, locals := 200 } : Room) (c0_P G [.long 1] sz ([])) (va_Qi (S := Unit) (fun (r : Int32) (u : Unit) => r = 0) (fun (u : Unit) (t : State) => c0_B G (va_A ([]) sz) ([]) t) (va_A ([]) sz)) 0 0 (va_A ([]) sz) := by
  refine Met.ofW (cc := cX11_lowest) (maxL := 2) (ret := (some .int)) (by decide) rfl ?_
  intro p e s m args below meth c s₁ B hml hv
  obtain ⟨rfl, hsz, hP, hK, hD0⟩ := hv
  have hx := B.exec
  have hb := B.bytes
  have hr := B.returns
  have hts := atoms_spec (ws := .code yX11_lowest cX11_lowest 2 (some .int) :: TT) B.pre
  have ht := fun (w : Cond) (h : w ∈ TT) => hts w (List.mem_cons_of_mem _ h)
  have hown : s.vm.findClass RX11 = some m.cls := findClass_of_methodNamed B.named
  have hlocks := B.notSynchronized
  subst hsz
  have hD := hD0.self (sz := s.heap.size)
  generalize hAe : va_A ([]) s.heap.size = A at hD ⊢
  have hA : ∀ q : Nat, s.heap.size ≤ q → A q := fun q h => by rw [← hAe]; exact Or.inr h
  have hS : va_S A s.heap s.heap [] := va_S.rf
  have hP : va_P G.1 vwCl ([]) s.heap := hP
  have hl := lv_entry ([.long 1]) (n := 2) (Nat.le_of_ble_eq_true rfl)
  rw [lg_entry_eq]
  generalize (lg_sl ([.long 1]) ++ List.replicate (2 - (lg_sl ([.long 1])).length) Slot.unset).toArray = ls at hl ⊢
  have hl : lv_has ls 2 [(0, .long 1)] := hl
  refine lv_lload_n hx hb dX11_lowest_0 rfl (lv_at hl 0 rfl) ?_
  refine lv_lload_n hx hb dX11_lowest_1 rfl (lv_at hl 0 rfl) ?_
  refine lv_lneg hx hb dX11_lowest_2 ?_
  refine lv_topl (fun v_1 ev_1 => ?_)
  obtain rfl : v_1 = (-1) := ev_1.trans (by decide)
  refine lv_land hx hb dX11_lowest_3 ?_
  refine lv_topl (fun v_2 ev_2 => ?_)
  obtain rfl : v_2 = 1 := ev_2.trans (by decide)
  refine lv_lconst (v := 1) hx hb dX11_lowest_4 (by decide) ?_
  refine lv_lsub hx hb dX11_lowest_5 ?_
  refine lv_topl (fun v_3 ev_3 => ?_)
  obtain rfl : v_3 = 0 := ev_3.trans (by decide)
  have hPc := hP.sub (ws' := []) [] rfl
  have hDc := hD.sub (ws' := []) [] (by decide) rfl
  have hFc := va_free (wc := []) hD hS hA [] rfl
  refine va_calli (va_runS (As := [.long 0]) (rest := []) ⟨hx, hb, hml, hown, hts⟩ (j_bc0 l G _  ) (va_cwS 1 hts (gd_Y mw_17_4 mw_17_5 mw_17_6 mw_17_7) rfl rfl rfl yk_J13_bitCount_95d88 ⟨Nat.le_of_ble_eq_true rfl, Nat.le_of_ble_eq_true rfl⟩) (c0_pre hPc hK hDc) rfl rfl hl.1 rfl (lv_room (Nat.le_of_ble_eq_true rfl)) dX11_lowest_6 ⟨Nat.le_of_ble_eq_true rfl, Nat.le_of_ble_eq_true rfl⟩) hS (fun q _ h => hFc q h) hFc (fun r_4 u t H1 locs ht1 hvm hw hB hz1 hk1 hS => ?_)
  try dsimp only at hw hB
  have hr4 := hw
  obtain rfl := hr4.symm
  obtain ⟨hP1, hD1⟩ := hB
  rw [ht1] at hP1
  obtain ⟨hP, hD⟩ := va_join (wr := []) (w1 := []) hP hD [] [] rfl rfl (by decide) (by decide) hk1 hFc hP1 hD1
  generalize H1 = H at hP hS ⊢
  have hP : va_P G.1 vwCl ([]) H := hP
  have hD : va_D A ([]) := hD
  have hP9 := hP.sub (ws' := []) [] rfl
  have hD9 := hD.sub (ws' := []) [] (by decide) rfl
  exact W.iret (v := 0) hx hb hr (fun t ht hW => ⟨⟨0, (), rfl, rfl, ⟨by rw [ht]; exact hP9, hD9⟩⟩, hS.F ht⟩) hS.2.2 dX11_lowest_9

set_option maxHeartbeats 4000000 in
set_option maxRecDepth 100000 in
theorem k_begin (l : Launch) (G : GG) (sz : Nat) (pn : Nat) (nw : Nat) (wy : Nat) (pg : Nat) (pd : Nat) (pfa : Nat) (ppa : Nat) (s6 : Value) (s7 : Value) (s8 : Value) (s9 : Value) (s10 : Value) (nr : Nat) (s12 : Value) (pdc : Value) (pds : Value) (pff : Nat → Int32) (ppf : Nat → Int32) (n0 : Value) (nts : Nat) (nv : List Value) (ntsc : Value)  : Met l yX5_begin (.code yX5_begin cX5_begin 3 none :: TT) ({ frames := 2, cells := 0, slots := 0, locals := 200 } : Room) (c0_P G [.ref pn, .int 1] sz ([(pn, .inr (5, [.ref nw, .ref wy, .ref pg, .ref pd, .ref pfa, .ref ppa, s6, s7, s8, s9, s10, .ref nr, s12])), (pd, .inr (8, [pdc, pds])), (pfa, .inl (G.2 0, 7, .inl pff)), (ppa, .inl (G.2 0, 60, .inl ppf)), (nw, .inr (1, n0 :: .ref nts :: nv)), (nts, .inr (8, [ntsc, .int 0]))])) (va_Qv (S := (Nat → Int32) × (Nat → Int32)) (fun (u : (Nat → Int32) × (Nat → Int32)) => True) (fun (u : (Nat → Int32) × (Nat → Int32)) (t : State) => c0_B G (va_A ([(pn, .inr (5, [.ref nw, .ref wy, .ref pg, .ref pd, .ref pfa, .ref ppa, s6, s7, s8, s9, s10, .ref nr, s12])), (pd, .inr (8, [pdc, pds])), (pfa, .inl (G.2 0, 7, .inl pff)), (ppa, .inl (G.2 0, 60, .inl ppf)), (nw, .inr (1, n0 :: .ref nts :: nv)), (nts, .inr (8, [ntsc, .int 0]))]) sz) ([(pn, .inr (5, [.ref nw, .ref wy, .ref pg, .ref pd, .ref pfa, .ref ppa, s6, s7, .int 0, s9, s10, .ref nr, .int 0])), (pd, .inr (8, [pdc, .int 0])), (pfa, .inl (G.2 0, 7, .inl u.1)), (ppa, .inl (G.2 0, 60, .inl u.2)), (nw, .inr (1, n0 :: .ref nts :: nv)), (nts, .inr (8, [ntsc, .int 0]))]) t) (va_A ([(pn, .inr (5, [.ref nw, .ref wy, .ref pg, .ref pd, .ref pfa, .ref ppa, s6, s7, s8, s9, s10, .ref nr, s12])), (pd, .inr (8, [pdc, pds])), (pfa, .inl (G.2 0, 7, .inl pff)), (ppa, .inl (G.2 0, 60, .inl ppf)), (nw, .inr (1, n0 :: .ref nts :: nv)), (nts, .inr (8, [ntsc, .int 0]))]) sz)) 0 0 (va_A ([(pn, .inr (5, [.ref nw, .ref wy, .ref pg, .ref pd, .ref pfa, .ref ppa, s6, s7, s8, s9, s10, .ref nr, s12])), (pd, .inr (8, [pdc, pds])), (pfa, .inl (G.2 0, 7, .inl pff)), (ppa, .inl (G.2 0, 60, .inl ppf)), (nw, .inr (1, n0 :: .ref nts :: nv)), (nts, .inr (8, [ntsc, .int 0]))]) sz) := by
  refine Met.ofW (cc := cX5_begin) (maxL := 3) (ret := none) (by decide) rfl ?_
  intro p e s m args below meth c s₁ B hml hv
  obtain ⟨rfl, hsz, hP, hK, hD0⟩ := hv
  have hx := B.exec
  have hb := B.bytes
  have hr := B.returns
  have hts := atoms_spec (ws := .code yX5_begin cX5_begin 3 none :: TT) B.pre
  have ht := fun (w : Cond) (h : w ∈ TT) => hts w (List.mem_cons_of_mem _ h)
  have hown : s.vm.findClass RX5 = some m.cls := findClass_of_methodNamed B.named
  have hlocks := B.notSynchronized
  subst hsz
  have hD := hD0.self (sz := s.heap.size)
  generalize hAe : va_A ([(pn, .inr (5, [.ref nw, .ref wy, .ref pg, .ref pd, .ref pfa, .ref ppa, s6, s7, s8, s9, s10, .ref nr, s12])), (pd, .inr (8, [pdc, pds])), (pfa, .inl (G.2 0, 7, .inl pff)), (ppa, .inl (G.2 0, 60, .inl ppf)), (nw, .inr (1, n0 :: .ref nts :: nv)), (nts, .inr (8, [ntsc, .int 0]))]) s.heap.size = A at hD ⊢
  have hA : ∀ q : Nat, s.heap.size ≤ q → A q := fun q h => by rw [← hAe]; exact Or.inr h
  have hS : va_S A s.heap s.heap [] := va_S.rf
  have hP : va_P G.1 vwCl ([(pn, .inr (5, [.ref nw, .ref wy, .ref pg, .ref pd, .ref pfa, .ref ppa, s6, s7, s8, s9, s10, .ref nr, s12])), (pd, .inr (8, [pdc, pds])), (pfa, .inl (G.2 0, 7, .inl pff)), (ppa, .inl (G.2 0, 60, .inl ppf)), (nw, .inr (1, n0 :: .ref nts :: nv)), (nts, .inr (8, [ntsc, .int 0]))]) s.heap := hP
  have hl := lv_entry ([.ref pn, .int 1]) (n := 3) (Nat.le_of_ble_eq_true rfl)
  rw [lg_entry_eq]
  generalize (lg_sl ([.ref pn, .int 1]) ++ List.replicate (3 - (lg_sl ([.ref pn, .int 1])).length) Slot.unset).toArray = ls at hl ⊢
  have hl : lv_has ls 3 [(0, .ref pn), (1, .int 1)] := hl
  refine lv_aload_n hx hb dX5_begin_0 rfl (lv_at hl 0 rfl) ?_
  refine va_get (D := G.1) (ci := 5) (v := .ref pd) (C := RX5) (T := TX5) (N := 13) hx hb ht inlX5 hown hK.1 hP 0 rfl rfl 3 (by decide) (ht (Cond.fieldLink RX5 14 "PloughDepot$Planner" "drives" "LPloughDepot$Table;") mw_5_18) (fun _ h9 => h9) rfl dX5_begin_1 ?_
  refine lv_iconst (v := 0) hx hb dX5_begin_4 (by decide) ?_
  refine va_put (D := G.1) (ci := 8) (v := .int 0) (ty := tyX8 1) (C := RX8) (T := TX8) (N := 2) hx hb ht inlX8 tyX8 tyX8_ok nmX8 hown hK.1 hP hD hS 1 rfl rfl 1 (by decide) (ht (Cond.fieldLink RX5 62 "PloughDepot$Table" "size" "I") mw_43_16) (fun _ h9 => h9) rfl (tyX8_ok 1 (by decide)) rfl rfl (Nat.le_of_ble_eq_true rfl) dX5_begin_5 (fun H locs hP hD hS => ?_)
  have hP : va_P G.1 vwCl ([(pn, .inr (5, [.ref nw, .ref wy, .ref pg, .ref pd, .ref pfa, .ref ppa, s6, s7, s8, s9, s10, .ref nr, s12])), (pd, .inr (8, [pdc, .int 0])), (pfa, .inl (G.2 0, 7, .inl pff)), (ppa, .inl (G.2 0, 60, .inl ppf)), (nw, .inr (1, n0 :: .ref nts :: nv)), (nts, .inr (8, [ntsc, .int 0]))]) H := hP
  have hD : va_D A ([(pn, .inr (5, [.ref nw, .ref wy, .ref pg, .ref pd, .ref pfa, .ref ppa, s6, s7, s8, s9, s10, .ref nr, s12])), (pd, .inr (8, [pdc, .int 0])), (pfa, .inl (G.2 0, 7, .inl pff)), (ppa, .inl (G.2 0, 60, .inl ppf)), (nw, .inr (1, n0 :: .ref nts :: nv)), (nts, .inr (8, [ntsc, .int 0]))]) := hD
  refine lv_aload_n hx hb dX5_begin_8 rfl (lv_at hl 0 rfl) ?_
  refine lv_iconst (v := 0) hx hb dX5_begin_9 (by decide) ?_
  refine va_put (D := G.1) (ci := 5) (v := .int 0) (ty := tyX5 12) (C := RX5) (T := TX5) (N := 13) hx hb ht inlX5 tyX5 tyX5_ok nmX5 hown hK.1 hP hD hS 0 rfl rfl 12 (by decide) (ht (Cond.fieldLink RX5 47 "PloughDepot$Planner" "place" "I") mw_6_3) (fun _ h9 => h9) rfl (tyX5_ok 12 (by decide)) rfl rfl (Nat.le_of_ble_eq_true rfl) dX5_begin_10 (fun H locs hP hD hS => ?_)
  have hP : va_P G.1 vwCl ([(pn, .inr (5, [.ref nw, .ref wy, .ref pg, .ref pd, .ref pfa, .ref ppa, s6, s7, s8, s9, s10, .ref nr, .int 0])), (pd, .inr (8, [pdc, .int 0])), (pfa, .inl (G.2 0, 7, .inl pff)), (ppa, .inl (G.2 0, 60, .inl ppf)), (nw, .inr (1, n0 :: .ref nts :: nv)), (nts, .inr (8, [ntsc, .int 0]))]) H := hP
  have hD : va_D A ([(pn, .inr (5, [.ref nw, .ref wy, .ref pg, .ref pd, .ref pfa, .ref ppa, s6, s7, s8, s9, s10, .ref nr, .int 0])), (pd, .inr (8, [pdc, .int 0])), (pfa, .inl (G.2 0, 7, .inl pff)), (ppa, .inl (G.2 0, 60, .inl ppf)), (nw, .inr (1, n0 :: .ref nts :: nv)), (nts, .inr (8, [ntsc, .int 0]))]) := hD
  refine lv_aload_n hx hb dX5_begin_13 rfl (lv_at hl 0 rfl) ?_
  refine va_get (D := G.1) (ci := 5) (v := .ref pfa) (C := RX5) (T := TX5) (N := 13) hx hb ht inlX5 hown hK.1 hP 0 rfl rfl 4 (by decide) (ht (Cond.fieldLink RX5 20 "PloughDepot$Planner" "facts" "[I") mw_5_19) (fun _ h9 => h9) rfl dX5_begin_14 ?_
  refine lv_iconst (v := 0) hx hb dX5_begin_17 (by decide) ?_
  have hPc := hP.sub (ws' := [(pfa, .inl (G.2 0, 7, .inl pff))]) [2] rfl
  have hDc := hD.sub (ws' := [(pfa, .inl (G.2 0, 7, .inl pff))]) [2] (by decide) rfl
  have hFc := va_free (wc := [(pfa, .inl (G.2 0, 7, .inl pff))]) hD hS hA [2] rfl
  refine va_callv (va_runS (As := [.ref pfa, .int 0]) (rest := []) ⟨hx, hb, hml, hown, hts⟩ (j_fillI l G _ pfa 0 7 pff (by first | assumption | decide)) (va_cwS 2 hts (gd_Y mw_43_19 mw_4_6 mw_4_7 mw_4_8) rfl rfl rfl yk_J7_fill_53178 ⟨Nat.le_of_ble_eq_true rfl, Nat.le_of_ble_eq_true rfl⟩) (c0_pre hPc hK hDc) rfl rfl hl.1 rfl (lv_room (Nat.le_of_ble_eq_true rfl)) dX5_begin_18 ⟨Nat.le_of_ble_eq_true rfl, Nat.le_of_ble_eq_true rfl⟩) hS (fun q _ h => hFc q h) hFc (fun u t H1 locs ht1 hvm hw hB hz1 hk1 hS => ?_)
  obtain ⟨af2_1, rfl⟩ : ∃ z, z = u := ⟨_, rfl⟩
  try dsimp only at hw hB
  obtain ⟨hP1, hD1⟩ := hB
  rw [ht1] at hP1
  obtain ⟨hP, hD⟩ := va_join (wr := [(pn, .inr (5, [.ref nw, .ref wy, .ref pg, .ref pd, .ref pfa, .ref ppa, s6, s7, s8, s9, s10, .ref nr, .int 0])), (pd, .inr (8, [pdc, .int 0])), (ppa, .inl (G.2 0, 60, .inl ppf)), (nw, .inr (1, n0 :: .ref nts :: nv)), (nts, .inr (8, [ntsc, .int 0]))]) (w1 := [(pfa, .inl (G.2 0, 7, .inl af2_1))]) hP hD [2] [0, 1, 3, 4, 5] rfl rfl (by decide) (by decide) hk1 hFc hP1 hD1
  generalize H1 = H at hP hS ⊢
  have hP : va_P G.1 vwCl ([(pn, .inr (5, [.ref nw, .ref wy, .ref pg, .ref pd, .ref pfa, .ref ppa, s6, s7, s8, s9, s10, .ref nr, .int 0])), (pd, .inr (8, [pdc, .int 0])), (ppa, .inl (G.2 0, 60, .inl ppf)), (nw, .inr (1, n0 :: .ref nts :: nv)), (nts, .inr (8, [ntsc, .int 0])), (pfa, .inl (G.2 0, 7, .inl af2_1))]) H := hP
  have hD : va_D A ([(pn, .inr (5, [.ref nw, .ref wy, .ref pg, .ref pd, .ref pfa, .ref ppa, s6, s7, s8, s9, s10, .ref nr, .int 0])), (pd, .inr (8, [pdc, .int 0])), (ppa, .inl (G.2 0, 60, .inl ppf)), (nw, .inr (1, n0 :: .ref nts :: nv)), (nts, .inr (8, [ntsc, .int 0])), (pfa, .inl (G.2 0, 7, .inl af2_1))]) := hD
  refine lv_aload_n hx hb dX5_begin_21 rfl (lv_at hl 0 rfl) ?_
  refine va_get (D := G.1) (ci := 5) (v := .ref pfa) (C := RX5) (T := TX5) (N := 13) hx hb ht inlX5 hown hK.1 hP 0 rfl rfl 4 (by decide) (ht (Cond.fieldLink RX5 20 "PloughDepot$Planner" "facts" "[I") mw_5_19) (fun _ h9 => h9) rfl dX5_begin_22 ?_
  refine lv_bipush (v := 6) hx hb dX5_begin_25 (by decide) ?_
  refine lv_iload_n hx hb dX5_begin_27 rfl (lv_at hl 1 rfl) ?_
  refine va_iast hx hb hK.1 hP hD hS 5 0 rfl rfl (show ¬ ((6 : Int32) < 0 ∨ 7 ≤ (6 : Int32).toNatClampNeg) by decide) dX5_begin_28 (fun H locs hP hD hS => ?_)
  have hP : va_P G.1 vwCl ([(pn, .inr (5, [.ref nw, .ref wy, .ref pg, .ref pd, .ref pfa, .ref ppa, s6, s7, s8, s9, s10, .ref nr, .int 0])), (pd, .inr (8, [pdc, .int 0])), (ppa, .inl (G.2 0, 60, .inl ppf)), (nw, .inr (1, n0 :: .ref nts :: nv)), (nts, .inr (8, [ntsc, .int 0])), (pfa, .inl (G.2 0, 7, .inl (upd af2_1 (6 : Int32).toNatClampNeg 1)))]) H := hP
  have hD : va_D A ([(pn, .inr (5, [.ref nw, .ref wy, .ref pg, .ref pd, .ref pfa, .ref ppa, s6, s7, s8, s9, s10, .ref nr, .int 0])), (pd, .inr (8, [pdc, .int 0])), (ppa, .inl (G.2 0, 60, .inl ppf)), (nw, .inr (1, n0 :: .ref nts :: nv)), (nts, .inr (8, [ntsc, .int 0])), (pfa, .inl (G.2 0, 7, .inl (upd af2_1 (6 : Int32).toNatClampNeg 1)))]) := hD
  generalize upd af2_1 (6 : Int32).toNatClampNeg 1 = f_2 at hP hD
  refine lv_aload_n hx hb dX5_begin_29 rfl (lv_at hl 0 rfl) ?_
  refine va_get (D := G.1) (ci := 5) (v := .ref ppa) (C := RX5) (T := TX5) (N := 13) hx hb ht inlX5 hown hK.1 hP 0 rfl rfl 5 (by decide) (ht (Cond.fieldLink RX5 24 "PloughDepot$Planner" "partners" "[I") mw_5_20) (fun _ h9 => h9) rfl dX5_begin_30 ?_
  refine lv_iconst (v := (-1)) hx hb dX5_begin_33 (by decide) ?_
  have hPc := hP.sub (ws' := [(ppa, .inl (G.2 0, 60, .inl ppf))]) [2] rfl
  have hDc := hD.sub (ws' := [(ppa, .inl (G.2 0, 60, .inl ppf))]) [2] (by decide) rfl
  have hFc := va_free (wc := [(ppa, .inl (G.2 0, 60, .inl ppf))]) hD hS hA [2] rfl
  refine va_callv (va_runS (As := [.ref ppa, .int (-1)]) (rest := []) ⟨hx, hb, hml, hown, hts⟩ (j_fillI l G _ ppa (-1) 60 ppf (by first | assumption | decide)) (va_cwS 2 hts (gd_Y mw_43_19 mw_4_6 mw_4_7 mw_4_8) rfl rfl rfl yk_J7_fill_53178 ⟨Nat.le_of_ble_eq_true rfl, Nat.le_of_ble_eq_true rfl⟩) (c0_pre hPc hK hDc) rfl rfl hl.1 rfl (lv_room (Nat.le_of_ble_eq_true rfl)) dX5_begin_34 ⟨Nat.le_of_ble_eq_true rfl, Nat.le_of_ble_eq_true rfl⟩) hS (fun q _ h => hFc q h) hFc (fun u t H1 locs ht1 hvm hw hB hz1 hk1 hS => ?_)
  obtain ⟨af2_3, rfl⟩ : ∃ z, z = u := ⟨_, rfl⟩
  try dsimp only at hw hB
  obtain ⟨hP1, hD1⟩ := hB
  rw [ht1] at hP1
  obtain ⟨hP, hD⟩ := va_join (wr := [(pn, .inr (5, [.ref nw, .ref wy, .ref pg, .ref pd, .ref pfa, .ref ppa, s6, s7, s8, s9, s10, .ref nr, .int 0])), (pd, .inr (8, [pdc, .int 0])), (nw, .inr (1, n0 :: .ref nts :: nv)), (nts, .inr (8, [ntsc, .int 0])), (pfa, .inl (G.2 0, 7, .inl f_2))]) (w1 := [(ppa, .inl (G.2 0, 60, .inl af2_3))]) hP hD [2] [0, 1, 3, 4, 5] rfl rfl (by decide) (by decide) hk1 hFc hP1 hD1
  generalize H1 = H at hP hS ⊢
  have hP : va_P G.1 vwCl ([(pn, .inr (5, [.ref nw, .ref wy, .ref pg, .ref pd, .ref pfa, .ref ppa, s6, s7, s8, s9, s10, .ref nr, .int 0])), (pd, .inr (8, [pdc, .int 0])), (nw, .inr (1, n0 :: .ref nts :: nv)), (nts, .inr (8, [ntsc, .int 0])), (pfa, .inl (G.2 0, 7, .inl f_2)), (ppa, .inl (G.2 0, 60, .inl af2_3))]) H := hP
  have hD : va_D A ([(pn, .inr (5, [.ref nw, .ref wy, .ref pg, .ref pd, .ref pfa, .ref ppa, s6, s7, s8, s9, s10, .ref nr, .int 0])), (pd, .inr (8, [pdc, .int 0])), (nw, .inr (1, n0 :: .ref nts :: nv)), (nts, .inr (8, [ntsc, .int 0])), (pfa, .inl (G.2 0, 7, .inl f_2)), (ppa, .inl (G.2 0, 60, .inl af2_3))]) := hD
  refine lv_aload_n hx hb dX5_begin_37 rfl (lv_at hl 0 rfl) ?_
  refine lv_aload_n hx hb dX5_begin_38 rfl (lv_at hl 0 rfl) ?_
  refine va_get (D := G.1) (ci := 5) (v := .ref nw) (C := RX5) (T := TX5) (N := 13) hx hb ht inlX5 hown hK.1 hP 0 rfl rfl 0 (by decide) (ht (Cond.fieldLink RX5 50 "PloughDepot$Planner" "books" "LPloughDepot$Books;") mw_6_4) (fun _ h9 => h9) rfl dX5_begin_39 ?_
  refine va_get (D := G.1) (ci := 1) (v := .ref nts) (C := RX1) (T := TX1) (N := 8) hx hb ht inlX1 hown hK.1 hP 2 rfl rfl 1 (by decide) (ht (Cond.fieldLink RX5 86 "PloughDepot$Books" "streets" "LPloughDepot$Table;") mw_43_17) (fun _ h9 => h9) rfl dX5_begin_42 ?_
  refine va_get (D := G.1) (ci := 8) (v := .int 0) (C := RX8) (T := TX8) (N := 2) hx hb ht inlX8 hown hK.1 hP 3 rfl rfl 1 (by decide) (ht (Cond.fieldLink RX5 62 "PloughDepot$Table" "size" "I") mw_43_16) (fun _ h9 => h9) rfl dX5_begin_45 ?_
  refine lv_sipush (v := 150) hx hb dX5_begin_48 (by decide) ?_
  refine va_mmin hx hb (by rw [hml]; exact hl.1.symm) hown (ht (Cond.methodLink RX5 88 Lib.Math.min.name) mw_43_18) (ht (Cond.static Lib.Math.min.name) mw_9_20) (ht (Cond.initialized "java/lang/Math") mw_8_22) (ht (Cond.code Lib.Math.min.name Lib.Math.min.code 2 (some .int)) mw_9_21) (Nat.le_of_ble_eq_true rfl) (Nat.le_of_ble_eq_true rfl) (Nat.le_of_ble_eq_true rfl) (Nat.le_of_ble_eq_true rfl) dX5_begin_51 ?_
  refine lv_topi (fun v_4 ev_4 => ?_)
  obtain rfl : v_4 = 0 := ev_4.trans (by decide)
  refine va_put (D := G.1) (ci := 5) (v := .int 0) (ty := tyX5 8) (C := RX5) (T := TX5) (N := 13) hx hb ht inlX5 tyX5 tyX5_ok nmX5 hown hK.1 hP hD hS 0 rfl rfl 8 (by decide) (ht (Cond.fieldLink RX5 33 "PloughDepot$Planner" "streets" "I") mw_5_23) (fun _ h9 => h9) rfl (tyX5_ok 8 (by decide)) rfl rfl (Nat.le_of_ble_eq_true rfl) dX5_begin_54 (fun H locs hP hD hS => ?_)
  have hP : va_P G.1 vwCl ([(pn, .inr (5, [.ref nw, .ref wy, .ref pg, .ref pd, .ref pfa, .ref ppa, s6, s7, .int 0, s9, s10, .ref nr, .int 0])), (pd, .inr (8, [pdc, .int 0])), (nw, .inr (1, n0 :: .ref nts :: nv)), (nts, .inr (8, [ntsc, .int 0])), (pfa, .inl (G.2 0, 7, .inl f_2)), (ppa, .inl (G.2 0, 60, .inl af2_3))]) H := hP
  have hD : va_D A ([(pn, .inr (5, [.ref nw, .ref wy, .ref pg, .ref pd, .ref pfa, .ref ppa, s6, s7, .int 0, s9, s10, .ref nr, .int 0])), (pd, .inr (8, [pdc, .int 0])), (nw, .inr (1, n0 :: .ref nts :: nv)), (nts, .inr (8, [ntsc, .int 0])), (pfa, .inl (G.2 0, 7, .inl f_2)), (ppa, .inl (G.2 0, 60, .inl af2_3))]) := hD
  refine lv_iconst (v := 0) hx hb dX5_begin_57 (by decide) ?_
  refine lv_istore_n (lv' := [(2, .int 0), (0, .ref pn), (1, .int 1)]) hx hb dX5_begin_58 rfl hl (by decide) rfl (fun ls hl => ?_)
  refine lv_iload_n hx hb dX5_begin_59 rfl (lv_at hl 0 rfl) ?_
  refine lv_aload_n hx hb dX5_begin_60 rfl (lv_at hl 1 rfl) ?_
  refine va_get (D := G.1) (ci := 5) (v := .int 0) (C := RX5) (T := TX5) (N := 13) hx hb ht inlX5 hown hK.1 hP 0 rfl rfl 8 (by decide) (ht (Cond.fieldLink RX5 33 "PloughDepot$Planner" "streets" "I") mw_5_23) (fun _ h9 => h9) rfl dX5_begin_61 ?_
  refine lv_icmp_ge (tgt := 137) hx hb dX5_begin_64 (by decide) (fun c_5 => ?_) (fun c_5 => ?_)
  · have hP9 := hP.sub (ws' := [(pn, .inr (5, [.ref nw, .ref wy, .ref pg, .ref pd, .ref pfa, .ref ppa, s6, s7, .int 0, s9, s10, .ref nr, .int 0])), (pd, .inr (8, [pdc, .int 0])), (pfa, .inl (G.2 0, 7, .inl f_2)), (ppa, .inl (G.2 0, 60, .inl af2_3)), (nw, .inr (1, n0 :: .ref nts :: nv)), (nts, .inr (8, [ntsc, .int 0]))]) [0, 1, 4, 5, 2, 3] rfl
    have hD9 := hD.sub (ws' := [(pn, .inr (5, [.ref nw, .ref wy, .ref pg, .ref pd, .ref pfa, .ref ppa, s6, s7, .int 0, s9, s10, .ref nr, .int 0])), (pd, .inr (8, [pdc, .int 0])), (pfa, .inl (G.2 0, 7, .inl f_2)), (ppa, .inl (G.2 0, 60, .inl af2_3)), (nw, .inr (1, n0 :: .ref nts :: nv)), (nts, .inr (8, [ntsc, .int 0]))]) [0, 1, 4, 5, 2, 3] (by decide) rfl
    exact W.vret hx hb hr (fun t ht hW => ⟨⟨(f_2, af2_3), rfl, trivial, ⟨by rw [ht]; exact hP9, hD9⟩⟩, hS.F ht⟩) hS.2.2 dX5_begin_137
  · exact absurd c_5 (by decide)

set_option maxHeartbeats 4000000 in
set_option maxRecDepth 100000 in
theorem k_look (l : Launch) (G : GG) (sz : Nat) (pn : Nat) (nw : Nat) (wy : Nat) (pg : Nat) (pd : Nat) (pfa : Nat) (ppa : Nat) (s6 : Value) (s7 : Value) (s9 : Value) (s10 : Value) (nr : Nat) (s12 : Value) (nrf : Nat → Int64) (hnr : ∀ j, nrf j = 0) : Met l yX5_lookAtLeft (.code yX5_lookAtLeft cX5_lookAtLeft 6 (some .long) :: TT) ({ frames := 2, cells := 0, slots := 0, locals := 200 } : Room) (c0_P G [.ref pn] sz ([(pn, .inr (5, [.ref nw, .ref wy, .ref pg, .ref pd, .ref pfa, .ref ppa, s6, s7, .int 0, s9, s10, .ref nr, s12])), (nr, .inl (G.2 1, 60, .inr (.inl nrf)))])) (va_Ql (S := (Nat → Int64)) (fun (r : Int64) (u : (Nat → Int64)) => r = 0 ∧ ∀ j, u j = 0) (fun (u : (Nat → Int64)) (t : State) => c0_B G (va_A ([(pn, .inr (5, [.ref nw, .ref wy, .ref pg, .ref pd, .ref pfa, .ref ppa, s6, s7, .int 0, s9, s10, .ref nr, s12])), (nr, .inl (G.2 1, 60, .inr (.inl nrf)))]) sz) ([(pn, .inr (5, [.ref nw, .ref wy, .ref pg, .ref pd, .ref pfa, .ref ppa, s6, s7, .int 0, s9, s10, .ref nr, s12])), (nr, .inl (G.2 1, 60, .inr (.inl u)))]) t) (va_A ([(pn, .inr (5, [.ref nw, .ref wy, .ref pg, .ref pd, .ref pfa, .ref ppa, s6, s7, .int 0, s9, s10, .ref nr, s12])), (nr, .inl (G.2 1, 60, .inr (.inl nrf)))]) sz)) 0 0 (va_A ([(pn, .inr (5, [.ref nw, .ref wy, .ref pg, .ref pd, .ref pfa, .ref ppa, s6, s7, .int 0, s9, s10, .ref nr, s12])), (nr, .inl (G.2 1, 60, .inr (.inl nrf)))]) sz) := by
  refine Met.ofW (cc := cX5_lookAtLeft) (maxL := 6) (ret := (some .long)) (by decide) rfl ?_
  intro p e s m args below meth c s₁ B hml hv
  obtain ⟨rfl, hsz, hP, hK, hD0⟩ := hv
  have hx := B.exec
  have hb := B.bytes
  have hr := B.returns
  have hts := atoms_spec (ws := .code yX5_lookAtLeft cX5_lookAtLeft 6 (some .long) :: TT) B.pre
  have ht := fun (w : Cond) (h : w ∈ TT) => hts w (List.mem_cons_of_mem _ h)
  have hown : s.vm.findClass RX5 = some m.cls := findClass_of_methodNamed B.named
  have hlocks := B.notSynchronized
  subst hsz
  have hD := hD0.self (sz := s.heap.size)
  generalize hAe : va_A ([(pn, .inr (5, [.ref nw, .ref wy, .ref pg, .ref pd, .ref pfa, .ref ppa, s6, s7, .int 0, s9, s10, .ref nr, s12])), (nr, .inl (G.2 1, 60, .inr (.inl nrf)))]) s.heap.size = A at hD ⊢
  have hA : ∀ q : Nat, s.heap.size ≤ q → A q := fun q h => by rw [← hAe]; exact Or.inr h
  have hS : va_S A s.heap s.heap [] := va_S.rf
  have hP : va_P G.1 vwCl ([(pn, .inr (5, [.ref nw, .ref wy, .ref pg, .ref pd, .ref pfa, .ref ppa, s6, s7, .int 0, s9, s10, .ref nr, s12])), (nr, .inl (G.2 1, 60, .inr (.inl nrf)))]) s.heap := hP
  have hl := lv_entry ([.ref pn]) (n := 6) (Nat.le_of_ble_eq_true rfl)
  rw [lg_entry_eq]
  generalize (lg_sl ([.ref pn]) ++ List.replicate (6 - (lg_sl ([.ref pn])).length) Slot.unset).toArray = ls at hl ⊢
  have hl : lv_has ls 6 [(0, .ref pn)] := hl
  refine lv_lconst (v := 0) hx hb dX5_lookAtLeft_0 (by decide) ?_
  refine lv_lstore_n (lv' := [(1, .long 0), (0, .ref pn)]) hx hb dX5_lookAtLeft_1 rfl hl (by decide) rfl (fun ls hl => ?_)
  refine lv_aload_n hx hb dX5_lookAtLeft_2 rfl (lv_at hl 1 rfl) ?_
  refine va_get (D := G.1) (ci := 5) (v := .ref nr) (C := RX5) (T := TX5) (N := 13) hx hb ht inlX5 hown hK.1 hP 0 rfl rfl 11 (by decide) (ht (Cond.fieldLink RX5 43 "PloughDepot$Planner" "near" "[J") mw_6_2) (fun _ h9 => h9) rfl dX5_lookAtLeft_3 ?_
  refine lv_lconst (v := 0) hx hb dX5_lookAtLeft_6 (by decide) ?_
  have hPc := hP.sub (ws' := [(nr, .inl (G.2 1, 60, .inr (.inl nrf)))]) [1] rfl
  have hDc := hD.sub (ws' := [(nr, .inl (G.2 1, 60, .inr (.inl nrf)))]) [1] (by decide) rfl
  have hFc := va_free (wc := [(nr, .inl (G.2 1, 60, .inr (.inl nrf)))]) hD hS hA [1] rfl
  refine va_callv (va_runS (As := [.ref nr, .long 0]) (rest := []) ⟨hx, hb, hml, hown, hts⟩ (j_fillJ0 l G _ nr 60 nrf (by first | assumption | decide) (by first | assumption | decide)) (va_cwS 2 hts (gd_Y mw_44_2 mw_16_10 mw_4_7 mw_16_11) rfl rfl rfl yk_J7_fill_d0a16 ⟨Nat.le_of_ble_eq_true rfl, Nat.le_of_ble_eq_true rfl⟩) (c0_pre hPc hK hDc) rfl rfl hl.1 rfl (lv_room (Nat.le_of_ble_eq_true rfl)) dX5_lookAtLeft_7 ⟨Nat.le_of_ble_eq_true rfl, Nat.le_of_ble_eq_true rfl⟩) hS (fun q _ h => hFc q h) hFc (fun u t H1 locs ht1 hvm hw hB hz1 hk1 hS => ?_)
  obtain ⟨af2_1, rfl⟩ : ∃ z, z = u := ⟨_, rfl⟩
  try dsimp only at hw hB
  have hq1_0 := hw
  obtain ⟨hP1, hD1⟩ := hB
  rw [ht1] at hP1
  obtain ⟨hP, hD⟩ := va_join (wr := [(pn, .inr (5, [.ref nw, .ref wy, .ref pg, .ref pd, .ref pfa, .ref ppa, s6, s7, .int 0, s9, s10, .ref nr, s12]))]) (w1 := [(nr, .inl (G.2 1, 60, .inr (.inl af2_1)))]) hP hD [1] [0] rfl rfl (by decide) (by decide) hk1 hFc hP1 hD1
  generalize H1 = H at hP hS ⊢
  have hP : va_P G.1 vwCl ([(pn, .inr (5, [.ref nw, .ref wy, .ref pg, .ref pd, .ref pfa, .ref ppa, s6, s7, .int 0, s9, s10, .ref nr, s12])), (nr, .inl (G.2 1, 60, .inr (.inl af2_1)))]) H := hP
  have hD : va_D A ([(pn, .inr (5, [.ref nw, .ref wy, .ref pg, .ref pd, .ref pfa, .ref ppa, s6, s7, .int 0, s9, s10, .ref nr, s12])), (nr, .inl (G.2 1, 60, .inr (.inl af2_1)))]) := hD
  have hnr := hq1_0
  refine lv_iconst (v := 0) hx hb dX5_lookAtLeft_10 (by decide) ?_
  refine lv_istore_n (lv' := [(3, .int 0), (1, .long 0), (0, .ref pn)]) hx hb dX5_lookAtLeft_11 rfl hl (by decide) rfl (fun ls hl => ?_)
  refine lv_iload_n hx hb dX5_lookAtLeft_12 rfl (lv_at hl 0 rfl) ?_
  refine lv_aload_n hx hb dX5_lookAtLeft_13 rfl (lv_at hl 2 rfl) ?_
  refine va_get (D := G.1) (ci := 5) (v := .int 0) (C := RX5) (T := TX5) (N := 13) hx hb ht inlX5 hown hK.1 hP 0 rfl rfl 8 (by decide) (ht (Cond.fieldLink RX5 33 "PloughDepot$Planner" "streets" "I") mw_5_23) (fun _ h9 => h9) rfl dX5_lookAtLeft_14 ?_
  refine lv_icmp_ge (tgt := 91) hx hb dX5_lookAtLeft_17 (by decide) (fun c_2 => ?_) (fun c_2 => ?_)
  · refine lv_lload_n hx hb dX5_lookAtLeft_91 rfl (lv_at hl 1 rfl) ?_
    have hP9 := hP.sub (ws' := [(pn, .inr (5, [.ref nw, .ref wy, .ref pg, .ref pd, .ref pfa, .ref ppa, s6, s7, .int 0, s9, s10, .ref nr, s12])), (nr, .inl (G.2 1, 60, .inr (.inl af2_1)))]) [0, 1] rfl
    have hD9 := hD.sub (ws' := [(pn, .inr (5, [.ref nw, .ref wy, .ref pg, .ref pd, .ref pfa, .ref ppa, s6, s7, .int 0, s9, s10, .ref nr, s12])), (nr, .inl (G.2 1, 60, .inr (.inl af2_1)))]) [0, 1] (by decide) rfl
    exact W.lret (v := 0) hx hb hr (fun t ht hW => ⟨⟨0, af2_1, rfl, ⟨rfl, hnr⟩, ⟨by rw [ht]; exact hP9, hD9⟩⟩, hS.F ht⟩) hS.2.2 dX5_lookAtLeft_92
  · exact absurd c_2 (by decide)

set_option maxHeartbeats 4000000 in
set_option maxRecDepth 100000 in
theorem k_reach (l : Launch) (G : GG) (sz : Nat) (pn : Nat) (nw : Nat) (wy : Nat) (pg : Nat) (pd : Nat) (pfa : Nat) (ppa : Nat) (s6 : Value) (s7 : Value) (s9 : Value) (s10 : Value) (nr : Nat) (s12 : Value) (nrf : Nat → Int64) (hnr : ∀ j, nrf j = 0) : Met l yX5_reachedFrom (.code yX5_reachedFrom cX5_reachedFrom 8 (some .long) :: TT) ({ frames := 3, cells := 0, slots := 0, locals := 300 } : Room) (c0_P G [.ref pn, .int 0] sz ([(pn, .inr (5, [.ref nw, .ref wy, .ref pg, .ref pd, .ref pfa, .ref ppa, s6, s7, .int 0, s9, s10, .ref nr, s12])), (nr, .inl (G.2 1, 60, .inr (.inl nrf)))])) (va_Ql (S := Unit) (fun (r : Int64) (u : Unit) => r = 1) (fun (u : Unit) (t : State) => c0_B G (va_A ([(pn, .inr (5, [.ref nw, .ref wy, .ref pg, .ref pd, .ref pfa, .ref ppa, s6, s7, .int 0, s9, s10, .ref nr, s12])), (nr, .inl (G.2 1, 60, .inr (.inl nrf)))]) sz) ([(pn, .inr (5, [.ref nw, .ref wy, .ref pg, .ref pd, .ref pfa, .ref ppa, s6, s7, .int 0, s9, s10, .ref nr, s12])), (nr, .inl (G.2 1, 60, .inr (.inl nrf)))]) t) (va_A ([(pn, .inr (5, [.ref nw, .ref wy, .ref pg, .ref pd, .ref pfa, .ref ppa, s6, s7, .int 0, s9, s10, .ref nr, s12])), (nr, .inl (G.2 1, 60, .inr (.inl nrf)))]) sz)) 0 0 (va_A ([(pn, .inr (5, [.ref nw, .ref wy, .ref pg, .ref pd, .ref pfa, .ref ppa, s6, s7, .int 0, s9, s10, .ref nr, s12])), (nr, .inl (G.2 1, 60, .inr (.inl nrf)))]) sz) := by
  refine Met.ofW (cc := cX5_reachedFrom) (maxL := 8) (ret := (some .long)) (by decide) rfl ?_
  intro p e s m args below meth c s₁ B hml hv
  obtain ⟨rfl, hsz, hP, hK, hD0⟩ := hv
  have hx := B.exec
  have hb := B.bytes
  have hr := B.returns
  have hts := atoms_spec (ws := .code yX5_reachedFrom cX5_reachedFrom 8 (some .long) :: TT) B.pre
  have ht := fun (w : Cond) (h : w ∈ TT) => hts w (List.mem_cons_of_mem _ h)
  have hown : s.vm.findClass RX5 = some m.cls := findClass_of_methodNamed B.named
  have hlocks := B.notSynchronized
  subst hsz
  have hD := hD0.self (sz := s.heap.size)
  generalize hAe : va_A ([(pn, .inr (5, [.ref nw, .ref wy, .ref pg, .ref pd, .ref pfa, .ref ppa, s6, s7, .int 0, s9, s10, .ref nr, s12])), (nr, .inl (G.2 1, 60, .inr (.inl nrf)))]) s.heap.size = A at hD ⊢
  have hA : ∀ q : Nat, s.heap.size ≤ q → A q := fun q h => by rw [← hAe]; exact Or.inr h
  have hS : va_S A s.heap s.heap [] := va_S.rf
  have hP : va_P G.1 vwCl ([(pn, .inr (5, [.ref nw, .ref wy, .ref pg, .ref pd, .ref pfa, .ref ppa, s6, s7, .int 0, s9, s10, .ref nr, s12])), (nr, .inl (G.2 1, 60, .inr (.inl nrf)))]) s.heap := hP
  have hl := lv_entry ([.ref pn, .int 0]) (n := 8) (Nat.le_of_ble_eq_true rfl)
  rw [lg_entry_eq]
  generalize (lg_sl ([.ref pn, .int 0]) ++ List.replicate (8 - (lg_sl ([.ref pn, .int 0])).length) Slot.unset).toArray = ls at hl ⊢
  have hl : lv_has ls 8 [(0, .ref pn), (1, .int 0)] := hl
  refine lv_lconst (v := 1) hx hb dX5_reachedFrom_0 (by decide) ?_
  refine lv_iload_n hx hb dX5_reachedFrom_1 rfl (lv_at hl 1 rfl) ?_
  refine lv_lshl hx hb dX5_reachedFrom_2 rfl ?_
  refine lv_topl (fun v_1 ev_1 => ?_)
  obtain rfl : v_1 = 1 := ev_1.trans (by decide)
  refine lv_lstore_n (lv' := [(2, .long 1), (0, .ref pn), (1, .int 0)]) hx hb dX5_reachedFrom_3 rfl hl (by decide) rfl (fun ls hl => ?_)
  refine lv_lload_n hx hb dX5_reachedFrom_4 rfl (lv_at hl 0 rfl) ?_
  refine lv_lstore (lv' := [(4, .long 1), (2, .long 1), (0, .ref pn), (1, .int 0)]) hx hb dX5_reachedFrom_5 hl (by decide) rfl (fun ls hl => ?_)
  refine lv_iconst (v := 0) hx hb dX5_reachedFrom_7 (by decide) ?_
  refine lv_istore (lv' := [(6, .int 0), (4, .long 1), (2, .long 1), (0, .ref pn), (1, .int 0)]) hx hb dX5_reachedFrom_8 hl (by decide) rfl (fun ls hl => ?_)
  refine lv_iload hx hb dX5_reachedFrom_10 (lv_at hl 0 rfl) ?_
  refine lv_bipush (v := 60) hx hb dX5_reachedFrom_12 (by decide) ?_
  refine lv_icmp_ge (tgt := 74) hx hb dX5_reachedFrom_14 (by decide) (fun c_2 => ?_) (fun c_2 => ?_)
  · exact absurd c_2 (by decide)
  · refine lv_lload hx hb dX5_reachedFrom_17 (lv_at hl 1 rfl) ?_
    refine lv_lconst (v := 0) hx hb dX5_reachedFrom_19 (by decide) ?_
    refine W.lcmp hx hb dX5_reachedFrom_20 ?_
    refine lv_topi (fun v_3 ev_3 => ?_)
    obtain rfl : v_3 = 1 := ev_3.trans (by decide)
    refine lv_if_eq (tgt := 74) hx hb dX5_reachedFrom_21 (by decide) (fun c_4 => ?_) (fun c_4 => ?_)
    · exact absurd c_4 (by decide)
    · refine lv_lload hx hb dX5_reachedFrom_24 (lv_at hl 1 rfl) ?_
      have hPc := hP.sub (ws' := []) [] rfl
      have hDc := hD.sub (ws' := []) [] (by decide) rfl
      have hFc := va_free (wc := []) hD hS hA [] rfl
      refine va_calli (va_runSN (As := [.long 1]) (rest := []) ⟨hx, hb, hml, hown, hts⟩ (k_lowest1 l G _  ) ⟨va_cnB 1 hts (gd_T mw_17_3) rfl rfl rfl hK.2.2.2.2.2.2.1 (ht (Cond.initialized RX11) mw_1_2) yk_X11_lowest ⟨Nat.le_of_ble_eq_true rfl, Nat.le_of_ble_eq_true rfl⟩, ht (Cond.static yX11_lowest) mw_17_2, trivial⟩ (c0_pre hPc hK hDc) rfl rfl hl.1 rfl (lv_room (Nat.le_of_ble_eq_true rfl)) dX5_reachedFrom_26 ⟨Nat.le_of_ble_eq_true rfl, Nat.le_of_ble_eq_true rfl⟩) hS (fun q _ h => hFc q h) hFc (fun r_5 u t H1 locs ht1 hvm hw hB hz1 hk1 hS => ?_)
      try dsimp only at hw hB
      have hr5 := hw
      obtain rfl := hr5.symm
      obtain ⟨hP1, hD1⟩ := hB
      rw [ht1] at hP1
      obtain ⟨hP, hD⟩ := va_join (wr := [(pn, .inr (5, [.ref nw, .ref wy, .ref pg, .ref pd, .ref pfa, .ref ppa, s6, s7, .int 0, s9, s10, .ref nr, s12])), (nr, .inl (G.2 1, 60, .inr (.inl nrf)))]) (w1 := []) hP hD [] [0, 1] rfl rfl (by decide) (by decide) hk1 hFc hP1 hD1
      generalize H1 = H at hP hS ⊢
      have hP : va_P G.1 vwCl ([(pn, .inr (5, [.ref nw, .ref wy, .ref pg, .ref pd, .ref pfa, .ref ppa, s6, s7, .int 0, s9, s10, .ref nr, s12])), (nr, .inl (G.2 1, 60, .inr (.inl nrf)))]) H := hP
      have hD : va_D A ([(pn, .inr (5, [.ref nw, .ref wy, .ref pg, .ref pd, .ref pfa, .ref ppa, s6, s7, .int 0, s9, s10, .ref nr, s12])), (nr, .inl (G.2 1, 60, .inr (.inl nrf)))]) := hD
      refine lv_istore (lv' := [(7, .int 0), (6, .int 0), (4, .long 1), (2, .long 1), (0, .ref pn), (1, .int 0)]) hx hb dX5_reachedFrom_29 hl (by decide) rfl (fun ls hl => ?_)
      refine lv_lload hx hb dX5_reachedFrom_31 (lv_at hl 2 rfl) ?_
      refine lv_lload hx hb dX5_reachedFrom_33 (lv_at hl 2 rfl) ?_
      refine lv_lconst (v := 1) hx hb dX5_reachedFrom_35 (by decide) ?_
      refine lv_lsub hx hb dX5_reachedFrom_36 ?_
      refine lv_topl (fun v_6 ev_6 => ?_)
      obtain rfl : v_6 = 0 := ev_6.trans (by decide)
      refine lv_land hx hb dX5_reachedFrom_37 ?_
      refine lv_topl (fun v_7 ev_7 => ?_)
      obtain rfl : v_7 = 0 := ev_7.trans (by decide)
      refine lv_lstore (lv' := [(4, .long 0), (7, .int 0), (6, .int 0), (2, .long 1), (0, .ref pn), (1, .int 0)]) hx hb dX5_reachedFrom_38 hl (by decide) rfl (fun ls hl => ?_)
      refine lv_lload hx hb dX5_reachedFrom_40 (lv_at hl 0 rfl) ?_
      refine lv_aload_n hx hb dX5_reachedFrom_42 rfl (lv_at hl 4 rfl) ?_
      refine va_get (D := G.1) (ci := 5) (v := .ref nr) (C := RX5) (T := TX5) (N := 13) hx hb ht inlX5 hown hK.1 hP 0 rfl rfl 11 (by decide) (ht (Cond.fieldLink RX5 43 "PloughDepot$Planner" "near" "[J") mw_6_2) (fun _ h9 => h9) rfl dX5_reachedFrom_43 ?_
      refine lv_iload hx hb dX5_reachedFrom_46 (lv_at hl 1 rfl) ?_
      refine va_lald hx hb hK.1 hP 1 1 rfl rfl (show ¬ ((0 : Int32) < 0 ∨ 60 ≤ (0 : Int32).toNatClampNeg) by decide) dX5_reachedFrom_48 ?_
      refine lv_topl (fun v_8 ev_8 => ?_)
      obtain rfl : 0 = v_8 := (ev_8.trans (hnr _)).symm
      refine lv_lload_n hx hb dX5_reachedFrom_49 rfl (lv_at hl 3 rfl) ?_
      refine lv_ldc2 hx hb hown (ht (Cond.constantLong RX5 121 (-1)) mw_45_1) dX5_reachedFrom_50 ?_
      refine lv_lxor hx hb dX5_reachedFrom_53 ?_
      refine lv_topl (fun v_9 ev_9 => ?_)
      obtain rfl : v_9 = (-2) := ev_9.trans (by decide)
      refine lv_land hx hb dX5_reachedFrom_54 ?_
      refine lv_topl (fun v_10 ev_10 => ?_)
      obtain rfl : v_10 = 0 := ev_10.trans (by decide)
      refine lv_lor hx hb dX5_reachedFrom_55 ?_
      refine lv_topl (fun v_11 ev_11 => ?_)
      obtain rfl : v_11 = 0 := ev_11.trans (by decide)
      refine lv_lstore (lv' := [(4, .long 0), (7, .int 0), (6, .int 0), (2, .long 1), (0, .ref pn), (1, .int 0)]) hx hb dX5_reachedFrom_56 hl (by decide) rfl (fun ls hl => ?_)
      refine lv_lload_n hx hb dX5_reachedFrom_58 rfl (lv_at hl 3 rfl) ?_
      refine lv_aload_n hx hb dX5_reachedFrom_59 rfl (lv_at hl 4 rfl) ?_
      refine va_get (D := G.1) (ci := 5) (v := .ref nr) (C := RX5) (T := TX5) (N := 13) hx hb ht inlX5 hown hK.1 hP 0 rfl rfl 11 (by decide) (ht (Cond.fieldLink RX5 43 "PloughDepot$Planner" "near" "[J") mw_6_2) (fun _ h9 => h9) rfl dX5_reachedFrom_60 ?_
      refine lv_iload hx hb dX5_reachedFrom_63 (lv_at hl 1 rfl) ?_
      refine va_lald hx hb hK.1 hP 1 1 rfl rfl (show ¬ ((0 : Int32) < 0 ∨ 60 ≤ (0 : Int32).toNatClampNeg) by decide) dX5_reachedFrom_65 ?_
      refine lv_topl (fun v_12 ev_12 => ?_)
      obtain rfl : 0 = v_12 := (ev_12.trans (hnr _)).symm
      refine lv_lor hx hb dX5_reachedFrom_66 ?_
      refine lv_topl (fun v_13 ev_13 => ?_)
      obtain rfl : v_13 = 1 := ev_13.trans (by decide)
      refine lv_lstore_n (lv' := [(2, .long 1), (4, .long 0), (7, .int 0), (6, .int 0), (0, .ref pn), (1, .int 0)]) hx hb dX5_reachedFrom_67 rfl hl (by decide) rfl (fun ls hl => ?_)
      refine lv_iinc (v := 1) (lv' := [(6, .int 1), (2, .long 1), (4, .long 0), (7, .int 0), (0, .ref pn), (1, .int 0)]) hx hb dX5_reachedFrom_68 hl (k := 3) rfl (by decide) (by decide) rfl (fun ls hl => ?_)
      refine lv_goto (tgt := 10) hx hb dX5_reachedFrom_71 (by decide) ?_
      refine lv_iload hx hb dX5_reachedFrom_10 (lv_at hl 0 rfl) ?_
      refine lv_bipush (v := 60) hx hb dX5_reachedFrom_12 (by decide) ?_
      refine lv_icmp_ge (tgt := 74) hx hb dX5_reachedFrom_14 (by decide) (fun c_14 => ?_) (fun c_14 => ?_)
      · exact absurd c_14 (by decide)
      · refine lv_lload hx hb dX5_reachedFrom_17 (lv_at hl 2 rfl) ?_
        refine lv_lconst (v := 0) hx hb dX5_reachedFrom_19 (by decide) ?_
        refine W.lcmp hx hb dX5_reachedFrom_20 ?_
        refine lv_topi (fun v_15 ev_15 => ?_)
        obtain rfl : v_15 = 0 := ev_15.trans (by decide)
        refine lv_if_eq (tgt := 74) hx hb dX5_reachedFrom_21 (by decide) (fun c_16 => ?_) (fun c_16 => ?_)
        · refine lv_lload_n hx hb dX5_reachedFrom_74 rfl (lv_at hl 1 rfl) ?_
          have hP9 := hP.sub (ws' := [(pn, .inr (5, [.ref nw, .ref wy, .ref pg, .ref pd, .ref pfa, .ref ppa, s6, s7, .int 0, s9, s10, .ref nr, s12])), (nr, .inl (G.2 1, 60, .inr (.inl nrf)))]) [0, 1] rfl
          have hD9 := hD.sub (ws' := [(pn, .inr (5, [.ref nw, .ref wy, .ref pg, .ref pd, .ref pfa, .ref ppa, s6, s7, .int 0, s9, s10, .ref nr, s12])), (nr, .inl (G.2 1, 60, .inr (.inl nrf)))]) [0, 1] (by decide) rfl
          exact W.lret (v := 1) hx hb hr (fun t ht hW => ⟨⟨1, (), rfl, rfl, ⟨by rw [ht]; exact hP9, hD9⟩⟩, hS.F ht⟩) hS.2.2 dX5_reachedFrom_75
        · exact absurd c_16 (by decide)

set_option maxHeartbeats 4000000 in
set_option maxRecDepth 100000 in
theorem k_joinAll (l : Launch) (G : GG) (sz : Nat) (pn : Nat) (nw : Nat) (wy : Nat) (pg : Nat) (pd : Nat) (pfa : Nat) (ppa : Nat) (s6 : Value) (s7 : Value) (s9 : Value) (s10 : Value) (nr : Nat) (s12 : Value) (nrf : Nat → Int64) (hnr : ∀ j, nrf j = 0) : Met l yX5_joinAll (.code yX5_joinAll cX5_joinAll 6 (some .boolean) :: TT) ({ frames := 4, cells := 0, slots := 0, locals := 400 } : Room) (c0_P G [.ref pn] sz ([(pn, .inr (5, [.ref nw, .ref wy, .ref pg, .ref pd, .ref pfa, .ref ppa, s6, s7, .int 0, s9, s10, .ref nr, s12])), (nr, .inl (G.2 1, 60, .inr (.inl nrf)))])) (va_Qi (S := (Nat → Int64)) (fun (r : Int32) (u : (Nat → Int64)) => r = 1 ∧ ∀ j, u j = 0) (fun (u : (Nat → Int64)) (t : State) => c0_B G (va_A ([(pn, .inr (5, [.ref nw, .ref wy, .ref pg, .ref pd, .ref pfa, .ref ppa, s6, s7, .int 0, s9, s10, .ref nr, s12])), (nr, .inl (G.2 1, 60, .inr (.inl nrf)))]) sz) ([(pn, .inr (5, [.ref nw, .ref wy, .ref pg, .ref pd, .ref pfa, .ref ppa, s6, s7, .int 0, s9, s10, .ref nr, s12])), (nr, .inl (G.2 1, 60, .inr (.inl u)))]) t) (va_A ([(pn, .inr (5, [.ref nw, .ref wy, .ref pg, .ref pd, .ref pfa, .ref ppa, s6, s7, .int 0, s9, s10, .ref nr, s12])), (nr, .inl (G.2 1, 60, .inr (.inl nrf)))]) sz)) 0 0 (va_A ([(pn, .inr (5, [.ref nw, .ref wy, .ref pg, .ref pd, .ref pfa, .ref ppa, s6, s7, .int 0, s9, s10, .ref nr, s12])), (nr, .inl (G.2 1, 60, .inr (.inl nrf)))]) sz) := by
  refine Met.ofW (cc := cX5_joinAll) (maxL := 6) (ret := (some .boolean)) (by decide) rfl ?_
  intro p e s m args below meth c s₁ B hml hv
  obtain ⟨rfl, hsz, hP, hK, hD0⟩ := hv
  have hx := B.exec
  have hb := B.bytes
  have hr := B.returns
  have hts := atoms_spec (ws := .code yX5_joinAll cX5_joinAll 6 (some .boolean) :: TT) B.pre
  have ht := fun (w : Cond) (h : w ∈ TT) => hts w (List.mem_cons_of_mem _ h)
  have hown : s.vm.findClass RX5 = some m.cls := findClass_of_methodNamed B.named
  have hlocks := B.notSynchronized
  subst hsz
  have hD := hD0.self (sz := s.heap.size)
  generalize hAe : va_A ([(pn, .inr (5, [.ref nw, .ref wy, .ref pg, .ref pd, .ref pfa, .ref ppa, s6, s7, .int 0, s9, s10, .ref nr, s12])), (nr, .inl (G.2 1, 60, .inr (.inl nrf)))]) s.heap.size = A at hD ⊢
  have hA : ∀ q : Nat, s.heap.size ≤ q → A q := fun q h => by rw [← hAe]; exact Or.inr h
  have hS : va_S A s.heap s.heap [] := va_S.rf
  have hP : va_P G.1 vwCl ([(pn, .inr (5, [.ref nw, .ref wy, .ref pg, .ref pd, .ref pfa, .ref ppa, s6, s7, .int 0, s9, s10, .ref nr, s12])), (nr, .inl (G.2 1, 60, .inr (.inl nrf)))]) s.heap := hP
  have hl := lv_entry ([.ref pn]) (n := 6) (Nat.le_of_ble_eq_true rfl)
  rw [lg_entry_eq]
  generalize (lg_sl ([.ref pn]) ++ List.replicate (6 - (lg_sl ([.ref pn])).length) Slot.unset).toArray = ls at hl ⊢
  have hl : lv_has ls 6 [(0, .ref pn)] := hl
  refine lv_iconst (v := 0) hx hb dX5_joinAll_0 (by decide) ?_
  refine lv_istore_n (lv' := [(1, .int 0), (0, .ref pn)]) hx hb dX5_joinAll_1 rfl hl (by decide) rfl (fun ls hl => ?_)
  refine lv_iload_n hx hb dX5_joinAll_2 rfl (lv_at hl 0 rfl) ?_
  refine lv_bipush (v := 60) hx hb dX5_joinAll_3 (by decide) ?_
  refine lv_icmp_ge (tgt := 70) hx hb dX5_joinAll_5 (by decide) (fun c_1 => ?_) (fun c_1 => ?_)
  · exact absurd c_1 (by decide)
  · refine lv_aload_n hx hb dX5_joinAll_8 rfl (lv_at hl 1 rfl) ?_
    have hPc := hP.sub (ws' := [(pn, .inr (5, [.ref nw, .ref wy, .ref pg, .ref pd, .ref pfa, .ref ppa, s6, s7, .int 0, s9, s10, .ref nr, s12])), (nr, .inl (G.2 1, 60, .inr (.inl nrf)))]) [0, 1] rfl
    have hDc := hD.sub (ws' := [(pn, .inr (5, [.ref nw, .ref wy, .ref pg, .ref pd, .ref pfa, .ref ppa, s6, s7, .int 0, s9, s10, .ref nr, s12])), (nr, .inl (G.2 1, 60, .inr (.inl nrf)))]) [0, 1] (by decide) rfl
    have hFc := va_free (wc := [(pn, .inr (5, [.ref nw, .ref wy, .ref pg, .ref pd, .ref pfa, .ref ppa, s6, s7, .int 0, s9, s10, .ref nr, s12])), (nr, .inl (G.2 1, 60, .inr (.inl nrf)))]) hD hS hA [0, 1] rfl
    refine va_calll (va_runV (As := []) (rest := []) ⟨hx, hb, hml, hown, hts⟩ (k_look l G _ pn nw wy pg pd pfa ppa s6 s7 s9 s10 nr s12 nrf (by first | assumption | decide)) (cwV 0 hts (gd_V mw_43_22 mw_43_23 mw_44_0 mw_2_7 mw_44_1) rfl rfl rfl ⟨rfl, yk_X5_lookAtLeft⟩ ⟨Nat.le_of_ble_eq_true rfl, Nat.le_of_ble_eq_true rfl⟩) (c0_preV (q0 := 0) (ci := 5) (q := (RX5, TX5, 13)) hPc hK hDc rfl rfl) rfl rfl hl.1 rfl (lv_room (Nat.le_of_ble_eq_true rfl)) dX5_joinAll_9 ⟨Nat.le_of_ble_eq_true rfl, Nat.le_of_ble_eq_true rfl⟩) hS (fun q _ h => hFc q h) hFc (fun r_2 u t H1 locs ht1 hvm hw hB hz1 hk1 hS => ?_)
    obtain ⟨nrf2_3, rfl⟩ : ∃ z, z = u := ⟨_, rfl⟩
    try dsimp only at hw hB
    obtain ⟨hr3, hq3_0⟩ := hw
    obtain rfl := hr3.symm
    obtain ⟨hP1, hD1⟩ := hB
    rw [ht1] at hP1
    obtain ⟨hP, hD⟩ := va_join (wr := []) (w1 := [(pn, .inr (5, [.ref nw, .ref wy, .ref pg, .ref pd, .ref pfa, .ref ppa, s6, s7, .int 0, s9, s10, .ref nr, s12])), (nr, .inl (G.2 1, 60, .inr (.inl nrf2_3)))]) hP hD [0, 1] [] rfl rfl (by decide) (by decide) hk1 hFc hP1 hD1
    generalize H1 = H at hP hS ⊢
    have hP : va_P G.1 vwCl ([(pn, .inr (5, [.ref nw, .ref wy, .ref pg, .ref pd, .ref pfa, .ref ppa, s6, s7, .int 0, s9, s10, .ref nr, s12])), (nr, .inl (G.2 1, 60, .inr (.inl nrf2_3)))]) H := hP
    have hD : va_D A ([(pn, .inr (5, [.ref nw, .ref wy, .ref pg, .ref pd, .ref pfa, .ref ppa, s6, s7, .int 0, s9, s10, .ref nr, s12])), (nr, .inl (G.2 1, 60, .inr (.inl nrf2_3)))]) := hD
    have hnr := hq3_0
    refine lv_lstore_n (lv' := [(2, .long 0), (1, .int 0), (0, .ref pn)]) hx hb dX5_joinAll_12 rfl hl (by decide) rfl (fun ls hl => ?_)
    refine lv_aload_n hx hb dX5_joinAll_13 rfl (lv_at hl 2 rfl) ?_
    refine lv_iconst (v := 0) hx hb dX5_joinAll_14 (by decide) ?_
    have hPc := hP.sub (ws' := [(pn, .inr (5, [.ref nw, .ref wy, .ref pg, .ref pd, .ref pfa, .ref ppa, s6, s7, .int 0, s9, s10, .ref nr, s12])), (nr, .inl (G.2 1, 60, .inr (.inl nrf2_3)))]) [0, 1] rfl
    have hDc := hD.sub (ws' := [(pn, .inr (5, [.ref nw, .ref wy, .ref pg, .ref pd, .ref pfa, .ref ppa, s6, s7, .int 0, s9, s10, .ref nr, s12])), (nr, .inl (G.2 1, 60, .inr (.inl nrf2_3)))]) [0, 1] (by decide) rfl
    have hFc := va_free (wc := [(pn, .inr (5, [.ref nw, .ref wy, .ref pg, .ref pd, .ref pfa, .ref ppa, s6, s7, .int 0, s9, s10, .ref nr, s12])), (nr, .inl (G.2 1, 60, .inr (.inl nrf2_3)))]) hD hS hA [0, 1] rfl
    refine va_calll (va_runV (As := [.int 0]) (rest := []) ⟨hx, hb, hml, hown, hts⟩ (k_reach l G _ pn nw wy pg pd pfa ppa s6 s7 s9 s10 nr s12 nrf2_3 (by first | assumption | decide)) (cwV 1 hts (gd_V mw_45_2 mw_45_3 mw_45_4 mw_2_7 mw_45_5) rfl rfl rfl ⟨rfl, yk_X5_reachedFrom⟩ ⟨Nat.le_of_ble_eq_true rfl, Nat.le_of_ble_eq_true rfl⟩) (c0_preV (q0 := 0) (ci := 5) (q := (RX5, TX5, 13)) hPc hK hDc rfl rfl) rfl rfl hl.1 rfl (lv_room (Nat.le_of_ble_eq_true rfl)) dX5_joinAll_15 ⟨Nat.le_of_ble_eq_true rfl, Nat.le_of_ble_eq_true rfl⟩) hS (fun q _ h => hFc q h) hFc (fun r_4 u t H1 locs ht1 hvm hw hB hz1 hk1 hS => ?_)
    try dsimp only at hw hB
    have hr4 := hw
    obtain rfl := hr4.symm
    obtain ⟨hP1, hD1⟩ := hB
    rw [ht1] at hP1
    obtain ⟨hP, hD⟩ := va_join (wr := []) (w1 := [(pn, .inr (5, [.ref nw, .ref wy, .ref pg, .ref pd, .ref pfa, .ref ppa, s6, s7, .int 0, s9, s10, .ref nr, s12])), (nr, .inl (G.2 1, 60, .inr (.inl nrf2_3)))]) hP hD [0, 1] [] rfl rfl (by decide) (by decide) hk1 hFc hP1 hD1
    generalize H1 = H at hP hS ⊢
    have hP : va_P G.1 vwCl ([(pn, .inr (5, [.ref nw, .ref wy, .ref pg, .ref pd, .ref pfa, .ref ppa, s6, s7, .int 0, s9, s10, .ref nr, s12])), (nr, .inl (G.2 1, 60, .inr (.inl nrf2_3)))]) H := hP
    have hD : va_D A ([(pn, .inr (5, [.ref nw, .ref wy, .ref pg, .ref pd, .ref pfa, .ref ppa, s6, s7, .int 0, s9, s10, .ref nr, s12])), (nr, .inl (G.2 1, 60, .inr (.inl nrf2_3)))]) := hD
    refine lv_lstore (lv' := [(4, .long 1), (2, .long 0), (1, .int 0), (0, .ref pn)]) hx hb dX5_joinAll_18 hl (by decide) rfl (fun ls hl => ?_)
    refine lv_lload_n hx hb dX5_joinAll_20 rfl (lv_at hl 1 rfl) ?_
    refine lv_lload hx hb dX5_joinAll_21 (lv_at hl 0 rfl) ?_
    refine lv_ldc2 hx hb hown (ht (Cond.constantLong RX5 121 (-1)) mw_45_1) dX5_joinAll_23 ?_
    refine lv_lxor hx hb dX5_joinAll_26 ?_
    refine lv_topl (fun v_5 ev_5 => ?_)
    obtain rfl : v_5 = (-2) := ev_5.trans (by decide)
    refine lv_land hx hb dX5_joinAll_27 ?_
    refine lv_topl (fun v_6 ev_6 => ?_)
    obtain rfl : v_6 = 0 := ev_6.trans (by decide)
    refine lv_lconst (v := 0) hx hb dX5_joinAll_28 (by decide) ?_
    refine W.lcmp hx hb dX5_joinAll_29 ?_
    refine lv_topi (fun v_7 ev_7 => ?_)
    obtain rfl : v_7 = 0 := ev_7.trans (by decide)
    refine lv_if_ne (tgt := 35) hx hb dX5_joinAll_30 (by decide) (fun c_8 => ?_) (fun c_8 => ?_)
    · exact absurd c_8 (by decide)
    · refine lv_iconst (v := 1) hx hb dX5_joinAll_33 (by decide) ?_
      have hP9 := hP.sub (ws' := [(pn, .inr (5, [.ref nw, .ref wy, .ref pg, .ref pd, .ref pfa, .ref ppa, s6, s7, .int 0, s9, s10, .ref nr, s12])), (nr, .inl (G.2 1, 60, .inr (.inl nrf2_3)))]) [0, 1] rfl
      have hD9 := hD.sub (ws' := [(pn, .inr (5, [.ref nw, .ref wy, .ref pg, .ref pd, .ref pfa, .ref ppa, s6, s7, .int 0, s9, s10, .ref nr, s12])), (nr, .inl (G.2 1, 60, .inr (.inl nrf2_3)))]) [0, 1] (by decide) rfl
      exact W.zret (v := 1) hx hb hr rfl (fun t ht hW => ⟨⟨1, nrf2_3, rfl, ⟨rfl, hnr⟩, ⟨by rw [ht]; exact hP9, hD9⟩⟩, hS.F ht⟩) hS.2.2 dX5_joinAll_34

set_option maxHeartbeats 4000000 in
set_option maxRecDepth 100000 in
theorem k_addPairs (l : Launch) (G : GG) (sz : Nat) (pn : Nat) (nw : Nat) (wy : Nat) (pg : Nat) (pd : Nat) (pfa : Nat) (ppa : Nat) (s6 : Value) (s7 : Value) (s9 : Value) (s10 : Value) (nr : Nat) (s12 : Value) (p0 : Value) (p1 : Value) (p2 : Value) (p3 : Value) (p4 : Value) (p5 : Value) (p6 : Value) (p7 : Value) (p8 : Value) (p9 : Value) (pff : Nat → Int32)  : Met l yX5_addPairs (.code yX5_addPairs cX5_addPairs 4 none :: TT) ({ frames := 1, cells := 0, slots := 0, locals := 100 } : Room) (c0_P G [.ref pn] sz ([(pn, .inr (5, [.ref nw, .ref wy, .ref pg, .ref pd, .ref pfa, .ref ppa, s6, s7, .int 0, s9, s10, .ref nr, s12])), (pg, .inr (4, [p0, p1, p2, p3, p4, p5, p6, p7, p8, p9, .int 0, .int 0])), (pfa, .inl (G.2 0, 7, .inl pff))])) (va_Qv (S := (Nat → Int32)) (fun (u : (Nat → Int32)) => True) (fun (u : (Nat → Int32)) (t : State) => c0_B G (va_A ([(pn, .inr (5, [.ref nw, .ref wy, .ref pg, .ref pd, .ref pfa, .ref ppa, s6, s7, .int 0, s9, s10, .ref nr, s12])), (pg, .inr (4, [p0, p1, p2, p3, p4, p5, p6, p7, p8, p9, .int 0, .int 0])), (pfa, .inl (G.2 0, 7, .inl pff))]) sz) ([(pn, .inr (5, [.ref nw, .ref wy, .ref pg, .ref pd, .ref pfa, .ref ppa, s6, s7, .int 0, s9, s10, .ref nr, s12])), (pg, .inr (4, [p0, p1, p2, p3, p4, p5, p6, p7, p8, p9, .int 0, .int 0])), (pfa, .inl (G.2 0, 7, .inl u))]) t) (va_A ([(pn, .inr (5, [.ref nw, .ref wy, .ref pg, .ref pd, .ref pfa, .ref ppa, s6, s7, .int 0, s9, s10, .ref nr, s12])), (pg, .inr (4, [p0, p1, p2, p3, p4, p5, p6, p7, p8, p9, .int 0, .int 0])), (pfa, .inl (G.2 0, 7, .inl pff))]) sz)) 0 0 (va_A ([(pn, .inr (5, [.ref nw, .ref wy, .ref pg, .ref pd, .ref pfa, .ref ppa, s6, s7, .int 0, s9, s10, .ref nr, s12])), (pg, .inr (4, [p0, p1, p2, p3, p4, p5, p6, p7, p8, p9, .int 0, .int 0])), (pfa, .inl (G.2 0, 7, .inl pff))]) sz) := by
  refine Met.ofW (cc := cX5_addPairs) (maxL := 4) (ret := none) (by decide) rfl ?_
  intro p e s m args below meth c s₁ B hml hv
  obtain ⟨rfl, hsz, hP, hK, hD0⟩ := hv
  have hx := B.exec
  have hb := B.bytes
  have hr := B.returns
  have hts := atoms_spec (ws := .code yX5_addPairs cX5_addPairs 4 none :: TT) B.pre
  have ht := fun (w : Cond) (h : w ∈ TT) => hts w (List.mem_cons_of_mem _ h)
  have hown : s.vm.findClass RX5 = some m.cls := findClass_of_methodNamed B.named
  have hlocks := B.notSynchronized
  subst hsz
  have hD := hD0.self (sz := s.heap.size)
  generalize hAe : va_A ([(pn, .inr (5, [.ref nw, .ref wy, .ref pg, .ref pd, .ref pfa, .ref ppa, s6, s7, .int 0, s9, s10, .ref nr, s12])), (pg, .inr (4, [p0, p1, p2, p3, p4, p5, p6, p7, p8, p9, .int 0, .int 0])), (pfa, .inl (G.2 0, 7, .inl pff))]) s.heap.size = A at hD ⊢
  have hA : ∀ q : Nat, s.heap.size ≤ q → A q := fun q h => by rw [← hAe]; exact Or.inr h
  have hS : va_S A s.heap s.heap [] := va_S.rf
  have hP : va_P G.1 vwCl ([(pn, .inr (5, [.ref nw, .ref wy, .ref pg, .ref pd, .ref pfa, .ref ppa, s6, s7, .int 0, s9, s10, .ref nr, s12])), (pg, .inr (4, [p0, p1, p2, p3, p4, p5, p6, p7, p8, p9, .int 0, .int 0])), (pfa, .inl (G.2 0, 7, .inl pff))]) s.heap := hP
  have hl := lv_entry ([.ref pn]) (n := 4) (Nat.le_of_ble_eq_true rfl)
  rw [lg_entry_eq]
  generalize (lg_sl ([.ref pn]) ++ List.replicate (4 - (lg_sl ([.ref pn])).length) Slot.unset).toArray = ls at hl ⊢
  have hl : lv_has ls 4 [(0, .ref pn)] := hl
  refine lv_aload_n hx hb dX5_addPairs_0 rfl (lv_at hl 0 rfl) ?_
  refine va_get (D := G.1) (ci := 5) (v := .ref pfa) (C := RX5) (T := TX5) (N := 13) hx hb ht inlX5 hown hK.1 hP 0 rfl rfl 4 (by decide) (ht (Cond.fieldLink RX5 20 "PloughDepot$Planner" "facts" "[I") mw_5_19) (fun _ h9 => h9) rfl dX5_addPairs_1 ?_
  refine lv_iconst (v := 5) hx hb dX5_addPairs_4 (by decide) ?_
  refine lv_aload_n hx hb dX5_addPairs_5 rfl (lv_at hl 0 rfl) ?_
  refine va_get (D := G.1) (ci := 5) (v := .ref pg) (C := RX5) (T := TX5) (N := 13) hx hb ht inlX5 hown hK.1 hP 0 rfl rfl 2 (by decide) (ht (Cond.fieldLink RX5 58 "PloughDepot$Planner" "pairing" "LPloughDepot$Pairing;") mw_6_6) (fun _ h9 => h9) rfl dX5_addPairs_6 ?_
  refine va_get (D := G.1) (ci := 4) (v := .int 0) (C := RX4) (T := TX4) (N := 12) hx hb ht inlX4 hown hK.1 hP 1 rfl rfl 10 (by decide) (ht (Cond.fieldLink RX5 165 "PloughDepot$Pairing" "pairs" "I") mw_47_15) (fun _ h9 => h9) rfl dX5_addPairs_9 ?_
  refine va_iast hx hb hK.1 hP hD hS 2 0 rfl rfl (show ¬ ((5 : Int32) < 0 ∨ 7 ≤ (5 : Int32).toNatClampNeg) by decide) dX5_addPairs_12 (fun H locs hP hD hS => ?_)
  have hP : va_P G.1 vwCl ([(pn, .inr (5, [.ref nw, .ref wy, .ref pg, .ref pd, .ref pfa, .ref ppa, s6, s7, .int 0, s9, s10, .ref nr, s12])), (pg, .inr (4, [p0, p1, p2, p3, p4, p5, p6, p7, p8, p9, .int 0, .int 0])), (pfa, .inl (G.2 0, 7, .inl (upd pff (5 : Int32).toNatClampNeg 0)))]) H := hP
  have hD : va_D A ([(pn, .inr (5, [.ref nw, .ref wy, .ref pg, .ref pd, .ref pfa, .ref ppa, s6, s7, .int 0, s9, s10, .ref nr, s12])), (pg, .inr (4, [p0, p1, p2, p3, p4, p5, p6, p7, p8, p9, .int 0, .int 0])), (pfa, .inl (G.2 0, 7, .inl (upd pff (5 : Int32).toNatClampNeg 0)))]) := hD
  generalize upd pff (5 : Int32).toNatClampNeg 0 = f_1 at hP hD
  refine lv_aload_n hx hb dX5_addPairs_13 rfl (lv_at hl 0 rfl) ?_
  refine va_get (D := G.1) (ci := 5) (v := .ref pfa) (C := RX5) (T := TX5) (N := 13) hx hb ht inlX5 hown hK.1 hP 0 rfl rfl 4 (by decide) (ht (Cond.fieldLink RX5 20 "PloughDepot$Planner" "facts" "[I") mw_5_19) (fun _ h9 => h9) rfl dX5_addPairs_14 ?_
  refine lv_iconst (v := 4) hx hb dX5_addPairs_17 (by decide) ?_
  refine lv_aload_n hx hb dX5_addPairs_18 rfl (lv_at hl 0 rfl) ?_
  refine va_get (D := G.1) (ci := 5) (v := .ref pg) (C := RX5) (T := TX5) (N := 13) hx hb ht inlX5 hown hK.1 hP 0 rfl rfl 2 (by decide) (ht (Cond.fieldLink RX5 58 "PloughDepot$Planner" "pairing" "LPloughDepot$Pairing;") mw_6_6) (fun _ h9 => h9) rfl dX5_addPairs_19 ?_
  refine va_get (D := G.1) (ci := 4) (v := .int 0) (C := RX4) (T := TX4) (N := 12) hx hb ht inlX4 hown hK.1 hP 1 rfl rfl 11 (by decide) (ht (Cond.fieldLink RX5 168 "PloughDepot$Pairing" "exchanges" "I") mw_47_16) (fun _ h9 => h9) rfl dX5_addPairs_22 ?_
  refine va_iast hx hb hK.1 hP hD hS 2 0 rfl rfl (show ¬ ((4 : Int32) < 0 ∨ 7 ≤ (4 : Int32).toNatClampNeg) by decide) dX5_addPairs_25 (fun H locs hP hD hS => ?_)
  have hP : va_P G.1 vwCl ([(pn, .inr (5, [.ref nw, .ref wy, .ref pg, .ref pd, .ref pfa, .ref ppa, s6, s7, .int 0, s9, s10, .ref nr, s12])), (pg, .inr (4, [p0, p1, p2, p3, p4, p5, p6, p7, p8, p9, .int 0, .int 0])), (pfa, .inl (G.2 0, 7, .inl (upd f_1 (4 : Int32).toNatClampNeg 0)))]) H := hP
  have hD : va_D A ([(pn, .inr (5, [.ref nw, .ref wy, .ref pg, .ref pd, .ref pfa, .ref ppa, s6, s7, .int 0, s9, s10, .ref nr, s12])), (pg, .inr (4, [p0, p1, p2, p3, p4, p5, p6, p7, p8, p9, .int 0, .int 0])), (pfa, .inl (G.2 0, 7, .inl (upd f_1 (4 : Int32).toNatClampNeg 0)))]) := hD
  generalize upd f_1 (4 : Int32).toNatClampNeg 0 = f_2 at hP hD
  refine lv_iconst (v := 0) hx hb dX5_addPairs_26 (by decide) ?_
  refine lv_istore_n (lv' := [(1, .int 0), (0, .ref pn)]) hx hb dX5_addPairs_27 rfl hl (by decide) rfl (fun ls hl => ?_)
  refine lv_iload_n hx hb dX5_addPairs_28 rfl (lv_at hl 0 rfl) ?_
  refine lv_aload_n hx hb dX5_addPairs_29 rfl (lv_at hl 1 rfl) ?_
  refine va_get (D := G.1) (ci := 5) (v := .ref pg) (C := RX5) (T := TX5) (N := 13) hx hb ht inlX5 hown hK.1 hP 0 rfl rfl 2 (by decide) (ht (Cond.fieldLink RX5 58 "PloughDepot$Planner" "pairing" "LPloughDepot$Pairing;") mw_6_6) (fun _ h9 => h9) rfl dX5_addPairs_30 ?_
  refine va_get (D := G.1) (ci := 4) (v := .int 0) (C := RX4) (T := TX4) (N := 12) hx hb ht inlX4 hown hK.1 hP 1 rfl rfl 10 (by decide) (ht (Cond.fieldLink RX5 165 "PloughDepot$Pairing" "pairs" "I") mw_47_15) (fun _ h9 => h9) rfl dX5_addPairs_33 ?_
  refine lv_icmp_ge (tgt := 86) hx hb dX5_addPairs_36 (by decide) (fun c_3 => ?_) (fun c_3 => ?_)
  · have hP9 := hP.sub (ws' := [(pn, .inr (5, [.ref nw, .ref wy, .ref pg, .ref pd, .ref pfa, .ref ppa, s6, s7, .int 0, s9, s10, .ref nr, s12])), (pg, .inr (4, [p0, p1, p2, p3, p4, p5, p6, p7, p8, p9, .int 0, .int 0])), (pfa, .inl (G.2 0, 7, .inl f_2))]) [0, 1, 2] rfl
    have hD9 := hD.sub (ws' := [(pn, .inr (5, [.ref nw, .ref wy, .ref pg, .ref pd, .ref pfa, .ref ppa, s6, s7, .int 0, s9, s10, .ref nr, s12])), (pg, .inr (4, [p0, p1, p2, p3, p4, p5, p6, p7, p8, p9, .int 0, .int 0])), (pfa, .inl (G.2 0, 7, .inl f_2))]) [0, 1, 2] (by decide) rfl
    exact W.vret hx hb hr (fun t ht hW => ⟨⟨f_2, rfl, trivial, ⟨by rw [ht]; exact hP9, hD9⟩⟩, hS.F ht⟩) hS.2.2 dX5_addPairs_86
  · exact absurd c_3 (by decide)

set_option maxHeartbeats 4000000 in
set_option maxRecDepth 100000 in
theorem k_driveAll (l : Launch) (G : GG) (sz : Nat) (pn : Nat) (pnv : List Value)  : Met l yX5_driveAll (.code yX5_driveAll cX5_driveAll 4 none :: TT) ({ frames := 1, cells := 0, slots := 0, locals := 100 } : Room) (c0_P G [.ref pn, .int 0] sz ([(pn, .inr (5, pnv))])) (va_Qv (S := Unit) (fun (u : Unit) => True) (fun (u : Unit) (t : State) => c0_B G (va_A ([(pn, .inr (5, pnv))]) sz) ([(pn, .inr (5, pnv))]) t) (va_A ([(pn, .inr (5, pnv))]) sz)) 0 0 (va_A ([(pn, .inr (5, pnv))]) sz) := by
  refine Met.ofW (cc := cX5_driveAll) (maxL := 4) (ret := none) (by decide) rfl ?_
  intro p e s m args below meth c s₁ B hml hv
  obtain ⟨rfl, hsz, hP, hK, hD0⟩ := hv
  have hx := B.exec
  have hb := B.bytes
  have hr := B.returns
  have hts := atoms_spec (ws := .code yX5_driveAll cX5_driveAll 4 none :: TT) B.pre
  have ht := fun (w : Cond) (h : w ∈ TT) => hts w (List.mem_cons_of_mem _ h)
  have hown : s.vm.findClass RX5 = some m.cls := findClass_of_methodNamed B.named
  have hlocks := B.notSynchronized
  subst hsz
  have hD := hD0.self (sz := s.heap.size)
  generalize hAe : va_A ([(pn, .inr (5, pnv))]) s.heap.size = A at hD ⊢
  have hA : ∀ q : Nat, s.heap.size ≤ q → A q := fun q h => by rw [← hAe]; exact Or.inr h
  have hS : va_S A s.heap s.heap [] := va_S.rf
  have hP : va_P G.1 vwCl ([(pn, .inr (5, pnv))]) s.heap := hP
  have hl := lv_entry ([.ref pn, .int 0]) (n := 4) (Nat.le_of_ble_eq_true rfl)
  rw [lg_entry_eq]
  generalize (lg_sl ([.ref pn, .int 0]) ++ List.replicate (4 - (lg_sl ([.ref pn, .int 0])).length) Slot.unset).toArray = ls at hl ⊢
  have hl : lv_has ls 4 [(0, .ref pn), (1, .int 0)] := hl
  refine lv_iconst (v := 0) hx hb dX5_driveAll_0 (by decide) ?_
  refine lv_istore_n (lv' := [(2, .int 0), (0, .ref pn), (1, .int 0)]) hx hb dX5_driveAll_1 rfl hl (by decide) rfl (fun ls hl => ?_)
  refine lv_iload_n hx hb dX5_driveAll_2 rfl (lv_at hl 0 rfl) ?_
  refine lv_iload_n hx hb dX5_driveAll_3 rfl (lv_at hl 2 rfl) ?_
  refine lv_icmp_ge (tgt := 44) hx hb dX5_driveAll_4 (by decide) (fun c_1 => ?_) (fun c_1 => ?_)
  · have hP9 := hP.sub (ws' := [(pn, .inr (5, pnv))]) [0] rfl
    have hD9 := hD.sub (ws' := [(pn, .inr (5, pnv))]) [0] (by decide) rfl
    exact W.vret hx hb hr (fun t ht hW => ⟨⟨(), rfl, trivial, ⟨by rw [ht]; exact hP9, hD9⟩⟩, hS.F ht⟩) hS.2.2 dX5_driveAll_44
  · exact absurd c_1 (by decide)

set_option maxHeartbeats 4000000 in
set_option maxRecDepth 100000 in
theorem k_pairExactly (l : Launch) (G : GG) (sz : Nat) (pg : Nat) (p0 : Value) (p1 : Value) (p2 : Value) (pv : List Value)  : Met l yX4_pairExactly (.code yX4_pairExactly cX4_pairExactly 4 none :: TT) ({ frames := 1, cells := 0, slots := 0, locals := 100 } : Room) (c0_P G [.ref pg] sz ([(pg, .inr (4, p0 :: p1 :: p2 :: .int 0 :: pv))])) (va_Qv (S := Unit) (fun (u : Unit) => True) (fun (u : Unit) (t : State) => c0_B G (va_A ([(pg, .inr (4, p0 :: p1 :: p2 :: .int 0 :: pv))]) sz) ([(pg, .inr (4, p0 :: p1 :: p2 :: .int 0 :: pv))]) t) (va_A ([(pg, .inr (4, p0 :: p1 :: p2 :: .int 0 :: pv))]) sz)) 0 0 (va_A ([(pg, .inr (4, p0 :: p1 :: p2 :: .int 0 :: pv))]) sz) := by
  refine Met.ofW (cc := cX4_pairExactly) (maxL := 4) (ret := none) (by decide) rfl ?_
  intro p e s m args below meth c s₁ B hml hv
  obtain ⟨rfl, hsz, hP, hK, hD0⟩ := hv
  have hx := B.exec
  have hb := B.bytes
  have hr := B.returns
  have hts := atoms_spec (ws := .code yX4_pairExactly cX4_pairExactly 4 none :: TT) B.pre
  have ht := fun (w : Cond) (h : w ∈ TT) => hts w (List.mem_cons_of_mem _ h)
  have hown : s.vm.findClass RX4 = some m.cls := findClass_of_methodNamed B.named
  have hlocks := B.notSynchronized
  subst hsz
  have hD := hD0.self (sz := s.heap.size)
  generalize hAe : va_A ([(pg, .inr (4, p0 :: p1 :: p2 :: .int 0 :: pv))]) s.heap.size = A at hD ⊢
  have hA : ∀ q : Nat, s.heap.size ≤ q → A q := fun q h => by rw [← hAe]; exact Or.inr h
  have hS : va_S A s.heap s.heap [] := va_S.rf
  have hP : va_P G.1 vwCl ([(pg, .inr (4, p0 :: p1 :: p2 :: .int 0 :: pv))]) s.heap := hP
  have hl := lv_entry ([.ref pg]) (n := 4) (Nat.le_of_ble_eq_true rfl)
  rw [lg_entry_eq]
  generalize (lg_sl ([.ref pg]) ++ List.replicate (4 - (lg_sl ([.ref pg])).length) Slot.unset).toArray = ls at hl ⊢
  have hl : lv_has ls 4 [(0, .ref pg)] := hl
  refine lv_iconst (v := 1) hx hb dX4_pairExactly_0 (by decide) ?_
  refine lv_aload_n hx hb dX4_pairExactly_1 rfl (lv_at hl 0 rfl) ?_
  refine va_get (D := G.1) (ci := 4) (v := .int 0) (C := RX4) (T := TX4) (N := 12) hx hb ht inlX4 hown hK.1 hP 0 rfl rfl 3 (by decide) (ht (Cond.fieldLink RX4 15 "PloughDepot$Pairing" "many" "I") mw_5_1) (fun _ h9 => h9) rfl dX4_pairExactly_2 ?_
  refine lv_ishl hx hb dX4_pairExactly_5 ?_
  refine lv_topi (fun v_1 ev_1 => ?_)
  obtain rfl : v_1 = 1 := ev_1.trans (by decide)
  refine lv_iconst (v := 1) hx hb dX4_pairExactly_6 (by decide) ?_
  refine lv_isub hx hb dX4_pairExactly_7 ?_
  refine lv_topi (fun v_2 ev_2 => ?_)
  obtain rfl : v_2 = 0 := ev_2.trans (by decide)
  refine lv_istore_n (lv' := [(1, .int 0), (0, .ref pg)]) hx hb dX4_pairExactly_8 rfl hl (by decide) rfl (fun ls hl => ?_)
  refine lv_iconst (v := 0) hx hb dX4_pairExactly_9 (by decide) ?_
  refine lv_istore_n (lv' := [(2, .int 0), (1, .int 0), (0, .ref pg)]) hx hb dX4_pairExactly_10 rfl hl (by decide) rfl (fun ls hl => ?_)
  refine lv_iload_n hx hb dX4_pairExactly_11 rfl (lv_at hl 0 rfl) ?_
  refine lv_bipush (v := 14) hx hb dX4_pairExactly_12 (by decide) ?_
  refine lv_icmp_ge (tgt := 69) hx hb dX4_pairExactly_14 (by decide) (fun c_3 => ?_) (fun c_3 => ?_)
  · exact absurd c_3 (by decide)
  · refine lv_iload_n hx hb dX4_pairExactly_17 rfl (lv_at hl 1 rfl) ?_
    refine lv_if_eq (tgt := 69) hx hb dX4_pairExactly_18 (by decide) (fun c_4 => ?_) (fun c_4 => ?_)
    · have hP9 := hP.sub (ws' := [(pg, .inr (4, p0 :: p1 :: p2 :: .int 0 :: pv))]) [0] rfl
      have hD9 := hD.sub (ws' := [(pg, .inr (4, p0 :: p1 :: p2 :: .int 0 :: pv))]) [0] (by decide) rfl
      exact W.vret hx hb hr (fun t ht hW => ⟨⟨(), rfl, trivial, ⟨by rw [ht]; exact hP9, hD9⟩⟩, hS.F ht⟩) hS.2.2 dX4_pairExactly_69
    · exact absurd c_4 (by decide)

set_option maxHeartbeats 4000000 in
set_option maxRecDepth 100000 in
theorem k_pairUp (l : Launch) (G : GG) (sz : Nat) (pg : Nat) (nw : Nat) (p1 : Value) (p2 : Value) (p3 : Value) (p5 : Value) (tq : Nat) (p8 : Value) (p9 : Value) (p10 : Value) (p11 : Value) (n0 : Value) (nts : Nat) (nv : List Value) (ntsc : Value) (tqf : Nat → Int32)  : Met l yX4_pairUp (.code yX4_pairUp cX4_pairUp 1 none :: TT) ({ frames := 3, cells := 0, slots := 0, locals := 300 } : Room) (c0_P G [.ref pg] sz ([(pg, .inr (4, [.ref nw, p1, p2, p3, .int 0, p5, .ref tq, .int 0, p8, p9, p10, p11])), (nw, .inr (1, n0 :: .ref nts :: nv)), (nts, .inr (8, [ntsc, .int 0])), (tq, .inl (G.2 0, 1, .inl tqf))])) (va_Qv (S := (Nat → Int32)) (fun (u : (Nat → Int32)) => True) (fun (u : (Nat → Int32)) (t : State) => c0_B G (va_A ([(pg, .inr (4, [.ref nw, p1, p2, p3, .int 0, p5, .ref tq, .int 0, p8, p9, p10, p11])), (nw, .inr (1, n0 :: .ref nts :: nv)), (nts, .inr (8, [ntsc, .int 0])), (tq, .inl (G.2 0, 1, .inl tqf))]) sz) ([(pg, .inr (4, [.ref nw, p1, p2, .int 0, .int 1, p5, .ref tq, .int 1, p8, p9, .int 0, .int 0])), (nw, .inr (1, n0 :: .ref nts :: nv)), (nts, .inr (8, [ntsc, .int 0])), (tq, .inl (G.2 0, 1, .inl u))]) t) (va_A ([(pg, .inr (4, [.ref nw, p1, p2, p3, .int 0, p5, .ref tq, .int 0, p8, p9, p10, p11])), (nw, .inr (1, n0 :: .ref nts :: nv)), (nts, .inr (8, [ntsc, .int 0])), (tq, .inl (G.2 0, 1, .inl tqf))]) sz)) 0 0 (va_A ([(pg, .inr (4, [.ref nw, p1, p2, p3, .int 0, p5, .ref tq, .int 0, p8, p9, p10, p11])), (nw, .inr (1, n0 :: .ref nts :: nv)), (nts, .inr (8, [ntsc, .int 0])), (tq, .inl (G.2 0, 1, .inl tqf))]) sz) := by
  refine Met.ofW (cc := cX4_pairUp) (maxL := 1) (ret := none) (by decide) rfl ?_
  intro p e s m args below meth c s₁ B hml hv
  obtain ⟨rfl, hsz, hP, hK, hD0⟩ := hv
  have hx := B.exec
  have hb := B.bytes
  have hr := B.returns
  have hts := atoms_spec (ws := .code yX4_pairUp cX4_pairUp 1 none :: TT) B.pre
  have ht := fun (w : Cond) (h : w ∈ TT) => hts w (List.mem_cons_of_mem _ h)
  have hown : s.vm.findClass RX4 = some m.cls := findClass_of_methodNamed B.named
  have hlocks := B.notSynchronized
  subst hsz
  have hD := hD0.self (sz := s.heap.size)
  generalize hAe : va_A ([(pg, .inr (4, [.ref nw, p1, p2, p3, .int 0, p5, .ref tq, .int 0, p8, p9, p10, p11])), (nw, .inr (1, n0 :: .ref nts :: nv)), (nts, .inr (8, [ntsc, .int 0])), (tq, .inl (G.2 0, 1, .inl tqf))]) s.heap.size = A at hD ⊢
  have hA : ∀ q : Nat, s.heap.size ≤ q → A q := fun q h => by rw [← hAe]; exact Or.inr h
  have hS : va_S A s.heap s.heap [] := va_S.rf
  have hP : va_P G.1 vwCl ([(pg, .inr (4, [.ref nw, p1, p2, p3, .int 0, p5, .ref tq, .int 0, p8, p9, p10, p11])), (nw, .inr (1, n0 :: .ref nts :: nv)), (nts, .inr (8, [ntsc, .int 0])), (tq, .inl (G.2 0, 1, .inl tqf))]) s.heap := hP
  have hl := lv_entry ([.ref pg]) (n := 1) (Nat.le_of_ble_eq_true rfl)
  rw [lg_entry_eq]
  generalize (lg_sl ([.ref pg]) ++ List.replicate (1 - (lg_sl ([.ref pg])).length) Slot.unset).toArray = ls at hl ⊢
  have hl : lv_has ls 1 [(0, .ref pg)] := hl
  refine lv_aload_n hx hb dX4_pairUp_0 rfl (lv_at hl 0 rfl) ?_
  have hPc := hP.sub (ws' := [(pg, .inr (4, [.ref nw, p1, p2, p3, .int 0, p5, .ref tq, .int 0, p8, p9, p10, p11])), (nw, .inr (1, n0 :: .ref nts :: nv)), (nts, .inr (8, [ntsc, .int 0]))]) [0, 1, 2] rfl
  have hDc := hD.sub (ws' := [(pg, .inr (4, [.ref nw, p1, p2, p3, .int 0, p5, .ref tq, .int 0, p8, p9, p10, p11])), (nw, .inr (1, n0 :: .ref nts :: nv)), (nts, .inr (8, [ntsc, .int 0]))]) [0, 1, 2] (by decide) rfl
  have hFc := va_free (wc := [(pg, .inr (4, [.ref nw, p1, p2, p3, .int 0, p5, .ref tq, .int 0, p8, p9, p10, p11])), (nw, .inr (1, n0 :: .ref nts :: nv)), (nts, .inr (8, [ntsc, .int 0]))]) hD hS hA [0, 1, 2] rfl
  refine va_calli (va_runV (As := []) (rest := []) ⟨hx, hb, hml, hown, hts⟩ (k_list l G _ pg nw p1 p2 p3 ([p5, .ref tq, .int 0, p8, p9, p10, p11]) n0 nts nv ntsc ) (cwV 0 hts (gd_V mw_46_0 mw_39_10 mw_39_11 mw_2_3 mw_39_12) rfl rfl rfl ⟨rfl, yk_X4_list⟩ ⟨Nat.le_of_ble_eq_true rfl, Nat.le_of_ble_eq_true rfl⟩) (c0_preV (q0 := 0) (ci := 4) (q := (RX4, TX4, 12)) hPc hK hDc rfl rfl) rfl rfl hl.1 rfl (lv_room (Nat.le_of_ble_eq_true rfl)) dX4_pairUp_1 ⟨Nat.le_of_ble_eq_true rfl, Nat.le_of_ble_eq_true rfl⟩) hS (fun q _ h => hFc q h) hFc (fun r_1 u t H1 locs ht1 hvm hw hB hz1 hk1 hS => ?_)
  try dsimp only at hw hB
  have hr1 := hw
  obtain rfl := hr1.symm
  obtain ⟨hP1, hD1⟩ := hB
  rw [ht1] at hP1
  obtain ⟨hP, hD⟩ := va_join (wr := [(tq, .inl (G.2 0, 1, .inl tqf))]) (w1 := [(pg, .inr (4, [.ref nw, p1, p2, .int 0, .int 1, p5, .ref tq, .int 0, p8, p9, p10, p11])), (nw, .inr (1, n0 :: .ref nts :: nv)), (nts, .inr (8, [ntsc, .int 0]))]) hP hD [0, 1, 2] [3] rfl rfl (by decide) (by decide) hk1 hFc hP1 hD1
  generalize H1 = H at hP hS ⊢
  have hP : va_P G.1 vwCl ([(tq, .inl (G.2 0, 1, .inl tqf)), (pg, .inr (4, [.ref nw, p1, p2, .int 0, .int 1, p5, .ref tq, .int 0, p8, p9, p10, p11])), (nw, .inr (1, n0 :: .ref nts :: nv)), (nts, .inr (8, [ntsc, .int 0]))]) H := hP
  have hD : va_D A ([(tq, .inl (G.2 0, 1, .inl tqf)), (pg, .inr (4, [.ref nw, p1, p2, .int 0, .int 1, p5, .ref tq, .int 0, p8, p9, p10, p11])), (nw, .inr (1, n0 :: .ref nts :: nv)), (nts, .inr (8, [ntsc, .int 0]))]) := hD
  refine lv_pop hx hb dX4_pairUp_4 rfl ?_
  refine lv_aload_n hx hb dX4_pairUp_5 rfl (lv_at hl 0 rfl) ?_
  refine lv_iconst (v := 0) hx hb dX4_pairUp_6 (by decide) ?_
  refine va_put (D := G.1) (ci := 4) (v := .int 0) (ty := tyX4 10) (C := RX4) (T := TX4) (N := 12) hx hb ht inlX4 tyX4 tyX4_ok nmX4 hown hK.1 hP hD hS 1 rfl rfl 10 (by decide) (ht (Cond.fieldLink RX4 40 "PloughDepot$Pairing" "pairs" "I") mw_5_9) (fun _ h9 => h9) rfl (tyX4_ok 10 (by decide)) rfl rfl (Nat.le_of_ble_eq_true rfl) dX4_pairUp_7 (fun H locs hP hD hS => ?_)
  have hP : va_P G.1 vwCl ([(tq, .inl (G.2 0, 1, .inl tqf)), (pg, .inr (4, [.ref nw, p1, p2, .int 0, .int 1, p5, .ref tq, .int 0, p8, p9, .int 0, p11])), (nw, .inr (1, n0 :: .ref nts :: nv)), (nts, .inr (8, [ntsc, .int 0]))]) H := hP
  have hD : va_D A ([(tq, .inl (G.2 0, 1, .inl tqf)), (pg, .inr (4, [.ref nw, p1, p2, .int 0, .int 1, p5, .ref tq, .int 0, p8, p9, .int 0, p11])), (nw, .inr (1, n0 :: .ref nts :: nv)), (nts, .inr (8, [ntsc, .int 0]))]) := hD
  refine lv_aload_n hx hb dX4_pairUp_10 rfl (lv_at hl 0 rfl) ?_
  refine lv_iconst (v := 0) hx hb dX4_pairUp_11 (by decide) ?_
  refine va_put (D := G.1) (ci := 4) (v := .int 0) (ty := tyX4 11) (C := RX4) (T := TX4) (N := 12) hx hb ht inlX4 tyX4 tyX4_ok nmX4 hown hK.1 hP hD hS 1 rfl rfl 11 (by decide) (ht (Cond.fieldLink RX4 43 "PloughDepot$Pairing" "exchanges" "I") mw_5_10) (fun _ h9 => h9) rfl (tyX4_ok 11 (by decide)) rfl rfl (Nat.le_of_ble_eq_true rfl) dX4_pairUp_12 (fun H locs hP hD hS => ?_)
  have hP : va_P G.1 vwCl ([(tq, .inl (G.2 0, 1, .inl tqf)), (pg, .inr (4, [.ref nw, p1, p2, .int 0, .int 1, p5, .ref tq, .int 0, p8, p9, .int 0, .int 0])), (nw, .inr (1, n0 :: .ref nts :: nv)), (nts, .inr (8, [ntsc, .int 0]))]) H := hP
  have hD : va_D A ([(tq, .inl (G.2 0, 1, .inl tqf)), (pg, .inr (4, [.ref nw, p1, p2, .int 0, .int 1, p5, .ref tq, .int 0, p8, p9, .int 0, .int 0])), (nw, .inr (1, n0 :: .ref nts :: nv)), (nts, .inr (8, [ntsc, .int 0]))]) := hD
  refine lv_aload_n hx hb dX4_pairUp_15 rfl (lv_at hl 0 rfl) ?_
  refine va_get (D := G.1) (ci := 4) (v := .int 0) (C := RX4) (T := TX4) (N := 12) hx hb ht inlX4 hown hK.1 hP 1 rfl rfl 3 (by decide) (ht (Cond.fieldLink RX4 15 "PloughDepot$Pairing" "many" "I") mw_5_1) (fun _ h9 => h9) rfl dX4_pairUp_16 ?_
  refine lv_bipush (v := 14) hx hb dX4_pairUp_19 (by decide) ?_
  refine lv_icmp_gt (tgt := 35) hx hb dX4_pairUp_21 (by decide) (fun c_2 => ?_) (fun c_2 => ?_)
  · exact absurd c_2 (by decide)
  · refine lv_aload_n hx hb dX4_pairUp_24 rfl (lv_at hl 0 rfl) ?_
    have hPc := hP.sub (ws' := [(pg, .inr (4, [.ref nw, p1, p2, .int 0, .int 1, p5, .ref tq, .int 0, p8, p9, .int 0, .int 0])), (tq, .inl (G.2 0, 1, .inl tqf))]) [1, 0] rfl
    have hDc := hD.sub (ws' := [(pg, .inr (4, [.ref nw, p1, p2, .int 0, .int 1, p5, .ref tq, .int 0, p8, p9, .int 0, .int 0])), (tq, .inl (G.2 0, 1, .inl tqf))]) [1, 0] (by decide) rfl
    have hFc := va_free (wc := [(pg, .inr (4, [.ref nw, p1, p2, .int 0, .int 1, p5, .ref tq, .int 0, p8, p9, .int 0, .int 0])), (tq, .inl (G.2 0, 1, .inl tqf))]) hD hS hA [1, 0] rfl
    refine va_callv (va_runV (As := []) (rest := []) ⟨hx, hb, hml, hown, hts⟩ (k_fillTable l G _ pg nw p1 p2 (.int 1) p5 tq ([p8, p9, .int 0, .int 0]) tqf ) (cwV 0 hts (gd_V mw_46_1 mw_41_7 mw_41_8 mw_2_3 mw_41_9) rfl rfl rfl ⟨rfl, yk_X4_fillTable⟩ ⟨Nat.le_of_ble_eq_true rfl, Nat.le_of_ble_eq_true rfl⟩) (c0_preV (q0 := 0) (ci := 4) (q := (RX4, TX4, 12)) hPc hK hDc rfl rfl) rfl rfl hl.1 rfl (lv_room (Nat.le_of_ble_eq_true rfl)) dX4_pairUp_25 ⟨Nat.le_of_ble_eq_true rfl, Nat.le_of_ble_eq_true rfl⟩) hS (fun q _ h => hFc q h) hFc (fun u t H1 locs ht1 hvm hw hB hz1 hk1 hS => ?_)
    obtain ⟨tqf2_3, rfl⟩ : ∃ z, z = u := ⟨_, rfl⟩
    try dsimp only at hw hB
    have hq3_0 := hw
    obtain ⟨hP1, hD1⟩ := hB
    rw [ht1] at hP1
    obtain ⟨hP, hD⟩ := va_join (wr := [(nw, .inr (1, n0 :: .ref nts :: nv)), (nts, .inr (8, [ntsc, .int 0]))]) (w1 := [(pg, .inr (4, [.ref nw, p1, p2, .int 0, .int 1, p5, .ref tq, .int 1, p8, p9, .int 0, .int 0])), (tq, .inl (G.2 0, 1, .inl tqf2_3))]) hP hD [1, 0] [2, 3] rfl rfl (by decide) (by decide) hk1 hFc hP1 hD1
    generalize H1 = H at hP hS ⊢
    have hP : va_P G.1 vwCl ([(nw, .inr (1, n0 :: .ref nts :: nv)), (nts, .inr (8, [ntsc, .int 0])), (pg, .inr (4, [.ref nw, p1, p2, .int 0, .int 1, p5, .ref tq, .int 1, p8, p9, .int 0, .int 0])), (tq, .inl (G.2 0, 1, .inl tqf2_3))]) H := hP
    have hD : va_D A ([(nw, .inr (1, n0 :: .ref nts :: nv)), (nts, .inr (8, [ntsc, .int 0])), (pg, .inr (4, [.ref nw, p1, p2, .int 0, .int 1, p5, .ref tq, .int 1, p8, p9, .int 0, .int 0])), (tq, .inl (G.2 0, 1, .inl tqf2_3))]) := hD
    refine lv_aload_n hx hb dX4_pairUp_28 rfl (lv_at hl 0 rfl) ?_
    have hPc := hP.sub (ws' := [(pg, .inr (4, [.ref nw, p1, p2, .int 0, .int 1, p5, .ref tq, .int 1, p8, p9, .int 0, .int 0]))]) [2] rfl
    have hDc := hD.sub (ws' := [(pg, .inr (4, [.ref nw, p1, p2, .int 0, .int 1, p5, .ref tq, .int 1, p8, p9, .int 0, .int 0]))]) [2] (by decide) rfl
    have hFc := va_free (wc := [(pg, .inr (4, [.ref nw, p1, p2, .int 0, .int 1, p5, .ref tq, .int 1, p8, p9, .int 0, .int 0]))]) hD hS hA [2] rfl
    refine va_callv (va_runV (As := []) (rest := []) ⟨hx, hb, hml, hown, hts⟩ (k_pairExactly l G _ pg (.ref nw) p1 p2 ([.int 1, p5, .ref tq, .int 1, p8, p9, .int 0, .int 0]) ) (cwV 0 hts (gd_V mw_46_2 mw_46_3 mw_46_4 mw_2_3 mw_46_5) rfl rfl rfl ⟨rfl, yk_X4_pairExactly⟩ ⟨Nat.le_of_ble_eq_true rfl, Nat.le_of_ble_eq_true rfl⟩) (c0_preV (q0 := 0) (ci := 4) (q := (RX4, TX4, 12)) hPc hK hDc rfl rfl) rfl rfl hl.1 rfl (lv_room (Nat.le_of_ble_eq_true rfl)) dX4_pairUp_29 ⟨Nat.le_of_ble_eq_true rfl, Nat.le_of_ble_eq_true rfl⟩) hS (fun q _ h => hFc q h) hFc (fun u t H1 locs ht1 hvm hw hB hz1 hk1 hS => ?_)
    try dsimp only at hw hB
    obtain ⟨hP1, hD1⟩ := hB
    rw [ht1] at hP1
    obtain ⟨hP, hD⟩ := va_join (wr := [(nw, .inr (1, n0 :: .ref nts :: nv)), (nts, .inr (8, [ntsc, .int 0])), (tq, .inl (G.2 0, 1, .inl tqf2_3))]) (w1 := [(pg, .inr (4, [.ref nw, p1, p2, .int 0, .int 1, p5, .ref tq, .int 1, p8, p9, .int 0, .int 0]))]) hP hD [2] [0, 1, 3] rfl rfl (by decide) (by decide) hk1 hFc hP1 hD1
    generalize H1 = H at hP hS ⊢
    have hP : va_P G.1 vwCl ([(nw, .inr (1, n0 :: .ref nts :: nv)), (nts, .inr (8, [ntsc, .int 0])), (tq, .inl (G.2 0, 1, .inl tqf2_3)), (pg, .inr (4, [.ref nw, p1, p2, .int 0, .int 1, p5, .ref tq, .int 1, p8, p9, .int 0, .int 0]))]) H := hP
    have hD : va_D A ([(nw, .inr (1, n0 :: .ref nts :: nv)), (nts, .inr (8, [ntsc, .int 0])), (tq, .inl (G.2 0, 1, .inl tqf2_3)), (pg, .inr (4, [.ref nw, p1, p2, .int 0, .int 1, p5, .ref tq, .int 1, p8, p9, .int 0, .int 0]))]) := hD
    refine lv_goto (tgt := 43) hx hb dX4_pairUp_32 (by decide) ?_
    have hP9 := hP.sub (ws' := [(pg, .inr (4, [.ref nw, p1, p2, .int 0, .int 1, p5, .ref tq, .int 1, p8, p9, .int 0, .int 0])), (nw, .inr (1, n0 :: .ref nts :: nv)), (nts, .inr (8, [ntsc, .int 0])), (tq, .inl (G.2 0, 1, .inl tqf2_3))]) [3, 0, 1, 2] rfl
    have hD9 := hD.sub (ws' := [(pg, .inr (4, [.ref nw, p1, p2, .int 0, .int 1, p5, .ref tq, .int 1, p8, p9, .int 0, .int 0])), (nw, .inr (1, n0 :: .ref nts :: nv)), (nts, .inr (8, [ntsc, .int 0])), (tq, .inl (G.2 0, 1, .inl tqf2_3))]) [3, 0, 1, 2] (by decide) rfl
    exact W.vret hx hb hr (fun t ht hW => ⟨⟨tqf2_3, rfl, trivial, ⟨by rw [ht]; exact hP9, hD9⟩⟩, hS.F ht⟩) hS.2.2 dX4_pairUp_43

