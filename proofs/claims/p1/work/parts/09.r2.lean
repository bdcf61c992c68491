theorem vp_in_add {a i n : Nat} (h : a + i < n) (hn : n < 2 ^ 31) : vp_in (nI a + nI i) n := by
  rw [nI_add]
  exact vp_in_nI h hn
theorem keep16 {f : Nat → Int32} {v x : Int32} {k : Nat} (hz : ∀ j, j < 16 → f j = 0) (hv : v = nI k) (hk : 16 ≤ k) (h31 : k < 2 ^ 31) : ∀ j, j < 16 → upd f v.toNatClampNeg x j = 0 := fun j hj => by
  rw [hv, nI_clamp h31, pk_un (by omega)]
  exact hz j hj
set_option maxHeartbeats 4000000 in
set_option maxRecDepth 100000 in
theorem r_keeps (l : Launch) (G : GG) (sz : Nat) (mo : Nat) (nw : Nat) (kp : Nat) (m2 : Value) (mv : List Value) (nf : Nat → Int32) (kf : Nat → Int32)  : Met l yX12_keeps (.code yX12_keeps cX12_keeps 2 none :: TT) ({ frames := 1, cells := 0, slots := 0, locals := 100 } : Room) (c0_P G [.ref mo] sz ([(mo, .inr (12, .ref nw :: .ref kp :: m2 :: mv)), (nw, .inl (G.2 0, 15642, .inl nf)), (kp, .inl (G.2 0, 15642, .inl kf))])) (va_Qv (S := (Nat → Int32)) (fun (u : (Nat → Int32)) => True) (fun (u : (Nat → Int32)) (t : State) => c0_B G (va_A ([(mo, .inr (12, .ref nw :: .ref kp :: m2 :: mv)), (nw, .inl (G.2 0, 15642, .inl nf)), (kp, .inl (G.2 0, 15642, .inl kf))]) sz) ([(mo, .inr (12, .ref nw :: .ref kp :: .int 1 :: mv)), (nw, .inl (G.2 0, 15642, .inl nf)), (kp, .inl (G.2 0, 15642, .inl u))]) t) (va_A ([(mo, .inr (12, .ref nw :: .ref kp :: m2 :: mv)), (nw, .inl (G.2 0, 15642, .inl nf)), (kp, .inl (G.2 0, 15642, .inl kf))]) sz)) 0 0 (va_A ([(mo, .inr (12, .ref nw :: .ref kp :: m2 :: mv)), (nw, .inl (G.2 0, 15642, .inl nf)), (kp, .inl (G.2 0, 15642, .inl kf))]) sz) := by
  refine Met.ofW (cc := cX12_keeps) (maxL := 2) (ret := none) (by decide) rfl ?_
  intro p e s m args below meth c s₁ B hml hv
  obtain ⟨rfl, hsz, hP, hK, hD0⟩ := hv
  have hx := B.exec
  have hb := B.bytes
  have hr := B.returns
  have hts := atoms_spec (ws := .code yX12_keeps cX12_keeps 2 none :: TT) B.pre
  have ht := fun (w : Cond) (h : w ∈ TT) => hts w (List.mem_cons_of_mem _ h)
  have hown : s.vm.findClass RX12 = some m.cls := findClass_of_methodNamed B.named
  have hlocks := B.notSynchronized
  subst hsz
  have hD := hD0.self (sz := s.heap.size)
  generalize hAe : va_A ([(mo, .inr (12, .ref nw :: .ref kp :: m2 :: mv)), (nw, .inl (G.2 0, 15642, .inl nf)), (kp, .inl (G.2 0, 15642, .inl kf))]) s.heap.size = A at hD ⊢
  have hA : ∀ q : Nat, s.heap.size ≤ q → A q := fun q h => by rw [← hAe]; exact Or.inr h
  have hS : va_S A s.heap s.heap [] := va_S.rf
  have hP : va_P G.1 vwCl ([(mo, .inr (12, .ref nw :: .ref kp :: m2 :: mv)), (nw, .inl (G.2 0, 15642, .inl nf)), (kp, .inl (G.2 0, 15642, .inl kf))]) s.heap := hP
  have hl := lv_entry ([.ref mo]) (n := 2) (Nat.le_of_ble_eq_true rfl)
  rw [lg_entry_eq]
  generalize (lg_sl ([.ref mo]) ++ List.replicate (2 - (lg_sl ([.ref mo])).length) Slot.unset).toArray = ls at hl ⊢
  have hl : lv_has ls 2 [(0, .ref mo)] := hl
  refine lv_iconst (v := 0) hx hb dX12_keeps_0 (by decide) ?_
  refine lv_istore_n (lv' := [(1, .int 0), (0, .ref mo)]) hx hb dX12_keeps_1 rfl hl (by decide) rfl (fun ls hl => ?_)
  have lp_1 : ∀ (Q : State → Prop), (∀ (fkp_1 : Nat → Int32) (H : Heap) (locs : List Loc) (ls : Array Slot), va_P G.1 vwCl ([(mo, .inr (12, .ref nw :: .ref kp :: m2 :: mv)), (nw, .inl (G.2 0, 15642, .inl nf)), (kp, .inl (G.2 0, 15642, .inl fkp_1))]) H → va_D A ([(mo, .inr (12, .ref nw :: .ref kp :: m2 :: mv)), (nw, .inl (G.2 0, 15642, .inl nf)), (kp, .inl (G.2 0, 15642, .inl fkp_1))]) → va_S A s.heap H locs → lv_has ls 2 [(0, .ref mo)] → W p l e (headSpec (.code yX12_keeps cX12_keeps 2 none :: TT) ({ frames := 1, cells := 0, slots := 0, locals := 100 } : Room)).room s m [.ref mo].toArray below meth c H locs 0 0 Q (F0 m 27 ls [])) → ∀ (n i : Nat) (x9 : Int32) (fkp_1 : Nat → Int32) (H : Heap) (locs : List Loc) (ls : Array Slot), i ≤ 15642 → 15643 ≤ i + n → x9 = nI i → va_P G.1 vwCl ([(mo, .inr (12, .ref nw :: .ref kp :: m2 :: mv)), (nw, .inl (G.2 0, 15642, .inl nf)), (kp, .inl (G.2 0, 15642, .inl fkp_1))]) H → va_D A ([(mo, .inr (12, .ref nw :: .ref kp :: m2 :: mv)), (nw, .inl (G.2 0, 15642, .inl nf)), (kp, .inl (G.2 0, 15642, .inl fkp_1))]) → va_S A s.heap H locs → lv_has ls 2 [(1, .int x9), (0, .ref mo)] → W p l e (headSpec (.code yX12_keeps cX12_keeps 2 none :: TT) ({ frames := 1, cells := 0, slots := 0, locals := 100 } : Room)).room s m [.ref mo].toArray below meth c H locs 0 0 Q (F0 m 2 ls []) := by
    intro Q hex n
    induction n with
    | zero =>
      intro i x9 fkp_1 H locs ls h1 h2
      exact absurd h2 (by omega)
    | succ n ih =>
      intro i x9 fkp_1 H locs ls hi hin9 ex9 hP hD hS hl
      refine lv_iload_n hx hb dX12_keeps_2 rfl (lv_at hl 0 rfl) ?_
      refine lv_sipush (v := 15642) hx hb dX12_keeps_3 (by decide) ?_
      refine lv_icmp_ge (tgt := 27) hx hb dX12_keeps_6 (by decide) (fun c9 => ?_) (fun c9 => ?_)
      · have hiN : i = 15642 := by
          rcases Nat.lt_or_ge i 15642 with q | q
          · exact absurd c9 (by rw [ex9]; exact nI_ge q (by first | decide | omega))
          · omega
        exact hex fkp_1 H locs ls hP hD hS (lv_sub hl [1] rfl)
      · have hlt : i < 15642 := by
          rcases Nat.lt_or_ge i 15642 with q | q
          · exact q
          · exact absurd (by rw [ex9]; exact nI_le q (by omega)) c9
        have hin_nw : vp_in x9 15642 := by rw [ex9]; exact vp_in_nI (by omega) (by first | decide | omega)
        have hx0 : (0 : Int32) ≤ x9 := by rw [ex9]; exact nI_pos' (by omega)
        refine lv_aload_n hx hb dX12_keeps_9 rfl (lv_at hl 1 rfl) ?_
        refine va_get (D := G.1) (ci := 12) (v := .ref kp) (C := RX12) (T := TX12) (N := 32) hx hb ht inlX12 hown hK.1 hP 0 rfl rfl 1 (by decide) (ht (Cond.fieldLink RX12 13 "PloughDepotModel" "kept" "[I") mw_6_20) (fun _ h9 => h9) rfl dX12_keeps_10 ?_
        refine lv_iload_n hx hb dX12_keeps_13 rfl (lv_at hl 0 rfl) ?_
        refine lv_aload_n hx hb dX12_keeps_14 rfl (lv_at hl 1 rfl) ?_
        refine va_get (D := G.1) (ci := 12) (v := .ref nw) (C := RX12) (T := TX12) (N := 32) hx hb ht inlX12 hown hK.1 hP 0 rfl rfl 0 (by decide) (ht (Cond.fieldLink RX12 7 "PloughDepotModel" "now" "[I") mw_6_19) (fun _ h9 => h9) rfl dX12_keeps_15 ?_
        refine lv_iload_n hx hb dX12_keeps_18 rfl (lv_at hl 0 rfl) ?_
        refine va_iald hx hb hK.1 hP 1 0 rfl rfl hin_nw dX12_keeps_19 ?_
        refine lv_topi (fun v_2 ev_2 => ?_)
        refine va_iast hx hb hK.1 hP hD hS 2 0 rfl rfl hin_nw dX12_keeps_20 (fun H locs hP hD hS => ?_)
        have hP : va_P G.1 vwCl ([(mo, .inr (12, .ref nw :: .ref kp :: m2 :: mv)), (nw, .inl (G.2 0, 15642, .inl nf)), (kp, .inl (G.2 0, 15642, .inl (upd fkp_1 (x9 : Int32).toNatClampNeg v_2)))]) H := hP
        have hD : va_D A ([(mo, .inr (12, .ref nw :: .ref kp :: m2 :: mv)), (nw, .inl (G.2 0, 15642, .inl nf)), (kp, .inl (G.2 0, 15642, .inl (upd fkp_1 (x9 : Int32).toNatClampNeg v_2)))]) := hD
        generalize upd fkp_1 (x9 : Int32).toNatClampNeg v_2 = f_3 at hP hD
        obtain ⟨v_4, ev_4⟩ : ∃ y : Int32, y = x9 + 1 := ⟨_, rfl⟩
        refine lv_iinc (v := v_4) (lv' := [(1, .int v_4), (0, .ref mo)]) hx hb dX12_keeps_21 hl (k := 0) rfl (by rw [ev_4]; rfl) (by decide) rfl (fun ls hl => ?_)
        refine lv_goto (tgt := 2) hx hb dX12_keeps_24 (by decide) ?_
        exact ih (i + 1) _ f_3 _ _ _ (by omega) (by omega) (by rw [ev_4, ex9]; exact nI_1 i) hP hD hS (lv_sub hl [0, 1] rfl)
  refine lp_1 _ ?_ (15643) 0 0 kf _ _ _ (by omega) (by omega) nI_0.symm hP hD hS (lv_sub hl [0, 1] rfl)
  intro fkp_1 H locs ls hP hD hS hl
  refine lv_aload_n hx hb dX12_keeps_27 rfl (lv_at hl 0 rfl) ?_
  refine lv_iconst (v := 1) hx hb dX12_keeps_28 (by decide) ?_
  refine va_put (D := G.1) (ci := 12) (v := .int 1) (ty := tyX12 2) (C := RX12) (T := TX12) (N := 32) hx hb ht inlX12 tyX12 tyX12_ok nmX12 hown hK.1 hP hD hS 0 rfl rfl 2 (by decide) (ht (Cond.fieldLink RX12 84 "PloughDepotModel" "isKept" "Z") mw_12_3) (fun _ h9 => h9) rfl (tyX12_ok 2 (by decide)) rfl rfl (by simp) dX12_keeps_29 (fun H locs hP hD hS => ?_)
  have hP : va_P G.1 vwCl ([(mo, .inr (12, .ref nw :: .ref kp :: .int 1 :: mv)), (nw, .inl (G.2 0, 15642, .inl nf)), (kp, .inl (G.2 0, 15642, .inl fkp_1))]) H := hP
  have hD : va_D A ([(mo, .inr (12, .ref nw :: .ref kp :: .int 1 :: mv)), (nw, .inl (G.2 0, 15642, .inl nf)), (kp, .inl (G.2 0, 15642, .inl fkp_1))]) := hD
  have hP9 := hP.sub (ws' := [(mo, .inr (12, .ref nw :: .ref kp :: .int 1 :: mv)), (nw, .inl (G.2 0, 15642, .inl nf)), (kp, .inl (G.2 0, 15642, .inl fkp_1))]) [0, 1, 2] rfl
  have hD9 := hD.sub (ws' := [(mo, .inr (12, .ref nw :: .ref kp :: .int 1 :: mv)), (nw, .inl (G.2 0, 15642, .inl nf)), (kp, .inl (G.2 0, 15642, .inl fkp_1))]) [0, 1, 2] (by decide) rfl
  exact W.vret hx hb hr (fun t ht hW => ⟨⟨fkp_1, rfl, trivial, ⟨by rw [ht]; exact hP9, hD9⟩⟩, hS.F ht⟩) hS.2.2 dX12_keeps_32

set_option maxHeartbeats 4000000 in
set_option maxRecDepth 100000 in
theorem r_crossings (l : Launch) (G : GG) (sz : Nat) (mo : Nat) (x1 : Int32) (nw : Nat) (kp : Nat) (m2 : Value) (m3 : Value) (m4 : Value) (m5 : Value) (m6 : Value) (m7 : Value) (m8 : Value) (m9 : Value) (m10 : Value) (mv : List Value) (nf : Nat → Int32) (kf : Nat → Int32) (hz : ∀ j, j < 16 → nf j = 0) : Met l yX12_crossings (.code yX12_crossings cX12_crossings 2 (some .int) :: TT) ({ frames := 3, cells := 0, slots := 0, locals := 300 } : Room) (c0_P G [.ref mo, .int x1] sz ([(mo, .inr (12, .ref nw :: .ref kp :: m2 :: m3 :: m4 :: m5 :: m6 :: m7 :: m8 :: m9 :: m10 :: mv)), (nw, .inl (G.2 0, 15642, .inl nf)), (kp, .inl (G.2 0, 15642, .inl kf))])) (va_Qi (S := Unit) (fun (r : Int32) (u : Unit) => r = sp_crossings x1) (fun (u : Unit) (t : State) => True) (va_A ([(mo, .inr (12, .ref nw :: .ref kp :: m2 :: m3 :: m4 :: m5 :: m6 :: m7 :: m8 :: m9 :: m10 :: mv)), (nw, .inl (G.2 0, 15642, .inl nf)), (kp, .inl (G.2 0, 15642, .inl kf))]) sz)) 0 0 (va_A ([(mo, .inr (12, .ref nw :: .ref kp :: m2 :: m3 :: m4 :: m5 :: m6 :: m7 :: m8 :: m9 :: m10 :: mv)), (nw, .inl (G.2 0, 15642, .inl nf)), (kp, .inl (G.2 0, 15642, .inl kf))]) sz) := by
  refine Met.ofW (cc := cX12_crossings) (maxL := 2) (ret := (some .int)) (by decide) rfl ?_
  intro p e s m args below meth c s₁ B hml hv
  obtain ⟨rfl, hsz, hP, hK, hD0⟩ := hv
  have hx := B.exec
  have hb := B.bytes
  have hr := B.returns
  have hts := atoms_spec (ws := .code yX12_crossings cX12_crossings 2 (some .int) :: TT) B.pre
  have ht := fun (w : Cond) (h : w ∈ TT) => hts w (List.mem_cons_of_mem _ h)
  have hown : s.vm.findClass RX12 = some m.cls := findClass_of_methodNamed B.named
  have hlocks := B.notSynchronized
  subst hsz
  have hD := hD0.self (sz := s.heap.size)
  generalize hAe : va_A ([(mo, .inr (12, .ref nw :: .ref kp :: m2 :: m3 :: m4 :: m5 :: m6 :: m7 :: m8 :: m9 :: m10 :: mv)), (nw, .inl (G.2 0, 15642, .inl nf)), (kp, .inl (G.2 0, 15642, .inl kf))]) s.heap.size = A at hD ⊢
  have hA : ∀ q : Nat, s.heap.size ≤ q → A q := fun q h => by rw [← hAe]; exact Or.inr h
  have hS : va_S A s.heap s.heap [] := va_S.rf
  have hP : va_P G.1 vwCl ([(mo, .inr (12, .ref nw :: .ref kp :: m2 :: m3 :: m4 :: m5 :: m6 :: m7 :: m8 :: m9 :: m10 :: mv)), (nw, .inl (G.2 0, 15642, .inl nf)), (kp, .inl (G.2 0, 15642, .inl kf))]) s.heap := hP
  have hl := lv_entry ([.ref mo, .int x1]) (n := 2) (Nat.le_of_ble_eq_true rfl)
  rw [lg_entry_eq]
  generalize (lg_sl ([.ref mo, .int x1]) ++ List.replicate (2 - (lg_sl ([.ref mo, .int x1])).length) Slot.unset).toArray = ls at hl ⊢
  have hl : lv_has ls 2 [(0, .ref mo), (1, .int x1)] := hl
  refine lv_iload_n hx hb dX12_crossings_0 rfl (lv_at hl 1 rfl) ?_
  refine lv_iconst (v := 1) hx hb dX12_crossings_1 (by decide) ?_
  refine lv_bipush (v := 20) hx hb dX12_crossings_2 (by decide) ?_
  have hPc := hP.sub (ws' := []) [] rfl
  have hDc := hD.sub (ws' := []) [] (by decide) rfl
  have hFc := va_free (wc := []) hD hS hA [] rfl
  refine va_calli (va_runS (As := [.int x1, .int 1, .int 20]) (rest := []) ⟨hx, hb, hml, hown, hts⟩ (r_in l G _ x1 1 20 ) (va_cwS 3 hts (gd_S mw_11_11 mw_11_12 mw_1_5 mw_11_13) rfl rfl rfl yk_X12_in ⟨Nat.le_of_ble_eq_true rfl, Nat.le_of_ble_eq_true rfl⟩) (c0_pre hPc hK hDc) rfl rfl hl.1 rfl (lv_room (Nat.le_of_ble_eq_true rfl)) dX12_crossings_4 ⟨Nat.le_of_ble_eq_true rfl, Nat.le_of_ble_eq_true rfl⟩) hS (fun q _ h => hFc q h) hFc (fun r_1 u t H1 locs ht1 hvm hw hB hz1 hk1 hS => ?_)
  try dsimp only at hw hB
  have hr1 := hw
  obtain ⟨hP1, hD1⟩ := hB
  rw [ht1] at hP1
  obtain ⟨hP, hD⟩ := va_join (wr := [(mo, .inr (12, .ref nw :: .ref kp :: m2 :: m3 :: m4 :: m5 :: m6 :: m7 :: m8 :: m9 :: m10 :: mv)), (nw, .inl (G.2 0, 15642, .inl nf)), (kp, .inl (G.2 0, 15642, .inl kf))]) (w1 := []) hP hD [] [0, 1, 2] rfl rfl (by decide) (by decide) hk1 hFc hP1 hD1
  generalize H1 = H at hP hS ⊢
  have hP : va_P G.1 vwCl ([(mo, .inr (12, .ref nw :: .ref kp :: m2 :: m3 :: m4 :: m5 :: m6 :: m7 :: m8 :: m9 :: m10 :: mv)), (nw, .inl (G.2 0, 15642, .inl nf)), (kp, .inl (G.2 0, 15642, .inl kf))]) H := hP
  have hD : va_D A ([(mo, .inr (12, .ref nw :: .ref kp :: m2 :: m3 :: m4 :: m5 :: m6 :: m7 :: m8 :: m9 :: m10 :: mv)), (nw, .inl (G.2 0, 15642, .inl nf)), (kp, .inl (G.2 0, 15642, .inl kf))]) := hD
  rcases sp_in_c x1 1 20 with ⟨c_2a, c_2b, he9⟩ | ⟨c_2, he9⟩
  · obtain rfl : r_1 = 1 := hr1.trans he9
    refine lv_if_ne (tgt := 17) hx hb dX12_crossings_7 (by decide) (fun c_3 => ?_) (fun c_3 => ?_)
    · refine lv_aload_n hx hb dX12_crossings_17 rfl (lv_at hl 0 rfl) ?_
      refine va_get (D := G.1) (ci := 12) (v := .ref nw) (C := RX12) (T := TX12) (N := 32) hx hb ht inlX12 hown hK.1 hP 0 rfl rfl 0 (by decide) (ht (Cond.fieldLink RX12 7 "PloughDepotModel" "now" "[I") mw_6_19) (fun _ h9 => h9) rfl dX12_crossings_18 ?_
      refine lv_iconst (v := 0) hx hb dX12_crossings_21 (by decide) ?_
      refine va_iald hx hb hK.1 hP 1 0 rfl rfl (show ¬ ((0 : Int32) < 0 ∨ 15642 ≤ (0 : Int32).toNatClampNeg) by decide) dX12_crossings_22 ?_
      refine lv_topi (fun v_4 ev_4 => ?_)
      obtain rfl : 0 = v_4 := (ev_4.trans (hz _ (by decide))).symm
      refine lv_iload_n hx hb dX12_crossings_23 rfl (lv_at hl 1 rfl) ?_
      refine lv_iadd hx hb dX12_crossings_24 ?_
      refine lv_topi (fun v_5 ev_5 => ?_)
      obtain rfl : x1 = v_5 := (ev_5.trans (Int32.zero_add _)).symm
      refine lv_bipush (v := 60) hx hb dX12_crossings_25 (by decide) ?_
      refine lv_icmp_le (tgt := 37) hx hb dX12_crossings_27 (by decide) (fun c_6 => ?_) (fun c_6 => ?_)
      · refine lv_aload_n hx hb dX12_crossings_37 rfl (lv_at hl 0 rfl) ?_
        have hPc := hP.sub (ws' := [(mo, .inr (12, .ref nw :: .ref kp :: m2 :: m3 :: m4 :: m5 :: m6 :: m7 :: m8 :: m9 :: m10 :: mv)), (nw, .inl (G.2 0, 15642, .inl nf)), (kp, .inl (G.2 0, 15642, .inl kf))]) [0, 1, 2] rfl
        have hDc := hD.sub (ws' := [(mo, .inr (12, .ref nw :: .ref kp :: m2 :: m3 :: m4 :: m5 :: m6 :: m7 :: m8 :: m9 :: m10 :: mv)), (nw, .inl (G.2 0, 15642, .inl nf)), (kp, .inl (G.2 0, 15642, .inl kf))]) [0, 1, 2] (by decide) rfl
        have hFc := va_free (wc := [(mo, .inr (12, .ref nw :: .ref kp :: m2 :: m3 :: m4 :: m5 :: m6 :: m7 :: m8 :: m9 :: m10 :: mv)), (nw, .inl (G.2 0, 15642, .inl nf)), (kp, .inl (G.2 0, 15642, .inl kf))]) hD hS hA [0, 1, 2] rfl
        refine va_callv (va_runV (As := []) (rest := []) ⟨hx, hb, hml, hown, hts⟩ (r_keeps l G _ mo nw kp m2 (m3 :: m4 :: m5 :: m6 :: m7 :: m8 :: m9 :: m10 :: mv) nf kf ) (cwV 0 hts (gd_V mw_11_23 mw_12_0 mw_12_1 mw_1_5 mw_12_2) rfl rfl rfl ⟨rfl, yk_X12_keeps⟩ ⟨Nat.le_of_ble_eq_true rfl, Nat.le_of_ble_eq_true rfl⟩) (c0_preV (q0 := 0) (ci := 12) (q := (RX12, TX12, 32)) hPc hK hDc rfl rfl) rfl rfl hl.1 rfl (lv_room (Nat.le_of_ble_eq_true rfl)) dX12_crossings_38 ⟨Nat.le_of_ble_eq_true rfl, Nat.le_of_ble_eq_true rfl⟩) hS (fun q _ h => hFc q h) hFc (fun u t H1 locs ht1 hvm hw hB hz1 hk1 hS => ?_)
        obtain ⟨kf2_7, rfl⟩ : ∃ z, z = u := ⟨_, rfl⟩
        try dsimp only at hw hB
        obtain ⟨hP1, hD1⟩ := hB
        rw [ht1] at hP1
        obtain ⟨hP, hD⟩ := va_join (wr := []) (w1 := [(mo, .inr (12, .ref nw :: .ref kp :: .int 1 :: m3 :: m4 :: m5 :: m6 :: m7 :: m8 :: m9 :: m10 :: mv)), (nw, .inl (G.2 0, 15642, .inl nf)), (kp, .inl (G.2 0, 15642, .inl kf2_7))]) hP hD [0, 1, 2] [] rfl rfl (by decide) (by decide) hk1 hFc hP1 hD1
        generalize H1 = H at hP hS ⊢
        have hP : va_P G.1 vwCl ([(mo, .inr (12, .ref nw :: .ref kp :: .int 1 :: m3 :: m4 :: m5 :: m6 :: m7 :: m8 :: m9 :: m10 :: mv)), (nw, .inl (G.2 0, 15642, .inl nf)), (kp, .inl (G.2 0, 15642, .inl kf2_7))]) H := hP
        have hD : va_D A ([(mo, .inr (12, .ref nw :: .ref kp :: .int 1 :: m3 :: m4 :: m5 :: m6 :: m7 :: m8 :: m9 :: m10 :: mv)), (nw, .inl (G.2 0, 15642, .inl nf)), (kp, .inl (G.2 0, 15642, .inl kf2_7))]) := hD
        refine lv_aload_n hx hb dX12_crossings_41 rfl (lv_at hl 0 rfl) ?_
        refine lv_iconst (v := 0) hx hb dX12_crossings_42 (by decide) ?_
        refine va_put (D := G.1) (ci := 12) (v := .int 0) (ty := tyX12 10) (C := RX12) (T := TX12) (N := 32) hx hb ht inlX12 tyX12 tyX12_ok nmX12 hown hK.1 hP hD hS 0 rfl rfl 10 (by decide) (ht (Cond.fieldLink RX12 99 "PloughDepotModel" "isReckoned" "Z") mw_11_10) (fun _ h9 => h9) rfl (tyX12_ok 10 (by decide)) rfl rfl (by simp) dX12_crossings_43 (fun H locs hP hD hS => ?_)
        have hP : va_P G.1 vwCl ([(mo, .inr (12, .ref nw :: .ref kp :: .int 1 :: m3 :: m4 :: m5 :: m6 :: m7 :: m8 :: m9 :: .int 0 :: mv)), (nw, .inl (G.2 0, 15642, .inl nf)), (kp, .inl (G.2 0, 15642, .inl kf2_7))]) H := hP
        have hD : va_D A ([(mo, .inr (12, .ref nw :: .ref kp :: .int 1 :: m3 :: m4 :: m5 :: m6 :: m7 :: m8 :: m9 :: .int 0 :: mv)), (nw, .inl (G.2 0, 15642, .inl nf)), (kp, .inl (G.2 0, 15642, .inl kf2_7))]) := hD
        refine lv_aload_n hx hb dX12_crossings_46 rfl (lv_at hl 0 rfl) ?_
        refine va_get (D := G.1) (ci := 12) (v := .ref nw) (C := RX12) (T := TX12) (N := 32) hx hb ht inlX12 hown hK.1 hP 0 rfl rfl 0 (by decide) (ht (Cond.fieldLink RX12 7 "PloughDepotModel" "now" "[I") mw_6_19) (fun _ h9 => h9) rfl dX12_crossings_47 ?_
        refine lv_iconst (v := 0) hx hb dX12_crossings_50 (by decide) ?_
        refine lv_dup2_11 hx hb dX12_crossings_51 rfl rfl ?_
        refine va_iald hx hb hK.1 hP 1 0 rfl rfl (show ¬ ((0 : Int32) < 0 ∨ 15642 ≤ (0 : Int32).toNatClampNeg) by decide) dX12_crossings_52 ?_
        refine lv_topi (fun v_8 ev_8 => ?_)
        obtain rfl : 0 = v_8 := (ev_8.trans (hz _ (by decide))).symm
        refine lv_iload_n hx hb dX12_crossings_53 rfl (lv_at hl 1 rfl) ?_
        refine lv_iadd hx hb dX12_crossings_54 ?_
        refine lv_topi (fun v_9 ev_9 => ?_)
        obtain rfl : x1 = v_9 := (ev_9.trans (Int32.zero_add _)).symm
        refine va_iast hx hb hK.1 hP hD hS 1 0 rfl rfl (show ¬ ((0 : Int32) < 0 ∨ 15642 ≤ (0 : Int32).toNatClampNeg) by decide) dX12_crossings_55 (fun H locs hP hD hS => ?_)
        have hP : va_P G.1 vwCl ([(mo, .inr (12, .ref nw :: .ref kp :: .int 1 :: m3 :: m4 :: m5 :: m6 :: m7 :: m8 :: m9 :: .int 0 :: mv)), (nw, .inl (G.2 0, 15642, .inl (upd nf (0 : Int32).toNatClampNeg x1))), (kp, .inl (G.2 0, 15642, .inl kf2_7))]) H := hP
        have hD : va_D A ([(mo, .inr (12, .ref nw :: .ref kp :: .int 1 :: m3 :: m4 :: m5 :: m6 :: m7 :: m8 :: m9 :: .int 0 :: mv)), (nw, .inl (G.2 0, 15642, .inl (upd nf (0 : Int32).toNatClampNeg x1))), (kp, .inl (G.2 0, 15642, .inl kf2_7))]) := hD
        refine lv_aload_n hx hb dX12_crossings_56 rfl (lv_at hl 0 rfl) ?_
        refine lv_aload_n hx hb dX12_crossings_57 rfl (lv_at hl 0 rfl) ?_
        refine va_get (D := G.1) (ci := 12) (v := .ref nw) (C := RX12) (T := TX12) (N := 32) hx hb ht inlX12 hown hK.1 hP 0 rfl rfl 0 (by decide) (ht (Cond.fieldLink RX12 7 "PloughDepotModel" "now" "[I") mw_6_19) (fun _ h9 => h9) rfl dX12_crossings_58 ?_
        refine lv_iconst (v := 0) hx hb dX12_crossings_61 (by decide) ?_
        refine va_iald hx hb hK.1 hP 1 0 rfl rfl (show ¬ ((0 : Int32) < 0 ∨ 15642 ≤ (0 : Int32).toNatClampNeg) by decide) dX12_crossings_62 ?_
        refine lv_topi (fun v_10 ev_10 => ?_)
        obtain rfl : x1 = v_10 := (ev_10.trans (pk_us)).symm
        have hPc := hP.sub (ws' := [(mo, .inr (12, .ref nw :: .ref kp :: .int 1 :: m3 :: m4 :: m5 :: m6 :: m7 :: m8 :: m9 :: .int 0 :: mv))]) [0] rfl
        have hDc := hD.sub (ws' := [(mo, .inr (12, .ref nw :: .ref kp :: .int 1 :: m3 :: m4 :: m5 :: m6 :: m7 :: m8 :: m9 :: .int 0 :: mv))]) [0] (by decide) rfl
        have hFc := va_free (wc := [(mo, .inr (12, .ref nw :: .ref kp :: .int 1 :: m3 :: m4 :: m5 :: m6 :: m7 :: m8 :: m9 :: .int 0 :: mv))]) hD hS hA [0] rfl
        refine va_calli (va_runV (As := [.int x1]) (rest := []) ⟨hx, hb, hml, hown, hts⟩ (r_says l G _ mo x1 (.ref nw) (.ref kp) (.int 1) m3 (m4 :: m5 :: m6 :: m7 :: m8 :: m9 :: .int 0 :: mv) ) (cwV 1 hts (gd_V mw_12_4 mw_12_5 mw_12_6 mw_1_5 mw_12_7) rfl rfl rfl ⟨rfl, yk_X12_says⟩ ⟨Nat.le_of_ble_eq_true rfl, Nat.le_of_ble_eq_true rfl⟩) (c0_preV (q0 := 0) (ci := 12) (q := (RX12, TX12, 32)) hPc hK hDc rfl rfl) rfl rfl hl.1 rfl (lv_room (Nat.le_of_ble_eq_true rfl)) dX12_crossings_63 ⟨Nat.le_of_ble_eq_true rfl, Nat.le_of_ble_eq_true rfl⟩) hS (fun q _ h => hFc q h) hFc (fun r_11 u t H1 locs ht1 hvm hw hB hz1 hk1 hS => ?_)
        try dsimp only at hw hB
        have hr11 := hw
        obtain rfl := hr11.symm
        obtain ⟨hP1, hD1⟩ := hB
        rw [ht1] at hP1
        obtain ⟨hP, hD⟩ := va_join (wr := [(nw, .inl (G.2 0, 15642, .inl (upd nf (0 : Int32).toNatClampNeg x1))), (kp, .inl (G.2 0, 15642, .inl kf2_7))]) (w1 := [(mo, .inr (12, .ref nw :: .ref kp :: .int 1 :: .int 0 :: m4 :: m5 :: m6 :: m7 :: m8 :: m9 :: .int 0 :: mv))]) hP hD [0] [1, 2] rfl rfl (by decide) (by decide) hk1 hFc hP1 hD1
        generalize H1 = H at hP hS ⊢
        have hP : va_P G.1 vwCl ([(nw, .inl (G.2 0, 15642, .inl (upd nf (0 : Int32).toNatClampNeg x1))), (kp, .inl (G.2 0, 15642, .inl kf2_7)), (mo, .inr (12, .ref nw :: .ref kp :: .int 1 :: .int 0 :: m4 :: m5 :: m6 :: m7 :: m8 :: m9 :: .int 0 :: mv))]) H := hP
        have hD : va_D A ([(nw, .inl (G.2 0, 15642, .inl (upd nf (0 : Int32).toNatClampNeg x1))), (kp, .inl (G.2 0, 15642, .inl kf2_7)), (mo, .inr (12, .ref nw :: .ref kp :: .int 1 :: .int 0 :: m4 :: m5 :: m6 :: m7 :: m8 :: m9 :: .int 0 :: mv))]) := hD
        exact W.iret (v := x1) hx hb hr (fun t ht hW => ⟨⟨x1, (), rfl, (by unfold sp_crossings; split <;> rename_i hc9 <;> first | rfl | (exfalso; simp only [fa_lt, fa_le, fa_eq] at hc9 c_2a c_2b c_3 c_6; have n0 : (0 : Int32).toInt = 0 := (by decide); have n1 : (1 : Int32).toInt = 1 := (by decide); have n20 : (20 : Int32).toInt = 20 := (by decide); have n60 : (60 : Int32).toInt = 60 := (by decide); omega)), trivial⟩, hS.F ht⟩) hS.2.2 dX12_crossings_66
      · exfalso; simp only [fa_lt, fa_le, fa_eq] at c_2a c_2b c_3 c_6; have n0 : (0 : Int32).toInt = 0 := (by decide); have n1 : (1 : Int32).toInt = 1 := (by decide); have n20 : (20 : Int32).toInt = 20 := (by decide); have n60 : (60 : Int32).toInt = 60 := (by decide); omega
    · exact absurd c_3 (by decide)
  · obtain rfl : r_1 = 0 := hr1.trans he9
    refine lv_if_ne (tgt := 17) hx hb dX12_crossings_7 (by decide) (fun c_12 => ?_) (fun c_12 => ?_)
    · exact absurd c_12 (by decide)
    · refine lv_aload_n hx hb dX12_crossings_10 rfl (lv_at hl 0 rfl) ?_
      refine lv_bipush (v := (-2)) hx hb dX12_crossings_11 (by decide) ?_
      have hPc := hP.sub (ws' := [(mo, .inr (12, .ref nw :: .ref kp :: m2 :: m3 :: m4 :: m5 :: m6 :: m7 :: m8 :: m9 :: m10 :: mv))]) [0] rfl
      have hDc := hD.sub (ws' := [(mo, .inr (12, .ref nw :: .ref kp :: m2 :: m3 :: m4 :: m5 :: m6 :: m7 :: m8 :: m9 :: m10 :: mv))]) [0] (by decide) rfl
      have hFc := va_free (wc := [(mo, .inr (12, .ref nw :: .ref kp :: m2 :: m3 :: m4 :: m5 :: m6 :: m7 :: m8 :: m9 :: m10 :: mv))]) hD hS hA [0] rfl
      refine va_calli (va_runV (As := [.int (-2)]) (rest := []) ⟨hx, hb, hml, hown, hts⟩ (r_refuses_m2 l G _ mo (.ref nw) (.ref kp) m2 m3 (m4 :: m5 :: m6 :: m7 :: m8 :: m9 :: m10 :: mv) ) (cwV 1 hts (gd_V mw_11_14 mw_11_15 mw_11_16 mw_1_5 mw_11_17) rfl rfl rfl ⟨rfl, yk_X12_refuses⟩ ⟨Nat.le_of_ble_eq_true rfl, Nat.le_of_ble_eq_true rfl⟩) (c0_preV (q0 := 0) (ci := 12) (q := (RX12, TX12, 32)) hPc hK hDc rfl rfl) rfl rfl hl.1 rfl (lv_room (Nat.le_of_ble_eq_true rfl)) dX12_crossings_13 ⟨Nat.le_of_ble_eq_true rfl, Nat.le_of_ble_eq_true rfl⟩) hS (fun q _ h => hFc q h) hFc (fun r_13 u t H1 locs ht1 hvm hw hB hz1 hk1 hS => ?_)
      try dsimp only at hw hB
      have hr13 := hw
      obtain rfl := hr13.symm
      obtain ⟨hP1, hD1⟩ := hB
      rw [ht1] at hP1
      obtain ⟨hP, hD⟩ := va_join (wr := [(nw, .inl (G.2 0, 15642, .inl nf)), (kp, .inl (G.2 0, 15642, .inl kf))]) (w1 := [(mo, .inr (12, .ref nw :: .ref kp :: m2 :: .int (-2) :: m4 :: m5 :: m6 :: m7 :: m8 :: m9 :: m10 :: mv))]) hP hD [0] [1, 2] rfl rfl (by decide) (by decide) hk1 hFc hP1 hD1
      generalize H1 = H at hP hS ⊢
      have hP : va_P G.1 vwCl ([(nw, .inl (G.2 0, 15642, .inl nf)), (kp, .inl (G.2 0, 15642, .inl kf)), (mo, .inr (12, .ref nw :: .ref kp :: m2 :: .int (-2) :: m4 :: m5 :: m6 :: m7 :: m8 :: m9 :: m10 :: mv))]) H := hP
      have hD : va_D A ([(nw, .inl (G.2 0, 15642, .inl nf)), (kp, .inl (G.2 0, 15642, .inl kf)), (mo, .inr (12, .ref nw :: .ref kp :: m2 :: .int (-2) :: m4 :: m5 :: m6 :: m7 :: m8 :: m9 :: m10 :: mv))]) := hD
      exact W.iret (v := (-2)) hx hb hr (fun t ht hW => ⟨⟨(-2), (), rfl, (by unfold sp_crossings; split <;> rename_i hc9 <;> first | rfl | (exfalso; simp only [fa_lt, fa_le, fa_eq] at hc9 c_2 c_12; have n0 : (0 : Int32).toInt = 0 := (by decide); have n1 : (1 : Int32).toInt = 1 := (by decide); have n20 : (20 : Int32).toInt = 20 := (by decide); omega)), trivial⟩, hS.F ht⟩) hS.2.2 dX12_crossings_16

set_option maxHeartbeats 4000000 in
set_option maxRecDepth 100000 in
theorem r_snow (l : Launch) (G : GG) (sz : Nat) (mo : Nat) (x1 : Int32) (nw : Nat) (kp : Nat) (m2 : Value) (m3 : Value) (mv : List Value) (nf : Nat → Int32) (kf : Nat → Int32) (hz : ∀ j, j < 16 → nf j = 0) : Met l yX12_snow (.code yX12_snow cX12_snow 4 (some .int) :: TT) ({ frames := 3, cells := 0, slots := 0, locals := 300 } : Room) (c0_P G [.ref mo, .int x1] sz ([(mo, .inr (12, .ref nw :: .ref kp :: m2 :: m3 :: mv)), (nw, .inl (G.2 0, 15642, .inl nf)), (kp, .inl (G.2 0, 15642, .inl kf))])) (va_Qi (S := Unit) (fun (r : Int32) (u : Unit) => r = sp_snow x1) (fun (u : Unit) (t : State) => True) (va_A ([(mo, .inr (12, .ref nw :: .ref kp :: m2 :: m3 :: mv)), (nw, .inl (G.2 0, 15642, .inl nf)), (kp, .inl (G.2 0, 15642, .inl kf))]) sz)) 0 0 (va_A ([(mo, .inr (12, .ref nw :: .ref kp :: m2 :: m3 :: mv)), (nw, .inl (G.2 0, 15642, .inl nf)), (kp, .inl (G.2 0, 15642, .inl kf))]) sz) := by
  refine Met.ofW (cc := cX12_snow) (maxL := 4) (ret := (some .int)) (by decide) rfl ?_
  intro p e s m args below meth c s₁ B hml hv
  obtain ⟨rfl, hsz, hP, hK, hD0⟩ := hv
  have hx := B.exec
  have hb := B.bytes
  have hr := B.returns
  have hts := atoms_spec (ws := .code yX12_snow cX12_snow 4 (some .int) :: TT) B.pre
  have ht := fun (w : Cond) (h : w ∈ TT) => hts w (List.mem_cons_of_mem _ h)
  have hown : s.vm.findClass RX12 = some m.cls := findClass_of_methodNamed B.named
  have hlocks := B.notSynchronized
  subst hsz
  have hD := hD0.self (sz := s.heap.size)
  generalize hAe : va_A ([(mo, .inr (12, .ref nw :: .ref kp :: m2 :: m3 :: mv)), (nw, .inl (G.2 0, 15642, .inl nf)), (kp, .inl (G.2 0, 15642, .inl kf))]) s.heap.size = A at hD ⊢
  have hA : ∀ q : Nat, s.heap.size ≤ q → A q := fun q h => by rw [← hAe]; exact Or.inr h
  have hS : va_S A s.heap s.heap [] := va_S.rf
  have hP : va_P G.1 vwCl ([(mo, .inr (12, .ref nw :: .ref kp :: m2 :: m3 :: mv)), (nw, .inl (G.2 0, 15642, .inl nf)), (kp, .inl (G.2 0, 15642, .inl kf))]) s.heap := hP
  have hl := lv_entry ([.ref mo, .int x1]) (n := 4) (Nat.le_of_ble_eq_true rfl)
  rw [lg_entry_eq]
  generalize (lg_sl ([.ref mo, .int x1]) ++ List.replicate (4 - (lg_sl ([.ref mo, .int x1])).length) Slot.unset).toArray = ls at hl ⊢
  have hl : lv_has ls 4 [(0, .ref mo), (1, .int x1)] := hl
  refine lv_iload_n hx hb dX12_snow_0 rfl (lv_at hl 1 rfl) ?_
  refine lv_iconst (v := 0) hx hb dX12_snow_1 (by decide) ?_
  refine lv_sipush (v := 199) hx hb dX12_snow_2 (by decide) ?_
  have hPc := hP.sub (ws' := []) [] rfl
  have hDc := hD.sub (ws' := []) [] (by decide) rfl
  have hFc := va_free (wc := []) hD hS hA [] rfl
  refine va_calli (va_runS (As := [.int x1, .int 0, .int 199]) (rest := []) ⟨hx, hb, hml, hown, hts⟩ (r_in l G _ x1 0 199 ) (va_cwS 3 hts (gd_S mw_11_11 mw_11_12 mw_1_5 mw_11_13) rfl rfl rfl yk_X12_in ⟨Nat.le_of_ble_eq_true rfl, Nat.le_of_ble_eq_true rfl⟩) (c0_pre hPc hK hDc) rfl rfl hl.1 rfl (lv_room (Nat.le_of_ble_eq_true rfl)) dX12_snow_5 ⟨Nat.le_of_ble_eq_true rfl, Nat.le_of_ble_eq_true rfl⟩) hS (fun q _ h => hFc q h) hFc (fun r_1 u t H1 locs ht1 hvm hw hB hz1 hk1 hS => ?_)
  try dsimp only at hw hB
  have hr1 := hw
  obtain ⟨hP1, hD1⟩ := hB
  rw [ht1] at hP1
  obtain ⟨hP, hD⟩ := va_join (wr := [(mo, .inr (12, .ref nw :: .ref kp :: m2 :: m3 :: mv)), (nw, .inl (G.2 0, 15642, .inl nf)), (kp, .inl (G.2 0, 15642, .inl kf))]) (w1 := []) hP hD [] [0, 1, 2] rfl rfl (by decide) (by decide) hk1 hFc hP1 hD1
  generalize H1 = H at hP hS ⊢
  have hP : va_P G.1 vwCl ([(mo, .inr (12, .ref nw :: .ref kp :: m2 :: m3 :: mv)), (nw, .inl (G.2 0, 15642, .inl nf)), (kp, .inl (G.2 0, 15642, .inl kf))]) H := hP
  have hD : va_D A ([(mo, .inr (12, .ref nw :: .ref kp :: m2 :: m3 :: mv)), (nw, .inl (G.2 0, 15642, .inl nf)), (kp, .inl (G.2 0, 15642, .inl kf))]) := hD
  rcases sp_in_c x1 0 199 with ⟨c_2a, c_2b, he9⟩ | ⟨c_2, he9⟩
  · obtain rfl : r_1 = 1 := hr1.trans he9
    refine lv_if_ne (tgt := 18) hx hb dX12_snow_8 (by decide) (fun c_3 => ?_) (fun c_3 => ?_)
    · refine lv_aload_n hx hb dX12_snow_18 rfl (lv_at hl 0 rfl) ?_
      have hPc := hP.sub (ws' := [(mo, .inr (12, .ref nw :: .ref kp :: m2 :: m3 :: mv)), (nw, .inl (G.2 0, 15642, .inl nf)), (kp, .inl (G.2 0, 15642, .inl kf))]) [0, 1, 2] rfl
      have hDc := hD.sub (ws' := [(mo, .inr (12, .ref nw :: .ref kp :: m2 :: m3 :: mv)), (nw, .inl (G.2 0, 15642, .inl nf)), (kp, .inl (G.2 0, 15642, .inl kf))]) [0, 1, 2] (by decide) rfl
      have hFc := va_free (wc := [(mo, .inr (12, .ref nw :: .ref kp :: m2 :: m3 :: mv)), (nw, .inl (G.2 0, 15642, .inl nf)), (kp, .inl (G.2 0, 15642, .inl kf))]) hD hS hA [0, 1, 2] rfl
      refine va_callv (va_runV (As := []) (rest := []) ⟨hx, hb, hml, hown, hts⟩ (r_keeps l G _ mo nw kp m2 (m3 :: mv) nf kf ) (cwV 0 hts (gd_V mw_11_23 mw_12_0 mw_12_1 mw_1_5 mw_12_2) rfl rfl rfl ⟨rfl, yk_X12_keeps⟩ ⟨Nat.le_of_ble_eq_true rfl, Nat.le_of_ble_eq_true rfl⟩) (c0_preV (q0 := 0) (ci := 12) (q := (RX12, TX12, 32)) hPc hK hDc rfl rfl) rfl rfl hl.1 rfl (lv_room (Nat.le_of_ble_eq_true rfl)) dX12_snow_19 ⟨Nat.le_of_ble_eq_true rfl, Nat.le_of_ble_eq_true rfl⟩) hS (fun q _ h => hFc q h) hFc (fun u t H1 locs ht1 hvm hw hB hz1 hk1 hS => ?_)
      obtain ⟨kf2_4, rfl⟩ : ∃ z, z = u := ⟨_, rfl⟩
      try dsimp only at hw hB
      obtain ⟨hP1, hD1⟩ := hB
      rw [ht1] at hP1
      obtain ⟨hP, hD⟩ := va_join (wr := []) (w1 := [(mo, .inr (12, .ref nw :: .ref kp :: .int 1 :: m3 :: mv)), (nw, .inl (G.2 0, 15642, .inl nf)), (kp, .inl (G.2 0, 15642, .inl kf2_4))]) hP hD [0, 1, 2] [] rfl rfl (by decide) (by decide) hk1 hFc hP1 hD1
      generalize H1 = H at hP hS ⊢
      have hP : va_P G.1 vwCl ([(mo, .inr (12, .ref nw :: .ref kp :: .int 1 :: m3 :: mv)), (nw, .inl (G.2 0, 15642, .inl nf)), (kp, .inl (G.2 0, 15642, .inl kf2_4))]) H := hP
      have hD : va_D A ([(mo, .inr (12, .ref nw :: .ref kp :: .int 1 :: m3 :: mv)), (nw, .inl (G.2 0, 15642, .inl nf)), (kp, .inl (G.2 0, 15642, .inl kf2_4))]) := hD
      refine lv_iconst (v := 0) hx hb dX12_snow_22 (by decide) ?_
      refine lv_istore_n (lv' := [(2, .int 0), (0, .ref mo), (1, .int x1)]) hx hb dX12_snow_23 rfl hl (by decide) rfl (fun ls hl => ?_)
      refine lv_iload_n hx hb dX12_snow_24 rfl (lv_at hl 0 rfl) ?_
      refine lv_aload_n hx hb dX12_snow_25 rfl (lv_at hl 1 rfl) ?_
      refine va_get (D := G.1) (ci := 12) (v := .ref nw) (C := RX12) (T := TX12) (N := 32) hx hb ht inlX12 hown hK.1 hP 0 rfl rfl 0 (by decide) (ht (Cond.fieldLink RX12 7 "PloughDepotModel" "now" "[I") mw_6_19) (fun _ h9 => h9) rfl dX12_snow_26 ?_
      refine lv_iconst (v := 2) hx hb dX12_snow_29 (by decide) ?_
      refine va_iald hx hb hK.1 hP 1 0 rfl rfl (show ¬ ((2 : Int32) < 0 ∨ 15642 ≤ (2 : Int32).toNatClampNeg) by decide) dX12_snow_30 ?_
      refine lv_topi (fun v_5 ev_5 => ?_)
      obtain rfl : 0 = v_5 := (ev_5.trans (hz _ (by decide))).symm
      refine lv_icmp_ge (tgt := 111) hx hb dX12_snow_31 (by decide) (fun c_6 => ?_) (fun c_6 => ?_)
      · refine lv_iconst (v := 0) hx hb dX12_snow_111 (by decide) ?_
        refine lv_istore_n (lv' := [(2, .int 0), (0, .ref mo), (1, .int x1)]) hx hb dX12_snow_112 rfl hl (by decide) rfl (fun ls hl => ?_)
        refine lv_iconst (v := 0) hx hb dX12_snow_113 (by decide) ?_
        refine lv_istore_n (lv' := [(3, .int 0), (2, .int 0), (0, .ref mo), (1, .int x1)]) hx hb dX12_snow_114 rfl hl (by decide) rfl (fun ls hl => ?_)
        refine lv_iload_n hx hb dX12_snow_115 rfl (lv_at hl 0 rfl) ?_
        refine lv_aload_n hx hb dX12_snow_116 rfl (lv_at hl 2 rfl) ?_
        refine va_get (D := G.1) (ci := 12) (v := .ref nw) (C := RX12) (T := TX12) (N := 32) hx hb ht inlX12 hown hK.1 hP 0 rfl rfl 0 (by decide) (ht (Cond.fieldLink RX12 7 "PloughDepotModel" "now" "[I") mw_6_19) (fun _ h9 => h9) rfl dX12_snow_117 ?_
        refine lv_iconst (v := 1) hx hb dX12_snow_120 (by decide) ?_
        refine va_iald hx hb hK.1 hP 1 0 rfl rfl (show ¬ ((1 : Int32) < 0 ∨ 15642 ≤ (1 : Int32).toNatClampNeg) by decide) dX12_snow_121 ?_
        refine lv_topi (fun v_7 ev_7 => ?_)
        obtain rfl : 0 = v_7 := (ev_7.trans (hz _ (by decide))).symm
        refine lv_icmp_ge (tgt := 147) hx hb dX12_snow_122 (by decide) (fun c_8 => ?_) (fun c_8 => ?_)
        · refine lv_aload_n hx hb dX12_snow_147 rfl (lv_at hl 2 rfl) ?_
          refine lv_iload_n hx hb dX12_snow_148 rfl (lv_at hl 1 rfl) ?_
          have hPc := hP.sub (ws' := [(mo, .inr (12, .ref nw :: .ref kp :: .int 1 :: m3 :: mv))]) [0] rfl
          have hDc := hD.sub (ws' := [(mo, .inr (12, .ref nw :: .ref kp :: .int 1 :: m3 :: mv))]) [0] (by decide) rfl
          have hFc := va_free (wc := [(mo, .inr (12, .ref nw :: .ref kp :: .int 1 :: m3 :: mv))]) hD hS hA [0] rfl
          refine va_calli (va_runV (As := [.int 0]) (rest := []) ⟨hx, hb, hml, hown, hts⟩ (r_says l G _ mo 0 (.ref nw) (.ref kp) (.int 1) m3 mv ) (cwV 1 hts (gd_V mw_12_4 mw_12_5 mw_12_6 mw_1_5 mw_12_7) rfl rfl rfl ⟨rfl, yk_X12_says⟩ ⟨Nat.le_of_ble_eq_true rfl, Nat.le_of_ble_eq_true rfl⟩) (c0_preV (q0 := 0) (ci := 12) (q := (RX12, TX12, 32)) hPc hK hDc rfl rfl) rfl rfl hl.1 rfl (lv_room (Nat.le_of_ble_eq_true rfl)) dX12_snow_149 ⟨Nat.le_of_ble_eq_true rfl, Nat.le_of_ble_eq_true rfl⟩) hS (fun q _ h => hFc q h) hFc (fun r_9 u t H1 locs ht1 hvm hw hB hz1 hk1 hS => ?_)
          try dsimp only at hw hB
          have hr9 := hw
          obtain rfl := hr9.symm
          obtain ⟨hP1, hD1⟩ := hB
          rw [ht1] at hP1
          obtain ⟨hP, hD⟩ := va_join (wr := [(nw, .inl (G.2 0, 15642, .inl nf)), (kp, .inl (G.2 0, 15642, .inl kf2_4))]) (w1 := [(mo, .inr (12, .ref nw :: .ref kp :: .int 1 :: .int 0 :: mv))]) hP hD [0] [1, 2] rfl rfl (by decide) (by decide) hk1 hFc hP1 hD1
          generalize H1 = H at hP hS ⊢
          have hP : va_P G.1 vwCl ([(nw, .inl (G.2 0, 15642, .inl nf)), (kp, .inl (G.2 0, 15642, .inl kf2_4)), (mo, .inr (12, .ref nw :: .ref kp :: .int 1 :: .int 0 :: mv))]) H := hP
          have hD : va_D A ([(nw, .inl (G.2 0, 15642, .inl nf)), (kp, .inl (G.2 0, 15642, .inl kf2_4)), (mo, .inr (12, .ref nw :: .ref kp :: .int 1 :: .int 0 :: mv))]) := hD
          exact W.iret (v := 0) hx hb hr (fun t ht hW => ⟨⟨0, (), rfl, (by unfold sp_snow; split <;> rename_i hc9 <;> first | rfl | (exfalso; simp only [fa_lt, fa_le, fa_eq] at hc9 c_2a c_2b c_3 c_6 c_8; have n0 : (0 : Int32).toInt = 0 := (by decide); have n1 : (1 : Int32).toInt = 1 := (by decide); have n199 : (199 : Int32).toInt = 199 := (by decide); omega)), trivial⟩, hS.F ht⟩) hS.2.2 dX12_snow_152
        · exact absurd c_8 (by decide)
      · exact absurd c_6 (by decide)
    · exact absurd c_3 (by decide)
  · obtain rfl : r_1 = 0 := hr1.trans he9
    refine lv_if_ne (tgt := 18) hx hb dX12_snow_8 (by decide) (fun c_10 => ?_) (fun c_10 => ?_)
    · exact absurd c_10 (by decide)
    · refine lv_aload_n hx hb dX12_snow_11 rfl (lv_at hl 0 rfl) ?_
      refine lv_bipush (v := (-2)) hx hb dX12_snow_12 (by decide) ?_
      have hPc := hP.sub (ws' := [(mo, .inr (12, .ref nw :: .ref kp :: m2 :: m3 :: mv))]) [0] rfl
      have hDc := hD.sub (ws' := [(mo, .inr (12, .ref nw :: .ref kp :: m2 :: m3 :: mv))]) [0] (by decide) rfl
      have hFc := va_free (wc := [(mo, .inr (12, .ref nw :: .ref kp :: m2 :: m3 :: mv))]) hD hS hA [0] rfl
      refine va_calli (va_runV (As := [.int (-2)]) (rest := []) ⟨hx, hb, hml, hown, hts⟩ (r_refuses_m2 l G _ mo (.ref nw) (.ref kp) m2 m3 mv ) (cwV 1 hts (gd_V mw_11_14 mw_11_15 mw_11_16 mw_1_5 mw_11_17) rfl rfl rfl ⟨rfl, yk_X12_refuses⟩ ⟨Nat.le_of_ble_eq_true rfl, Nat.le_of_ble_eq_true rfl⟩) (c0_preV (q0 := 0) (ci := 12) (q := (RX12, TX12, 32)) hPc hK hDc rfl rfl) rfl rfl hl.1 rfl (lv_room (Nat.le_of_ble_eq_true rfl)) dX12_snow_14 ⟨Nat.le_of_ble_eq_true rfl, Nat.le_of_ble_eq_true rfl⟩) hS (fun q _ h => hFc q h) hFc (fun r_11 u t H1 locs ht1 hvm hw hB hz1 hk1 hS => ?_)
      try dsimp only at hw hB
      have hr11 := hw
      obtain rfl := hr11.symm
      obtain ⟨hP1, hD1⟩ := hB
      rw [ht1] at hP1
      obtain ⟨hP, hD⟩ := va_join (wr := [(nw, .inl (G.2 0, 15642, .inl nf)), (kp, .inl (G.2 0, 15642, .inl kf))]) (w1 := [(mo, .inr (12, .ref nw :: .ref kp :: m2 :: .int (-2) :: mv))]) hP hD [0] [1, 2] rfl rfl (by decide) (by decide) hk1 hFc hP1 hD1
      generalize H1 = H at hP hS ⊢
      have hP : va_P G.1 vwCl ([(nw, .inl (G.2 0, 15642, .inl nf)), (kp, .inl (G.2 0, 15642, .inl kf)), (mo, .inr (12, .ref nw :: .ref kp :: m2 :: .int (-2) :: mv))]) H := hP
      have hD : va_D A ([(nw, .inl (G.2 0, 15642, .inl nf)), (kp, .inl (G.2 0, 15642, .inl kf)), (mo, .inr (12, .ref nw :: .ref kp :: m2 :: .int (-2) :: mv))]) := hD
      exact W.iret (v := (-2)) hx hb hr (fun t ht hW => ⟨⟨(-2), (), rfl, (by unfold sp_snow; split <;> rename_i hc9 <;> first | rfl | (exfalso; simp only [fa_lt, fa_le, fa_eq] at hc9 c_2 c_10; have n0 : (0 : Int32).toInt = 0 := (by decide); have n199 : (199 : Int32).toInt = 199 := (by decide); omega)), trivial⟩, hS.F ht⟩) hS.2.2 dX12_snow_17

set_option maxHeartbeats 4000000 in
set_option maxRecDepth 100000 in
theorem r_split (l : Launch) (G : GG) (sz : Nat) (mo : Nat) (nw : Nat) (kp : Nat) (m2 : Value) (m3 : Value) (mv : List Value) (nf : Nat → Int32) (kf : Nat → Int32) (hz : ∀ j, j < 16 → nf j = 0) : Met l yX12_split (.code yX12_split cX12_split 5 (some .int) :: TT) ({ frames := 2, cells := 0, slots := 0, locals := 200 } : Room) (c0_P G [.ref mo] sz ([(mo, .inr (12, .ref nw :: .ref kp :: m2 :: m3 :: mv)), (nw, .inl (G.2 0, 15642, .inl nf)), (kp, .inl (G.2 0, 15642, .inl kf))])) (va_Qi (S := Unit) (fun (r : Int32) (u : Unit) => r = 1) (fun (u : Unit) (t : State) => True) (va_A ([(mo, .inr (12, .ref nw :: .ref kp :: m2 :: m3 :: mv)), (nw, .inl (G.2 0, 15642, .inl nf)), (kp, .inl (G.2 0, 15642, .inl kf))]) sz)) 0 0 (va_A ([(mo, .inr (12, .ref nw :: .ref kp :: m2 :: m3 :: mv)), (nw, .inl (G.2 0, 15642, .inl nf)), (kp, .inl (G.2 0, 15642, .inl kf))]) sz) := by
  refine Met.ofW (cc := cX12_split) (maxL := 5) (ret := (some .int)) (by decide) rfl ?_
  intro p e s m args below meth c s₁ B hml hv
  obtain ⟨rfl, hsz, hP, hK, hD0⟩ := hv
  have hx := B.exec
  have hb := B.bytes
  have hr := B.returns
  have hts := atoms_spec (ws := .code yX12_split cX12_split 5 (some .int) :: TT) B.pre
  have ht := fun (w : Cond) (h : w ∈ TT) => hts w (List.mem_cons_of_mem _ h)
  have hown : s.vm.findClass RX12 = some m.cls := findClass_of_methodNamed B.named
  have hlocks := B.notSynchronized
  subst hsz
  have hD := hD0.self (sz := s.heap.size)
  generalize hAe : va_A ([(mo, .inr (12, .ref nw :: .ref kp :: m2 :: m3 :: mv)), (nw, .inl (G.2 0, 15642, .inl nf)), (kp, .inl (G.2 0, 15642, .inl kf))]) s.heap.size = A at hD ⊢
  have hA : ∀ q : Nat, s.heap.size ≤ q → A q := fun q h => by rw [← hAe]; exact Or.inr h
  have hS : va_S A s.heap s.heap [] := va_S.rf
  have hP : va_P G.1 vwCl ([(mo, .inr (12, .ref nw :: .ref kp :: m2 :: m3 :: mv)), (nw, .inl (G.2 0, 15642, .inl nf)), (kp, .inl (G.2 0, 15642, .inl kf))]) s.heap := hP
  have hl := lv_entry ([.ref mo]) (n := 5) (Nat.le_of_ble_eq_true rfl)
  rw [lg_entry_eq]
  generalize (lg_sl ([.ref mo]) ++ List.replicate (5 - (lg_sl ([.ref mo])).length) Slot.unset).toArray = ls at hl ⊢
  have hl : lv_has ls 5 [(0, .ref mo)] := hl
  refine lv_iconst (v := 0) hx hb dX12_split_0 (by decide) ?_
  refine lv_istore_n (lv' := [(1, .int 0), (0, .ref mo)]) hx hb dX12_split_1 rfl hl (by decide) rfl (fun ls hl => ?_)
  refine lv_iconst (v := 0) hx hb dX12_split_2 (by decide) ?_
  refine lv_istore_n (lv' := [(2, .int 0), (1, .int 0), (0, .ref mo)]) hx hb dX12_split_3 rfl hl (by decide) rfl (fun ls hl => ?_)
  refine lv_iload_n hx hb dX12_split_4 rfl (lv_at hl 0 rfl) ?_
  refine lv_aload_n hx hb dX12_split_5 rfl (lv_at hl 2 rfl) ?_
  refine va_get (D := G.1) (ci := 12) (v := .ref nw) (C := RX12) (T := TX12) (N := 32) hx hb ht inlX12 hown hK.1 hP 0 rfl rfl 0 (by decide) (ht (Cond.fieldLink RX12 7 "PloughDepotModel" "now" "[I") mw_6_19) (fun _ h9 => h9) rfl dX12_split_6 ?_
  refine lv_iconst (v := 3) hx hb dX12_split_9 (by decide) ?_
  refine va_iald hx hb hK.1 hP 1 0 rfl rfl (show ¬ ((3 : Int32) < 0 ∨ 15642 ≤ (3 : Int32).toNatClampNeg) by decide) dX12_split_10 ?_
  refine lv_topi (fun v_1 ev_1 => ?_)
  obtain rfl : 0 = v_1 := (ev_1.trans (hz _ (by decide))).symm
  refine lv_icmp_ge (tgt := 153) hx hb dX12_split_11 (by decide) (fun c_2 => ?_) (fun c_2 => ?_)
  · refine lv_iload_n hx hb dX12_split_153 rfl (lv_at hl 1 rfl) ?_
    refine lv_aload_n hx hb dX12_split_154 rfl (lv_at hl 2 rfl) ?_
    refine va_get (D := G.1) (ci := 12) (v := .ref nw) (C := RX12) (T := TX12) (N := 32) hx hb ht inlX12 hown hK.1 hP 0 rfl rfl 0 (by decide) (ht (Cond.fieldLink RX12 7 "PloughDepotModel" "now" "[I") mw_6_19) (fun _ h9 => h9) rfl dX12_split_155 ?_
    refine lv_iconst (v := 4) hx hb dX12_split_158 (by decide) ?_
    refine va_iald hx hb hK.1 hP 1 0 rfl rfl (show ¬ ((4 : Int32) < 0 ∨ 15642 ≤ (4 : Int32).toNatClampNeg) by decide) dX12_split_159 ?_
    refine lv_topi (fun v_3 ev_3 => ?_)
    obtain rfl : 0 = v_3 := (ev_3.trans (hz _ (by decide))).symm
    refine lv_icmp_ge (tgt := 169) hx hb dX12_split_160 (by decide) (fun c_4 => ?_) (fun c_4 => ?_)
    · refine lv_aload_n hx hb dX12_split_169 rfl (lv_at hl 2 rfl) ?_
      have hPc := hP.sub (ws' := [(mo, .inr (12, .ref nw :: .ref kp :: m2 :: m3 :: mv)), (nw, .inl (G.2 0, 15642, .inl nf)), (kp, .inl (G.2 0, 15642, .inl kf))]) [0, 1, 2] rfl
      have hDc := hD.sub (ws' := [(mo, .inr (12, .ref nw :: .ref kp :: m2 :: m3 :: mv)), (nw, .inl (G.2 0, 15642, .inl nf)), (kp, .inl (G.2 0, 15642, .inl kf))]) [0, 1, 2] (by decide) rfl
      have hFc := va_free (wc := [(mo, .inr (12, .ref nw :: .ref kp :: m2 :: m3 :: mv)), (nw, .inl (G.2 0, 15642, .inl nf)), (kp, .inl (G.2 0, 15642, .inl kf))]) hD hS hA [0, 1, 2] rfl
      refine va_callv (va_runV (As := []) (rest := []) ⟨hx, hb, hml, hown, hts⟩ (r_keeps l G _ mo nw kp m2 (m3 :: mv) nf kf ) (cwV 0 hts (gd_V mw_11_23 mw_12_0 mw_12_1 mw_1_5 mw_12_2) rfl rfl rfl ⟨rfl, yk_X12_keeps⟩ ⟨Nat.le_of_ble_eq_true rfl, Nat.le_of_ble_eq_true rfl⟩) (c0_preV (q0 := 0) (ci := 12) (q := (RX12, TX12, 32)) hPc hK hDc rfl rfl) rfl rfl hl.1 rfl (lv_room (Nat.le_of_ble_eq_true rfl)) dX12_split_170 ⟨Nat.le_of_ble_eq_true rfl, Nat.le_of_ble_eq_true rfl⟩) hS (fun q _ h => hFc q h) hFc (fun u t H1 locs ht1 hvm hw hB hz1 hk1 hS => ?_)
      obtain ⟨kf2_5, rfl⟩ : ∃ z, z = u := ⟨_, rfl⟩
      try dsimp only at hw hB
      obtain ⟨hP1, hD1⟩ := hB
      rw [ht1] at hP1
      obtain ⟨hP, hD⟩ := va_join (wr := []) (w1 := [(mo, .inr (12, .ref nw :: .ref kp :: .int 1 :: m3 :: mv)), (nw, .inl (G.2 0, 15642, .inl nf)), (kp, .inl (G.2 0, 15642, .inl kf2_5))]) hP hD [0, 1, 2] [] rfl rfl (by decide) (by decide) hk1 hFc hP1 hD1
      generalize H1 = H at hP hS ⊢
      have hP : va_P G.1 vwCl ([(mo, .inr (12, .ref nw :: .ref kp :: .int 1 :: m3 :: mv)), (nw, .inl (G.2 0, 15642, .inl nf)), (kp, .inl (G.2 0, 15642, .inl kf2_5))]) H := hP
      have hD : va_D A ([(mo, .inr (12, .ref nw :: .ref kp :: .int 1 :: m3 :: mv)), (nw, .inl (G.2 0, 15642, .inl nf)), (kp, .inl (G.2 0, 15642, .inl kf2_5))]) := hD
      refine lv_iconst (v := 0) hx hb dX12_split_173 (by decide) ?_
      refine lv_istore_n (lv' := [(2, .int 0), (1, .int 0), (0, .ref mo)]) hx hb dX12_split_174 rfl hl (by decide) rfl (fun ls hl => ?_)
      refine lv_iload_n hx hb dX12_split_175 rfl (lv_at hl 0 rfl) ?_
      refine lv_aload_n hx hb dX12_split_176 rfl (lv_at hl 2 rfl) ?_
      refine va_get (D := G.1) (ci := 12) (v := .ref nw) (C := RX12) (T := TX12) (N := 32) hx hb ht inlX12 hown hK.1 hP 0 rfl rfl 0 (by decide) (ht (Cond.fieldLink RX12 7 "PloughDepotModel" "now" "[I") mw_6_19) (fun _ h9 => h9) rfl dX12_split_177 ?_
      refine lv_iconst (v := 3) hx hb dX12_split_180 (by decide) ?_
      refine va_iald hx hb hK.1 hP 1 0 rfl rfl (show ¬ ((3 : Int32) < 0 ∨ 15642 ≤ (3 : Int32).toNatClampNeg) by decide) dX12_split_181 ?_
      refine lv_topi (fun v_6 ev_6 => ?_)
      obtain rfl : 0 = v_6 := (ev_6.trans (hz _ (by decide))).symm
      refine lv_icmp_ge (tgt := 288) hx hb dX12_split_182 (by decide) (fun c_7 => ?_) (fun c_7 => ?_)
      · refine lv_aload_n hx hb dX12_split_288 rfl (lv_at hl 2 rfl) ?_
        refine lv_iconst (v := 1) hx hb dX12_split_289 (by decide) ?_
        have hPc := hP.sub (ws' := [(mo, .inr (12, .ref nw :: .ref kp :: .int 1 :: m3 :: mv))]) [0] rfl
        have hDc := hD.sub (ws' := [(mo, .inr (12, .ref nw :: .ref kp :: .int 1 :: m3 :: mv))]) [0] (by decide) rfl
        have hFc := va_free (wc := [(mo, .inr (12, .ref nw :: .ref kp :: .int 1 :: m3 :: mv))]) hD hS hA [0] rfl
        refine va_calli (va_runV (As := [.int 1]) (rest := []) ⟨hx, hb, hml, hown, hts⟩ (r_says l G _ mo 1 (.ref nw) (.ref kp) (.int 1) m3 mv ) (cwV 1 hts (gd_V mw_12_4 mw_12_5 mw_12_6 mw_1_5 mw_12_7) rfl rfl rfl ⟨rfl, yk_X12_says⟩ ⟨Nat.le_of_ble_eq_true rfl, Nat.le_of_ble_eq_true rfl⟩) (c0_preV (q0 := 0) (ci := 12) (q := (RX12, TX12, 32)) hPc hK hDc rfl rfl) rfl rfl hl.1 rfl (lv_room (Nat.le_of_ble_eq_true rfl)) dX12_split_290 ⟨Nat.le_of_ble_eq_true rfl, Nat.le_of_ble_eq_true rfl⟩) hS (fun q _ h => hFc q h) hFc (fun r_8 u t H1 locs ht1 hvm hw hB hz1 hk1 hS => ?_)
        try dsimp only at hw hB
        have hr8 := hw
        obtain rfl := hr8.symm
        obtain ⟨hP1, hD1⟩ := hB
        rw [ht1] at hP1
        obtain ⟨hP, hD⟩ := va_join (wr := [(nw, .inl (G.2 0, 15642, .inl nf)), (kp, .inl (G.2 0, 15642, .inl kf2_5))]) (w1 := [(mo, .inr (12, .ref nw :: .ref kp :: .int 1 :: .int 0 :: mv))]) hP hD [0] [1, 2] rfl rfl (by decide) (by decide) hk1 hFc hP1 hD1
        generalize H1 = H at hP hS ⊢
        have hP : va_P G.1 vwCl ([(nw, .inl (G.2 0, 15642, .inl nf)), (kp, .inl (G.2 0, 15642, .inl kf2_5)), (mo, .inr (12, .ref nw :: .ref kp :: .int 1 :: .int 0 :: mv))]) H := hP
        have hD : va_D A ([(nw, .inl (G.2 0, 15642, .inl nf)), (kp, .inl (G.2 0, 15642, .inl kf2_5)), (mo, .inr (12, .ref nw :: .ref kp :: .int 1 :: .int 0 :: mv))]) := hD
        exact W.iret (v := 1) hx hb hr (fun t ht hW => ⟨⟨1, (), rfl, rfl, trivial⟩, hS.F ht⟩) hS.2.2 dX12_split_293
      · exact absurd c_7 (by decide)
    · exact absurd c_4 (by decide)
  · exact absurd c_2 (by decide)

set_option maxHeartbeats 4000000 in
set_option maxRecDepth 100000 in
theorem r_pl (l : Launch) (G : GG) (sz : Nat) (mo : Nat) (mv : List Value)  : Met l yX12_pl (.code yX12_pl cX12_pl 2 (some .int) :: TT) ({ frames := 1, cells := 0, slots := 0, locals := 100 } : Room) (c0_P G [.ref mo, .int 0] sz ([(mo, .inr (12, mv))])) (va_Qi (S := Unit) (fun (r : Int32) (u : Unit) => r = 9426) (fun (u : Unit) (t : State) => c0_B G (va_A ([(mo, .inr (12, mv))]) sz) ([(mo, .inr (12, mv))]) t) (va_A ([(mo, .inr (12, mv))]) sz)) 0 0 (va_A ([(mo, .inr (12, mv))]) sz) := by
  refine Met.ofW (cc := cX12_pl) (maxL := 2) (ret := (some .int)) (by decide) rfl ?_
  intro p e s m args below meth c s₁ B hml hv
  obtain ⟨rfl, hsz, hP, hK, hD0⟩ := hv
  have hx := B.exec
  have hb := B.bytes
  have hr := B.returns
  have hts := atoms_spec (ws := .code yX12_pl cX12_pl 2 (some .int) :: TT) B.pre
  have ht := fun (w : Cond) (h : w ∈ TT) => hts w (List.mem_cons_of_mem _ h)
  have hown : s.vm.findClass RX12 = some m.cls := findClass_of_methodNamed B.named
  have hlocks := B.notSynchronized
  subst hsz
  have hD := hD0.self (sz := s.heap.size)
  generalize hAe : va_A ([(mo, .inr (12, mv))]) s.heap.size = A at hD ⊢
  have hA : ∀ q : Nat, s.heap.size ≤ q → A q := fun q h => by rw [← hAe]; exact Or.inr h
  have hS : va_S A s.heap s.heap [] := va_S.rf
  have hP : va_P G.1 vwCl ([(mo, .inr (12, mv))]) s.heap := hP
  have hl := lv_entry ([.ref mo, .int 0]) (n := 2) (Nat.le_of_ble_eq_true rfl)
  rw [lg_entry_eq]
  generalize (lg_sl ([.ref mo, .int 0]) ++ List.replicate (2 - (lg_sl ([.ref mo, .int 0])).length) Slot.unset).toArray = ls at hl ⊢
  have hl : lv_has ls 2 [(0, .ref mo), (1, .int 0)] := hl
  refine lv_sipush (v := 9426) hx hb dX12_pl_0 (by decide) ?_
  refine lv_bipush (v := 13) hx hb dX12_pl_3 (by decide) ?_
  refine lv_iload_n hx hb dX12_pl_5 rfl (lv_at hl 1 rfl) ?_
  refine lv_imul hx hb dX12_pl_6 ?_
  refine lv_topi (fun v_1 ev_1 => ?_)
  obtain rfl : v_1 = 0 := ev_1.trans (by decide)
  refine lv_iadd hx hb dX12_pl_7 ?_
  refine lv_topi (fun v_2 ev_2 => ?_)
  obtain rfl : v_2 = 9426 := ev_2.trans (by decide)
  have hP9 := hP.sub (ws' := [(mo, .inr (12, mv))]) [0] rfl
  have hD9 := hD.sub (ws' := [(mo, .inr (12, mv))]) [0] (by decide) rfl
  exact W.iret (v := 9426) hx hb hr (fun t ht hW => ⟨⟨9426, (), rfl, rfl, ⟨by rw [ht]; exact hP9, hD9⟩⟩, hS.F ht⟩) hS.2.2 dX12_pl_8

set_option maxHeartbeats 4000000 in
set_option maxRecDepth 100000 in
theorem r_comes (l : Launch) (G : GG) (sz : Nat) (mo : Nat) (x1 : Int32) (x2 : Int32) (x3 : Int32) (x4 : Int32) (nw : Nat) (m1 : Value) (m2 : Value) (m3 : Value) (mv : List Value) (nf : Nat → Int32) (hz : ∀ j, j < 16 → nf j = 0) : Met l yX12_comes (.code yX12_comes cX12_comes 7 (some .int) :: TT) ({ frames := 2, cells := 0, slots := 0, locals := 200 } : Room) (c0_P G [.ref mo, .int x1, .int x2, .int x3, .int x4] sz ([(mo, .inr (12, .ref nw :: m1 :: m2 :: m3 :: mv)), (nw, .inl (G.2 0, 15642, .inl nf))])) (va_Qi (S := Unit) (fun (r : Int32) (u : Unit) => r = 0) (fun (u : Unit) (t : State) => True) (va_A ([(mo, .inr (12, .ref nw :: m1 :: m2 :: m3 :: mv)), (nw, .inl (G.2 0, 15642, .inl nf))]) sz)) 0 0 (va_A ([(mo, .inr (12, .ref nw :: m1 :: m2 :: m3 :: mv)), (nw, .inl (G.2 0, 15642, .inl nf))]) sz) := by
  refine Met.ofW (cc := cX12_comes) (maxL := 7) (ret := (some .int)) (by decide) rfl ?_
  intro p e s m args below meth c s₁ B hml hv
  obtain ⟨rfl, hsz, hP, hK, hD0⟩ := hv
  have hx := B.exec
  have hb := B.bytes
  have hr := B.returns
  have hts := atoms_spec (ws := .code yX12_comes cX12_comes 7 (some .int) :: TT) B.pre
  have ht := fun (w : Cond) (h : w ∈ TT) => hts w (List.mem_cons_of_mem _ h)
  have hown : s.vm.findClass RX12 = some m.cls := findClass_of_methodNamed B.named
  have hlocks := B.notSynchronized
  subst hsz
  have hD := hD0.self (sz := s.heap.size)
  generalize hAe : va_A ([(mo, .inr (12, .ref nw :: m1 :: m2 :: m3 :: mv)), (nw, .inl (G.2 0, 15642, .inl nf))]) s.heap.size = A at hD ⊢
  have hA : ∀ q : Nat, s.heap.size ≤ q → A q := fun q h => by rw [← hAe]; exact Or.inr h
  have hS : va_S A s.heap s.heap [] := va_S.rf
  have hP : va_P G.1 vwCl ([(mo, .inr (12, .ref nw :: m1 :: m2 :: m3 :: mv)), (nw, .inl (G.2 0, 15642, .inl nf))]) s.heap := hP
  have hl := lv_entry ([.ref mo, .int x1, .int x2, .int x3, .int x4]) (n := 7) (Nat.le_of_ble_eq_true rfl)
  rw [lg_entry_eq]
  generalize (lg_sl ([.ref mo, .int x1, .int x2, .int x3, .int x4]) ++ List.replicate (7 - (lg_sl ([.ref mo, .int x1, .int x2, .int x3, .int x4])).length) Slot.unset).toArray = ls at hl ⊢
  have hl : lv_has ls 7 [(0, .ref mo), (1, .int x1), (2, .int x2), (3, .int x3), (4, .int x4)] := hl
  refine lv_aload_n hx hb dX12_comes_0 rfl (lv_at hl 0 rfl) ?_
  refine lv_aload_n hx hb dX12_comes_1 rfl (lv_at hl 0 rfl) ?_
  refine va_get (D := G.1) (ci := 12) (v := .ref nw) (C := RX12) (T := TX12) (N := 32) hx hb ht inlX12 hown hK.1 hP 0 rfl rfl 0 (by decide) (ht (Cond.fieldLink RX12 7 "PloughDepotModel" "now" "[I") mw_6_19) (fun _ h9 => h9) rfl dX12_comes_2 ?_
  refine lv_iconst (v := 3) hx hb dX12_comes_5 (by decide) ?_
  refine va_iald hx hb hK.1 hP 1 0 rfl rfl (show ¬ ((3 : Int32) < 0 ∨ 15642 ≤ (3 : Int32).toNatClampNeg) by decide) dX12_comes_6 ?_
  refine lv_topi (fun v_1 ev_1 => ?_)
  obtain rfl : 0 = v_1 := (ev_1.trans (hz _ (by decide))).symm
  have hPc := hP.sub (ws' := [(mo, .inr (12, .ref nw :: m1 :: m2 :: m3 :: mv))]) [0] rfl
  have hDc := hD.sub (ws' := [(mo, .inr (12, .ref nw :: m1 :: m2 :: m3 :: mv))]) [0] (by decide) rfl
  have hFc := va_free (wc := [(mo, .inr (12, .ref nw :: m1 :: m2 :: m3 :: mv))]) hD hS hA [0] rfl
  refine va_calli (va_runV (As := [.int 0]) (rest := []) ⟨hx, hb, hml, hown, hts⟩ (r_pl l G _ mo (.ref nw :: m1 :: m2 :: m3 :: mv) ) (cwV 1 hts (gd_V mw_31_6 mw_31_7 mw_31_8 mw_1_5 mw_31_9) rfl rfl rfl ⟨rfl, yk_X12_pl⟩ ⟨Nat.le_of_ble_eq_true rfl, Nat.le_of_ble_eq_true rfl⟩) (c0_preV (q0 := 0) (ci := 12) (q := (RX12, TX12, 32)) hPc hK hDc rfl rfl) rfl rfl hl.1 rfl (lv_room (Nat.le_of_ble_eq_true rfl)) dX12_comes_7 ⟨Nat.le_of_ble_eq_true rfl, Nat.le_of_ble_eq_true rfl⟩) hS (fun q _ h => hFc q h) hFc (fun r_2 u t H1 locs ht1 hvm hw hB hz1 hk1 hS => ?_)
  try dsimp only at hw hB
  have hr2 := hw
  obtain rfl := hr2.symm
  obtain ⟨hP1, hD1⟩ := hB
  rw [ht1] at hP1
  obtain ⟨hP, hD⟩ := va_join (wr := [(nw, .inl (G.2 0, 15642, .inl nf))]) (w1 := [(mo, .inr (12, .ref nw :: m1 :: m2 :: m3 :: mv))]) hP hD [0] [1] rfl rfl (by decide) (by decide) hk1 hFc hP1 hD1
  generalize H1 = H at hP hS ⊢
  have hP : va_P G.1 vwCl ([(nw, .inl (G.2 0, 15642, .inl nf)), (mo, .inr (12, .ref nw :: m1 :: m2 :: m3 :: mv))]) H := hP
  have hD : va_D A ([(nw, .inl (G.2 0, 15642, .inl nf)), (mo, .inr (12, .ref nw :: m1 :: m2 :: m3 :: mv))]) := hD
  refine lv_istore (lv' := [(5, .int 9426), (0, .ref mo), (1, .int x1), (2, .int x2), (3, .int x3), (4, .int x4)]) hx hb dX12_comes_10 hl (by decide) rfl (fun ls hl => ?_)
  refine lv_iconst (v := 0) hx hb dX12_comes_12 (by decide) ?_
  refine lv_istore (lv' := [(6, .int 0), (5, .int 9426), (0, .ref mo), (1, .int x1), (2, .int x2), (3, .int x3), (4, .int x4)]) hx hb dX12_comes_13 hl (by decide) rfl (fun ls hl => ?_)
  have lp_3 : ∀ (Q : State → Prop), (∀ (fnw_3 : Nat → Int32) (H : Heap) (locs : List Loc) (ls : Array Slot), (∀ j, j < 16 → fnw_3 j = 0) → va_P G.1 vwCl ([(nw, .inl (G.2 0, 15642, .inl fnw_3)), (mo, .inr (12, .ref nw :: m1 :: m2 :: m3 :: mv))]) H → va_D A ([(nw, .inl (G.2 0, 15642, .inl fnw_3)), (mo, .inr (12, .ref nw :: m1 :: m2 :: m3 :: mv))]) → va_S A s.heap H locs → lv_has ls 7 [(5, .int 9426), (0, .ref mo), (1, .int x1), (2, .int x2), (3, .int x3), (4, .int x4)] → W p l e (headSpec (.code yX12_comes cX12_comes 7 (some .int) :: TT) ({ frames := 2, cells := 0, slots := 0, locals := 200 } : Room)).room s m [.ref mo, .int x1, .int x2, .int x3, .int x4].toArray below meth c H locs 0 0 Q (F0 m 39 ls [])) → ∀ (n i : Nat) (x9 : Int32) (fnw_3 : Nat → Int32) (H : Heap) (locs : List Loc) (ls : Array Slot), i ≤ 13 → 14 ≤ i + n → x9 = nI i → (∀ j, j < 16 → fnw_3 j = 0) → va_P G.1 vwCl ([(nw, .inl (G.2 0, 15642, .inl fnw_3)), (mo, .inr (12, .ref nw :: m1 :: m2 :: m3 :: mv))]) H → va_D A ([(nw, .inl (G.2 0, 15642, .inl fnw_3)), (mo, .inr (12, .ref nw :: m1 :: m2 :: m3 :: mv))]) → va_S A s.heap H locs → lv_has ls 7 [(6, .int x9), (5, .int 9426), (0, .ref mo), (1, .int x1), (2, .int x2), (3, .int x3), (4, .int x4)] → W p l e (headSpec (.code yX12_comes cX12_comes 7 (some .int) :: TT) ({ frames := 2, cells := 0, slots := 0, locals := 200 } : Room)).room s m [.ref mo, .int x1, .int x2, .int x3, .int x4].toArray below meth c H locs 0 0 Q (F0 m 15 ls []) := by
    intro Q hex n
    induction n with
    | zero =>
      intro i x9 fnw_3 H locs ls h1 h2
      exact absurd h2 (by omega)
    | succ n ih =>
      intro i x9 fnw_3 H locs ls hi hin9 ex9 hz hP hD hS hl
      refine lv_iload hx hb dX12_comes_15 (lv_at hl 0 rfl) ?_
      refine lv_bipush (v := 13) hx hb dX12_comes_17 (by decide) ?_
      refine lv_icmp_ge (tgt := 39) hx hb dX12_comes_19 (by decide) (fun c9 => ?_) (fun c9 => ?_)
      · have hiN : i = 13 := by
          rcases Nat.lt_or_ge i 13 with q | q
          · exact absurd c9 (by rw [ex9]; exact nI_ge q (by first | decide | omega))
          · omega
        exact hex fnw_3 H locs ls hz hP hD hS (lv_sub hl [1, 2, 3, 4, 5, 6] rfl)
      · have hlt : i < 13 := by
          rcases Nat.lt_or_ge i 13 with q | q
          · exact q
          · exact absurd (by rw [ex9]; exact nI_le q (by omega)) c9
        have hx0 : (0 : Int32) ≤ x9 := by rw [ex9]; exact nI_pos' (by omega)
        refine lv_aload_n hx hb dX12_comes_22 rfl (lv_at hl 2 rfl) ?_
        refine va_get (D := G.1) (ci := 12) (v := .ref nw) (C := RX12) (T := TX12) (N := 32) hx hb ht inlX12 hown hK.1 hP 1 rfl rfl 0 (by decide) (ht (Cond.fieldLink RX12 7 "PloughDepotModel" "now" "[I") mw_6_19) (fun _ h9 => h9) rfl dX12_comes_23 ?_
        refine lv_iload hx hb dX12_comes_26 (lv_at hl 1 rfl) ?_
        refine lv_iload hx hb dX12_comes_28 (lv_at hl 0 rfl) ?_
        refine lv_iadd hx hb dX12_comes_30 ?_
        refine lv_topi (fun v_4 ev_4 => ?_)
        refine lv_iconst (v := 0) hx hb dX12_comes_31 (by decide) ?_
        refine va_iast hx hb hK.1 hP hD hS 0 0 rfl rfl (by rw [ev_4, ex9]; exact vp_in_add (a := 9426) (by omega) (by decide)) dX12_comes_32 (fun H locs hP hD hS => ?_)
        have hP : va_P G.1 vwCl ([(nw, .inl (G.2 0, 15642, .inl (upd fnw_3 (v_4 : Int32).toNatClampNeg 0))), (mo, .inr (12, .ref nw :: m1 :: m2 :: m3 :: mv))]) H := hP
        have hD : va_D A ([(nw, .inl (G.2 0, 15642, .inl (upd fnw_3 (v_4 : Int32).toNatClampNeg 0))), (mo, .inr (12, .ref nw :: m1 :: m2 :: m3 :: mv))]) := hD
        have hz := keep16 (v := v_4) (k := 9426 + i) (x := 0) hz (by rw [ev_4, ex9]; exact nI_add 9426 i) (by omega) (by omega)
        generalize upd fnw_3 (v_4 : Int32).toNatClampNeg 0 = f_5 at hP hD hz
        obtain ⟨v_6, ev_6⟩ : ∃ y : Int32, y = x9 + 1 := ⟨_, rfl⟩
        refine lv_iinc (v := v_6) (lv' := [(6, .int v_6), (5, .int 9426), (0, .ref mo), (1, .int x1), (2, .int x2), (3, .int x3), (4, .int x4)]) hx hb dX12_comes_33 hl (k := 0) rfl (by rw [ev_6]; rfl) (by decide) rfl (fun ls hl => ?_)
        refine lv_goto (tgt := 15) hx hb dX12_comes_36 (by decide) ?_
        exact ih (i + 1) _ f_5 _ _ _ (by omega) (by omega) (by rw [ev_6, ex9]; exact nI_1 i) hz hP hD hS (lv_sub hl [0, 1, 2, 3, 4, 5, 6] rfl)
  refine lp_3 _ ?_ (14) 0 0 nf _ _ _ (by omega) (by omega) nI_0.symm hz hP hD hS (lv_sub hl [0, 1, 2, 3, 4, 5, 6] rfl)
  intro fnw_3 H locs ls hz hP hD hS hl
  refine lv_aload_n hx hb dX12_comes_39 rfl (lv_at hl 1 rfl) ?_
  refine va_get (D := G.1) (ci := 12) (v := .ref nw) (C := RX12) (T := TX12) (N := 32) hx hb ht inlX12 hown hK.1 hP 1 rfl rfl 0 (by decide) (ht (Cond.fieldLink RX12 7 "PloughDepotModel" "now" "[I") mw_6_19) (fun _ h9 => h9) rfl dX12_comes_40 ?_
  refine lv_iload hx hb dX12_comes_43 (lv_at hl 0 rfl) ?_
  refine lv_iconst (v := 0) hx hb dX12_comes_45 (by decide) ?_
  refine lv_iadd hx hb dX12_comes_46 ?_
  refine lv_topi (fun v_7 ev_7 => ?_)
  obtain rfl : v_7 = 9426 := ev_7.trans (by decide)
  refine lv_iload_n hx hb dX12_comes_47 rfl (lv_at hl 2 rfl) ?_
  refine va_iast hx hb hK.1 hP hD hS 0 0 rfl rfl (show ¬ ((9426 : Int32) < 0 ∨ 15642 ≤ (9426 : Int32).toNatClampNeg) by decide) dX12_comes_48 (fun H locs hP hD hS => ?_)
  have hP : va_P G.1 vwCl ([(nw, .inl (G.2 0, 15642, .inl (upd fnw_3 (9426 : Int32).toNatClampNeg x1))), (mo, .inr (12, .ref nw :: m1 :: m2 :: m3 :: mv))]) H := hP
  have hD : va_D A ([(nw, .inl (G.2 0, 15642, .inl (upd fnw_3 (9426 : Int32).toNatClampNeg x1))), (mo, .inr (12, .ref nw :: m1 :: m2 :: m3 :: mv))]) := hD
  have hz := keep16 (v := 9426) (k := 9426) (x := x1) hz (by decide : (9426 : Int32) = nI 9426) (by omega) (by omega)
  generalize upd fnw_3 (9426 : Int32).toNatClampNeg x1 = f_8 at hP hD hz
  refine lv_aload_n hx hb dX12_comes_49 rfl (lv_at hl 1 rfl) ?_
  refine va_get (D := G.1) (ci := 12) (v := .ref nw) (C := RX12) (T := TX12) (N := 32) hx hb ht inlX12 hown hK.1 hP 1 rfl rfl 0 (by decide) (ht (Cond.fieldLink RX12 7 "PloughDepotModel" "now" "[I") mw_6_19) (fun _ h9 => h9) rfl dX12_comes_50 ?_
  refine lv_iload hx hb dX12_comes_53 (lv_at hl 0 rfl) ?_
  refine lv_iconst (v := 1) hx hb dX12_comes_55 (by decide) ?_
  refine lv_iadd hx hb dX12_comes_56 ?_
  refine lv_topi (fun v_9 ev_9 => ?_)
  obtain rfl : v_9 = 9427 := ev_9.trans (by decide)
  refine lv_iload_n hx hb dX12_comes_57 rfl (lv_at hl 3 rfl) ?_
  refine va_iast hx hb hK.1 hP hD hS 0 0 rfl rfl (show ¬ ((9427 : Int32) < 0 ∨ 15642 ≤ (9427 : Int32).toNatClampNeg) by decide) dX12_comes_58 (fun H locs hP hD hS => ?_)
  have hP : va_P G.1 vwCl ([(nw, .inl (G.2 0, 15642, .inl (upd f_8 (9427 : Int32).toNatClampNeg x2))), (mo, .inr (12, .ref nw :: m1 :: m2 :: m3 :: mv))]) H := hP
  have hD : va_D A ([(nw, .inl (G.2 0, 15642, .inl (upd f_8 (9427 : Int32).toNatClampNeg x2))), (mo, .inr (12, .ref nw :: m1 :: m2 :: m3 :: mv))]) := hD
  have hz := keep16 (v := 9427) (k := 9427) (x := x2) hz (by decide : (9427 : Int32) = nI 9427) (by omega) (by omega)
  generalize upd f_8 (9427 : Int32).toNatClampNeg x2 = f_10 at hP hD hz
  refine lv_aload_n hx hb dX12_comes_59 rfl (lv_at hl 1 rfl) ?_
  refine va_get (D := G.1) (ci := 12) (v := .ref nw) (C := RX12) (T := TX12) (N := 32) hx hb ht inlX12 hown hK.1 hP 1 rfl rfl 0 (by decide) (ht (Cond.fieldLink RX12 7 "PloughDepotModel" "now" "[I") mw_6_19) (fun _ h9 => h9) rfl dX12_comes_60 ?_
  refine lv_iload hx hb dX12_comes_63 (lv_at hl 0 rfl) ?_
  refine lv_iconst (v := 3) hx hb dX12_comes_65 (by decide) ?_
  refine lv_iadd hx hb dX12_comes_66 ?_
  refine lv_topi (fun v_11 ev_11 => ?_)
  obtain rfl : v_11 = 9429 := ev_11.trans (by decide)
  refine lv_iload_n hx hb dX12_comes_67 rfl (lv_at hl 4 rfl) ?_
  refine va_iast hx hb hK.1 hP hD hS 0 0 rfl rfl (show ¬ ((9429 : Int32) < 0 ∨ 15642 ≤ (9429 : Int32).toNatClampNeg) by decide) dX12_comes_68 (fun H locs hP hD hS => ?_)
  have hP : va_P G.1 vwCl ([(nw, .inl (G.2 0, 15642, .inl (upd f_10 (9429 : Int32).toNatClampNeg x3))), (mo, .inr (12, .ref nw :: m1 :: m2 :: m3 :: mv))]) H := hP
  have hD : va_D A ([(nw, .inl (G.2 0, 15642, .inl (upd f_10 (9429 : Int32).toNatClampNeg x3))), (mo, .inr (12, .ref nw :: m1 :: m2 :: m3 :: mv))]) := hD
  have hz := keep16 (v := 9429) (k := 9429) (x := x3) hz (by decide : (9429 : Int32) = nI 9429) (by omega) (by omega)
  generalize upd f_10 (9429 : Int32).toNatClampNeg x3 = f_12 at hP hD hz
  refine lv_aload_n hx hb dX12_comes_69 rfl (lv_at hl 1 rfl) ?_
  refine va_get (D := G.1) (ci := 12) (v := .ref nw) (C := RX12) (T := TX12) (N := 32) hx hb ht inlX12 hown hK.1 hP 1 rfl rfl 0 (by decide) (ht (Cond.fieldLink RX12 7 "PloughDepotModel" "now" "[I") mw_6_19) (fun _ h9 => h9) rfl dX12_comes_70 ?_
  refine lv_iload hx hb dX12_comes_73 (lv_at hl 0 rfl) ?_
  refine lv_iconst (v := 4) hx hb dX12_comes_75 (by decide) ?_
  refine lv_iadd hx hb dX12_comes_76 ?_
  refine lv_topi (fun v_13 ev_13 => ?_)
  obtain rfl : v_13 = 9430 := ev_13.trans (by decide)
  refine lv_iload hx hb dX12_comes_77 (lv_at hl 5 rfl) ?_
  refine va_iast hx hb hK.1 hP hD hS 0 0 rfl rfl (show ¬ ((9430 : Int32) < 0 ∨ 15642 ≤ (9430 : Int32).toNatClampNeg) by decide) dX12_comes_79 (fun H locs hP hD hS => ?_)
  have hP : va_P G.1 vwCl ([(nw, .inl (G.2 0, 15642, .inl (upd f_12 (9430 : Int32).toNatClampNeg x4))), (mo, .inr (12, .ref nw :: m1 :: m2 :: m3 :: mv))]) H := hP
  have hD : va_D A ([(nw, .inl (G.2 0, 15642, .inl (upd f_12 (9430 : Int32).toNatClampNeg x4))), (mo, .inr (12, .ref nw :: m1 :: m2 :: m3 :: mv))]) := hD
  have hz := keep16 (v := 9430) (k := 9430) (x := x4) hz (by decide : (9430 : Int32) = nI 9430) (by omega) (by omega)
  generalize upd f_12 (9430 : Int32).toNatClampNeg x4 = f_14 at hP hD hz
  refine lv_aload_n hx hb dX12_comes_80 rfl (lv_at hl 1 rfl) ?_
  refine va_get (D := G.1) (ci := 12) (v := .ref nw) (C := RX12) (T := TX12) (N := 32) hx hb ht inlX12 hown hK.1 hP 1 rfl rfl 0 (by decide) (ht (Cond.fieldLink RX12 7 "PloughDepotModel" "now" "[I") mw_6_19) (fun _ h9 => h9) rfl dX12_comes_81 ?_
  refine lv_iconst (v := 3) hx hb dX12_comes_84 (by decide) ?_
  refine lv_dup2_11 hx hb dX12_comes_85 rfl rfl ?_
  refine va_iald hx hb hK.1 hP 0 0 rfl rfl (show ¬ ((3 : Int32) < 0 ∨ 15642 ≤ (3 : Int32).toNatClampNeg) by decide) dX12_comes_86 ?_
  refine lv_topi (fun v_15 ev_15 => ?_)
  obtain rfl : 0 = v_15 := (ev_15.trans (hz _ (by decide))).symm
  refine lv_iconst (v := 1) hx hb dX12_comes_87 (by decide) ?_
  refine lv_iadd hx hb dX12_comes_88 ?_
  refine lv_topi (fun v_16 ev_16 => ?_)
  obtain rfl : v_16 = 1 := ev_16.trans (by decide)
  refine va_iast hx hb hK.1 hP hD hS 0 0 rfl rfl (show ¬ ((3 : Int32) < 0 ∨ 15642 ≤ (3 : Int32).toNatClampNeg) by decide) dX12_comes_89 (fun H locs hP hD hS => ?_)
  have hP : va_P G.1 vwCl ([(nw, .inl (G.2 0, 15642, .inl (upd f_14 (3 : Int32).toNatClampNeg 1))), (mo, .inr (12, .ref nw :: m1 :: m2 :: m3 :: mv))]) H := hP
  have hD : va_D A ([(nw, .inl (G.2 0, 15642, .inl (upd f_14 (3 : Int32).toNatClampNeg 1))), (mo, .inr (12, .ref nw :: m1 :: m2 :: m3 :: mv))]) := hD
  refine lv_aload_n hx hb dX12_comes_90 rfl (lv_at hl 1 rfl) ?_
  refine lv_aload_n hx hb dX12_comes_91 rfl (lv_at hl 1 rfl) ?_
  refine va_get (D := G.1) (ci := 12) (v := .ref nw) (C := RX12) (T := TX12) (N := 32) hx hb ht inlX12 hown hK.1 hP 1 rfl rfl 0 (by decide) (ht (Cond.fieldLink RX12 7 "PloughDepotModel" "now" "[I") mw_6_19) (fun _ h9 => h9) rfl dX12_comes_92 ?_
  refine lv_iconst (v := 3) hx hb dX12_comes_95 (by decide) ?_
  refine va_iald hx hb hK.1 hP 0 0 rfl rfl (show ¬ ((3 : Int32) < 0 ∨ 15642 ≤ (3 : Int32).toNatClampNeg) by decide) dX12_comes_96 ?_
  refine lv_topi (fun v_17 ev_17 => ?_)
  obtain rfl : 1 = v_17 := (ev_17.trans (pk_us)).symm
  refine lv_iconst (v := 1) hx hb dX12_comes_97 (by decide) ?_
  refine lv_isub hx hb dX12_comes_98 ?_
  refine lv_topi (fun v_18 ev_18 => ?_)
  obtain rfl : v_18 = 0 := ev_18.trans (by decide)
  have hPc := hP.sub (ws' := [(mo, .inr (12, .ref nw :: m1 :: m2 :: m3 :: mv))]) [1] rfl
  have hDc := hD.sub (ws' := [(mo, .inr (12, .ref nw :: m1 :: m2 :: m3 :: mv))]) [1] (by decide) rfl
  have hFc := va_free (wc := [(mo, .inr (12, .ref nw :: m1 :: m2 :: m3 :: mv))]) hD hS hA [1] rfl
  refine va_calli (va_runV (As := [.int 0]) (rest := []) ⟨hx, hb, hml, hown, hts⟩ (r_says l G _ mo 0 (.ref nw) m1 m2 m3 mv ) (cwV 1 hts (gd_V mw_12_4 mw_12_5 mw_12_6 mw_1_5 mw_12_7) rfl rfl rfl ⟨rfl, yk_X12_says⟩ ⟨Nat.le_of_ble_eq_true rfl, Nat.le_of_ble_eq_true rfl⟩) (c0_preV (q0 := 0) (ci := 12) (q := (RX12, TX12, 32)) hPc hK hDc rfl rfl) rfl rfl hl.1 rfl (lv_room (Nat.le_of_ble_eq_true rfl)) dX12_comes_99 ⟨Nat.le_of_ble_eq_true rfl, Nat.le_of_ble_eq_true rfl⟩) hS (fun q _ h => hFc q h) hFc (fun r_19 u t H1 locs ht1 hvm hw hB hz1 hk1 hS => ?_)
  try dsimp only at hw hB
  have hr19 := hw
  obtain rfl := hr19.symm
  obtain ⟨hP1, hD1⟩ := hB
  rw [ht1] at hP1
  obtain ⟨hP, hD⟩ := va_join (wr := [(nw, .inl (G.2 0, 15642, .inl (upd f_14 (3 : Int32).toNatClampNeg 1)))]) (w1 := [(mo, .inr (12, .ref nw :: m1 :: m2 :: .int 0 :: mv))]) hP hD [1] [0] rfl rfl (by decide) (by decide) hk1 hFc hP1 hD1
  generalize H1 = H at hP hS ⊢
  have hP : va_P G.1 vwCl ([(nw, .inl (G.2 0, 15642, .inl (upd f_14 (3 : Int32).toNatClampNeg 1))), (mo, .inr (12, .ref nw :: m1 :: m2 :: .int 0 :: mv))]) H := hP
  have hD : va_D A ([(nw, .inl (G.2 0, 15642, .inl (upd f_14 (3 : Int32).toNatClampNeg 1))), (mo, .inr (12, .ref nw :: m1 :: m2 :: .int 0 :: mv))]) := hD
  exact W.iret (v := 0) hx hb hr (fun t ht hW => ⟨⟨0, (), rfl, rfl, trivial⟩, hS.F ht⟩) hS.2.2 dX12_comes_102

set_option maxHeartbeats 4000000 in
set_option maxRecDepth 100000 in
theorem r_plough (l : Launch) (G : GG) (sz : Nat) (mo : Nat) (x1 : Int32) (x2 : Int32) (nw : Nat) (kp : Nat) (m2 : Value) (m3 : Value) (mv : List Value) (nf : Nat → Int32) (kf : Nat → Int32) (hz : ∀ j, j < 16 → nf j = 0) : Met l yX12_plough (.code yX12_plough cX12_plough 3 (some .int) :: TT) ({ frames := 3, cells := 0, slots := 0, locals := 300 } : Room) (c0_P G [.ref mo, .int x1, .int x2] sz ([(mo, .inr (12, .ref nw :: .ref kp :: m2 :: m3 :: mv)), (nw, .inl (G.2 0, 15642, .inl nf)), (kp, .inl (G.2 0, 15642, .inl kf))])) (va_Qi (S := Unit) (fun (r : Int32) (u : Unit) => r = sp_plough x1 x2) (fun (u : Unit) (t : State) => True) (va_A ([(mo, .inr (12, .ref nw :: .ref kp :: m2 :: m3 :: mv)), (nw, .inl (G.2 0, 15642, .inl nf)), (kp, .inl (G.2 0, 15642, .inl kf))]) sz)) 0 0 (va_A ([(mo, .inr (12, .ref nw :: .ref kp :: m2 :: m3 :: mv)), (nw, .inl (G.2 0, 15642, .inl nf)), (kp, .inl (G.2 0, 15642, .inl kf))]) sz) := by
  refine Met.ofW (cc := cX12_plough) (maxL := 3) (ret := (some .int)) (by decide) rfl ?_
  intro p e s m args below meth c s₁ B hml hv
  obtain ⟨rfl, hsz, hP, hK, hD0⟩ := hv
  have hx := B.exec
  have hb := B.bytes
  have hr := B.returns
  have hts := atoms_spec (ws := .code yX12_plough cX12_plough 3 (some .int) :: TT) B.pre
  have ht := fun (w : Cond) (h : w ∈ TT) => hts w (List.mem_cons_of_mem _ h)
  have hown : s.vm.findClass RX12 = some m.cls := findClass_of_methodNamed B.named
  have hlocks := B.notSynchronized
  subst hsz
  have hD := hD0.self (sz := s.heap.size)
  generalize hAe : va_A ([(mo, .inr (12, .ref nw :: .ref kp :: m2 :: m3 :: mv)), (nw, .inl (G.2 0, 15642, .inl nf)), (kp, .inl (G.2 0, 15642, .inl kf))]) s.heap.size = A at hD ⊢
  have hA : ∀ q : Nat, s.heap.size ≤ q → A q := fun q h => by rw [← hAe]; exact Or.inr h
  have hS : va_S A s.heap s.heap [] := va_S.rf
  have hP : va_P G.1 vwCl ([(mo, .inr (12, .ref nw :: .ref kp :: m2 :: m3 :: mv)), (nw, .inl (G.2 0, 15642, .inl nf)), (kp, .inl (G.2 0, 15642, .inl kf))]) s.heap := hP
  have hl := lv_entry ([.ref mo, .int x1, .int x2]) (n := 3) (Nat.le_of_ble_eq_true rfl)
  rw [lg_entry_eq]
  generalize (lg_sl ([.ref mo, .int x1, .int x2]) ++ List.replicate (3 - (lg_sl ([.ref mo, .int x1, .int x2])).length) Slot.unset).toArray = ls at hl ⊢
  have hl : lv_has ls 3 [(0, .ref mo), (1, .int x1), (2, .int x2)] := hl
  refine lv_iload_n hx hb dX12_plough_0 rfl (lv_at hl 1 rfl) ?_
  refine lv_iconst (v := 0) hx hb dX12_plough_1 (by decide) ?_
  refine lv_iconst (v := 3) hx hb dX12_plough_2 (by decide) ?_
  have hPc := hP.sub (ws' := []) [] rfl
  have hDc := hD.sub (ws' := []) [] (by decide) rfl
  have hFc := va_free (wc := []) hD hS hA [] rfl
  refine va_calli (va_runS (As := [.int x1, .int 0, .int 3]) (rest := []) ⟨hx, hb, hml, hown, hts⟩ (r_in l G _ x1 0 3 ) (va_cwS 3 hts (gd_S mw_11_11 mw_11_12 mw_1_5 mw_11_13) rfl rfl rfl yk_X12_in ⟨Nat.le_of_ble_eq_true rfl, Nat.le_of_ble_eq_true rfl⟩) (c0_pre hPc hK hDc) rfl rfl hl.1 rfl (lv_room (Nat.le_of_ble_eq_true rfl)) dX12_plough_3 ⟨Nat.le_of_ble_eq_true rfl, Nat.le_of_ble_eq_true rfl⟩) hS (fun q _ h => hFc q h) hFc (fun r_1 u t H1 locs ht1 hvm hw hB hz1 hk1 hS => ?_)
  try dsimp only at hw hB
  have hr1 := hw
  obtain ⟨hP1, hD1⟩ := hB
  rw [ht1] at hP1
  obtain ⟨hP, hD⟩ := va_join (wr := [(mo, .inr (12, .ref nw :: .ref kp :: m2 :: m3 :: mv)), (nw, .inl (G.2 0, 15642, .inl nf)), (kp, .inl (G.2 0, 15642, .inl kf))]) (w1 := []) hP hD [] [0, 1, 2] rfl rfl (by decide) (by decide) hk1 hFc hP1 hD1
  generalize H1 = H at hP hS ⊢
  have hP : va_P G.1 vwCl ([(mo, .inr (12, .ref nw :: .ref kp :: m2 :: m3 :: mv)), (nw, .inl (G.2 0, 15642, .inl nf)), (kp, .inl (G.2 0, 15642, .inl kf))]) H := hP
  have hD : va_D A ([(mo, .inr (12, .ref nw :: .ref kp :: m2 :: m3 :: mv)), (nw, .inl (G.2 0, 15642, .inl nf)), (kp, .inl (G.2 0, 15642, .inl kf))]) := hD
  rcases sp_in_c x1 0 3 with ⟨c_2a, c_2b, he9⟩ | ⟨c_2, he9⟩
  · obtain rfl : r_1 = 1 := hr1.trans he9
    refine lv_if_eq (tgt := 20) hx hb dX12_plough_6 (by decide) (fun c_3 => ?_) (fun c_3 => ?_)
    · exact absurd c_3 (by decide)
    · refine lv_iload_n hx hb dX12_plough_9 rfl (lv_at hl 2 rfl) ?_
      refine lv_iconst (v := 0) hx hb dX12_plough_10 (by decide) ?_
      refine lv_sipush (v := 10000) hx hb dX12_plough_11 (by decide) ?_
      have hPc := hP.sub (ws' := []) [] rfl
      have hDc := hD.sub (ws' := []) [] (by decide) rfl
      have hFc := va_free (wc := []) hD hS hA [] rfl
      refine va_calli (va_runS (As := [.int x2, .int 0, .int 10000]) (rest := []) ⟨hx, hb, hml, hown, hts⟩ (r_in l G _ x2 0 10000 ) (va_cwS 3 hts (gd_S mw_11_11 mw_11_12 mw_1_5 mw_11_13) rfl rfl rfl yk_X12_in ⟨Nat.le_of_ble_eq_true rfl, Nat.le_of_ble_eq_true rfl⟩) (c0_pre hPc hK hDc) rfl rfl hl.1 rfl (lv_room (Nat.le_of_ble_eq_true rfl)) dX12_plough_14 ⟨Nat.le_of_ble_eq_true rfl, Nat.le_of_ble_eq_true rfl⟩) hS (fun q _ h => hFc q h) hFc (fun r_4 u t H1 locs ht1 hvm hw hB hz1 hk1 hS => ?_)
      try dsimp only at hw hB
      have hr4 := hw
      obtain ⟨hP1, hD1⟩ := hB
      rw [ht1] at hP1
      obtain ⟨hP, hD⟩ := va_join (wr := [(mo, .inr (12, .ref nw :: .ref kp :: m2 :: m3 :: mv)), (nw, .inl (G.2 0, 15642, .inl nf)), (kp, .inl (G.2 0, 15642, .inl kf))]) (w1 := []) hP hD [] [0, 1, 2] rfl rfl (by decide) (by decide) hk1 hFc hP1 hD1
      generalize H1 = H at hP hS ⊢
      have hP : va_P G.1 vwCl ([(mo, .inr (12, .ref nw :: .ref kp :: m2 :: m3 :: mv)), (nw, .inl (G.2 0, 15642, .inl nf)), (kp, .inl (G.2 0, 15642, .inl kf))]) H := hP
      have hD : va_D A ([(mo, .inr (12, .ref nw :: .ref kp :: m2 :: m3 :: mv)), (nw, .inl (G.2 0, 15642, .inl nf)), (kp, .inl (G.2 0, 15642, .inl kf))]) := hD
      rcases sp_in_c x2 0 10000 with ⟨c_5a, c_5b, he9⟩ | ⟨c_5, he9⟩
      · obtain rfl : r_4 = 1 := hr4.trans he9
        refine lv_if_ne (tgt := 27) hx hb dX12_plough_17 (by decide) (fun c_6 => ?_) (fun c_6 => ?_)
        · refine lv_aload_n hx hb dX12_plough_27 rfl (lv_at hl 0 rfl) ?_
          refine va_get (D := G.1) (ci := 12) (v := .ref nw) (C := RX12) (T := TX12) (N := 32) hx hb ht inlX12 hown hK.1 hP 0 rfl rfl 0 (by decide) (ht (Cond.fieldLink RX12 7 "PloughDepotModel" "now" "[I") mw_6_19) (fun _ h9 => h9) rfl dX12_plough_28 ?_
          refine lv_iconst (v := 3) hx hb dX12_plough_31 (by decide) ?_
          refine va_iald hx hb hK.1 hP 1 0 rfl rfl (show ¬ ((3 : Int32) < 0 ∨ 15642 ≤ (3 : Int32).toNatClampNeg) by decide) dX12_plough_32 ?_
          refine lv_topi (fun v_7 ev_7 => ?_)
          obtain rfl : 0 = v_7 := (ev_7.trans (hz _ (by decide))).symm
          refine lv_bipush (v := 12) hx hb dX12_plough_33 (by decide) ?_
          refine lv_icmp_ne (tgt := 45) hx hb dX12_plough_35 (by decide) (fun c_8 => ?_) (fun c_8 => ?_)
          · refine lv_aload_n hx hb dX12_plough_45 rfl (lv_at hl 0 rfl) ?_
            have hPc := hP.sub (ws' := [(mo, .inr (12, .ref nw :: .ref kp :: m2 :: m3 :: mv)), (nw, .inl (G.2 0, 15642, .inl nf)), (kp, .inl (G.2 0, 15642, .inl kf))]) [0, 1, 2] rfl
            have hDc := hD.sub (ws' := [(mo, .inr (12, .ref nw :: .ref kp :: m2 :: m3 :: mv)), (nw, .inl (G.2 0, 15642, .inl nf)), (kp, .inl (G.2 0, 15642, .inl kf))]) [0, 1, 2] (by decide) rfl
            have hFc := va_free (wc := [(mo, .inr (12, .ref nw :: .ref kp :: m2 :: m3 :: mv)), (nw, .inl (G.2 0, 15642, .inl nf)), (kp, .inl (G.2 0, 15642, .inl kf))]) hD hS hA [0, 1, 2] rfl
            refine va_callv (va_runV (As := []) (rest := []) ⟨hx, hb, hml, hown, hts⟩ (r_keeps l G _ mo nw kp m2 (m3 :: mv) nf kf ) (cwV 0 hts (gd_V mw_11_23 mw_12_0 mw_12_1 mw_1_5 mw_12_2) rfl rfl rfl ⟨rfl, yk_X12_keeps⟩ ⟨Nat.le_of_ble_eq_true rfl, Nat.le_of_ble_eq_true rfl⟩) (c0_preV (q0 := 0) (ci := 12) (q := (RX12, TX12, 32)) hPc hK hDc rfl rfl) rfl rfl hl.1 rfl (lv_room (Nat.le_of_ble_eq_true rfl)) dX12_plough_46 ⟨Nat.le_of_ble_eq_true rfl, Nat.le_of_ble_eq_true rfl⟩) hS (fun q _ h => hFc q h) hFc (fun u t H1 locs ht1 hvm hw hB hz1 hk1 hS => ?_)
            obtain ⟨kf2_9, rfl⟩ : ∃ z, z = u := ⟨_, rfl⟩
            try dsimp only at hw hB
            obtain ⟨hP1, hD1⟩ := hB
            rw [ht1] at hP1
            obtain ⟨hP, hD⟩ := va_join (wr := []) (w1 := [(mo, .inr (12, .ref nw :: .ref kp :: .int 1 :: m3 :: mv)), (nw, .inl (G.2 0, 15642, .inl nf)), (kp, .inl (G.2 0, 15642, .inl kf2_9))]) hP hD [0, 1, 2] [] rfl rfl (by decide) (by decide) hk1 hFc hP1 hD1
            generalize H1 = H at hP hS ⊢
            have hP : va_P G.1 vwCl ([(mo, .inr (12, .ref nw :: .ref kp :: .int 1 :: m3 :: mv)), (nw, .inl (G.2 0, 15642, .inl nf)), (kp, .inl (G.2 0, 15642, .inl kf2_9))]) H := hP
            have hD : va_D A ([(mo, .inr (12, .ref nw :: .ref kp :: .int 1 :: m3 :: mv)), (nw, .inl (G.2 0, 15642, .inl nf)), (kp, .inl (G.2 0, 15642, .inl kf2_9))]) := hD
            refine lv_aload_n hx hb dX12_plough_49 rfl (lv_at hl 0 rfl) ?_
            refine lv_iload_n hx hb dX12_plough_50 rfl (lv_at hl 1 rfl) ?_
            refine lv_iload_n hx hb dX12_plough_51 rfl (lv_at hl 2 rfl) ?_
            refine lv_iconst (v := (-1)) hx hb dX12_plough_52 (by decide) ?_
            refine lv_iconst (v := (-1)) hx hb dX12_plough_53 (by decide) ?_
            have hPc := hP.sub (ws' := [(mo, .inr (12, .ref nw :: .ref kp :: .int 1 :: m3 :: mv)), (nw, .inl (G.2 0, 15642, .inl nf))]) [0, 1] rfl
            have hDc := hD.sub (ws' := [(mo, .inr (12, .ref nw :: .ref kp :: .int 1 :: m3 :: mv)), (nw, .inl (G.2 0, 15642, .inl nf))]) [0, 1] (by decide) rfl
            have hFc := va_free (wc := [(mo, .inr (12, .ref nw :: .ref kp :: .int 1 :: m3 :: mv)), (nw, .inl (G.2 0, 15642, .inl nf))]) hD hS hA [0, 1] rfl
            refine va_calli (va_runV (As := [.int x1, .int x2, .int (-1), .int (-1)]) (rest := []) ⟨hx, hb, hml, hown, hts⟩ (r_comes l G _ mo x1 x2 (-1) (-1) nw (.ref kp) (.int 1) m3 mv nf (by first | assumption | decide)) (cwV 4 hts (gd_V mw_31_2 mw_31_3 mw_31_4 mw_1_5 mw_31_5) rfl rfl rfl ⟨rfl, yk_X12_comes⟩ ⟨Nat.le_of_ble_eq_true rfl, Nat.le_of_ble_eq_true rfl⟩) (c0_preV (q0 := 0) (ci := 12) (q := (RX12, TX12, 32)) hPc hK hDc rfl rfl) rfl rfl hl.1 rfl (lv_room (Nat.le_of_ble_eq_true rfl)) dX12_plough_54 ⟨Nat.le_of_ble_eq_true rfl, Nat.le_of_ble_eq_true rfl⟩) hS (fun q _ h => hFc q h) hFc (fun r_10 u t H1 locs ht1 hvm hw hB hz1 hk1 hS => ?_)
            try dsimp only at hw hB
            have hr10 := hw
            obtain rfl := hr10.symm
            have hP1 := va_P_nil (D := G.1) (cl := vwCl) (H := H1)
            obtain ⟨hP, hD⟩ := va_join (wr := [(kp, .inl (G.2 0, 15642, .inl kf2_9))]) (w1 := []) hP hD [0, 1] [2] rfl rfl (by decide) (by decide) hk1 hFc hP1 va_D_nil
            generalize H1 = H at hP hS ⊢
            have hP : va_P G.1 vwCl ([(kp, .inl (G.2 0, 15642, .inl kf2_9))]) H := hP
            have hD : va_D A ([(kp, .inl (G.2 0, 15642, .inl kf2_9))]) := hD
            exact W.iret (v := 0) hx hb hr (fun t ht hW => ⟨⟨0, (), rfl, (by unfold sp_plough; split <;> rename_i hc9 <;> first | rfl | (exfalso; simp only [fa_lt, fa_le, fa_eq] at hc9 c_2a c_2b c_3 c_5a c_5b c_6 c_8; have n0 : (0 : Int32).toInt = 0 := (by decide); have n1 : (1 : Int32).toInt = 1 := (by decide); have n3 : (3 : Int32).toInt = 3 := (by decide); have n12 : (12 : Int32).toInt = 12 := (by decide); have n10000 : (10000 : Int32).toInt = 10000 := (by decide); omega)), trivial⟩, hS.F ht⟩) hS.2.2 dX12_plough_57
          · exact absurd c_8 (by decide)
        · exact absurd c_6 (by decide)
      · obtain rfl : r_4 = 0 := hr4.trans he9
        refine lv_if_ne (tgt := 27) hx hb dX12_plough_17 (by decide) (fun c_11 => ?_) (fun c_11 => ?_)
        · exact absurd c_11 (by decide)
        · refine lv_aload_n hx hb dX12_plough_20 rfl (lv_at hl 0 rfl) ?_
          refine lv_bipush (v := (-2)) hx hb dX12_plough_21 (by decide) ?_
          have hPc := hP.sub (ws' := [(mo, .inr (12, .ref nw :: .ref kp :: m2 :: m3 :: mv))]) [0] rfl
          have hDc := hD.sub (ws' := [(mo, .inr (12, .ref nw :: .ref kp :: m2 :: m3 :: mv))]) [0] (by decide) rfl
          have hFc := va_free (wc := [(mo, .inr (12, .ref nw :: .ref kp :: m2 :: m3 :: mv))]) hD hS hA [0] rfl
          refine va_calli (va_runV (As := [.int (-2)]) (rest := []) ⟨hx, hb, hml, hown, hts⟩ (r_refuses_m2 l G _ mo (.ref nw) (.ref kp) m2 m3 mv ) (cwV 1 hts (gd_V mw_11_14 mw_11_15 mw_11_16 mw_1_5 mw_11_17) rfl rfl rfl ⟨rfl, yk_X12_refuses⟩ ⟨Nat.le_of_ble_eq_true rfl, Nat.le_of_ble_eq_true rfl⟩) (c0_preV (q0 := 0) (ci := 12) (q := (RX12, TX12, 32)) hPc hK hDc rfl rfl) rfl rfl hl.1 rfl (lv_room (Nat.le_of_ble_eq_true rfl)) dX12_plough_23 ⟨Nat.le_of_ble_eq_true rfl, Nat.le_of_ble_eq_true rfl⟩) hS (fun q _ h => hFc q h) hFc (fun r_12 u t H1 locs ht1 hvm hw hB hz1 hk1 hS => ?_)
          try dsimp only at hw hB
          have hr12 := hw
          obtain rfl := hr12.symm
          obtain ⟨hP1, hD1⟩ := hB
          rw [ht1] at hP1
          obtain ⟨hP, hD⟩ := va_join (wr := [(nw, .inl (G.2 0, 15642, .inl nf)), (kp, .inl (G.2 0, 15642, .inl kf))]) (w1 := [(mo, .inr (12, .ref nw :: .ref kp :: m2 :: .int (-2) :: mv))]) hP hD [0] [1, 2] rfl rfl (by decide) (by decide) hk1 hFc hP1 hD1
          generalize H1 = H at hP hS ⊢
          have hP : va_P G.1 vwCl ([(nw, .inl (G.2 0, 15642, .inl nf)), (kp, .inl (G.2 0, 15642, .inl kf)), (mo, .inr (12, .ref nw :: .ref kp :: m2 :: .int (-2) :: mv))]) H := hP
          have hD : va_D A ([(nw, .inl (G.2 0, 15642, .inl nf)), (kp, .inl (G.2 0, 15642, .inl kf)), (mo, .inr (12, .ref nw :: .ref kp :: m2 :: .int (-2) :: mv))]) := hD
          exact W.iret (v := (-2)) hx hb hr (fun t ht hW => ⟨⟨(-2), (), rfl, (by unfold sp_plough; split <;> rename_i hc9 <;> first | rfl | (exfalso; simp only [fa_lt, fa_le, fa_eq] at hc9 c_2a c_2b c_3 c_5 c_11; have n0 : (0 : Int32).toInt = 0 := (by decide); have n1 : (1 : Int32).toInt = 1 := (by decide); have n3 : (3 : Int32).toInt = 3 := (by decide); have n10000 : (10000 : Int32).toInt = 10000 := (by decide); omega)), trivial⟩, hS.F ht⟩) hS.2.2 dX12_plough_26
  · obtain rfl : r_1 = 0 := hr1.trans he9
    refine lv_if_eq (tgt := 20) hx hb dX12_plough_6 (by decide) (fun c_13 => ?_) (fun c_13 => ?_)
    · refine lv_aload_n hx hb dX12_plough_20 rfl (lv_at hl 0 rfl) ?_
      refine lv_bipush (v := (-2)) hx hb dX12_plough_21 (by decide) ?_
      have hPc := hP.sub (ws' := [(mo, .inr (12, .ref nw :: .ref kp :: m2 :: m3 :: mv))]) [0] rfl
      have hDc := hD.sub (ws' := [(mo, .inr (12, .ref nw :: .ref kp :: m2 :: m3 :: mv))]) [0] (by decide) rfl
      have hFc := va_free (wc := [(mo, .inr (12, .ref nw :: .ref kp :: m2 :: m3 :: mv))]) hD hS hA [0] rfl
      refine va_calli (va_runV (As := [.int (-2)]) (rest := []) ⟨hx, hb, hml, hown, hts⟩ (r_refuses_m2 l G _ mo (.ref nw) (.ref kp) m2 m3 mv ) (cwV 1 hts (gd_V mw_11_14 mw_11_15 mw_11_16 mw_1_5 mw_11_17) rfl rfl rfl ⟨rfl, yk_X12_refuses⟩ ⟨Nat.le_of_ble_eq_true rfl, Nat.le_of_ble_eq_true rfl⟩) (c0_preV (q0 := 0) (ci := 12) (q := (RX12, TX12, 32)) hPc hK hDc rfl rfl) rfl rfl hl.1 rfl (lv_room (Nat.le_of_ble_eq_true rfl)) dX12_plough_23 ⟨Nat.le_of_ble_eq_true rfl, Nat.le_of_ble_eq_true rfl⟩) hS (fun q _ h => hFc q h) hFc (fun r_14 u t H1 locs ht1 hvm hw hB hz1 hk1 hS => ?_)
      try dsimp only at hw hB
      have hr14 := hw
      obtain rfl := hr14.symm
      obtain ⟨hP1, hD1⟩ := hB
      rw [ht1] at hP1
      obtain ⟨hP, hD⟩ := va_join (wr := [(nw, .inl (G.2 0, 15642, .inl nf)), (kp, .inl (G.2 0, 15642, .inl kf))]) (w1 := [(mo, .inr (12, .ref nw :: .ref kp :: m2 :: .int (-2) :: mv))]) hP hD [0] [1, 2] rfl rfl (by decide) (by decide) hk1 hFc hP1 hD1
      generalize H1 = H at hP hS ⊢
      have hP : va_P G.1 vwCl ([(nw, .inl (G.2 0, 15642, .inl nf)), (kp, .inl (G.2 0, 15642, .inl kf)), (mo, .inr (12, .ref nw :: .ref kp :: m2 :: .int (-2) :: mv))]) H := hP
      have hD : va_D A ([(nw, .inl (G.2 0, 15642, .inl nf)), (kp, .inl (G.2 0, 15642, .inl kf)), (mo, .inr (12, .ref nw :: .ref kp :: m2 :: .int (-2) :: mv))]) := hD
      exact W.iret (v := (-2)) hx hb hr (fun t ht hW => ⟨⟨(-2), (), rfl, (by unfold sp_plough; split <;> rename_i hc9 <;> first | rfl | (exfalso; simp only [fa_lt, fa_le, fa_eq] at hc9 c_2 c_13; have n0 : (0 : Int32).toInt = 0 := (by decide); have n3 : (3 : Int32).toInt = 3 := (by decide); have n10000 : (10000 : Int32).toInt = 10000 := (by decide); omega)), trivial⟩, hS.F ht⟩) hS.2.2 dX12_plough_26
    · exact absurd c_13 (by decide)

set_option maxHeartbeats 4000000 in
set_option maxRecDepth 100000 in
theorem r_beginTimes (l : Launch) (G : GG) (sz : Nat) (mo : Nat) (nw : Nat) (mv : List Value) (nf : Nat → Int32) (hz : ∀ j, j < 16 → nf j = 0) : Met l yX12_beginTimes (.code yX12_beginTimes cX12_beginTimes 2 none :: TT) ({ frames := 1, cells := 0, slots := 0, locals := 100 } : Room) (c0_P G [.ref mo] sz ([(mo, .inr (12, .ref nw :: mv)), (nw, .inl (G.2 0, 15642, .inl nf))])) (va_Qv (S := Unit) (fun (u : Unit) => True) (fun (u : Unit) (t : State) => c0_B G (va_A ([(mo, .inr (12, .ref nw :: mv)), (nw, .inl (G.2 0, 15642, .inl nf))]) sz) ([(mo, .inr (12, .ref nw :: mv)), (nw, .inl (G.2 0, 15642, .inl nf))]) t) (va_A ([(mo, .inr (12, .ref nw :: mv)), (nw, .inl (G.2 0, 15642, .inl nf))]) sz)) 0 0 (va_A ([(mo, .inr (12, .ref nw :: mv)), (nw, .inl (G.2 0, 15642, .inl nf))]) sz) := by
  refine Met.ofW (cc := cX12_beginTimes) (maxL := 2) (ret := none) (by decide) rfl ?_
  intro p e s m args below meth c s₁ B hml hv
  obtain ⟨rfl, hsz, hP, hK, hD0⟩ := hv
  have hx := B.exec
  have hb := B.bytes
  have hr := B.returns
  have hts := atoms_spec (ws := .code yX12_beginTimes cX12_beginTimes 2 none :: TT) B.pre
  have ht := fun (w : Cond) (h : w ∈ TT) => hts w (List.mem_cons_of_mem _ h)
  have hown : s.vm.findClass RX12 = some m.cls := findClass_of_methodNamed B.named
  have hlocks := B.notSynchronized
  subst hsz
  have hD := hD0.self (sz := s.heap.size)
  generalize hAe : va_A ([(mo, .inr (12, .ref nw :: mv)), (nw, .inl (G.2 0, 15642, .inl nf))]) s.heap.size = A at hD ⊢
  have hA : ∀ q : Nat, s.heap.size ≤ q → A q := fun q h => by rw [← hAe]; exact Or.inr h
  have hS : va_S A s.heap s.heap [] := va_S.rf
  have hP : va_P G.1 vwCl ([(mo, .inr (12, .ref nw :: mv)), (nw, .inl (G.2 0, 15642, .inl nf))]) s.heap := hP
  have hl := lv_entry ([.ref mo]) (n := 2) (Nat.le_of_ble_eq_true rfl)
  rw [lg_entry_eq]
  generalize (lg_sl ([.ref mo]) ++ List.replicate (2 - (lg_sl ([.ref mo])).length) Slot.unset).toArray = ls at hl ⊢
  have hl : lv_has ls 2 [(0, .ref mo)] := hl
  refine lv_iconst (v := 0) hx hb dX12_beginTimes_0 (by decide) ?_
  refine lv_istore_n (lv' := [(1, .int 0), (0, .ref mo)]) hx hb dX12_beginTimes_1 rfl hl (by decide) rfl (fun ls hl => ?_)
  refine lv_iload_n hx hb dX12_beginTimes_2 rfl (lv_at hl 0 rfl) ?_
  refine lv_aload_n hx hb dX12_beginTimes_3 rfl (lv_at hl 1 rfl) ?_
  refine va_get (D := G.1) (ci := 12) (v := .ref nw) (C := RX12) (T := TX12) (N := 32) hx hb ht inlX12 hown hK.1 hP 0 rfl rfl 0 (by decide) (ht (Cond.fieldLink RX12 7 "PloughDepotModel" "now" "[I") mw_6_19) (fun _ h9 => h9) rfl dX12_beginTimes_4 ?_
  refine lv_iconst (v := 1) hx hb dX12_beginTimes_7 (by decide) ?_
  refine va_iald hx hb hK.1 hP 1 0 rfl rfl (show ¬ ((1 : Int32) < 0 ∨ 15642 ≤ (1 : Int32).toNatClampNeg) by decide) dX12_beginTimes_8 ?_
  refine lv_topi (fun v_1 ev_1 => ?_)
  obtain rfl : 0 = v_1 := (ev_1.trans (hz _ (by decide))).symm
  refine lv_icmp_ge (tgt := 48) hx hb dX12_beginTimes_9 (by decide) (fun c_2 => ?_) (fun c_2 => ?_)
  · have hP9 := hP.sub (ws' := [(mo, .inr (12, .ref nw :: mv)), (nw, .inl (G.2 0, 15642, .inl nf))]) [0, 1] rfl
    have hD9 := hD.sub (ws' := [(mo, .inr (12, .ref nw :: mv)), (nw, .inl (G.2 0, 15642, .inl nf))]) [0, 1] (by decide) rfl
    exact W.vret hx hb hr (fun t ht hW => ⟨⟨(), rfl, trivial, ⟨by rw [ht]; exact hP9, hD9⟩⟩, hS.F ht⟩) hS.2.2 dX12_beginTimes_48
  · exact absurd c_2 (by decide)

set_option maxHeartbeats 4000000 in
set_option maxRecDepth 100000 in
theorem r_findOdd (l : Launch) (G : GG) (sz : Nat) (mo : Nat) (nw : Nat) (m1 : Value) (m2 : Value) (m3 : Value) (m4 : Value) (m5 : Value) (m6 : Value) (m7 : Value) (m8 : Value) (m9 : Value) (m10 : Value) (m11 : Value) (m12 : Value) (m13 : Value) (m14 : Value) (m15 : Value) (m16 : Value) (mv : List Value) (nf : Nat → Int32) (hz : ∀ j, j < 16 → nf j = 0) : Met l yX12_findOdd (.code yX12_findOdd cX12_findOdd 5 none :: TT) ({ frames := 1, cells := 0, slots := 0, locals := 100 } : Room) (c0_P G [.ref mo] sz ([(mo, .inr (12, .ref nw :: m1 :: m2 :: m3 :: m4 :: m5 :: m6 :: m7 :: m8 :: m9 :: m10 :: m11 :: m12 :: m13 :: m14 :: m15 :: m16 :: mv)), (nw, .inl (G.2 0, 15642, .inl nf))])) (va_Qv (S := Unit) (fun (u : Unit) => True) (fun (u : Unit) (t : State) => c0_B G (va_A ([(mo, .inr (12, .ref nw :: m1 :: m2 :: m3 :: m4 :: m5 :: m6 :: m7 :: m8 :: m9 :: m10 :: m11 :: m12 :: m13 :: m14 :: m15 :: m16 :: mv)), (nw, .inl (G.2 0, 15642, .inl nf))]) sz) ([(mo, .inr (12, .ref nw :: m1 :: m2 :: m3 :: m4 :: m5 :: m6 :: m7 :: m8 :: m9 :: m10 :: m11 :: m12 :: m13 :: m14 :: m15 :: .int 0 :: mv)), (nw, .inl (G.2 0, 15642, .inl nf))]) t) (va_A ([(mo, .inr (12, .ref nw :: m1 :: m2 :: m3 :: m4 :: m5 :: m6 :: m7 :: m8 :: m9 :: m10 :: m11 :: m12 :: m13 :: m14 :: m15 :: m16 :: mv)), (nw, .inl (G.2 0, 15642, .inl nf))]) sz)) 0 0 (va_A ([(mo, .inr (12, .ref nw :: m1 :: m2 :: m3 :: m4 :: m5 :: m6 :: m7 :: m8 :: m9 :: m10 :: m11 :: m12 :: m13 :: m14 :: m15 :: m16 :: mv)), (nw, .inl (G.2 0, 15642, .inl nf))]) sz) := by
  refine Met.ofW (cc := cX12_findOdd) (maxL := 5) (ret := none) (by decide) rfl ?_
  intro p e s m args below meth c s₁ B hml hv
  obtain ⟨rfl, hsz, hP, hK, hD0⟩ := hv
  have hx := B.exec
  have hb := B.bytes
  have hr := B.returns
  have hts := atoms_spec (ws := .code yX12_findOdd cX12_findOdd 5 none :: TT) B.pre
  have ht := fun (w : Cond) (h : w ∈ TT) => hts w (List.mem_cons_of_mem _ h)
  have hown : s.vm.findClass RX12 = some m.cls := findClass_of_methodNamed B.named
  have hlocks := B.notSynchronized
  subst hsz
  have hD := hD0.self (sz := s.heap.size)
  generalize hAe : va_A ([(mo, .inr (12, .ref nw :: m1 :: m2 :: m3 :: m4 :: m5 :: m6 :: m7 :: m8 :: m9 :: m10 :: m11 :: m12 :: m13 :: m14 :: m15 :: m16 :: mv)), (nw, .inl (G.2 0, 15642, .inl nf))]) s.heap.size = A at hD ⊢
  have hA : ∀ q : Nat, s.heap.size ≤ q → A q := fun q h => by rw [← hAe]; exact Or.inr h
  have hS : va_S A s.heap s.heap [] := va_S.rf
  have hP : va_P G.1 vwCl ([(mo, .inr (12, .ref nw :: m1 :: m2 :: m3 :: m4 :: m5 :: m6 :: m7 :: m8 :: m9 :: m10 :: m11 :: m12 :: m13 :: m14 :: m15 :: m16 :: mv)), (nw, .inl (G.2 0, 15642, .inl nf))]) s.heap := hP
  have hl := lv_entry ([.ref mo]) (n := 5) (Nat.le_of_ble_eq_true rfl)
  rw [lg_entry_eq]
  generalize (lg_sl ([.ref mo]) ++ List.replicate (5 - (lg_sl ([.ref mo])).length) Slot.unset).toArray = ls at hl ⊢
  have hl : lv_has ls 5 [(0, .ref mo)] := hl
  refine lv_aload_n hx hb dX12_findOdd_0 rfl (lv_at hl 0 rfl) ?_
  refine lv_iconst (v := 0) hx hb dX12_findOdd_1 (by decide) ?_
  refine va_put (D := G.1) (ci := 12) (v := .int 0) (ty := tyX12 16) (C := RX12) (T := TX12) (N := 32) hx hb ht inlX12 tyX12 tyX12_ok nmX12 hown hK.1 hP hD hS 0 rfl rfl 16 (by decide) (ht (Cond.fieldLink RX12 242 "PloughDepotModel" "odds" "I") mw_40_8) (fun _ h9 => h9) rfl (tyX12_ok 16 (by decide)) rfl rfl (by simp) dX12_findOdd_2 (fun H locs hP hD hS => ?_)
  have hP : va_P G.1 vwCl ([(mo, .inr (12, .ref nw :: m1 :: m2 :: m3 :: m4 :: m5 :: m6 :: m7 :: m8 :: m9 :: m10 :: m11 :: m12 :: m13 :: m14 :: m15 :: .int 0 :: mv)), (nw, .inl (G.2 0, 15642, .inl nf))]) H := hP
  have hD : va_D A ([(mo, .inr (12, .ref nw :: m1 :: m2 :: m3 :: m4 :: m5 :: m6 :: m7 :: m8 :: m9 :: m10 :: m11 :: m12 :: m13 :: m14 :: m15 :: .int 0 :: mv)), (nw, .inl (G.2 0, 15642, .inl nf))]) := hD
  refine lv_iconst (v := 0) hx hb dX12_findOdd_5 (by decide) ?_
  refine lv_istore_n (lv' := [(1, .int 0), (0, .ref mo)]) hx hb dX12_findOdd_6 rfl hl (by decide) rfl (fun ls hl => ?_)
  refine lv_iload_n hx hb dX12_findOdd_7 rfl (lv_at hl 0 rfl) ?_
  refine lv_aload_n hx hb dX12_findOdd_8 rfl (lv_at hl 1 rfl) ?_
  refine va_get (D := G.1) (ci := 12) (v := .ref nw) (C := RX12) (T := TX12) (N := 32) hx hb ht inlX12 hown hK.1 hP 0 rfl rfl 0 (by decide) (ht (Cond.fieldLink RX12 7 "PloughDepotModel" "now" "[I") mw_6_19) (fun _ h9 => h9) rfl dX12_findOdd_9 ?_
  refine lv_iconst (v := 0) hx hb dX12_findOdd_12 (by decide) ?_
  refine va_iald hx hb hK.1 hP 1 0 rfl rfl (show ¬ ((0 : Int32) < 0 ∨ 15642 ≤ (0 : Int32).toNatClampNeg) by decide) dX12_findOdd_13 ?_
  refine lv_topi (fun v_1 ev_1 => ?_)
  obtain rfl : 0 = v_1 := (ev_1.trans (hz _ (by decide))).symm
  refine lv_icmp_ge (tgt := 118) hx hb dX12_findOdd_14 (by decide) (fun c_2 => ?_) (fun c_2 => ?_)
  · have hP9 := hP.sub (ws' := [(mo, .inr (12, .ref nw :: m1 :: m2 :: m3 :: m4 :: m5 :: m6 :: m7 :: m8 :: m9 :: m10 :: m11 :: m12 :: m13 :: m14 :: m15 :: .int 0 :: mv)), (nw, .inl (G.2 0, 15642, .inl nf))]) [0, 1] rfl
    have hD9 := hD.sub (ws' := [(mo, .inr (12, .ref nw :: m1 :: m2 :: m3 :: m4 :: m5 :: m6 :: m7 :: m8 :: m9 :: m10 :: m11 :: m12 :: m13 :: m14 :: m15 :: .int 0 :: mv)), (nw, .inl (G.2 0, 15642, .inl nf))]) [0, 1] (by decide) rfl
    exact W.vret hx hb hr (fun t ht hW => ⟨⟨(), rfl, trivial, ⟨by rw [ht]; exact hP9, hD9⟩⟩, hS.F ht⟩) hS.2.2 dX12_findOdd_118
  · exact absurd c_2 (by decide)

set_option maxHeartbeats 4000000 in
set_option maxRecDepth 100000 in
theorem r_odd (l : Launch) (G : GG) (sz : Nat) (mo : Nat) (x1 : Int32) (nw : Nat) (m1 : Value) (m2 : Value) (m3 : Value) (m4 : Value) (m5 : Value) (m6 : Value) (m7 : Value) (m8 : Value) (m9 : Value) (m10 : Value) (m11 : Value) (m12 : Value) (m13 : Value) (m14 : Value) (m15 : Value) (m16 : Value) (mv : List Value) (nf : Nat → Int32) (hz : ∀ j, j < 16 → nf j = 0) : Met l yX12_odd (.code yX12_odd cX12_odd 2 (some .int) :: TT) ({ frames := 2, cells := 0, slots := 0, locals := 200 } : Room) (c0_P G [.ref mo, .int x1] sz ([(mo, .inr (12, .ref nw :: m1 :: m2 :: m3 :: m4 :: m5 :: m6 :: m7 :: m8 :: m9 :: m10 :: m11 :: m12 :: m13 :: m14 :: m15 :: m16 :: mv)), (nw, .inl (G.2 0, 15642, .inl nf))])) (va_Qi (S := Unit) (fun (r : Int32) (u : Unit) => r = (-1)) (fun (u : Unit) (t : State) => True) (va_A ([(mo, .inr (12, .ref nw :: m1 :: m2 :: m3 :: m4 :: m5 :: m6 :: m7 :: m8 :: m9 :: m10 :: m11 :: m12 :: m13 :: m14 :: m15 :: m16 :: mv)), (nw, .inl (G.2 0, 15642, .inl nf))]) sz)) 0 0 (va_A ([(mo, .inr (12, .ref nw :: m1 :: m2 :: m3 :: m4 :: m5 :: m6 :: m7 :: m8 :: m9 :: m10 :: m11 :: m12 :: m13 :: m14 :: m15 :: m16 :: mv)), (nw, .inl (G.2 0, 15642, .inl nf))]) sz) := by
  refine Met.ofW (cc := cX12_odd) (maxL := 2) (ret := (some .int)) (by decide) rfl ?_
  intro p e s m args below meth c s₁ B hml hv
  obtain ⟨rfl, hsz, hP, hK, hD0⟩ := hv
  have hx := B.exec
  have hb := B.bytes
  have hr := B.returns
  have hts := atoms_spec (ws := .code yX12_odd cX12_odd 2 (some .int) :: TT) B.pre
  have ht := fun (w : Cond) (h : w ∈ TT) => hts w (List.mem_cons_of_mem _ h)
  have hown : s.vm.findClass RX12 = some m.cls := findClass_of_methodNamed B.named
  have hlocks := B.notSynchronized
  subst hsz
  have hD := hD0.self (sz := s.heap.size)
  generalize hAe : va_A ([(mo, .inr (12, .ref nw :: m1 :: m2 :: m3 :: m4 :: m5 :: m6 :: m7 :: m8 :: m9 :: m10 :: m11 :: m12 :: m13 :: m14 :: m15 :: m16 :: mv)), (nw, .inl (G.2 0, 15642, .inl nf))]) s.heap.size = A at hD ⊢
  have hA : ∀ q : Nat, s.heap.size ≤ q → A q := fun q h => by rw [← hAe]; exact Or.inr h
  have hS : va_S A s.heap s.heap [] := va_S.rf
  have hP : va_P G.1 vwCl ([(mo, .inr (12, .ref nw :: m1 :: m2 :: m3 :: m4 :: m5 :: m6 :: m7 :: m8 :: m9 :: m10 :: m11 :: m12 :: m13 :: m14 :: m15 :: m16 :: mv)), (nw, .inl (G.2 0, 15642, .inl nf))]) s.heap := hP
  have hl := lv_entry ([.ref mo, .int x1]) (n := 2) (Nat.le_of_ble_eq_true rfl)
  rw [lg_entry_eq]
  generalize (lg_sl ([.ref mo, .int x1]) ++ List.replicate (2 - (lg_sl ([.ref mo, .int x1])).length) Slot.unset).toArray = ls at hl ⊢
  have hl : lv_has ls 2 [(0, .ref mo), (1, .int x1)] := hl
  refine lv_aload_n hx hb dX12_odd_0 rfl (lv_at hl 0 rfl) ?_
  have hPc := hP.sub (ws' := [(mo, .inr (12, .ref nw :: m1 :: m2 :: m3 :: m4 :: m5 :: m6 :: m7 :: m8 :: m9 :: m10 :: m11 :: m12 :: m13 :: m14 :: m15 :: m16 :: mv)), (nw, .inl (G.2 0, 15642, .inl nf))]) [0, 1] rfl
  have hDc := hD.sub (ws' := [(mo, .inr (12, .ref nw :: m1 :: m2 :: m3 :: m4 :: m5 :: m6 :: m7 :: m8 :: m9 :: m10 :: m11 :: m12 :: m13 :: m14 :: m15 :: m16 :: mv)), (nw, .inl (G.2 0, 15642, .inl nf))]) [0, 1] (by decide) rfl
  have hFc := va_free (wc := [(mo, .inr (12, .ref nw :: m1 :: m2 :: m3 :: m4 :: m5 :: m6 :: m7 :: m8 :: m9 :: m10 :: m11 :: m12 :: m13 :: m14 :: m15 :: m16 :: mv)), (nw, .inl (G.2 0, 15642, .inl nf))]) hD hS hA [0, 1] rfl
  refine va_callv (va_runV (As := []) (rest := []) ⟨hx, hb, hml, hown, hts⟩ (r_beginTimes l G _ mo nw (m1 :: m2 :: m3 :: m4 :: m5 :: m6 :: m7 :: m8 :: m9 :: m10 :: m11 :: m12 :: m13 :: m14 :: m15 :: m16 :: mv) nf (by first | assumption | decide)) (cwV 0 hts (gd_V mw_40_9 mw_40_10 mw_40_11 mw_1_5 mw_40_12) rfl rfl rfl ⟨rfl, yk_X12_beginTimes⟩ ⟨Nat.le_of_ble_eq_true rfl, Nat.le_of_ble_eq_true rfl⟩) (c0_preV (q0 := 0) (ci := 12) (q := (RX12, TX12, 32)) hPc hK hDc rfl rfl) rfl rfl hl.1 rfl (lv_room (Nat.le_of_ble_eq_true rfl)) dX12_odd_1 ⟨Nat.le_of_ble_eq_true rfl, Nat.le_of_ble_eq_true rfl⟩) hS (fun q _ h => hFc q h) hFc (fun u t H1 locs ht1 hvm hw hB hz1 hk1 hS => ?_)
  try dsimp only at hw hB
  obtain ⟨hP1, hD1⟩ := hB
  rw [ht1] at hP1
  obtain ⟨hP, hD⟩ := va_join (wr := []) (w1 := [(mo, .inr (12, .ref nw :: m1 :: m2 :: m3 :: m4 :: m5 :: m6 :: m7 :: m8 :: m9 :: m10 :: m11 :: m12 :: m13 :: m14 :: m15 :: m16 :: mv)), (nw, .inl (G.2 0, 15642, .inl nf))]) hP hD [0, 1] [] rfl rfl (by decide) (by decide) hk1 hFc hP1 hD1
  generalize H1 = H at hP hS ⊢
  have hP : va_P G.1 vwCl ([(mo, .inr (12, .ref nw :: m1 :: m2 :: m3 :: m4 :: m5 :: m6 :: m7 :: m8 :: m9 :: m10 :: m11 :: m12 :: m13 :: m14 :: m15 :: m16 :: mv)), (nw, .inl (G.2 0, 15642, .inl nf))]) H := hP
  have hD : va_D A ([(mo, .inr (12, .ref nw :: m1 :: m2 :: m3 :: m4 :: m5 :: m6 :: m7 :: m8 :: m9 :: m10 :: m11 :: m12 :: m13 :: m14 :: m15 :: m16 :: mv)), (nw, .inl (G.2 0, 15642, .inl nf))]) := hD
  refine lv_aload_n hx hb dX12_odd_4 rfl (lv_at hl 0 rfl) ?_
  have hPc := hP.sub (ws' := [(mo, .inr (12, .ref nw :: m1 :: m2 :: m3 :: m4 :: m5 :: m6 :: m7 :: m8 :: m9 :: m10 :: m11 :: m12 :: m13 :: m14 :: m15 :: m16 :: mv)), (nw, .inl (G.2 0, 15642, .inl nf))]) [0, 1] rfl
  have hDc := hD.sub (ws' := [(mo, .inr (12, .ref nw :: m1 :: m2 :: m3 :: m4 :: m5 :: m6 :: m7 :: m8 :: m9 :: m10 :: m11 :: m12 :: m13 :: m14 :: m15 :: m16 :: mv)), (nw, .inl (G.2 0, 15642, .inl nf))]) [0, 1] (by decide) rfl
  have hFc := va_free (wc := [(mo, .inr (12, .ref nw :: m1 :: m2 :: m3 :: m4 :: m5 :: m6 :: m7 :: m8 :: m9 :: m10 :: m11 :: m12 :: m13 :: m14 :: m15 :: m16 :: mv)), (nw, .inl (G.2 0, 15642, .inl nf))]) hD hS hA [0, 1] rfl
  refine va_callv (va_runV (As := []) (rest := []) ⟨hx, hb, hml, hown, hts⟩ (r_findOdd l G _ mo nw m1 m2 m3 m4 m5 m6 m7 m8 m9 m10 m11 m12 m13 m14 m15 m16 mv nf (by first | assumption | decide)) (cwV 0 hts (gd_V mw_40_17 mw_40_18 mw_40_19 mw_1_5 mw_40_20) rfl rfl rfl ⟨rfl, yk_X12_findOdd⟩ ⟨Nat.le_of_ble_eq_true rfl, Nat.le_of_ble_eq_true rfl⟩) (c0_preV (q0 := 0) (ci := 12) (q := (RX12, TX12, 32)) hPc hK hDc rfl rfl) rfl rfl hl.1 rfl (lv_room (Nat.le_of_ble_eq_true rfl)) dX12_odd_5 ⟨Nat.le_of_ble_eq_true rfl, Nat.le_of_ble_eq_true rfl⟩) hS (fun q _ h => hFc q h) hFc (fun u t H1 locs ht1 hvm hw hB hz1 hk1 hS => ?_)
  try dsimp only at hw hB
  obtain ⟨hP1, hD1⟩ := hB
  rw [ht1] at hP1
  obtain ⟨hP, hD⟩ := va_join (wr := []) (w1 := [(mo, .inr (12, .ref nw :: m1 :: m2 :: m3 :: m4 :: m5 :: m6 :: m7 :: m8 :: m9 :: m10 :: m11 :: m12 :: m13 :: m14 :: m15 :: .int 0 :: mv)), (nw, .inl (G.2 0, 15642, .inl nf))]) hP hD [0, 1] [] rfl rfl (by decide) (by decide) hk1 hFc hP1 hD1
  generalize H1 = H at hP hS ⊢
  have hP : va_P G.1 vwCl ([(mo, .inr (12, .ref nw :: m1 :: m2 :: m3 :: m4 :: m5 :: m6 :: m7 :: m8 :: m9 :: m10 :: m11 :: m12 :: m13 :: m14 :: m15 :: .int 0 :: mv)), (nw, .inl (G.2 0, 15642, .inl nf))]) H := hP
  have hD : va_D A ([(mo, .inr (12, .ref nw :: m1 :: m2 :: m3 :: m4 :: m5 :: m6 :: m7 :: m8 :: m9 :: m10 :: m11 :: m12 :: m13 :: m14 :: m15 :: .int 0 :: mv)), (nw, .inl (G.2 0, 15642, .inl nf))]) := hD
  refine lv_aload_n hx hb dX12_odd_8 rfl (lv_at hl 0 rfl) ?_
  refine lv_iload_n hx hb dX12_odd_9 rfl (lv_at hl 1 rfl) ?_
  refine lv_iconst (v := 0) hx hb dX12_odd_10 (by decide) ?_
  refine lv_aload_n hx hb dX12_odd_11 rfl (lv_at hl 0 rfl) ?_
  refine va_get (D := G.1) (ci := 12) (v := .int 0) (C := RX12) (T := TX12) (N := 32) hx hb ht inlX12 hown hK.1 hP 0 rfl rfl 16 (by decide) (ht (Cond.fieldLink RX12 242 "PloughDepotModel" "odds" "I") mw_40_8) (fun _ h9 => h9) rfl dX12_odd_12 ?_
  refine lv_iconst (v := 1) hx hb dX12_odd_15 (by decide) ?_
  refine lv_isub hx hb dX12_odd_16 ?_
  refine lv_topi (fun v_1 ev_1 => ?_)
  obtain rfl : v_1 = (-1) := ev_1.trans (by decide)
  have hPc := hP.sub (ws' := []) [] rfl
  have hDc := hD.sub (ws' := []) [] (by decide) rfl
  have hFc := va_free (wc := []) hD hS hA [] rfl
  refine va_calli (va_runS (As := [.int x1, .int 0, .int (-1)]) (rest := [.ref mo]) ⟨hx, hb, hml, hown, hts⟩ (r_in l G _ x1 0 (-1) ) (va_cwS 3 hts (gd_S mw_11_11 mw_11_12 mw_1_5 mw_11_13) rfl rfl rfl yk_X12_in ⟨Nat.le_of_ble_eq_true rfl, Nat.le_of_ble_eq_true rfl⟩) (c0_pre hPc hK hDc) rfl rfl hl.1 rfl (lv_room (Nat.le_of_ble_eq_true rfl)) dX12_odd_17 ⟨Nat.le_of_ble_eq_true rfl, Nat.le_of_ble_eq_true rfl⟩) hS (fun q _ h => hFc q h) hFc (fun r_2 u t H1 locs ht1 hvm hw hB hz1 hk1 hS => ?_)
  try dsimp only at hw hB
  have hr2 := hw
  obtain ⟨hP1, hD1⟩ := hB
  rw [ht1] at hP1
  obtain ⟨hP, hD⟩ := va_join (wr := [(mo, .inr (12, .ref nw :: m1 :: m2 :: m3 :: m4 :: m5 :: m6 :: m7 :: m8 :: m9 :: m10 :: m11 :: m12 :: m13 :: m14 :: m15 :: .int 0 :: mv)), (nw, .inl (G.2 0, 15642, .inl nf))]) (w1 := []) hP hD [] [0, 1] rfl rfl (by decide) (by decide) hk1 hFc hP1 hD1
  generalize H1 = H at hP hS ⊢
  have hP : va_P G.1 vwCl ([(mo, .inr (12, .ref nw :: m1 :: m2 :: m3 :: m4 :: m5 :: m6 :: m7 :: m8 :: m9 :: m10 :: m11 :: m12 :: m13 :: m14 :: m15 :: .int 0 :: mv)), (nw, .inl (G.2 0, 15642, .inl nf))]) H := hP
  have hD : va_D A ([(mo, .inr (12, .ref nw :: m1 :: m2 :: m3 :: m4 :: m5 :: m6 :: m7 :: m8 :: m9 :: m10 :: m11 :: m12 :: m13 :: m14 :: m15 :: .int 0 :: mv)), (nw, .inl (G.2 0, 15642, .inl nf))]) := hD
  obtain rfl : r_2 = 0 := hr2.trans (sp_in_m x1 (by decide))
  refine lv_if_eq (tgt := 32) hx hb dX12_odd_20 (by decide) (fun c_3 => ?_) (fun c_3 => ?_)
  · refine lv_iconst (v := (-1)) hx hb dX12_odd_32 (by decide) ?_
    have hPc := hP.sub (ws' := [(mo, .inr (12, .ref nw :: m1 :: m2 :: m3 :: m4 :: m5 :: m6 :: m7 :: m8 :: m9 :: m10 :: m11 :: m12 :: m13 :: m14 :: m15 :: .int 0 :: mv))]) [0] rfl
    have hDc := hD.sub (ws' := [(mo, .inr (12, .ref nw :: m1 :: m2 :: m3 :: m4 :: m5 :: m6 :: m7 :: m8 :: m9 :: m10 :: m11 :: m12 :: m13 :: m14 :: m15 :: .int 0 :: mv))]) [0] (by decide) rfl
    have hFc := va_free (wc := [(mo, .inr (12, .ref nw :: m1 :: m2 :: m3 :: m4 :: m5 :: m6 :: m7 :: m8 :: m9 :: m10 :: m11 :: m12 :: m13 :: m14 :: m15 :: .int 0 :: mv))]) hD hS hA [0] rfl
    refine va_calli (va_runV (As := [.int (-1)]) (rest := []) ⟨hx, hb, hml, hown, hts⟩ (r_says l G _ mo (-1) (.ref nw) m1 m2 m3 (m4 :: m5 :: m6 :: m7 :: m8 :: m9 :: m10 :: m11 :: m12 :: m13 :: m14 :: m15 :: .int 0 :: mv) ) (cwV 1 hts (gd_V mw_12_4 mw_12_5 mw_12_6 mw_1_5 mw_12_7) rfl rfl rfl ⟨rfl, yk_X12_says⟩ ⟨Nat.le_of_ble_eq_true rfl, Nat.le_of_ble_eq_true rfl⟩) (c0_preV (q0 := 0) (ci := 12) (q := (RX12, TX12, 32)) hPc hK hDc rfl rfl) rfl rfl hl.1 rfl (lv_room (Nat.le_of_ble_eq_true rfl)) dX12_odd_33 ⟨Nat.le_of_ble_eq_true rfl, Nat.le_of_ble_eq_true rfl⟩) hS (fun q _ h => hFc q h) hFc (fun r_4 u t H1 locs ht1 hvm hw hB hz1 hk1 hS => ?_)
    try dsimp only at hw hB
    have hr4 := hw
    obtain rfl := hr4.symm
    obtain ⟨hP1, hD1⟩ := hB
    rw [ht1] at hP1
    obtain ⟨hP, hD⟩ := va_join (wr := [(nw, .inl (G.2 0, 15642, .inl nf))]) (w1 := [(mo, .inr (12, .ref nw :: m1 :: m2 :: .int 0 :: m4 :: m5 :: m6 :: m7 :: m8 :: m9 :: m10 :: m11 :: m12 :: m13 :: m14 :: m15 :: .int 0 :: mv))]) hP hD [0] [1] rfl rfl (by decide) (by decide) hk1 hFc hP1 hD1
    generalize H1 = H at hP hS ⊢
    have hP : va_P G.1 vwCl ([(nw, .inl (G.2 0, 15642, .inl nf)), (mo, .inr (12, .ref nw :: m1 :: m2 :: .int 0 :: m4 :: m5 :: m6 :: m7 :: m8 :: m9 :: m10 :: m11 :: m12 :: m13 :: m14 :: m15 :: .int 0 :: mv))]) H := hP
    have hD : va_D A ([(nw, .inl (G.2 0, 15642, .inl nf)), (mo, .inr (12, .ref nw :: m1 :: m2 :: .int 0 :: m4 :: m5 :: m6 :: m7 :: m8 :: m9 :: m10 :: m11 :: m12 :: m13 :: m14 :: m15 :: .int 0 :: mv))]) := hD
    exact W.iret (v := (-1)) hx hb hr (fun t ht hW => ⟨⟨(-1), (), rfl, rfl, trivial⟩, hS.F ht⟩) hS.2.2 dX12_odd_36
  · exact absurd c_3 (by decide)

set_option maxHeartbeats 4000000 in
set_option maxRecDepth 100000 in
theorem r_isOneWay (l : Launch) (G : GG) (sz : Nat) (mo : Nat) (nw : Nat) (mv : List Value) (nf : Nat → Int32) (hz : ∀ j, j < 16 → nf j = 0) : Met l yX12_isOneWay (.code yX12_isOneWay cX12_isOneWay 3 (some .boolean) :: TT) ({ frames := 1, cells := 0, slots := 0, locals := 100 } : Room) (c0_P G [.ref mo] sz ([(mo, .inr (12, .ref nw :: mv)), (nw, .inl (G.2 0, 15642, .inl nf))])) (va_Qi (S := Unit) (fun (r : Int32) (u : Unit) => r = 0) (fun (u : Unit) (t : State) => c0_B G (va_A ([(mo, .inr (12, .ref nw :: mv)), (nw, .inl (G.2 0, 15642, .inl nf))]) sz) ([(mo, .inr (12, .ref nw :: mv)), (nw, .inl (G.2 0, 15642, .inl nf))]) t) (va_A ([(mo, .inr (12, .ref nw :: mv)), (nw, .inl (G.2 0, 15642, .inl nf))]) sz)) 0 0 (va_A ([(mo, .inr (12, .ref nw :: mv)), (nw, .inl (G.2 0, 15642, .inl nf))]) sz) := by
  refine Met.ofW (cc := cX12_isOneWay) (maxL := 3) (ret := (some .boolean)) (by decide) rfl ?_
  intro p e s m args below meth c s₁ B hml hv
  obtain ⟨rfl, hsz, hP, hK, hD0⟩ := hv
  have hx := B.exec
  have hb := B.bytes
  have hr := B.returns
  have hts := atoms_spec (ws := .code yX12_isOneWay cX12_isOneWay 3 (some .boolean) :: TT) B.pre
  have ht := fun (w : Cond) (h : w ∈ TT) => hts w (List.mem_cons_of_mem _ h)
  have hown : s.vm.findClass RX12 = some m.cls := findClass_of_methodNamed B.named
  have hlocks := B.notSynchronized
  subst hsz
  have hD := hD0.self (sz := s.heap.size)
  generalize hAe : va_A ([(mo, .inr (12, .ref nw :: mv)), (nw, .inl (G.2 0, 15642, .inl nf))]) s.heap.size = A at hD ⊢
  have hA : ∀ q : Nat, s.heap.size ≤ q → A q := fun q h => by rw [← hAe]; exact Or.inr h
  have hS : va_S A s.heap s.heap [] := va_S.rf
  have hP : va_P G.1 vwCl ([(mo, .inr (12, .ref nw :: mv)), (nw, .inl (G.2 0, 15642, .inl nf))]) s.heap := hP
  have hl := lv_entry ([.ref mo]) (n := 3) (Nat.le_of_ble_eq_true rfl)
  rw [lg_entry_eq]
  generalize (lg_sl ([.ref mo]) ++ List.replicate (3 - (lg_sl ([.ref mo])).length) Slot.unset).toArray = ls at hl ⊢
  have hl : lv_has ls 3 [(0, .ref mo)] := hl
  refine lv_iconst (v := 0) hx hb dX12_isOneWay_0 (by decide) ?_
  refine lv_istore_n (lv' := [(1, .int 0), (0, .ref mo)]) hx hb dX12_isOneWay_1 rfl hl (by decide) rfl (fun ls hl => ?_)
  refine lv_iconst (v := 0) hx hb dX12_isOneWay_2 (by decide) ?_
  refine lv_istore_n (lv' := [(2, .int 0), (1, .int 0), (0, .ref mo)]) hx hb dX12_isOneWay_3 rfl hl (by decide) rfl (fun ls hl => ?_)
  refine lv_iload_n hx hb dX12_isOneWay_4 rfl (lv_at hl 0 rfl) ?_
  refine lv_aload_n hx hb dX12_isOneWay_5 rfl (lv_at hl 2 rfl) ?_
  refine va_get (D := G.1) (ci := 12) (v := .ref nw) (C := RX12) (T := TX12) (N := 32) hx hb ht inlX12 hown hK.1 hP 0 rfl rfl 0 (by decide) (ht (Cond.fieldLink RX12 7 "PloughDepotModel" "now" "[I") mw_6_19) (fun _ h9 => h9) rfl dX12_isOneWay_6 ?_
  refine lv_iconst (v := 1) hx hb dX12_isOneWay_9 (by decide) ?_
  refine va_iald hx hb hK.1 hP 1 0 rfl rfl (show ¬ ((1 : Int32) < 0 ∨ 15642 ≤ (1 : Int32).toNatClampNeg) by decide) dX12_isOneWay_10 ?_
  refine lv_topi (fun v_1 ev_1 => ?_)
  obtain rfl : 0 = v_1 := (ev_1.trans (hz _ (by decide))).symm
  refine lv_icmp_ge (tgt := 54) hx hb dX12_isOneWay_11 (by decide) (fun c_2 => ?_) (fun c_2 => ?_)
  · refine lv_iload_n hx hb dX12_isOneWay_54 rfl (lv_at hl 1 rfl) ?_
    have hP9 := hP.sub (ws' := [(mo, .inr (12, .ref nw :: mv)), (nw, .inl (G.2 0, 15642, .inl nf))]) [0, 1] rfl
    have hD9 := hD.sub (ws' := [(mo, .inr (12, .ref nw :: mv)), (nw, .inl (G.2 0, 15642, .inl nf))]) [0, 1] (by decide) rfl
    exact W.zret (v := 0) hx hb hr rfl (fun t ht hW => ⟨⟨0, (), rfl, rfl, ⟨by rw [ht]; exact hP9, hD9⟩⟩, hS.F ht⟩) hS.2.2 dX12_isOneWay_55
  · exact absurd c_2 (by decide)

set_option maxHeartbeats 4000000 in
set_option maxRecDepth 100000 in
theorem r_reckon (l : Launch) (G : GG) (sz : Nat) (mo : Nat) (nw : Nat) (m1 : Value) (m2 : Value) (m3 : Value) (m4 : Value) (m5 : Value) (m6 : Value) (m7 : Value) (m8 : Value) (m9 : Value) (mv : List Value) (nf : Nat → Int32) (hz : ∀ j, j < 16 → nf j = 0) : Met l yX12_reckon (.code yX12_reckon cX12_reckon 2 none :: TT) ({ frames := 1, cells := 0, slots := 0, locals := 100 } : Room) (c0_P G [.ref mo] sz ([(mo, .inr (12, .ref nw :: m1 :: m2 :: m3 :: m4 :: m5 :: m6 :: m7 :: m8 :: m9 :: .int 0 :: mv)), (nw, .inl (G.2 0, 15642, .inl nf))])) (va_Qv (S := Unit) (fun (u : Unit) => True) (fun (u : Unit) (t : State) => c0_B G (va_A ([(mo, .inr (12, .ref nw :: m1 :: m2 :: m3 :: m4 :: m5 :: m6 :: m7 :: m8 :: m9 :: .int 0 :: mv)), (nw, .inl (G.2 0, 15642, .inl nf))]) sz) ([(mo, .inr (12, .ref nw :: m1 :: m2 :: m3 :: m4 :: m5 :: m6 :: m7 :: m8 :: m9 :: .int 1 :: mv)), (nw, .inl (G.2 0, 15642, .inl nf))]) t) (va_A ([(mo, .inr (12, .ref nw :: m1 :: m2 :: m3 :: m4 :: m5 :: m6 :: m7 :: m8 :: m9 :: .int 0 :: mv)), (nw, .inl (G.2 0, 15642, .inl nf))]) sz)) 0 0 (va_A ([(mo, .inr (12, .ref nw :: m1 :: m2 :: m3 :: m4 :: m5 :: m6 :: m7 :: m8 :: m9 :: .int 0 :: mv)), (nw, .inl (G.2 0, 15642, .inl nf))]) sz) := by
  refine Met.ofW (cc := cX12_reckon) (maxL := 2) (ret := none) (by decide) rfl ?_
  intro p e s m args below meth c s₁ B hml hv
  obtain ⟨rfl, hsz, hP, hK, hD0⟩ := hv
  have hx := B.exec
  have hb := B.bytes
  have hr := B.returns
  have hts := atoms_spec (ws := .code yX12_reckon cX12_reckon 2 none :: TT) B.pre
  have ht := fun (w : Cond) (h : w ∈ TT) => hts w (List.mem_cons_of_mem _ h)
  have hown : s.vm.findClass RX12 = some m.cls := findClass_of_methodNamed B.named
  have hlocks := B.notSynchronized
  subst hsz
  have hD := hD0.self (sz := s.heap.size)
  generalize hAe : va_A ([(mo, .inr (12, .ref nw :: m1 :: m2 :: m3 :: m4 :: m5 :: m6 :: m7 :: m8 :: m9 :: .int 0 :: mv)), (nw, .inl (G.2 0, 15642, .inl nf))]) s.heap.size = A at hD ⊢
  have hA : ∀ q : Nat, s.heap.size ≤ q → A q := fun q h => by rw [← hAe]; exact Or.inr h
  have hS : va_S A s.heap s.heap [] := va_S.rf
  have hP : va_P G.1 vwCl ([(mo, .inr (12, .ref nw :: m1 :: m2 :: m3 :: m4 :: m5 :: m6 :: m7 :: m8 :: m9 :: .int 0 :: mv)), (nw, .inl (G.2 0, 15642, .inl nf))]) s.heap := hP
  have hl := lv_entry ([.ref mo]) (n := 2) (Nat.le_of_ble_eq_true rfl)
  rw [lg_entry_eq]
  generalize (lg_sl ([.ref mo]) ++ List.replicate (2 - (lg_sl ([.ref mo])).length) Slot.unset).toArray = ls at hl ⊢
  have hl : lv_has ls 2 [(0, .ref mo)] := hl
  refine lv_aload_n hx hb dX12_reckon_0 rfl (lv_at hl 0 rfl) ?_
  refine va_get (D := G.1) (ci := 12) (v := .int 0) (C := RX12) (T := TX12) (N := 32) hx hb ht inlX12 hown hK.1 hP 0 rfl rfl 10 (by decide) (ht (Cond.fieldLink RX12 99 "PloughDepotModel" "isReckoned" "Z") mw_11_10) (fun _ h9 => h9) rfl dX12_reckon_1 ?_
  refine lv_if_ne (tgt := 35) hx hb dX12_reckon_4 (by decide) (fun c_1 => ?_) (fun c_1 => ?_)
  · exact absurd c_1 (by decide)
  · refine lv_iconst (v := 0) hx hb dX12_reckon_7 (by decide) ?_
    refine lv_istore_n (lv' := [(1, .int 0), (0, .ref mo)]) hx hb dX12_reckon_8 rfl hl (by decide) rfl (fun ls hl => ?_)
    refine lv_iload_n hx hb dX12_reckon_9 rfl (lv_at hl 0 rfl) ?_
    refine lv_aload_n hx hb dX12_reckon_10 rfl (lv_at hl 1 rfl) ?_
    refine va_get (D := G.1) (ci := 12) (v := .ref nw) (C := RX12) (T := TX12) (N := 32) hx hb ht inlX12 hown hK.1 hP 0 rfl rfl 0 (by decide) (ht (Cond.fieldLink RX12 7 "PloughDepotModel" "now" "[I") mw_6_19) (fun _ h9 => h9) rfl dX12_reckon_11 ?_
    refine lv_iconst (v := 0) hx hb dX12_reckon_14 (by decide) ?_
    refine va_iald hx hb hK.1 hP 1 0 rfl rfl (show ¬ ((0 : Int32) < 0 ∨ 15642 ≤ (0 : Int32).toNatClampNeg) by decide) dX12_reckon_15 ?_
    refine lv_topi (fun v_2 ev_2 => ?_)
    obtain rfl : 0 = v_2 := (ev_2.trans (hz _ (by decide))).symm
    refine lv_icmp_ge (tgt := 30) hx hb dX12_reckon_16 (by decide) (fun c_3 => ?_) (fun c_3 => ?_)
    · refine lv_aload_n hx hb dX12_reckon_30 rfl (lv_at hl 1 rfl) ?_
      refine lv_iconst (v := 1) hx hb dX12_reckon_31 (by decide) ?_
      refine va_put (D := G.1) (ci := 12) (v := .int 1) (ty := tyX12 10) (C := RX12) (T := TX12) (N := 32) hx hb ht inlX12 tyX12 tyX12_ok nmX12 hown hK.1 hP hD hS 0 rfl rfl 10 (by decide) (ht (Cond.fieldLink RX12 99 "PloughDepotModel" "isReckoned" "Z") mw_11_10) (fun _ h9 => h9) rfl (tyX12_ok 10 (by decide)) rfl rfl (by simp) dX12_reckon_32 (fun H locs hP hD hS => ?_)
      have hP : va_P G.1 vwCl ([(mo, .inr (12, .ref nw :: m1 :: m2 :: m3 :: m4 :: m5 :: m6 :: m7 :: m8 :: m9 :: .int 1 :: mv)), (nw, .inl (G.2 0, 15642, .inl nf))]) H := hP
      have hD : va_D A ([(mo, .inr (12, .ref nw :: m1 :: m2 :: m3 :: m4 :: m5 :: m6 :: m7 :: m8 :: m9 :: .int 1 :: mv)), (nw, .inl (G.2 0, 15642, .inl nf))]) := hD
      have hP9 := hP.sub (ws' := [(mo, .inr (12, .ref nw :: m1 :: m2 :: m3 :: m4 :: m5 :: m6 :: m7 :: m8 :: m9 :: .int 1 :: mv)), (nw, .inl (G.2 0, 15642, .inl nf))]) [0, 1] rfl
      have hD9 := hD.sub (ws' := [(mo, .inr (12, .ref nw :: m1 :: m2 :: m3 :: m4 :: m5 :: m6 :: m7 :: m8 :: m9 :: .int 1 :: mv)), (nw, .inl (G.2 0, 15642, .inl nf))]) [0, 1] (by decide) rfl
      exact W.vret hx hb hr (fun t ht hW => ⟨⟨(), rfl, trivial, ⟨by rw [ht]; exact hP9, hD9⟩⟩, hS.F ht⟩) hS.2.2 dX12_reckon_35
    · exact absurd c_3 (by decide)

set_option maxHeartbeats 4000000 in
set_option maxRecDepth 100000 in
theorem r_findLeast (l : Launch) (G : GG) (sz : Nat) (mo : Nat) (m0 : Value) (m1 : Value) (m2 : Value) (m3 : Value) (m4 : Value) (m5 : Value) (m6 : Value) (m7 : Value) (m8 : Value) (m9 : Value) (m10 : Value) (m11 : Value) (m12 : Value) (m13 : Value) (m14 : Value) (m15 : Value) (m16 : Value) (m17 : Value) (le : Nat) (mv : List Value) (lef : Nat → Int32)  : Met l yX12_findLeast (.code yX12_findLeast cX12_findLeast 3 none :: TT) ({ frames := 1, cells := 0, slots := 0, locals := 100 } : Room) (c0_P G [.ref mo, .int 0] sz ([(mo, .inr (12, m0 :: m1 :: m2 :: m3 :: m4 :: m5 :: m6 :: m7 :: m8 :: m9 :: m10 :: m11 :: m12 :: m13 :: m14 :: m15 :: m16 :: m17 :: .ref le :: mv)), (le, .inl (G.2 0, 16384, .inl lef))])) (va_Qv (S := (Nat → Int32)) (fun (u : (Nat → Int32)) => u 0 = 0) (fun (u : (Nat → Int32)) (t : State) => c0_B G (va_A ([(mo, .inr (12, m0 :: m1 :: m2 :: m3 :: m4 :: m5 :: m6 :: m7 :: m8 :: m9 :: m10 :: m11 :: m12 :: m13 :: m14 :: m15 :: m16 :: m17 :: .ref le :: mv)), (le, .inl (G.2 0, 16384, .inl lef))]) sz) ([(mo, .inr (12, m0 :: m1 :: m2 :: m3 :: m4 :: m5 :: m6 :: m7 :: m8 :: m9 :: m10 :: m11 :: m12 :: m13 :: m14 :: m15 :: m16 :: m17 :: .ref le :: mv)), (le, .inl (G.2 0, 16384, .inl u))]) t) (va_A ([(mo, .inr (12, m0 :: m1 :: m2 :: m3 :: m4 :: m5 :: m6 :: m7 :: m8 :: m9 :: m10 :: m11 :: m12 :: m13 :: m14 :: m15 :: m16 :: m17 :: .ref le :: mv)), (le, .inl (G.2 0, 16384, .inl lef))]) sz)) 0 0 (va_A ([(mo, .inr (12, m0 :: m1 :: m2 :: m3 :: m4 :: m5 :: m6 :: m7 :: m8 :: m9 :: m10 :: m11 :: m12 :: m13 :: m14 :: m15 :: m16 :: m17 :: .ref le :: mv)), (le, .inl (G.2 0, 16384, .inl lef))]) sz) := by
  refine Met.ofW (cc := cX12_findLeast) (maxL := 3) (ret := none) (by decide) rfl ?_
  intro p e s m args below meth c s₁ B hml hv
  obtain ⟨rfl, hsz, hP, hK, hD0⟩ := hv
  have hx := B.exec
  have hb := B.bytes
  have hr := B.returns
  have hts := atoms_spec (ws := .code yX12_findLeast cX12_findLeast 3 none :: TT) B.pre
  have ht := fun (w : Cond) (h : w ∈ TT) => hts w (List.mem_cons_of_mem _ h)
  have hown : s.vm.findClass RX12 = some m.cls := findClass_of_methodNamed B.named
  have hlocks := B.notSynchronized
  subst hsz
  have hD := hD0.self (sz := s.heap.size)
  generalize hAe : va_A ([(mo, .inr (12, m0 :: m1 :: m2 :: m3 :: m4 :: m5 :: m6 :: m7 :: m8 :: m9 :: m10 :: m11 :: m12 :: m13 :: m14 :: m15 :: m16 :: m17 :: .ref le :: mv)), (le, .inl (G.2 0, 16384, .inl lef))]) s.heap.size = A at hD ⊢
  have hA : ∀ q : Nat, s.heap.size ≤ q → A q := fun q h => by rw [← hAe]; exact Or.inr h
  have hS : va_S A s.heap s.heap [] := va_S.rf
  have hP : va_P G.1 vwCl ([(mo, .inr (12, m0 :: m1 :: m2 :: m3 :: m4 :: m5 :: m6 :: m7 :: m8 :: m9 :: m10 :: m11 :: m12 :: m13 :: m14 :: m15 :: m16 :: m17 :: .ref le :: mv)), (le, .inl (G.2 0, 16384, .inl lef))]) s.heap := hP
  have hl := lv_entry ([.ref mo, .int 0]) (n := 3) (Nat.le_of_ble_eq_true rfl)
  rw [lg_entry_eq]
  generalize (lg_sl ([.ref mo, .int 0]) ++ List.replicate (3 - (lg_sl ([.ref mo, .int 0])).length) Slot.unset).toArray = ls at hl ⊢
  have hl : lv_has ls 3 [(0, .ref mo), (1, .int 0)] := hl
  refine lv_aload_n hx hb dX12_findLeast_0 rfl (lv_at hl 0 rfl) ?_
  refine va_get (D := G.1) (ci := 12) (v := .ref le) (C := RX12) (T := TX12) (N := 32) hx hb ht inlX12 hown hK.1 hP 0 rfl rfl 18 (by decide) (ht (Cond.fieldLink RX12 46 "PloughDepotModel" "least" "[I") mw_7_7) (fun _ h9 => h9) rfl dX12_findLeast_1 ?_
  refine lv_iconst (v := 0) hx hb dX12_findLeast_4 (by decide) ?_
  refine lv_iconst (v := 0) hx hb dX12_findLeast_5 (by decide) ?_
  refine va_iast hx hb hK.1 hP hD hS 1 0 rfl rfl (show ¬ ((0 : Int32) < 0 ∨ 16384 ≤ (0 : Int32).toNatClampNeg) by decide) dX12_findLeast_6 (fun H locs hP hD hS => ?_)
  have hP : va_P G.1 vwCl ([(mo, .inr (12, m0 :: m1 :: m2 :: m3 :: m4 :: m5 :: m6 :: m7 :: m8 :: m9 :: m10 :: m11 :: m12 :: m13 :: m14 :: m15 :: m16 :: m17 :: .ref le :: mv)), (le, .inl (G.2 0, 16384, .inl (upd lef (0 : Int32).toNatClampNeg 0)))]) H := hP
  have hD : va_D A ([(mo, .inr (12, m0 :: m1 :: m2 :: m3 :: m4 :: m5 :: m6 :: m7 :: m8 :: m9 :: m10 :: m11 :: m12 :: m13 :: m14 :: m15 :: m16 :: m17 :: .ref le :: mv)), (le, .inl (G.2 0, 16384, .inl (upd lef (0 : Int32).toNatClampNeg 0)))]) := hD
  have hle : (upd lef (0 : Int32).toNatClampNeg 0) 0 = 0 := pk_us
  generalize upd lef (0 : Int32).toNatClampNeg 0 = f_1 at hP hD hle
  refine lv_iconst (v := 1) hx hb dX12_findLeast_7 (by decide) ?_
  refine lv_istore_n (lv' := [(2, .int 1), (0, .ref mo), (1, .int 0)]) hx hb dX12_findLeast_8 rfl hl (by decide) rfl (fun ls hl => ?_)
  refine lv_iload_n hx hb dX12_findLeast_9 rfl (lv_at hl 0 rfl) ?_
  refine lv_iload_n hx hb dX12_findLeast_10 rfl (lv_at hl 2 rfl) ?_
  refine lv_icmp_gt (tgt := 32) hx hb dX12_findLeast_11 (by decide) (fun c_2 => ?_) (fun c_2 => ?_)
  · have hP9 := hP.sub (ws' := [(mo, .inr (12, m0 :: m1 :: m2 :: m3 :: m4 :: m5 :: m6 :: m7 :: m8 :: m9 :: m10 :: m11 :: m12 :: m13 :: m14 :: m15 :: m16 :: m17 :: .ref le :: mv)), (le, .inl (G.2 0, 16384, .inl f_1))]) [0, 1] rfl
    have hD9 := hD.sub (ws' := [(mo, .inr (12, m0 :: m1 :: m2 :: m3 :: m4 :: m5 :: m6 :: m7 :: m8 :: m9 :: m10 :: m11 :: m12 :: m13 :: m14 :: m15 :: m16 :: m17 :: .ref le :: mv)), (le, .inl (G.2 0, 16384, .inl f_1))]) [0, 1] (by decide) rfl
    exact W.vret hx hb hr (fun t ht hW => ⟨⟨f_1, rfl, hle, ⟨by rw [ht]; exact hP9, hD9⟩⟩, hS.F ht⟩) hS.2.2 dX12_findLeast_32
  · exact absurd c_2 (by decide)

set_option maxHeartbeats 4000000 in
set_option maxRecDepth 100000 in
theorem r_least (l : Launch) (G : GG) (sz : Nat) (mo : Nat) (x1 : Int32) (nw : Nat) (m1 : Value) (m2 : Value) (m3 : Value) (m4 : Value) (m5 : Value) (m6 : Value) (m7 : Value) (m8 : Value) (m9 : Value) (m11 : Value) (m12 : Value) (m13 : Value) (m14 : Value) (m15 : Value) (m16 : Value) (m17 : Value) (le : Nat) (mv : List Value) (nf : Nat → Int32) (lef : Nat → Int32) (hz : ∀ j, j < 16 → nf j = 0) : Met l yX12_least (.code yX12_least cX12_least 2 (some .int) :: TT) ({ frames := 3, cells := 0, slots := 0, locals := 300 } : Room) (c0_P G [.ref mo, .int x1] sz ([(mo, .inr (12, .ref nw :: m1 :: m2 :: m3 :: m4 :: m5 :: m6 :: m7 :: m8 :: m9 :: .int 0 :: m11 :: m12 :: m13 :: m14 :: m15 :: m16 :: m17 :: .ref le :: mv)), (nw, .inl (G.2 0, 15642, .inl nf)), (le, .inl (G.2 0, 16384, .inl lef))])) (va_Qi (S := Unit) (fun (r : Int32) (u : Unit) => r = sp_least x1) (fun (u : Unit) (t : State) => True) (va_A ([(mo, .inr (12, .ref nw :: m1 :: m2 :: m3 :: m4 :: m5 :: m6 :: m7 :: m8 :: m9 :: .int 0 :: m11 :: m12 :: m13 :: m14 :: m15 :: m16 :: m17 :: .ref le :: mv)), (nw, .inl (G.2 0, 15642, .inl nf)), (le, .inl (G.2 0, 16384, .inl lef))]) sz)) 0 0 (va_A ([(mo, .inr (12, .ref nw :: m1 :: m2 :: m3 :: m4 :: m5 :: m6 :: m7 :: m8 :: m9 :: .int 0 :: m11 :: m12 :: m13 :: m14 :: m15 :: m16 :: m17 :: .ref le :: mv)), (nw, .inl (G.2 0, 15642, .inl nf)), (le, .inl (G.2 0, 16384, .inl lef))]) sz) := by
  refine Met.ofW (cc := cX12_least) (maxL := 2) (ret := (some .int)) (by decide) rfl ?_
  intro p e s m args below meth c s₁ B hml hv
  obtain ⟨rfl, hsz, hP, hK, hD0⟩ := hv
  have hx := B.exec
  have hb := B.bytes
  have hr := B.returns
  have hts := atoms_spec (ws := .code yX12_least cX12_least 2 (some .int) :: TT) B.pre
  have ht := fun (w : Cond) (h : w ∈ TT) => hts w (List.mem_cons_of_mem _ h)
  have hown : s.vm.findClass RX12 = some m.cls := findClass_of_methodNamed B.named
  have hlocks := B.notSynchronized
  subst hsz
  have hD := hD0.self (sz := s.heap.size)
  generalize hAe : va_A ([(mo, .inr (12, .ref nw :: m1 :: m2 :: m3 :: m4 :: m5 :: m6 :: m7 :: m8 :: m9 :: .int 0 :: m11 :: m12 :: m13 :: m14 :: m15 :: m16 :: m17 :: .ref le :: mv)), (nw, .inl (G.2 0, 15642, .inl nf)), (le, .inl (G.2 0, 16384, .inl lef))]) s.heap.size = A at hD ⊢
  have hA : ∀ q : Nat, s.heap.size ≤ q → A q := fun q h => by rw [← hAe]; exact Or.inr h
  have hS : va_S A s.heap s.heap [] := va_S.rf
  have hP : va_P G.1 vwCl ([(mo, .inr (12, .ref nw :: m1 :: m2 :: m3 :: m4 :: m5 :: m6 :: m7 :: m8 :: m9 :: .int 0 :: m11 :: m12 :: m13 :: m14 :: m15 :: m16 :: m17 :: .ref le :: mv)), (nw, .inl (G.2 0, 15642, .inl nf)), (le, .inl (G.2 0, 16384, .inl lef))]) s.heap := hP
  have hl := lv_entry ([.ref mo, .int x1]) (n := 2) (Nat.le_of_ble_eq_true rfl)
  rw [lg_entry_eq]
  generalize (lg_sl ([.ref mo, .int x1]) ++ List.replicate (2 - (lg_sl ([.ref mo, .int x1])).length) Slot.unset).toArray = ls at hl ⊢
  have hl : lv_has ls 2 [(0, .ref mo), (1, .int x1)] := hl
  refine lv_aload_n hx hb dX12_least_0 rfl (lv_at hl 0 rfl) ?_
  have hPc := hP.sub (ws' := [(mo, .inr (12, .ref nw :: m1 :: m2 :: m3 :: m4 :: m5 :: m6 :: m7 :: m8 :: m9 :: .int 0 :: m11 :: m12 :: m13 :: m14 :: m15 :: m16 :: m17 :: .ref le :: mv)), (nw, .inl (G.2 0, 15642, .inl nf))]) [0, 1] rfl
  have hDc := hD.sub (ws' := [(mo, .inr (12, .ref nw :: m1 :: m2 :: m3 :: m4 :: m5 :: m6 :: m7 :: m8 :: m9 :: .int 0 :: m11 :: m12 :: m13 :: m14 :: m15 :: m16 :: m17 :: .ref le :: mv)), (nw, .inl (G.2 0, 15642, .inl nf))]) [0, 1] (by decide) rfl
  have hFc := va_free (wc := [(mo, .inr (12, .ref nw :: m1 :: m2 :: m3 :: m4 :: m5 :: m6 :: m7 :: m8 :: m9 :: .int 0 :: m11 :: m12 :: m13 :: m14 :: m15 :: m16 :: m17 :: .ref le :: mv)), (nw, .inl (G.2 0, 15642, .inl nf))]) hD hS hA [0, 1] rfl
  refine va_callv (va_runV (As := []) (rest := []) ⟨hx, hb, hml, hown, hts⟩ (r_beginTimes l G _ mo nw (m1 :: m2 :: m3 :: m4 :: m5 :: m6 :: m7 :: m8 :: m9 :: .int 0 :: m11 :: m12 :: m13 :: m14 :: m15 :: m16 :: m17 :: .ref le :: mv) nf (by first | assumption | decide)) (cwV 0 hts (gd_V mw_40_9 mw_40_10 mw_40_11 mw_1_5 mw_40_12) rfl rfl rfl ⟨rfl, yk_X12_beginTimes⟩ ⟨Nat.le_of_ble_eq_true rfl, Nat.le_of_ble_eq_true rfl⟩) (c0_preV (q0 := 0) (ci := 12) (q := (RX12, TX12, 32)) hPc hK hDc rfl rfl) rfl rfl hl.1 rfl (lv_room (Nat.le_of_ble_eq_true rfl)) dX12_least_1 ⟨Nat.le_of_ble_eq_true rfl, Nat.le_of_ble_eq_true rfl⟩) hS (fun q _ h => hFc q h) hFc (fun u t H1 locs ht1 hvm hw hB hz1 hk1 hS => ?_)
  try dsimp only at hw hB
  obtain ⟨hP1, hD1⟩ := hB
  rw [ht1] at hP1
  obtain ⟨hP, hD⟩ := va_join (wr := [(le, .inl (G.2 0, 16384, .inl lef))]) (w1 := [(mo, .inr (12, .ref nw :: m1 :: m2 :: m3 :: m4 :: m5 :: m6 :: m7 :: m8 :: m9 :: .int 0 :: m11 :: m12 :: m13 :: m14 :: m15 :: m16 :: m17 :: .ref le :: mv)), (nw, .inl (G.2 0, 15642, .inl nf))]) hP hD [0, 1] [2] rfl rfl (by decide) (by decide) hk1 hFc hP1 hD1
  generalize H1 = H at hP hS ⊢
  have hP : va_P G.1 vwCl ([(le, .inl (G.2 0, 16384, .inl lef)), (mo, .inr (12, .ref nw :: m1 :: m2 :: m3 :: m4 :: m5 :: m6 :: m7 :: m8 :: m9 :: .int 0 :: m11 :: m12 :: m13 :: m14 :: m15 :: m16 :: m17 :: .ref le :: mv)), (nw, .inl (G.2 0, 15642, .inl nf))]) H := hP
  have hD : va_D A ([(le, .inl (G.2 0, 16384, .inl lef)), (mo, .inr (12, .ref nw :: m1 :: m2 :: m3 :: m4 :: m5 :: m6 :: m7 :: m8 :: m9 :: .int 0 :: m11 :: m12 :: m13 :: m14 :: m15 :: m16 :: m17 :: .ref le :: mv)), (nw, .inl (G.2 0, 15642, .inl nf))]) := hD
  refine lv_aload_n hx hb dX12_least_4 rfl (lv_at hl 0 rfl) ?_
  have hPc := hP.sub (ws' := [(mo, .inr (12, .ref nw :: m1 :: m2 :: m3 :: m4 :: m5 :: m6 :: m7 :: m8 :: m9 :: .int 0 :: m11 :: m12 :: m13 :: m14 :: m15 :: m16 :: m17 :: .ref le :: mv)), (nw, .inl (G.2 0, 15642, .inl nf))]) [1, 2] rfl
  have hDc := hD.sub (ws' := [(mo, .inr (12, .ref nw :: m1 :: m2 :: m3 :: m4 :: m5 :: m6 :: m7 :: m8 :: m9 :: .int 0 :: m11 :: m12 :: m13 :: m14 :: m15 :: m16 :: m17 :: .ref le :: mv)), (nw, .inl (G.2 0, 15642, .inl nf))]) [1, 2] (by decide) rfl
  have hFc := va_free (wc := [(mo, .inr (12, .ref nw :: m1 :: m2 :: m3 :: m4 :: m5 :: m6 :: m7 :: m8 :: m9 :: .int 0 :: m11 :: m12 :: m13 :: m14 :: m15 :: m16 :: m17 :: .ref le :: mv)), (nw, .inl (G.2 0, 15642, .inl nf))]) hD hS hA [1, 2] rfl
  refine va_callv (va_runV (As := []) (rest := []) ⟨hx, hb, hml, hown, hts⟩ (r_findOdd l G _ mo nw m1 m2 m3 m4 m5 m6 m7 m8 m9 (.int 0) m11 m12 m13 m14 m15 m16 (m17 :: .ref le :: mv) nf (by first | assumption | decide)) (cwV 0 hts (gd_V mw_40_17 mw_40_18 mw_40_19 mw_1_5 mw_40_20) rfl rfl rfl ⟨rfl, yk_X12_findOdd⟩ ⟨Nat.le_of_ble_eq_true rfl, Nat.le_of_ble_eq_true rfl⟩) (c0_preV (q0 := 0) (ci := 12) (q := (RX12, TX12, 32)) hPc hK hDc rfl rfl) rfl rfl hl.1 rfl (lv_room (Nat.le_of_ble_eq_true rfl)) dX12_least_5 ⟨Nat.le_of_ble_eq_true rfl, Nat.le_of_ble_eq_true rfl⟩) hS (fun q _ h => hFc q h) hFc (fun u t H1 locs ht1 hvm hw hB hz1 hk1 hS => ?_)
  try dsimp only at hw hB
  obtain ⟨hP1, hD1⟩ := hB
  rw [ht1] at hP1
  obtain ⟨hP, hD⟩ := va_join (wr := [(le, .inl (G.2 0, 16384, .inl lef))]) (w1 := [(mo, .inr (12, .ref nw :: m1 :: m2 :: m3 :: m4 :: m5 :: m6 :: m7 :: m8 :: m9 :: .int 0 :: m11 :: m12 :: m13 :: m14 :: m15 :: .int 0 :: m17 :: .ref le :: mv)), (nw, .inl (G.2 0, 15642, .inl nf))]) hP hD [1, 2] [0] rfl rfl (by decide) (by decide) hk1 hFc hP1 hD1
  generalize H1 = H at hP hS ⊢
  have hP : va_P G.1 vwCl ([(le, .inl (G.2 0, 16384, .inl lef)), (mo, .inr (12, .ref nw :: m1 :: m2 :: m3 :: m4 :: m5 :: m6 :: m7 :: m8 :: m9 :: .int 0 :: m11 :: m12 :: m13 :: m14 :: m15 :: .int 0 :: m17 :: .ref le :: mv)), (nw, .inl (G.2 0, 15642, .inl nf))]) H := hP
  have hD : va_D A ([(le, .inl (G.2 0, 16384, .inl lef)), (mo, .inr (12, .ref nw :: m1 :: m2 :: m3 :: m4 :: m5 :: m6 :: m7 :: m8 :: m9 :: .int 0 :: m11 :: m12 :: m13 :: m14 :: m15 :: .int 0 :: m17 :: .ref le :: mv)), (nw, .inl (G.2 0, 15642, .inl nf))]) := hD
  refine lv_aload_n hx hb dX12_least_8 rfl (lv_at hl 0 rfl) ?_
  refine va_get (D := G.1) (ci := 12) (v := .int 0) (C := RX12) (T := TX12) (N := 32) hx hb ht inlX12 hown hK.1 hP 1 rfl rfl 16 (by decide) (ht (Cond.fieldLink RX12 242 "PloughDepotModel" "odds" "I") mw_40_8) (fun _ h9 => h9) rfl dX12_least_9 ?_
  refine lv_bipush (v := 14) hx hb dX12_least_12 (by decide) ?_
  refine lv_icmp_gt (tgt := 40) hx hb dX12_least_14 (by decide) (fun c_1 => ?_) (fun c_1 => ?_)
  · exact absurd c_1 (by decide)
  · refine lv_iload_n hx hb dX12_least_17 rfl (lv_at hl 1 rfl) ?_
    refine lv_iconst (v := 0) hx hb dX12_least_18 (by decide) ?_
    refine lv_iconst (v := 1) hx hb dX12_least_19 (by decide) ?_
    refine lv_aload_n hx hb dX12_least_20 rfl (lv_at hl 0 rfl) ?_
    refine va_get (D := G.1) (ci := 12) (v := .int 0) (C := RX12) (T := TX12) (N := 32) hx hb ht inlX12 hown hK.1 hP 1 rfl rfl 16 (by decide) (ht (Cond.fieldLink RX12 242 "PloughDepotModel" "odds" "I") mw_40_8) (fun _ h9 => h9) rfl dX12_least_21 ?_
    refine lv_ishl hx hb dX12_least_24 ?_
    refine lv_topi (fun v_2 ev_2 => ?_)
    obtain rfl : v_2 = 1 := ev_2.trans (by decide)
    refine lv_iconst (v := 1) hx hb dX12_least_25 (by decide) ?_
    refine lv_isub hx hb dX12_least_26 ?_
    refine lv_topi (fun v_3 ev_3 => ?_)
    obtain rfl : v_3 = 0 := ev_3.trans (by decide)
    have hPc := hP.sub (ws' := []) [] rfl
    have hDc := hD.sub (ws' := []) [] (by decide) rfl
    have hFc := va_free (wc := []) hD hS hA [] rfl
    refine va_calli (va_runS (As := [.int x1, .int 0, .int 0]) (rest := []) ⟨hx, hb, hml, hown, hts⟩ (r_in l G _ x1 0 0 ) (va_cwS 3 hts (gd_S mw_11_11 mw_11_12 mw_1_5 mw_11_13) rfl rfl rfl yk_X12_in ⟨Nat.le_of_ble_eq_true rfl, Nat.le_of_ble_eq_true rfl⟩) (c0_pre hPc hK hDc) rfl rfl hl.1 rfl (lv_room (Nat.le_of_ble_eq_true rfl)) dX12_least_27 ⟨Nat.le_of_ble_eq_true rfl, Nat.le_of_ble_eq_true rfl⟩) hS (fun q _ h => hFc q h) hFc (fun r_4 u t H1 locs ht1 hvm hw hB hz1 hk1 hS => ?_)
    try dsimp only at hw hB
    have hr4 := hw
    obtain ⟨hP1, hD1⟩ := hB
    rw [ht1] at hP1
    obtain ⟨hP, hD⟩ := va_join (wr := [(le, .inl (G.2 0, 16384, .inl lef)), (mo, .inr (12, .ref nw :: m1 :: m2 :: m3 :: m4 :: m5 :: m6 :: m7 :: m8 :: m9 :: .int 0 :: m11 :: m12 :: m13 :: m14 :: m15 :: .int 0 :: m17 :: .ref le :: mv)), (nw, .inl (G.2 0, 15642, .inl nf))]) (w1 := []) hP hD [] [0, 1, 2] rfl rfl (by decide) (by decide) hk1 hFc hP1 hD1
    generalize H1 = H at hP hS ⊢
    have hP : va_P G.1 vwCl ([(le, .inl (G.2 0, 16384, .inl lef)), (mo, .inr (12, .ref nw :: m1 :: m2 :: m3 :: m4 :: m5 :: m6 :: m7 :: m8 :: m9 :: .int 0 :: m11 :: m12 :: m13 :: m14 :: m15 :: .int 0 :: m17 :: .ref le :: mv)), (nw, .inl (G.2 0, 15642, .inl nf))]) H := hP
    have hD : va_D A ([(le, .inl (G.2 0, 16384, .inl lef)), (mo, .inr (12, .ref nw :: m1 :: m2 :: m3 :: m4 :: m5 :: m6 :: m7 :: m8 :: m9 :: .int 0 :: m11 :: m12 :: m13 :: m14 :: m15 :: .int 0 :: m17 :: .ref le :: mv)), (nw, .inl (G.2 0, 15642, .inl nf))]) := hD
    rcases sp_in_c x1 0 0 with ⟨c_5a, c_5b, he9⟩ | ⟨c_5, he9⟩
    · obtain rfl : r_4 = 1 := hr4.trans he9
      refine lv_if_eq (tgt := 40) hx hb dX12_least_30 (by decide) (fun c_6 => ?_) (fun c_6 => ?_)
      · exact absurd c_6 (by decide)
      · obtain rfl : x1 = 0 := by rw [fa_eq]; simp only [fa_lt, fa_le, fa_eq] at c_1 c_5a c_5b c_6; have n0 : (0 : Int32).toInt = 0 := (by decide); have n1 : (1 : Int32).toInt = 1 := (by decide); have n14 : (14 : Int32).toInt = 14 := (by decide); omega
        refine lv_aload_n hx hb dX12_least_33 rfl (lv_at hl 0 rfl) ?_
        have hPc := hP.sub (ws' := [(mo, .inr (12, .ref nw :: m1 :: m2 :: m3 :: m4 :: m5 :: m6 :: m7 :: m8 :: m9 :: .int 0 :: m11 :: m12 :: m13 :: m14 :: m15 :: .int 0 :: m17 :: .ref le :: mv)), (nw, .inl (G.2 0, 15642, .inl nf))]) [1, 2] rfl
        have hDc := hD.sub (ws' := [(mo, .inr (12, .ref nw :: m1 :: m2 :: m3 :: m4 :: m5 :: m6 :: m7 :: m8 :: m9 :: .int 0 :: m11 :: m12 :: m13 :: m14 :: m15 :: .int 0 :: m17 :: .ref le :: mv)), (nw, .inl (G.2 0, 15642, .inl nf))]) [1, 2] (by decide) rfl
        have hFc := va_free (wc := [(mo, .inr (12, .ref nw :: m1 :: m2 :: m3 :: m4 :: m5 :: m6 :: m7 :: m8 :: m9 :: .int 0 :: m11 :: m12 :: m13 :: m14 :: m15 :: .int 0 :: m17 :: .ref le :: mv)), (nw, .inl (G.2 0, 15642, .inl nf))]) hD hS hA [1, 2] rfl
        refine va_calli (va_runV (As := []) (rest := []) ⟨hx, hb, hml, hown, hts⟩ (r_isOneWay l G _ mo nw (m1 :: m2 :: m3 :: m4 :: m5 :: m6 :: m7 :: m8 :: m9 :: .int 0 :: m11 :: m12 :: m13 :: m14 :: m15 :: .int 0 :: m17 :: .ref le :: mv) nf (by first | assumption | decide)) (cwV 0 hts (gd_V mw_42_8 mw_42_9 mw_42_10 mw_1_5 mw_42_11) rfl rfl rfl ⟨rfl, yk_X12_isOneWay⟩ ⟨Nat.le_of_ble_eq_true rfl, Nat.le_of_ble_eq_true rfl⟩) (c0_preV (q0 := 0) (ci := 12) (q := (RX12, TX12, 32)) hPc hK hDc rfl rfl) rfl rfl hl.1 rfl (lv_room (Nat.le_of_ble_eq_true rfl)) dX12_least_34 ⟨Nat.le_of_ble_eq_true rfl, Nat.le_of_ble_eq_true rfl⟩) hS (fun q _ h => hFc q h) hFc (fun r_7 u t H1 locs ht1 hvm hw hB hz1 hk1 hS => ?_)
        try dsimp only at hw hB
        have hr7 := hw
        obtain rfl := hr7.symm
        obtain ⟨hP1, hD1⟩ := hB
        rw [ht1] at hP1
        obtain ⟨hP, hD⟩ := va_join (wr := [(le, .inl (G.2 0, 16384, .inl lef))]) (w1 := [(mo, .inr (12, .ref nw :: m1 :: m2 :: m3 :: m4 :: m5 :: m6 :: m7 :: m8 :: m9 :: .int 0 :: m11 :: m12 :: m13 :: m14 :: m15 :: .int 0 :: m17 :: .ref le :: mv)), (nw, .inl (G.2 0, 15642, .inl nf))]) hP hD [1, 2] [0] rfl rfl (by decide) (by decide) hk1 hFc hP1 hD1
        generalize H1 = H at hP hS ⊢
        have hP : va_P G.1 vwCl ([(le, .inl (G.2 0, 16384, .inl lef)), (mo, .inr (12, .ref nw :: m1 :: m2 :: m3 :: m4 :: m5 :: m6 :: m7 :: m8 :: m9 :: .int 0 :: m11 :: m12 :: m13 :: m14 :: m15 :: .int 0 :: m17 :: .ref le :: mv)), (nw, .inl (G.2 0, 15642, .inl nf))]) H := hP
        have hD : va_D A ([(le, .inl (G.2 0, 16384, .inl lef)), (mo, .inr (12, .ref nw :: m1 :: m2 :: m3 :: m4 :: m5 :: m6 :: m7 :: m8 :: m9 :: .int 0 :: m11 :: m12 :: m13 :: m14 :: m15 :: .int 0 :: m17 :: .ref le :: mv)), (nw, .inl (G.2 0, 15642, .inl nf))]) := hD
        refine lv_if_eq (tgt := 47) hx hb dX12_least_37 (by decide) (fun c_8 => ?_) (fun c_8 => ?_)
        · refine lv_aload_n hx hb dX12_least_47 rfl (lv_at hl 0 rfl) ?_
          have hPc := hP.sub (ws' := [(mo, .inr (12, .ref nw :: m1 :: m2 :: m3 :: m4 :: m5 :: m6 :: m7 :: m8 :: m9 :: .int 0 :: m11 :: m12 :: m13 :: m14 :: m15 :: .int 0 :: m17 :: .ref le :: mv)), (nw, .inl (G.2 0, 15642, .inl nf))]) [1, 2] rfl
          have hDc := hD.sub (ws' := [(mo, .inr (12, .ref nw :: m1 :: m2 :: m3 :: m4 :: m5 :: m6 :: m7 :: m8 :: m9 :: .int 0 :: m11 :: m12 :: m13 :: m14 :: m15 :: .int 0 :: m17 :: .ref le :: mv)), (nw, .inl (G.2 0, 15642, .inl nf))]) [1, 2] (by decide) rfl
          have hFc := va_free (wc := [(mo, .inr (12, .ref nw :: m1 :: m2 :: m3 :: m4 :: m5 :: m6 :: m7 :: m8 :: m9 :: .int 0 :: m11 :: m12 :: m13 :: m14 :: m15 :: .int 0 :: m17 :: .ref le :: mv)), (nw, .inl (G.2 0, 15642, .inl nf))]) hD hS hA [1, 2] rfl
          refine va_callv (va_runV (As := []) (rest := []) ⟨hx, hb, hml, hown, hts⟩ (r_reckon l G _ mo nw m1 m2 m3 m4 m5 m6 m7 m8 m9 (m11 :: m12 :: m13 :: m14 :: m15 :: .int 0 :: m17 :: .ref le :: mv) nf (by first | assumption | decide)) (cwV 0 hts (gd_V mw_17_20 mw_17_21 mw_17_22 mw_1_5 mw_17_23) rfl rfl rfl ⟨rfl, yk_X12_reckon⟩ ⟨Nat.le_of_ble_eq_true rfl, Nat.le_of_ble_eq_true rfl⟩) (c0_preV (q0 := 0) (ci := 12) (q := (RX12, TX12, 32)) hPc hK hDc rfl rfl) rfl rfl hl.1 rfl (lv_room (Nat.le_of_ble_eq_true rfl)) dX12_least_48 ⟨Nat.le_of_ble_eq_true rfl, Nat.le_of_ble_eq_true rfl⟩) hS (fun q _ h => hFc q h) hFc (fun u t H1 locs ht1 hvm hw hB hz1 hk1 hS => ?_)
          try dsimp only at hw hB
          obtain ⟨hP1, hD1⟩ := hB
          rw [ht1] at hP1
          obtain ⟨hP, hD⟩ := va_join (wr := [(le, .inl (G.2 0, 16384, .inl lef))]) (w1 := [(mo, .inr (12, .ref nw :: m1 :: m2 :: m3 :: m4 :: m5 :: m6 :: m7 :: m8 :: m9 :: .int 1 :: m11 :: m12 :: m13 :: m14 :: m15 :: .int 0 :: m17 :: .ref le :: mv)), (nw, .inl (G.2 0, 15642, .inl nf))]) hP hD [1, 2] [0] rfl rfl (by decide) (by decide) hk1 hFc hP1 hD1
          generalize H1 = H at hP hS ⊢
          have hP : va_P G.1 vwCl ([(le, .inl (G.2 0, 16384, .inl lef)), (mo, .inr (12, .ref nw :: m1 :: m2 :: m3 :: m4 :: m5 :: m6 :: m7 :: m8 :: m9 :: .int 1 :: m11 :: m12 :: m13 :: m14 :: m15 :: .int 0 :: m17 :: .ref le :: mv)), (nw, .inl (G.2 0, 15642, .inl nf))]) H := hP
          have hD : va_D A ([(le, .inl (G.2 0, 16384, .inl lef)), (mo, .inr (12, .ref nw :: m1 :: m2 :: m3 :: m4 :: m5 :: m6 :: m7 :: m8 :: m9 :: .int 1 :: m11 :: m12 :: m13 :: m14 :: m15 :: .int 0 :: m17 :: .ref le :: mv)), (nw, .inl (G.2 0, 15642, .inl nf))]) := hD
          refine lv_aload_n hx hb dX12_least_51 rfl (lv_at hl 0 rfl) ?_
          refine lv_iload_n hx hb dX12_least_52 rfl (lv_at hl 1 rfl) ?_
          have hPc := hP.sub (ws' := [(mo, .inr (12, .ref nw :: m1 :: m2 :: m3 :: m4 :: m5 :: m6 :: m7 :: m8 :: m9 :: .int 1 :: m11 :: m12 :: m13 :: m14 :: m15 :: .int 0 :: m17 :: .ref le :: mv)), (le, .inl (G.2 0, 16384, .inl lef))]) [1, 0] rfl
          have hDc := hD.sub (ws' := [(mo, .inr (12, .ref nw :: m1 :: m2 :: m3 :: m4 :: m5 :: m6 :: m7 :: m8 :: m9 :: .int 1 :: m11 :: m12 :: m13 :: m14 :: m15 :: .int 0 :: m17 :: .ref le :: mv)), (le, .inl (G.2 0, 16384, .inl lef))]) [1, 0] (by decide) rfl
          have hFc := va_free (wc := [(mo, .inr (12, .ref nw :: m1 :: m2 :: m3 :: m4 :: m5 :: m6 :: m7 :: m8 :: m9 :: .int 1 :: m11 :: m12 :: m13 :: m14 :: m15 :: .int 0 :: m17 :: .ref le :: mv)), (le, .inl (G.2 0, 16384, .inl lef))]) hD hS hA [1, 0] rfl
          refine va_callv (va_runV (As := [.int 0]) (rest := []) ⟨hx, hb, hml, hown, hts⟩ (r_findLeast l G _ mo (.ref nw) m1 m2 m3 m4 m5 m6 m7 m8 m9 (.int 1) m11 m12 m13 m14 m15 (.int 0) m17 le mv lef ) (cwV 1 hts (gd_V mw_42_12 mw_42_13 mw_42_14 mw_1_5 mw_42_15) rfl rfl rfl ⟨rfl, yk_X12_findLeast⟩ ⟨Nat.le_of_ble_eq_true rfl, Nat.le_of_ble_eq_true rfl⟩) (c0_preV (q0 := 0) (ci := 12) (q := (RX12, TX12, 32)) hPc hK hDc rfl rfl) rfl rfl hl.1 rfl (lv_room (Nat.le_of_ble_eq_true rfl)) dX12_least_53 ⟨Nat.le_of_ble_eq_true rfl, Nat.le_of_ble_eq_true rfl⟩) hS (fun q _ h => hFc q h) hFc (fun u t H1 locs ht1 hvm hw hB hz1 hk1 hS => ?_)
          obtain ⟨lef2_9, rfl⟩ : ∃ z, z = u := ⟨_, rfl⟩
          try dsimp only at hw hB
          have hq9_0 := hw
          obtain ⟨hP1, hD1⟩ := hB
          rw [ht1] at hP1
          obtain ⟨hP, hD⟩ := va_join (wr := [(nw, .inl (G.2 0, 15642, .inl nf))]) (w1 := [(mo, .inr (12, .ref nw :: m1 :: m2 :: m3 :: m4 :: m5 :: m6 :: m7 :: m8 :: m9 :: .int 1 :: m11 :: m12 :: m13 :: m14 :: m15 :: .int 0 :: m17 :: .ref le :: mv)), (le, .inl (G.2 0, 16384, .inl lef2_9))]) hP hD [1, 0] [2] rfl rfl (by decide) (by decide) hk1 hFc hP1 hD1
          generalize H1 = H at hP hS ⊢
          have hP : va_P G.1 vwCl ([(nw, .inl (G.2 0, 15642, .inl nf)), (mo, .inr (12, .ref nw :: m1 :: m2 :: m3 :: m4 :: m5 :: m6 :: m7 :: m8 :: m9 :: .int 1 :: m11 :: m12 :: m13 :: m14 :: m15 :: .int 0 :: m17 :: .ref le :: mv)), (le, .inl (G.2 0, 16384, .inl lef2_9))]) H := hP
          have hD : va_D A ([(nw, .inl (G.2 0, 15642, .inl nf)), (mo, .inr (12, .ref nw :: m1 :: m2 :: m3 :: m4 :: m5 :: m6 :: m7 :: m8 :: m9 :: .int 1 :: m11 :: m12 :: m13 :: m14 :: m15 :: .int 0 :: m17 :: .ref le :: mv)), (le, .inl (G.2 0, 16384, .inl lef2_9))]) := hD
          refine lv_aload_n hx hb dX12_least_56 rfl (lv_at hl 0 rfl) ?_
          refine va_get (D := G.1) (ci := 12) (v := .ref le) (C := RX12) (T := TX12) (N := 32) hx hb ht inlX12 hown hK.1 hP 1 rfl rfl 18 (by decide) (ht (Cond.fieldLink RX12 46 "PloughDepotModel" "least" "[I") mw_7_7) (fun _ h9 => h9) rfl dX12_least_57 ?_
          refine lv_iload_n hx hb dX12_least_60 rfl (lv_at hl 1 rfl) ?_
          refine va_iald hx hb hK.1 hP 2 0 rfl rfl (show ¬ ((0 : Int32) < 0 ∨ 16384 ≤ (0 : Int32).toNatClampNeg) by decide) dX12_least_61 ?_
          refine lv_topi (fun v_10 ev_10 => ?_)
          obtain rfl : 0 = v_10 := (ev_10.trans (hq9_0)).symm
          refine lv_ldc hx hb hown (ht (Cond.constant RX12 125 (268435456)) mw_17_19) dX12_least_62 ?_
          refine lv_icmp_lt (tgt := 76) hx hb dX12_least_64 (by decide) (fun c_11 => ?_) (fun c_11 => ?_)
          · refine lv_aload_n hx hb dX12_least_76 rfl (lv_at hl 0 rfl) ?_
            refine lv_aload_n hx hb dX12_least_77 rfl (lv_at hl 0 rfl) ?_
            refine va_get (D := G.1) (ci := 12) (v := .ref le) (C := RX12) (T := TX12) (N := 32) hx hb ht inlX12 hown hK.1 hP 1 rfl rfl 18 (by decide) (ht (Cond.fieldLink RX12 46 "PloughDepotModel" "least" "[I") mw_7_7) (fun _ h9 => h9) rfl dX12_least_78 ?_
            refine lv_iload_n hx hb dX12_least_81 rfl (lv_at hl 1 rfl) ?_
            refine va_iald hx hb hK.1 hP 2 0 rfl rfl (show ¬ ((0 : Int32) < 0 ∨ 16384 ≤ (0 : Int32).toNatClampNeg) by decide) dX12_least_82 ?_
            refine lv_topi (fun v_12 ev_12 => ?_)
            obtain rfl : 0 = v_12 := (ev_12.trans (hq9_0)).symm
            have hPc := hP.sub (ws' := [(mo, .inr (12, .ref nw :: m1 :: m2 :: m3 :: m4 :: m5 :: m6 :: m7 :: m8 :: m9 :: .int 1 :: m11 :: m12 :: m13 :: m14 :: m15 :: .int 0 :: m17 :: .ref le :: mv))]) [1] rfl
            have hDc := hD.sub (ws' := [(mo, .inr (12, .ref nw :: m1 :: m2 :: m3 :: m4 :: m5 :: m6 :: m7 :: m8 :: m9 :: .int 1 :: m11 :: m12 :: m13 :: m14 :: m15 :: .int 0 :: m17 :: .ref le :: mv))]) [1] (by decide) rfl
            have hFc := va_free (wc := [(mo, .inr (12, .ref nw :: m1 :: m2 :: m3 :: m4 :: m5 :: m6 :: m7 :: m8 :: m9 :: .int 1 :: m11 :: m12 :: m13 :: m14 :: m15 :: .int 0 :: m17 :: .ref le :: mv))]) hD hS hA [1] rfl
            refine va_calli (va_runV (As := [.int 0]) (rest := []) ⟨hx, hb, hml, hown, hts⟩ (r_says l G _ mo 0 (.ref nw) m1 m2 m3 (m4 :: m5 :: m6 :: m7 :: m8 :: m9 :: .int 1 :: m11 :: m12 :: m13 :: m14 :: m15 :: .int 0 :: m17 :: .ref le :: mv) ) (cwV 1 hts (gd_V mw_12_4 mw_12_5 mw_12_6 mw_1_5 mw_12_7) rfl rfl rfl ⟨rfl, yk_X12_says⟩ ⟨Nat.le_of_ble_eq_true rfl, Nat.le_of_ble_eq_true rfl⟩) (c0_preV (q0 := 0) (ci := 12) (q := (RX12, TX12, 32)) hPc hK hDc rfl rfl) rfl rfl hl.1 rfl (lv_room (Nat.le_of_ble_eq_true rfl)) dX12_least_83 ⟨Nat.le_of_ble_eq_true rfl, Nat.le_of_ble_eq_true rfl⟩) hS (fun q _ h => hFc q h) hFc (fun r_13 u t H1 locs ht1 hvm hw hB hz1 hk1 hS => ?_)
            try dsimp only at hw hB
            have hr13 := hw
            obtain rfl := hr13.symm
            obtain ⟨hP1, hD1⟩ := hB
            rw [ht1] at hP1
            obtain ⟨hP, hD⟩ := va_join (wr := [(nw, .inl (G.2 0, 15642, .inl nf)), (le, .inl (G.2 0, 16384, .inl lef2_9))]) (w1 := [(mo, .inr (12, .ref nw :: m1 :: m2 :: .int 0 :: m4 :: m5 :: m6 :: m7 :: m8 :: m9 :: .int 1 :: m11 :: m12 :: m13 :: m14 :: m15 :: .int 0 :: m17 :: .ref le :: mv))]) hP hD [1] [0, 2] rfl rfl (by decide) (by decide) hk1 hFc hP1 hD1
            generalize H1 = H at hP hS ⊢
            have hP : va_P G.1 vwCl ([(nw, .inl (G.2 0, 15642, .inl nf)), (le, .inl (G.2 0, 16384, .inl lef2_9)), (mo, .inr (12, .ref nw :: m1 :: m2 :: .int 0 :: m4 :: m5 :: m6 :: m7 :: m8 :: m9 :: .int 1 :: m11 :: m12 :: m13 :: m14 :: m15 :: .int 0 :: m17 :: .ref le :: mv))]) H := hP
            have hD : va_D A ([(nw, .inl (G.2 0, 15642, .inl nf)), (le, .inl (G.2 0, 16384, .inl lef2_9)), (mo, .inr (12, .ref nw :: m1 :: m2 :: .int 0 :: m4 :: m5 :: m6 :: m7 :: m8 :: m9 :: .int 1 :: m11 :: m12 :: m13 :: m14 :: m15 :: .int 0 :: m17 :: .ref le :: mv))]) := hD
            exact W.iret (v := 0) hx hb hr (fun t ht hW => ⟨⟨0, (), rfl, (by unfold sp_least; split <;> rename_i hc9 <;> first | rfl | (exfalso; simp only [fa_lt, fa_le, fa_eq] at hc9 c_1 c_5a c_5b c_6 c_8 c_11; have n0 : (0 : Int32).toInt = 0 := (by decide); have n1 : (1 : Int32).toInt = 1 := (by decide); have n14 : (14 : Int32).toInt = 14 := (by decide); have n268435456 : (268435456 : Int32).toInt = 268435456 := (by decide); omega)), trivial⟩, hS.F ht⟩) hS.2.2 dX12_least_86
          · exact absurd c_11 (by decide)
        · exact absurd c_8 (by decide)
    · obtain rfl : r_4 = 0 := hr4.trans he9
      refine lv_if_eq (tgt := 40) hx hb dX12_least_30 (by decide) (fun c_14 => ?_) (fun c_14 => ?_)
      · refine lv_aload_n hx hb dX12_least_40 rfl (lv_at hl 0 rfl) ?_
        refine lv_bipush (v := (-2)) hx hb dX12_least_41 (by decide) ?_
        have hPc := hP.sub (ws' := [(mo, .inr (12, .ref nw :: m1 :: m2 :: m3 :: m4 :: m5 :: m6 :: m7 :: m8 :: m9 :: .int 0 :: m11 :: m12 :: m13 :: m14 :: m15 :: .int 0 :: m17 :: .ref le :: mv))]) [1] rfl
        have hDc := hD.sub (ws' := [(mo, .inr (12, .ref nw :: m1 :: m2 :: m3 :: m4 :: m5 :: m6 :: m7 :: m8 :: m9 :: .int 0 :: m11 :: m12 :: m13 :: m14 :: m15 :: .int 0 :: m17 :: .ref le :: mv))]) [1] (by decide) rfl
        have hFc := va_free (wc := [(mo, .inr (12, .ref nw :: m1 :: m2 :: m3 :: m4 :: m5 :: m6 :: m7 :: m8 :: m9 :: .int 0 :: m11 :: m12 :: m13 :: m14 :: m15 :: .int 0 :: m17 :: .ref le :: mv))]) hD hS hA [1] rfl
        refine va_calli (va_runV (As := [.int (-2)]) (rest := []) ⟨hx, hb, hml, hown, hts⟩ (r_refuses_m2 l G _ mo (.ref nw) m1 m2 m3 (m4 :: m5 :: m6 :: m7 :: m8 :: m9 :: .int 0 :: m11 :: m12 :: m13 :: m14 :: m15 :: .int 0 :: m17 :: .ref le :: mv) ) (cwV 1 hts (gd_V mw_11_14 mw_11_15 mw_11_16 mw_1_5 mw_11_17) rfl rfl rfl ⟨rfl, yk_X12_refuses⟩ ⟨Nat.le_of_ble_eq_true rfl, Nat.le_of_ble_eq_true rfl⟩) (c0_preV (q0 := 0) (ci := 12) (q := (RX12, TX12, 32)) hPc hK hDc rfl rfl) rfl rfl hl.1 rfl (lv_room (Nat.le_of_ble_eq_true rfl)) dX12_least_43 ⟨Nat.le_of_ble_eq_true rfl, Nat.le_of_ble_eq_true rfl⟩) hS (fun q _ h => hFc q h) hFc (fun r_15 u t H1 locs ht1 hvm hw hB hz1 hk1 hS => ?_)
        try dsimp only at hw hB
        have hr15 := hw
        obtain rfl := hr15.symm
        obtain ⟨hP1, hD1⟩ := hB
        rw [ht1] at hP1
        obtain ⟨hP, hD⟩ := va_join (wr := [(le, .inl (G.2 0, 16384, .inl lef)), (nw, .inl (G.2 0, 15642, .inl nf))]) (w1 := [(mo, .inr (12, .ref nw :: m1 :: m2 :: .int (-2) :: m4 :: m5 :: m6 :: m7 :: m8 :: m9 :: .int 0 :: m11 :: m12 :: m13 :: m14 :: m15 :: .int 0 :: m17 :: .ref le :: mv))]) hP hD [1] [0, 2] rfl rfl (by decide) (by decide) hk1 hFc hP1 hD1
        generalize H1 = H at hP hS ⊢
        have hP : va_P G.1 vwCl ([(le, .inl (G.2 0, 16384, .inl lef)), (nw, .inl (G.2 0, 15642, .inl nf)), (mo, .inr (12, .ref nw :: m1 :: m2 :: .int (-2) :: m4 :: m5 :: m6 :: m7 :: m8 :: m9 :: .int 0 :: m11 :: m12 :: m13 :: m14 :: m15 :: .int 0 :: m17 :: .ref le :: mv))]) H := hP
        have hD : va_D A ([(le, .inl (G.2 0, 16384, .inl lef)), (nw, .inl (G.2 0, 15642, .inl nf)), (mo, .inr (12, .ref nw :: m1 :: m2 :: .int (-2) :: m4 :: m5 :: m6 :: m7 :: m8 :: m9 :: .int 0 :: m11 :: m12 :: m13 :: m14 :: m15 :: .int 0 :: m17 :: .ref le :: mv))]) := hD
        exact W.iret (v := (-2)) hx hb hr (fun t ht hW => ⟨⟨(-2), (), rfl, (by unfold sp_least; split <;> rename_i hc9 <;> first | rfl | (exfalso; simp only [fa_lt, fa_le, fa_eq] at hc9 c_1 c_5 c_14; have n0 : (0 : Int32).toInt = 0 := (by decide); have n14 : (14 : Int32).toInt = 14 := (by decide); omega)), trivial⟩, hS.F ht⟩) hS.2.2 dX12_least_46
      · exact absurd c_14 (by decide)

