def sp_in (v lo hi : Int32) : Int32 := if v < lo ∨ hi < v then 0 else 1
theorem sp_in_m (v : Int32) {lo hi : Int32} (h : hi < lo) : sp_in v lo hi = 0 := by
  unfold sp_in
  rw [if_pos]
  rw [fa_lt] at h
  rw [fa_lt, fa_lt]
  omega
theorem sp_in_c (v lo hi : Int32) : (lo ≤ v ∧ v ≤ hi ∧ sp_in v lo hi = 1) ∨ ((v < lo ∨ hi < v) ∧ sp_in v lo hi = 0) := by
  unfold sp_in
  by_cases h : v < lo ∨ hi < v
  · exact Or.inr ⟨h, if_pos h⟩
  · refine Or.inl ⟨?_, ?_, if_neg h⟩
    · rw [fa_le]; simp only [fa_lt] at h; omega
    · rw [fa_le]; simp only [fa_lt] at h; omega
theorem clamp_lt {x : Int32} {n : Nat} (h : x.toInt < n) (hn : 0 < n) : x.toNatClampNeg < n := by
  show x.toInt.toNat < n
  omega
set_option maxHeartbeats 4000000 in
set_option maxRecDepth 100000 in
theorem r_in (l : Launch) (G : GG) (sz : Nat) (va : Int32) (lo : Int32) (hi : Int32)  : Met l yX12_in (.code yX12_in cX12_in 3 (some .boolean) :: TT) ({ frames := 1, cells := 0, slots := 0, locals := 100 } : Room) (c0_P G [.int va, .int lo, .int hi] sz ([])) (va_Qi (S := Unit) (fun (r : Int32) (u : Unit) => r = sp_in va lo hi) (fun (u : Unit) (t : State) => c0_B G (va_A ([]) sz) ([]) t) (va_A ([]) sz)) 0 0 (va_A ([]) sz) := by
  refine Met.ofW (cc := cX12_in) (maxL := 3) (ret := (some .boolean)) (by decide) rfl ?_
  intro p e s m args below meth c s₁ B hml hv
  obtain ⟨rfl, hsz, hP, hK, hD0⟩ := hv
  have hx := B.exec
  have hb := B.bytes
  have hr := B.returns
  have hts := atoms_spec (ws := .code yX12_in cX12_in 3 (some .boolean) :: TT) B.pre
  have ht := fun (w : Cond) (h : w ∈ TT) => hts w (List.mem_cons_of_mem _ h)
  have hown : s.vm.findClass RX12 = some m.cls := findClass_of_methodNamed B.named
  have hlocks := B.notSynchronized
  subst hsz
  have hD := hD0.self (sz := s.heap.size)
  generalize hAe : va_A ([]) s.heap.size = A at hD ⊢
  have hA : ∀ q : Nat, s.heap.size ≤ q → A q := fun q h => by rw [← hAe]; exact Or.inr h
  have hS : va_S A s.heap s.heap [] := va_S.rf
  have hP : va_P G.1 vwCl ([]) s.heap := hP
  have hl := lv_entry ([.int va, .int lo, .int hi]) (n := 3) (Nat.le_of_ble_eq_true rfl)
  rw [lg_entry_eq]
  generalize (lg_sl ([.int va, .int lo, .int hi]) ++ List.replicate (3 - (lg_sl ([.int va, .int lo, .int hi])).length) Slot.unset).toArray = ls at hl ⊢
  have hl : lv_has ls 3 [(0, .int va), (1, .int lo), (2, .int hi)] := hl
  refine lv_iload_n hx hb dX12_in_0 rfl (lv_at hl 0 rfl) ?_
  refine lv_iload_n hx hb dX12_in_1 rfl (lv_at hl 1 rfl) ?_
  refine lv_icmp_lt (tgt := 14) hx hb dX12_in_2 (by decide) (fun c_1 => ?_) (fun c_1 => ?_)
  · refine lv_iconst (v := 0) hx hb dX12_in_14 (by decide) ?_
    have hP9 := hP.sub (ws' := []) [] rfl
    have hD9 := hD.sub (ws' := []) [] (by decide) rfl
    exact W.zret (v := 0) hx hb hr rfl (fun t ht hW => ⟨⟨0, (), rfl, (by unfold sp_in; split <;> rename_i hc9 <;> first | rfl | (exfalso; simp only [fa_lt, fa_le, fa_eq] at hc9 c_1; omega)), ⟨by rw [ht]; exact hP9, hD9⟩⟩, hS.F ht⟩) hS.2.2 dX12_in_15
  · refine lv_iload_n hx hb dX12_in_5 rfl (lv_at hl 0 rfl) ?_
    refine lv_iload_n hx hb dX12_in_6 rfl (lv_at hl 2 rfl) ?_
    refine lv_icmp_gt (tgt := 14) hx hb dX12_in_7 (by decide) (fun c_2 => ?_) (fun c_2 => ?_)
    · refine lv_iconst (v := 0) hx hb dX12_in_14 (by decide) ?_
      have hP9 := hP.sub (ws' := []) [] rfl
      have hD9 := hD.sub (ws' := []) [] (by decide) rfl
      exact W.zret (v := 0) hx hb hr rfl (fun t ht hW => ⟨⟨0, (), rfl, (by unfold sp_in; split <;> rename_i hc9 <;> first | rfl | (exfalso; simp only [fa_lt, fa_le, fa_eq] at hc9 c_1 c_2; omega)), ⟨by rw [ht]; exact hP9, hD9⟩⟩, hS.F ht⟩) hS.2.2 dX12_in_15
    · refine lv_iconst (v := 1) hx hb dX12_in_10 (by decide) ?_
      refine lv_goto (tgt := 15) hx hb dX12_in_11 (by decide) ?_
      have hP9 := hP.sub (ws' := []) [] rfl
      have hD9 := hD.sub (ws' := []) [] (by decide) rfl
      exact W.zret (v := 1) hx hb hr rfl (fun t ht hW => ⟨⟨1, (), rfl, (by unfold sp_in; split <;> rename_i hc9 <;> first | rfl | (exfalso; simp only [fa_lt, fa_le, fa_eq] at hc9 c_1 c_2; omega)), ⟨by rw [ht]; exact hP9, hD9⟩⟩, hS.F ht⟩) hS.2.2 dX12_in_15

set_option maxHeartbeats 4000000 in
set_option maxRecDepth 100000 in
theorem r_isCrossing (l : Launch) (G : GG) (sz : Nat) (mo : Nat) (cr : Int32) (nw : Nat) (mv : List Value) (nf : Nat → Int32) (hz : ∀ j, j < 16 → nf j = 0) : Met l yX12_isCrossing (.code yX12_isCrossing cX12_isCrossing 2 (some .boolean) :: TT) ({ frames := 2, cells := 0, slots := 0, locals := 200 } : Room) (c0_P G [.ref mo, .int cr] sz ([(mo, .inr (12, .ref nw :: mv)), (nw, .inl (G.2 0, 15642, .inl nf))])) (va_Qi (S := Unit) (fun (r : Int32) (u : Unit) => r = 0) (fun (u : Unit) (t : State) => c0_B G (va_A ([(mo, .inr (12, .ref nw :: mv)), (nw, .inl (G.2 0, 15642, .inl nf))]) sz) ([(mo, .inr (12, .ref nw :: mv)), (nw, .inl (G.2 0, 15642, .inl nf))]) t) (va_A ([(mo, .inr (12, .ref nw :: mv)), (nw, .inl (G.2 0, 15642, .inl nf))]) sz)) 0 0 (va_A ([(mo, .inr (12, .ref nw :: mv)), (nw, .inl (G.2 0, 15642, .inl nf))]) sz) := by
  refine Met.ofW (cc := cX12_isCrossing) (maxL := 2) (ret := (some .boolean)) (by decide) rfl ?_
  intro p e s m args below meth c s₁ B hml hv
  obtain ⟨rfl, hsz, hP, hK, hD0⟩ := hv
  have hx := B.exec
  have hb := B.bytes
  have hr := B.returns
  have hts := atoms_spec (ws := .code yX12_isCrossing cX12_isCrossing 2 (some .boolean) :: TT) B.pre
  have ht := fun (w : Cond) (h : w ∈ TT) => hts w (List.mem_cons_of_mem _ h)
  have hown : s.vm.findClass RX12 = some m.cls := findClass_of_methodNamed B.named
  have hlocks := B.notSynchronized
  subst hsz
  have hD := hD0.self (sz := s.heap.size)
  generalize hAe : va_A ([(mo, .inr (12, .ref nw :: mv)), (nw, .inl (G.2 0, 15642, .inl nf))]) s.heap.size = A at hD ⊢
  have hA : ∀ q : Nat, s.heap.size ≤ q → A q := fun q h => by rw [← hAe]; exact Or.inr h
  have hS : va_S A s.heap s.heap [] := va_S.rf
  have hP : va_P G.1 vwCl ([(mo, .inr (12, .ref nw :: mv)), (nw, .inl (G.2 0, 15642, .inl nf))]) s.heap := hP
  have hl := lv_entry ([.ref mo, .int cr]) (n := 2) (Nat.le_of_ble_eq_true rfl)
  rw [lg_entry_eq]
  generalize (lg_sl ([.ref mo, .int cr]) ++ List.replicate (2 - (lg_sl ([.ref mo, .int cr])).length) Slot.unset).toArray = ls at hl ⊢
  have hl : lv_has ls 2 [(0, .ref mo), (1, .int cr)] := hl
  refine lv_iload_n hx hb dX12_isCrossing_0 rfl (lv_at hl 1 rfl) ?_
  refine lv_iconst (v := 0) hx hb dX12_isCrossing_1 (by decide) ?_
  refine lv_aload_n hx hb dX12_isCrossing_2 rfl (lv_at hl 0 rfl) ?_
  refine va_get (D := G.1) (ci := 12) (v := .ref nw) (C := RX12) (T := TX12) (N := 32) hx hb ht inlX12 hown hK.1 hP 0 rfl rfl 0 (by decide) (ht (Cond.fieldLink RX12 7 "PloughDepotModel" "now" "[I") mw_6_19) (fun _ h9 => h9) rfl dX12_isCrossing_3 ?_
  refine lv_iconst (v := 0) hx hb dX12_isCrossing_6 (by decide) ?_
  refine va_iald hx hb hK.1 hP 1 0 rfl rfl (show ¬ ((0 : Int32) < 0 ∨ 15642 ≤ (0 : Int32).toNatClampNeg) by decide) dX12_isCrossing_7 ?_
  refine lv_topi (fun v_1 ev_1 => ?_)
  obtain rfl : 0 = v_1 := (ev_1.trans (hz _ (by decide))).symm
  refine lv_iconst (v := 1) hx hb dX12_isCrossing_8 (by decide) ?_
  refine lv_isub hx hb dX12_isCrossing_9 ?_
  refine lv_topi (fun v_2 ev_2 => ?_)
  obtain rfl : v_2 = (-1) := ev_2.trans (by decide)
  have hPc := hP.sub (ws' := []) [] rfl
  have hDc := hD.sub (ws' := []) [] (by decide) rfl
  have hFc := va_free (wc := []) hD hS hA [] rfl
  refine va_calli (va_runS (As := [.int cr, .int 0, .int (-1)]) (rest := []) ⟨hx, hb, hml, hown, hts⟩ (r_in l G _ cr 0 (-1) ) (va_cwS 3 hts (gd_S mw_11_11 mw_11_12 mw_1_5 mw_11_13) rfl rfl rfl yk_X12_in ⟨Nat.le_of_ble_eq_true rfl, Nat.le_of_ble_eq_true rfl⟩) (c0_pre hPc hK hDc) rfl rfl hl.1 rfl (lv_room (Nat.le_of_ble_eq_true rfl)) dX12_isCrossing_10 ⟨Nat.le_of_ble_eq_true rfl, Nat.le_of_ble_eq_true rfl⟩) hS (fun q _ h => hFc q h) hFc (fun r_3 u t H1 locs ht1 hvm hw hB hz1 hk1 hS => ?_)
  try dsimp only at hw hB
  have hr3 := hw
  obtain ⟨hP1, hD1⟩ := hB
  rw [ht1] at hP1
  obtain ⟨hP, hD⟩ := va_join (wr := [(mo, .inr (12, .ref nw :: mv)), (nw, .inl (G.2 0, 15642, .inl nf))]) (w1 := []) hP hD [] [0, 1] rfl rfl (by decide) (by decide) hk1 hFc hP1 hD1
  generalize H1 = H at hP hS ⊢
  have hP : va_P G.1 vwCl ([(mo, .inr (12, .ref nw :: mv)), (nw, .inl (G.2 0, 15642, .inl nf))]) H := hP
  have hD : va_D A ([(mo, .inr (12, .ref nw :: mv)), (nw, .inl (G.2 0, 15642, .inl nf))]) := hD
  obtain rfl : r_3 = 0 := hr3.trans (sp_in_m cr (by decide))
  have hP9 := hP.sub (ws' := [(mo, .inr (12, .ref nw :: mv)), (nw, .inl (G.2 0, 15642, .inl nf))]) [0, 1] rfl
  have hD9 := hD.sub (ws' := [(mo, .inr (12, .ref nw :: mv)), (nw, .inl (G.2 0, 15642, .inl nf))]) [0, 1] (by decide) rfl
  exact W.zret (v := 0) hx hb hr rfl (fun t ht hW => ⟨⟨0, (), rfl, rfl, ⟨by rw [ht]; exact hP9, hD9⟩⟩, hS.F ht⟩) hS.2.2 dX12_isCrossing_13

set_option maxHeartbeats 4000000 in
set_option maxRecDepth 100000 in
theorem r_isStreet (l : Launch) (G : GG) (sz : Nat) (mo : Nat) (cr : Int32) (nw : Nat) (mv : List Value) (nf : Nat → Int32) (hz : ∀ j, j < 16 → nf j = 0) : Met l yX12_isStreet (.code yX12_isStreet cX12_isStreet 2 (some .boolean) :: TT) ({ frames := 2, cells := 0, slots := 0, locals := 200 } : Room) (c0_P G [.ref mo, .int cr] sz ([(mo, .inr (12, .ref nw :: mv)), (nw, .inl (G.2 0, 15642, .inl nf))])) (va_Qi (S := Unit) (fun (r : Int32) (u : Unit) => r = 0) (fun (u : Unit) (t : State) => c0_B G (va_A ([(mo, .inr (12, .ref nw :: mv)), (nw, .inl (G.2 0, 15642, .inl nf))]) sz) ([(mo, .inr (12, .ref nw :: mv)), (nw, .inl (G.2 0, 15642, .inl nf))]) t) (va_A ([(mo, .inr (12, .ref nw :: mv)), (nw, .inl (G.2 0, 15642, .inl nf))]) sz)) 0 0 (va_A ([(mo, .inr (12, .ref nw :: mv)), (nw, .inl (G.2 0, 15642, .inl nf))]) sz) := by
  refine Met.ofW (cc := cX12_isStreet) (maxL := 2) (ret := (some .boolean)) (by decide) rfl ?_
  intro p e s m args below meth c s₁ B hml hv
  obtain ⟨rfl, hsz, hP, hK, hD0⟩ := hv
  have hx := B.exec
  have hb := B.bytes
  have hr := B.returns
  have hts := atoms_spec (ws := .code yX12_isStreet cX12_isStreet 2 (some .boolean) :: TT) B.pre
  have ht := fun (w : Cond) (h : w ∈ TT) => hts w (List.mem_cons_of_mem _ h)
  have hown : s.vm.findClass RX12 = some m.cls := findClass_of_methodNamed B.named
  have hlocks := B.notSynchronized
  subst hsz
  have hD := hD0.self (sz := s.heap.size)
  generalize hAe : va_A ([(mo, .inr (12, .ref nw :: mv)), (nw, .inl (G.2 0, 15642, .inl nf))]) s.heap.size = A at hD ⊢
  have hA : ∀ q : Nat, s.heap.size ≤ q → A q := fun q h => by rw [← hAe]; exact Or.inr h
  have hS : va_S A s.heap s.heap [] := va_S.rf
  have hP : va_P G.1 vwCl ([(mo, .inr (12, .ref nw :: mv)), (nw, .inl (G.2 0, 15642, .inl nf))]) s.heap := hP
  have hl := lv_entry ([.ref mo, .int cr]) (n := 2) (Nat.le_of_ble_eq_true rfl)
  rw [lg_entry_eq]
  generalize (lg_sl ([.ref mo, .int cr]) ++ List.replicate (2 - (lg_sl ([.ref mo, .int cr])).length) Slot.unset).toArray = ls at hl ⊢
  have hl : lv_has ls 2 [(0, .ref mo), (1, .int cr)] := hl
  refine lv_iload_n hx hb dX12_isStreet_0 rfl (lv_at hl 1 rfl) ?_
  refine lv_iconst (v := 0) hx hb dX12_isStreet_1 (by decide) ?_
  refine lv_aload_n hx hb dX12_isStreet_2 rfl (lv_at hl 0 rfl) ?_
  refine va_get (D := G.1) (ci := 12) (v := .ref nw) (C := RX12) (T := TX12) (N := 32) hx hb ht inlX12 hown hK.1 hP 0 rfl rfl 0 (by decide) (ht (Cond.fieldLink RX12 7 "PloughDepotModel" "now" "[I") mw_6_19) (fun _ h9 => h9) rfl dX12_isStreet_3 ?_
  refine lv_iconst (v := 1) hx hb dX12_isStreet_6 (by decide) ?_
  refine va_iald hx hb hK.1 hP 1 0 rfl rfl (show ¬ ((1 : Int32) < 0 ∨ 15642 ≤ (1 : Int32).toNatClampNeg) by decide) dX12_isStreet_7 ?_
  refine lv_topi (fun v_1 ev_1 => ?_)
  obtain rfl : 0 = v_1 := (ev_1.trans (hz _ (by decide))).symm
  refine lv_iconst (v := 1) hx hb dX12_isStreet_8 (by decide) ?_
  refine lv_isub hx hb dX12_isStreet_9 ?_
  refine lv_topi (fun v_2 ev_2 => ?_)
  obtain rfl : v_2 = (-1) := ev_2.trans (by decide)
  have hPc := hP.sub (ws' := []) [] rfl
  have hDc := hD.sub (ws' := []) [] (by decide) rfl
  have hFc := va_free (wc := []) hD hS hA [] rfl
  refine va_calli (va_runS (As := [.int cr, .int 0, .int (-1)]) (rest := []) ⟨hx, hb, hml, hown, hts⟩ (r_in l G _ cr 0 (-1) ) (va_cwS 3 hts (gd_S mw_11_11 mw_11_12 mw_1_5 mw_11_13) rfl rfl rfl yk_X12_in ⟨Nat.le_of_ble_eq_true rfl, Nat.le_of_ble_eq_true rfl⟩) (c0_pre hPc hK hDc) rfl rfl hl.1 rfl (lv_room (Nat.le_of_ble_eq_true rfl)) dX12_isStreet_10 ⟨Nat.le_of_ble_eq_true rfl, Nat.le_of_ble_eq_true rfl⟩) hS (fun q _ h => hFc q h) hFc (fun r_3 u t H1 locs ht1 hvm hw hB hz1 hk1 hS => ?_)
  try dsimp only at hw hB
  have hr3 := hw
  obtain ⟨hP1, hD1⟩ := hB
  rw [ht1] at hP1
  obtain ⟨hP, hD⟩ := va_join (wr := [(mo, .inr (12, .ref nw :: mv)), (nw, .inl (G.2 0, 15642, .inl nf))]) (w1 := []) hP hD [] [0, 1] rfl rfl (by decide) (by decide) hk1 hFc hP1 hD1
  generalize H1 = H at hP hS ⊢
  have hP : va_P G.1 vwCl ([(mo, .inr (12, .ref nw :: mv)), (nw, .inl (G.2 0, 15642, .inl nf))]) H := hP
  have hD : va_D A ([(mo, .inr (12, .ref nw :: mv)), (nw, .inl (G.2 0, 15642, .inl nf))]) := hD
  obtain rfl : r_3 = 0 := hr3.trans (sp_in_m cr (by decide))
  have hP9 := hP.sub (ws' := [(mo, .inr (12, .ref nw :: mv)), (nw, .inl (G.2 0, 15642, .inl nf))]) [0, 1] rfl
  have hD9 := hD.sub (ws' := [(mo, .inr (12, .ref nw :: mv)), (nw, .inl (G.2 0, 15642, .inl nf))]) [0, 1] (by decide) rfl
  exact W.zret (v := 0) hx hb hr rfl (fun t ht hW => ⟨⟨0, (), rfl, rfl, ⟨by rw [ht]; exact hP9, hD9⟩⟩, hS.F ht⟩) hS.2.2 dX12_isStreet_13

set_option maxHeartbeats 4000000 in
set_option maxRecDepth 100000 in
theorem r_isGauge (l : Launch) (G : GG) (sz : Nat) (mo : Nat) (cr : Int32) (nw : Nat) (mv : List Value) (nf : Nat → Int32) (hz : ∀ j, j < 16 → nf j = 0) : Met l yX12_isGauge (.code yX12_isGauge cX12_isGauge 2 (some .boolean) :: TT) ({ frames := 2, cells := 0, slots := 0, locals := 200 } : Room) (c0_P G [.ref mo, .int cr] sz ([(mo, .inr (12, .ref nw :: mv)), (nw, .inl (G.2 0, 15642, .inl nf))])) (va_Qi (S := Unit) (fun (r : Int32) (u : Unit) => r = 0) (fun (u : Unit) (t : State) => c0_B G (va_A ([(mo, .inr (12, .ref nw :: mv)), (nw, .inl (G.2 0, 15642, .inl nf))]) sz) ([(mo, .inr (12, .ref nw :: mv)), (nw, .inl (G.2 0, 15642, .inl nf))]) t) (va_A ([(mo, .inr (12, .ref nw :: mv)), (nw, .inl (G.2 0, 15642, .inl nf))]) sz)) 0 0 (va_A ([(mo, .inr (12, .ref nw :: mv)), (nw, .inl (G.2 0, 15642, .inl nf))]) sz) := by
  refine Met.ofW (cc := cX12_isGauge) (maxL := 2) (ret := (some .boolean)) (by decide) rfl ?_
  intro p e s m args below meth c s₁ B hml hv
  obtain ⟨rfl, hsz, hP, hK, hD0⟩ := hv
  have hx := B.exec
  have hb := B.bytes
  have hr := B.returns
  have hts := atoms_spec (ws := .code yX12_isGauge cX12_isGauge 2 (some .boolean) :: TT) B.pre
  have ht := fun (w : Cond) (h : w ∈ TT) => hts w (List.mem_cons_of_mem _ h)
  have hown : s.vm.findClass RX12 = some m.cls := findClass_of_methodNamed B.named
  have hlocks := B.notSynchronized
  subst hsz
  have hD := hD0.self (sz := s.heap.size)
  generalize hAe : va_A ([(mo, .inr (12, .ref nw :: mv)), (nw, .inl (G.2 0, 15642, .inl nf))]) s.heap.size = A at hD ⊢
  have hA : ∀ q : Nat, s.heap.size ≤ q → A q := fun q h => by rw [← hAe]; exact Or.inr h
  have hS : va_S A s.heap s.heap [] := va_S.rf
  have hP : va_P G.1 vwCl ([(mo, .inr (12, .ref nw :: mv)), (nw, .inl (G.2 0, 15642, .inl nf))]) s.heap := hP
  have hl := lv_entry ([.ref mo, .int cr]) (n := 2) (Nat.le_of_ble_eq_true rfl)
  rw [lg_entry_eq]
  generalize (lg_sl ([.ref mo, .int cr]) ++ List.replicate (2 - (lg_sl ([.ref mo, .int cr])).length) Slot.unset).toArray = ls at hl ⊢
  have hl : lv_has ls 2 [(0, .ref mo), (1, .int cr)] := hl
  refine lv_iload_n hx hb dX12_isGauge_0 rfl (lv_at hl 1 rfl) ?_
  refine lv_iconst (v := 0) hx hb dX12_isGauge_1 (by decide) ?_
  refine lv_aload_n hx hb dX12_isGauge_2 rfl (lv_at hl 0 rfl) ?_
  refine va_get (D := G.1) (ci := 12) (v := .ref nw) (C := RX12) (T := TX12) (N := 32) hx hb ht inlX12 hown hK.1 hP 0 rfl rfl 0 (by decide) (ht (Cond.fieldLink RX12 7 "PloughDepotModel" "now" "[I") mw_6_19) (fun _ h9 => h9) rfl dX12_isGauge_3 ?_
  refine lv_iconst (v := 2) hx hb dX12_isGauge_6 (by decide) ?_
  refine va_iald hx hb hK.1 hP 1 0 rfl rfl (show ¬ ((2 : Int32) < 0 ∨ 15642 ≤ (2 : Int32).toNatClampNeg) by decide) dX12_isGauge_7 ?_
  refine lv_topi (fun v_1 ev_1 => ?_)
  obtain rfl : 0 = v_1 := (ev_1.trans (hz _ (by decide))).symm
  refine lv_iconst (v := 1) hx hb dX12_isGauge_8 (by decide) ?_
  refine lv_isub hx hb dX12_isGauge_9 ?_
  refine lv_topi (fun v_2 ev_2 => ?_)
  obtain rfl : v_2 = (-1) := ev_2.trans (by decide)
  have hPc := hP.sub (ws' := []) [] rfl
  have hDc := hD.sub (ws' := []) [] (by decide) rfl
  have hFc := va_free (wc := []) hD hS hA [] rfl
  refine va_calli (va_runS (As := [.int cr, .int 0, .int (-1)]) (rest := []) ⟨hx, hb, hml, hown, hts⟩ (r_in l G _ cr 0 (-1) ) (va_cwS 3 hts (gd_S mw_11_11 mw_11_12 mw_1_5 mw_11_13) rfl rfl rfl yk_X12_in ⟨Nat.le_of_ble_eq_true rfl, Nat.le_of_ble_eq_true rfl⟩) (c0_pre hPc hK hDc) rfl rfl hl.1 rfl (lv_room (Nat.le_of_ble_eq_true rfl)) dX12_isGauge_10 ⟨Nat.le_of_ble_eq_true rfl, Nat.le_of_ble_eq_true rfl⟩) hS (fun q _ h => hFc q h) hFc (fun r_3 u t H1 locs ht1 hvm hw hB hz1 hk1 hS => ?_)
  try dsimp only at hw hB
  have hr3 := hw
  obtain ⟨hP1, hD1⟩ := hB
  rw [ht1] at hP1
  obtain ⟨hP, hD⟩ := va_join (wr := [(mo, .inr (12, .ref nw :: mv)), (nw, .inl (G.2 0, 15642, .inl nf))]) (w1 := []) hP hD [] [0, 1] rfl rfl (by decide) (by decide) hk1 hFc hP1 hD1
  generalize H1 = H at hP hS ⊢
  have hP : va_P G.1 vwCl ([(mo, .inr (12, .ref nw :: mv)), (nw, .inl (G.2 0, 15642, .inl nf))]) H := hP
  have hD : va_D A ([(mo, .inr (12, .ref nw :: mv)), (nw, .inl (G.2 0, 15642, .inl nf))]) := hD
  obtain rfl : r_3 = 0 := hr3.trans (sp_in_m cr (by decide))
  have hP9 := hP.sub (ws' := [(mo, .inr (12, .ref nw :: mv)), (nw, .inl (G.2 0, 15642, .inl nf))]) [0, 1] rfl
  have hD9 := hD.sub (ws' := [(mo, .inr (12, .ref nw :: mv)), (nw, .inl (G.2 0, 15642, .inl nf))]) [0, 1] (by decide) rfl
  exact W.zret (v := 0) hx hb hr rfl (fun t ht hW => ⟨⟨0, (), rfl, rfl, ⟨by rw [ht]; exact hP9, hD9⟩⟩, hS.F ht⟩) hS.2.2 dX12_isGauge_13

set_option maxHeartbeats 4000000 in
set_option maxRecDepth 100000 in
theorem r_isPlough (l : Launch) (G : GG) (sz : Nat) (mo : Nat) (cr : Int32) (nw : Nat) (mv : List Value) (nf : Nat → Int32) (hz : ∀ j, j < 16 → nf j = 0) : Met l yX12_isPlough (.code yX12_isPlough cX12_isPlough 2 (some .boolean) :: TT) ({ frames := 2, cells := 0, slots := 0, locals := 200 } : Room) (c0_P G [.ref mo, .int cr] sz ([(mo, .inr (12, .ref nw :: mv)), (nw, .inl (G.2 0, 15642, .inl nf))])) (va_Qi (S := Unit) (fun (r : Int32) (u : Unit) => r = 0) (fun (u : Unit) (t : State) => c0_B G (va_A ([(mo, .inr (12, .ref nw :: mv)), (nw, .inl (G.2 0, 15642, .inl nf))]) sz) ([(mo, .inr (12, .ref nw :: mv)), (nw, .inl (G.2 0, 15642, .inl nf))]) t) (va_A ([(mo, .inr (12, .ref nw :: mv)), (nw, .inl (G.2 0, 15642, .inl nf))]) sz)) 0 0 (va_A ([(mo, .inr (12, .ref nw :: mv)), (nw, .inl (G.2 0, 15642, .inl nf))]) sz) := by
  refine Met.ofW (cc := cX12_isPlough) (maxL := 2) (ret := (some .boolean)) (by decide) rfl ?_
  intro p e s m args below meth c s₁ B hml hv
  obtain ⟨rfl, hsz, hP, hK, hD0⟩ := hv
  have hx := B.exec
  have hb := B.bytes
  have hr := B.returns
  have hts := atoms_spec (ws := .code yX12_isPlough cX12_isPlough 2 (some .boolean) :: TT) B.pre
  have ht := fun (w : Cond) (h : w ∈ TT) => hts w (List.mem_cons_of_mem _ h)
  have hown : s.vm.findClass RX12 = some m.cls := findClass_of_methodNamed B.named
  have hlocks := B.notSynchronized
  subst hsz
  have hD := hD0.self (sz := s.heap.size)
  generalize hAe : va_A ([(mo, .inr (12, .ref nw :: mv)), (nw, .inl (G.2 0, 15642, .inl nf))]) s.heap.size = A at hD ⊢
  have hA : ∀ q : Nat, s.heap.size ≤ q → A q := fun q h => by rw [← hAe]; exact Or.inr h
  have hS : va_S A s.heap s.heap [] := va_S.rf
  have hP : va_P G.1 vwCl ([(mo, .inr (12, .ref nw :: mv)), (nw, .inl (G.2 0, 15642, .inl nf))]) s.heap := hP
  have hl := lv_entry ([.ref mo, .int cr]) (n := 2) (Nat.le_of_ble_eq_true rfl)
  rw [lg_entry_eq]
  generalize (lg_sl ([.ref mo, .int cr]) ++ List.replicate (2 - (lg_sl ([.ref mo, .int cr])).length) Slot.unset).toArray = ls at hl ⊢
  have hl : lv_has ls 2 [(0, .ref mo), (1, .int cr)] := hl
  refine lv_iload_n hx hb dX12_isPlough_0 rfl (lv_at hl 1 rfl) ?_
  refine lv_iconst (v := 0) hx hb dX12_isPlough_1 (by decide) ?_
  refine lv_aload_n hx hb dX12_isPlough_2 rfl (lv_at hl 0 rfl) ?_
  refine va_get (D := G.1) (ci := 12) (v := .ref nw) (C := RX12) (T := TX12) (N := 32) hx hb ht inlX12 hown hK.1 hP 0 rfl rfl 0 (by decide) (ht (Cond.fieldLink RX12 7 "PloughDepotModel" "now" "[I") mw_6_19) (fun _ h9 => h9) rfl dX12_isPlough_3 ?_
  refine lv_iconst (v := 3) hx hb dX12_isPlough_6 (by decide) ?_
  refine va_iald hx hb hK.1 hP 1 0 rfl rfl (show ¬ ((3 : Int32) < 0 ∨ 15642 ≤ (3 : Int32).toNatClampNeg) by decide) dX12_isPlough_7 ?_
  refine lv_topi (fun v_1 ev_1 => ?_)
  obtain rfl : 0 = v_1 := (ev_1.trans (hz _ (by decide))).symm
  refine lv_iconst (v := 1) hx hb dX12_isPlough_8 (by decide) ?_
  refine lv_isub hx hb dX12_isPlough_9 ?_
  refine lv_topi (fun v_2 ev_2 => ?_)
  obtain rfl : v_2 = (-1) := ev_2.trans (by decide)
  have hPc := hP.sub (ws' := []) [] rfl
  have hDc := hD.sub (ws' := []) [] (by decide) rfl
  have hFc := va_free (wc := []) hD hS hA [] rfl
  refine va_calli (va_runS (As := [.int cr, .int 0, .int (-1)]) (rest := []) ⟨hx, hb, hml, hown, hts⟩ (r_in l G _ cr 0 (-1) ) (va_cwS 3 hts (gd_S mw_11_11 mw_11_12 mw_1_5 mw_11_13) rfl rfl rfl yk_X12_in ⟨Nat.le_of_ble_eq_true rfl, Nat.le_of_ble_eq_true rfl⟩) (c0_pre hPc hK hDc) rfl rfl hl.1 rfl (lv_room (Nat.le_of_ble_eq_true rfl)) dX12_isPlough_10 ⟨Nat.le_of_ble_eq_true rfl, Nat.le_of_ble_eq_true rfl⟩) hS (fun q _ h => hFc q h) hFc (fun r_3 u t H1 locs ht1 hvm hw hB hz1 hk1 hS => ?_)
  try dsimp only at hw hB
  have hr3 := hw
  obtain ⟨hP1, hD1⟩ := hB
  rw [ht1] at hP1
  obtain ⟨hP, hD⟩ := va_join (wr := [(mo, .inr (12, .ref nw :: mv)), (nw, .inl (G.2 0, 15642, .inl nf))]) (w1 := []) hP hD [] [0, 1] rfl rfl (by decide) (by decide) hk1 hFc hP1 hD1
  generalize H1 = H at hP hS ⊢
  have hP : va_P G.1 vwCl ([(mo, .inr (12, .ref nw :: mv)), (nw, .inl (G.2 0, 15642, .inl nf))]) H := hP
  have hD : va_D A ([(mo, .inr (12, .ref nw :: mv)), (nw, .inl (G.2 0, 15642, .inl nf))]) := hD
  obtain rfl : r_3 = 0 := hr3.trans (sp_in_m cr (by decide))
  have hP9 := hP.sub (ws' := [(mo, .inr (12, .ref nw :: mv)), (nw, .inl (G.2 0, 15642, .inl nf))]) [0, 1] rfl
  have hD9 := hD.sub (ws' := [(mo, .inr (12, .ref nw :: mv)), (nw, .inl (G.2 0, 15642, .inl nf))]) [0, 1] (by decide) rfl
  exact W.zret (v := 0) hx hb hr rfl (fun t ht hW => ⟨⟨0, (), rfl, rfl, ⟨by rw [ht]; exact hP9, hD9⟩⟩, hS.F ht⟩) hS.2.2 dX12_isPlough_13

set_option maxHeartbeats 4000000 in
set_option maxRecDepth 100000 in
theorem r_finds_m2 (l : Launch) (G : GG) (sz : Nat) (mo : Nat) (mv : List Value)  : Met l yX12_finds (.code yX12_finds cX12_finds 2 none :: TT) ({ frames := 1, cells := 0, slots := 0, locals := 100 } : Room) (c0_P G [.ref mo, .int (-2)] sz ([(mo, .inr (12, mv))])) (va_Qv (S := Unit) (fun (u : Unit) => True) (fun (u : Unit) (t : State) => c0_B G (va_A ([(mo, .inr (12, mv))]) sz) ([(mo, .inr (12, mv))]) t) (va_A ([(mo, .inr (12, mv))]) sz)) 0 0 (va_A ([(mo, .inr (12, mv))]) sz) := by
  refine Met.ofW (cc := cX12_finds) (maxL := 2) (ret := none) (by decide) rfl ?_
  intro p e s m args below meth c s₁ B hml hv
  obtain ⟨rfl, hsz, hP, hK, hD0⟩ := hv
  have hx := B.exec
  have hb := B.bytes
  have hr := B.returns
  have hts := atoms_spec (ws := .code yX12_finds cX12_finds 2 none :: TT) B.pre
  have ht := fun (w : Cond) (h : w ∈ TT) => hts w (List.mem_cons_of_mem _ h)
  have hown : s.vm.findClass RX12 = some m.cls := findClass_of_methodNamed B.named
  have hlocks := B.notSynchronized
  subst hsz
  have hD := hD0.self (sz := s.heap.size)
  generalize hAe : va_A ([(mo, .inr (12, mv))]) s.heap.size = A at hD ⊢
  have hA : ∀ q : Nat, s.heap.size ≤ q → A q := fun q h => by rw [← hAe]; exact Or.inr h
  have hS : va_S A s.heap s.heap [] := va_S.rf
  have hP : va_P G.1 vwCl ([(mo, .inr (12, mv))]) s.heap := hP
  have hl := lv_entry ([.ref mo, .int (-2)]) (n := 2) (Nat.le_of_ble_eq_true rfl)
  rw [lg_entry_eq]
  generalize (lg_sl ([.ref mo, .int (-2)]) ++ List.replicate (2 - (lg_sl ([.ref mo, .int (-2)])).length) Slot.unset).toArray = ls at hl ⊢
  have hl : lv_has ls 2 [(0, .ref mo), (1, .int (-2))] := hl
  refine lv_iload_n hx hb dX12_finds_0 rfl (lv_at hl 1 rfl) ?_
  refine lv_bipush (v := (-4)) hx hb dX12_finds_1 (by decide) ?_
  refine lv_icmp_gt (tgt := 28) hx hb dX12_finds_3 (by decide) (fun c_1 => ?_) (fun c_1 => ?_)
  · refine lv_iload_n hx hb dX12_finds_28 rfl (lv_at hl 1 rfl) ?_
    refine lv_bipush (v := (-9)) hx hb dX12_finds_29 (by decide) ?_
    refine lv_icmp_ne (tgt := 44) hx hb dX12_finds_31 (by decide) (fun c_2 => ?_) (fun c_2 => ?_)
    · have hP9 := hP.sub (ws' := [(mo, .inr (12, mv))]) [0] rfl
      have hD9 := hD.sub (ws' := [(mo, .inr (12, mv))]) [0] (by decide) rfl
      exact W.vret hx hb hr (fun t ht hW => ⟨⟨(), rfl, trivial, ⟨by rw [ht]; exact hP9, hD9⟩⟩, hS.F ht⟩) hS.2.2 dX12_finds_44
    · exact absurd c_2 (by decide)
  · exact absurd c_1 (by decide)

set_option maxHeartbeats 4000000 in
set_option maxRecDepth 100000 in
theorem r_refuses_m2 (l : Launch) (G : GG) (sz : Nat) (mo : Nat) (m0 : Value) (m1 : Value) (m2 : Value) (m3 : Value) (mv : List Value)  : Met l yX12_refuses (.code yX12_refuses cX12_refuses 2 (some .int) :: TT) ({ frames := 2, cells := 0, slots := 0, locals := 200 } : Room) (c0_P G [.ref mo, .int (-2)] sz ([(mo, .inr (12, m0 :: m1 :: m2 :: m3 :: mv))])) (va_Qi (S := Unit) (fun (r : Int32) (u : Unit) => r = (-2)) (fun (u : Unit) (t : State) => c0_B G (va_A ([(mo, .inr (12, m0 :: m1 :: m2 :: m3 :: mv))]) sz) ([(mo, .inr (12, m0 :: m1 :: m2 :: .int (-2) :: mv))]) t) (va_A ([(mo, .inr (12, m0 :: m1 :: m2 :: m3 :: mv))]) sz)) 0 0 (va_A ([(mo, .inr (12, m0 :: m1 :: m2 :: m3 :: mv))]) sz) := by
  refine Met.ofW (cc := cX12_refuses) (maxL := 2) (ret := (some .int)) (by decide) rfl ?_
  intro p e s m args below meth c s₁ B hml hv
  obtain ⟨rfl, hsz, hP, hK, hD0⟩ := hv
  have hx := B.exec
  have hb := B.bytes
  have hr := B.returns
  have hts := atoms_spec (ws := .code yX12_refuses cX12_refuses 2 (some .int) :: TT) B.pre
  have ht := fun (w : Cond) (h : w ∈ TT) => hts w (List.mem_cons_of_mem _ h)
  have hown : s.vm.findClass RX12 = some m.cls := findClass_of_methodNamed B.named
  have hlocks := B.notSynchronized
  subst hsz
  have hD := hD0.self (sz := s.heap.size)
  generalize hAe : va_A ([(mo, .inr (12, m0 :: m1 :: m2 :: m3 :: mv))]) s.heap.size = A at hD ⊢
  have hA : ∀ q : Nat, s.heap.size ≤ q → A q := fun q h => by rw [← hAe]; exact Or.inr h
  have hS : va_S A s.heap s.heap [] := va_S.rf
  have hP : va_P G.1 vwCl ([(mo, .inr (12, m0 :: m1 :: m2 :: m3 :: mv))]) s.heap := hP
  have hl := lv_entry ([.ref mo, .int (-2)]) (n := 2) (Nat.le_of_ble_eq_true rfl)
  rw [lg_entry_eq]
  generalize (lg_sl ([.ref mo, .int (-2)]) ++ List.replicate (2 - (lg_sl ([.ref mo, .int (-2)])).length) Slot.unset).toArray = ls at hl ⊢
  have hl : lv_has ls 2 [(0, .ref mo), (1, .int (-2))] := hl
  refine lv_aload_n hx hb dX12_refuses_0 rfl (lv_at hl 0 rfl) ?_
  refine lv_iload_n hx hb dX12_refuses_1 rfl (lv_at hl 1 rfl) ?_
  refine va_put (D := G.1) (ci := 12) (v := .int (-2)) (ty := tyX12 3) (C := RX12) (T := TX12) (N := 32) hx hb ht inlX12 tyX12 tyX12_ok nmX12 hown hK.1 hP hD hS 0 rfl rfl 3 (by decide) (ht (Cond.fieldLink RX12 76 "PloughDepotModel" "status" "I") mw_11_18) (fun _ h9 => h9) rfl (tyX12_ok 3 (by decide)) rfl rfl (by simp) dX12_refuses_2 (fun H locs hP hD hS => ?_)
  have hP : va_P G.1 vwCl ([(mo, .inr (12, m0 :: m1 :: m2 :: .int (-2) :: mv))]) H := hP
  have hD : va_D A ([(mo, .inr (12, m0 :: m1 :: m2 :: .int (-2) :: mv))]) := hD
  refine lv_aload_n hx hb dX12_refuses_5 rfl (lv_at hl 0 rfl) ?_
  refine lv_iload_n hx hb dX12_refuses_6 rfl (lv_at hl 1 rfl) ?_
  have hPc := hP.sub (ws' := [(mo, .inr (12, m0 :: m1 :: m2 :: .int (-2) :: mv))]) [0] rfl
  have hDc := hD.sub (ws' := [(mo, .inr (12, m0 :: m1 :: m2 :: .int (-2) :: mv))]) [0] (by decide) rfl
  have hFc := va_free (wc := [(mo, .inr (12, m0 :: m1 :: m2 :: .int (-2) :: mv))]) hD hS hA [0] rfl
  refine va_callv (va_runV (As := [.int (-2)]) (rest := []) ⟨hx, hb, hml, hown, hts⟩ (r_finds_m2 l G _ mo (m0 :: m1 :: m2 :: .int (-2) :: mv) ) (cwV 1 hts (gd_V mw_11_19 mw_11_20 mw_11_21 mw_1_5 mw_11_22) rfl rfl rfl ⟨rfl, yk_X12_finds⟩ ⟨Nat.le_of_ble_eq_true rfl, Nat.le_of_ble_eq_true rfl⟩) (c0_preV (q0 := 0) (ci := 12) (q := (RX12, TX12, 32)) hPc hK hDc rfl rfl) rfl rfl hl.1 rfl (lv_room (Nat.le_of_ble_eq_true rfl)) dX12_refuses_7 ⟨Nat.le_of_ble_eq_true rfl, Nat.le_of_ble_eq_true rfl⟩) hS (fun q _ h => hFc q h) hFc (fun u t H1 locs ht1 hvm hw hB hz1 hk1 hS => ?_)
  try dsimp only at hw hB
  obtain ⟨hP1, hD1⟩ := hB
  rw [ht1] at hP1
  obtain ⟨hP, hD⟩ := va_join (wr := []) (w1 := [(mo, .inr (12, m0 :: m1 :: m2 :: .int (-2) :: mv))]) hP hD [0] [] rfl rfl (by decide) (by decide) hk1 hFc hP1 hD1
  generalize H1 = H at hP hS ⊢
  have hP : va_P G.1 vwCl ([(mo, .inr (12, m0 :: m1 :: m2 :: .int (-2) :: mv))]) H := hP
  have hD : va_D A ([(mo, .inr (12, m0 :: m1 :: m2 :: .int (-2) :: mv))]) := hD
  refine lv_iload_n hx hb dX12_refuses_10 rfl (lv_at hl 1 rfl) ?_
  have hP9 := hP.sub (ws' := [(mo, .inr (12, m0 :: m1 :: m2 :: .int (-2) :: mv))]) [0] rfl
  have hD9 := hD.sub (ws' := [(mo, .inr (12, m0 :: m1 :: m2 :: .int (-2) :: mv))]) [0] (by decide) rfl
  exact W.iret (v := (-2)) hx hb hr (fun t ht hW => ⟨⟨(-2), (), rfl, rfl, ⟨by rw [ht]; exact hP9, hD9⟩⟩, hS.F ht⟩) hS.2.2 dX12_refuses_11

set_option maxHeartbeats 4000000 in
set_option maxRecDepth 100000 in
theorem r_finds_m8 (l : Launch) (G : GG) (sz : Nat) (mo : Nat) (mv : List Value)  : Met l yX12_finds (.code yX12_finds cX12_finds 2 none :: TT) ({ frames := 1, cells := 0, slots := 0, locals := 100 } : Room) (c0_P G [.ref mo, .int (-8)] sz ([(mo, .inr (12, mv))])) (va_Qv (S := Unit) (fun (u : Unit) => True) (fun (u : Unit) (t : State) => c0_B G (va_A ([(mo, .inr (12, mv))]) sz) ([(mo, .inr (12, mv))]) t) (va_A ([(mo, .inr (12, mv))]) sz)) 0 0 (va_A ([(mo, .inr (12, mv))]) sz) := by
  refine Met.ofW (cc := cX12_finds) (maxL := 2) (ret := none) (by decide) rfl ?_
  intro p e s m args below meth c s₁ B hml hv
  obtain ⟨rfl, hsz, hP, hK, hD0⟩ := hv
  have hx := B.exec
  have hb := B.bytes
  have hr := B.returns
  have hts := atoms_spec (ws := .code yX12_finds cX12_finds 2 none :: TT) B.pre
  have ht := fun (w : Cond) (h : w ∈ TT) => hts w (List.mem_cons_of_mem _ h)
  have hown : s.vm.findClass RX12 = some m.cls := findClass_of_methodNamed B.named
  have hlocks := B.notSynchronized
  subst hsz
  have hD := hD0.self (sz := s.heap.size)
  generalize hAe : va_A ([(mo, .inr (12, mv))]) s.heap.size = A at hD ⊢
  have hA : ∀ q : Nat, s.heap.size ≤ q → A q := fun q h => by rw [← hAe]; exact Or.inr h
  have hS : va_S A s.heap s.heap [] := va_S.rf
  have hP : va_P G.1 vwCl ([(mo, .inr (12, mv))]) s.heap := hP
  have hl := lv_entry ([.ref mo, .int (-8)]) (n := 2) (Nat.le_of_ble_eq_true rfl)
  rw [lg_entry_eq]
  generalize (lg_sl ([.ref mo, .int (-8)]) ++ List.replicate (2 - (lg_sl ([.ref mo, .int (-8)])).length) Slot.unset).toArray = ls at hl ⊢
  have hl : lv_has ls 2 [(0, .ref mo), (1, .int (-8))] := hl
  refine lv_iload_n hx hb dX12_finds_0 rfl (lv_at hl 1 rfl) ?_
  refine lv_bipush (v := (-4)) hx hb dX12_finds_1 (by decide) ?_
  refine lv_icmp_gt (tgt := 28) hx hb dX12_finds_3 (by decide) (fun c_1 => ?_) (fun c_1 => ?_)
  · exact absurd c_1 (by decide)
  · refine lv_iload_n hx hb dX12_finds_6 rfl (lv_at hl 1 rfl) ?_
    refine lv_bipush (v := (-7)) hx hb dX12_finds_7 (by decide) ?_
    refine lv_icmp_lt (tgt := 28) hx hb dX12_finds_9 (by decide) (fun c_2 => ?_) (fun c_2 => ?_)
    · refine lv_iload_n hx hb dX12_finds_28 rfl (lv_at hl 1 rfl) ?_
      refine lv_bipush (v := (-9)) hx hb dX12_finds_29 (by decide) ?_
      refine lv_icmp_ne (tgt := 44) hx hb dX12_finds_31 (by decide) (fun c_3 => ?_) (fun c_3 => ?_)
      · have hP9 := hP.sub (ws' := [(mo, .inr (12, mv))]) [0] rfl
        have hD9 := hD.sub (ws' := [(mo, .inr (12, mv))]) [0] (by decide) rfl
        exact W.vret hx hb hr (fun t ht hW => ⟨⟨(), rfl, trivial, ⟨by rw [ht]; exact hP9, hD9⟩⟩, hS.F ht⟩) hS.2.2 dX12_finds_44
      · exact absurd c_3 (by decide)
    · exact absurd c_2 (by decide)

set_option maxHeartbeats 4000000 in
set_option maxRecDepth 100000 in
theorem r_refuses_m8 (l : Launch) (G : GG) (sz : Nat) (mo : Nat) (m0 : Value) (m1 : Value) (m2 : Value) (m3 : Value) (mv : List Value)  : Met l yX12_refuses (.code yX12_refuses cX12_refuses 2 (some .int) :: TT) ({ frames := 2, cells := 0, slots := 0, locals := 200 } : Room) (c0_P G [.ref mo, .int (-8)] sz ([(mo, .inr (12, m0 :: m1 :: m2 :: m3 :: mv))])) (va_Qi (S := Unit) (fun (r : Int32) (u : Unit) => r = (-8)) (fun (u : Unit) (t : State) => c0_B G (va_A ([(mo, .inr (12, m0 :: m1 :: m2 :: m3 :: mv))]) sz) ([(mo, .inr (12, m0 :: m1 :: m2 :: .int (-8) :: mv))]) t) (va_A ([(mo, .inr (12, m0 :: m1 :: m2 :: m3 :: mv))]) sz)) 0 0 (va_A ([(mo, .inr (12, m0 :: m1 :: m2 :: m3 :: mv))]) sz) := by
  refine Met.ofW (cc := cX12_refuses) (maxL := 2) (ret := (some .int)) (by decide) rfl ?_
  intro p e s m args below meth c s₁ B hml hv
  obtain ⟨rfl, hsz, hP, hK, hD0⟩ := hv
  have hx := B.exec
  have hb := B.bytes
  have hr := B.returns
  have hts := atoms_spec (ws := .code yX12_refuses cX12_refuses 2 (some .int) :: TT) B.pre
  have ht := fun (w : Cond) (h : w ∈ TT) => hts w (List.mem_cons_of_mem _ h)
  have hown : s.vm.findClass RX12 = some m.cls := findClass_of_methodNamed B.named
  have hlocks := B.notSynchronized
  subst hsz
  have hD := hD0.self (sz := s.heap.size)
  generalize hAe : va_A ([(mo, .inr (12, m0 :: m1 :: m2 :: m3 :: mv))]) s.heap.size = A at hD ⊢
  have hA : ∀ q : Nat, s.heap.size ≤ q → A q := fun q h => by rw [← hAe]; exact Or.inr h
  have hS : va_S A s.heap s.heap [] := va_S.rf
  have hP : va_P G.1 vwCl ([(mo, .inr (12, m0 :: m1 :: m2 :: m3 :: mv))]) s.heap := hP
  have hl := lv_entry ([.ref mo, .int (-8)]) (n := 2) (Nat.le_of_ble_eq_true rfl)
  rw [lg_entry_eq]
  generalize (lg_sl ([.ref mo, .int (-8)]) ++ List.replicate (2 - (lg_sl ([.ref mo, .int (-8)])).length) Slot.unset).toArray = ls at hl ⊢
  have hl : lv_has ls 2 [(0, .ref mo), (1, .int (-8))] := hl
  refine lv_aload_n hx hb dX12_refuses_0 rfl (lv_at hl 0 rfl) ?_
  refine lv_iload_n hx hb dX12_refuses_1 rfl (lv_at hl 1 rfl) ?_
  refine va_put (D := G.1) (ci := 12) (v := .int (-8)) (ty := tyX12 3) (C := RX12) (T := TX12) (N := 32) hx hb ht inlX12 tyX12 tyX12_ok nmX12 hown hK.1 hP hD hS 0 rfl rfl 3 (by decide) (ht (Cond.fieldLink RX12 76 "PloughDepotModel" "status" "I") mw_11_18) (fun _ h9 => h9) rfl (tyX12_ok 3 (by decide)) rfl rfl (by simp) dX12_refuses_2 (fun H locs hP hD hS => ?_)
  have hP : va_P G.1 vwCl ([(mo, .inr (12, m0 :: m1 :: m2 :: .int (-8) :: mv))]) H := hP
  have hD : va_D A ([(mo, .inr (12, m0 :: m1 :: m2 :: .int (-8) :: mv))]) := hD
  refine lv_aload_n hx hb dX12_refuses_5 rfl (lv_at hl 0 rfl) ?_
  refine lv_iload_n hx hb dX12_refuses_6 rfl (lv_at hl 1 rfl) ?_
  have hPc := hP.sub (ws' := [(mo, .inr (12, m0 :: m1 :: m2 :: .int (-8) :: mv))]) [0] rfl
  have hDc := hD.sub (ws' := [(mo, .inr (12, m0 :: m1 :: m2 :: .int (-8) :: mv))]) [0] (by decide) rfl
  have hFc := va_free (wc := [(mo, .inr (12, m0 :: m1 :: m2 :: .int (-8) :: mv))]) hD hS hA [0] rfl
  refine va_callv (va_runV (As := [.int (-8)]) (rest := []) ⟨hx, hb, hml, hown, hts⟩ (r_finds_m8 l G _ mo (m0 :: m1 :: m2 :: .int (-8) :: mv) ) (cwV 1 hts (gd_V mw_11_19 mw_11_20 mw_11_21 mw_1_5 mw_11_22) rfl rfl rfl ⟨rfl, yk_X12_finds⟩ ⟨Nat.le_of_ble_eq_true rfl, Nat.le_of_ble_eq_true rfl⟩) (c0_preV (q0 := 0) (ci := 12) (q := (RX12, TX12, 32)) hPc hK hDc rfl rfl) rfl rfl hl.1 rfl (lv_room (Nat.le_of_ble_eq_true rfl)) dX12_refuses_7 ⟨Nat.le_of_ble_eq_true rfl, Nat.le_of_ble_eq_true rfl⟩) hS (fun q _ h => hFc q h) hFc (fun u t H1 locs ht1 hvm hw hB hz1 hk1 hS => ?_)
  try dsimp only at hw hB
  obtain ⟨hP1, hD1⟩ := hB
  rw [ht1] at hP1
  obtain ⟨hP, hD⟩ := va_join (wr := []) (w1 := [(mo, .inr (12, m0 :: m1 :: m2 :: .int (-8) :: mv))]) hP hD [0] [] rfl rfl (by decide) (by decide) hk1 hFc hP1 hD1
  generalize H1 = H at hP hS ⊢
  have hP : va_P G.1 vwCl ([(mo, .inr (12, m0 :: m1 :: m2 :: .int (-8) :: mv))]) H := hP
  have hD : va_D A ([(mo, .inr (12, m0 :: m1 :: m2 :: .int (-8) :: mv))]) := hD
  refine lv_iload_n hx hb dX12_refuses_10 rfl (lv_at hl 1 rfl) ?_
  have hP9 := hP.sub (ws' := [(mo, .inr (12, m0 :: m1 :: m2 :: .int (-8) :: mv))]) [0] rfl
  have hD9 := hD.sub (ws' := [(mo, .inr (12, m0 :: m1 :: m2 :: .int (-8) :: mv))]) [0] (by decide) rfl
  exact W.iret (v := (-8)) hx hb hr (fun t ht hW => ⟨⟨(-8), (), rfl, rfl, ⟨by rw [ht]; exact hP9, hD9⟩⟩, hS.F ht⟩) hS.2.2 dX12_refuses_11

set_option maxHeartbeats 4000000 in
set_option maxRecDepth 100000 in
theorem r_finds_z (l : Launch) (G : GG) (sz : Nat) (mo : Nat) (mv : List Value)  : Met l yX12_finds (.code yX12_finds cX12_finds 2 none :: TT) ({ frames := 1, cells := 0, slots := 0, locals := 100 } : Room) (c0_P G [.ref mo, .int 0] sz ([(mo, .inr (12, mv))])) (va_Qv (S := Unit) (fun (u : Unit) => True) (fun (u : Unit) (t : State) => c0_B G (va_A ([(mo, .inr (12, mv))]) sz) ([(mo, .inr (12, mv))]) t) (va_A ([(mo, .inr (12, mv))]) sz)) 0 0 (va_A ([(mo, .inr (12, mv))]) sz) := by
  refine Met.ofW (cc := cX12_finds) (maxL := 2) (ret := none) (by decide) rfl ?_
  intro p e s m args below meth c s₁ B hml hv
  obtain ⟨rfl, hsz, hP, hK, hD0⟩ := hv
  have hx := B.exec
  have hb := B.bytes
  have hr := B.returns
  have hts := atoms_spec (ws := .code yX12_finds cX12_finds 2 none :: TT) B.pre
  have ht := fun (w : Cond) (h : w ∈ TT) => hts w (List.mem_cons_of_mem _ h)
  have hown : s.vm.findClass RX12 = some m.cls := findClass_of_methodNamed B.named
  have hlocks := B.notSynchronized
  subst hsz
  have hD := hD0.self (sz := s.heap.size)
  generalize hAe : va_A ([(mo, .inr (12, mv))]) s.heap.size = A at hD ⊢
  have hA : ∀ q : Nat, s.heap.size ≤ q → A q := fun q h => by rw [← hAe]; exact Or.inr h
  have hS : va_S A s.heap s.heap [] := va_S.rf
  have hP : va_P G.1 vwCl ([(mo, .inr (12, mv))]) s.heap := hP
  have hl := lv_entry ([.ref mo, .int 0]) (n := 2) (Nat.le_of_ble_eq_true rfl)
  rw [lg_entry_eq]
  generalize (lg_sl ([.ref mo, .int 0]) ++ List.replicate (2 - (lg_sl ([.ref mo, .int 0])).length) Slot.unset).toArray = ls at hl ⊢
  have hl : lv_has ls 2 [(0, .ref mo), (1, .int 0)] := hl
  refine lv_iload_n hx hb dX12_finds_0 rfl (lv_at hl 1 rfl) ?_
  refine lv_bipush (v := (-4)) hx hb dX12_finds_1 (by decide) ?_
  refine lv_icmp_gt (tgt := 28) hx hb dX12_finds_3 (by decide) (fun c_1 => ?_) (fun c_1 => ?_)
  · refine lv_iload_n hx hb dX12_finds_28 rfl (lv_at hl 1 rfl) ?_
    refine lv_bipush (v := (-9)) hx hb dX12_finds_29 (by decide) ?_
    refine lv_icmp_ne (tgt := 44) hx hb dX12_finds_31 (by decide) (fun c_2 => ?_) (fun c_2 => ?_)
    · have hP9 := hP.sub (ws' := [(mo, .inr (12, mv))]) [0] rfl
      have hD9 := hD.sub (ws' := [(mo, .inr (12, mv))]) [0] (by decide) rfl
      exact W.vret hx hb hr (fun t ht hW => ⟨⟨(), rfl, trivial, ⟨by rw [ht]; exact hP9, hD9⟩⟩, hS.F ht⟩) hS.2.2 dX12_finds_44
    · exact absurd c_2 (by decide)
  · exact absurd c_1 (by decide)

set_option maxHeartbeats 4000000 in
set_option maxRecDepth 100000 in
theorem r_says (l : Launch) (G : GG) (sz : Nat) (mo : Nat) (av : Int32) (m0 : Value) (m1 : Value) (m2 : Value) (m3 : Value) (mv : List Value)  : Met l yX12_says (.code yX12_says cX12_says 2 (some .int) :: TT) ({ frames := 1, cells := 0, slots := 0, locals := 100 } : Room) (c0_P G [.ref mo, .int av] sz ([(mo, .inr (12, m0 :: m1 :: m2 :: m3 :: mv))])) (va_Qi (S := Unit) (fun (r : Int32) (u : Unit) => r = av) (fun (u : Unit) (t : State) => c0_B G (va_A ([(mo, .inr (12, m0 :: m1 :: m2 :: m3 :: mv))]) sz) ([(mo, .inr (12, m0 :: m1 :: m2 :: .int 0 :: mv))]) t) (va_A ([(mo, .inr (12, m0 :: m1 :: m2 :: m3 :: mv))]) sz)) 0 0 (va_A ([(mo, .inr (12, m0 :: m1 :: m2 :: m3 :: mv))]) sz) := by
  refine Met.ofW (cc := cX12_says) (maxL := 2) (ret := (some .int)) (by decide) rfl ?_
  intro p e s m args below meth c s₁ B hml hv
  obtain ⟨rfl, hsz, hP, hK, hD0⟩ := hv
  have hx := B.exec
  have hb := B.bytes
  have hr := B.returns
  have hts := atoms_spec (ws := .code yX12_says cX12_says 2 (some .int) :: TT) B.pre
  have ht := fun (w : Cond) (h : w ∈ TT) => hts w (List.mem_cons_of_mem _ h)
  have hown : s.vm.findClass RX12 = some m.cls := findClass_of_methodNamed B.named
  have hlocks := B.notSynchronized
  subst hsz
  have hD := hD0.self (sz := s.heap.size)
  generalize hAe : va_A ([(mo, .inr (12, m0 :: m1 :: m2 :: m3 :: mv))]) s.heap.size = A at hD ⊢
  have hA : ∀ q : Nat, s.heap.size ≤ q → A q := fun q h => by rw [← hAe]; exact Or.inr h
  have hS : va_S A s.heap s.heap [] := va_S.rf
  have hP : va_P G.1 vwCl ([(mo, .inr (12, m0 :: m1 :: m2 :: m3 :: mv))]) s.heap := hP
  have hl := lv_entry ([.ref mo, .int av]) (n := 2) (Nat.le_of_ble_eq_true rfl)
  rw [lg_entry_eq]
  generalize (lg_sl ([.ref mo, .int av]) ++ List.replicate (2 - (lg_sl ([.ref mo, .int av])).length) Slot.unset).toArray = ls at hl ⊢
  have hl : lv_has ls 2 [(0, .ref mo), (1, .int av)] := hl
  refine lv_aload_n hx hb dX12_says_0 rfl (lv_at hl 0 rfl) ?_
  refine lv_iconst (v := 0) hx hb dX12_says_1 (by decide) ?_
  refine va_put (D := G.1) (ci := 12) (v := .int 0) (ty := tyX12 3) (C := RX12) (T := TX12) (N := 32) hx hb ht inlX12 tyX12 tyX12_ok nmX12 hown hK.1 hP hD hS 0 rfl rfl 3 (by decide) (ht (Cond.fieldLink RX12 76 "PloughDepotModel" "status" "I") mw_11_18) (fun _ h9 => h9) rfl (tyX12_ok 3 (by decide)) rfl rfl (by simp) dX12_says_2 (fun H locs hP hD hS => ?_)
  have hP : va_P G.1 vwCl ([(mo, .inr (12, m0 :: m1 :: m2 :: .int 0 :: mv))]) H := hP
  have hD : va_D A ([(mo, .inr (12, m0 :: m1 :: m2 :: .int 0 :: mv))]) := hD
  refine lv_iload_n hx hb dX12_says_5 rfl (lv_at hl 1 rfl) ?_
  have hP9 := hP.sub (ws' := [(mo, .inr (12, m0 :: m1 :: m2 :: .int 0 :: mv))]) [0] rfl
  have hD9 := hD.sub (ws' := [(mo, .inr (12, m0 :: m1 :: m2 :: .int 0 :: mv))]) [0] (by decide) rfl
  exact W.iret (v := av) hx hb hr (fun t ht hW => ⟨⟨av, (), rfl, rfl, ⟨by rw [ht]; exact hP9, hD9⟩⟩, hS.F ht⟩) hS.2.2 dX12_says_6

set_option maxHeartbeats 4000000 in
set_option maxRecDepth 100000 in
theorem r_street (l : Launch) (G : GG) (sz : Nat) (mo : Nat) (x1 : Int32) (x2 : Int32) (x3 : Int32) (x4 : Int32) (nw : Nat) (m1 : Value) (m2 : Value) (m3 : Value) (mv : List Value) (nf : Nat → Int32) (hz : ∀ j, j < 16 → nf j = 0) : Met l yX12_street (.code yX12_street cX12_street 6 (some .int) :: TT) ({ frames := 3, cells := 0, slots := 0, locals := 300 } : Room) (c0_P G [.ref mo, .int x1, .int x2, .int x3, .int x4] sz ([(mo, .inr (12, .ref nw :: m1 :: m2 :: m3 :: mv)), (nw, .inl (G.2 0, 15642, .inl nf))])) (va_Qi (S := Unit) (fun (r : Int32) (u : Unit) => r = (-2)) (fun (u : Unit) (t : State) => True) (va_A ([(mo, .inr (12, .ref nw :: m1 :: m2 :: m3 :: mv)), (nw, .inl (G.2 0, 15642, .inl nf))]) sz)) 0 0 (va_A ([(mo, .inr (12, .ref nw :: m1 :: m2 :: m3 :: mv)), (nw, .inl (G.2 0, 15642, .inl nf))]) sz) := by
  refine Met.ofW (cc := cX12_street) (maxL := 6) (ret := (some .int)) (by decide) rfl ?_
  intro p e s m args below meth c s₁ B hml hv
  obtain ⟨rfl, hsz, hP, hK, hD0⟩ := hv
  have hx := B.exec
  have hb := B.bytes
  have hr := B.returns
  have hts := atoms_spec (ws := .code yX12_street cX12_street 6 (some .int) :: TT) B.pre
  have ht := fun (w : Cond) (h : w ∈ TT) => hts w (List.mem_cons_of_mem _ h)
  have hown : s.vm.findClass RX12 = some m.cls := findClass_of_methodNamed B.named
  have hlocks := B.notSynchronized
  subst hsz
  have hD := hD0.self (sz := s.heap.size)
  generalize hAe : va_A ([(mo, .inr (12, .ref nw :: m1 :: m2 :: m3 :: mv)), (nw, .inl (G.2 0, 15642, .inl nf))]) s.heap.size = A at hD ⊢
  have hA : ∀ q : Nat, s.heap.size ≤ q → A q := fun q h => by rw [← hAe]; exact Or.inr h
  have hS : va_S A s.heap s.heap [] := va_S.rf
  have hP : va_P G.1 vwCl ([(mo, .inr (12, .ref nw :: m1 :: m2 :: m3 :: mv)), (nw, .inl (G.2 0, 15642, .inl nf))]) s.heap := hP
  have hl := lv_entry ([.ref mo, .int x1, .int x2, .int x3, .int x4]) (n := 6) (Nat.le_of_ble_eq_true rfl)
  rw [lg_entry_eq]
  generalize (lg_sl ([.ref mo, .int x1, .int x2, .int x3, .int x4]) ++ List.replicate (6 - (lg_sl ([.ref mo, .int x1, .int x2, .int x3, .int x4])).length) Slot.unset).toArray = ls at hl ⊢
  have hl : lv_has ls 6 [(0, .ref mo), (1, .int x1), (2, .int x2), (3, .int x3), (4, .int x4)] := hl
  refine lv_aload_n hx hb dX12_street_0 rfl (lv_at hl 0 rfl) ?_
  refine lv_iload_n hx hb dX12_street_1 rfl (lv_at hl 1 rfl) ?_
  have hPc := hP.sub (ws' := [(mo, .inr (12, .ref nw :: m1 :: m2 :: m3 :: mv)), (nw, .inl (G.2 0, 15642, .inl nf))]) [0, 1] rfl
  have hDc := hD.sub (ws' := [(mo, .inr (12, .ref nw :: m1 :: m2 :: m3 :: mv)), (nw, .inl (G.2 0, 15642, .inl nf))]) [0, 1] (by decide) rfl
  have hFc := va_free (wc := [(mo, .inr (12, .ref nw :: m1 :: m2 :: m3 :: mv)), (nw, .inl (G.2 0, 15642, .inl nf))]) hD hS hA [0, 1] rfl
  refine va_calli (va_runV (As := [.int x1]) (rest := []) ⟨hx, hb, hml, hown, hts⟩ (r_isCrossing l G _ mo x1 nw (m1 :: m2 :: m3 :: mv) nf (by first | assumption | decide)) (cwV 1 hts (gd_V mw_13_6 mw_13_7 mw_13_8 mw_1_5 mw_13_9) rfl rfl rfl ⟨rfl, yk_X12_isCrossing⟩ ⟨Nat.le_of_ble_eq_true rfl, Nat.le_of_ble_eq_true rfl⟩) (c0_preV (q0 := 0) (ci := 12) (q := (RX12, TX12, 32)) hPc hK hDc rfl rfl) rfl rfl hl.1 rfl (lv_room (Nat.le_of_ble_eq_true rfl)) dX12_street_2 ⟨Nat.le_of_ble_eq_true rfl, Nat.le_of_ble_eq_true rfl⟩) hS (fun q _ h => hFc q h) hFc (fun r_1 u t H1 locs ht1 hvm hw hB hz1 hk1 hS => ?_)
  try dsimp only at hw hB
  have hr1 := hw
  obtain rfl := hr1.symm
  obtain ⟨hP1, hD1⟩ := hB
  rw [ht1] at hP1
  obtain ⟨hP, hD⟩ := va_join (wr := []) (w1 := [(mo, .inr (12, .ref nw :: m1 :: m2 :: m3 :: mv)), (nw, .inl (G.2 0, 15642, .inl nf))]) hP hD [0, 1] [] rfl rfl (by decide) (by decide) hk1 hFc hP1 hD1
  generalize H1 = H at hP hS ⊢
  have hP : va_P G.1 vwCl ([(mo, .inr (12, .ref nw :: m1 :: m2 :: m3 :: mv)), (nw, .inl (G.2 0, 15642, .inl nf))]) H := hP
  have hD : va_D A ([(mo, .inr (12, .ref nw :: m1 :: m2 :: m3 :: mv)), (nw, .inl (G.2 0, 15642, .inl nf))]) := hD
  refine lv_if_eq (tgt := 32) hx hb dX12_street_5 (by decide) (fun c_2 => ?_) (fun c_2 => ?_)
  · refine lv_aload_n hx hb dX12_street_32 rfl (lv_at hl 0 rfl) ?_
    refine lv_bipush (v := (-2)) hx hb dX12_street_33 (by decide) ?_
    have hPc := hP.sub (ws' := [(mo, .inr (12, .ref nw :: m1 :: m2 :: m3 :: mv))]) [0] rfl
    have hDc := hD.sub (ws' := [(mo, .inr (12, .ref nw :: m1 :: m2 :: m3 :: mv))]) [0] (by decide) rfl
    have hFc := va_free (wc := [(mo, .inr (12, .ref nw :: m1 :: m2 :: m3 :: mv))]) hD hS hA [0] rfl
    refine va_calli (va_runV (As := [.int (-2)]) (rest := []) ⟨hx, hb, hml, hown, hts⟩ (r_refuses_m2 l G _ mo (.ref nw) m1 m2 m3 mv ) (cwV 1 hts (gd_V mw_11_14 mw_11_15 mw_11_16 mw_1_5 mw_11_17) rfl rfl rfl ⟨rfl, yk_X12_refuses⟩ ⟨Nat.le_of_ble_eq_true rfl, Nat.le_of_ble_eq_true rfl⟩) (c0_preV (q0 := 0) (ci := 12) (q := (RX12, TX12, 32)) hPc hK hDc rfl rfl) rfl rfl hl.1 rfl (lv_room (Nat.le_of_ble_eq_true rfl)) dX12_street_35 ⟨Nat.le_of_ble_eq_true rfl, Nat.le_of_ble_eq_true rfl⟩) hS (fun q _ h => hFc q h) hFc (fun r_3 u t H1 locs ht1 hvm hw hB hz1 hk1 hS => ?_)
    try dsimp only at hw hB
    have hr3 := hw
    obtain rfl := hr3.symm
    obtain ⟨hP1, hD1⟩ := hB
    rw [ht1] at hP1
    obtain ⟨hP, hD⟩ := va_join (wr := [(nw, .inl (G.2 0, 15642, .inl nf))]) (w1 := [(mo, .inr (12, .ref nw :: m1 :: m2 :: .int (-2) :: mv))]) hP hD [0] [1] rfl rfl (by decide) (by decide) hk1 hFc hP1 hD1
    generalize H1 = H at hP hS ⊢
    have hP : va_P G.1 vwCl ([(nw, .inl (G.2 0, 15642, .inl nf)), (mo, .inr (12, .ref nw :: m1 :: m2 :: .int (-2) :: mv))]) H := hP
    have hD : va_D A ([(nw, .inl (G.2 0, 15642, .inl nf)), (mo, .inr (12, .ref nw :: m1 :: m2 :: .int (-2) :: mv))]) := hD
    exact W.iret (v := (-2)) hx hb hr (fun t ht hW => ⟨⟨(-2), (), rfl, rfl, trivial⟩, hS.F ht⟩) hS.2.2 dX12_street_38
  · exact absurd c_2 (by decide)

set_option maxHeartbeats 4000000 in
set_option maxRecDepth 100000 in
theorem r_turned (l : Launch) (G : GG) (sz : Nat) (mo : Nat) (x1 : Int32) (x2 : Int32) (x3 : Int32) (nw : Nat) (m1 : Value) (m2 : Value) (m3 : Value) (mv : List Value) (nf : Nat → Int32) (hz : ∀ j, j < 16 → nf j = 0) : Met l yX12_turned (.code yX12_turned cX12_turned 5 (some .int) :: TT) ({ frames := 3, cells := 0, slots := 0, locals := 300 } : Room) (c0_P G [.ref mo, .int x1, .int x2, .int x3] sz ([(mo, .inr (12, .ref nw :: m1 :: m2 :: m3 :: mv)), (nw, .inl (G.2 0, 15642, .inl nf))])) (va_Qi (S := Unit) (fun (r : Int32) (u : Unit) => r = (-2)) (fun (u : Unit) (t : State) => True) (va_A ([(mo, .inr (12, .ref nw :: m1 :: m2 :: m3 :: mv)), (nw, .inl (G.2 0, 15642, .inl nf))]) sz)) 0 0 (va_A ([(mo, .inr (12, .ref nw :: m1 :: m2 :: m3 :: mv)), (nw, .inl (G.2 0, 15642, .inl nf))]) sz) := by
  refine Met.ofW (cc := cX12_turned) (maxL := 5) (ret := (some .int)) (by decide) rfl ?_
  intro p e s m args below meth c s₁ B hml hv
  obtain ⟨rfl, hsz, hP, hK, hD0⟩ := hv
  have hx := B.exec
  have hb := B.bytes
  have hr := B.returns
  have hts := atoms_spec (ws := .code yX12_turned cX12_turned 5 (some .int) :: TT) B.pre
  have ht := fun (w : Cond) (h : w ∈ TT) => hts w (List.mem_cons_of_mem _ h)
  have hown : s.vm.findClass RX12 = some m.cls := findClass_of_methodNamed B.named
  have hlocks := B.notSynchronized
  subst hsz
  have hD := hD0.self (sz := s.heap.size)
  generalize hAe : va_A ([(mo, .inr (12, .ref nw :: m1 :: m2 :: m3 :: mv)), (nw, .inl (G.2 0, 15642, .inl nf))]) s.heap.size = A at hD ⊢
  have hA : ∀ q : Nat, s.heap.size ≤ q → A q := fun q h => by rw [← hAe]; exact Or.inr h
  have hS : va_S A s.heap s.heap [] := va_S.rf
  have hP : va_P G.1 vwCl ([(mo, .inr (12, .ref nw :: m1 :: m2 :: m3 :: mv)), (nw, .inl (G.2 0, 15642, .inl nf))]) s.heap := hP
  have hl := lv_entry ([.ref mo, .int x1, .int x2, .int x3]) (n := 5) (Nat.le_of_ble_eq_true rfl)
  rw [lg_entry_eq]
  generalize (lg_sl ([.ref mo, .int x1, .int x2, .int x3]) ++ List.replicate (5 - (lg_sl ([.ref mo, .int x1, .int x2, .int x3])).length) Slot.unset).toArray = ls at hl ⊢
  have hl : lv_has ls 5 [(0, .ref mo), (1, .int x1), (2, .int x2), (3, .int x3)] := hl
  refine lv_aload_n hx hb dX12_turned_0 rfl (lv_at hl 0 rfl) ?_
  refine lv_iload_n hx hb dX12_turned_1 rfl (lv_at hl 1 rfl) ?_
  have hPc := hP.sub (ws' := [(mo, .inr (12, .ref nw :: m1 :: m2 :: m3 :: mv)), (nw, .inl (G.2 0, 15642, .inl nf))]) [0, 1] rfl
  have hDc := hD.sub (ws' := [(mo, .inr (12, .ref nw :: m1 :: m2 :: m3 :: mv)), (nw, .inl (G.2 0, 15642, .inl nf))]) [0, 1] (by decide) rfl
  have hFc := va_free (wc := [(mo, .inr (12, .ref nw :: m1 :: m2 :: m3 :: mv)), (nw, .inl (G.2 0, 15642, .inl nf))]) hD hS hA [0, 1] rfl
  refine va_calli (va_runV (As := [.int x1]) (rest := []) ⟨hx, hb, hml, hown, hts⟩ (r_isStreet l G _ mo x1 nw (m1 :: m2 :: m3 :: mv) nf (by first | assumption | decide)) (cwV 1 hts (gd_V mw_14_11 mw_14_12 mw_14_13 mw_1_5 mw_14_14) rfl rfl rfl ⟨rfl, yk_X12_isStreet⟩ ⟨Nat.le_of_ble_eq_true rfl, Nat.le_of_ble_eq_true rfl⟩) (c0_preV (q0 := 0) (ci := 12) (q := (RX12, TX12, 32)) hPc hK hDc rfl rfl) rfl rfl hl.1 rfl (lv_room (Nat.le_of_ble_eq_true rfl)) dX12_turned_2 ⟨Nat.le_of_ble_eq_true rfl, Nat.le_of_ble_eq_true rfl⟩) hS (fun q _ h => hFc q h) hFc (fun r_1 u t H1 locs ht1 hvm hw hB hz1 hk1 hS => ?_)
  try dsimp only at hw hB
  have hr1 := hw
  obtain rfl := hr1.symm
  obtain ⟨hP1, hD1⟩ := hB
  rw [ht1] at hP1
  obtain ⟨hP, hD⟩ := va_join (wr := []) (w1 := [(mo, .inr (12, .ref nw :: m1 :: m2 :: m3 :: mv)), (nw, .inl (G.2 0, 15642, .inl nf))]) hP hD [0, 1] [] rfl rfl (by decide) (by decide) hk1 hFc hP1 hD1
  generalize H1 = H at hP hS ⊢
  have hP : va_P G.1 vwCl ([(mo, .inr (12, .ref nw :: m1 :: m2 :: m3 :: mv)), (nw, .inl (G.2 0, 15642, .inl nf))]) H := hP
  have hD : va_D A ([(mo, .inr (12, .ref nw :: m1 :: m2 :: m3 :: mv)), (nw, .inl (G.2 0, 15642, .inl nf))]) := hD
  refine lv_if_ne (tgt := 15) hx hb dX12_turned_5 (by decide) (fun c_2 => ?_) (fun c_2 => ?_)
  · exact absurd c_2 (by decide)
  · refine lv_aload_n hx hb dX12_turned_8 rfl (lv_at hl 0 rfl) ?_
    refine lv_bipush (v := (-2)) hx hb dX12_turned_9 (by decide) ?_
    have hPc := hP.sub (ws' := [(mo, .inr (12, .ref nw :: m1 :: m2 :: m3 :: mv))]) [0] rfl
    have hDc := hD.sub (ws' := [(mo, .inr (12, .ref nw :: m1 :: m2 :: m3 :: mv))]) [0] (by decide) rfl
    have hFc := va_free (wc := [(mo, .inr (12, .ref nw :: m1 :: m2 :: m3 :: mv))]) hD hS hA [0] rfl
    refine va_calli (va_runV (As := [.int (-2)]) (rest := []) ⟨hx, hb, hml, hown, hts⟩ (r_refuses_m2 l G _ mo (.ref nw) m1 m2 m3 mv ) (cwV 1 hts (gd_V mw_11_14 mw_11_15 mw_11_16 mw_1_5 mw_11_17) rfl rfl rfl ⟨rfl, yk_X12_refuses⟩ ⟨Nat.le_of_ble_eq_true rfl, Nat.le_of_ble_eq_true rfl⟩) (c0_preV (q0 := 0) (ci := 12) (q := (RX12, TX12, 32)) hPc hK hDc rfl rfl) rfl rfl hl.1 rfl (lv_room (Nat.le_of_ble_eq_true rfl)) dX12_turned_11 ⟨Nat.le_of_ble_eq_true rfl, Nat.le_of_ble_eq_true rfl⟩) hS (fun q _ h => hFc q h) hFc (fun r_3 u t H1 locs ht1 hvm hw hB hz1 hk1 hS => ?_)
    try dsimp only at hw hB
    have hr3 := hw
    obtain rfl := hr3.symm
    obtain ⟨hP1, hD1⟩ := hB
    rw [ht1] at hP1
    obtain ⟨hP, hD⟩ := va_join (wr := [(nw, .inl (G.2 0, 15642, .inl nf))]) (w1 := [(mo, .inr (12, .ref nw :: m1 :: m2 :: .int (-2) :: mv))]) hP hD [0] [1] rfl rfl (by decide) (by decide) hk1 hFc hP1 hD1
    generalize H1 = H at hP hS ⊢
    have hP : va_P G.1 vwCl ([(nw, .inl (G.2 0, 15642, .inl nf)), (mo, .inr (12, .ref nw :: m1 :: m2 :: .int (-2) :: mv))]) H := hP
    have hD : va_D A ([(nw, .inl (G.2 0, 15642, .inl nf)), (mo, .inr (12, .ref nw :: m1 :: m2 :: .int (-2) :: mv))]) := hD
    exact W.iret (v := (-2)) hx hb hr (fun t ht hW => ⟨⟨(-2), (), rfl, rfl, trivial⟩, hS.F ht⟩) hS.2.2 dX12_turned_14

set_option maxHeartbeats 4000000 in
set_option maxRecDepth 100000 in
theorem r_oneWay (l : Launch) (G : GG) (sz : Nat) (mo : Nat) (x1 : Int32) (x2 : Int32) (nw : Nat) (m1 : Value) (m2 : Value) (m3 : Value) (mv : List Value) (nf : Nat → Int32) (hz : ∀ j, j < 16 → nf j = 0) : Met l yX12_oneWay (.code yX12_oneWay cX12_oneWay 3 (some .int) :: TT) ({ frames := 4, cells := 0, slots := 0, locals := 400 } : Room) (c0_P G [.ref mo, .int x1, .int x2] sz ([(mo, .inr (12, .ref nw :: m1 :: m2 :: m3 :: mv)), (nw, .inl (G.2 0, 15642, .inl nf))])) (va_Qi (S := Unit) (fun (r : Int32) (u : Unit) => r = (-2)) (fun (u : Unit) (t : State) => True) (va_A ([(mo, .inr (12, .ref nw :: m1 :: m2 :: m3 :: mv)), (nw, .inl (G.2 0, 15642, .inl nf))]) sz)) 0 0 (va_A ([(mo, .inr (12, .ref nw :: m1 :: m2 :: m3 :: mv)), (nw, .inl (G.2 0, 15642, .inl nf))]) sz) := by
  refine Met.ofW (cc := cX12_oneWay) (maxL := 3) (ret := (some .int)) (by decide) rfl ?_
  intro p e s m args below meth c s₁ B hml hv
  obtain ⟨rfl, hsz, hP, hK, hD0⟩ := hv
  have hx := B.exec
  have hb := B.bytes
  have hr := B.returns
  have hts := atoms_spec (ws := .code yX12_oneWay cX12_oneWay 3 (some .int) :: TT) B.pre
  have ht := fun (w : Cond) (h : w ∈ TT) => hts w (List.mem_cons_of_mem _ h)
  have hown : s.vm.findClass RX12 = some m.cls := findClass_of_methodNamed B.named
  have hlocks := B.notSynchronized
  subst hsz
  have hD := hD0.self (sz := s.heap.size)
  generalize hAe : va_A ([(mo, .inr (12, .ref nw :: m1 :: m2 :: m3 :: mv)), (nw, .inl (G.2 0, 15642, .inl nf))]) s.heap.size = A at hD ⊢
  have hA : ∀ q : Nat, s.heap.size ≤ q → A q := fun q h => by rw [← hAe]; exact Or.inr h
  have hS : va_S A s.heap s.heap [] := va_S.rf
  have hP : va_P G.1 vwCl ([(mo, .inr (12, .ref nw :: m1 :: m2 :: m3 :: mv)), (nw, .inl (G.2 0, 15642, .inl nf))]) s.heap := hP
  have hl := lv_entry ([.ref mo, .int x1, .int x2]) (n := 3) (Nat.le_of_ble_eq_true rfl)
  rw [lg_entry_eq]
  generalize (lg_sl ([.ref mo, .int x1, .int x2]) ++ List.replicate (3 - (lg_sl ([.ref mo, .int x1, .int x2])).length) Slot.unset).toArray = ls at hl ⊢
  have hl : lv_has ls 3 [(0, .ref mo), (1, .int x1), (2, .int x2)] := hl
  refine lv_aload_n hx hb dX12_oneWay_0 rfl (lv_at hl 0 rfl) ?_
  refine lv_iload_n hx hb dX12_oneWay_1 rfl (lv_at hl 1 rfl) ?_
  refine lv_iconst (v := 5) hx hb dX12_oneWay_2 (by decide) ?_
  refine lv_iload_n hx hb dX12_oneWay_3 rfl (lv_at hl 2 rfl) ?_
  have hPc := hP.sub (ws' := [(mo, .inr (12, .ref nw :: m1 :: m2 :: m3 :: mv)), (nw, .inl (G.2 0, 15642, .inl nf))]) [0, 1] rfl
  have hDc := hD.sub (ws' := [(mo, .inr (12, .ref nw :: m1 :: m2 :: m3 :: mv)), (nw, .inl (G.2 0, 15642, .inl nf))]) [0, 1] (by decide) rfl
  have hFc := va_free (wc := [(mo, .inr (12, .ref nw :: m1 :: m2 :: m3 :: mv)), (nw, .inl (G.2 0, 15642, .inl nf))]) hD hS hA [0, 1] rfl
  refine va_calli (va_runV (As := [.int x1, .int 5, .int x2]) (rest := []) ⟨hx, hb, hml, hown, hts⟩ (r_turned l G _ mo x1 5 x2 nw m1 m2 m3 mv nf (by first | assumption | decide)) (cwV 3 hts (gd_V mw_14_7 mw_14_8 mw_14_9 mw_1_5 mw_14_10) rfl rfl rfl ⟨rfl, yk_X12_turned⟩ ⟨Nat.le_of_ble_eq_true rfl, Nat.le_of_ble_eq_true rfl⟩) (c0_preV (q0 := 0) (ci := 12) (q := (RX12, TX12, 32)) hPc hK hDc rfl rfl) rfl rfl hl.1 rfl (lv_room (Nat.le_of_ble_eq_true rfl)) dX12_oneWay_4 ⟨Nat.le_of_ble_eq_true rfl, Nat.le_of_ble_eq_true rfl⟩) hS (fun q _ h => hFc q h) hFc (fun r_1 u t H1 locs ht1 hvm hw hB hz1 hk1 hS => ?_)
  try dsimp only at hw hB
  have hr1 := hw
  obtain rfl := hr1.symm
  have hP1 := va_P_nil (D := G.1) (cl := vwCl) (H := H1)
  obtain ⟨hP, hD⟩ := va_join (wr := []) (w1 := []) hP hD [0, 1] [] rfl rfl (by decide) (by decide) hk1 hFc hP1 va_D_nil
  generalize H1 = H at hP hS ⊢
  have hP : va_P G.1 vwCl ([]) H := hP
  have hD : va_D A ([]) := hD
  exact W.iret (v := (-2)) hx hb hr (fun t ht hW => ⟨⟨(-2), (), rfl, rfl, trivial⟩, hS.F ht⟩) hS.2.2 dX12_oneWay_7

set_option maxHeartbeats 4000000 in
set_option maxRecDepth 100000 in
theorem r_shut (l : Launch) (G : GG) (sz : Nat) (mo : Nat) (x1 : Int32) (x2 : Int32) (nw : Nat) (m1 : Value) (m2 : Value) (m3 : Value) (mv : List Value) (nf : Nat → Int32) (hz : ∀ j, j < 16 → nf j = 0) : Met l yX12_shut (.code yX12_shut cX12_shut 3 (some .int) :: TT) ({ frames := 4, cells := 0, slots := 0, locals := 400 } : Room) (c0_P G [.ref mo, .int x1, .int x2] sz ([(mo, .inr (12, .ref nw :: m1 :: m2 :: m3 :: mv)), (nw, .inl (G.2 0, 15642, .inl nf))])) (va_Qi (S := Unit) (fun (r : Int32) (u : Unit) => r = (-2)) (fun (u : Unit) (t : State) => True) (va_A ([(mo, .inr (12, .ref nw :: m1 :: m2 :: m3 :: mv)), (nw, .inl (G.2 0, 15642, .inl nf))]) sz)) 0 0 (va_A ([(mo, .inr (12, .ref nw :: m1 :: m2 :: m3 :: mv)), (nw, .inl (G.2 0, 15642, .inl nf))]) sz) := by
  refine Met.ofW (cc := cX12_shut) (maxL := 3) (ret := (some .int)) (by decide) rfl ?_
  intro p e s m args below meth c s₁ B hml hv
  obtain ⟨rfl, hsz, hP, hK, hD0⟩ := hv
  have hx := B.exec
  have hb := B.bytes
  have hr := B.returns
  have hts := atoms_spec (ws := .code yX12_shut cX12_shut 3 (some .int) :: TT) B.pre
  have ht := fun (w : Cond) (h : w ∈ TT) => hts w (List.mem_cons_of_mem _ h)
  have hown : s.vm.findClass RX12 = some m.cls := findClass_of_methodNamed B.named
  have hlocks := B.notSynchronized
  subst hsz
  have hD := hD0.self (sz := s.heap.size)
  generalize hAe : va_A ([(mo, .inr (12, .ref nw :: m1 :: m2 :: m3 :: mv)), (nw, .inl (G.2 0, 15642, .inl nf))]) s.heap.size = A at hD ⊢
  have hA : ∀ q : Nat, s.heap.size ≤ q → A q := fun q h => by rw [← hAe]; exact Or.inr h
  have hS : va_S A s.heap s.heap [] := va_S.rf
  have hP : va_P G.1 vwCl ([(mo, .inr (12, .ref nw :: m1 :: m2 :: m3 :: mv)), (nw, .inl (G.2 0, 15642, .inl nf))]) s.heap := hP
  have hl := lv_entry ([.ref mo, .int x1, .int x2]) (n := 3) (Nat.le_of_ble_eq_true rfl)
  rw [lg_entry_eq]
  generalize (lg_sl ([.ref mo, .int x1, .int x2]) ++ List.replicate (3 - (lg_sl ([.ref mo, .int x1, .int x2])).length) Slot.unset).toArray = ls at hl ⊢
  have hl : lv_has ls 3 [(0, .ref mo), (1, .int x1), (2, .int x2)] := hl
  refine lv_aload_n hx hb dX12_shut_0 rfl (lv_at hl 0 rfl) ?_
  refine lv_iload_n hx hb dX12_shut_1 rfl (lv_at hl 1 rfl) ?_
  refine lv_iconst (v := 4) hx hb dX12_shut_2 (by decide) ?_
  refine lv_iload_n hx hb dX12_shut_3 rfl (lv_at hl 2 rfl) ?_
  have hPc := hP.sub (ws' := [(mo, .inr (12, .ref nw :: m1 :: m2 :: m3 :: mv)), (nw, .inl (G.2 0, 15642, .inl nf))]) [0, 1] rfl
  have hDc := hD.sub (ws' := [(mo, .inr (12, .ref nw :: m1 :: m2 :: m3 :: mv)), (nw, .inl (G.2 0, 15642, .inl nf))]) [0, 1] (by decide) rfl
  have hFc := va_free (wc := [(mo, .inr (12, .ref nw :: m1 :: m2 :: m3 :: mv)), (nw, .inl (G.2 0, 15642, .inl nf))]) hD hS hA [0, 1] rfl
  refine va_calli (va_runV (As := [.int x1, .int 4, .int x2]) (rest := []) ⟨hx, hb, hml, hown, hts⟩ (r_turned l G _ mo x1 4 x2 nw m1 m2 m3 mv nf (by first | assumption | decide)) (cwV 3 hts (gd_V mw_14_7 mw_14_8 mw_14_9 mw_1_5 mw_14_10) rfl rfl rfl ⟨rfl, yk_X12_turned⟩ ⟨Nat.le_of_ble_eq_true rfl, Nat.le_of_ble_eq_true rfl⟩) (c0_preV (q0 := 0) (ci := 12) (q := (RX12, TX12, 32)) hPc hK hDc rfl rfl) rfl rfl hl.1 rfl (lv_room (Nat.le_of_ble_eq_true rfl)) dX12_shut_4 ⟨Nat.le_of_ble_eq_true rfl, Nat.le_of_ble_eq_true rfl⟩) hS (fun q _ h => hFc q h) hFc (fun r_1 u t H1 locs ht1 hvm hw hB hz1 hk1 hS => ?_)
  try dsimp only at hw hB
  have hr1 := hw
  obtain rfl := hr1.symm
  have hP1 := va_P_nil (D := G.1) (cl := vwCl) (H := H1)
  obtain ⟨hP, hD⟩ := va_join (wr := []) (w1 := []) hP hD [0, 1] [] rfl rfl (by decide) (by decide) hk1 hFc hP1 va_D_nil
  generalize H1 = H at hP hS ⊢
  have hP : va_P G.1 vwCl ([]) H := hP
  have hD : va_D A ([]) := hD
  exact W.iret (v := (-2)) hx hb hr (fun t ht hW => ⟨⟨(-2), (), rfl, rfl, trivial⟩, hS.F ht⟩) hS.2.2 dX12_shut_7

set_option maxHeartbeats 4000000 in
set_option maxRecDepth 100000 in
theorem r_sides (l : Launch) (G : GG) (sz : Nat) (mo : Nat) (x1 : Int32) (x2 : Int32) (nw : Nat) (m1 : Value) (m2 : Value) (m3 : Value) (mv : List Value) (nf : Nat → Int32) (hz : ∀ j, j < 16 → nf j = 0) : Met l yX12_sides (.code yX12_sides cX12_sides 4 (some .int) :: TT) ({ frames := 3, cells := 0, slots := 0, locals := 300 } : Room) (c0_P G [.ref mo, .int x1, .int x2] sz ([(mo, .inr (12, .ref nw :: m1 :: m2 :: m3 :: mv)), (nw, .inl (G.2 0, 15642, .inl nf))])) (va_Qi (S := Unit) (fun (r : Int32) (u : Unit) => r = (-2)) (fun (u : Unit) (t : State) => True) (va_A ([(mo, .inr (12, .ref nw :: m1 :: m2 :: m3 :: mv)), (nw, .inl (G.2 0, 15642, .inl nf))]) sz)) 0 0 (va_A ([(mo, .inr (12, .ref nw :: m1 :: m2 :: m3 :: mv)), (nw, .inl (G.2 0, 15642, .inl nf))]) sz) := by
  refine Met.ofW (cc := cX12_sides) (maxL := 4) (ret := (some .int)) (by decide) rfl ?_
  intro p e s m args below meth c s₁ B hml hv
  obtain ⟨rfl, hsz, hP, hK, hD0⟩ := hv
  have hx := B.exec
  have hb := B.bytes
  have hr := B.returns
  have hts := atoms_spec (ws := .code yX12_sides cX12_sides 4 (some .int) :: TT) B.pre
  have ht := fun (w : Cond) (h : w ∈ TT) => hts w (List.mem_cons_of_mem _ h)
  have hown : s.vm.findClass RX12 = some m.cls := findClass_of_methodNamed B.named
  have hlocks := B.notSynchronized
  subst hsz
  have hD := hD0.self (sz := s.heap.size)
  generalize hAe : va_A ([(mo, .inr (12, .ref nw :: m1 :: m2 :: m3 :: mv)), (nw, .inl (G.2 0, 15642, .inl nf))]) s.heap.size = A at hD ⊢
  have hA : ∀ q : Nat, s.heap.size ≤ q → A q := fun q h => by rw [← hAe]; exact Or.inr h
  have hS : va_S A s.heap s.heap [] := va_S.rf
  have hP : va_P G.1 vwCl ([(mo, .inr (12, .ref nw :: m1 :: m2 :: m3 :: mv)), (nw, .inl (G.2 0, 15642, .inl nf))]) s.heap := hP
  have hl := lv_entry ([.ref mo, .int x1, .int x2]) (n := 4) (Nat.le_of_ble_eq_true rfl)
  rw [lg_entry_eq]
  generalize (lg_sl ([.ref mo, .int x1, .int x2]) ++ List.replicate (4 - (lg_sl ([.ref mo, .int x1, .int x2])).length) Slot.unset).toArray = ls at hl ⊢
  have hl : lv_has ls 4 [(0, .ref mo), (1, .int x1), (2, .int x2)] := hl
  refine lv_aload_n hx hb dX12_sides_0 rfl (lv_at hl 0 rfl) ?_
  refine lv_iload_n hx hb dX12_sides_1 rfl (lv_at hl 1 rfl) ?_
  have hPc := hP.sub (ws' := [(mo, .inr (12, .ref nw :: m1 :: m2 :: m3 :: mv)), (nw, .inl (G.2 0, 15642, .inl nf))]) [0, 1] rfl
  have hDc := hD.sub (ws' := [(mo, .inr (12, .ref nw :: m1 :: m2 :: m3 :: mv)), (nw, .inl (G.2 0, 15642, .inl nf))]) [0, 1] (by decide) rfl
  have hFc := va_free (wc := [(mo, .inr (12, .ref nw :: m1 :: m2 :: m3 :: mv)), (nw, .inl (G.2 0, 15642, .inl nf))]) hD hS hA [0, 1] rfl
  refine va_calli (va_runV (As := [.int x1]) (rest := []) ⟨hx, hb, hml, hown, hts⟩ (r_isStreet l G _ mo x1 nw (m1 :: m2 :: m3 :: mv) nf (by first | assumption | decide)) (cwV 1 hts (gd_V mw_14_11 mw_14_12 mw_14_13 mw_1_5 mw_14_14) rfl rfl rfl ⟨rfl, yk_X12_isStreet⟩ ⟨Nat.le_of_ble_eq_true rfl, Nat.le_of_ble_eq_true rfl⟩) (c0_preV (q0 := 0) (ci := 12) (q := (RX12, TX12, 32)) hPc hK hDc rfl rfl) rfl rfl hl.1 rfl (lv_room (Nat.le_of_ble_eq_true rfl)) dX12_sides_2 ⟨Nat.le_of_ble_eq_true rfl, Nat.le_of_ble_eq_true rfl⟩) hS (fun q _ h => hFc q h) hFc (fun r_1 u t H1 locs ht1 hvm hw hB hz1 hk1 hS => ?_)
  try dsimp only at hw hB
  have hr1 := hw
  obtain rfl := hr1.symm
  obtain ⟨hP1, hD1⟩ := hB
  rw [ht1] at hP1
  obtain ⟨hP, hD⟩ := va_join (wr := []) (w1 := [(mo, .inr (12, .ref nw :: m1 :: m2 :: m3 :: mv)), (nw, .inl (G.2 0, 15642, .inl nf))]) hP hD [0, 1] [] rfl rfl (by decide) (by decide) hk1 hFc hP1 hD1
  generalize H1 = H at hP hS ⊢
  have hP : va_P G.1 vwCl ([(mo, .inr (12, .ref nw :: m1 :: m2 :: m3 :: mv)), (nw, .inl (G.2 0, 15642, .inl nf))]) H := hP
  have hD : va_D A ([(mo, .inr (12, .ref nw :: m1 :: m2 :: m3 :: mv)), (nw, .inl (G.2 0, 15642, .inl nf))]) := hD
  refine lv_if_eq (tgt := 17) hx hb dX12_sides_5 (by decide) (fun c_2 => ?_) (fun c_2 => ?_)
  · refine lv_aload_n hx hb dX12_sides_17 rfl (lv_at hl 0 rfl) ?_
    refine lv_bipush (v := (-2)) hx hb dX12_sides_18 (by decide) ?_
    have hPc := hP.sub (ws' := [(mo, .inr (12, .ref nw :: m1 :: m2 :: m3 :: mv))]) [0] rfl
    have hDc := hD.sub (ws' := [(mo, .inr (12, .ref nw :: m1 :: m2 :: m3 :: mv))]) [0] (by decide) rfl
    have hFc := va_free (wc := [(mo, .inr (12, .ref nw :: m1 :: m2 :: m3 :: mv))]) hD hS hA [0] rfl
    refine va_calli (va_runV (As := [.int (-2)]) (rest := []) ⟨hx, hb, hml, hown, hts⟩ (r_refuses_m2 l G _ mo (.ref nw) m1 m2 m3 mv ) (cwV 1 hts (gd_V mw_11_14 mw_11_15 mw_11_16 mw_1_5 mw_11_17) rfl rfl rfl ⟨rfl, yk_X12_refuses⟩ ⟨Nat.le_of_ble_eq_true rfl, Nat.le_of_ble_eq_true rfl⟩) (c0_preV (q0 := 0) (ci := 12) (q := (RX12, TX12, 32)) hPc hK hDc rfl rfl) rfl rfl hl.1 rfl (lv_room (Nat.le_of_ble_eq_true rfl)) dX12_sides_20 ⟨Nat.le_of_ble_eq_true rfl, Nat.le_of_ble_eq_true rfl⟩) hS (fun q _ h => hFc q h) hFc (fun r_3 u t H1 locs ht1 hvm hw hB hz1 hk1 hS => ?_)
    try dsimp only at hw hB
    have hr3 := hw
    obtain rfl := hr3.symm
    obtain ⟨hP1, hD1⟩ := hB
    rw [ht1] at hP1
    obtain ⟨hP, hD⟩ := va_join (wr := [(nw, .inl (G.2 0, 15642, .inl nf))]) (w1 := [(mo, .inr (12, .ref nw :: m1 :: m2 :: .int (-2) :: mv))]) hP hD [0] [1] rfl rfl (by decide) (by decide) hk1 hFc hP1 hD1
    generalize H1 = H at hP hS ⊢
    have hP : va_P G.1 vwCl ([(nw, .inl (G.2 0, 15642, .inl nf)), (mo, .inr (12, .ref nw :: m1 :: m2 :: .int (-2) :: mv))]) H := hP
    have hD : va_D A ([(nw, .inl (G.2 0, 15642, .inl nf)), (mo, .inr (12, .ref nw :: m1 :: m2 :: .int (-2) :: mv))]) := hD
    exact W.iret (v := (-2)) hx hb hr (fun t ht hW => ⟨⟨(-2), (), rfl, rfl, trivial⟩, hS.F ht⟩) hS.2.2 dX12_sides_23
  · exact absurd c_2 (by decide)

set_option maxHeartbeats 4000000 in
set_option maxRecDepth 100000 in
theorem r_told (l : Launch) (G : GG) (sz : Nat) (mo : Nat) (x1 : Int32) (x2 : Int32) (nw : Nat) (m1 : Value) (m2 : Value) (m3 : Value) (mv : List Value) (nf : Nat → Int32) (hz : ∀ j, j < 16 → nf j = 0) : Met l yX12_told (.code yX12_told cX12_told 3 (some .int) :: TT) ({ frames := 3, cells := 0, slots := 0, locals := 300 } : Room) (c0_P G [.ref mo, .int x1, .int x2] sz ([(mo, .inr (12, .ref nw :: m1 :: m2 :: m3 :: mv)), (nw, .inl (G.2 0, 15642, .inl nf))])) (va_Qi (S := Unit) (fun (r : Int32) (u : Unit) => r = (-2)) (fun (u : Unit) (t : State) => True) (va_A ([(mo, .inr (12, .ref nw :: m1 :: m2 :: m3 :: mv)), (nw, .inl (G.2 0, 15642, .inl nf))]) sz)) 0 0 (va_A ([(mo, .inr (12, .ref nw :: m1 :: m2 :: m3 :: mv)), (nw, .inl (G.2 0, 15642, .inl nf))]) sz) := by
  refine Met.ofW (cc := cX12_told) (maxL := 3) (ret := (some .int)) (by decide) rfl ?_
  intro p e s m args below meth c s₁ B hml hv
  obtain ⟨rfl, hsz, hP, hK, hD0⟩ := hv
  have hx := B.exec
  have hb := B.bytes
  have hr := B.returns
  have hts := atoms_spec (ws := .code yX12_told cX12_told 3 (some .int) :: TT) B.pre
  have ht := fun (w : Cond) (h : w ∈ TT) => hts w (List.mem_cons_of_mem _ h)
  have hown : s.vm.findClass RX12 = some m.cls := findClass_of_methodNamed B.named
  have hlocks := B.notSynchronized
  subst hsz
  have hD := hD0.self (sz := s.heap.size)
  generalize hAe : va_A ([(mo, .inr (12, .ref nw :: m1 :: m2 :: m3 :: mv)), (nw, .inl (G.2 0, 15642, .inl nf))]) s.heap.size = A at hD ⊢
  have hA : ∀ q : Nat, s.heap.size ≤ q → A q := fun q h => by rw [← hAe]; exact Or.inr h
  have hS : va_S A s.heap s.heap [] := va_S.rf
  have hP : va_P G.1 vwCl ([(mo, .inr (12, .ref nw :: m1 :: m2 :: m3 :: mv)), (nw, .inl (G.2 0, 15642, .inl nf))]) s.heap := hP
  have hl := lv_entry ([.ref mo, .int x1, .int x2]) (n := 3) (Nat.le_of_ble_eq_true rfl)
  rw [lg_entry_eq]
  generalize (lg_sl ([.ref mo, .int x1, .int x2]) ++ List.replicate (3 - (lg_sl ([.ref mo, .int x1, .int x2])).length) Slot.unset).toArray = ls at hl ⊢
  have hl : lv_has ls 3 [(0, .ref mo), (1, .int x1), (2, .int x2)] := hl
  refine lv_aload_n hx hb dX12_told_0 rfl (lv_at hl 0 rfl) ?_
  refine lv_iload_n hx hb dX12_told_1 rfl (lv_at hl 1 rfl) ?_
  have hPc := hP.sub (ws' := [(mo, .inr (12, .ref nw :: m1 :: m2 :: m3 :: mv)), (nw, .inl (G.2 0, 15642, .inl nf))]) [0, 1] rfl
  have hDc := hD.sub (ws' := [(mo, .inr (12, .ref nw :: m1 :: m2 :: m3 :: mv)), (nw, .inl (G.2 0, 15642, .inl nf))]) [0, 1] (by decide) rfl
  have hFc := va_free (wc := [(mo, .inr (12, .ref nw :: m1 :: m2 :: m3 :: mv)), (nw, .inl (G.2 0, 15642, .inl nf))]) hD hS hA [0, 1] rfl
  refine va_calli (va_runV (As := [.int x1]) (rest := []) ⟨hx, hb, hml, hown, hts⟩ (r_isStreet l G _ mo x1 nw (m1 :: m2 :: m3 :: mv) nf (by first | assumption | decide)) (cwV 1 hts (gd_V mw_14_11 mw_14_12 mw_14_13 mw_1_5 mw_14_14) rfl rfl rfl ⟨rfl, yk_X12_isStreet⟩ ⟨Nat.le_of_ble_eq_true rfl, Nat.le_of_ble_eq_true rfl⟩) (c0_preV (q0 := 0) (ci := 12) (q := (RX12, TX12, 32)) hPc hK hDc rfl rfl) rfl rfl hl.1 rfl (lv_room (Nat.le_of_ble_eq_true rfl)) dX12_told_2 ⟨Nat.le_of_ble_eq_true rfl, Nat.le_of_ble_eq_true rfl⟩) hS (fun q _ h => hFc q h) hFc (fun r_1 u t H1 locs ht1 hvm hw hB hz1 hk1 hS => ?_)
  try dsimp only at hw hB
  have hr1 := hw
  obtain rfl := hr1.symm
  obtain ⟨hP1, hD1⟩ := hB
  rw [ht1] at hP1
  obtain ⟨hP, hD⟩ := va_join (wr := []) (w1 := [(mo, .inr (12, .ref nw :: m1 :: m2 :: m3 :: mv)), (nw, .inl (G.2 0, 15642, .inl nf))]) hP hD [0, 1] [] rfl rfl (by decide) (by decide) hk1 hFc hP1 hD1
  generalize H1 = H at hP hS ⊢
  have hP : va_P G.1 vwCl ([(mo, .inr (12, .ref nw :: m1 :: m2 :: m3 :: mv)), (nw, .inl (G.2 0, 15642, .inl nf))]) H := hP
  have hD : va_D A ([(mo, .inr (12, .ref nw :: m1 :: m2 :: m3 :: mv)), (nw, .inl (G.2 0, 15642, .inl nf))]) := hD
  refine lv_if_eq (tgt := 18) hx hb dX12_told_5 (by decide) (fun c_2 => ?_) (fun c_2 => ?_)
  · refine lv_aload_n hx hb dX12_told_18 rfl (lv_at hl 0 rfl) ?_
    refine lv_bipush (v := (-2)) hx hb dX12_told_19 (by decide) ?_
    have hPc := hP.sub (ws' := [(mo, .inr (12, .ref nw :: m1 :: m2 :: m3 :: mv))]) [0] rfl
    have hDc := hD.sub (ws' := [(mo, .inr (12, .ref nw :: m1 :: m2 :: m3 :: mv))]) [0] (by decide) rfl
    have hFc := va_free (wc := [(mo, .inr (12, .ref nw :: m1 :: m2 :: m3 :: mv))]) hD hS hA [0] rfl
    refine va_calli (va_runV (As := [.int (-2)]) (rest := []) ⟨hx, hb, hml, hown, hts⟩ (r_refuses_m2 l G _ mo (.ref nw) m1 m2 m3 mv ) (cwV 1 hts (gd_V mw_11_14 mw_11_15 mw_11_16 mw_1_5 mw_11_17) rfl rfl rfl ⟨rfl, yk_X12_refuses⟩ ⟨Nat.le_of_ble_eq_true rfl, Nat.le_of_ble_eq_true rfl⟩) (c0_preV (q0 := 0) (ci := 12) (q := (RX12, TX12, 32)) hPc hK hDc rfl rfl) rfl rfl hl.1 rfl (lv_room (Nat.le_of_ble_eq_true rfl)) dX12_told_21 ⟨Nat.le_of_ble_eq_true rfl, Nat.le_of_ble_eq_true rfl⟩) hS (fun q _ h => hFc q h) hFc (fun r_3 u t H1 locs ht1 hvm hw hB hz1 hk1 hS => ?_)
    try dsimp only at hw hB
    have hr3 := hw
    obtain rfl := hr3.symm
    obtain ⟨hP1, hD1⟩ := hB
    rw [ht1] at hP1
    obtain ⟨hP, hD⟩ := va_join (wr := [(nw, .inl (G.2 0, 15642, .inl nf))]) (w1 := [(mo, .inr (12, .ref nw :: m1 :: m2 :: .int (-2) :: mv))]) hP hD [0] [1] rfl rfl (by decide) (by decide) hk1 hFc hP1 hD1
    generalize H1 = H at hP hS ⊢
    have hP : va_P G.1 vwCl ([(nw, .inl (G.2 0, 15642, .inl nf)), (mo, .inr (12, .ref nw :: m1 :: m2 :: .int (-2) :: mv))]) H := hP
    have hD : va_D A ([(nw, .inl (G.2 0, 15642, .inl nf)), (mo, .inr (12, .ref nw :: m1 :: m2 :: .int (-2) :: mv))]) := hD
    refine lv_goto (tgt := 43) hx hb dX12_told_24 (by decide) ?_
    exact W.iret (v := (-2)) hx hb hr (fun t ht hW => ⟨⟨(-2), (), rfl, rfl, trivial⟩, hS.F ht⟩) hS.2.2 dX12_told_43
  · exact absurd c_2 (by decide)

set_option maxHeartbeats 4000000 in
set_option maxRecDepth 100000 in
theorem r_way (l : Launch) (G : GG) (sz : Nat) (mo : Nat) (x1 : Int32) (x2 : Int32) (nw : Nat) (m1 : Value) (m2 : Value) (m3 : Value) (mv : List Value) (nf : Nat → Int32) (hz : ∀ j, j < 16 → nf j = 0) : Met l yX12_way (.code yX12_way cX12_way 3 (some .int) :: TT) ({ frames := 3, cells := 0, slots := 0, locals := 300 } : Room) (c0_P G [.ref mo, .int x1, .int x2] sz ([(mo, .inr (12, .ref nw :: m1 :: m2 :: m3 :: mv)), (nw, .inl (G.2 0, 15642, .inl nf))])) (va_Qi (S := Unit) (fun (r : Int32) (u : Unit) => r = (-2)) (fun (u : Unit) (t : State) => True) (va_A ([(mo, .inr (12, .ref nw :: m1 :: m2 :: m3 :: mv)), (nw, .inl (G.2 0, 15642, .inl nf))]) sz)) 0 0 (va_A ([(mo, .inr (12, .ref nw :: m1 :: m2 :: m3 :: mv)), (nw, .inl (G.2 0, 15642, .inl nf))]) sz) := by
  refine Met.ofW (cc := cX12_way) (maxL := 3) (ret := (some .int)) (by decide) rfl ?_
  intro p e s m args below meth c s₁ B hml hv
  obtain ⟨rfl, hsz, hP, hK, hD0⟩ := hv
  have hx := B.exec
  have hb := B.bytes
  have hr := B.returns
  have hts := atoms_spec (ws := .code yX12_way cX12_way 3 (some .int) :: TT) B.pre
  have ht := fun (w : Cond) (h : w ∈ TT) => hts w (List.mem_cons_of_mem _ h)
  have hown : s.vm.findClass RX12 = some m.cls := findClass_of_methodNamed B.named
  have hlocks := B.notSynchronized
  subst hsz
  have hD := hD0.self (sz := s.heap.size)
  generalize hAe : va_A ([(mo, .inr (12, .ref nw :: m1 :: m2 :: m3 :: mv)), (nw, .inl (G.2 0, 15642, .inl nf))]) s.heap.size = A at hD ⊢
  have hA : ∀ q : Nat, s.heap.size ≤ q → A q := fun q h => by rw [← hAe]; exact Or.inr h
  have hS : va_S A s.heap s.heap [] := va_S.rf
  have hP : va_P G.1 vwCl ([(mo, .inr (12, .ref nw :: m1 :: m2 :: m3 :: mv)), (nw, .inl (G.2 0, 15642, .inl nf))]) s.heap := hP
  have hl := lv_entry ([.ref mo, .int x1, .int x2]) (n := 3) (Nat.le_of_ble_eq_true rfl)
  rw [lg_entry_eq]
  generalize (lg_sl ([.ref mo, .int x1, .int x2]) ++ List.replicate (3 - (lg_sl ([.ref mo, .int x1, .int x2])).length) Slot.unset).toArray = ls at hl ⊢
  have hl : lv_has ls 3 [(0, .ref mo), (1, .int x1), (2, .int x2)] := hl
  refine lv_aload_n hx hb dX12_way_0 rfl (lv_at hl 0 rfl) ?_
  refine lv_iload_n hx hb dX12_way_1 rfl (lv_at hl 1 rfl) ?_
  have hPc := hP.sub (ws' := [(mo, .inr (12, .ref nw :: m1 :: m2 :: m3 :: mv)), (nw, .inl (G.2 0, 15642, .inl nf))]) [0, 1] rfl
  have hDc := hD.sub (ws' := [(mo, .inr (12, .ref nw :: m1 :: m2 :: m3 :: mv)), (nw, .inl (G.2 0, 15642, .inl nf))]) [0, 1] (by decide) rfl
  have hFc := va_free (wc := [(mo, .inr (12, .ref nw :: m1 :: m2 :: m3 :: mv)), (nw, .inl (G.2 0, 15642, .inl nf))]) hD hS hA [0, 1] rfl
  refine va_calli (va_runV (As := [.int x1]) (rest := []) ⟨hx, hb, hml, hown, hts⟩ (r_isCrossing l G _ mo x1 nw (m1 :: m2 :: m3 :: mv) nf (by first | assumption | decide)) (cwV 1 hts (gd_V mw_13_6 mw_13_7 mw_13_8 mw_1_5 mw_13_9) rfl rfl rfl ⟨rfl, yk_X12_isCrossing⟩ ⟨Nat.le_of_ble_eq_true rfl, Nat.le_of_ble_eq_true rfl⟩) (c0_preV (q0 := 0) (ci := 12) (q := (RX12, TX12, 32)) hPc hK hDc rfl rfl) rfl rfl hl.1 rfl (lv_room (Nat.le_of_ble_eq_true rfl)) dX12_way_2 ⟨Nat.le_of_ble_eq_true rfl, Nat.le_of_ble_eq_true rfl⟩) hS (fun q _ h => hFc q h) hFc (fun r_1 u t H1 locs ht1 hvm hw hB hz1 hk1 hS => ?_)
  try dsimp only at hw hB
  have hr1 := hw
  obtain rfl := hr1.symm
  obtain ⟨hP1, hD1⟩ := hB
  rw [ht1] at hP1
  obtain ⟨hP, hD⟩ := va_join (wr := []) (w1 := [(mo, .inr (12, .ref nw :: m1 :: m2 :: m3 :: mv)), (nw, .inl (G.2 0, 15642, .inl nf))]) hP hD [0, 1] [] rfl rfl (by decide) (by decide) hk1 hFc hP1 hD1
  generalize H1 = H at hP hS ⊢
  have hP : va_P G.1 vwCl ([(mo, .inr (12, .ref nw :: m1 :: m2 :: m3 :: mv)), (nw, .inl (G.2 0, 15642, .inl nf))]) H := hP
  have hD : va_D A ([(mo, .inr (12, .ref nw :: m1 :: m2 :: m3 :: mv)), (nw, .inl (G.2 0, 15642, .inl nf))]) := hD
  refine lv_if_eq (tgt := 16) hx hb dX12_way_5 (by decide) (fun c_2 => ?_) (fun c_2 => ?_)
  · refine lv_aload_n hx hb dX12_way_16 rfl (lv_at hl 0 rfl) ?_
    refine lv_bipush (v := (-2)) hx hb dX12_way_17 (by decide) ?_
    have hPc := hP.sub (ws' := [(mo, .inr (12, .ref nw :: m1 :: m2 :: m3 :: mv))]) [0] rfl
    have hDc := hD.sub (ws' := [(mo, .inr (12, .ref nw :: m1 :: m2 :: m3 :: mv))]) [0] (by decide) rfl
    have hFc := va_free (wc := [(mo, .inr (12, .ref nw :: m1 :: m2 :: m3 :: mv))]) hD hS hA [0] rfl
    refine va_calli (va_runV (As := [.int (-2)]) (rest := []) ⟨hx, hb, hml, hown, hts⟩ (r_refuses_m2 l G _ mo (.ref nw) m1 m2 m3 mv ) (cwV 1 hts (gd_V mw_11_14 mw_11_15 mw_11_16 mw_1_5 mw_11_17) rfl rfl rfl ⟨rfl, yk_X12_refuses⟩ ⟨Nat.le_of_ble_eq_true rfl, Nat.le_of_ble_eq_true rfl⟩) (c0_preV (q0 := 0) (ci := 12) (q := (RX12, TX12, 32)) hPc hK hDc rfl rfl) rfl rfl hl.1 rfl (lv_room (Nat.le_of_ble_eq_true rfl)) dX12_way_19 ⟨Nat.le_of_ble_eq_true rfl, Nat.le_of_ble_eq_true rfl⟩) hS (fun q _ h => hFc q h) hFc (fun r_3 u t H1 locs ht1 hvm hw hB hz1 hk1 hS => ?_)
    try dsimp only at hw hB
    have hr3 := hw
    obtain rfl := hr3.symm
    obtain ⟨hP1, hD1⟩ := hB
    rw [ht1] at hP1
    obtain ⟨hP, hD⟩ := va_join (wr := [(nw, .inl (G.2 0, 15642, .inl nf))]) (w1 := [(mo, .inr (12, .ref nw :: m1 :: m2 :: .int (-2) :: mv))]) hP hD [0] [1] rfl rfl (by decide) (by decide) hk1 hFc hP1 hD1
    generalize H1 = H at hP hS ⊢
    have hP : va_P G.1 vwCl ([(nw, .inl (G.2 0, 15642, .inl nf)), (mo, .inr (12, .ref nw :: m1 :: m2 :: .int (-2) :: mv))]) H := hP
    have hD : va_D A ([(nw, .inl (G.2 0, 15642, .inl nf)), (mo, .inr (12, .ref nw :: m1 :: m2 :: .int (-2) :: mv))]) := hD
    exact W.iret (v := (-2)) hx hb hr (fun t ht hW => ⟨⟨(-2), (), rfl, rfl, trivial⟩, hS.F ht⟩) hS.2.2 dX12_way_22
  · exact absurd c_2 (by decide)

set_option maxHeartbeats 4000000 in
set_option maxRecDepth 100000 in
theorem r_wayAt (l : Launch) (G : GG) (sz : Nat) (mo : Nat) (x1 : Int32) (x2 : Int32) (x3 : Int32) (nw : Nat) (m1 : Value) (m2 : Value) (m3 : Value) (mv : List Value) (nf : Nat → Int32) (hz : ∀ j, j < 16 → nf j = 0) : Met l yX12_wayAt (.code yX12_wayAt cX12_wayAt 7 (some .int) :: TT) ({ frames := 3, cells := 0, slots := 0, locals := 300 } : Room) (c0_P G [.ref mo, .int x1, .int x2, .int x3] sz ([(mo, .inr (12, .ref nw :: m1 :: m2 :: m3 :: mv)), (nw, .inl (G.2 0, 15642, .inl nf))])) (va_Qi (S := Unit) (fun (r : Int32) (u : Unit) => r = (-2)) (fun (u : Unit) (t : State) => True) (va_A ([(mo, .inr (12, .ref nw :: m1 :: m2 :: m3 :: mv)), (nw, .inl (G.2 0, 15642, .inl nf))]) sz)) 0 0 (va_A ([(mo, .inr (12, .ref nw :: m1 :: m2 :: m3 :: mv)), (nw, .inl (G.2 0, 15642, .inl nf))]) sz) := by
  refine Met.ofW (cc := cX12_wayAt) (maxL := 7) (ret := (some .int)) (by decide) rfl ?_
  intro p e s m args below meth c s₁ B hml hv
  obtain ⟨rfl, hsz, hP, hK, hD0⟩ := hv
  have hx := B.exec
  have hb := B.bytes
  have hr := B.returns
  have hts := atoms_spec (ws := .code yX12_wayAt cX12_wayAt 7 (some .int) :: TT) B.pre
  have ht := fun (w : Cond) (h : w ∈ TT) => hts w (List.mem_cons_of_mem _ h)
  have hown : s.vm.findClass RX12 = some m.cls := findClass_of_methodNamed B.named
  have hlocks := B.notSynchronized
  subst hsz
  have hD := hD0.self (sz := s.heap.size)
  generalize hAe : va_A ([(mo, .inr (12, .ref nw :: m1 :: m2 :: m3 :: mv)), (nw, .inl (G.2 0, 15642, .inl nf))]) s.heap.size = A at hD ⊢
  have hA : ∀ q : Nat, s.heap.size ≤ q → A q := fun q h => by rw [← hAe]; exact Or.inr h
  have hS : va_S A s.heap s.heap [] := va_S.rf
  have hP : va_P G.1 vwCl ([(mo, .inr (12, .ref nw :: m1 :: m2 :: m3 :: mv)), (nw, .inl (G.2 0, 15642, .inl nf))]) s.heap := hP
  have hl := lv_entry ([.ref mo, .int x1, .int x2, .int x3]) (n := 7) (Nat.le_of_ble_eq_true rfl)
  rw [lg_entry_eq]
  generalize (lg_sl ([.ref mo, .int x1, .int x2, .int x3]) ++ List.replicate (7 - (lg_sl ([.ref mo, .int x1, .int x2, .int x3])).length) Slot.unset).toArray = ls at hl ⊢
  have hl : lv_has ls 7 [(0, .ref mo), (1, .int x1), (2, .int x2), (3, .int x3)] := hl
  refine lv_aload_n hx hb dX12_wayAt_0 rfl (lv_at hl 0 rfl) ?_
  refine lv_iload_n hx hb dX12_wayAt_1 rfl (lv_at hl 1 rfl) ?_
  have hPc := hP.sub (ws' := [(mo, .inr (12, .ref nw :: m1 :: m2 :: m3 :: mv)), (nw, .inl (G.2 0, 15642, .inl nf))]) [0, 1] rfl
  have hDc := hD.sub (ws' := [(mo, .inr (12, .ref nw :: m1 :: m2 :: m3 :: mv)), (nw, .inl (G.2 0, 15642, .inl nf))]) [0, 1] (by decide) rfl
  have hFc := va_free (wc := [(mo, .inr (12, .ref nw :: m1 :: m2 :: m3 :: mv)), (nw, .inl (G.2 0, 15642, .inl nf))]) hD hS hA [0, 1] rfl
  refine va_calli (va_runV (As := [.int x1]) (rest := []) ⟨hx, hb, hml, hown, hts⟩ (r_isCrossing l G _ mo x1 nw (m1 :: m2 :: m3 :: mv) nf (by first | assumption | decide)) (cwV 1 hts (gd_V mw_13_6 mw_13_7 mw_13_8 mw_1_5 mw_13_9) rfl rfl rfl ⟨rfl, yk_X12_isCrossing⟩ ⟨Nat.le_of_ble_eq_true rfl, Nat.le_of_ble_eq_true rfl⟩) (c0_preV (q0 := 0) (ci := 12) (q := (RX12, TX12, 32)) hPc hK hDc rfl rfl) rfl rfl hl.1 rfl (lv_room (Nat.le_of_ble_eq_true rfl)) dX12_wayAt_2 ⟨Nat.le_of_ble_eq_true rfl, Nat.le_of_ble_eq_true rfl⟩) hS (fun q _ h => hFc q h) hFc (fun r_1 u t H1 locs ht1 hvm hw hB hz1 hk1 hS => ?_)
  try dsimp only at hw hB
  have hr1 := hw
  obtain rfl := hr1.symm
  obtain ⟨hP1, hD1⟩ := hB
  rw [ht1] at hP1
  obtain ⟨hP, hD⟩ := va_join (wr := []) (w1 := [(mo, .inr (12, .ref nw :: m1 :: m2 :: m3 :: mv)), (nw, .inl (G.2 0, 15642, .inl nf))]) hP hD [0, 1] [] rfl rfl (by decide) (by decide) hk1 hFc hP1 hD1
  generalize H1 = H at hP hS ⊢
  have hP : va_P G.1 vwCl ([(mo, .inr (12, .ref nw :: m1 :: m2 :: m3 :: mv)), (nw, .inl (G.2 0, 15642, .inl nf))]) H := hP
  have hD : va_D A ([(mo, .inr (12, .ref nw :: m1 :: m2 :: m3 :: mv)), (nw, .inl (G.2 0, 15642, .inl nf))]) := hD
  refine lv_if_eq (tgt := 16) hx hb dX12_wayAt_5 (by decide) (fun c_2 => ?_) (fun c_2 => ?_)
  · refine lv_aload_n hx hb dX12_wayAt_16 rfl (lv_at hl 0 rfl) ?_
    refine lv_bipush (v := (-2)) hx hb dX12_wayAt_17 (by decide) ?_
    have hPc := hP.sub (ws' := [(mo, .inr (12, .ref nw :: m1 :: m2 :: m3 :: mv))]) [0] rfl
    have hDc := hD.sub (ws' := [(mo, .inr (12, .ref nw :: m1 :: m2 :: m3 :: mv))]) [0] (by decide) rfl
    have hFc := va_free (wc := [(mo, .inr (12, .ref nw :: m1 :: m2 :: m3 :: mv))]) hD hS hA [0] rfl
    refine va_calli (va_runV (As := [.int (-2)]) (rest := []) ⟨hx, hb, hml, hown, hts⟩ (r_refuses_m2 l G _ mo (.ref nw) m1 m2 m3 mv ) (cwV 1 hts (gd_V mw_11_14 mw_11_15 mw_11_16 mw_1_5 mw_11_17) rfl rfl rfl ⟨rfl, yk_X12_refuses⟩ ⟨Nat.le_of_ble_eq_true rfl, Nat.le_of_ble_eq_true rfl⟩) (c0_preV (q0 := 0) (ci := 12) (q := (RX12, TX12, 32)) hPc hK hDc rfl rfl) rfl rfl hl.1 rfl (lv_room (Nat.le_of_ble_eq_true rfl)) dX12_wayAt_19 ⟨Nat.le_of_ble_eq_true rfl, Nat.le_of_ble_eq_true rfl⟩) hS (fun q _ h => hFc q h) hFc (fun r_3 u t H1 locs ht1 hvm hw hB hz1 hk1 hS => ?_)
    try dsimp only at hw hB
    have hr3 := hw
    obtain rfl := hr3.symm
    obtain ⟨hP1, hD1⟩ := hB
    rw [ht1] at hP1
    obtain ⟨hP, hD⟩ := va_join (wr := [(nw, .inl (G.2 0, 15642, .inl nf))]) (w1 := [(mo, .inr (12, .ref nw :: m1 :: m2 :: .int (-2) :: mv))]) hP hD [0] [1] rfl rfl (by decide) (by decide) hk1 hFc hP1 hD1
    generalize H1 = H at hP hS ⊢
    have hP : va_P G.1 vwCl ([(nw, .inl (G.2 0, 15642, .inl nf)), (mo, .inr (12, .ref nw :: m1 :: m2 :: .int (-2) :: mv))]) H := hP
    have hD : va_D A ([(nw, .inl (G.2 0, 15642, .inl nf)), (mo, .inr (12, .ref nw :: m1 :: m2 :: .int (-2) :: mv))]) := hD
    exact W.iret (v := (-2)) hx hb hr (fun t ht hW => ⟨⟨(-2), (), rfl, rfl, trivial⟩, hS.F ht⟩) hS.2.2 dX12_wayAt_22
  · exact absurd c_2 (by decide)

set_option maxHeartbeats 4000000 in
set_option maxRecDepth 100000 in
theorem r_gauge (l : Launch) (G : GG) (sz : Nat) (mo : Nat) (x1 : Int32) (x2 : Int32) (nw : Nat) (m1 : Value) (m2 : Value) (m3 : Value) (mv : List Value) (nf : Nat → Int32) (hz : ∀ j, j < 16 → nf j = 0) : Met l yX12_gauge (.code yX12_gauge cX12_gauge 4 (some .int) :: TT) ({ frames := 3, cells := 0, slots := 0, locals := 300 } : Room) (c0_P G [.ref mo, .int x1, .int x2] sz ([(mo, .inr (12, .ref nw :: m1 :: m2 :: m3 :: mv)), (nw, .inl (G.2 0, 15642, .inl nf))])) (va_Qi (S := Unit) (fun (r : Int32) (u : Unit) => r = (-2)) (fun (u : Unit) (t : State) => True) (va_A ([(mo, .inr (12, .ref nw :: m1 :: m2 :: m3 :: mv)), (nw, .inl (G.2 0, 15642, .inl nf))]) sz)) 0 0 (va_A ([(mo, .inr (12, .ref nw :: m1 :: m2 :: m3 :: mv)), (nw, .inl (G.2 0, 15642, .inl nf))]) sz) := by
  refine Met.ofW (cc := cX12_gauge) (maxL := 4) (ret := (some .int)) (by decide) rfl ?_
  intro p e s m args below meth c s₁ B hml hv
  obtain ⟨rfl, hsz, hP, hK, hD0⟩ := hv
  have hx := B.exec
  have hb := B.bytes
  have hr := B.returns
  have hts := atoms_spec (ws := .code yX12_gauge cX12_gauge 4 (some .int) :: TT) B.pre
  have ht := fun (w : Cond) (h : w ∈ TT) => hts w (List.mem_cons_of_mem _ h)
  have hown : s.vm.findClass RX12 = some m.cls := findClass_of_methodNamed B.named
  have hlocks := B.notSynchronized
  subst hsz
  have hD := hD0.self (sz := s.heap.size)
  generalize hAe : va_A ([(mo, .inr (12, .ref nw :: m1 :: m2 :: m3 :: mv)), (nw, .inl (G.2 0, 15642, .inl nf))]) s.heap.size = A at hD ⊢
  have hA : ∀ q : Nat, s.heap.size ≤ q → A q := fun q h => by rw [← hAe]; exact Or.inr h
  have hS : va_S A s.heap s.heap [] := va_S.rf
  have hP : va_P G.1 vwCl ([(mo, .inr (12, .ref nw :: m1 :: m2 :: m3 :: mv)), (nw, .inl (G.2 0, 15642, .inl nf))]) s.heap := hP
  have hl := lv_entry ([.ref mo, .int x1, .int x2]) (n := 4) (Nat.le_of_ble_eq_true rfl)
  rw [lg_entry_eq]
  generalize (lg_sl ([.ref mo, .int x1, .int x2]) ++ List.replicate (4 - (lg_sl ([.ref mo, .int x1, .int x2])).length) Slot.unset).toArray = ls at hl ⊢
  have hl : lv_has ls 4 [(0, .ref mo), (1, .int x1), (2, .int x2)] := hl
  refine lv_aload_n hx hb dX12_gauge_0 rfl (lv_at hl 0 rfl) ?_
  refine lv_iload_n hx hb dX12_gauge_1 rfl (lv_at hl 1 rfl) ?_
  have hPc := hP.sub (ws' := [(mo, .inr (12, .ref nw :: m1 :: m2 :: m3 :: mv)), (nw, .inl (G.2 0, 15642, .inl nf))]) [0, 1] rfl
  have hDc := hD.sub (ws' := [(mo, .inr (12, .ref nw :: m1 :: m2 :: m3 :: mv)), (nw, .inl (G.2 0, 15642, .inl nf))]) [0, 1] (by decide) rfl
  have hFc := va_free (wc := [(mo, .inr (12, .ref nw :: m1 :: m2 :: m3 :: mv)), (nw, .inl (G.2 0, 15642, .inl nf))]) hD hS hA [0, 1] rfl
  refine va_calli (va_runV (As := [.int x1]) (rest := []) ⟨hx, hb, hml, hown, hts⟩ (r_isCrossing l G _ mo x1 nw (m1 :: m2 :: m3 :: mv) nf (by first | assumption | decide)) (cwV 1 hts (gd_V mw_13_6 mw_13_7 mw_13_8 mw_1_5 mw_13_9) rfl rfl rfl ⟨rfl, yk_X12_isCrossing⟩ ⟨Nat.le_of_ble_eq_true rfl, Nat.le_of_ble_eq_true rfl⟩) (c0_preV (q0 := 0) (ci := 12) (q := (RX12, TX12, 32)) hPc hK hDc rfl rfl) rfl rfl hl.1 rfl (lv_room (Nat.le_of_ble_eq_true rfl)) dX12_gauge_2 ⟨Nat.le_of_ble_eq_true rfl, Nat.le_of_ble_eq_true rfl⟩) hS (fun q _ h => hFc q h) hFc (fun r_1 u t H1 locs ht1 hvm hw hB hz1 hk1 hS => ?_)
  try dsimp only at hw hB
  have hr1 := hw
  obtain rfl := hr1.symm
  obtain ⟨hP1, hD1⟩ := hB
  rw [ht1] at hP1
  obtain ⟨hP, hD⟩ := va_join (wr := []) (w1 := [(mo, .inr (12, .ref nw :: m1 :: m2 :: m3 :: mv)), (nw, .inl (G.2 0, 15642, .inl nf))]) hP hD [0, 1] [] rfl rfl (by decide) (by decide) hk1 hFc hP1 hD1
  generalize H1 = H at hP hS ⊢
  have hP : va_P G.1 vwCl ([(mo, .inr (12, .ref nw :: m1 :: m2 :: m3 :: mv)), (nw, .inl (G.2 0, 15642, .inl nf))]) H := hP
  have hD : va_D A ([(mo, .inr (12, .ref nw :: m1 :: m2 :: m3 :: mv)), (nw, .inl (G.2 0, 15642, .inl nf))]) := hD
  refine lv_if_ne (tgt := 15) hx hb dX12_gauge_5 (by decide) (fun c_2 => ?_) (fun c_2 => ?_)
  · exact absurd c_2 (by decide)
  · refine lv_aload_n hx hb dX12_gauge_8 rfl (lv_at hl 0 rfl) ?_
    refine lv_bipush (v := (-2)) hx hb dX12_gauge_9 (by decide) ?_
    have hPc := hP.sub (ws' := [(mo, .inr (12, .ref nw :: m1 :: m2 :: m3 :: mv))]) [0] rfl
    have hDc := hD.sub (ws' := [(mo, .inr (12, .ref nw :: m1 :: m2 :: m3 :: mv))]) [0] (by decide) rfl
    have hFc := va_free (wc := [(mo, .inr (12, .ref nw :: m1 :: m2 :: m3 :: mv))]) hD hS hA [0] rfl
    refine va_calli (va_runV (As := [.int (-2)]) (rest := []) ⟨hx, hb, hml, hown, hts⟩ (r_refuses_m2 l G _ mo (.ref nw) m1 m2 m3 mv ) (cwV 1 hts (gd_V mw_11_14 mw_11_15 mw_11_16 mw_1_5 mw_11_17) rfl rfl rfl ⟨rfl, yk_X12_refuses⟩ ⟨Nat.le_of_ble_eq_true rfl, Nat.le_of_ble_eq_true rfl⟩) (c0_preV (q0 := 0) (ci := 12) (q := (RX12, TX12, 32)) hPc hK hDc rfl rfl) rfl rfl hl.1 rfl (lv_room (Nat.le_of_ble_eq_true rfl)) dX12_gauge_11 ⟨Nat.le_of_ble_eq_true rfl, Nat.le_of_ble_eq_true rfl⟩) hS (fun q _ h => hFc q h) hFc (fun r_3 u t H1 locs ht1 hvm hw hB hz1 hk1 hS => ?_)
    try dsimp only at hw hB
    have hr3 := hw
    obtain rfl := hr3.symm
    obtain ⟨hP1, hD1⟩ := hB
    rw [ht1] at hP1
    obtain ⟨hP, hD⟩ := va_join (wr := [(nw, .inl (G.2 0, 15642, .inl nf))]) (w1 := [(mo, .inr (12, .ref nw :: m1 :: m2 :: .int (-2) :: mv))]) hP hD [0] [1] rfl rfl (by decide) (by decide) hk1 hFc hP1 hD1
    generalize H1 = H at hP hS ⊢
    have hP : va_P G.1 vwCl ([(nw, .inl (G.2 0, 15642, .inl nf)), (mo, .inr (12, .ref nw :: m1 :: m2 :: .int (-2) :: mv))]) H := hP
    have hD : va_D A ([(nw, .inl (G.2 0, 15642, .inl nf)), (mo, .inr (12, .ref nw :: m1 :: m2 :: .int (-2) :: mv))]) := hD
    exact W.iret (v := (-2)) hx hb hr (fun t ht hW => ⟨⟨(-2), (), rfl, rfl, trivial⟩, hS.F ht⟩) hS.2.2 dX12_gauge_14

set_option maxHeartbeats 4000000 in
set_option maxRecDepth 100000 in
theorem r_partner (l : Launch) (G : GG) (sz : Nat) (mo : Nat) (x1 : Int32) (nw : Nat) (m1 : Value) (m2 : Value) (m3 : Value) (mv : List Value) (nf : Nat → Int32) (hz : ∀ j, j < 16 → nf j = 0) : Met l yX12_partner (.code yX12_partner cX12_partner 2 (some .int) :: TT) ({ frames := 3, cells := 0, slots := 0, locals := 300 } : Room) (c0_P G [.ref mo, .int x1] sz ([(mo, .inr (12, .ref nw :: m1 :: m2 :: m3 :: mv)), (nw, .inl (G.2 0, 15642, .inl nf))])) (va_Qi (S := Unit) (fun (r : Int32) (u : Unit) => r = (-2)) (fun (u : Unit) (t : State) => True) (va_A ([(mo, .inr (12, .ref nw :: m1 :: m2 :: m3 :: mv)), (nw, .inl (G.2 0, 15642, .inl nf))]) sz)) 0 0 (va_A ([(mo, .inr (12, .ref nw :: m1 :: m2 :: m3 :: mv)), (nw, .inl (G.2 0, 15642, .inl nf))]) sz) := by
  refine Met.ofW (cc := cX12_partner) (maxL := 2) (ret := (some .int)) (by decide) rfl ?_
  intro p e s m args below meth c s₁ B hml hv
  obtain ⟨rfl, hsz, hP, hK, hD0⟩ := hv
  have hx := B.exec
  have hb := B.bytes
  have hr := B.returns
  have hts := atoms_spec (ws := .code yX12_partner cX12_partner 2 (some .int) :: TT) B.pre
  have ht := fun (w : Cond) (h : w ∈ TT) => hts w (List.mem_cons_of_mem _ h)
  have hown : s.vm.findClass RX12 = some m.cls := findClass_of_methodNamed B.named
  have hlocks := B.notSynchronized
  subst hsz
  have hD := hD0.self (sz := s.heap.size)
  generalize hAe : va_A ([(mo, .inr (12, .ref nw :: m1 :: m2 :: m3 :: mv)), (nw, .inl (G.2 0, 15642, .inl nf))]) s.heap.size = A at hD ⊢
  have hA : ∀ q : Nat, s.heap.size ≤ q → A q := fun q h => by rw [← hAe]; exact Or.inr h
  have hS : va_S A s.heap s.heap [] := va_S.rf
  have hP : va_P G.1 vwCl ([(mo, .inr (12, .ref nw :: m1 :: m2 :: m3 :: mv)), (nw, .inl (G.2 0, 15642, .inl nf))]) s.heap := hP
  have hl := lv_entry ([.ref mo, .int x1]) (n := 2) (Nat.le_of_ble_eq_true rfl)
  rw [lg_entry_eq]
  generalize (lg_sl ([.ref mo, .int x1]) ++ List.replicate (2 - (lg_sl ([.ref mo, .int x1])).length) Slot.unset).toArray = ls at hl ⊢
  have hl : lv_has ls 2 [(0, .ref mo), (1, .int x1)] := hl
  refine lv_aload_n hx hb dX12_partner_0 rfl (lv_at hl 0 rfl) ?_
  refine lv_iload_n hx hb dX12_partner_1 rfl (lv_at hl 1 rfl) ?_
  have hPc := hP.sub (ws' := [(mo, .inr (12, .ref nw :: m1 :: m2 :: m3 :: mv)), (nw, .inl (G.2 0, 15642, .inl nf))]) [0, 1] rfl
  have hDc := hD.sub (ws' := [(mo, .inr (12, .ref nw :: m1 :: m2 :: m3 :: mv)), (nw, .inl (G.2 0, 15642, .inl nf))]) [0, 1] (by decide) rfl
  have hFc := va_free (wc := [(mo, .inr (12, .ref nw :: m1 :: m2 :: m3 :: mv)), (nw, .inl (G.2 0, 15642, .inl nf))]) hD hS hA [0, 1] rfl
  refine va_calli (va_runV (As := [.int x1]) (rest := []) ⟨hx, hb, hml, hown, hts⟩ (r_isCrossing l G _ mo x1 nw (m1 :: m2 :: m3 :: mv) nf (by first | assumption | decide)) (cwV 1 hts (gd_V mw_13_6 mw_13_7 mw_13_8 mw_1_5 mw_13_9) rfl rfl rfl ⟨rfl, yk_X12_isCrossing⟩ ⟨Nat.le_of_ble_eq_true rfl, Nat.le_of_ble_eq_true rfl⟩) (c0_preV (q0 := 0) (ci := 12) (q := (RX12, TX12, 32)) hPc hK hDc rfl rfl) rfl rfl hl.1 rfl (lv_room (Nat.le_of_ble_eq_true rfl)) dX12_partner_2 ⟨Nat.le_of_ble_eq_true rfl, Nat.le_of_ble_eq_true rfl⟩) hS (fun q _ h => hFc q h) hFc (fun r_1 u t H1 locs ht1 hvm hw hB hz1 hk1 hS => ?_)
  try dsimp only at hw hB
  have hr1 := hw
  obtain rfl := hr1.symm
  obtain ⟨hP1, hD1⟩ := hB
  rw [ht1] at hP1
  obtain ⟨hP, hD⟩ := va_join (wr := []) (w1 := [(mo, .inr (12, .ref nw :: m1 :: m2 :: m3 :: mv)), (nw, .inl (G.2 0, 15642, .inl nf))]) hP hD [0, 1] [] rfl rfl (by decide) (by decide) hk1 hFc hP1 hD1
  generalize H1 = H at hP hS ⊢
  have hP : va_P G.1 vwCl ([(mo, .inr (12, .ref nw :: m1 :: m2 :: m3 :: mv)), (nw, .inl (G.2 0, 15642, .inl nf))]) H := hP
  have hD : va_D A ([(mo, .inr (12, .ref nw :: m1 :: m2 :: m3 :: mv)), (nw, .inl (G.2 0, 15642, .inl nf))]) := hD
  refine lv_if_eq (tgt := 25) hx hb dX12_partner_5 (by decide) (fun c_2 => ?_) (fun c_2 => ?_)
  · refine lv_aload_n hx hb dX12_partner_25 rfl (lv_at hl 0 rfl) ?_
    refine lv_bipush (v := (-2)) hx hb dX12_partner_26 (by decide) ?_
    have hPc := hP.sub (ws' := [(mo, .inr (12, .ref nw :: m1 :: m2 :: m3 :: mv))]) [0] rfl
    have hDc := hD.sub (ws' := [(mo, .inr (12, .ref nw :: m1 :: m2 :: m3 :: mv))]) [0] (by decide) rfl
    have hFc := va_free (wc := [(mo, .inr (12, .ref nw :: m1 :: m2 :: m3 :: mv))]) hD hS hA [0] rfl
    refine va_calli (va_runV (As := [.int (-2)]) (rest := []) ⟨hx, hb, hml, hown, hts⟩ (r_refuses_m2 l G _ mo (.ref nw) m1 m2 m3 mv ) (cwV 1 hts (gd_V mw_11_14 mw_11_15 mw_11_16 mw_1_5 mw_11_17) rfl rfl rfl ⟨rfl, yk_X12_refuses⟩ ⟨Nat.le_of_ble_eq_true rfl, Nat.le_of_ble_eq_true rfl⟩) (c0_preV (q0 := 0) (ci := 12) (q := (RX12, TX12, 32)) hPc hK hDc rfl rfl) rfl rfl hl.1 rfl (lv_room (Nat.le_of_ble_eq_true rfl)) dX12_partner_28 ⟨Nat.le_of_ble_eq_true rfl, Nat.le_of_ble_eq_true rfl⟩) hS (fun q _ h => hFc q h) hFc (fun r_3 u t H1 locs ht1 hvm hw hB hz1 hk1 hS => ?_)
    try dsimp only at hw hB
    have hr3 := hw
    obtain rfl := hr3.symm
    obtain ⟨hP1, hD1⟩ := hB
    rw [ht1] at hP1
    obtain ⟨hP, hD⟩ := va_join (wr := [(nw, .inl (G.2 0, 15642, .inl nf))]) (w1 := [(mo, .inr (12, .ref nw :: m1 :: m2 :: .int (-2) :: mv))]) hP hD [0] [1] rfl rfl (by decide) (by decide) hk1 hFc hP1 hD1
    generalize H1 = H at hP hS ⊢
    have hP : va_P G.1 vwCl ([(nw, .inl (G.2 0, 15642, .inl nf)), (mo, .inr (12, .ref nw :: m1 :: m2 :: .int (-2) :: mv))]) H := hP
    have hD : va_D A ([(nw, .inl (G.2 0, 15642, .inl nf)), (mo, .inr (12, .ref nw :: m1 :: m2 :: .int (-2) :: mv))]) := hD
    exact W.iret (v := (-2)) hx hb hr (fun t ht hW => ⟨⟨(-2), (), rfl, rfl, trivial⟩, hS.F ht⟩) hS.2.2 dX12_partner_31
  · exact absurd c_2 (by decide)

set_option maxHeartbeats 4000000 in
set_option maxRecDepth 100000 in
theorem r_row (l : Launch) (G : GG) (sz : Nat) (mo : Nat) (x1 : Int32) (x2 : Int32) (nw : Nat) (m1 : Value) (m2 : Value) (m3 : Value) (mv : List Value) (nf : Nat → Int32) (hz : ∀ j, j < 16 → nf j = 0) : Met l yX12_row (.code yX12_row cX12_row 4 (some .int) :: TT) ({ frames := 3, cells := 0, slots := 0, locals := 300 } : Room) (c0_P G [.ref mo, .int x1, .int x2] sz ([(mo, .inr (12, .ref nw :: m1 :: m2 :: m3 :: mv)), (nw, .inl (G.2 0, 15642, .inl nf))])) (va_Qi (S := Unit) (fun (r : Int32) (u : Unit) => r = (-2)) (fun (u : Unit) (t : State) => True) (va_A ([(mo, .inr (12, .ref nw :: m1 :: m2 :: m3 :: mv)), (nw, .inl (G.2 0, 15642, .inl nf))]) sz)) 0 0 (va_A ([(mo, .inr (12, .ref nw :: m1 :: m2 :: m3 :: mv)), (nw, .inl (G.2 0, 15642, .inl nf))]) sz) := by
  refine Met.ofW (cc := cX12_row) (maxL := 4) (ret := (some .int)) (by decide) rfl ?_
  intro p e s m args below meth c s₁ B hml hv
  obtain ⟨rfl, hsz, hP, hK, hD0⟩ := hv
  have hx := B.exec
  have hb := B.bytes
  have hr := B.returns
  have hts := atoms_spec (ws := .code yX12_row cX12_row 4 (some .int) :: TT) B.pre
  have ht := fun (w : Cond) (h : w ∈ TT) => hts w (List.mem_cons_of_mem _ h)
  have hown : s.vm.findClass RX12 = some m.cls := findClass_of_methodNamed B.named
  have hlocks := B.notSynchronized
  subst hsz
  have hD := hD0.self (sz := s.heap.size)
  generalize hAe : va_A ([(mo, .inr (12, .ref nw :: m1 :: m2 :: m3 :: mv)), (nw, .inl (G.2 0, 15642, .inl nf))]) s.heap.size = A at hD ⊢
  have hA : ∀ q : Nat, s.heap.size ≤ q → A q := fun q h => by rw [← hAe]; exact Or.inr h
  have hS : va_S A s.heap s.heap [] := va_S.rf
  have hP : va_P G.1 vwCl ([(mo, .inr (12, .ref nw :: m1 :: m2 :: m3 :: mv)), (nw, .inl (G.2 0, 15642, .inl nf))]) s.heap := hP
  have hl := lv_entry ([.ref mo, .int x1, .int x2]) (n := 4) (Nat.le_of_ble_eq_true rfl)
  rw [lg_entry_eq]
  generalize (lg_sl ([.ref mo, .int x1, .int x2]) ++ List.replicate (4 - (lg_sl ([.ref mo, .int x1, .int x2])).length) Slot.unset).toArray = ls at hl ⊢
  have hl : lv_has ls 4 [(0, .ref mo), (1, .int x1), (2, .int x2)] := hl
  refine lv_aload_n hx hb dX12_row_0 rfl (lv_at hl 0 rfl) ?_
  refine lv_iload_n hx hb dX12_row_1 rfl (lv_at hl 1 rfl) ?_
  have hPc := hP.sub (ws' := [(mo, .inr (12, .ref nw :: m1 :: m2 :: m3 :: mv)), (nw, .inl (G.2 0, 15642, .inl nf))]) [0, 1] rfl
  have hDc := hD.sub (ws' := [(mo, .inr (12, .ref nw :: m1 :: m2 :: m3 :: mv)), (nw, .inl (G.2 0, 15642, .inl nf))]) [0, 1] (by decide) rfl
  have hFc := va_free (wc := [(mo, .inr (12, .ref nw :: m1 :: m2 :: m3 :: mv)), (nw, .inl (G.2 0, 15642, .inl nf))]) hD hS hA [0, 1] rfl
  refine va_calli (va_runV (As := [.int x1]) (rest := []) ⟨hx, hb, hml, hown, hts⟩ (r_isGauge l G _ mo x1 nw (m1 :: m2 :: m3 :: mv) nf (by first | assumption | decide)) (cwV 1 hts (gd_V mw_21_9 mw_21_10 mw_21_11 mw_1_5 mw_21_12) rfl rfl rfl ⟨rfl, yk_X12_isGauge⟩ ⟨Nat.le_of_ble_eq_true rfl, Nat.le_of_ble_eq_true rfl⟩) (c0_preV (q0 := 0) (ci := 12) (q := (RX12, TX12, 32)) hPc hK hDc rfl rfl) rfl rfl hl.1 rfl (lv_room (Nat.le_of_ble_eq_true rfl)) dX12_row_2 ⟨Nat.le_of_ble_eq_true rfl, Nat.le_of_ble_eq_true rfl⟩) hS (fun q _ h => hFc q h) hFc (fun r_1 u t H1 locs ht1 hvm hw hB hz1 hk1 hS => ?_)
  try dsimp only at hw hB
  have hr1 := hw
  obtain rfl := hr1.symm
  obtain ⟨hP1, hD1⟩ := hB
  rw [ht1] at hP1
  obtain ⟨hP, hD⟩ := va_join (wr := []) (w1 := [(mo, .inr (12, .ref nw :: m1 :: m2 :: m3 :: mv)), (nw, .inl (G.2 0, 15642, .inl nf))]) hP hD [0, 1] [] rfl rfl (by decide) (by decide) hk1 hFc hP1 hD1
  generalize H1 = H at hP hS ⊢
  have hP : va_P G.1 vwCl ([(mo, .inr (12, .ref nw :: m1 :: m2 :: m3 :: mv)), (nw, .inl (G.2 0, 15642, .inl nf))]) H := hP
  have hD : va_D A ([(mo, .inr (12, .ref nw :: m1 :: m2 :: m3 :: mv)), (nw, .inl (G.2 0, 15642, .inl nf))]) := hD
  refine lv_if_eq (tgt := 15) hx hb dX12_row_5 (by decide) (fun c_2 => ?_) (fun c_2 => ?_)
  · refine lv_aload_n hx hb dX12_row_15 rfl (lv_at hl 0 rfl) ?_
    refine lv_bipush (v := (-2)) hx hb dX12_row_16 (by decide) ?_
    have hPc := hP.sub (ws' := [(mo, .inr (12, .ref nw :: m1 :: m2 :: m3 :: mv))]) [0] rfl
    have hDc := hD.sub (ws' := [(mo, .inr (12, .ref nw :: m1 :: m2 :: m3 :: mv))]) [0] (by decide) rfl
    have hFc := va_free (wc := [(mo, .inr (12, .ref nw :: m1 :: m2 :: m3 :: mv))]) hD hS hA [0] rfl
    refine va_calli (va_runV (As := [.int (-2)]) (rest := []) ⟨hx, hb, hml, hown, hts⟩ (r_refuses_m2 l G _ mo (.ref nw) m1 m2 m3 mv ) (cwV 1 hts (gd_V mw_11_14 mw_11_15 mw_11_16 mw_1_5 mw_11_17) rfl rfl rfl ⟨rfl, yk_X12_refuses⟩ ⟨Nat.le_of_ble_eq_true rfl, Nat.le_of_ble_eq_true rfl⟩) (c0_preV (q0 := 0) (ci := 12) (q := (RX12, TX12, 32)) hPc hK hDc rfl rfl) rfl rfl hl.1 rfl (lv_room (Nat.le_of_ble_eq_true rfl)) dX12_row_18 ⟨Nat.le_of_ble_eq_true rfl, Nat.le_of_ble_eq_true rfl⟩) hS (fun q _ h => hFc q h) hFc (fun r_3 u t H1 locs ht1 hvm hw hB hz1 hk1 hS => ?_)
    try dsimp only at hw hB
    have hr3 := hw
    obtain rfl := hr3.symm
    obtain ⟨hP1, hD1⟩ := hB
    rw [ht1] at hP1
    obtain ⟨hP, hD⟩ := va_join (wr := [(nw, .inl (G.2 0, 15642, .inl nf))]) (w1 := [(mo, .inr (12, .ref nw :: m1 :: m2 :: .int (-2) :: mv))]) hP hD [0] [1] rfl rfl (by decide) (by decide) hk1 hFc hP1 hD1
    generalize H1 = H at hP hS ⊢
    have hP : va_P G.1 vwCl ([(nw, .inl (G.2 0, 15642, .inl nf)), (mo, .inr (12, .ref nw :: m1 :: m2 :: .int (-2) :: mv))]) H := hP
    have hD : va_D A ([(nw, .inl (G.2 0, 15642, .inl nf)), (mo, .inr (12, .ref nw :: m1 :: m2 :: .int (-2) :: mv))]) := hD
    exact W.iret (v := (-2)) hx hb hr (fun t ht hW => ⟨⟨(-2), (), rfl, rfl, trivial⟩, hS.F ht⟩) hS.2.2 dX12_row_21
  · exact absurd c_2 (by decide)

set_option maxHeartbeats 4000000 in
set_option maxRecDepth 100000 in
theorem r_lose (l : Launch) (G : GG) (sz : Nat) (mo : Nat) (x1 : Int32) (nw : Nat) (m1 : Value) (m2 : Value) (m3 : Value) (mv : List Value) (nf : Nat → Int32) (hz : ∀ j, j < 16 → nf j = 0) : Met l yX12_lose (.code yX12_lose cX12_lose 3 (some .int) :: TT) ({ frames := 3, cells := 0, slots := 0, locals := 300 } : Room) (c0_P G [.ref mo, .int x1] sz ([(mo, .inr (12, .ref nw :: m1 :: m2 :: m3 :: mv)), (nw, .inl (G.2 0, 15642, .inl nf))])) (va_Qi (S := Unit) (fun (r : Int32) (u : Unit) => r = (-2)) (fun (u : Unit) (t : State) => True) (va_A ([(mo, .inr (12, .ref nw :: m1 :: m2 :: m3 :: mv)), (nw, .inl (G.2 0, 15642, .inl nf))]) sz)) 0 0 (va_A ([(mo, .inr (12, .ref nw :: m1 :: m2 :: m3 :: mv)), (nw, .inl (G.2 0, 15642, .inl nf))]) sz) := by
  refine Met.ofW (cc := cX12_lose) (maxL := 3) (ret := (some .int)) (by decide) rfl ?_
  intro p e s m args below meth c s₁ B hml hv
  obtain ⟨rfl, hsz, hP, hK, hD0⟩ := hv
  have hx := B.exec
  have hb := B.bytes
  have hr := B.returns
  have hts := atoms_spec (ws := .code yX12_lose cX12_lose 3 (some .int) :: TT) B.pre
  have ht := fun (w : Cond) (h : w ∈ TT) => hts w (List.mem_cons_of_mem _ h)
  have hown : s.vm.findClass RX12 = some m.cls := findClass_of_methodNamed B.named
  have hlocks := B.notSynchronized
  subst hsz
  have hD := hD0.self (sz := s.heap.size)
  generalize hAe : va_A ([(mo, .inr (12, .ref nw :: m1 :: m2 :: m3 :: mv)), (nw, .inl (G.2 0, 15642, .inl nf))]) s.heap.size = A at hD ⊢
  have hA : ∀ q : Nat, s.heap.size ≤ q → A q := fun q h => by rw [← hAe]; exact Or.inr h
  have hS : va_S A s.heap s.heap [] := va_S.rf
  have hP : va_P G.1 vwCl ([(mo, .inr (12, .ref nw :: m1 :: m2 :: m3 :: mv)), (nw, .inl (G.2 0, 15642, .inl nf))]) s.heap := hP
  have hl := lv_entry ([.ref mo, .int x1]) (n := 3) (Nat.le_of_ble_eq_true rfl)
  rw [lg_entry_eq]
  generalize (lg_sl ([.ref mo, .int x1]) ++ List.replicate (3 - (lg_sl ([.ref mo, .int x1])).length) Slot.unset).toArray = ls at hl ⊢
  have hl : lv_has ls 3 [(0, .ref mo), (1, .int x1)] := hl
  refine lv_aload_n hx hb dX12_lose_0 rfl (lv_at hl 0 rfl) ?_
  refine lv_iload_n hx hb dX12_lose_1 rfl (lv_at hl 1 rfl) ?_
  have hPc := hP.sub (ws' := [(mo, .inr (12, .ref nw :: m1 :: m2 :: m3 :: mv)), (nw, .inl (G.2 0, 15642, .inl nf))]) [0, 1] rfl
  have hDc := hD.sub (ws' := [(mo, .inr (12, .ref nw :: m1 :: m2 :: m3 :: mv)), (nw, .inl (G.2 0, 15642, .inl nf))]) [0, 1] (by decide) rfl
  have hFc := va_free (wc := [(mo, .inr (12, .ref nw :: m1 :: m2 :: m3 :: mv)), (nw, .inl (G.2 0, 15642, .inl nf))]) hD hS hA [0, 1] rfl
  refine va_calli (va_runV (As := [.int x1]) (rest := []) ⟨hx, hb, hml, hown, hts⟩ (r_isGauge l G _ mo x1 nw (m1 :: m2 :: m3 :: mv) nf (by first | assumption | decide)) (cwV 1 hts (gd_V mw_21_9 mw_21_10 mw_21_11 mw_1_5 mw_21_12) rfl rfl rfl ⟨rfl, yk_X12_isGauge⟩ ⟨Nat.le_of_ble_eq_true rfl, Nat.le_of_ble_eq_true rfl⟩) (c0_preV (q0 := 0) (ci := 12) (q := (RX12, TX12, 32)) hPc hK hDc rfl rfl) rfl rfl hl.1 rfl (lv_room (Nat.le_of_ble_eq_true rfl)) dX12_lose_2 ⟨Nat.le_of_ble_eq_true rfl, Nat.le_of_ble_eq_true rfl⟩) hS (fun q _ h => hFc q h) hFc (fun r_1 u t H1 locs ht1 hvm hw hB hz1 hk1 hS => ?_)
  try dsimp only at hw hB
  have hr1 := hw
  obtain rfl := hr1.symm
  obtain ⟨hP1, hD1⟩ := hB
  rw [ht1] at hP1
  obtain ⟨hP, hD⟩ := va_join (wr := []) (w1 := [(mo, .inr (12, .ref nw :: m1 :: m2 :: m3 :: mv)), (nw, .inl (G.2 0, 15642, .inl nf))]) hP hD [0, 1] [] rfl rfl (by decide) (by decide) hk1 hFc hP1 hD1
  generalize H1 = H at hP hS ⊢
  have hP : va_P G.1 vwCl ([(mo, .inr (12, .ref nw :: m1 :: m2 :: m3 :: mv)), (nw, .inl (G.2 0, 15642, .inl nf))]) H := hP
  have hD : va_D A ([(mo, .inr (12, .ref nw :: m1 :: m2 :: m3 :: mv)), (nw, .inl (G.2 0, 15642, .inl nf))]) := hD
  refine lv_if_ne (tgt := 15) hx hb dX12_lose_5 (by decide) (fun c_2 => ?_) (fun c_2 => ?_)
  · exact absurd c_2 (by decide)
  · refine lv_aload_n hx hb dX12_lose_8 rfl (lv_at hl 0 rfl) ?_
    refine lv_bipush (v := (-2)) hx hb dX12_lose_9 (by decide) ?_
    have hPc := hP.sub (ws' := [(mo, .inr (12, .ref nw :: m1 :: m2 :: m3 :: mv))]) [0] rfl
    have hDc := hD.sub (ws' := [(mo, .inr (12, .ref nw :: m1 :: m2 :: m3 :: mv))]) [0] (by decide) rfl
    have hFc := va_free (wc := [(mo, .inr (12, .ref nw :: m1 :: m2 :: m3 :: mv))]) hD hS hA [0] rfl
    refine va_calli (va_runV (As := [.int (-2)]) (rest := []) ⟨hx, hb, hml, hown, hts⟩ (r_refuses_m2 l G _ mo (.ref nw) m1 m2 m3 mv ) (cwV 1 hts (gd_V mw_11_14 mw_11_15 mw_11_16 mw_1_5 mw_11_17) rfl rfl rfl ⟨rfl, yk_X12_refuses⟩ ⟨Nat.le_of_ble_eq_true rfl, Nat.le_of_ble_eq_true rfl⟩) (c0_preV (q0 := 0) (ci := 12) (q := (RX12, TX12, 32)) hPc hK hDc rfl rfl) rfl rfl hl.1 rfl (lv_room (Nat.le_of_ble_eq_true rfl)) dX12_lose_11 ⟨Nat.le_of_ble_eq_true rfl, Nat.le_of_ble_eq_true rfl⟩) hS (fun q _ h => hFc q h) hFc (fun r_3 u t H1 locs ht1 hvm hw hB hz1 hk1 hS => ?_)
    try dsimp only at hw hB
    have hr3 := hw
    obtain rfl := hr3.symm
    obtain ⟨hP1, hD1⟩ := hB
    rw [ht1] at hP1
    obtain ⟨hP, hD⟩ := va_join (wr := [(nw, .inl (G.2 0, 15642, .inl nf))]) (w1 := [(mo, .inr (12, .ref nw :: m1 :: m2 :: .int (-2) :: mv))]) hP hD [0] [1] rfl rfl (by decide) (by decide) hk1 hFc hP1 hD1
    generalize H1 = H at hP hS ⊢
    have hP : va_P G.1 vwCl ([(nw, .inl (G.2 0, 15642, .inl nf)), (mo, .inr (12, .ref nw :: m1 :: m2 :: .int (-2) :: mv))]) H := hP
    have hD : va_D A ([(nw, .inl (G.2 0, 15642, .inl nf)), (mo, .inr (12, .ref nw :: m1 :: m2 :: .int (-2) :: mv))]) := hD
    exact W.iret (v := (-2)) hx hb hr (fun t ht hW => ⟨⟨(-2), (), rfl, rfl, trivial⟩, hS.F ht⟩) hS.2.2 dX12_lose_14

set_option maxHeartbeats 4000000 in
set_option maxRecDepth 100000 in
theorem r_reading (l : Launch) (G : GG) (sz : Nat) (mo : Nat) (x1 : Int32) (x2 : Int32) (x3 : Int32) (nw : Nat) (m1 : Value) (m2 : Value) (m3 : Value) (mv : List Value) (nf : Nat → Int32) (hz : ∀ j, j < 16 → nf j = 0) : Met l yX12_reading (.code yX12_reading cX12_reading 5 (some .int) :: TT) ({ frames := 3, cells := 0, slots := 0, locals := 300 } : Room) (c0_P G [.ref mo, .int x1, .int x2, .int x3] sz ([(mo, .inr (12, .ref nw :: m1 :: m2 :: m3 :: mv)), (nw, .inl (G.2 0, 15642, .inl nf))])) (va_Qi (S := Unit) (fun (r : Int32) (u : Unit) => r = (-2)) (fun (u : Unit) (t : State) => True) (va_A ([(mo, .inr (12, .ref nw :: m1 :: m2 :: m3 :: mv)), (nw, .inl (G.2 0, 15642, .inl nf))]) sz)) 0 0 (va_A ([(mo, .inr (12, .ref nw :: m1 :: m2 :: m3 :: mv)), (nw, .inl (G.2 0, 15642, .inl nf))]) sz) := by
  refine Met.ofW (cc := cX12_reading) (maxL := 5) (ret := (some .int)) (by decide) rfl ?_
  intro p e s m args below meth c s₁ B hml hv
  obtain ⟨rfl, hsz, hP, hK, hD0⟩ := hv
  have hx := B.exec
  have hb := B.bytes
  have hr := B.returns
  have hts := atoms_spec (ws := .code yX12_reading cX12_reading 5 (some .int) :: TT) B.pre
  have ht := fun (w : Cond) (h : w ∈ TT) => hts w (List.mem_cons_of_mem _ h)
  have hown : s.vm.findClass RX12 = some m.cls := findClass_of_methodNamed B.named
  have hlocks := B.notSynchronized
  subst hsz
  have hD := hD0.self (sz := s.heap.size)
  generalize hAe : va_A ([(mo, .inr (12, .ref nw :: m1 :: m2 :: m3 :: mv)), (nw, .inl (G.2 0, 15642, .inl nf))]) s.heap.size = A at hD ⊢
  have hA : ∀ q : Nat, s.heap.size ≤ q → A q := fun q h => by rw [← hAe]; exact Or.inr h
  have hS : va_S A s.heap s.heap [] := va_S.rf
  have hP : va_P G.1 vwCl ([(mo, .inr (12, .ref nw :: m1 :: m2 :: m3 :: mv)), (nw, .inl (G.2 0, 15642, .inl nf))]) s.heap := hP
  have hl := lv_entry ([.ref mo, .int x1, .int x2, .int x3]) (n := 5) (Nat.le_of_ble_eq_true rfl)
  rw [lg_entry_eq]
  generalize (lg_sl ([.ref mo, .int x1, .int x2, .int x3]) ++ List.replicate (5 - (lg_sl ([.ref mo, .int x1, .int x2, .int x3])).length) Slot.unset).toArray = ls at hl ⊢
  have hl : lv_has ls 5 [(0, .ref mo), (1, .int x1), (2, .int x2), (3, .int x3)] := hl
  refine lv_aload_n hx hb dX12_reading_0 rfl (lv_at hl 0 rfl) ?_
  refine lv_iload_n hx hb dX12_reading_1 rfl (lv_at hl 1 rfl) ?_
  have hPc := hP.sub (ws' := [(mo, .inr (12, .ref nw :: m1 :: m2 :: m3 :: mv)), (nw, .inl (G.2 0, 15642, .inl nf))]) [0, 1] rfl
  have hDc := hD.sub (ws' := [(mo, .inr (12, .ref nw :: m1 :: m2 :: m3 :: mv)), (nw, .inl (G.2 0, 15642, .inl nf))]) [0, 1] (by decide) rfl
  have hFc := va_free (wc := [(mo, .inr (12, .ref nw :: m1 :: m2 :: m3 :: mv)), (nw, .inl (G.2 0, 15642, .inl nf))]) hD hS hA [0, 1] rfl
  refine va_calli (va_runV (As := [.int x1]) (rest := []) ⟨hx, hb, hml, hown, hts⟩ (r_isGauge l G _ mo x1 nw (m1 :: m2 :: m3 :: mv) nf (by first | assumption | decide)) (cwV 1 hts (gd_V mw_21_9 mw_21_10 mw_21_11 mw_1_5 mw_21_12) rfl rfl rfl ⟨rfl, yk_X12_isGauge⟩ ⟨Nat.le_of_ble_eq_true rfl, Nat.le_of_ble_eq_true rfl⟩) (c0_preV (q0 := 0) (ci := 12) (q := (RX12, TX12, 32)) hPc hK hDc rfl rfl) rfl rfl hl.1 rfl (lv_room (Nat.le_of_ble_eq_true rfl)) dX12_reading_2 ⟨Nat.le_of_ble_eq_true rfl, Nat.le_of_ble_eq_true rfl⟩) hS (fun q _ h => hFc q h) hFc (fun r_1 u t H1 locs ht1 hvm hw hB hz1 hk1 hS => ?_)
  try dsimp only at hw hB
  have hr1 := hw
  obtain rfl := hr1.symm
  obtain ⟨hP1, hD1⟩ := hB
  rw [ht1] at hP1
  obtain ⟨hP, hD⟩ := va_join (wr := []) (w1 := [(mo, .inr (12, .ref nw :: m1 :: m2 :: m3 :: mv)), (nw, .inl (G.2 0, 15642, .inl nf))]) hP hD [0, 1] [] rfl rfl (by decide) (by decide) hk1 hFc hP1 hD1
  generalize H1 = H at hP hS ⊢
  have hP : va_P G.1 vwCl ([(mo, .inr (12, .ref nw :: m1 :: m2 :: m3 :: mv)), (nw, .inl (G.2 0, 15642, .inl nf))]) H := hP
  have hD : va_D A ([(mo, .inr (12, .ref nw :: m1 :: m2 :: m3 :: mv)), (nw, .inl (G.2 0, 15642, .inl nf))]) := hD
  refine lv_if_ne (tgt := 15) hx hb dX12_reading_5 (by decide) (fun c_2 => ?_) (fun c_2 => ?_)
  · exact absurd c_2 (by decide)
  · refine lv_aload_n hx hb dX12_reading_8 rfl (lv_at hl 0 rfl) ?_
    refine lv_bipush (v := (-2)) hx hb dX12_reading_9 (by decide) ?_
    have hPc := hP.sub (ws' := [(mo, .inr (12, .ref nw :: m1 :: m2 :: m3 :: mv))]) [0] rfl
    have hDc := hD.sub (ws' := [(mo, .inr (12, .ref nw :: m1 :: m2 :: m3 :: mv))]) [0] (by decide) rfl
    have hFc := va_free (wc := [(mo, .inr (12, .ref nw :: m1 :: m2 :: m3 :: mv))]) hD hS hA [0] rfl
    refine va_calli (va_runV (As := [.int (-2)]) (rest := []) ⟨hx, hb, hml, hown, hts⟩ (r_refuses_m2 l G _ mo (.ref nw) m1 m2 m3 mv ) (cwV 1 hts (gd_V mw_11_14 mw_11_15 mw_11_16 mw_1_5 mw_11_17) rfl rfl rfl ⟨rfl, yk_X12_refuses⟩ ⟨Nat.le_of_ble_eq_true rfl, Nat.le_of_ble_eq_true rfl⟩) (c0_preV (q0 := 0) (ci := 12) (q := (RX12, TX12, 32)) hPc hK hDc rfl rfl) rfl rfl hl.1 rfl (lv_room (Nat.le_of_ble_eq_true rfl)) dX12_reading_11 ⟨Nat.le_of_ble_eq_true rfl, Nat.le_of_ble_eq_true rfl⟩) hS (fun q _ h => hFc q h) hFc (fun r_3 u t H1 locs ht1 hvm hw hB hz1 hk1 hS => ?_)
    try dsimp only at hw hB
    have hr3 := hw
    obtain rfl := hr3.symm
    obtain ⟨hP1, hD1⟩ := hB
    rw [ht1] at hP1
    obtain ⟨hP, hD⟩ := va_join (wr := [(nw, .inl (G.2 0, 15642, .inl nf))]) (w1 := [(mo, .inr (12, .ref nw :: m1 :: m2 :: .int (-2) :: mv))]) hP hD [0] [1] rfl rfl (by decide) (by decide) hk1 hFc hP1 hD1
    generalize H1 = H at hP hS ⊢
    have hP : va_P G.1 vwCl ([(nw, .inl (G.2 0, 15642, .inl nf)), (mo, .inr (12, .ref nw :: m1 :: m2 :: .int (-2) :: mv))]) H := hP
    have hD : va_D A ([(nw, .inl (G.2 0, 15642, .inl nf)), (mo, .inr (12, .ref nw :: m1 :: m2 :: .int (-2) :: mv))]) := hD
    exact W.iret (v := (-2)) hx hb hr (fun t ht hW => ⟨⟨(-2), (), rfl, rfl, trivial⟩, hS.F ht⟩) hS.2.2 dX12_reading_14

set_option maxHeartbeats 4000000 in
set_option maxRecDepth 100000 in
theorem r_none (l : Launch) (G : GG) (sz : Nat) (mo : Nat) (x1 : Int32) (x2 : Int32) (x3 : Int32) (nw : Nat) (m1 : Value) (m2 : Value) (m3 : Value) (mv : List Value) (nf : Nat → Int32) (hz : ∀ j, j < 16 → nf j = 0) : Met l yX12_none (.code yX12_none cX12_none 4 (some .int) :: TT) ({ frames := 3, cells := 0, slots := 0, locals := 300 } : Room) (c0_P G [.ref mo, .int x1, .int x2, .int x3] sz ([(mo, .inr (12, .ref nw :: m1 :: m2 :: m3 :: mv)), (nw, .inl (G.2 0, 15642, .inl nf))])) (va_Qi (S := Unit) (fun (r : Int32) (u : Unit) => r = (-2)) (fun (u : Unit) (t : State) => True) (va_A ([(mo, .inr (12, .ref nw :: m1 :: m2 :: m3 :: mv)), (nw, .inl (G.2 0, 15642, .inl nf))]) sz)) 0 0 (va_A ([(mo, .inr (12, .ref nw :: m1 :: m2 :: m3 :: mv)), (nw, .inl (G.2 0, 15642, .inl nf))]) sz) := by
  refine Met.ofW (cc := cX12_none) (maxL := 4) (ret := (some .int)) (by decide) rfl ?_
  intro p e s m args below meth c s₁ B hml hv
  obtain ⟨rfl, hsz, hP, hK, hD0⟩ := hv
  have hx := B.exec
  have hb := B.bytes
  have hr := B.returns
  have hts := atoms_spec (ws := .code yX12_none cX12_none 4 (some .int) :: TT) B.pre
  have ht := fun (w : Cond) (h : w ∈ TT) => hts w (List.mem_cons_of_mem _ h)
  have hown : s.vm.findClass RX12 = some m.cls := findClass_of_methodNamed B.named
  have hlocks := B.notSynchronized
  subst hsz
  have hD := hD0.self (sz := s.heap.size)
  generalize hAe : va_A ([(mo, .inr (12, .ref nw :: m1 :: m2 :: m3 :: mv)), (nw, .inl (G.2 0, 15642, .inl nf))]) s.heap.size = A at hD ⊢
  have hA : ∀ q : Nat, s.heap.size ≤ q → A q := fun q h => by rw [← hAe]; exact Or.inr h
  have hS : va_S A s.heap s.heap [] := va_S.rf
  have hP : va_P G.1 vwCl ([(mo, .inr (12, .ref nw :: m1 :: m2 :: m3 :: mv)), (nw, .inl (G.2 0, 15642, .inl nf))]) s.heap := hP
  have hl := lv_entry ([.ref mo, .int x1, .int x2, .int x3]) (n := 4) (Nat.le_of_ble_eq_true rfl)
  rw [lg_entry_eq]
  generalize (lg_sl ([.ref mo, .int x1, .int x2, .int x3]) ++ List.replicate (4 - (lg_sl ([.ref mo, .int x1, .int x2, .int x3])).length) Slot.unset).toArray = ls at hl ⊢
  have hl : lv_has ls 4 [(0, .ref mo), (1, .int x1), (2, .int x2), (3, .int x3)] := hl
  refine lv_aload_n hx hb dX12_none_0 rfl (lv_at hl 0 rfl) ?_
  refine lv_iload_n hx hb dX12_none_1 rfl (lv_at hl 1 rfl) ?_
  have hPc := hP.sub (ws' := [(mo, .inr (12, .ref nw :: m1 :: m2 :: m3 :: mv)), (nw, .inl (G.2 0, 15642, .inl nf))]) [0, 1] rfl
  have hDc := hD.sub (ws' := [(mo, .inr (12, .ref nw :: m1 :: m2 :: m3 :: mv)), (nw, .inl (G.2 0, 15642, .inl nf))]) [0, 1] (by decide) rfl
  have hFc := va_free (wc := [(mo, .inr (12, .ref nw :: m1 :: m2 :: m3 :: mv)), (nw, .inl (G.2 0, 15642, .inl nf))]) hD hS hA [0, 1] rfl
  refine va_calli (va_runV (As := [.int x1]) (rest := []) ⟨hx, hb, hml, hown, hts⟩ (r_isGauge l G _ mo x1 nw (m1 :: m2 :: m3 :: mv) nf (by first | assumption | decide)) (cwV 1 hts (gd_V mw_21_9 mw_21_10 mw_21_11 mw_1_5 mw_21_12) rfl rfl rfl ⟨rfl, yk_X12_isGauge⟩ ⟨Nat.le_of_ble_eq_true rfl, Nat.le_of_ble_eq_true rfl⟩) (c0_preV (q0 := 0) (ci := 12) (q := (RX12, TX12, 32)) hPc hK hDc rfl rfl) rfl rfl hl.1 rfl (lv_room (Nat.le_of_ble_eq_true rfl)) dX12_none_2 ⟨Nat.le_of_ble_eq_true rfl, Nat.le_of_ble_eq_true rfl⟩) hS (fun q _ h => hFc q h) hFc (fun r_1 u t H1 locs ht1 hvm hw hB hz1 hk1 hS => ?_)
  try dsimp only at hw hB
  have hr1 := hw
  obtain rfl := hr1.symm
  obtain ⟨hP1, hD1⟩ := hB
  rw [ht1] at hP1
  obtain ⟨hP, hD⟩ := va_join (wr := []) (w1 := [(mo, .inr (12, .ref nw :: m1 :: m2 :: m3 :: mv)), (nw, .inl (G.2 0, 15642, .inl nf))]) hP hD [0, 1] [] rfl rfl (by decide) (by decide) hk1 hFc hP1 hD1
  generalize H1 = H at hP hS ⊢
  have hP : va_P G.1 vwCl ([(mo, .inr (12, .ref nw :: m1 :: m2 :: m3 :: mv)), (nw, .inl (G.2 0, 15642, .inl nf))]) H := hP
  have hD : va_D A ([(mo, .inr (12, .ref nw :: m1 :: m2 :: m3 :: mv)), (nw, .inl (G.2 0, 15642, .inl nf))]) := hD
  refine lv_if_eq (tgt := 17) hx hb dX12_none_5 (by decide) (fun c_2 => ?_) (fun c_2 => ?_)
  · refine lv_aload_n hx hb dX12_none_17 rfl (lv_at hl 0 rfl) ?_
    refine lv_bipush (v := (-2)) hx hb dX12_none_18 (by decide) ?_
    have hPc := hP.sub (ws' := [(mo, .inr (12, .ref nw :: m1 :: m2 :: m3 :: mv))]) [0] rfl
    have hDc := hD.sub (ws' := [(mo, .inr (12, .ref nw :: m1 :: m2 :: m3 :: mv))]) [0] (by decide) rfl
    have hFc := va_free (wc := [(mo, .inr (12, .ref nw :: m1 :: m2 :: m3 :: mv))]) hD hS hA [0] rfl
    refine va_calli (va_runV (As := [.int (-2)]) (rest := []) ⟨hx, hb, hml, hown, hts⟩ (r_refuses_m2 l G _ mo (.ref nw) m1 m2 m3 mv ) (cwV 1 hts (gd_V mw_11_14 mw_11_15 mw_11_16 mw_1_5 mw_11_17) rfl rfl rfl ⟨rfl, yk_X12_refuses⟩ ⟨Nat.le_of_ble_eq_true rfl, Nat.le_of_ble_eq_true rfl⟩) (c0_preV (q0 := 0) (ci := 12) (q := (RX12, TX12, 32)) hPc hK hDc rfl rfl) rfl rfl hl.1 rfl (lv_room (Nat.le_of_ble_eq_true rfl)) dX12_none_20 ⟨Nat.le_of_ble_eq_true rfl, Nat.le_of_ble_eq_true rfl⟩) hS (fun q _ h => hFc q h) hFc (fun r_3 u t H1 locs ht1 hvm hw hB hz1 hk1 hS => ?_)
    try dsimp only at hw hB
    have hr3 := hw
    obtain rfl := hr3.symm
    obtain ⟨hP1, hD1⟩ := hB
    rw [ht1] at hP1
    obtain ⟨hP, hD⟩ := va_join (wr := [(nw, .inl (G.2 0, 15642, .inl nf))]) (w1 := [(mo, .inr (12, .ref nw :: m1 :: m2 :: .int (-2) :: mv))]) hP hD [0] [1] rfl rfl (by decide) (by decide) hk1 hFc hP1 hD1
    generalize H1 = H at hP hS ⊢
    have hP : va_P G.1 vwCl ([(nw, .inl (G.2 0, 15642, .inl nf)), (mo, .inr (12, .ref nw :: m1 :: m2 :: .int (-2) :: mv))]) H := hP
    have hD : va_D A ([(nw, .inl (G.2 0, 15642, .inl nf)), (mo, .inr (12, .ref nw :: m1 :: m2 :: .int (-2) :: mv))]) := hD
    exact W.iret (v := (-2)) hx hb hr (fun t ht hW => ⟨⟨(-2), (), rfl, rfl, trivial⟩, hS.F ht⟩) hS.2.2 dX12_none_23
  · exact absurd c_2 (by decide)

set_option maxHeartbeats 4000000 in
set_option maxRecDepth 100000 in
theorem r_read (l : Launch) (G : GG) (sz : Nat) (mo : Nat) (x1 : Int32) (x2 : Int32) (nw : Nat) (m1 : Value) (m2 : Value) (m3 : Value) (mv : List Value) (nf : Nat → Int32) (hz : ∀ j, j < 16 → nf j = 0) : Met l yX12_read (.code yX12_read cX12_read 4 (some .int) :: TT) ({ frames := 3, cells := 0, slots := 0, locals := 300 } : Room) (c0_P G [.ref mo, .int x1, .int x2] sz ([(mo, .inr (12, .ref nw :: m1 :: m2 :: m3 :: mv)), (nw, .inl (G.2 0, 15642, .inl nf))])) (va_Qi (S := Unit) (fun (r : Int32) (u : Unit) => r = (-2)) (fun (u : Unit) (t : State) => True) (va_A ([(mo, .inr (12, .ref nw :: m1 :: m2 :: m3 :: mv)), (nw, .inl (G.2 0, 15642, .inl nf))]) sz)) 0 0 (va_A ([(mo, .inr (12, .ref nw :: m1 :: m2 :: m3 :: mv)), (nw, .inl (G.2 0, 15642, .inl nf))]) sz) := by
  refine Met.ofW (cc := cX12_read) (maxL := 4) (ret := (some .int)) (by decide) rfl ?_
  intro p e s m args below meth c s₁ B hml hv
  obtain ⟨rfl, hsz, hP, hK, hD0⟩ := hv
  have hx := B.exec
  have hb := B.bytes
  have hr := B.returns
  have hts := atoms_spec (ws := .code yX12_read cX12_read 4 (some .int) :: TT) B.pre
  have ht := fun (w : Cond) (h : w ∈ TT) => hts w (List.mem_cons_of_mem _ h)
  have hown : s.vm.findClass RX12 = some m.cls := findClass_of_methodNamed B.named
  have hlocks := B.notSynchronized
  subst hsz
  have hD := hD0.self (sz := s.heap.size)
  generalize hAe : va_A ([(mo, .inr (12, .ref nw :: m1 :: m2 :: m3 :: mv)), (nw, .inl (G.2 0, 15642, .inl nf))]) s.heap.size = A at hD ⊢
  have hA : ∀ q : Nat, s.heap.size ≤ q → A q := fun q h => by rw [← hAe]; exact Or.inr h
  have hS : va_S A s.heap s.heap [] := va_S.rf
  have hP : va_P G.1 vwCl ([(mo, .inr (12, .ref nw :: m1 :: m2 :: m3 :: mv)), (nw, .inl (G.2 0, 15642, .inl nf))]) s.heap := hP
  have hl := lv_entry ([.ref mo, .int x1, .int x2]) (n := 4) (Nat.le_of_ble_eq_true rfl)
  rw [lg_entry_eq]
  generalize (lg_sl ([.ref mo, .int x1, .int x2]) ++ List.replicate (4 - (lg_sl ([.ref mo, .int x1, .int x2])).length) Slot.unset).toArray = ls at hl ⊢
  have hl : lv_has ls 4 [(0, .ref mo), (1, .int x1), (2, .int x2)] := hl
  refine lv_aload_n hx hb dX12_read_0 rfl (lv_at hl 0 rfl) ?_
  refine lv_iload_n hx hb dX12_read_1 rfl (lv_at hl 1 rfl) ?_
  have hPc := hP.sub (ws' := [(mo, .inr (12, .ref nw :: m1 :: m2 :: m3 :: mv)), (nw, .inl (G.2 0, 15642, .inl nf))]) [0, 1] rfl
  have hDc := hD.sub (ws' := [(mo, .inr (12, .ref nw :: m1 :: m2 :: m3 :: mv)), (nw, .inl (G.2 0, 15642, .inl nf))]) [0, 1] (by decide) rfl
  have hFc := va_free (wc := [(mo, .inr (12, .ref nw :: m1 :: m2 :: m3 :: mv)), (nw, .inl (G.2 0, 15642, .inl nf))]) hD hS hA [0, 1] rfl
  refine va_calli (va_runV (As := [.int x1]) (rest := []) ⟨hx, hb, hml, hown, hts⟩ (r_isGauge l G _ mo x1 nw (m1 :: m2 :: m3 :: mv) nf (by first | assumption | decide)) (cwV 1 hts (gd_V mw_21_9 mw_21_10 mw_21_11 mw_1_5 mw_21_12) rfl rfl rfl ⟨rfl, yk_X12_isGauge⟩ ⟨Nat.le_of_ble_eq_true rfl, Nat.le_of_ble_eq_true rfl⟩) (c0_preV (q0 := 0) (ci := 12) (q := (RX12, TX12, 32)) hPc hK hDc rfl rfl) rfl rfl hl.1 rfl (lv_room (Nat.le_of_ble_eq_true rfl)) dX12_read_2 ⟨Nat.le_of_ble_eq_true rfl, Nat.le_of_ble_eq_true rfl⟩) hS (fun q _ h => hFc q h) hFc (fun r_1 u t H1 locs ht1 hvm hw hB hz1 hk1 hS => ?_)
  try dsimp only at hw hB
  have hr1 := hw
  obtain rfl := hr1.symm
  obtain ⟨hP1, hD1⟩ := hB
  rw [ht1] at hP1
  obtain ⟨hP, hD⟩ := va_join (wr := []) (w1 := [(mo, .inr (12, .ref nw :: m1 :: m2 :: m3 :: mv)), (nw, .inl (G.2 0, 15642, .inl nf))]) hP hD [0, 1] [] rfl rfl (by decide) (by decide) hk1 hFc hP1 hD1
  generalize H1 = H at hP hS ⊢
  have hP : va_P G.1 vwCl ([(mo, .inr (12, .ref nw :: m1 :: m2 :: m3 :: mv)), (nw, .inl (G.2 0, 15642, .inl nf))]) H := hP
  have hD : va_D A ([(mo, .inr (12, .ref nw :: m1 :: m2 :: m3 :: mv)), (nw, .inl (G.2 0, 15642, .inl nf))]) := hD
  refine lv_if_ne (tgt := 15) hx hb dX12_read_5 (by decide) (fun c_2 => ?_) (fun c_2 => ?_)
  · exact absurd c_2 (by decide)
  · refine lv_aload_n hx hb dX12_read_8 rfl (lv_at hl 0 rfl) ?_
    refine lv_bipush (v := (-2)) hx hb dX12_read_9 (by decide) ?_
    have hPc := hP.sub (ws' := [(mo, .inr (12, .ref nw :: m1 :: m2 :: m3 :: mv))]) [0] rfl
    have hDc := hD.sub (ws' := [(mo, .inr (12, .ref nw :: m1 :: m2 :: m3 :: mv))]) [0] (by decide) rfl
    have hFc := va_free (wc := [(mo, .inr (12, .ref nw :: m1 :: m2 :: m3 :: mv))]) hD hS hA [0] rfl
    refine va_calli (va_runV (As := [.int (-2)]) (rest := []) ⟨hx, hb, hml, hown, hts⟩ (r_refuses_m2 l G _ mo (.ref nw) m1 m2 m3 mv ) (cwV 1 hts (gd_V mw_11_14 mw_11_15 mw_11_16 mw_1_5 mw_11_17) rfl rfl rfl ⟨rfl, yk_X12_refuses⟩ ⟨Nat.le_of_ble_eq_true rfl, Nat.le_of_ble_eq_true rfl⟩) (c0_preV (q0 := 0) (ci := 12) (q := (RX12, TX12, 32)) hPc hK hDc rfl rfl) rfl rfl hl.1 rfl (lv_room (Nat.le_of_ble_eq_true rfl)) dX12_read_11 ⟨Nat.le_of_ble_eq_true rfl, Nat.le_of_ble_eq_true rfl⟩) hS (fun q _ h => hFc q h) hFc (fun r_3 u t H1 locs ht1 hvm hw hB hz1 hk1 hS => ?_)
    try dsimp only at hw hB
    have hr3 := hw
    obtain rfl := hr3.symm
    obtain ⟨hP1, hD1⟩ := hB
    rw [ht1] at hP1
    obtain ⟨hP, hD⟩ := va_join (wr := [(nw, .inl (G.2 0, 15642, .inl nf))]) (w1 := [(mo, .inr (12, .ref nw :: m1 :: m2 :: .int (-2) :: mv))]) hP hD [0] [1] rfl rfl (by decide) (by decide) hk1 hFc hP1 hD1
    generalize H1 = H at hP hS ⊢
    have hP : va_P G.1 vwCl ([(nw, .inl (G.2 0, 15642, .inl nf)), (mo, .inr (12, .ref nw :: m1 :: m2 :: .int (-2) :: mv))]) H := hP
    have hD : va_D A ([(nw, .inl (G.2 0, 15642, .inl nf)), (mo, .inr (12, .ref nw :: m1 :: m2 :: .int (-2) :: mv))]) := hD
    exact W.iret (v := (-2)) hx hb hr (fun t ht hW => ⟨⟨(-2), (), rfl, rfl, trivial⟩, hS.F ht⟩) hS.2.2 dX12_read_14

set_option maxHeartbeats 4000000 in
set_option maxRecDepth 100000 in
theorem r_copy (l : Launch) (G : GG) (sz : Nat) (mo : Nat) (x1 : Int32) (x2 : Int32) (x3 : Int32) (x4 : Int32) (x5 : Int32) (nw : Nat) (m1 : Value) (m2 : Value) (m3 : Value) (mv : List Value) (nf : Nat → Int32) (hz : ∀ j, j < 16 → nf j = 0) : Met l yX12_copy (.code yX12_copy cX12_copy 7 (some .int) :: TT) ({ frames := 3, cells := 0, slots := 0, locals := 300 } : Room) (c0_P G [.ref mo, .int x1, .int x2, .int x3, .int x4, .int x5] sz ([(mo, .inr (12, .ref nw :: m1 :: m2 :: m3 :: mv)), (nw, .inl (G.2 0, 15642, .inl nf))])) (va_Qi (S := Unit) (fun (r : Int32) (u : Unit) => r = (-2)) (fun (u : Unit) (t : State) => True) (va_A ([(mo, .inr (12, .ref nw :: m1 :: m2 :: m3 :: mv)), (nw, .inl (G.2 0, 15642, .inl nf))]) sz)) 0 0 (va_A ([(mo, .inr (12, .ref nw :: m1 :: m2 :: m3 :: mv)), (nw, .inl (G.2 0, 15642, .inl nf))]) sz) := by
  refine Met.ofW (cc := cX12_copy) (maxL := 7) (ret := (some .int)) (by decide) rfl ?_
  intro p e s m args below meth c s₁ B hml hv
  obtain ⟨rfl, hsz, hP, hK, hD0⟩ := hv
  have hx := B.exec
  have hb := B.bytes
  have hr := B.returns
  have hts := atoms_spec (ws := .code yX12_copy cX12_copy 7 (some .int) :: TT) B.pre
  have ht := fun (w : Cond) (h : w ∈ TT) => hts w (List.mem_cons_of_mem _ h)
  have hown : s.vm.findClass RX12 = some m.cls := findClass_of_methodNamed B.named
  have hlocks := B.notSynchronized
  subst hsz
  have hD := hD0.self (sz := s.heap.size)
  generalize hAe : va_A ([(mo, .inr (12, .ref nw :: m1 :: m2 :: m3 :: mv)), (nw, .inl (G.2 0, 15642, .inl nf))]) s.heap.size = A at hD ⊢
  have hA : ∀ q : Nat, s.heap.size ≤ q → A q := fun q h => by rw [← hAe]; exact Or.inr h
  have hS : va_S A s.heap s.heap [] := va_S.rf
  have hP : va_P G.1 vwCl ([(mo, .inr (12, .ref nw :: m1 :: m2 :: m3 :: mv)), (nw, .inl (G.2 0, 15642, .inl nf))]) s.heap := hP
  have hl := lv_entry ([.ref mo, .int x1, .int x2, .int x3, .int x4, .int x5]) (n := 7) (Nat.le_of_ble_eq_true rfl)
  rw [lg_entry_eq]
  generalize (lg_sl ([.ref mo, .int x1, .int x2, .int x3, .int x4, .int x5]) ++ List.replicate (7 - (lg_sl ([.ref mo, .int x1, .int x2, .int x3, .int x4, .int x5])).length) Slot.unset).toArray = ls at hl ⊢
  have hl : lv_has ls 7 [(0, .ref mo), (1, .int x1), (2, .int x2), (3, .int x3), (4, .int x4), (5, .int x5)] := hl
  refine lv_aload_n hx hb dX12_copy_0 rfl (lv_at hl 0 rfl) ?_
  refine lv_iload_n hx hb dX12_copy_1 rfl (lv_at hl 1 rfl) ?_
  have hPc := hP.sub (ws' := [(mo, .inr (12, .ref nw :: m1 :: m2 :: m3 :: mv)), (nw, .inl (G.2 0, 15642, .inl nf))]) [0, 1] rfl
  have hDc := hD.sub (ws' := [(mo, .inr (12, .ref nw :: m1 :: m2 :: m3 :: mv)), (nw, .inl (G.2 0, 15642, .inl nf))]) [0, 1] (by decide) rfl
  have hFc := va_free (wc := [(mo, .inr (12, .ref nw :: m1 :: m2 :: m3 :: mv)), (nw, .inl (G.2 0, 15642, .inl nf))]) hD hS hA [0, 1] rfl
  refine va_calli (va_runV (As := [.int x1]) (rest := []) ⟨hx, hb, hml, hown, hts⟩ (r_isGauge l G _ mo x1 nw (m1 :: m2 :: m3 :: mv) nf (by first | assumption | decide)) (cwV 1 hts (gd_V mw_21_9 mw_21_10 mw_21_11 mw_1_5 mw_21_12) rfl rfl rfl ⟨rfl, yk_X12_isGauge⟩ ⟨Nat.le_of_ble_eq_true rfl, Nat.le_of_ble_eq_true rfl⟩) (c0_preV (q0 := 0) (ci := 12) (q := (RX12, TX12, 32)) hPc hK hDc rfl rfl) rfl rfl hl.1 rfl (lv_room (Nat.le_of_ble_eq_true rfl)) dX12_copy_2 ⟨Nat.le_of_ble_eq_true rfl, Nat.le_of_ble_eq_true rfl⟩) hS (fun q _ h => hFc q h) hFc (fun r_1 u t H1 locs ht1 hvm hw hB hz1 hk1 hS => ?_)
  try dsimp only at hw hB
  have hr1 := hw
  obtain rfl := hr1.symm
  obtain ⟨hP1, hD1⟩ := hB
  rw [ht1] at hP1
  obtain ⟨hP, hD⟩ := va_join (wr := []) (w1 := [(mo, .inr (12, .ref nw :: m1 :: m2 :: m3 :: mv)), (nw, .inl (G.2 0, 15642, .inl nf))]) hP hD [0, 1] [] rfl rfl (by decide) (by decide) hk1 hFc hP1 hD1
  generalize H1 = H at hP hS ⊢
  have hP : va_P G.1 vwCl ([(mo, .inr (12, .ref nw :: m1 :: m2 :: m3 :: mv)), (nw, .inl (G.2 0, 15642, .inl nf))]) H := hP
  have hD : va_D A ([(mo, .inr (12, .ref nw :: m1 :: m2 :: m3 :: mv)), (nw, .inl (G.2 0, 15642, .inl nf))]) := hD
  refine lv_if_eq (tgt := 43) hx hb dX12_copy_5 (by decide) (fun c_2 => ?_) (fun c_2 => ?_)
  · refine lv_aload_n hx hb dX12_copy_43 rfl (lv_at hl 0 rfl) ?_
    refine lv_bipush (v := (-2)) hx hb dX12_copy_44 (by decide) ?_
    have hPc := hP.sub (ws' := [(mo, .inr (12, .ref nw :: m1 :: m2 :: m3 :: mv))]) [0] rfl
    have hDc := hD.sub (ws' := [(mo, .inr (12, .ref nw :: m1 :: m2 :: m3 :: mv))]) [0] (by decide) rfl
    have hFc := va_free (wc := [(mo, .inr (12, .ref nw :: m1 :: m2 :: m3 :: mv))]) hD hS hA [0] rfl
    refine va_calli (va_runV (As := [.int (-2)]) (rest := []) ⟨hx, hb, hml, hown, hts⟩ (r_refuses_m2 l G _ mo (.ref nw) m1 m2 m3 mv ) (cwV 1 hts (gd_V mw_11_14 mw_11_15 mw_11_16 mw_1_5 mw_11_17) rfl rfl rfl ⟨rfl, yk_X12_refuses⟩ ⟨Nat.le_of_ble_eq_true rfl, Nat.le_of_ble_eq_true rfl⟩) (c0_preV (q0 := 0) (ci := 12) (q := (RX12, TX12, 32)) hPc hK hDc rfl rfl) rfl rfl hl.1 rfl (lv_room (Nat.le_of_ble_eq_true rfl)) dX12_copy_46 ⟨Nat.le_of_ble_eq_true rfl, Nat.le_of_ble_eq_true rfl⟩) hS (fun q _ h => hFc q h) hFc (fun r_3 u t H1 locs ht1 hvm hw hB hz1 hk1 hS => ?_)
    try dsimp only at hw hB
    have hr3 := hw
    obtain rfl := hr3.symm
    obtain ⟨hP1, hD1⟩ := hB
    rw [ht1] at hP1
    obtain ⟨hP, hD⟩ := va_join (wr := [(nw, .inl (G.2 0, 15642, .inl nf))]) (w1 := [(mo, .inr (12, .ref nw :: m1 :: m2 :: .int (-2) :: mv))]) hP hD [0] [1] rfl rfl (by decide) (by decide) hk1 hFc hP1 hD1
    generalize H1 = H at hP hS ⊢
    have hP : va_P G.1 vwCl ([(nw, .inl (G.2 0, 15642, .inl nf)), (mo, .inr (12, .ref nw :: m1 :: m2 :: .int (-2) :: mv))]) H := hP
    have hD : va_D A ([(nw, .inl (G.2 0, 15642, .inl nf)), (mo, .inr (12, .ref nw :: m1 :: m2 :: .int (-2) :: mv))]) := hD
    exact W.iret (v := (-2)) hx hb hr (fun t ht hW => ⟨⟨(-2), (), rfl, rfl, trivial⟩, hS.F ht⟩) hS.2.2 dX12_copy_49
  · exact absurd c_2 (by decide)

set_option maxHeartbeats 4000000 in
set_option maxRecDepth 100000 in
theorem r_copies (l : Launch) (G : GG) (sz : Nat) (mo : Nat) (x1 : Int32) (x2 : Int32) (x3 : Int32) (nw : Nat) (m1 : Value) (m2 : Value) (m3 : Value) (mv : List Value) (nf : Nat → Int32) (hz : ∀ j, j < 16 → nf j = 0) : Met l yX12_copies (.code yX12_copies cX12_copies 6 (some .int) :: TT) ({ frames := 2, cells := 0, slots := 0, locals := 200 } : Room) (c0_P G [.ref mo, .int x1, .int x2, .int x3] sz ([(mo, .inr (12, .ref nw :: m1 :: m2 :: m3 :: mv)), (nw, .inl (G.2 0, 15642, .inl nf))])) (va_Qi (S := Unit) (fun (r : Int32) (u : Unit) => r = 0) (fun (u : Unit) (t : State) => True) (va_A ([(mo, .inr (12, .ref nw :: m1 :: m2 :: m3 :: mv)), (nw, .inl (G.2 0, 15642, .inl nf))]) sz)) 0 0 (va_A ([(mo, .inr (12, .ref nw :: m1 :: m2 :: m3 :: mv)), (nw, .inl (G.2 0, 15642, .inl nf))]) sz) := by
  refine Met.ofW (cc := cX12_copies) (maxL := 6) (ret := (some .int)) (by decide) rfl ?_
  intro p e s m args below meth c s₁ B hml hv
  obtain ⟨rfl, hsz, hP, hK, hD0⟩ := hv
  have hx := B.exec
  have hb := B.bytes
  have hr := B.returns
  have hts := atoms_spec (ws := .code yX12_copies cX12_copies 6 (some .int) :: TT) B.pre
  have ht := fun (w : Cond) (h : w ∈ TT) => hts w (List.mem_cons_of_mem _ h)
  have hown : s.vm.findClass RX12 = some m.cls := findClass_of_methodNamed B.named
  have hlocks := B.notSynchronized
  subst hsz
  have hD := hD0.self (sz := s.heap.size)
  generalize hAe : va_A ([(mo, .inr (12, .ref nw :: m1 :: m2 :: m3 :: mv)), (nw, .inl (G.2 0, 15642, .inl nf))]) s.heap.size = A at hD ⊢
  have hA : ∀ q : Nat, s.heap.size ≤ q → A q := fun q h => by rw [← hAe]; exact Or.inr h
  have hS : va_S A s.heap s.heap [] := va_S.rf
  have hP : va_P G.1 vwCl ([(mo, .inr (12, .ref nw :: m1 :: m2 :: m3 :: mv)), (nw, .inl (G.2 0, 15642, .inl nf))]) s.heap := hP
  have hl := lv_entry ([.ref mo, .int x1, .int x2, .int x3]) (n := 6) (Nat.le_of_ble_eq_true rfl)
  rw [lg_entry_eq]
  generalize (lg_sl ([.ref mo, .int x1, .int x2, .int x3]) ++ List.replicate (6 - (lg_sl ([.ref mo, .int x1, .int x2, .int x3])).length) Slot.unset).toArray = ls at hl ⊢
  have hl : lv_has ls 6 [(0, .ref mo), (1, .int x1), (2, .int x2), (3, .int x3)] := hl
  refine lv_iconst (v := 0) hx hb dX12_copies_0 (by decide) ?_
  refine lv_istore (lv' := [(4, .int 0), (0, .ref mo), (1, .int x1), (2, .int x2), (3, .int x3)]) hx hb dX12_copies_1 hl (by decide) rfl (fun ls hl => ?_)
  refine lv_iconst (v := 0) hx hb dX12_copies_3 (by decide) ?_
  refine lv_istore (lv' := [(5, .int 0), (4, .int 0), (0, .ref mo), (1, .int x1), (2, .int x2), (3, .int x3)]) hx hb dX12_copies_4 hl (by decide) rfl (fun ls hl => ?_)
  refine lv_iload hx hb dX12_copies_6 (lv_at hl 1 rfl) ?_
  refine lv_aload_n hx hb dX12_copies_8 rfl (lv_at hl 2 rfl) ?_
  refine va_get (D := G.1) (ci := 12) (v := .ref nw) (C := RX12) (T := TX12) (N := 32) hx hb ht inlX12 hown hK.1 hP 0 rfl rfl 0 (by decide) (ht (Cond.fieldLink RX12 7 "PloughDepotModel" "now" "[I") mw_6_19) (fun _ h9 => h9) rfl dX12_copies_9 ?_
  refine lv_iconst (v := 2) hx hb dX12_copies_12 (by decide) ?_
  refine va_iald hx hb hK.1 hP 1 0 rfl rfl (show ¬ ((2 : Int32) < 0 ∨ 15642 ≤ (2 : Int32).toNatClampNeg) by decide) dX12_copies_13 ?_
  refine lv_topi (fun v_1 ev_1 => ?_)
  obtain rfl : 0 = v_1 := (ev_1.trans (hz _ (by decide))).symm
  refine lv_icmp_ge (tgt := 66) hx hb dX12_copies_14 (by decide) (fun c_2 => ?_) (fun c_2 => ?_)
  · refine lv_aload_n hx hb dX12_copies_66 rfl (lv_at hl 2 rfl) ?_
    refine lv_iload hx hb dX12_copies_67 (lv_at hl 0 rfl) ?_
    have hPc := hP.sub (ws' := [(mo, .inr (12, .ref nw :: m1 :: m2 :: m3 :: mv))]) [0] rfl
    have hDc := hD.sub (ws' := [(mo, .inr (12, .ref nw :: m1 :: m2 :: m3 :: mv))]) [0] (by decide) rfl
    have hFc := va_free (wc := [(mo, .inr (12, .ref nw :: m1 :: m2 :: m3 :: mv))]) hD hS hA [0] rfl
    refine va_callv (va_runV (As := [.int 0]) (rest := []) ⟨hx, hb, hml, hown, hts⟩ (r_finds_z l G _ mo (.ref nw :: m1 :: m2 :: m3 :: mv) ) (cwV 1 hts (gd_V mw_11_19 mw_11_20 mw_11_21 mw_1_5 mw_11_22) rfl rfl rfl ⟨rfl, yk_X12_finds⟩ ⟨Nat.le_of_ble_eq_true rfl, Nat.le_of_ble_eq_true rfl⟩) (c0_preV (q0 := 0) (ci := 12) (q := (RX12, TX12, 32)) hPc hK hDc rfl rfl) rfl rfl hl.1 rfl (lv_room (Nat.le_of_ble_eq_true rfl)) dX12_copies_69 ⟨Nat.le_of_ble_eq_true rfl, Nat.le_of_ble_eq_true rfl⟩) hS (fun q _ h => hFc q h) hFc (fun u t H1 locs ht1 hvm hw hB hz1 hk1 hS => ?_)
    try dsimp only at hw hB
    obtain ⟨hP1, hD1⟩ := hB
    rw [ht1] at hP1
    obtain ⟨hP, hD⟩ := va_join (wr := [(nw, .inl (G.2 0, 15642, .inl nf))]) (w1 := [(mo, .inr (12, .ref nw :: m1 :: m2 :: m3 :: mv))]) hP hD [0] [1] rfl rfl (by decide) (by decide) hk1 hFc hP1 hD1
    generalize H1 = H at hP hS ⊢
    have hP : va_P G.1 vwCl ([(nw, .inl (G.2 0, 15642, .inl nf)), (mo, .inr (12, .ref nw :: m1 :: m2 :: m3 :: mv))]) H := hP
    have hD : va_D A ([(nw, .inl (G.2 0, 15642, .inl nf)), (mo, .inr (12, .ref nw :: m1 :: m2 :: m3 :: mv))]) := hD
    refine lv_aload_n hx hb dX12_copies_72 rfl (lv_at hl 2 rfl) ?_
    refine lv_iload hx hb dX12_copies_73 (lv_at hl 0 rfl) ?_
    refine va_put (D := G.1) (ci := 12) (v := .int 0) (ty := tyX12 3) (C := RX12) (T := TX12) (N := 32) hx hb ht inlX12 tyX12 tyX12_ok nmX12 hown hK.1 hP hD hS 1 rfl rfl 3 (by decide) (ht (Cond.fieldLink RX12 76 "PloughDepotModel" "status" "I") mw_11_18) (fun _ h9 => h9) rfl (tyX12_ok 3 (by decide)) rfl rfl (by simp) dX12_copies_75 (fun H locs hP hD hS => ?_)
    have hP : va_P G.1 vwCl ([(nw, .inl (G.2 0, 15642, .inl nf)), (mo, .inr (12, .ref nw :: m1 :: m2 :: .int 0 :: mv))]) H := hP
    have hD : va_D A ([(nw, .inl (G.2 0, 15642, .inl nf)), (mo, .inr (12, .ref nw :: m1 :: m2 :: .int 0 :: mv))]) := hD
    refine lv_iload hx hb dX12_copies_78 (lv_at hl 1 rfl) ?_
    exact W.iret (v := 0) hx hb hr (fun t ht hW => ⟨⟨0, (), rfl, rfl, trivial⟩, hS.F ht⟩) hS.2.2 dX12_copies_80
  · exact absurd c_2 (by decide)

set_option maxHeartbeats 4000000 in
set_option maxRecDepth 100000 in
theorem r_pair (l : Launch) (G : GG) (sz : Nat) (mo : Nat) (x1 : Int32) (x2 : Int32) (x3 : Int32) (nw : Nat) (m1 : Value) (m2 : Value) (m3 : Value) (mv : List Value) (nf : Nat → Int32) (hz : ∀ j, j < 16 → nf j = 0) : Met l yX12_pair (.code yX12_pair cX12_pair 5 (some .int) :: TT) ({ frames := 3, cells := 0, slots := 0, locals := 300 } : Room) (c0_P G [.ref mo, .int x1, .int x2, .int x3] sz ([(mo, .inr (12, .ref nw :: m1 :: m2 :: m3 :: mv)), (nw, .inl (G.2 0, 15642, .inl nf))])) (va_Qi (S := Unit) (fun (r : Int32) (u : Unit) => r = (-2)) (fun (u : Unit) (t : State) => True) (va_A ([(mo, .inr (12, .ref nw :: m1 :: m2 :: m3 :: mv)), (nw, .inl (G.2 0, 15642, .inl nf))]) sz)) 0 0 (va_A ([(mo, .inr (12, .ref nw :: m1 :: m2 :: m3 :: mv)), (nw, .inl (G.2 0, 15642, .inl nf))]) sz) := by
  refine Met.ofW (cc := cX12_pair) (maxL := 5) (ret := (some .int)) (by decide) rfl ?_
  intro p e s m args below meth c s₁ B hml hv
  obtain ⟨rfl, hsz, hP, hK, hD0⟩ := hv
  have hx := B.exec
  have hb := B.bytes
  have hr := B.returns
  have hts := atoms_spec (ws := .code yX12_pair cX12_pair 5 (some .int) :: TT) B.pre
  have ht := fun (w : Cond) (h : w ∈ TT) => hts w (List.mem_cons_of_mem _ h)
  have hown : s.vm.findClass RX12 = some m.cls := findClass_of_methodNamed B.named
  have hlocks := B.notSynchronized
  subst hsz
  have hD := hD0.self (sz := s.heap.size)
  generalize hAe : va_A ([(mo, .inr (12, .ref nw :: m1 :: m2 :: m3 :: mv)), (nw, .inl (G.2 0, 15642, .inl nf))]) s.heap.size = A at hD ⊢
  have hA : ∀ q : Nat, s.heap.size ≤ q → A q := fun q h => by rw [← hAe]; exact Or.inr h
  have hS : va_S A s.heap s.heap [] := va_S.rf
  have hP : va_P G.1 vwCl ([(mo, .inr (12, .ref nw :: m1 :: m2 :: m3 :: mv)), (nw, .inl (G.2 0, 15642, .inl nf))]) s.heap := hP
  have hl := lv_entry ([.ref mo, .int x1, .int x2, .int x3]) (n := 5) (Nat.le_of_ble_eq_true rfl)
  rw [lg_entry_eq]
  generalize (lg_sl ([.ref mo, .int x1, .int x2, .int x3]) ++ List.replicate (5 - (lg_sl ([.ref mo, .int x1, .int x2, .int x3])).length) Slot.unset).toArray = ls at hl ⊢
  have hl : lv_has ls 5 [(0, .ref mo), (1, .int x1), (2, .int x2), (3, .int x3)] := hl
  refine lv_aload_n hx hb dX12_pair_0 rfl (lv_at hl 0 rfl) ?_
  refine lv_iload_n hx hb dX12_pair_1 rfl (lv_at hl 1 rfl) ?_
  have hPc := hP.sub (ws' := [(mo, .inr (12, .ref nw :: m1 :: m2 :: m3 :: mv)), (nw, .inl (G.2 0, 15642, .inl nf))]) [0, 1] rfl
  have hDc := hD.sub (ws' := [(mo, .inr (12, .ref nw :: m1 :: m2 :: m3 :: mv)), (nw, .inl (G.2 0, 15642, .inl nf))]) [0, 1] (by decide) rfl
  have hFc := va_free (wc := [(mo, .inr (12, .ref nw :: m1 :: m2 :: m3 :: mv)), (nw, .inl (G.2 0, 15642, .inl nf))]) hD hS hA [0, 1] rfl
  refine va_calli (va_runV (As := [.int x1]) (rest := []) ⟨hx, hb, hml, hown, hts⟩ (r_isPlough l G _ mo x1 nw (m1 :: m2 :: m3 :: mv) nf (by first | assumption | decide)) (cwV 1 hts (gd_V mw_32_23 mw_33_0 mw_33_1 mw_1_5 mw_33_2) rfl rfl rfl ⟨rfl, yk_X12_isPlough⟩ ⟨Nat.le_of_ble_eq_true rfl, Nat.le_of_ble_eq_true rfl⟩) (c0_preV (q0 := 0) (ci := 12) (q := (RX12, TX12, 32)) hPc hK hDc rfl rfl) rfl rfl hl.1 rfl (lv_room (Nat.le_of_ble_eq_true rfl)) dX12_pair_2 ⟨Nat.le_of_ble_eq_true rfl, Nat.le_of_ble_eq_true rfl⟩) hS (fun q _ h => hFc q h) hFc (fun r_1 u t H1 locs ht1 hvm hw hB hz1 hk1 hS => ?_)
  try dsimp only at hw hB
  have hr1 := hw
  obtain rfl := hr1.symm
  obtain ⟨hP1, hD1⟩ := hB
  rw [ht1] at hP1
  obtain ⟨hP, hD⟩ := va_join (wr := []) (w1 := [(mo, .inr (12, .ref nw :: m1 :: m2 :: m3 :: mv)), (nw, .inl (G.2 0, 15642, .inl nf))]) hP hD [0, 1] [] rfl rfl (by decide) (by decide) hk1 hFc hP1 hD1
  generalize H1 = H at hP hS ⊢
  have hP : va_P G.1 vwCl ([(mo, .inr (12, .ref nw :: m1 :: m2 :: m3 :: mv)), (nw, .inl (G.2 0, 15642, .inl nf))]) H := hP
  have hD : va_D A ([(mo, .inr (12, .ref nw :: m1 :: m2 :: m3 :: mv)), (nw, .inl (G.2 0, 15642, .inl nf))]) := hD
  refine lv_if_eq (tgt := 32) hx hb dX12_pair_5 (by decide) (fun c_2 => ?_) (fun c_2 => ?_)
  · refine lv_aload_n hx hb dX12_pair_32 rfl (lv_at hl 0 rfl) ?_
    refine lv_bipush (v := (-2)) hx hb dX12_pair_33 (by decide) ?_
    have hPc := hP.sub (ws' := [(mo, .inr (12, .ref nw :: m1 :: m2 :: m3 :: mv))]) [0] rfl
    have hDc := hD.sub (ws' := [(mo, .inr (12, .ref nw :: m1 :: m2 :: m3 :: mv))]) [0] (by decide) rfl
    have hFc := va_free (wc := [(mo, .inr (12, .ref nw :: m1 :: m2 :: m3 :: mv))]) hD hS hA [0] rfl
    refine va_calli (va_runV (As := [.int (-2)]) (rest := []) ⟨hx, hb, hml, hown, hts⟩ (r_refuses_m2 l G _ mo (.ref nw) m1 m2 m3 mv ) (cwV 1 hts (gd_V mw_11_14 mw_11_15 mw_11_16 mw_1_5 mw_11_17) rfl rfl rfl ⟨rfl, yk_X12_refuses⟩ ⟨Nat.le_of_ble_eq_true rfl, Nat.le_of_ble_eq_true rfl⟩) (c0_preV (q0 := 0) (ci := 12) (q := (RX12, TX12, 32)) hPc hK hDc rfl rfl) rfl rfl hl.1 rfl (lv_room (Nat.le_of_ble_eq_true rfl)) dX12_pair_35 ⟨Nat.le_of_ble_eq_true rfl, Nat.le_of_ble_eq_true rfl⟩) hS (fun q _ h => hFc q h) hFc (fun r_3 u t H1 locs ht1 hvm hw hB hz1 hk1 hS => ?_)
    try dsimp only at hw hB
    have hr3 := hw
    obtain rfl := hr3.symm
    obtain ⟨hP1, hD1⟩ := hB
    rw [ht1] at hP1
    obtain ⟨hP, hD⟩ := va_join (wr := [(nw, .inl (G.2 0, 15642, .inl nf))]) (w1 := [(mo, .inr (12, .ref nw :: m1 :: m2 :: .int (-2) :: mv))]) hP hD [0] [1] rfl rfl (by decide) (by decide) hk1 hFc hP1 hD1
    generalize H1 = H at hP hS ⊢
    have hP : va_P G.1 vwCl ([(nw, .inl (G.2 0, 15642, .inl nf)), (mo, .inr (12, .ref nw :: m1 :: m2 :: .int (-2) :: mv))]) H := hP
    have hD : va_D A ([(nw, .inl (G.2 0, 15642, .inl nf)), (mo, .inr (12, .ref nw :: m1 :: m2 :: .int (-2) :: mv))]) := hD
    exact W.iret (v := (-2)) hx hb hr (fun t ht hW => ⟨⟨(-2), (), rfl, rfl, trivial⟩, hS.F ht⟩) hS.2.2 dX12_pair_38
  · exact absurd c_2 (by decide)

set_option maxHeartbeats 4000000 in
set_option maxRecDepth 100000 in
theorem r_out (l : Launch) (G : GG) (sz : Nat) (mo : Nat) (x1 : Int32) (nw : Nat) (m1 : Value) (m2 : Value) (m3 : Value) (mv : List Value) (nf : Nat → Int32) (hz : ∀ j, j < 16 → nf j = 0) : Met l yX12_out (.code yX12_out cX12_out 3 (some .int) :: TT) ({ frames := 3, cells := 0, slots := 0, locals := 300 } : Room) (c0_P G [.ref mo, .int x1] sz ([(mo, .inr (12, .ref nw :: m1 :: m2 :: m3 :: mv)), (nw, .inl (G.2 0, 15642, .inl nf))])) (va_Qi (S := Unit) (fun (r : Int32) (u : Unit) => r = (-2)) (fun (u : Unit) (t : State) => True) (va_A ([(mo, .inr (12, .ref nw :: m1 :: m2 :: m3 :: mv)), (nw, .inl (G.2 0, 15642, .inl nf))]) sz)) 0 0 (va_A ([(mo, .inr (12, .ref nw :: m1 :: m2 :: m3 :: mv)), (nw, .inl (G.2 0, 15642, .inl nf))]) sz) := by
  refine Met.ofW (cc := cX12_out) (maxL := 3) (ret := (some .int)) (by decide) rfl ?_
  intro p e s m args below meth c s₁ B hml hv
  obtain ⟨rfl, hsz, hP, hK, hD0⟩ := hv
  have hx := B.exec
  have hb := B.bytes
  have hr := B.returns
  have hts := atoms_spec (ws := .code yX12_out cX12_out 3 (some .int) :: TT) B.pre
  have ht := fun (w : Cond) (h : w ∈ TT) => hts w (List.mem_cons_of_mem _ h)
  have hown : s.vm.findClass RX12 = some m.cls := findClass_of_methodNamed B.named
  have hlocks := B.notSynchronized
  subst hsz
  have hD := hD0.self (sz := s.heap.size)
  generalize hAe : va_A ([(mo, .inr (12, .ref nw :: m1 :: m2 :: m3 :: mv)), (nw, .inl (G.2 0, 15642, .inl nf))]) s.heap.size = A at hD ⊢
  have hA : ∀ q : Nat, s.heap.size ≤ q → A q := fun q h => by rw [← hAe]; exact Or.inr h
  have hS : va_S A s.heap s.heap [] := va_S.rf
  have hP : va_P G.1 vwCl ([(mo, .inr (12, .ref nw :: m1 :: m2 :: m3 :: mv)), (nw, .inl (G.2 0, 15642, .inl nf))]) s.heap := hP
  have hl := lv_entry ([.ref mo, .int x1]) (n := 3) (Nat.le_of_ble_eq_true rfl)
  rw [lg_entry_eq]
  generalize (lg_sl ([.ref mo, .int x1]) ++ List.replicate (3 - (lg_sl ([.ref mo, .int x1])).length) Slot.unset).toArray = ls at hl ⊢
  have hl : lv_has ls 3 [(0, .ref mo), (1, .int x1)] := hl
  refine lv_aload_n hx hb dX12_out_0 rfl (lv_at hl 0 rfl) ?_
  refine lv_iload_n hx hb dX12_out_1 rfl (lv_at hl 1 rfl) ?_
  have hPc := hP.sub (ws' := [(mo, .inr (12, .ref nw :: m1 :: m2 :: m3 :: mv)), (nw, .inl (G.2 0, 15642, .inl nf))]) [0, 1] rfl
  have hDc := hD.sub (ws' := [(mo, .inr (12, .ref nw :: m1 :: m2 :: m3 :: mv)), (nw, .inl (G.2 0, 15642, .inl nf))]) [0, 1] (by decide) rfl
  have hFc := va_free (wc := [(mo, .inr (12, .ref nw :: m1 :: m2 :: m3 :: mv)), (nw, .inl (G.2 0, 15642, .inl nf))]) hD hS hA [0, 1] rfl
  refine va_calli (va_runV (As := [.int x1]) (rest := []) ⟨hx, hb, hml, hown, hts⟩ (r_isPlough l G _ mo x1 nw (m1 :: m2 :: m3 :: mv) nf (by first | assumption | decide)) (cwV 1 hts (gd_V mw_32_23 mw_33_0 mw_33_1 mw_1_5 mw_33_2) rfl rfl rfl ⟨rfl, yk_X12_isPlough⟩ ⟨Nat.le_of_ble_eq_true rfl, Nat.le_of_ble_eq_true rfl⟩) (c0_preV (q0 := 0) (ci := 12) (q := (RX12, TX12, 32)) hPc hK hDc rfl rfl) rfl rfl hl.1 rfl (lv_room (Nat.le_of_ble_eq_true rfl)) dX12_out_2 ⟨Nat.le_of_ble_eq_true rfl, Nat.le_of_ble_eq_true rfl⟩) hS (fun q _ h => hFc q h) hFc (fun r_1 u t H1 locs ht1 hvm hw hB hz1 hk1 hS => ?_)
  try dsimp only at hw hB
  have hr1 := hw
  obtain rfl := hr1.symm
  obtain ⟨hP1, hD1⟩ := hB
  rw [ht1] at hP1
  obtain ⟨hP, hD⟩ := va_join (wr := []) (w1 := [(mo, .inr (12, .ref nw :: m1 :: m2 :: m3 :: mv)), (nw, .inl (G.2 0, 15642, .inl nf))]) hP hD [0, 1] [] rfl rfl (by decide) (by decide) hk1 hFc hP1 hD1
  generalize H1 = H at hP hS ⊢
  have hP : va_P G.1 vwCl ([(mo, .inr (12, .ref nw :: m1 :: m2 :: m3 :: mv)), (nw, .inl (G.2 0, 15642, .inl nf))]) H := hP
  have hD : va_D A ([(mo, .inr (12, .ref nw :: m1 :: m2 :: m3 :: mv)), (nw, .inl (G.2 0, 15642, .inl nf))]) := hD
  refine lv_if_ne (tgt := 15) hx hb dX12_out_5 (by decide) (fun c_2 => ?_) (fun c_2 => ?_)
  · exact absurd c_2 (by decide)
  · refine lv_aload_n hx hb dX12_out_8 rfl (lv_at hl 0 rfl) ?_
    refine lv_bipush (v := (-2)) hx hb dX12_out_9 (by decide) ?_
    have hPc := hP.sub (ws' := [(mo, .inr (12, .ref nw :: m1 :: m2 :: m3 :: mv))]) [0] rfl
    have hDc := hD.sub (ws' := [(mo, .inr (12, .ref nw :: m1 :: m2 :: m3 :: mv))]) [0] (by decide) rfl
    have hFc := va_free (wc := [(mo, .inr (12, .ref nw :: m1 :: m2 :: m3 :: mv))]) hD hS hA [0] rfl
    refine va_calli (va_runV (As := [.int (-2)]) (rest := []) ⟨hx, hb, hml, hown, hts⟩ (r_refuses_m2 l G _ mo (.ref nw) m1 m2 m3 mv ) (cwV 1 hts (gd_V mw_11_14 mw_11_15 mw_11_16 mw_1_5 mw_11_17) rfl rfl rfl ⟨rfl, yk_X12_refuses⟩ ⟨Nat.le_of_ble_eq_true rfl, Nat.le_of_ble_eq_true rfl⟩) (c0_preV (q0 := 0) (ci := 12) (q := (RX12, TX12, 32)) hPc hK hDc rfl rfl) rfl rfl hl.1 rfl (lv_room (Nat.le_of_ble_eq_true rfl)) dX12_out_11 ⟨Nat.le_of_ble_eq_true rfl, Nat.le_of_ble_eq_true rfl⟩) hS (fun q _ h => hFc q h) hFc (fun r_3 u t H1 locs ht1 hvm hw hB hz1 hk1 hS => ?_)
    try dsimp only at hw hB
    have hr3 := hw
    obtain rfl := hr3.symm
    obtain ⟨hP1, hD1⟩ := hB
    rw [ht1] at hP1
    obtain ⟨hP, hD⟩ := va_join (wr := [(nw, .inl (G.2 0, 15642, .inl nf))]) (w1 := [(mo, .inr (12, .ref nw :: m1 :: m2 :: .int (-2) :: mv))]) hP hD [0] [1] rfl rfl (by decide) (by decide) hk1 hFc hP1 hD1
    generalize H1 = H at hP hS ⊢
    have hP : va_P G.1 vwCl ([(nw, .inl (G.2 0, 15642, .inl nf)), (mo, .inr (12, .ref nw :: m1 :: m2 :: .int (-2) :: mv))]) H := hP
    have hD : va_D A ([(nw, .inl (G.2 0, 15642, .inl nf)), (mo, .inr (12, .ref nw :: m1 :: m2 :: .int (-2) :: mv))]) := hD
    exact W.iret (v := (-2)) hx hb hr (fun t ht hW => ⟨⟨(-2), (), rfl, rfl, trivial⟩, hS.F ht⟩) hS.2.2 dX12_out_14

set_option maxHeartbeats 4000000 in
set_option maxRecDepth 100000 in
theorem r_asks (l : Launch) (G : GG) (sz : Nat) (mo : Nat) (x1 : Int32) (x2 : Int32) (x3 : Int32) (nw : Nat) (m1 : Value) (m2 : Value) (m3 : Value) (mv : List Value) (nf : Nat → Int32) (hz : ∀ j, j < 16 → nf j = 0) : Met l yX12_asks (.code yX12_asks cX12_asks 5 (some .int) :: TT) ({ frames := 3, cells := 0, slots := 0, locals := 300 } : Room) (c0_P G [.ref mo, .int x1, .int x2, .int x3] sz ([(mo, .inr (12, .ref nw :: m1 :: m2 :: m3 :: mv)), (nw, .inl (G.2 0, 15642, .inl nf))])) (va_Qi (S := Unit) (fun (r : Int32) (u : Unit) => r = (-2)) (fun (u : Unit) (t : State) => True) (va_A ([(mo, .inr (12, .ref nw :: m1 :: m2 :: m3 :: mv)), (nw, .inl (G.2 0, 15642, .inl nf))]) sz)) 0 0 (va_A ([(mo, .inr (12, .ref nw :: m1 :: m2 :: m3 :: mv)), (nw, .inl (G.2 0, 15642, .inl nf))]) sz) := by
  refine Met.ofW (cc := cX12_asks) (maxL := 5) (ret := (some .int)) (by decide) rfl ?_
  intro p e s m args below meth c s₁ B hml hv
  obtain ⟨rfl, hsz, hP, hK, hD0⟩ := hv
  have hx := B.exec
  have hb := B.bytes
  have hr := B.returns
  have hts := atoms_spec (ws := .code yX12_asks cX12_asks 5 (some .int) :: TT) B.pre
  have ht := fun (w : Cond) (h : w ∈ TT) => hts w (List.mem_cons_of_mem _ h)
  have hown : s.vm.findClass RX12 = some m.cls := findClass_of_methodNamed B.named
  have hlocks := B.notSynchronized
  subst hsz
  have hD := hD0.self (sz := s.heap.size)
  generalize hAe : va_A ([(mo, .inr (12, .ref nw :: m1 :: m2 :: m3 :: mv)), (nw, .inl (G.2 0, 15642, .inl nf))]) s.heap.size = A at hD ⊢
  have hA : ∀ q : Nat, s.heap.size ≤ q → A q := fun q h => by rw [← hAe]; exact Or.inr h
  have hS : va_S A s.heap s.heap [] := va_S.rf
  have hP : va_P G.1 vwCl ([(mo, .inr (12, .ref nw :: m1 :: m2 :: m3 :: mv)), (nw, .inl (G.2 0, 15642, .inl nf))]) s.heap := hP
  have hl := lv_entry ([.ref mo, .int x1, .int x2, .int x3]) (n := 5) (Nat.le_of_ble_eq_true rfl)
  rw [lg_entry_eq]
  generalize (lg_sl ([.ref mo, .int x1, .int x2, .int x3]) ++ List.replicate (5 - (lg_sl ([.ref mo, .int x1, .int x2, .int x3])).length) Slot.unset).toArray = ls at hl ⊢
  have hl : lv_has ls 5 [(0, .ref mo), (1, .int x1), (2, .int x2), (3, .int x3)] := hl
  refine lv_aload_n hx hb dX12_asks_0 rfl (lv_at hl 0 rfl) ?_
  refine lv_iload_n hx hb dX12_asks_1 rfl (lv_at hl 1 rfl) ?_
  have hPc := hP.sub (ws' := [(mo, .inr (12, .ref nw :: m1 :: m2 :: m3 :: mv)), (nw, .inl (G.2 0, 15642, .inl nf))]) [0, 1] rfl
  have hDc := hD.sub (ws' := [(mo, .inr (12, .ref nw :: m1 :: m2 :: m3 :: mv)), (nw, .inl (G.2 0, 15642, .inl nf))]) [0, 1] (by decide) rfl
  have hFc := va_free (wc := [(mo, .inr (12, .ref nw :: m1 :: m2 :: m3 :: mv)), (nw, .inl (G.2 0, 15642, .inl nf))]) hD hS hA [0, 1] rfl
  refine va_calli (va_runV (As := [.int x1]) (rest := []) ⟨hx, hb, hml, hown, hts⟩ (r_isPlough l G _ mo x1 nw (m1 :: m2 :: m3 :: mv) nf (by first | assumption | decide)) (cwV 1 hts (gd_V mw_32_23 mw_33_0 mw_33_1 mw_1_5 mw_33_2) rfl rfl rfl ⟨rfl, yk_X12_isPlough⟩ ⟨Nat.le_of_ble_eq_true rfl, Nat.le_of_ble_eq_true rfl⟩) (c0_preV (q0 := 0) (ci := 12) (q := (RX12, TX12, 32)) hPc hK hDc rfl rfl) rfl rfl hl.1 rfl (lv_room (Nat.le_of_ble_eq_true rfl)) dX12_asks_2 ⟨Nat.le_of_ble_eq_true rfl, Nat.le_of_ble_eq_true rfl⟩) hS (fun q _ h => hFc q h) hFc (fun r_1 u t H1 locs ht1 hvm hw hB hz1 hk1 hS => ?_)
  try dsimp only at hw hB
  have hr1 := hw
  obtain rfl := hr1.symm
  obtain ⟨hP1, hD1⟩ := hB
  rw [ht1] at hP1
  obtain ⟨hP, hD⟩ := va_join (wr := []) (w1 := [(mo, .inr (12, .ref nw :: m1 :: m2 :: m3 :: mv)), (nw, .inl (G.2 0, 15642, .inl nf))]) hP hD [0, 1] [] rfl rfl (by decide) (by decide) hk1 hFc hP1 hD1
  generalize H1 = H at hP hS ⊢
  have hP : va_P G.1 vwCl ([(mo, .inr (12, .ref nw :: m1 :: m2 :: m3 :: mv)), (nw, .inl (G.2 0, 15642, .inl nf))]) H := hP
  have hD : va_D A ([(mo, .inr (12, .ref nw :: m1 :: m2 :: m3 :: mv)), (nw, .inl (G.2 0, 15642, .inl nf))]) := hD
  refine lv_if_eq (tgt := 25) hx hb dX12_asks_5 (by decide) (fun c_2 => ?_) (fun c_2 => ?_)
  · refine lv_aload_n hx hb dX12_asks_25 rfl (lv_at hl 0 rfl) ?_
    refine lv_bipush (v := (-2)) hx hb dX12_asks_26 (by decide) ?_
    have hPc := hP.sub (ws' := [(mo, .inr (12, .ref nw :: m1 :: m2 :: m3 :: mv))]) [0] rfl
    have hDc := hD.sub (ws' := [(mo, .inr (12, .ref nw :: m1 :: m2 :: m3 :: mv))]) [0] (by decide) rfl
    have hFc := va_free (wc := [(mo, .inr (12, .ref nw :: m1 :: m2 :: m3 :: mv))]) hD hS hA [0] rfl
    refine va_calli (va_runV (As := [.int (-2)]) (rest := []) ⟨hx, hb, hml, hown, hts⟩ (r_refuses_m2 l G _ mo (.ref nw) m1 m2 m3 mv ) (cwV 1 hts (gd_V mw_11_14 mw_11_15 mw_11_16 mw_1_5 mw_11_17) rfl rfl rfl ⟨rfl, yk_X12_refuses⟩ ⟨Nat.le_of_ble_eq_true rfl, Nat.le_of_ble_eq_true rfl⟩) (c0_preV (q0 := 0) (ci := 12) (q := (RX12, TX12, 32)) hPc hK hDc rfl rfl) rfl rfl hl.1 rfl (lv_room (Nat.le_of_ble_eq_true rfl)) dX12_asks_28 ⟨Nat.le_of_ble_eq_true rfl, Nat.le_of_ble_eq_true rfl⟩) hS (fun q _ h => hFc q h) hFc (fun r_3 u t H1 locs ht1 hvm hw hB hz1 hk1 hS => ?_)
    try dsimp only at hw hB
    have hr3 := hw
    obtain rfl := hr3.symm
    obtain ⟨hP1, hD1⟩ := hB
    rw [ht1] at hP1
    obtain ⟨hP, hD⟩ := va_join (wr := [(nw, .inl (G.2 0, 15642, .inl nf))]) (w1 := [(mo, .inr (12, .ref nw :: m1 :: m2 :: .int (-2) :: mv))]) hP hD [0] [1] rfl rfl (by decide) (by decide) hk1 hFc hP1 hD1
    generalize H1 = H at hP hS ⊢
    have hP : va_P G.1 vwCl ([(nw, .inl (G.2 0, 15642, .inl nf)), (mo, .inr (12, .ref nw :: m1 :: m2 :: .int (-2) :: mv))]) H := hP
    have hD : va_D A ([(nw, .inl (G.2 0, 15642, .inl nf)), (mo, .inr (12, .ref nw :: m1 :: m2 :: .int (-2) :: mv))]) := hD
    exact W.iret (v := (-2)) hx hb hr (fun t ht hW => ⟨⟨(-2), (), rfl, rfl, trivial⟩, hS.F ht⟩) hS.2.2 dX12_asks_31
  · exact absurd c_2 (by decide)

set_option maxHeartbeats 4000000 in
set_option maxRecDepth 100000 in
theorem r_salt (l : Launch) (G : GG) (sz : Nat) (mo : Nat) (x1 : Int32) (x2 : Int32) (nw : Nat) (m1 : Value) (m2 : Value) (m3 : Value) (mv : List Value) (nf : Nat → Int32) (hz : ∀ j, j < 16 → nf j = 0) : Met l yX12_salt (.code yX12_salt cX12_salt 3 (some .int) :: TT) ({ frames := 3, cells := 0, slots := 0, locals := 300 } : Room) (c0_P G [.ref mo, .int x1, .int x2] sz ([(mo, .inr (12, .ref nw :: m1 :: m2 :: m3 :: mv)), (nw, .inl (G.2 0, 15642, .inl nf))])) (va_Qi (S := Unit) (fun (r : Int32) (u : Unit) => r = (-2)) (fun (u : Unit) (t : State) => True) (va_A ([(mo, .inr (12, .ref nw :: m1 :: m2 :: m3 :: mv)), (nw, .inl (G.2 0, 15642, .inl nf))]) sz)) 0 0 (va_A ([(mo, .inr (12, .ref nw :: m1 :: m2 :: m3 :: mv)), (nw, .inl (G.2 0, 15642, .inl nf))]) sz) := by
  refine Met.ofW (cc := cX12_salt) (maxL := 3) (ret := (some .int)) (by decide) rfl ?_
  intro p e s m args below meth c s₁ B hml hv
  obtain ⟨rfl, hsz, hP, hK, hD0⟩ := hv
  have hx := B.exec
  have hb := B.bytes
  have hr := B.returns
  have hts := atoms_spec (ws := .code yX12_salt cX12_salt 3 (some .int) :: TT) B.pre
  have ht := fun (w : Cond) (h : w ∈ TT) => hts w (List.mem_cons_of_mem _ h)
  have hown : s.vm.findClass RX12 = some m.cls := findClass_of_methodNamed B.named
  have hlocks := B.notSynchronized
  subst hsz
  have hD := hD0.self (sz := s.heap.size)
  generalize hAe : va_A ([(mo, .inr (12, .ref nw :: m1 :: m2 :: m3 :: mv)), (nw, .inl (G.2 0, 15642, .inl nf))]) s.heap.size = A at hD ⊢
  have hA : ∀ q : Nat, s.heap.size ≤ q → A q := fun q h => by rw [← hAe]; exact Or.inr h
  have hS : va_S A s.heap s.heap [] := va_S.rf
  have hP : va_P G.1 vwCl ([(mo, .inr (12, .ref nw :: m1 :: m2 :: m3 :: mv)), (nw, .inl (G.2 0, 15642, .inl nf))]) s.heap := hP
  have hl := lv_entry ([.ref mo, .int x1, .int x2]) (n := 3) (Nat.le_of_ble_eq_true rfl)
  rw [lg_entry_eq]
  generalize (lg_sl ([.ref mo, .int x1, .int x2]) ++ List.replicate (3 - (lg_sl ([.ref mo, .int x1, .int x2])).length) Slot.unset).toArray = ls at hl ⊢
  have hl : lv_has ls 3 [(0, .ref mo), (1, .int x1), (2, .int x2)] := hl
  refine lv_aload_n hx hb dX12_salt_0 rfl (lv_at hl 0 rfl) ?_
  refine lv_iload_n hx hb dX12_salt_1 rfl (lv_at hl 1 rfl) ?_
  have hPc := hP.sub (ws' := [(mo, .inr (12, .ref nw :: m1 :: m2 :: m3 :: mv)), (nw, .inl (G.2 0, 15642, .inl nf))]) [0, 1] rfl
  have hDc := hD.sub (ws' := [(mo, .inr (12, .ref nw :: m1 :: m2 :: m3 :: mv)), (nw, .inl (G.2 0, 15642, .inl nf))]) [0, 1] (by decide) rfl
  have hFc := va_free (wc := [(mo, .inr (12, .ref nw :: m1 :: m2 :: m3 :: mv)), (nw, .inl (G.2 0, 15642, .inl nf))]) hD hS hA [0, 1] rfl
  refine va_calli (va_runV (As := [.int x1]) (rest := []) ⟨hx, hb, hml, hown, hts⟩ (r_isPlough l G _ mo x1 nw (m1 :: m2 :: m3 :: mv) nf (by first | assumption | decide)) (cwV 1 hts (gd_V mw_32_23 mw_33_0 mw_33_1 mw_1_5 mw_33_2) rfl rfl rfl ⟨rfl, yk_X12_isPlough⟩ ⟨Nat.le_of_ble_eq_true rfl, Nat.le_of_ble_eq_true rfl⟩) (c0_preV (q0 := 0) (ci := 12) (q := (RX12, TX12, 32)) hPc hK hDc rfl rfl) rfl rfl hl.1 rfl (lv_room (Nat.le_of_ble_eq_true rfl)) dX12_salt_2 ⟨Nat.le_of_ble_eq_true rfl, Nat.le_of_ble_eq_true rfl⟩) hS (fun q _ h => hFc q h) hFc (fun r_1 u t H1 locs ht1 hvm hw hB hz1 hk1 hS => ?_)
  try dsimp only at hw hB
  have hr1 := hw
  obtain rfl := hr1.symm
  obtain ⟨hP1, hD1⟩ := hB
  rw [ht1] at hP1
  obtain ⟨hP, hD⟩ := va_join (wr := []) (w1 := [(mo, .inr (12, .ref nw :: m1 :: m2 :: m3 :: mv)), (nw, .inl (G.2 0, 15642, .inl nf))]) hP hD [0, 1] [] rfl rfl (by decide) (by decide) hk1 hFc hP1 hD1
  generalize H1 = H at hP hS ⊢
  have hP : va_P G.1 vwCl ([(mo, .inr (12, .ref nw :: m1 :: m2 :: m3 :: mv)), (nw, .inl (G.2 0, 15642, .inl nf))]) H := hP
  have hD : va_D A ([(mo, .inr (12, .ref nw :: m1 :: m2 :: m3 :: mv)), (nw, .inl (G.2 0, 15642, .inl nf))]) := hD
  refine lv_if_eq (tgt := 16) hx hb dX12_salt_5 (by decide) (fun c_2 => ?_) (fun c_2 => ?_)
  · refine lv_aload_n hx hb dX12_salt_16 rfl (lv_at hl 0 rfl) ?_
    refine lv_bipush (v := (-2)) hx hb dX12_salt_17 (by decide) ?_
    have hPc := hP.sub (ws' := [(mo, .inr (12, .ref nw :: m1 :: m2 :: m3 :: mv))]) [0] rfl
    have hDc := hD.sub (ws' := [(mo, .inr (12, .ref nw :: m1 :: m2 :: m3 :: mv))]) [0] (by decide) rfl
    have hFc := va_free (wc := [(mo, .inr (12, .ref nw :: m1 :: m2 :: m3 :: mv))]) hD hS hA [0] rfl
    refine va_calli (va_runV (As := [.int (-2)]) (rest := []) ⟨hx, hb, hml, hown, hts⟩ (r_refuses_m2 l G _ mo (.ref nw) m1 m2 m3 mv ) (cwV 1 hts (gd_V mw_11_14 mw_11_15 mw_11_16 mw_1_5 mw_11_17) rfl rfl rfl ⟨rfl, yk_X12_refuses⟩ ⟨Nat.le_of_ble_eq_true rfl, Nat.le_of_ble_eq_true rfl⟩) (c0_preV (q0 := 0) (ci := 12) (q := (RX12, TX12, 32)) hPc hK hDc rfl rfl) rfl rfl hl.1 rfl (lv_room (Nat.le_of_ble_eq_true rfl)) dX12_salt_19 ⟨Nat.le_of_ble_eq_true rfl, Nat.le_of_ble_eq_true rfl⟩) hS (fun q _ h => hFc q h) hFc (fun r_3 u t H1 locs ht1 hvm hw hB hz1 hk1 hS => ?_)
    try dsimp only at hw hB
    have hr3 := hw
    obtain rfl := hr3.symm
    obtain ⟨hP1, hD1⟩ := hB
    rw [ht1] at hP1
    obtain ⟨hP, hD⟩ := va_join (wr := [(nw, .inl (G.2 0, 15642, .inl nf))]) (w1 := [(mo, .inr (12, .ref nw :: m1 :: m2 :: .int (-2) :: mv))]) hP hD [0] [1] rfl rfl (by decide) (by decide) hk1 hFc hP1 hD1
    generalize H1 = H at hP hS ⊢
    have hP : va_P G.1 vwCl ([(nw, .inl (G.2 0, 15642, .inl nf)), (mo, .inr (12, .ref nw :: m1 :: m2 :: .int (-2) :: mv))]) H := hP
    have hD : va_D A ([(nw, .inl (G.2 0, 15642, .inl nf)), (mo, .inr (12, .ref nw :: m1 :: m2 :: .int (-2) :: mv))]) := hD
    exact W.iret (v := (-2)) hx hb hr (fun t ht hW => ⟨⟨(-2), (), rfl, rfl, trivial⟩, hS.F ht⟩) hS.2.2 dX12_salt_22
  · exact absurd c_2 (by decide)

set_option maxHeartbeats 4000000 in
set_option maxRecDepth 100000 in
theorem r_part (l : Launch) (G : GG) (sz : Nat) (mo : Nat) (x1 : Int32) (x2 : Int32) (nw : Nat) (m1 : Value) (m2 : Value) (m3 : Value) (mv : List Value) (nf : Nat → Int32) (hz : ∀ j, j < 16 → nf j = 0) : Met l yX12_part (.code yX12_part cX12_part 3 (some .int) :: TT) ({ frames := 3, cells := 0, slots := 0, locals := 300 } : Room) (c0_P G [.ref mo, .int x1, .int x2] sz ([(mo, .inr (12, .ref nw :: m1 :: m2 :: m3 :: mv)), (nw, .inl (G.2 0, 15642, .inl nf))])) (va_Qi (S := Unit) (fun (r : Int32) (u : Unit) => r = (-2)) (fun (u : Unit) (t : State) => True) (va_A ([(mo, .inr (12, .ref nw :: m1 :: m2 :: m3 :: mv)), (nw, .inl (G.2 0, 15642, .inl nf))]) sz)) 0 0 (va_A ([(mo, .inr (12, .ref nw :: m1 :: m2 :: m3 :: mv)), (nw, .inl (G.2 0, 15642, .inl nf))]) sz) := by
  refine Met.ofW (cc := cX12_part) (maxL := 3) (ret := (some .int)) (by decide) rfl ?_
  intro p e s m args below meth c s₁ B hml hv
  obtain ⟨rfl, hsz, hP, hK, hD0⟩ := hv
  have hx := B.exec
  have hb := B.bytes
  have hr := B.returns
  have hts := atoms_spec (ws := .code yX12_part cX12_part 3 (some .int) :: TT) B.pre
  have ht := fun (w : Cond) (h : w ∈ TT) => hts w (List.mem_cons_of_mem _ h)
  have hown : s.vm.findClass RX12 = some m.cls := findClass_of_methodNamed B.named
  have hlocks := B.notSynchronized
  subst hsz
  have hD := hD0.self (sz := s.heap.size)
  generalize hAe : va_A ([(mo, .inr (12, .ref nw :: m1 :: m2 :: m3 :: mv)), (nw, .inl (G.2 0, 15642, .inl nf))]) s.heap.size = A at hD ⊢
  have hA : ∀ q : Nat, s.heap.size ≤ q → A q := fun q h => by rw [← hAe]; exact Or.inr h
  have hS : va_S A s.heap s.heap [] := va_S.rf
  have hP : va_P G.1 vwCl ([(mo, .inr (12, .ref nw :: m1 :: m2 :: m3 :: mv)), (nw, .inl (G.2 0, 15642, .inl nf))]) s.heap := hP
  have hl := lv_entry ([.ref mo, .int x1, .int x2]) (n := 3) (Nat.le_of_ble_eq_true rfl)
  rw [lg_entry_eq]
  generalize (lg_sl ([.ref mo, .int x1, .int x2]) ++ List.replicate (3 - (lg_sl ([.ref mo, .int x1, .int x2])).length) Slot.unset).toArray = ls at hl ⊢
  have hl : lv_has ls 3 [(0, .ref mo), (1, .int x1), (2, .int x2)] := hl
  refine lv_aload_n hx hb dX12_part_0 rfl (lv_at hl 0 rfl) ?_
  refine lv_iload_n hx hb dX12_part_1 rfl (lv_at hl 1 rfl) ?_
  have hPc := hP.sub (ws' := [(mo, .inr (12, .ref nw :: m1 :: m2 :: m3 :: mv)), (nw, .inl (G.2 0, 15642, .inl nf))]) [0, 1] rfl
  have hDc := hD.sub (ws' := [(mo, .inr (12, .ref nw :: m1 :: m2 :: m3 :: mv)), (nw, .inl (G.2 0, 15642, .inl nf))]) [0, 1] (by decide) rfl
  have hFc := va_free (wc := [(mo, .inr (12, .ref nw :: m1 :: m2 :: m3 :: mv)), (nw, .inl (G.2 0, 15642, .inl nf))]) hD hS hA [0, 1] rfl
  refine va_calli (va_runV (As := [.int x1]) (rest := []) ⟨hx, hb, hml, hown, hts⟩ (r_isPlough l G _ mo x1 nw (m1 :: m2 :: m3 :: mv) nf (by first | assumption | decide)) (cwV 1 hts (gd_V mw_32_23 mw_33_0 mw_33_1 mw_1_5 mw_33_2) rfl rfl rfl ⟨rfl, yk_X12_isPlough⟩ ⟨Nat.le_of_ble_eq_true rfl, Nat.le_of_ble_eq_true rfl⟩) (c0_preV (q0 := 0) (ci := 12) (q := (RX12, TX12, 32)) hPc hK hDc rfl rfl) rfl rfl hl.1 rfl (lv_room (Nat.le_of_ble_eq_true rfl)) dX12_part_2 ⟨Nat.le_of_ble_eq_true rfl, Nat.le_of_ble_eq_true rfl⟩) hS (fun q _ h => hFc q h) hFc (fun r_1 u t H1 locs ht1 hvm hw hB hz1 hk1 hS => ?_)
  try dsimp only at hw hB
  have hr1 := hw
  obtain rfl := hr1.symm
  obtain ⟨hP1, hD1⟩ := hB
  rw [ht1] at hP1
  obtain ⟨hP, hD⟩ := va_join (wr := []) (w1 := [(mo, .inr (12, .ref nw :: m1 :: m2 :: m3 :: mv)), (nw, .inl (G.2 0, 15642, .inl nf))]) hP hD [0, 1] [] rfl rfl (by decide) (by decide) hk1 hFc hP1 hD1
  generalize H1 = H at hP hS ⊢
  have hP : va_P G.1 vwCl ([(mo, .inr (12, .ref nw :: m1 :: m2 :: m3 :: mv)), (nw, .inl (G.2 0, 15642, .inl nf))]) H := hP
  have hD : va_D A ([(mo, .inr (12, .ref nw :: m1 :: m2 :: m3 :: mv)), (nw, .inl (G.2 0, 15642, .inl nf))]) := hD
  refine lv_if_eq (tgt := 18) hx hb dX12_part_5 (by decide) (fun c_2 => ?_) (fun c_2 => ?_)
  · refine lv_aload_n hx hb dX12_part_18 rfl (lv_at hl 0 rfl) ?_
    refine lv_bipush (v := (-2)) hx hb dX12_part_19 (by decide) ?_
    have hPc := hP.sub (ws' := [(mo, .inr (12, .ref nw :: m1 :: m2 :: m3 :: mv))]) [0] rfl
    have hDc := hD.sub (ws' := [(mo, .inr (12, .ref nw :: m1 :: m2 :: m3 :: mv))]) [0] (by decide) rfl
    have hFc := va_free (wc := [(mo, .inr (12, .ref nw :: m1 :: m2 :: m3 :: mv))]) hD hS hA [0] rfl
    refine va_calli (va_runV (As := [.int (-2)]) (rest := []) ⟨hx, hb, hml, hown, hts⟩ (r_refuses_m2 l G _ mo (.ref nw) m1 m2 m3 mv ) (cwV 1 hts (gd_V mw_11_14 mw_11_15 mw_11_16 mw_1_5 mw_11_17) rfl rfl rfl ⟨rfl, yk_X12_refuses⟩ ⟨Nat.le_of_ble_eq_true rfl, Nat.le_of_ble_eq_true rfl⟩) (c0_preV (q0 := 0) (ci := 12) (q := (RX12, TX12, 32)) hPc hK hDc rfl rfl) rfl rfl hl.1 rfl (lv_room (Nat.le_of_ble_eq_true rfl)) dX12_part_21 ⟨Nat.le_of_ble_eq_true rfl, Nat.le_of_ble_eq_true rfl⟩) hS (fun q _ h => hFc q h) hFc (fun r_3 u t H1 locs ht1 hvm hw hB hz1 hk1 hS => ?_)
    try dsimp only at hw hB
    have hr3 := hw
    obtain rfl := hr3.symm
    obtain ⟨hP1, hD1⟩ := hB
    rw [ht1] at hP1
    obtain ⟨hP, hD⟩ := va_join (wr := [(nw, .inl (G.2 0, 15642, .inl nf))]) (w1 := [(mo, .inr (12, .ref nw :: m1 :: m2 :: .int (-2) :: mv))]) hP hD [0] [1] rfl rfl (by decide) (by decide) hk1 hFc hP1 hD1
    generalize H1 = H at hP hS ⊢
    have hP : va_P G.1 vwCl ([(nw, .inl (G.2 0, 15642, .inl nf)), (mo, .inr (12, .ref nw :: m1 :: m2 :: .int (-2) :: mv))]) H := hP
    have hD : va_D A ([(nw, .inl (G.2 0, 15642, .inl nf)), (mo, .inr (12, .ref nw :: m1 :: m2 :: .int (-2) :: mv))]) := hD
    refine lv_goto (tgt := 37) hx hb dX12_part_24 (by decide) ?_
    exact W.iret (v := (-2)) hx hb hr (fun t ht hW => ⟨⟨(-2), (), rfl, rfl, trivial⟩, hS.F ht⟩) hS.2.2 dX12_part_37
  · exact absurd c_2 (by decide)

set_option maxHeartbeats 4000000 in
set_option maxRecDepth 100000 in
theorem r_go (l : Launch) (G : GG) (sz : Nat) (mo : Nat) (x1 : Int32) (x2 : Int32) (nw : Nat) (m1 : Value) (m2 : Value) (m3 : Value) (mv : List Value) (nf : Nat → Int32) (hz : ∀ j, j < 16 → nf j = 0) : Met l yX12_go (.code yX12_go cX12_go 6 (some .int) :: TT) ({ frames := 3, cells := 0, slots := 0, locals := 300 } : Room) (c0_P G [.ref mo, .int x1, .int x2] sz ([(mo, .inr (12, .ref nw :: m1 :: m2 :: m3 :: mv)), (nw, .inl (G.2 0, 15642, .inl nf))])) (va_Qi (S := Unit) (fun (r : Int32) (u : Unit) => r = (-2)) (fun (u : Unit) (t : State) => True) (va_A ([(mo, .inr (12, .ref nw :: m1 :: m2 :: m3 :: mv)), (nw, .inl (G.2 0, 15642, .inl nf))]) sz)) 0 0 (va_A ([(mo, .inr (12, .ref nw :: m1 :: m2 :: m3 :: mv)), (nw, .inl (G.2 0, 15642, .inl nf))]) sz) := by
  refine Met.ofW (cc := cX12_go) (maxL := 6) (ret := (some .int)) (by decide) rfl ?_
  intro p e s m args below meth c s₁ B hml hv
  obtain ⟨rfl, hsz, hP, hK, hD0⟩ := hv
  have hx := B.exec
  have hb := B.bytes
  have hr := B.returns
  have hts := atoms_spec (ws := .code yX12_go cX12_go 6 (some .int) :: TT) B.pre
  have ht := fun (w : Cond) (h : w ∈ TT) => hts w (List.mem_cons_of_mem _ h)
  have hown : s.vm.findClass RX12 = some m.cls := findClass_of_methodNamed B.named
  have hlocks := B.notSynchronized
  subst hsz
  have hD := hD0.self (sz := s.heap.size)
  generalize hAe : va_A ([(mo, .inr (12, .ref nw :: m1 :: m2 :: m3 :: mv)), (nw, .inl (G.2 0, 15642, .inl nf))]) s.heap.size = A at hD ⊢
  have hA : ∀ q : Nat, s.heap.size ≤ q → A q := fun q h => by rw [← hAe]; exact Or.inr h
  have hS : va_S A s.heap s.heap [] := va_S.rf
  have hP : va_P G.1 vwCl ([(mo, .inr (12, .ref nw :: m1 :: m2 :: m3 :: mv)), (nw, .inl (G.2 0, 15642, .inl nf))]) s.heap := hP
  have hl := lv_entry ([.ref mo, .int x1, .int x2]) (n := 6) (Nat.le_of_ble_eq_true rfl)
  rw [lg_entry_eq]
  generalize (lg_sl ([.ref mo, .int x1, .int x2]) ++ List.replicate (6 - (lg_sl ([.ref mo, .int x1, .int x2])).length) Slot.unset).toArray = ls at hl ⊢
  have hl : lv_has ls 6 [(0, .ref mo), (1, .int x1), (2, .int x2)] := hl
  refine lv_aload_n hx hb dX12_go_0 rfl (lv_at hl 0 rfl) ?_
  refine lv_iload_n hx hb dX12_go_1 rfl (lv_at hl 1 rfl) ?_
  have hPc := hP.sub (ws' := [(mo, .inr (12, .ref nw :: m1 :: m2 :: m3 :: mv)), (nw, .inl (G.2 0, 15642, .inl nf))]) [0, 1] rfl
  have hDc := hD.sub (ws' := [(mo, .inr (12, .ref nw :: m1 :: m2 :: m3 :: mv)), (nw, .inl (G.2 0, 15642, .inl nf))]) [0, 1] (by decide) rfl
  have hFc := va_free (wc := [(mo, .inr (12, .ref nw :: m1 :: m2 :: m3 :: mv)), (nw, .inl (G.2 0, 15642, .inl nf))]) hD hS hA [0, 1] rfl
  refine va_calli (va_runV (As := [.int x1]) (rest := []) ⟨hx, hb, hml, hown, hts⟩ (r_isPlough l G _ mo x1 nw (m1 :: m2 :: m3 :: mv) nf (by first | assumption | decide)) (cwV 1 hts (gd_V mw_32_23 mw_33_0 mw_33_1 mw_1_5 mw_33_2) rfl rfl rfl ⟨rfl, yk_X12_isPlough⟩ ⟨Nat.le_of_ble_eq_true rfl, Nat.le_of_ble_eq_true rfl⟩) (c0_preV (q0 := 0) (ci := 12) (q := (RX12, TX12, 32)) hPc hK hDc rfl rfl) rfl rfl hl.1 rfl (lv_room (Nat.le_of_ble_eq_true rfl)) dX12_go_2 ⟨Nat.le_of_ble_eq_true rfl, Nat.le_of_ble_eq_true rfl⟩) hS (fun q _ h => hFc q h) hFc (fun r_1 u t H1 locs ht1 hvm hw hB hz1 hk1 hS => ?_)
  try dsimp only at hw hB
  have hr1 := hw
  obtain rfl := hr1.symm
  obtain ⟨hP1, hD1⟩ := hB
  rw [ht1] at hP1
  obtain ⟨hP, hD⟩ := va_join (wr := []) (w1 := [(mo, .inr (12, .ref nw :: m1 :: m2 :: m3 :: mv)), (nw, .inl (G.2 0, 15642, .inl nf))]) hP hD [0, 1] [] rfl rfl (by decide) (by decide) hk1 hFc hP1 hD1
  generalize H1 = H at hP hS ⊢
  have hP : va_P G.1 vwCl ([(mo, .inr (12, .ref nw :: m1 :: m2 :: m3 :: mv)), (nw, .inl (G.2 0, 15642, .inl nf))]) H := hP
  have hD : va_D A ([(mo, .inr (12, .ref nw :: m1 :: m2 :: m3 :: mv)), (nw, .inl (G.2 0, 15642, .inl nf))]) := hD
  refine lv_if_eq (tgt := 18) hx hb dX12_go_5 (by decide) (fun c_2 => ?_) (fun c_2 => ?_)
  · refine lv_aload_n hx hb dX12_go_18 rfl (lv_at hl 0 rfl) ?_
    refine lv_bipush (v := (-2)) hx hb dX12_go_19 (by decide) ?_
    have hPc := hP.sub (ws' := [(mo, .inr (12, .ref nw :: m1 :: m2 :: m3 :: mv))]) [0] rfl
    have hDc := hD.sub (ws' := [(mo, .inr (12, .ref nw :: m1 :: m2 :: m3 :: mv))]) [0] (by decide) rfl
    have hFc := va_free (wc := [(mo, .inr (12, .ref nw :: m1 :: m2 :: m3 :: mv))]) hD hS hA [0] rfl
    refine va_calli (va_runV (As := [.int (-2)]) (rest := []) ⟨hx, hb, hml, hown, hts⟩ (r_refuses_m2 l G _ mo (.ref nw) m1 m2 m3 mv ) (cwV 1 hts (gd_V mw_11_14 mw_11_15 mw_11_16 mw_1_5 mw_11_17) rfl rfl rfl ⟨rfl, yk_X12_refuses⟩ ⟨Nat.le_of_ble_eq_true rfl, Nat.le_of_ble_eq_true rfl⟩) (c0_preV (q0 := 0) (ci := 12) (q := (RX12, TX12, 32)) hPc hK hDc rfl rfl) rfl rfl hl.1 rfl (lv_room (Nat.le_of_ble_eq_true rfl)) dX12_go_21 ⟨Nat.le_of_ble_eq_true rfl, Nat.le_of_ble_eq_true rfl⟩) hS (fun q _ h => hFc q h) hFc (fun r_3 u t H1 locs ht1 hvm hw hB hz1 hk1 hS => ?_)
    try dsimp only at hw hB
    have hr3 := hw
    obtain rfl := hr3.symm
    obtain ⟨hP1, hD1⟩ := hB
    rw [ht1] at hP1
    obtain ⟨hP, hD⟩ := va_join (wr := [(nw, .inl (G.2 0, 15642, .inl nf))]) (w1 := [(mo, .inr (12, .ref nw :: m1 :: m2 :: .int (-2) :: mv))]) hP hD [0] [1] rfl rfl (by decide) (by decide) hk1 hFc hP1 hD1
    generalize H1 = H at hP hS ⊢
    have hP : va_P G.1 vwCl ([(nw, .inl (G.2 0, 15642, .inl nf)), (mo, .inr (12, .ref nw :: m1 :: m2 :: .int (-2) :: mv))]) H := hP
    have hD : va_D A ([(nw, .inl (G.2 0, 15642, .inl nf)), (mo, .inr (12, .ref nw :: m1 :: m2 :: .int (-2) :: mv))]) := hD
    exact W.iret (v := (-2)) hx hb hr (fun t ht hW => ⟨⟨(-2), (), rfl, rfl, trivial⟩, hS.F ht⟩) hS.2.2 dX12_go_24
  · exact absurd c_2 (by decide)

set_option maxHeartbeats 4000000 in
set_option maxRecDepth 100000 in
theorem r_at (l : Launch) (G : GG) (sz : Nat) (mo : Nat) (x1 : Int32) (x2 : Int32) (nw : Nat) (m1 : Value) (m2 : Value) (m3 : Value) (mv : List Value) (nf : Nat → Int32) (hz : ∀ j, j < 16 → nf j = 0) : Met l yX12_at (.code yX12_at cX12_at 3 (some .int) :: TT) ({ frames := 3, cells := 0, slots := 0, locals := 300 } : Room) (c0_P G [.ref mo, .int x1, .int x2] sz ([(mo, .inr (12, .ref nw :: m1 :: m2 :: m3 :: mv)), (nw, .inl (G.2 0, 15642, .inl nf))])) (va_Qi (S := Unit) (fun (r : Int32) (u : Unit) => r = sp_at x2) (fun (u : Unit) (t : State) => True) (va_A ([(mo, .inr (12, .ref nw :: m1 :: m2 :: m3 :: mv)), (nw, .inl (G.2 0, 15642, .inl nf))]) sz)) 0 0 (va_A ([(mo, .inr (12, .ref nw :: m1 :: m2 :: m3 :: mv)), (nw, .inl (G.2 0, 15642, .inl nf))]) sz) := by
  refine Met.ofW (cc := cX12_at) (maxL := 3) (ret := (some .int)) (by decide) rfl ?_
  intro p e s m args below meth c s₁ B hml hv
  obtain ⟨rfl, hsz, hP, hK, hD0⟩ := hv
  have hx := B.exec
  have hb := B.bytes
  have hr := B.returns
  have hts := atoms_spec (ws := .code yX12_at cX12_at 3 (some .int) :: TT) B.pre
  have ht := fun (w : Cond) (h : w ∈ TT) => hts w (List.mem_cons_of_mem _ h)
  have hown : s.vm.findClass RX12 = some m.cls := findClass_of_methodNamed B.named
  have hlocks := B.notSynchronized
  subst hsz
  have hD := hD0.self (sz := s.heap.size)
  generalize hAe : va_A ([(mo, .inr (12, .ref nw :: m1 :: m2 :: m3 :: mv)), (nw, .inl (G.2 0, 15642, .inl nf))]) s.heap.size = A at hD ⊢
  have hA : ∀ q : Nat, s.heap.size ≤ q → A q := fun q h => by rw [← hAe]; exact Or.inr h
  have hS : va_S A s.heap s.heap [] := va_S.rf
  have hP : va_P G.1 vwCl ([(mo, .inr (12, .ref nw :: m1 :: m2 :: m3 :: mv)), (nw, .inl (G.2 0, 15642, .inl nf))]) s.heap := hP
  have hl := lv_entry ([.ref mo, .int x1, .int x2]) (n := 3) (Nat.le_of_ble_eq_true rfl)
  rw [lg_entry_eq]
  generalize (lg_sl ([.ref mo, .int x1, .int x2]) ++ List.replicate (3 - (lg_sl ([.ref mo, .int x1, .int x2])).length) Slot.unset).toArray = ls at hl ⊢
  have hl : lv_has ls 3 [(0, .ref mo), (1, .int x1), (2, .int x2)] := hl
  refine lv_iload_n hx hb dX12_at_0 rfl (lv_at hl 2 rfl) ?_
  refine lv_iconst (v := 0) hx hb dX12_at_1 (by decide) ?_
  refine lv_iconst (v := 3) hx hb dX12_at_2 (by decide) ?_
  have hPc := hP.sub (ws' := []) [] rfl
  have hDc := hD.sub (ws' := []) [] (by decide) rfl
  have hFc := va_free (wc := []) hD hS hA [] rfl
  refine va_calli (va_runS (As := [.int x2, .int 0, .int 3]) (rest := []) ⟨hx, hb, hml, hown, hts⟩ (r_in l G _ x2 0 3 ) (va_cwS 3 hts (gd_S mw_11_11 mw_11_12 mw_1_5 mw_11_13) rfl rfl rfl yk_X12_in ⟨Nat.le_of_ble_eq_true rfl, Nat.le_of_ble_eq_true rfl⟩) (c0_pre hPc hK hDc) rfl rfl hl.1 rfl (lv_room (Nat.le_of_ble_eq_true rfl)) dX12_at_3 ⟨Nat.le_of_ble_eq_true rfl, Nat.le_of_ble_eq_true rfl⟩) hS (fun q _ h => hFc q h) hFc (fun r_1 u t H1 locs ht1 hvm hw hB hz1 hk1 hS => ?_)
  try dsimp only at hw hB
  have hr1 := hw
  obtain ⟨hP1, hD1⟩ := hB
  rw [ht1] at hP1
  obtain ⟨hP, hD⟩ := va_join (wr := [(mo, .inr (12, .ref nw :: m1 :: m2 :: m3 :: mv)), (nw, .inl (G.2 0, 15642, .inl nf))]) (w1 := []) hP hD [] [0, 1] rfl rfl (by decide) (by decide) hk1 hFc hP1 hD1
  generalize H1 = H at hP hS ⊢
  have hP : va_P G.1 vwCl ([(mo, .inr (12, .ref nw :: m1 :: m2 :: m3 :: mv)), (nw, .inl (G.2 0, 15642, .inl nf))]) H := hP
  have hD : va_D A ([(mo, .inr (12, .ref nw :: m1 :: m2 :: m3 :: mv)), (nw, .inl (G.2 0, 15642, .inl nf))]) := hD
  rcases sp_in_c x2 0 3 with ⟨c_2a, c_2b, he9⟩ | ⟨c_2, he9⟩
  · obtain rfl : r_1 = 1 := hr1.trans he9
    refine lv_if_ne (tgt := 16) hx hb dX12_at_6 (by decide) (fun c_3 => ?_) (fun c_3 => ?_)
    · refine lv_aload_n hx hb dX12_at_16 rfl (lv_at hl 0 rfl) ?_
      refine lv_iload_n hx hb dX12_at_17 rfl (lv_at hl 1 rfl) ?_
      refine lv_iconst (v := 0) hx hb dX12_at_18 (by decide) ?_
      refine lv_aload_n hx hb dX12_at_19 rfl (lv_at hl 0 rfl) ?_
      refine va_get (D := G.1) (ci := 12) (v := .ref nw) (C := RX12) (T := TX12) (N := 32) hx hb ht inlX12 hown hK.1 hP 0 rfl rfl 0 (by decide) (ht (Cond.fieldLink RX12 7 "PloughDepotModel" "now" "[I") mw_6_19) (fun _ h9 => h9) rfl dX12_at_20 ?_
      refine lv_iconst (v := 4) hx hb dX12_at_23 (by decide) ?_
      refine va_iald hx hb hK.1 hP 1 0 rfl rfl (show ¬ ((4 : Int32) < 0 ∨ 15642 ≤ (4 : Int32).toNatClampNeg) by decide) dX12_at_24 ?_
      refine lv_topi (fun v_4 ev_4 => ?_)
      obtain rfl : 0 = v_4 := (ev_4.trans (hz _ (by decide))).symm
      refine lv_iconst (v := 1) hx hb dX12_at_25 (by decide) ?_
      refine lv_isub hx hb dX12_at_26 ?_
      refine lv_topi (fun v_5 ev_5 => ?_)
      obtain rfl : v_5 = (-1) := ev_5.trans (by decide)
      have hPc := hP.sub (ws' := []) [] rfl
      have hDc := hD.sub (ws' := []) [] (by decide) rfl
      have hFc := va_free (wc := []) hD hS hA [] rfl
      refine va_calli (va_runS (As := [.int x1, .int 0, .int (-1)]) (rest := [.ref mo]) ⟨hx, hb, hml, hown, hts⟩ (r_in l G _ x1 0 (-1) ) (va_cwS 3 hts (gd_S mw_11_11 mw_11_12 mw_1_5 mw_11_13) rfl rfl rfl yk_X12_in ⟨Nat.le_of_ble_eq_true rfl, Nat.le_of_ble_eq_true rfl⟩) (c0_pre hPc hK hDc) rfl rfl hl.1 rfl (lv_room (Nat.le_of_ble_eq_true rfl)) dX12_at_27 ⟨Nat.le_of_ble_eq_true rfl, Nat.le_of_ble_eq_true rfl⟩) hS (fun q _ h => hFc q h) hFc (fun r_6 u t H1 locs ht1 hvm hw hB hz1 hk1 hS => ?_)
      try dsimp only at hw hB
      have hr6 := hw
      obtain ⟨hP1, hD1⟩ := hB
      rw [ht1] at hP1
      obtain ⟨hP, hD⟩ := va_join (wr := [(mo, .inr (12, .ref nw :: m1 :: m2 :: m3 :: mv)), (nw, .inl (G.2 0, 15642, .inl nf))]) (w1 := []) hP hD [] [0, 1] rfl rfl (by decide) (by decide) hk1 hFc hP1 hD1
      generalize H1 = H at hP hS ⊢
      have hP : va_P G.1 vwCl ([(mo, .inr (12, .ref nw :: m1 :: m2 :: m3 :: mv)), (nw, .inl (G.2 0, 15642, .inl nf))]) H := hP
      have hD : va_D A ([(mo, .inr (12, .ref nw :: m1 :: m2 :: m3 :: mv)), (nw, .inl (G.2 0, 15642, .inl nf))]) := hD
      obtain rfl : r_6 = 0 := hr6.trans (sp_in_m x1 (by decide))
      refine lv_if_eq (tgt := 42) hx hb dX12_at_30 (by decide) (fun c_7 => ?_) (fun c_7 => ?_)
      · refine lv_iconst (v := (-1)) hx hb dX12_at_42 (by decide) ?_
        have hPc := hP.sub (ws' := [(mo, .inr (12, .ref nw :: m1 :: m2 :: m3 :: mv))]) [0] rfl
        have hDc := hD.sub (ws' := [(mo, .inr (12, .ref nw :: m1 :: m2 :: m3 :: mv))]) [0] (by decide) rfl
        have hFc := va_free (wc := [(mo, .inr (12, .ref nw :: m1 :: m2 :: m3 :: mv))]) hD hS hA [0] rfl
        refine va_calli (va_runV (As := [.int (-1)]) (rest := []) ⟨hx, hb, hml, hown, hts⟩ (r_says l G _ mo (-1) (.ref nw) m1 m2 m3 mv ) (cwV 1 hts (gd_V mw_12_4 mw_12_5 mw_12_6 mw_1_5 mw_12_7) rfl rfl rfl ⟨rfl, yk_X12_says⟩ ⟨Nat.le_of_ble_eq_true rfl, Nat.le_of_ble_eq_true rfl⟩) (c0_preV (q0 := 0) (ci := 12) (q := (RX12, TX12, 32)) hPc hK hDc rfl rfl) rfl rfl hl.1 rfl (lv_room (Nat.le_of_ble_eq_true rfl)) dX12_at_43 ⟨Nat.le_of_ble_eq_true rfl, Nat.le_of_ble_eq_true rfl⟩) hS (fun q _ h => hFc q h) hFc (fun r_8 u t H1 locs ht1 hvm hw hB hz1 hk1 hS => ?_)
        try dsimp only at hw hB
        have hr8 := hw
        obtain rfl := hr8.symm
        obtain ⟨hP1, hD1⟩ := hB
        rw [ht1] at hP1
        obtain ⟨hP, hD⟩ := va_join (wr := [(nw, .inl (G.2 0, 15642, .inl nf))]) (w1 := [(mo, .inr (12, .ref nw :: m1 :: m2 :: .int 0 :: mv))]) hP hD [0] [1] rfl rfl (by decide) (by decide) hk1 hFc hP1 hD1
        generalize H1 = H at hP hS ⊢
        have hP : va_P G.1 vwCl ([(nw, .inl (G.2 0, 15642, .inl nf)), (mo, .inr (12, .ref nw :: m1 :: m2 :: .int 0 :: mv))]) H := hP
        have hD : va_D A ([(nw, .inl (G.2 0, 15642, .inl nf)), (mo, .inr (12, .ref nw :: m1 :: m2 :: .int 0 :: mv))]) := hD
        exact W.iret (v := (-1)) hx hb hr (fun t ht hW => ⟨⟨(-1), (), rfl, (by unfold sp_at; split <;> rename_i hc9 <;> first | rfl | (exfalso; simp only [fa_lt, fa_le, fa_eq] at hc9 c_2a c_2b c_3 c_7; have n0 : (0 : Int32).toInt = 0 := (by decide); have n1 : (1 : Int32).toInt = 1 := (by decide); have n3 : (3 : Int32).toInt = 3 := (by decide); omega)), trivial⟩, hS.F ht⟩) hS.2.2 dX12_at_46
      · exact absurd c_7 (by decide)
    · exact absurd c_3 (by decide)
  · obtain rfl : r_1 = 0 := hr1.trans he9
    refine lv_if_ne (tgt := 16) hx hb dX12_at_6 (by decide) (fun c_9 => ?_) (fun c_9 => ?_)
    · exact absurd c_9 (by decide)
    · refine lv_aload_n hx hb dX12_at_9 rfl (lv_at hl 0 rfl) ?_
      refine lv_bipush (v := (-2)) hx hb dX12_at_10 (by decide) ?_
      have hPc := hP.sub (ws' := [(mo, .inr (12, .ref nw :: m1 :: m2 :: m3 :: mv))]) [0] rfl
      have hDc := hD.sub (ws' := [(mo, .inr (12, .ref nw :: m1 :: m2 :: m3 :: mv))]) [0] (by decide) rfl
      have hFc := va_free (wc := [(mo, .inr (12, .ref nw :: m1 :: m2 :: m3 :: mv))]) hD hS hA [0] rfl
      refine va_calli (va_runV (As := [.int (-2)]) (rest := []) ⟨hx, hb, hml, hown, hts⟩ (r_refuses_m2 l G _ mo (.ref nw) m1 m2 m3 mv ) (cwV 1 hts (gd_V mw_11_14 mw_11_15 mw_11_16 mw_1_5 mw_11_17) rfl rfl rfl ⟨rfl, yk_X12_refuses⟩ ⟨Nat.le_of_ble_eq_true rfl, Nat.le_of_ble_eq_true rfl⟩) (c0_preV (q0 := 0) (ci := 12) (q := (RX12, TX12, 32)) hPc hK hDc rfl rfl) rfl rfl hl.1 rfl (lv_room (Nat.le_of_ble_eq_true rfl)) dX12_at_12 ⟨Nat.le_of_ble_eq_true rfl, Nat.le_of_ble_eq_true rfl⟩) hS (fun q _ h => hFc q h) hFc (fun r_10 u t H1 locs ht1 hvm hw hB hz1 hk1 hS => ?_)
      try dsimp only at hw hB
      have hr10 := hw
      obtain rfl := hr10.symm
      obtain ⟨hP1, hD1⟩ := hB
      rw [ht1] at hP1
      obtain ⟨hP, hD⟩ := va_join (wr := [(nw, .inl (G.2 0, 15642, .inl nf))]) (w1 := [(mo, .inr (12, .ref nw :: m1 :: m2 :: .int (-2) :: mv))]) hP hD [0] [1] rfl rfl (by decide) (by decide) hk1 hFc hP1 hD1
      generalize H1 = H at hP hS ⊢
      have hP : va_P G.1 vwCl ([(nw, .inl (G.2 0, 15642, .inl nf)), (mo, .inr (12, .ref nw :: m1 :: m2 :: .int (-2) :: mv))]) H := hP
      have hD : va_D A ([(nw, .inl (G.2 0, 15642, .inl nf)), (mo, .inr (12, .ref nw :: m1 :: m2 :: .int (-2) :: mv))]) := hD
      exact W.iret (v := (-2)) hx hb hr (fun t ht hW => ⟨⟨(-2), (), rfl, (by unfold sp_at; split <;> rename_i hc9 <;> first | rfl | (exfalso; simp only [fa_lt, fa_le, fa_eq] at hc9 c_2 c_9; have n0 : (0 : Int32).toInt = 0 := (by decide); have n3 : (3 : Int32).toInt = 3 := (by decide); omega)), trivial⟩, hS.F ht⟩) hS.2.2 dX12_at_15

set_option maxHeartbeats 4000000 in
set_option maxRecDepth 100000 in
theorem r_length (l : Launch) (G : GG) (sz : Nat) (mo : Nat) (x1 : Int32) (nw : Nat) (m1 : Value) (m2 : Value) (m3 : Value) (mv : List Value) (nf : Nat → Int32) (hz : ∀ j, j < 16 → nf j = 0) : Met l yX12_length (.code yX12_length cX12_length 5 (some .int) :: TT) ({ frames := 3, cells := 0, slots := 0, locals := 300 } : Room) (c0_P G [.ref mo, .int x1] sz ([(mo, .inr (12, .ref nw :: m1 :: m2 :: m3 :: mv)), (nw, .inl (G.2 0, 15642, .inl nf))])) (va_Qi (S := Unit) (fun (r : Int32) (u : Unit) => r = sp_length x1) (fun (u : Unit) (t : State) => True) (va_A ([(mo, .inr (12, .ref nw :: m1 :: m2 :: m3 :: mv)), (nw, .inl (G.2 0, 15642, .inl nf))]) sz)) 0 0 (va_A ([(mo, .inr (12, .ref nw :: m1 :: m2 :: m3 :: mv)), (nw, .inl (G.2 0, 15642, .inl nf))]) sz) := by
  refine Met.ofW (cc := cX12_length) (maxL := 5) (ret := (some .int)) (by decide) rfl ?_
  intro p e s m args below meth c s₁ B hml hv
  obtain ⟨rfl, hsz, hP, hK, hD0⟩ := hv
  have hx := B.exec
  have hb := B.bytes
  have hr := B.returns
  have hts := atoms_spec (ws := .code yX12_length cX12_length 5 (some .int) :: TT) B.pre
  have ht := fun (w : Cond) (h : w ∈ TT) => hts w (List.mem_cons_of_mem _ h)
  have hown : s.vm.findClass RX12 = some m.cls := findClass_of_methodNamed B.named
  have hlocks := B.notSynchronized
  subst hsz
  have hD := hD0.self (sz := s.heap.size)
  generalize hAe : va_A ([(mo, .inr (12, .ref nw :: m1 :: m2 :: m3 :: mv)), (nw, .inl (G.2 0, 15642, .inl nf))]) s.heap.size = A at hD ⊢
  have hA : ∀ q : Nat, s.heap.size ≤ q → A q := fun q h => by rw [← hAe]; exact Or.inr h
  have hS : va_S A s.heap s.heap [] := va_S.rf
  have hP : va_P G.1 vwCl ([(mo, .inr (12, .ref nw :: m1 :: m2 :: m3 :: mv)), (nw, .inl (G.2 0, 15642, .inl nf))]) s.heap := hP
  have hl := lv_entry ([.ref mo, .int x1]) (n := 5) (Nat.le_of_ble_eq_true rfl)
  rw [lg_entry_eq]
  generalize (lg_sl ([.ref mo, .int x1]) ++ List.replicate (5 - (lg_sl ([.ref mo, .int x1])).length) Slot.unset).toArray = ls at hl ⊢
  have hl : lv_has ls 5 [(0, .ref mo), (1, .int x1)] := hl
  refine lv_iconst (v := 0) hx hb dX12_length_0 (by decide) ?_
  refine lv_istore_n (lv' := [(2, .int 0), (0, .ref mo), (1, .int x1)]) hx hb dX12_length_1 rfl hl (by decide) rfl (fun ls hl => ?_)
  refine lv_iconst (v := 0) hx hb dX12_length_2 (by decide) ?_
  refine lv_istore_n (lv' := [(3, .int 0), (2, .int 0), (0, .ref mo), (1, .int x1)]) hx hb dX12_length_3 rfl hl (by decide) rfl (fun ls hl => ?_)
  refine lv_iconst (v := 0) hx hb dX12_length_4 (by decide) ?_
  refine lv_istore (lv' := [(4, .int 0), (3, .int 0), (2, .int 0), (0, .ref mo), (1, .int x1)]) hx hb dX12_length_5 hl (by decide) rfl (fun ls hl => ?_)
  refine lv_iload hx hb dX12_length_7 (lv_at hl 0 rfl) ?_
  refine lv_aload_n hx hb dX12_length_9 rfl (lv_at hl 3 rfl) ?_
  refine va_get (D := G.1) (ci := 12) (v := .ref nw) (C := RX12) (T := TX12) (N := 32) hx hb ht inlX12 hown hK.1 hP 0 rfl rfl 0 (by decide) (ht (Cond.fieldLink RX12 7 "PloughDepotModel" "now" "[I") mw_6_19) (fun _ h9 => h9) rfl dX12_length_10 ?_
  refine lv_iconst (v := 4) hx hb dX12_length_13 (by decide) ?_
  refine va_iald hx hb hK.1 hP 1 0 rfl rfl (show ¬ ((4 : Int32) < 0 ∨ 15642 ≤ (4 : Int32).toNatClampNeg) by decide) dX12_length_14 ?_
  refine lv_topi (fun v_1 ev_1 => ?_)
  obtain rfl : 0 = v_1 := (ev_1.trans (hz _ (by decide))).symm
  refine lv_icmp_ge (tgt := 70) hx hb dX12_length_15 (by decide) (fun c_2 => ?_) (fun c_2 => ?_)
  · refine lv_iload_n hx hb dX12_length_70 rfl (lv_at hl 4 rfl) ?_
    by_cases c_3 : x1 = 0
    · refine lv_tableIn (tgt := 112) (off := 41) hx hb dX12_length_71 (by rw [c_3]; decide) (by rw [c_3]; decide) (by rw [c_3]; decide) (by decide) ?_
      refine lv_aload_n hx hb dX12_length_112 rfl (lv_at hl 3 rfl) ?_
      refine lv_aload_n hx hb dX12_length_113 rfl (lv_at hl 3 rfl) ?_
      refine va_get (D := G.1) (ci := 12) (v := .ref nw) (C := RX12) (T := TX12) (N := 32) hx hb ht inlX12 hown hK.1 hP 0 rfl rfl 0 (by decide) (ht (Cond.fieldLink RX12 7 "PloughDepotModel" "now" "[I") mw_6_19) (fun _ h9 => h9) rfl dX12_length_114 ?_
      refine lv_iconst (v := 4) hx hb dX12_length_117 (by decide) ?_
      refine va_iald hx hb hK.1 hP 1 0 rfl rfl (show ¬ ((4 : Int32) < 0 ∨ 15642 ≤ (4 : Int32).toNatClampNeg) by decide) dX12_length_118 ?_
      refine lv_topi (fun v_4 ev_4 => ?_)
      obtain rfl : 0 = v_4 := (ev_4.trans (hz _ (by decide))).symm
      have hPc := hP.sub (ws' := [(mo, .inr (12, .ref nw :: m1 :: m2 :: m3 :: mv))]) [0] rfl
      have hDc := hD.sub (ws' := [(mo, .inr (12, .ref nw :: m1 :: m2 :: m3 :: mv))]) [0] (by decide) rfl
      have hFc := va_free (wc := [(mo, .inr (12, .ref nw :: m1 :: m2 :: m3 :: mv))]) hD hS hA [0] rfl
      refine va_calli (va_runV (As := [.int 0]) (rest := []) ⟨hx, hb, hml, hown, hts⟩ (r_says l G _ mo 0 (.ref nw) m1 m2 m3 mv ) (cwV 1 hts (gd_V mw_12_4 mw_12_5 mw_12_6 mw_1_5 mw_12_7) rfl rfl rfl ⟨rfl, yk_X12_says⟩ ⟨Nat.le_of_ble_eq_true rfl, Nat.le_of_ble_eq_true rfl⟩) (c0_preV (q0 := 0) (ci := 12) (q := (RX12, TX12, 32)) hPc hK hDc rfl rfl) rfl rfl hl.1 rfl (lv_room (Nat.le_of_ble_eq_true rfl)) dX12_length_119 ⟨Nat.le_of_ble_eq_true rfl, Nat.le_of_ble_eq_true rfl⟩) hS (fun q _ h => hFc q h) hFc (fun r_5 u t H1 locs ht1 hvm hw hB hz1 hk1 hS => ?_)
      try dsimp only at hw hB
      have hr5 := hw
      obtain rfl := hr5.symm
      obtain ⟨hP1, hD1⟩ := hB
      rw [ht1] at hP1
      obtain ⟨hP, hD⟩ := va_join (wr := [(nw, .inl (G.2 0, 15642, .inl nf))]) (w1 := [(mo, .inr (12, .ref nw :: m1 :: m2 :: .int 0 :: mv))]) hP hD [0] [1] rfl rfl (by decide) (by decide) hk1 hFc hP1 hD1
      generalize H1 = H at hP hS ⊢
      have hP : va_P G.1 vwCl ([(nw, .inl (G.2 0, 15642, .inl nf)), (mo, .inr (12, .ref nw :: m1 :: m2 :: .int 0 :: mv))]) H := hP
      have hD : va_D A ([(nw, .inl (G.2 0, 15642, .inl nf)), (mo, .inr (12, .ref nw :: m1 :: m2 :: .int 0 :: mv))]) := hD
      exact W.iret (v := 0) hx hb hr (fun t ht hW => ⟨⟨0, (), rfl, (by unfold sp_length; split <;> rename_i hc9 <;> first | rfl | (exfalso; simp only [fa_lt, fa_le, fa_eq] at hc9 c_2 c_3; have n0 : (0 : Int32).toInt = 0 := (by decide); have n6 : (6 : Int32).toInt = 6 := (by decide); omega)), trivial⟩, hS.F ht⟩) hS.2.2 dX12_length_122
    by_cases c_6 : x1 = 1
    · refine lv_tableIn (tgt := 123) (off := 52) hx hb dX12_length_71 (by rw [c_6]; decide) (by rw [c_6]; decide) (by rw [c_6]; decide) (by decide) ?_
      refine lv_aload_n hx hb dX12_length_123 rfl (lv_at hl 3 rfl) ?_
      refine lv_iload_n hx hb dX12_length_124 rfl (lv_at hl 2 rfl) ?_
      have hPc := hP.sub (ws' := [(mo, .inr (12, .ref nw :: m1 :: m2 :: m3 :: mv))]) [0] rfl
      have hDc := hD.sub (ws' := [(mo, .inr (12, .ref nw :: m1 :: m2 :: m3 :: mv))]) [0] (by decide) rfl
      have hFc := va_free (wc := [(mo, .inr (12, .ref nw :: m1 :: m2 :: m3 :: mv))]) hD hS hA [0] rfl
      refine va_calli (va_runV (As := [.int 0]) (rest := []) ⟨hx, hb, hml, hown, hts⟩ (r_says l G _ mo 0 (.ref nw) m1 m2 m3 mv ) (cwV 1 hts (gd_V mw_12_4 mw_12_5 mw_12_6 mw_1_5 mw_12_7) rfl rfl rfl ⟨rfl, yk_X12_says⟩ ⟨Nat.le_of_ble_eq_true rfl, Nat.le_of_ble_eq_true rfl⟩) (c0_preV (q0 := 0) (ci := 12) (q := (RX12, TX12, 32)) hPc hK hDc rfl rfl) rfl rfl hl.1 rfl (lv_room (Nat.le_of_ble_eq_true rfl)) dX12_length_125 ⟨Nat.le_of_ble_eq_true rfl, Nat.le_of_ble_eq_true rfl⟩) hS (fun q _ h => hFc q h) hFc (fun r_7 u t H1 locs ht1 hvm hw hB hz1 hk1 hS => ?_)
      try dsimp only at hw hB
      have hr7 := hw
      obtain rfl := hr7.symm
      obtain ⟨hP1, hD1⟩ := hB
      rw [ht1] at hP1
      obtain ⟨hP, hD⟩ := va_join (wr := [(nw, .inl (G.2 0, 15642, .inl nf))]) (w1 := [(mo, .inr (12, .ref nw :: m1 :: m2 :: .int 0 :: mv))]) hP hD [0] [1] rfl rfl (by decide) (by decide) hk1 hFc hP1 hD1
      generalize H1 = H at hP hS ⊢
      have hP : va_P G.1 vwCl ([(nw, .inl (G.2 0, 15642, .inl nf)), (mo, .inr (12, .ref nw :: m1 :: m2 :: .int 0 :: mv))]) H := hP
      have hD : va_D A ([(nw, .inl (G.2 0, 15642, .inl nf)), (mo, .inr (12, .ref nw :: m1 :: m2 :: .int 0 :: mv))]) := hD
      exact W.iret (v := 0) hx hb hr (fun t ht hW => ⟨⟨0, (), rfl, (by unfold sp_length; split <;> rename_i hc9 <;> first | rfl | (exfalso; simp only [fa_lt, fa_le, fa_eq] at hc9 c_2 c_3 c_6; have n0 : (0 : Int32).toInt = 0 := (by decide); have n1 : (1 : Int32).toInt = 1 := (by decide); have n6 : (6 : Int32).toInt = 6 := (by decide); omega)), trivial⟩, hS.F ht⟩) hS.2.2 dX12_length_128
    by_cases c_8 : x1 = 2
    · refine lv_tableIn (tgt := 129) (off := 58) hx hb dX12_length_71 (by rw [c_8]; decide) (by rw [c_8]; decide) (by rw [c_8]; decide) (by decide) ?_
      refine lv_aload_n hx hb dX12_length_129 rfl (lv_at hl 3 rfl) ?_
      refine lv_iload_n hx hb dX12_length_130 rfl (lv_at hl 1 rfl) ?_
      have hPc := hP.sub (ws' := [(mo, .inr (12, .ref nw :: m1 :: m2 :: m3 :: mv))]) [0] rfl
      have hDc := hD.sub (ws' := [(mo, .inr (12, .ref nw :: m1 :: m2 :: m3 :: mv))]) [0] (by decide) rfl
      have hFc := va_free (wc := [(mo, .inr (12, .ref nw :: m1 :: m2 :: m3 :: mv))]) hD hS hA [0] rfl
      refine va_calli (va_runV (As := [.int 0]) (rest := []) ⟨hx, hb, hml, hown, hts⟩ (r_says l G _ mo 0 (.ref nw) m1 m2 m3 mv ) (cwV 1 hts (gd_V mw_12_4 mw_12_5 mw_12_6 mw_1_5 mw_12_7) rfl rfl rfl ⟨rfl, yk_X12_says⟩ ⟨Nat.le_of_ble_eq_true rfl, Nat.le_of_ble_eq_true rfl⟩) (c0_preV (q0 := 0) (ci := 12) (q := (RX12, TX12, 32)) hPc hK hDc rfl rfl) rfl rfl hl.1 rfl (lv_room (Nat.le_of_ble_eq_true rfl)) dX12_length_131 ⟨Nat.le_of_ble_eq_true rfl, Nat.le_of_ble_eq_true rfl⟩) hS (fun q _ h => hFc q h) hFc (fun r_9 u t H1 locs ht1 hvm hw hB hz1 hk1 hS => ?_)
      try dsimp only at hw hB
      have hr9 := hw
      obtain rfl := hr9.symm
      obtain ⟨hP1, hD1⟩ := hB
      rw [ht1] at hP1
      obtain ⟨hP, hD⟩ := va_join (wr := [(nw, .inl (G.2 0, 15642, .inl nf))]) (w1 := [(mo, .inr (12, .ref nw :: m1 :: m2 :: .int 0 :: mv))]) hP hD [0] [1] rfl rfl (by decide) (by decide) hk1 hFc hP1 hD1
      generalize H1 = H at hP hS ⊢
      have hP : va_P G.1 vwCl ([(nw, .inl (G.2 0, 15642, .inl nf)), (mo, .inr (12, .ref nw :: m1 :: m2 :: .int 0 :: mv))]) H := hP
      have hD : va_D A ([(nw, .inl (G.2 0, 15642, .inl nf)), (mo, .inr (12, .ref nw :: m1 :: m2 :: .int 0 :: mv))]) := hD
      exact W.iret (v := 0) hx hb hr (fun t ht hW => ⟨⟨0, (), rfl, (by unfold sp_length; split <;> rename_i hc9 <;> first | rfl | (exfalso; simp only [fa_lt, fa_le, fa_eq] at hc9 c_2 c_3 c_6 c_8; have n0 : (0 : Int32).toInt = 0 := (by decide); have n1 : (1 : Int32).toInt = 1 := (by decide); have n2 : (2 : Int32).toInt = 2 := (by decide); have n6 : (6 : Int32).toInt = 6 := (by decide); omega)), trivial⟩, hS.F ht⟩) hS.2.2 dX12_length_134
    by_cases c_10 : x1 = 3
    · refine lv_tableIn (tgt := 135) (off := 64) hx hb dX12_length_71 (by rw [c_10]; decide) (by rw [c_10]; decide) (by rw [c_10]; decide) (by decide) ?_
      refine lv_aload_n hx hb dX12_length_135 rfl (lv_at hl 3 rfl) ?_
      refine lv_aload_n hx hb dX12_length_136 rfl (lv_at hl 3 rfl) ?_
      refine va_get (D := G.1) (ci := 12) (v := .ref nw) (C := RX12) (T := TX12) (N := 32) hx hb ht inlX12 hown hK.1 hP 0 rfl rfl 0 (by decide) (ht (Cond.fieldLink RX12 7 "PloughDepotModel" "now" "[I") mw_6_19) (fun _ h9 => h9) rfl dX12_length_137 ?_
      refine lv_bipush (v := 6) hx hb dX12_length_140 (by decide) ?_
      refine va_iald hx hb hK.1 hP 1 0 rfl rfl (show ¬ ((6 : Int32) < 0 ∨ 15642 ≤ (6 : Int32).toNatClampNeg) by decide) dX12_length_142 ?_
      refine lv_topi (fun v_11 ev_11 => ?_)
      obtain rfl : 0 = v_11 := (ev_11.trans (hz _ (by decide))).symm
      have hPc := hP.sub (ws' := [(mo, .inr (12, .ref nw :: m1 :: m2 :: m3 :: mv))]) [0] rfl
      have hDc := hD.sub (ws' := [(mo, .inr (12, .ref nw :: m1 :: m2 :: m3 :: mv))]) [0] (by decide) rfl
      have hFc := va_free (wc := [(mo, .inr (12, .ref nw :: m1 :: m2 :: m3 :: mv))]) hD hS hA [0] rfl
      refine va_calli (va_runV (As := [.int 0]) (rest := []) ⟨hx, hb, hml, hown, hts⟩ (r_says l G _ mo 0 (.ref nw) m1 m2 m3 mv ) (cwV 1 hts (gd_V mw_12_4 mw_12_5 mw_12_6 mw_1_5 mw_12_7) rfl rfl rfl ⟨rfl, yk_X12_says⟩ ⟨Nat.le_of_ble_eq_true rfl, Nat.le_of_ble_eq_true rfl⟩) (c0_preV (q0 := 0) (ci := 12) (q := (RX12, TX12, 32)) hPc hK hDc rfl rfl) rfl rfl hl.1 rfl (lv_room (Nat.le_of_ble_eq_true rfl)) dX12_length_143 ⟨Nat.le_of_ble_eq_true rfl, Nat.le_of_ble_eq_true rfl⟩) hS (fun q _ h => hFc q h) hFc (fun r_12 u t H1 locs ht1 hvm hw hB hz1 hk1 hS => ?_)
      try dsimp only at hw hB
      have hr12 := hw
      obtain rfl := hr12.symm
      obtain ⟨hP1, hD1⟩ := hB
      rw [ht1] at hP1
      obtain ⟨hP, hD⟩ := va_join (wr := [(nw, .inl (G.2 0, 15642, .inl nf))]) (w1 := [(mo, .inr (12, .ref nw :: m1 :: m2 :: .int 0 :: mv))]) hP hD [0] [1] rfl rfl (by decide) (by decide) hk1 hFc hP1 hD1
      generalize H1 = H at hP hS ⊢
      have hP : va_P G.1 vwCl ([(nw, .inl (G.2 0, 15642, .inl nf)), (mo, .inr (12, .ref nw :: m1 :: m2 :: .int 0 :: mv))]) H := hP
      have hD : va_D A ([(nw, .inl (G.2 0, 15642, .inl nf)), (mo, .inr (12, .ref nw :: m1 :: m2 :: .int 0 :: mv))]) := hD
      exact W.iret (v := 0) hx hb hr (fun t ht hW => ⟨⟨0, (), rfl, (by unfold sp_length; split <;> rename_i hc9 <;> first | rfl | (exfalso; simp only [fa_lt, fa_le, fa_eq] at hc9 c_2 c_3 c_6 c_8 c_10; have n0 : (0 : Int32).toInt = 0 := (by decide); have n1 : (1 : Int32).toInt = 1 := (by decide); have n2 : (2 : Int32).toInt = 2 := (by decide); have n3 : (3 : Int32).toInt = 3 := (by decide); have n6 : (6 : Int32).toInt = 6 := (by decide); omega)), trivial⟩, hS.F ht⟩) hS.2.2 dX12_length_146
    by_cases c_13 : x1 = 4
    · refine lv_tableIn (tgt := 147) (off := 76) hx hb dX12_length_71 (by rw [c_13]; decide) (by rw [c_13]; decide) (by rw [c_13]; decide) (by decide) ?_
      refine lv_aload_n hx hb dX12_length_147 rfl (lv_at hl 3 rfl) ?_
      refine lv_aload_n hx hb dX12_length_148 rfl (lv_at hl 3 rfl) ?_
      refine va_get (D := G.1) (ci := 12) (v := .ref nw) (C := RX12) (T := TX12) (N := 32) hx hb ht inlX12 hown hK.1 hP 0 rfl rfl 0 (by decide) (ht (Cond.fieldLink RX12 7 "PloughDepotModel" "now" "[I") mw_6_19) (fun _ h9 => h9) rfl dX12_length_149 ?_
      refine lv_bipush (v := 7) hx hb dX12_length_152 (by decide) ?_
      refine va_iald hx hb hK.1 hP 1 0 rfl rfl (show ¬ ((7 : Int32) < 0 ∨ 15642 ≤ (7 : Int32).toNatClampNeg) by decide) dX12_length_154 ?_
      refine lv_topi (fun v_14 ev_14 => ?_)
      obtain rfl : 0 = v_14 := (ev_14.trans (hz _ (by decide))).symm
      have hPc := hP.sub (ws' := [(mo, .inr (12, .ref nw :: m1 :: m2 :: m3 :: mv))]) [0] rfl
      have hDc := hD.sub (ws' := [(mo, .inr (12, .ref nw :: m1 :: m2 :: m3 :: mv))]) [0] (by decide) rfl
      have hFc := va_free (wc := [(mo, .inr (12, .ref nw :: m1 :: m2 :: m3 :: mv))]) hD hS hA [0] rfl
      refine va_calli (va_runV (As := [.int 0]) (rest := []) ⟨hx, hb, hml, hown, hts⟩ (r_says l G _ mo 0 (.ref nw) m1 m2 m3 mv ) (cwV 1 hts (gd_V mw_12_4 mw_12_5 mw_12_6 mw_1_5 mw_12_7) rfl rfl rfl ⟨rfl, yk_X12_says⟩ ⟨Nat.le_of_ble_eq_true rfl, Nat.le_of_ble_eq_true rfl⟩) (c0_preV (q0 := 0) (ci := 12) (q := (RX12, TX12, 32)) hPc hK hDc rfl rfl) rfl rfl hl.1 rfl (lv_room (Nat.le_of_ble_eq_true rfl)) dX12_length_155 ⟨Nat.le_of_ble_eq_true rfl, Nat.le_of_ble_eq_true rfl⟩) hS (fun q _ h => hFc q h) hFc (fun r_15 u t H1 locs ht1 hvm hw hB hz1 hk1 hS => ?_)
      try dsimp only at hw hB
      have hr15 := hw
      obtain rfl := hr15.symm
      obtain ⟨hP1, hD1⟩ := hB
      rw [ht1] at hP1
      obtain ⟨hP, hD⟩ := va_join (wr := [(nw, .inl (G.2 0, 15642, .inl nf))]) (w1 := [(mo, .inr (12, .ref nw :: m1 :: m2 :: .int 0 :: mv))]) hP hD [0] [1] rfl rfl (by decide) (by decide) hk1 hFc hP1 hD1
      generalize H1 = H at hP hS ⊢
      have hP : va_P G.1 vwCl ([(nw, .inl (G.2 0, 15642, .inl nf)), (mo, .inr (12, .ref nw :: m1 :: m2 :: .int 0 :: mv))]) H := hP
      have hD : va_D A ([(nw, .inl (G.2 0, 15642, .inl nf)), (mo, .inr (12, .ref nw :: m1 :: m2 :: .int 0 :: mv))]) := hD
      exact W.iret (v := 0) hx hb hr (fun t ht hW => ⟨⟨0, (), rfl, (by unfold sp_length; split <;> rename_i hc9 <;> first | rfl | (exfalso; simp only [fa_lt, fa_le, fa_eq] at hc9 c_2 c_3 c_6 c_8 c_10 c_13; have n0 : (0 : Int32).toInt = 0 := (by decide); have n1 : (1 : Int32).toInt = 1 := (by decide); have n2 : (2 : Int32).toInt = 2 := (by decide); have n3 : (3 : Int32).toInt = 3 := (by decide); have n4 : (4 : Int32).toInt = 4 := (by decide); have n6 : (6 : Int32).toInt = 6 := (by decide); omega)), trivial⟩, hS.F ht⟩) hS.2.2 dX12_length_158
    by_cases c_16 : x1 = 5
    · refine lv_tableIn (tgt := 159) (off := 88) hx hb dX12_length_71 (by rw [c_16]; decide) (by rw [c_16]; decide) (by rw [c_16]; decide) (by decide) ?_
      refine lv_aload_n hx hb dX12_length_159 rfl (lv_at hl 3 rfl) ?_
      refine lv_aload_n hx hb dX12_length_160 rfl (lv_at hl 3 rfl) ?_
      refine va_get (D := G.1) (ci := 12) (v := .ref nw) (C := RX12) (T := TX12) (N := 32) hx hb ht inlX12 hown hK.1 hP 0 rfl rfl 0 (by decide) (ht (Cond.fieldLink RX12 7 "PloughDepotModel" "now" "[I") mw_6_19) (fun _ h9 => h9) rfl dX12_length_161 ?_
      refine lv_bipush (v := 8) hx hb dX12_length_164 (by decide) ?_
      refine va_iald hx hb hK.1 hP 1 0 rfl rfl (show ¬ ((8 : Int32) < 0 ∨ 15642 ≤ (8 : Int32).toNatClampNeg) by decide) dX12_length_166 ?_
      refine lv_topi (fun v_17 ev_17 => ?_)
      obtain rfl : 0 = v_17 := (ev_17.trans (hz _ (by decide))).symm
      have hPc := hP.sub (ws' := [(mo, .inr (12, .ref nw :: m1 :: m2 :: m3 :: mv))]) [0] rfl
      have hDc := hD.sub (ws' := [(mo, .inr (12, .ref nw :: m1 :: m2 :: m3 :: mv))]) [0] (by decide) rfl
      have hFc := va_free (wc := [(mo, .inr (12, .ref nw :: m1 :: m2 :: m3 :: mv))]) hD hS hA [0] rfl
      refine va_calli (va_runV (As := [.int 0]) (rest := []) ⟨hx, hb, hml, hown, hts⟩ (r_says l G _ mo 0 (.ref nw) m1 m2 m3 mv ) (cwV 1 hts (gd_V mw_12_4 mw_12_5 mw_12_6 mw_1_5 mw_12_7) rfl rfl rfl ⟨rfl, yk_X12_says⟩ ⟨Nat.le_of_ble_eq_true rfl, Nat.le_of_ble_eq_true rfl⟩) (c0_preV (q0 := 0) (ci := 12) (q := (RX12, TX12, 32)) hPc hK hDc rfl rfl) rfl rfl hl.1 rfl (lv_room (Nat.le_of_ble_eq_true rfl)) dX12_length_167 ⟨Nat.le_of_ble_eq_true rfl, Nat.le_of_ble_eq_true rfl⟩) hS (fun q _ h => hFc q h) hFc (fun r_18 u t H1 locs ht1 hvm hw hB hz1 hk1 hS => ?_)
      try dsimp only at hw hB
      have hr18 := hw
      obtain rfl := hr18.symm
      obtain ⟨hP1, hD1⟩ := hB
      rw [ht1] at hP1
      obtain ⟨hP, hD⟩ := va_join (wr := [(nw, .inl (G.2 0, 15642, .inl nf))]) (w1 := [(mo, .inr (12, .ref nw :: m1 :: m2 :: .int 0 :: mv))]) hP hD [0] [1] rfl rfl (by decide) (by decide) hk1 hFc hP1 hD1
      generalize H1 = H at hP hS ⊢
      have hP : va_P G.1 vwCl ([(nw, .inl (G.2 0, 15642, .inl nf)), (mo, .inr (12, .ref nw :: m1 :: m2 :: .int 0 :: mv))]) H := hP
      have hD : va_D A ([(nw, .inl (G.2 0, 15642, .inl nf)), (mo, .inr (12, .ref nw :: m1 :: m2 :: .int 0 :: mv))]) := hD
      exact W.iret (v := 0) hx hb hr (fun t ht hW => ⟨⟨0, (), rfl, (by unfold sp_length; split <;> rename_i hc9 <;> first | rfl | (exfalso; simp only [fa_lt, fa_le, fa_eq] at hc9 c_2 c_3 c_6 c_8 c_10 c_13 c_16; have n0 : (0 : Int32).toInt = 0 := (by decide); have n1 : (1 : Int32).toInt = 1 := (by decide); have n2 : (2 : Int32).toInt = 2 := (by decide); have n3 : (3 : Int32).toInt = 3 := (by decide); have n4 : (4 : Int32).toInt = 4 := (by decide); have n5 : (5 : Int32).toInt = 5 := (by decide); have n6 : (6 : Int32).toInt = 6 := (by decide); omega)), trivial⟩, hS.F ht⟩) hS.2.2 dX12_length_170
    by_cases c_19 : x1 = 6
    · refine lv_tableIn (tgt := 171) (off := 100) hx hb dX12_length_71 (by rw [c_19]; decide) (by rw [c_19]; decide) (by rw [c_19]; decide) (by decide) ?_
      refine lv_aload_n hx hb dX12_length_171 rfl (lv_at hl 3 rfl) ?_
      refine lv_aload_n hx hb dX12_length_172 rfl (lv_at hl 3 rfl) ?_
      refine va_get (D := G.1) (ci := 12) (v := .ref nw) (C := RX12) (T := TX12) (N := 32) hx hb ht inlX12 hown hK.1 hP 0 rfl rfl 0 (by decide) (ht (Cond.fieldLink RX12 7 "PloughDepotModel" "now" "[I") mw_6_19) (fun _ h9 => h9) rfl dX12_length_173 ?_
      refine lv_iconst (v := 5) hx hb dX12_length_176 (by decide) ?_
      refine va_iald hx hb hK.1 hP 1 0 rfl rfl (show ¬ ((5 : Int32) < 0 ∨ 15642 ≤ (5 : Int32).toNatClampNeg) by decide) dX12_length_177 ?_
      refine lv_topi (fun v_20 ev_20 => ?_)
      obtain rfl : 0 = v_20 := (ev_20.trans (hz _ (by decide))).symm
      have hPc := hP.sub (ws' := [(mo, .inr (12, .ref nw :: m1 :: m2 :: m3 :: mv))]) [0] rfl
      have hDc := hD.sub (ws' := [(mo, .inr (12, .ref nw :: m1 :: m2 :: m3 :: mv))]) [0] (by decide) rfl
      have hFc := va_free (wc := [(mo, .inr (12, .ref nw :: m1 :: m2 :: m3 :: mv))]) hD hS hA [0] rfl
      refine va_calli (va_runV (As := [.int 0]) (rest := []) ⟨hx, hb, hml, hown, hts⟩ (r_says l G _ mo 0 (.ref nw) m1 m2 m3 mv ) (cwV 1 hts (gd_V mw_12_4 mw_12_5 mw_12_6 mw_1_5 mw_12_7) rfl rfl rfl ⟨rfl, yk_X12_says⟩ ⟨Nat.le_of_ble_eq_true rfl, Nat.le_of_ble_eq_true rfl⟩) (c0_preV (q0 := 0) (ci := 12) (q := (RX12, TX12, 32)) hPc hK hDc rfl rfl) rfl rfl hl.1 rfl (lv_room (Nat.le_of_ble_eq_true rfl)) dX12_length_178 ⟨Nat.le_of_ble_eq_true rfl, Nat.le_of_ble_eq_true rfl⟩) hS (fun q _ h => hFc q h) hFc (fun r_21 u t H1 locs ht1 hvm hw hB hz1 hk1 hS => ?_)
      try dsimp only at hw hB
      have hr21 := hw
      obtain rfl := hr21.symm
      obtain ⟨hP1, hD1⟩ := hB
      rw [ht1] at hP1
      obtain ⟨hP, hD⟩ := va_join (wr := [(nw, .inl (G.2 0, 15642, .inl nf))]) (w1 := [(mo, .inr (12, .ref nw :: m1 :: m2 :: .int 0 :: mv))]) hP hD [0] [1] rfl rfl (by decide) (by decide) hk1 hFc hP1 hD1
      generalize H1 = H at hP hS ⊢
      have hP : va_P G.1 vwCl ([(nw, .inl (G.2 0, 15642, .inl nf)), (mo, .inr (12, .ref nw :: m1 :: m2 :: .int 0 :: mv))]) H := hP
      have hD : va_D A ([(nw, .inl (G.2 0, 15642, .inl nf)), (mo, .inr (12, .ref nw :: m1 :: m2 :: .int 0 :: mv))]) := hD
      exact W.iret (v := 0) hx hb hr (fun t ht hW => ⟨⟨0, (), rfl, (by unfold sp_length; split <;> rename_i hc9 <;> first | rfl | (exfalso; simp only [fa_lt, fa_le, fa_eq] at hc9 c_2 c_3 c_6 c_8 c_10 c_13 c_16 c_19; have n0 : (0 : Int32).toInt = 0 := (by decide); have n1 : (1 : Int32).toInt = 1 := (by decide); have n2 : (2 : Int32).toInt = 2 := (by decide); have n3 : (3 : Int32).toInt = 3 := (by decide); have n4 : (4 : Int32).toInt = 4 := (by decide); have n5 : (5 : Int32).toInt = 5 := (by decide); have n6 : (6 : Int32).toInt = 6 := (by decide); omega)), trivial⟩, hS.F ht⟩) hS.2.2 dX12_length_181
    refine lv_tableOut (tgt := 182) hx hb dX12_length_71 (by simp only [fa_lt, fa_le, fa_eq] at c_2 c_3 c_6 c_8 c_10 c_13 c_16 c_19; have n0 : (0 : Int32).toInt = 0 := (by decide); have n1 : (1 : Int32).toInt = 1 := (by decide); have n2 : (2 : Int32).toInt = 2 := (by decide); have n3 : (3 : Int32).toInt = 3 := (by decide); have n4 : (4 : Int32).toInt = 4 := (by decide); have n5 : (5 : Int32).toInt = 5 := (by decide); have n6 : (6 : Int32).toInt = 6 := (by decide); omega) (by decide) ?_
    refine lv_aload_n hx hb dX12_length_182 rfl (lv_at hl 3 rfl) ?_
    refine lv_bipush (v := (-2)) hx hb dX12_length_183 (by decide) ?_
    have hPc := hP.sub (ws' := [(mo, .inr (12, .ref nw :: m1 :: m2 :: m3 :: mv))]) [0] rfl
    have hDc := hD.sub (ws' := [(mo, .inr (12, .ref nw :: m1 :: m2 :: m3 :: mv))]) [0] (by decide) rfl
    have hFc := va_free (wc := [(mo, .inr (12, .ref nw :: m1 :: m2 :: m3 :: mv))]) hD hS hA [0] rfl
    refine va_calli (va_runV (As := [.int (-2)]) (rest := []) ⟨hx, hb, hml, hown, hts⟩ (r_refuses_m2 l G _ mo (.ref nw) m1 m2 m3 mv ) (cwV 1 hts (gd_V mw_11_14 mw_11_15 mw_11_16 mw_1_5 mw_11_17) rfl rfl rfl ⟨rfl, yk_X12_refuses⟩ ⟨Nat.le_of_ble_eq_true rfl, Nat.le_of_ble_eq_true rfl⟩) (c0_preV (q0 := 0) (ci := 12) (q := (RX12, TX12, 32)) hPc hK hDc rfl rfl) rfl rfl hl.1 rfl (lv_room (Nat.le_of_ble_eq_true rfl)) dX12_length_185 ⟨Nat.le_of_ble_eq_true rfl, Nat.le_of_ble_eq_true rfl⟩) hS (fun q _ h => hFc q h) hFc (fun r_22 u t H1 locs ht1 hvm hw hB hz1 hk1 hS => ?_)
    try dsimp only at hw hB
    have hr22 := hw
    obtain rfl := hr22.symm
    obtain ⟨hP1, hD1⟩ := hB
    rw [ht1] at hP1
    obtain ⟨hP, hD⟩ := va_join (wr := [(nw, .inl (G.2 0, 15642, .inl nf))]) (w1 := [(mo, .inr (12, .ref nw :: m1 :: m2 :: .int (-2) :: mv))]) hP hD [0] [1] rfl rfl (by decide) (by decide) hk1 hFc hP1 hD1
    generalize H1 = H at hP hS ⊢
    have hP : va_P G.1 vwCl ([(nw, .inl (G.2 0, 15642, .inl nf)), (mo, .inr (12, .ref nw :: m1 :: m2 :: .int (-2) :: mv))]) H := hP
    have hD : va_D A ([(nw, .inl (G.2 0, 15642, .inl nf)), (mo, .inr (12, .ref nw :: m1 :: m2 :: .int (-2) :: mv))]) := hD
    exact W.iret (v := (-2)) hx hb hr (fun t ht hW => ⟨⟨(-2), (), rfl, (by unfold sp_length; split <;> rename_i hc9 <;> first | rfl | (exfalso; simp only [fa_lt, fa_le, fa_eq] at hc9 c_2 c_3 c_6 c_8 c_10 c_13 c_16 c_19; have n0 : (0 : Int32).toInt = 0 := (by decide); have n1 : (1 : Int32).toInt = 1 := (by decide); have n2 : (2 : Int32).toInt = 2 := (by decide); have n3 : (3 : Int32).toInt = 3 := (by decide); have n4 : (4 : Int32).toInt = 4 := (by decide); have n5 : (5 : Int32).toInt = 5 := (by decide); have n6 : (6 : Int32).toInt = 6 := (by decide); omega)), trivial⟩, hS.F ht⟩) hS.2.2 dX12_length_188
  · exact absurd c_2 (by decide)

set_option maxHeartbeats 4000000 in
set_option maxRecDepth 100000 in
theorem r_findings (l : Launch) (G : GG) (sz : Nat) (mo : Nat) (x1 : Int32) (m0 : Value) (m1 : Value) (m2 : Value) (m3 : Value) (m4 : Value) (m5 : Value) (fi : Nat) (mv : List Value)  : Met l yX12_findings (.code yX12_findings cX12_findings 2 (some .int) :: TT) ({ frames := 2, cells := 0, slots := 0, locals := 200 } : Room) (c0_P G [.ref mo, .int x1] sz ([(mo, .inr (12, m0 :: m1 :: m2 :: m3 :: m4 :: m5 :: .ref fi :: mv)), (fi, .inl (G.2 0, 5, .inl (fun _ => 0)))])) (va_Qi (S := Unit) (fun (r : Int32) (u : Unit) => r = sp_findings x1) (fun (u : Unit) (t : State) => True) (va_A ([(mo, .inr (12, m0 :: m1 :: m2 :: m3 :: m4 :: m5 :: .ref fi :: mv)), (fi, .inl (G.2 0, 5, .inl (fun _ => 0)))]) sz)) 0 0 (va_A ([(mo, .inr (12, m0 :: m1 :: m2 :: m3 :: m4 :: m5 :: .ref fi :: mv)), (fi, .inl (G.2 0, 5, .inl (fun _ => 0)))]) sz) := by
  refine Met.ofW (cc := cX12_findings) (maxL := 2) (ret := (some .int)) (by decide) rfl ?_
  intro p e s m args below meth c s₁ B hml hv
  obtain ⟨rfl, hsz, hP, hK, hD0⟩ := hv
  have hx := B.exec
  have hb := B.bytes
  have hr := B.returns
  have hts := atoms_spec (ws := .code yX12_findings cX12_findings 2 (some .int) :: TT) B.pre
  have ht := fun (w : Cond) (h : w ∈ TT) => hts w (List.mem_cons_of_mem _ h)
  have hown : s.vm.findClass RX12 = some m.cls := findClass_of_methodNamed B.named
  have hlocks := B.notSynchronized
  subst hsz
  have hD := hD0.self (sz := s.heap.size)
  generalize hAe : va_A ([(mo, .inr (12, m0 :: m1 :: m2 :: m3 :: m4 :: m5 :: .ref fi :: mv)), (fi, .inl (G.2 0, 5, .inl (fun _ => 0)))]) s.heap.size = A at hD ⊢
  have hA : ∀ q : Nat, s.heap.size ≤ q → A q := fun q h => by rw [← hAe]; exact Or.inr h
  have hS : va_S A s.heap s.heap [] := va_S.rf
  have hP : va_P G.1 vwCl ([(mo, .inr (12, m0 :: m1 :: m2 :: m3 :: m4 :: m5 :: .ref fi :: mv)), (fi, .inl (G.2 0, 5, .inl (fun _ => 0)))]) s.heap := hP
  have hl := lv_entry ([.ref mo, .int x1]) (n := 2) (Nat.le_of_ble_eq_true rfl)
  rw [lg_entry_eq]
  generalize (lg_sl ([.ref mo, .int x1]) ++ List.replicate (2 - (lg_sl ([.ref mo, .int x1])).length) Slot.unset).toArray = ls at hl ⊢
  have hl : lv_has ls 2 [(0, .ref mo), (1, .int x1)] := hl
  refine lv_iload_n hx hb dX12_findings_0 rfl (lv_at hl 1 rfl) ?_
  refine lv_iconst (v := 0) hx hb dX12_findings_1 (by decide) ?_
  refine lv_iconst (v := 4) hx hb dX12_findings_2 (by decide) ?_
  have hPc := hP.sub (ws' := []) [] rfl
  have hDc := hD.sub (ws' := []) [] (by decide) rfl
  have hFc := va_free (wc := []) hD hS hA [] rfl
  refine va_calli (va_runS (As := [.int x1, .int 0, .int 4]) (rest := []) ⟨hx, hb, hml, hown, hts⟩ (r_in l G _ x1 0 4 ) (va_cwS 3 hts (gd_S mw_11_11 mw_11_12 mw_1_5 mw_11_13) rfl rfl rfl yk_X12_in ⟨Nat.le_of_ble_eq_true rfl, Nat.le_of_ble_eq_true rfl⟩) (c0_pre hPc hK hDc) rfl rfl hl.1 rfl (lv_room (Nat.le_of_ble_eq_true rfl)) dX12_findings_3 ⟨Nat.le_of_ble_eq_true rfl, Nat.le_of_ble_eq_true rfl⟩) hS (fun q _ h => hFc q h) hFc (fun r_1 u t H1 locs ht1 hvm hw hB hz1 hk1 hS => ?_)
  try dsimp only at hw hB
  have hr1 := hw
  obtain ⟨hP1, hD1⟩ := hB
  rw [ht1] at hP1
  obtain ⟨hP, hD⟩ := va_join (wr := [(mo, .inr (12, m0 :: m1 :: m2 :: m3 :: m4 :: m5 :: .ref fi :: mv)), (fi, .inl (G.2 0, 5, .inl (fun _ => 0)))]) (w1 := []) hP hD [] [0, 1] rfl rfl (by decide) (by decide) hk1 hFc hP1 hD1
  generalize H1 = H at hP hS ⊢
  have hP : va_P G.1 vwCl ([(mo, .inr (12, m0 :: m1 :: m2 :: m3 :: m4 :: m5 :: .ref fi :: mv)), (fi, .inl (G.2 0, 5, .inl (fun _ => 0)))]) H := hP
  have hD : va_D A ([(mo, .inr (12, m0 :: m1 :: m2 :: m3 :: m4 :: m5 :: .ref fi :: mv)), (fi, .inl (G.2 0, 5, .inl (fun _ => 0)))]) := hD
  rcases sp_in_c x1 0 4 with ⟨c_2a, c_2b, he9⟩ | ⟨c_2, he9⟩
  · obtain rfl : r_1 = 1 := hr1.trans he9
    refine lv_if_eq (tgt := 18) hx hb dX12_findings_6 (by decide) (fun c_3 => ?_) (fun c_3 => ?_)
    · exact absurd c_3 (by decide)
    · refine lv_aload_n hx hb dX12_findings_9 rfl (lv_at hl 0 rfl) ?_
      refine va_get (D := G.1) (ci := 12) (v := .ref fi) (C := RX12) (T := TX12) (N := 32) hx hb ht inlX12 hown hK.1 hP 0 rfl rfl 6 (by decide) (ht (Cond.fieldLink RX12 16 "PloughDepotModel" "findings" "[I") mw_6_21) (fun _ h9 => h9) rfl dX12_findings_10 ?_
      refine lv_iload_n hx hb dX12_findings_13 rfl (lv_at hl 1 rfl) ?_
      refine va_iald hx hb hK.1 hP 1 0 rfl rfl (vp_in_iff.mpr (by simp only [fa_lt, fa_le, fa_eq] at c_2a c_2b c_3; have n0 : (0 : Int32).toInt = 0 := (by decide); have n1 : (1 : Int32).toInt = 1 := (by decide); have n4 : (4 : Int32).toInt = 4 := (by decide); omega)) dX12_findings_14 ?_
      refine lv_topi (fun v_4 ev_4 => ?_)
      obtain rfl : 0 = v_4 := (ev_4.trans (rfl)).symm
      refine lv_goto (tgt := 20) hx hb dX12_findings_15 (by decide) ?_
      exact W.iret (v := 0) hx hb hr (fun t ht hW => ⟨⟨0, (), rfl, (by unfold sp_findings; split <;> rename_i hc9 <;> first | rfl | (exfalso; simp only [fa_lt, fa_le, fa_eq] at hc9 c_2a c_2b c_3; have n0 : (0 : Int32).toInt = 0 := (by decide); have n1 : (1 : Int32).toInt = 1 := (by decide); have n4 : (4 : Int32).toInt = 4 := (by decide); omega)), trivial⟩, hS.F ht⟩) hS.2.2 dX12_findings_20
  · obtain rfl : r_1 = 0 := hr1.trans he9
    refine lv_if_eq (tgt := 18) hx hb dX12_findings_6 (by decide) (fun c_5 => ?_) (fun c_5 => ?_)
    · refine lv_bipush (v := (-2)) hx hb dX12_findings_18 (by decide) ?_
      exact W.iret (v := (-2)) hx hb hr (fun t ht hW => ⟨⟨(-2), (), rfl, (by unfold sp_findings; split <;> rename_i hc9 <;> first | rfl | (exfalso; simp only [fa_lt, fa_le, fa_eq] at hc9 c_2 c_5; have n0 : (0 : Int32).toInt = 0 := (by decide); have n4 : (4 : Int32).toInt = 4 := (by decide); omega)), trivial⟩, hS.F ht⟩) hS.2.2 dX12_findings_20
    · exact absurd c_5 (by decide)

set_option maxHeartbeats 4000000 in
set_option maxRecDepth 100000 in
theorem r_status (l : Launch) (G : GG) (sz : Nat) (mo : Nat) (m0 : Value) (m1 : Value) (m2 : Value) (mv : List Value)  : Met l yX12_status (.code yX12_status cX12_status 1 (some .int) :: TT) ({ frames := 1, cells := 0, slots := 0, locals := 100 } : Room) (c0_P G [.ref mo] sz ([(mo, .inr (12, m0 :: m1 :: m2 :: .int 0 :: mv))])) (va_Qi (S := Unit) (fun (r : Int32) (u : Unit) => r = 0) (fun (u : Unit) (t : State) => True) (va_A ([(mo, .inr (12, m0 :: m1 :: m2 :: .int 0 :: mv))]) sz)) 0 0 (va_A ([(mo, .inr (12, m0 :: m1 :: m2 :: .int 0 :: mv))]) sz) := by
  refine Met.ofW (cc := cX12_status) (maxL := 1) (ret := (some .int)) (by decide) rfl ?_
  intro p e s m args below meth c s₁ B hml hv
  obtain ⟨rfl, hsz, hP, hK, hD0⟩ := hv
  have hx := B.exec
  have hb := B.bytes
  have hr := B.returns
  have hts := atoms_spec (ws := .code yX12_status cX12_status 1 (some .int) :: TT) B.pre
  have ht := fun (w : Cond) (h : w ∈ TT) => hts w (List.mem_cons_of_mem _ h)
  have hown : s.vm.findClass RX12 = some m.cls := findClass_of_methodNamed B.named
  have hlocks := B.notSynchronized
  subst hsz
  have hD := hD0.self (sz := s.heap.size)
  generalize hAe : va_A ([(mo, .inr (12, m0 :: m1 :: m2 :: .int 0 :: mv))]) s.heap.size = A at hD ⊢
  have hA : ∀ q : Nat, s.heap.size ≤ q → A q := fun q h => by rw [← hAe]; exact Or.inr h
  have hS : va_S A s.heap s.heap [] := va_S.rf
  have hP : va_P G.1 vwCl ([(mo, .inr (12, m0 :: m1 :: m2 :: .int 0 :: mv))]) s.heap := hP
  have hl := lv_entry ([.ref mo]) (n := 1) (Nat.le_of_ble_eq_true rfl)
  rw [lg_entry_eq]
  generalize (lg_sl ([.ref mo]) ++ List.replicate (1 - (lg_sl ([.ref mo])).length) Slot.unset).toArray = ls at hl ⊢
  have hl : lv_has ls 1 [(0, .ref mo)] := hl
  refine lv_aload_n hx hb dX12_status_0 rfl (lv_at hl 0 rfl) ?_
  refine va_get (D := G.1) (ci := 12) (v := .int 0) (C := RX12) (T := TX12) (N := 32) hx hb ht inlX12 hown hK.1 hP 0 rfl rfl 3 (by decide) (ht (Cond.fieldLink RX12 76 "PloughDepotModel" "status" "I") mw_11_18) (fun _ h9 => h9) rfl dX12_status_1 ?_
  exact W.iret (v := 0) hx hb hr (fun t ht hW => ⟨⟨0, (), rfl, rfl, trivial⟩, hS.F ht⟩) hS.2.2 dX12_status_4

set_option maxHeartbeats 4000000 in
set_option maxRecDepth 100000 in
theorem r_trace (l : Launch) (G : GG) (sz : Nat) (mo : Nat) (m0 : Value) (m1 : Value) (m2 : Value) (m3 : Value) (mv : List Value)  : Met l yX12_trace (.code yX12_trace cX12_trace 1 (some .int) :: TT) ({ frames := 1, cells := 0, slots := 0, locals := 100 } : Room) (c0_P G [.ref mo] sz ([(mo, .inr (12, m0 :: m1 :: m2 :: m3 :: .int 0 :: mv))])) (va_Qi (S := Unit) (fun (r : Int32) (u : Unit) => r = 0) (fun (u : Unit) (t : State) => True) (va_A ([(mo, .inr (12, m0 :: m1 :: m2 :: m3 :: .int 0 :: mv))]) sz)) 0 0 (va_A ([(mo, .inr (12, m0 :: m1 :: m2 :: m3 :: .int 0 :: mv))]) sz) := by
  refine Met.ofW (cc := cX12_trace) (maxL := 1) (ret := (some .int)) (by decide) rfl ?_
  intro p e s m args below meth c s₁ B hml hv
  obtain ⟨rfl, hsz, hP, hK, hD0⟩ := hv
  have hx := B.exec
  have hb := B.bytes
  have hr := B.returns
  have hts := atoms_spec (ws := .code yX12_trace cX12_trace 1 (some .int) :: TT) B.pre
  have ht := fun (w : Cond) (h : w ∈ TT) => hts w (List.mem_cons_of_mem _ h)
  have hown : s.vm.findClass RX12 = some m.cls := findClass_of_methodNamed B.named
  have hlocks := B.notSynchronized
  subst hsz
  have hD := hD0.self (sz := s.heap.size)
  generalize hAe : va_A ([(mo, .inr (12, m0 :: m1 :: m2 :: m3 :: .int 0 :: mv))]) s.heap.size = A at hD ⊢
  have hA : ∀ q : Nat, s.heap.size ≤ q → A q := fun q h => by rw [← hAe]; exact Or.inr h
  have hS : va_S A s.heap s.heap [] := va_S.rf
  have hP : va_P G.1 vwCl ([(mo, .inr (12, m0 :: m1 :: m2 :: m3 :: .int 0 :: mv))]) s.heap := hP
  have hl := lv_entry ([.ref mo]) (n := 1) (Nat.le_of_ble_eq_true rfl)
  rw [lg_entry_eq]
  generalize (lg_sl ([.ref mo]) ++ List.replicate (1 - (lg_sl ([.ref mo])).length) Slot.unset).toArray = ls at hl ⊢
  have hl : lv_has ls 1 [(0, .ref mo)] := hl
  refine lv_aload_n hx hb dX12_trace_0 rfl (lv_at hl 0 rfl) ?_
  refine va_get (D := G.1) (ci := 12) (v := .int 0) (C := RX12) (T := TX12) (N := 32) hx hb ht inlX12 hown hK.1 hP 0 rfl rfl 4 (by decide) (ht (Cond.fieldLink RX12 221 "PloughDepotModel" "trace" "I") mw_38_11) (fun _ h9 => h9) rfl dX12_trace_1 ?_
  exact W.iret (v := 0) hx hb hr (fun t ht hW => ⟨⟨0, (), rfl, rfl, trivial⟩, hS.F ht⟩) hS.2.2 dX12_trace_4

set_option maxHeartbeats 4000000 in
set_option maxRecDepth 100000 in
theorem r_looks (l : Launch) (G : GG) (sz : Nat) (mo : Nat) (m0 : Value) (m1 : Value) (m2 : Value) (m3 : Value) (m4 : Value) (mv : List Value)  : Met l yX12_looks (.code yX12_looks cX12_looks 1 (some .int) :: TT) ({ frames := 1, cells := 0, slots := 0, locals := 100 } : Room) (c0_P G [.ref mo] sz ([(mo, .inr (12, m0 :: m1 :: m2 :: m3 :: m4 :: .int 0 :: mv))])) (va_Qi (S := Unit) (fun (r : Int32) (u : Unit) => r = 0) (fun (u : Unit) (t : State) => True) (va_A ([(mo, .inr (12, m0 :: m1 :: m2 :: m3 :: m4 :: .int 0 :: mv))]) sz)) 0 0 (va_A ([(mo, .inr (12, m0 :: m1 :: m2 :: m3 :: m4 :: .int 0 :: mv))]) sz) := by
  refine Met.ofW (cc := cX12_looks) (maxL := 1) (ret := (some .int)) (by decide) rfl ?_
  intro p e s m args below meth c s₁ B hml hv
  obtain ⟨rfl, hsz, hP, hK, hD0⟩ := hv
  have hx := B.exec
  have hb := B.bytes
  have hr := B.returns
  have hts := atoms_spec (ws := .code yX12_looks cX12_looks 1 (some .int) :: TT) B.pre
  have ht := fun (w : Cond) (h : w ∈ TT) => hts w (List.mem_cons_of_mem _ h)
  have hown : s.vm.findClass RX12 = some m.cls := findClass_of_methodNamed B.named
  have hlocks := B.notSynchronized
  subst hsz
  have hD := hD0.self (sz := s.heap.size)
  generalize hAe : va_A ([(mo, .inr (12, m0 :: m1 :: m2 :: m3 :: m4 :: .int 0 :: mv))]) s.heap.size = A at hD ⊢
  have hA : ∀ q : Nat, s.heap.size ≤ q → A q := fun q h => by rw [← hAe]; exact Or.inr h
  have hS : va_S A s.heap s.heap [] := va_S.rf
  have hP : va_P G.1 vwCl ([(mo, .inr (12, m0 :: m1 :: m2 :: m3 :: m4 :: .int 0 :: mv))]) s.heap := hP
  have hl := lv_entry ([.ref mo]) (n := 1) (Nat.le_of_ble_eq_true rfl)
  rw [lg_entry_eq]
  generalize (lg_sl ([.ref mo]) ++ List.replicate (1 - (lg_sl ([.ref mo])).length) Slot.unset).toArray = ls at hl ⊢
  have hl : lv_has ls 1 [(0, .ref mo)] := hl
  refine lv_aload_n hx hb dX12_looks_0 rfl (lv_at hl 0 rfl) ?_
  refine va_get (D := G.1) (ci := 12) (v := .int 0) (C := RX12) (T := TX12) (N := 32) hx hb ht inlX12 hown hK.1 hP 0 rfl rfl 5 (by decide) (ht (Cond.fieldLink RX12 341 "PloughDepotModel" "looks" "I") mw_55_13) (fun _ h9 => h9) rfl dX12_looks_1 ?_
  exact W.iret (v := 0) hx hb hr (fun t ht hW => ⟨⟨0, (), rfl, rfl, trivial⟩, hS.F ht⟩) hS.2.2 dX12_looks_4

set_option maxHeartbeats 4000000 in
set_option maxRecDepth 100000 in
theorem r_sign (l : Launch) (G : GG) (sz : Nat) (mo : Nat) (x1 : Int32) (m0 : Value) (m1 : Value) (m2 : Value) (m3 : Value) (m4 : Value) (m5 : Value) (m6 : Value) (m7 : Value) (mv : List Value)  : Met l yX12_sign (.code yX12_sign cX12_sign 2 (some .int) :: TT) ({ frames := 2, cells := 0, slots := 0, locals := 200 } : Room) (c0_P G [.ref mo, .int x1] sz ([(mo, .inr (12, m0 :: m1 :: m2 :: m3 :: m4 :: m5 :: m6 :: m7 :: .int 0 :: mv))])) (va_Qi (S := Unit) (fun (r : Int32) (u : Unit) => r = (-1)) (fun (u : Unit) (t : State) => True) (va_A ([(mo, .inr (12, m0 :: m1 :: m2 :: m3 :: m4 :: m5 :: m6 :: m7 :: .int 0 :: mv))]) sz)) 0 0 (va_A ([(mo, .inr (12, m0 :: m1 :: m2 :: m3 :: m4 :: m5 :: m6 :: m7 :: .int 0 :: mv))]) sz) := by
  refine Met.ofW (cc := cX12_sign) (maxL := 2) (ret := (some .int)) (by decide) rfl ?_
  intro p e s m args below meth c s₁ B hml hv
  obtain ⟨rfl, hsz, hP, hK, hD0⟩ := hv
  have hx := B.exec
  have hb := B.bytes
  have hr := B.returns
  have hts := atoms_spec (ws := .code yX12_sign cX12_sign 2 (some .int) :: TT) B.pre
  have ht := fun (w : Cond) (h : w ∈ TT) => hts w (List.mem_cons_of_mem _ h)
  have hown : s.vm.findClass RX12 = some m.cls := findClass_of_methodNamed B.named
  have hlocks := B.notSynchronized
  subst hsz
  have hD := hD0.self (sz := s.heap.size)
  generalize hAe : va_A ([(mo, .inr (12, m0 :: m1 :: m2 :: m3 :: m4 :: m5 :: m6 :: m7 :: .int 0 :: mv))]) s.heap.size = A at hD ⊢
  have hA : ∀ q : Nat, s.heap.size ≤ q → A q := fun q h => by rw [← hAe]; exact Or.inr h
  have hS : va_S A s.heap s.heap [] := va_S.rf
  have hP : va_P G.1 vwCl ([(mo, .inr (12, m0 :: m1 :: m2 :: m3 :: m4 :: m5 :: m6 :: m7 :: .int 0 :: mv))]) s.heap := hP
  have hl := lv_entry ([.ref mo, .int x1]) (n := 2) (Nat.le_of_ble_eq_true rfl)
  rw [lg_entry_eq]
  generalize (lg_sl ([.ref mo, .int x1]) ++ List.replicate (2 - (lg_sl ([.ref mo, .int x1])).length) Slot.unset).toArray = ls at hl ⊢
  have hl : lv_has ls 2 [(0, .ref mo), (1, .int x1)] := hl
  refine lv_iload_n hx hb dX12_sign_0 rfl (lv_at hl 1 rfl) ?_
  refine lv_iconst (v := 0) hx hb dX12_sign_1 (by decide) ?_
  refine lv_aload_n hx hb dX12_sign_2 rfl (lv_at hl 0 rfl) ?_
  refine va_get (D := G.1) (ci := 12) (v := .int 0) (C := RX12) (T := TX12) (N := 32) hx hb ht inlX12 hown hK.1 hP 0 rfl rfl 8 (by decide) (ht (Cond.fieldLink RX12 350 "PloughDepotModel" "signs" "I") mw_57_3) (fun _ h9 => h9) rfl dX12_sign_3 ?_
  refine lv_iconst (v := 1) hx hb dX12_sign_6 (by decide) ?_
  refine lv_isub hx hb dX12_sign_7 ?_
  refine lv_topi (fun v_1 ev_1 => ?_)
  obtain rfl : v_1 = (-1) := ev_1.trans (by decide)
  have hPc := hP.sub (ws' := []) [] rfl
  have hDc := hD.sub (ws' := []) [] (by decide) rfl
  have hFc := va_free (wc := []) hD hS hA [] rfl
  refine va_calli (va_runS (As := [.int x1, .int 0, .int (-1)]) (rest := []) ⟨hx, hb, hml, hown, hts⟩ (r_in l G _ x1 0 (-1) ) (va_cwS 3 hts (gd_S mw_11_11 mw_11_12 mw_1_5 mw_11_13) rfl rfl rfl yk_X12_in ⟨Nat.le_of_ble_eq_true rfl, Nat.le_of_ble_eq_true rfl⟩) (c0_pre hPc hK hDc) rfl rfl hl.1 rfl (lv_room (Nat.le_of_ble_eq_true rfl)) dX12_sign_8 ⟨Nat.le_of_ble_eq_true rfl, Nat.le_of_ble_eq_true rfl⟩) hS (fun q _ h => hFc q h) hFc (fun r_2 u t H1 locs ht1 hvm hw hB hz1 hk1 hS => ?_)
  try dsimp only at hw hB
  have hr2 := hw
  obtain ⟨hP1, hD1⟩ := hB
  rw [ht1] at hP1
  obtain ⟨hP, hD⟩ := va_join (wr := [(mo, .inr (12, m0 :: m1 :: m2 :: m3 :: m4 :: m5 :: m6 :: m7 :: .int 0 :: mv))]) (w1 := []) hP hD [] [0] rfl rfl (by decide) (by decide) hk1 hFc hP1 hD1
  generalize H1 = H at hP hS ⊢
  have hP : va_P G.1 vwCl ([(mo, .inr (12, m0 :: m1 :: m2 :: m3 :: m4 :: m5 :: m6 :: m7 :: .int 0 :: mv))]) H := hP
  have hD : va_D A ([(mo, .inr (12, m0 :: m1 :: m2 :: m3 :: m4 :: m5 :: m6 :: m7 :: .int 0 :: mv))]) := hD
  obtain rfl : r_2 = 0 := hr2.trans (sp_in_m x1 (by decide))
  refine lv_if_eq (tgt := 23) hx hb dX12_sign_11 (by decide) (fun c_3 => ?_) (fun c_3 => ?_)
  · refine lv_iconst (v := (-1)) hx hb dX12_sign_23 (by decide) ?_
    exact W.iret (v := (-1)) hx hb hr (fun t ht hW => ⟨⟨(-1), (), rfl, rfl, trivial⟩, hS.F ht⟩) hS.2.2 dX12_sign_24
  · exact absurd c_3 (by decide)

set_option maxHeartbeats 4000000 in
set_option maxRecDepth 100000 in
theorem r_undo (l : Launch) (G : GG) (sz : Nat) (mo : Nat) (m0 : Value) (m1 : Value) (m3 : Value) (mv : List Value)  : Met l yX12_undo (.code yX12_undo cX12_undo 2 (some .int) :: TT) ({ frames := 2, cells := 0, slots := 0, locals := 200 } : Room) (c0_P G [.ref mo] sz ([(mo, .inr (12, m0 :: m1 :: .int 0 :: m3 :: mv))])) (va_Qi (S := Unit) (fun (r : Int32) (u : Unit) => r = 0) (fun (u : Unit) (t : State) => True) (va_A ([(mo, .inr (12, m0 :: m1 :: .int 0 :: m3 :: mv))]) sz)) 0 0 (va_A ([(mo, .inr (12, m0 :: m1 :: .int 0 :: m3 :: mv))]) sz) := by
  refine Met.ofW (cc := cX12_undo) (maxL := 2) (ret := (some .int)) (by decide) rfl ?_
  intro p e s m args below meth c s₁ B hml hv
  obtain ⟨rfl, hsz, hP, hK, hD0⟩ := hv
  have hx := B.exec
  have hb := B.bytes
  have hr := B.returns
  have hts := atoms_spec (ws := .code yX12_undo cX12_undo 2 (some .int) :: TT) B.pre
  have ht := fun (w : Cond) (h : w ∈ TT) => hts w (List.mem_cons_of_mem _ h)
  have hown : s.vm.findClass RX12 = some m.cls := findClass_of_methodNamed B.named
  have hlocks := B.notSynchronized
  subst hsz
  have hD := hD0.self (sz := s.heap.size)
  generalize hAe : va_A ([(mo, .inr (12, m0 :: m1 :: .int 0 :: m3 :: mv))]) s.heap.size = A at hD ⊢
  have hA : ∀ q : Nat, s.heap.size ≤ q → A q := fun q h => by rw [← hAe]; exact Or.inr h
  have hS : va_S A s.heap s.heap [] := va_S.rf
  have hP : va_P G.1 vwCl ([(mo, .inr (12, m0 :: m1 :: .int 0 :: m3 :: mv))]) s.heap := hP
  have hl := lv_entry ([.ref mo]) (n := 2) (Nat.le_of_ble_eq_true rfl)
  rw [lg_entry_eq]
  generalize (lg_sl ([.ref mo]) ++ List.replicate (2 - (lg_sl ([.ref mo])).length) Slot.unset).toArray = ls at hl ⊢
  have hl : lv_has ls 2 [(0, .ref mo)] := hl
  refine lv_aload_n hx hb dX12_undo_0 rfl (lv_at hl 0 rfl) ?_
  refine va_get (D := G.1) (ci := 12) (v := .int 0) (C := RX12) (T := TX12) (N := 32) hx hb ht inlX12 hown hK.1 hP 0 rfl rfl 2 (by decide) (ht (Cond.fieldLink RX12 84 "PloughDepotModel" "isKept" "Z") mw_12_3) (fun _ h9 => h9) rfl dX12_undo_1 ?_
  refine lv_if_ne (tgt := 13) hx hb dX12_undo_4 (by decide) (fun c_1 => ?_) (fun c_1 => ?_)
  · exact absurd c_1 (by decide)
  · refine lv_aload_n hx hb dX12_undo_7 rfl (lv_at hl 0 rfl) ?_
    refine lv_iconst (v := 0) hx hb dX12_undo_8 (by decide) ?_
    have hPc := hP.sub (ws' := [(mo, .inr (12, m0 :: m1 :: .int 0 :: m3 :: mv))]) [0] rfl
    have hDc := hD.sub (ws' := [(mo, .inr (12, m0 :: m1 :: .int 0 :: m3 :: mv))]) [0] (by decide) rfl
    have hFc := va_free (wc := [(mo, .inr (12, m0 :: m1 :: .int 0 :: m3 :: mv))]) hD hS hA [0] rfl
    refine va_calli (va_runV (As := [.int 0]) (rest := []) ⟨hx, hb, hml, hown, hts⟩ (r_says l G _ mo 0 m0 m1 (.int 0) m3 mv ) (cwV 1 hts (gd_V mw_12_4 mw_12_5 mw_12_6 mw_1_5 mw_12_7) rfl rfl rfl ⟨rfl, yk_X12_says⟩ ⟨Nat.le_of_ble_eq_true rfl, Nat.le_of_ble_eq_true rfl⟩) (c0_preV (q0 := 0) (ci := 12) (q := (RX12, TX12, 32)) hPc hK hDc rfl rfl) rfl rfl hl.1 rfl (lv_room (Nat.le_of_ble_eq_true rfl)) dX12_undo_9 ⟨Nat.le_of_ble_eq_true rfl, Nat.le_of_ble_eq_true rfl⟩) hS (fun q _ h => hFc q h) hFc (fun r_2 u t H1 locs ht1 hvm hw hB hz1 hk1 hS => ?_)
    try dsimp only at hw hB
    have hr2 := hw
    obtain rfl := hr2.symm
    obtain ⟨hP1, hD1⟩ := hB
    rw [ht1] at hP1
    obtain ⟨hP, hD⟩ := va_join (wr := []) (w1 := [(mo, .inr (12, m0 :: m1 :: .int 0 :: .int 0 :: mv))]) hP hD [0] [] rfl rfl (by decide) (by decide) hk1 hFc hP1 hD1
    generalize H1 = H at hP hS ⊢
    have hP : va_P G.1 vwCl ([(mo, .inr (12, m0 :: m1 :: .int 0 :: .int 0 :: mv))]) H := hP
    have hD : va_D A ([(mo, .inr (12, m0 :: m1 :: .int 0 :: .int 0 :: mv))]) := hD
    exact W.iret (v := 0) hx hb hr (fun t ht hW => ⟨⟨0, (), rfl, rfl, trivial⟩, hS.F ht⟩) hS.2.2 dX12_undo_12

set_option maxHeartbeats 4000000 in
set_option maxRecDepth 100000 in
theorem r_text (l : Launch) (G : GG) (sz : Nat) (mo : Nat) (nw : Nat) (m1 : Value) (m2 : Value) (m3 : Value) (m4 : Value) (m5 : Value) (m6 : Value) (m7 : Value) (m8 : Value) (mv : List Value) (nf : Nat → Int32) (hz : ∀ j, j < 16 → nf j = 0) : Met l yX12_text (.code yX12_text cX12_text 6 (some .int) :: TT) ({ frames := 2, cells := 0, slots := 0, locals := 200 } : Room) (c0_P G [.ref mo] sz ([(mo, .inr (12, .ref nw :: m1 :: m2 :: m3 :: m4 :: m5 :: m6 :: m7 :: m8 :: mv)), (nw, .inl (G.2 0, 15642, .inl nf))])) (va_Qi (S := Unit) (fun (r : Int32) (u : Unit) => r = 0) (fun (u : Unit) (t : State) => True) (va_A ([(mo, .inr (12, .ref nw :: m1 :: m2 :: m3 :: m4 :: m5 :: m6 :: m7 :: m8 :: mv)), (nw, .inl (G.2 0, 15642, .inl nf))]) sz)) 0 0 (va_A ([(mo, .inr (12, .ref nw :: m1 :: m2 :: m3 :: m4 :: m5 :: m6 :: m7 :: m8 :: mv)), (nw, .inl (G.2 0, 15642, .inl nf))]) sz) := by
  refine Met.ofW (cc := cX12_text) (maxL := 6) (ret := (some .int)) (by decide) rfl ?_
  intro p e s m args below meth c s₁ B hml hv
  obtain ⟨rfl, hsz, hP, hK, hD0⟩ := hv
  have hx := B.exec
  have hb := B.bytes
  have hr := B.returns
  have hts := atoms_spec (ws := .code yX12_text cX12_text 6 (some .int) :: TT) B.pre
  have ht := fun (w : Cond) (h : w ∈ TT) => hts w (List.mem_cons_of_mem _ h)
  have hown : s.vm.findClass RX12 = some m.cls := findClass_of_methodNamed B.named
  have hlocks := B.notSynchronized
  subst hsz
  have hD := hD0.self (sz := s.heap.size)
  generalize hAe : va_A ([(mo, .inr (12, .ref nw :: m1 :: m2 :: m3 :: m4 :: m5 :: m6 :: m7 :: m8 :: mv)), (nw, .inl (G.2 0, 15642, .inl nf))]) s.heap.size = A at hD ⊢
  have hA : ∀ q : Nat, s.heap.size ≤ q → A q := fun q h => by rw [← hAe]; exact Or.inr h
  have hS : va_S A s.heap s.heap [] := va_S.rf
  have hP : va_P G.1 vwCl ([(mo, .inr (12, .ref nw :: m1 :: m2 :: m3 :: m4 :: m5 :: m6 :: m7 :: m8 :: mv)), (nw, .inl (G.2 0, 15642, .inl nf))]) s.heap := hP
  have hl := lv_entry ([.ref mo]) (n := 6) (Nat.le_of_ble_eq_true rfl)
  rw [lg_entry_eq]
  generalize (lg_sl ([.ref mo]) ++ List.replicate (6 - (lg_sl ([.ref mo])).length) Slot.unset).toArray = ls at hl ⊢
  have hl : lv_has ls 6 [(0, .ref mo)] := hl
  refine lv_aload_n hx hb dX12_text_0 rfl (lv_at hl 0 rfl) ?_
  refine lv_iconst (v := 0) hx hb dX12_text_1 (by decide) ?_
  refine va_put (D := G.1) (ci := 12) (v := .int 0) (ty := tyX12 8) (C := RX12) (T := TX12) (N := 32) hx hb ht inlX12 tyX12 tyX12_ok nmX12 hown hK.1 hP hD hS 0 rfl rfl 8 (by decide) (ht (Cond.fieldLink RX12 350 "PloughDepotModel" "signs" "I") mw_57_3) (fun _ h9 => h9) rfl (tyX12_ok 8 (by decide)) rfl rfl (by simp) dX12_text_2 (fun H locs hP hD hS => ?_)
  have hP : va_P G.1 vwCl ([(mo, .inr (12, .ref nw :: m1 :: m2 :: m3 :: m4 :: m5 :: m6 :: m7 :: .int 0 :: mv)), (nw, .inl (G.2 0, 15642, .inl nf))]) H := hP
  have hD : va_D A ([(mo, .inr (12, .ref nw :: m1 :: m2 :: m3 :: m4 :: m5 :: m6 :: m7 :: .int 0 :: mv)), (nw, .inl (G.2 0, 15642, .inl nf))]) := hD
  refine lv_iconst (v := 1) hx hb dX12_text_5 (by decide) ?_
  refine lv_istore_n (lv' := [(1, .int 1), (0, .ref mo)]) hx hb dX12_text_6 rfl hl (by decide) rfl (fun ls hl => ?_)
  refine lv_iconst (v := 0) hx hb dX12_text_7 (by decide) ?_
  refine lv_istore_n (lv' := [(2, .int 0), (1, .int 1), (0, .ref mo)]) hx hb dX12_text_8 rfl hl (by decide) rfl (fun ls hl => ?_)
  refine lv_iload_n hx hb dX12_text_9 rfl (lv_at hl 0 rfl) ?_
  refine lv_aload_n hx hb dX12_text_10 rfl (lv_at hl 2 rfl) ?_
  refine va_get (D := G.1) (ci := 12) (v := .ref nw) (C := RX12) (T := TX12) (N := 32) hx hb ht inlX12 hown hK.1 hP 0 rfl rfl 0 (by decide) (ht (Cond.fieldLink RX12 7 "PloughDepotModel" "now" "[I") mw_6_19) (fun _ h9 => h9) rfl dX12_text_11 ?_
  refine lv_iconst (v := 4) hx hb dX12_text_14 (by decide) ?_
  refine va_iald hx hb hK.1 hP 1 0 rfl rfl (show ¬ ((4 : Int32) < 0 ∨ 15642 ≤ (4 : Int32).toNatClampNeg) by decide) dX12_text_15 ?_
  refine lv_topi (fun v_1 ev_1 => ?_)
  obtain rfl : 0 = v_1 := (ev_1.trans (hz _ (by decide))).symm
  refine lv_icmp_ge (tgt := 201) hx hb dX12_text_16 (by decide) (fun c_2 => ?_) (fun c_2 => ?_)
  · refine lv_aload_n hx hb dX12_text_201 rfl (lv_at hl 2 rfl) ?_
    refine lv_aload_n hx hb dX12_text_202 rfl (lv_at hl 2 rfl) ?_
    refine va_get (D := G.1) (ci := 12) (v := .int 0) (C := RX12) (T := TX12) (N := 32) hx hb ht inlX12 hown hK.1 hP 0 rfl rfl 8 (by decide) (ht (Cond.fieldLink RX12 350 "PloughDepotModel" "signs" "I") mw_57_3) (fun _ h9 => h9) rfl dX12_text_203 ?_
    have hPc := hP.sub (ws' := [(mo, .inr (12, .ref nw :: m1 :: m2 :: m3 :: m4 :: m5 :: m6 :: m7 :: .int 0 :: mv))]) [0] rfl
    have hDc := hD.sub (ws' := [(mo, .inr (12, .ref nw :: m1 :: m2 :: m3 :: m4 :: m5 :: m6 :: m7 :: .int 0 :: mv))]) [0] (by decide) rfl
    have hFc := va_free (wc := [(mo, .inr (12, .ref nw :: m1 :: m2 :: m3 :: m4 :: m5 :: m6 :: m7 :: .int 0 :: mv))]) hD hS hA [0] rfl
    refine va_calli (va_runV (As := [.int 0]) (rest := []) ⟨hx, hb, hml, hown, hts⟩ (r_says l G _ mo 0 (.ref nw) m1 m2 m3 (m4 :: m5 :: m6 :: m7 :: .int 0 :: mv) ) (cwV 1 hts (gd_V mw_12_4 mw_12_5 mw_12_6 mw_1_5 mw_12_7) rfl rfl rfl ⟨rfl, yk_X12_says⟩ ⟨Nat.le_of_ble_eq_true rfl, Nat.le_of_ble_eq_true rfl⟩) (c0_preV (q0 := 0) (ci := 12) (q := (RX12, TX12, 32)) hPc hK hDc rfl rfl) rfl rfl hl.1 rfl (lv_room (Nat.le_of_ble_eq_true rfl)) dX12_text_206 ⟨Nat.le_of_ble_eq_true rfl, Nat.le_of_ble_eq_true rfl⟩) hS (fun q _ h => hFc q h) hFc (fun r_3 u t H1 locs ht1 hvm hw hB hz1 hk1 hS => ?_)
    try dsimp only at hw hB
    have hr3 := hw
    obtain rfl := hr3.symm
    obtain ⟨hP1, hD1⟩ := hB
    rw [ht1] at hP1
    obtain ⟨hP, hD⟩ := va_join (wr := [(nw, .inl (G.2 0, 15642, .inl nf))]) (w1 := [(mo, .inr (12, .ref nw :: m1 :: m2 :: .int 0 :: m4 :: m5 :: m6 :: m7 :: .int 0 :: mv))]) hP hD [0] [1] rfl rfl (by decide) (by decide) hk1 hFc hP1 hD1
    generalize H1 = H at hP hS ⊢
    have hP : va_P G.1 vwCl ([(nw, .inl (G.2 0, 15642, .inl nf)), (mo, .inr (12, .ref nw :: m1 :: m2 :: .int 0 :: m4 :: m5 :: m6 :: m7 :: .int 0 :: mv))]) H := hP
    have hD : va_D A ([(nw, .inl (G.2 0, 15642, .inl nf)), (mo, .inr (12, .ref nw :: m1 :: m2 :: .int 0 :: m4 :: m5 :: m6 :: m7 :: .int 0 :: mv))]) := hD
    exact W.iret (v := 0) hx hb hr (fun t ht hW => ⟨⟨0, (), rfl, rfl, trivial⟩, hS.F ht⟩) hS.2.2 dX12_text_209
  · exact absurd c_2 (by decide)

set_option maxHeartbeats 4000000 in
set_option maxRecDepth 100000 in
theorem r_digest (l : Launch) (G : GG) (sz : Nat) (mo : Nat) (nw : Nat) (m1 : Value) (m2 : Value) (m3 : Value) (mv : List Value) (nf : Nat → Int32) (hz : ∀ j, j < 16 → nf j = 0) : Met l yX12_digest (.code yX12_digest cX12_digest 4 (some .int) :: TT) ({ frames := 2, cells := 0, slots := 0, locals := 200 } : Room) (c0_P G [.ref mo] sz ([(mo, .inr (12, .ref nw :: m1 :: m2 :: m3 :: mv)), (nw, .inl (G.2 0, 15642, .inl nf))])) (va_Qi (S := Unit) (fun (r : Int32) (u : Unit) => r = 217) (fun (u : Unit) (t : State) => True) (va_A ([(mo, .inr (12, .ref nw :: m1 :: m2 :: m3 :: mv)), (nw, .inl (G.2 0, 15642, .inl nf))]) sz)) 0 0 (va_A ([(mo, .inr (12, .ref nw :: m1 :: m2 :: m3 :: mv)), (nw, .inl (G.2 0, 15642, .inl nf))]) sz) := by
  refine Met.ofW (cc := cX12_digest) (maxL := 4) (ret := (some .int)) (by decide) rfl ?_
  intro p e s m args below meth c s₁ B hml hv
  obtain ⟨rfl, hsz, hP, hK, hD0⟩ := hv
  have hx := B.exec
  have hb := B.bytes
  have hr := B.returns
  have hts := atoms_spec (ws := .code yX12_digest cX12_digest 4 (some .int) :: TT) B.pre
  have ht := fun (w : Cond) (h : w ∈ TT) => hts w (List.mem_cons_of_mem _ h)
  have hown : s.vm.findClass RX12 = some m.cls := findClass_of_methodNamed B.named
  have hlocks := B.notSynchronized
  subst hsz
  have hD := hD0.self (sz := s.heap.size)
  generalize hAe : va_A ([(mo, .inr (12, .ref nw :: m1 :: m2 :: m3 :: mv)), (nw, .inl (G.2 0, 15642, .inl nf))]) s.heap.size = A at hD ⊢
  have hA : ∀ q : Nat, s.heap.size ≤ q → A q := fun q h => by rw [← hAe]; exact Or.inr h
  have hS : va_S A s.heap s.heap [] := va_S.rf
  have hP : va_P G.1 vwCl ([(mo, .inr (12, .ref nw :: m1 :: m2 :: m3 :: mv)), (nw, .inl (G.2 0, 15642, .inl nf))]) s.heap := hP
  have hl := lv_entry ([.ref mo]) (n := 4) (Nat.le_of_ble_eq_true rfl)
  rw [lg_entry_eq]
  generalize (lg_sl ([.ref mo]) ++ List.replicate (4 - (lg_sl ([.ref mo])).length) Slot.unset).toArray = ls at hl ⊢
  have hl : lv_has ls 4 [(0, .ref mo)] := hl
  refine lv_sipush (v := 217) hx hb dX12_digest_0 (by decide) ?_
  refine lv_aload_n hx hb dX12_digest_3 rfl (lv_at hl 0 rfl) ?_
  refine va_get (D := G.1) (ci := 12) (v := .ref nw) (C := RX12) (T := TX12) (N := 32) hx hb ht inlX12 hown hK.1 hP 0 rfl rfl 0 (by decide) (ht (Cond.fieldLink RX12 7 "PloughDepotModel" "now" "[I") mw_6_19) (fun _ h9 => h9) rfl dX12_digest_4 ?_
  refine lv_iconst (v := 0) hx hb dX12_digest_7 (by decide) ?_
  refine va_iald hx hb hK.1 hP 1 0 rfl rfl (show ¬ ((0 : Int32) < 0 ∨ 15642 ≤ (0 : Int32).toNatClampNeg) by decide) dX12_digest_8 ?_
  refine lv_topi (fun v_1 ev_1 => ?_)
  obtain rfl : 0 = v_1 := (ev_1.trans (hz _ (by decide))).symm
  refine lv_iadd hx hb dX12_digest_9 ?_
  refine lv_topi (fun v_2 ev_2 => ?_)
  obtain rfl : v_2 = 217 := ev_2.trans (by decide)
  refine lv_istore_n (lv' := [(1, .int 217), (0, .ref mo)]) hx hb dX12_digest_10 rfl hl (by decide) rfl (fun ls hl => ?_)
  refine lv_iconst (v := 0) hx hb dX12_digest_11 (by decide) ?_
  refine lv_istore_n (lv' := [(2, .int 0), (1, .int 217), (0, .ref mo)]) hx hb dX12_digest_12 rfl hl (by decide) rfl (fun ls hl => ?_)
  refine lv_iload_n hx hb dX12_digest_13 rfl (lv_at hl 0 rfl) ?_
  refine lv_aload_n hx hb dX12_digest_14 rfl (lv_at hl 2 rfl) ?_
  refine va_get (D := G.1) (ci := 12) (v := .ref nw) (C := RX12) (T := TX12) (N := 32) hx hb ht inlX12 hown hK.1 hP 0 rfl rfl 0 (by decide) (ht (Cond.fieldLink RX12 7 "PloughDepotModel" "now" "[I") mw_6_19) (fun _ h9 => h9) rfl dX12_digest_15 ?_
  refine lv_iconst (v := 1) hx hb dX12_digest_18 (by decide) ?_
  refine va_iald hx hb hK.1 hP 1 0 rfl rfl (show ¬ ((1 : Int32) < 0 ∨ 15642 ≤ (1 : Int32).toNatClampNeg) by decide) dX12_digest_19 ?_
  refine lv_topi (fun v_3 ev_3 => ?_)
  obtain rfl : 0 = v_3 := (ev_3.trans (hz _ (by decide))).symm
  refine lv_icmp_ge (tgt := 61) hx hb dX12_digest_20 (by decide) (fun c_4 => ?_) (fun c_4 => ?_)
  · refine lv_iconst (v := 0) hx hb dX12_digest_61 (by decide) ?_
    refine lv_istore_n (lv' := [(2, .int 0), (1, .int 217), (0, .ref mo)]) hx hb dX12_digest_62 rfl hl (by decide) rfl (fun ls hl => ?_)
    refine lv_iload_n hx hb dX12_digest_63 rfl (lv_at hl 0 rfl) ?_
    refine lv_aload_n hx hb dX12_digest_64 rfl (lv_at hl 2 rfl) ?_
    refine va_get (D := G.1) (ci := 12) (v := .ref nw) (C := RX12) (T := TX12) (N := 32) hx hb ht inlX12 hown hK.1 hP 0 rfl rfl 0 (by decide) (ht (Cond.fieldLink RX12 7 "PloughDepotModel" "now" "[I") mw_6_19) (fun _ h9 => h9) rfl dX12_digest_65 ?_
    refine lv_iconst (v := 2) hx hb dX12_digest_68 (by decide) ?_
    refine va_iald hx hb hK.1 hP 1 0 rfl rfl (show ¬ ((2 : Int32) < 0 ∨ 15642 ≤ (2 : Int32).toNatClampNeg) by decide) dX12_digest_69 ?_
    refine lv_topi (fun v_5 ev_5 => ?_)
    obtain rfl : 0 = v_5 := (ev_5.trans (hz _ (by decide))).symm
    refine lv_icmp_ge (tgt := 147) hx hb dX12_digest_70 (by decide) (fun c_6 => ?_) (fun c_6 => ?_)
    · refine lv_iconst (v := 0) hx hb dX12_digest_147 (by decide) ?_
      refine lv_istore_n (lv' := [(2, .int 0), (1, .int 217), (0, .ref mo)]) hx hb dX12_digest_148 rfl hl (by decide) rfl (fun ls hl => ?_)
      refine lv_iload_n hx hb dX12_digest_149 rfl (lv_at hl 0 rfl) ?_
      refine lv_aload_n hx hb dX12_digest_150 rfl (lv_at hl 2 rfl) ?_
      refine va_get (D := G.1) (ci := 12) (v := .ref nw) (C := RX12) (T := TX12) (N := 32) hx hb ht inlX12 hown hK.1 hP 0 rfl rfl 0 (by decide) (ht (Cond.fieldLink RX12 7 "PloughDepotModel" "now" "[I") mw_6_19) (fun _ h9 => h9) rfl dX12_digest_151 ?_
      refine lv_iconst (v := 3) hx hb dX12_digest_154 (by decide) ?_
      refine va_iald hx hb hK.1 hP 1 0 rfl rfl (show ¬ ((3 : Int32) < 0 ∨ 15642 ≤ (3 : Int32).toNatClampNeg) by decide) dX12_digest_155 ?_
      refine lv_topi (fun v_7 ev_7 => ?_)
      obtain rfl : 0 = v_7 := (ev_7.trans (hz _ (by decide))).symm
      refine lv_icmp_ge (tgt := 191) hx hb dX12_digest_156 (by decide) (fun c_8 => ?_) (fun c_8 => ?_)
      · refine lv_iconst (v := 0) hx hb dX12_digest_191 (by decide) ?_
        refine lv_istore_n (lv' := [(2, .int 0), (1, .int 217), (0, .ref mo)]) hx hb dX12_digest_192 rfl hl (by decide) rfl (fun ls hl => ?_)
        refine lv_iload_n hx hb dX12_digest_193 rfl (lv_at hl 0 rfl) ?_
        refine lv_aload_n hx hb dX12_digest_194 rfl (lv_at hl 2 rfl) ?_
        refine va_get (D := G.1) (ci := 12) (v := .ref nw) (C := RX12) (T := TX12) (N := 32) hx hb ht inlX12 hown hK.1 hP 0 rfl rfl 0 (by decide) (ht (Cond.fieldLink RX12 7 "PloughDepotModel" "now" "[I") mw_6_19) (fun _ h9 => h9) rfl dX12_digest_195 ?_
        refine lv_iconst (v := 4) hx hb dX12_digest_198 (by decide) ?_
        refine va_iald hx hb hK.1 hP 1 0 rfl rfl (show ¬ ((4 : Int32) < 0 ∨ 15642 ≤ (4 : Int32).toNatClampNeg) by decide) dX12_digest_199 ?_
        refine lv_topi (fun v_9 ev_9 => ?_)
        obtain rfl : 0 = v_9 := (ev_9.trans (hz _ (by decide))).symm
        refine lv_icmp_ge (tgt := 234) hx hb dX12_digest_200 (by decide) (fun c_10 => ?_) (fun c_10 => ?_)
        · refine lv_aload_n hx hb dX12_digest_234 rfl (lv_at hl 2 rfl) ?_
          refine lv_iload_n hx hb dX12_digest_235 rfl (lv_at hl 1 rfl) ?_
          have hPc := hP.sub (ws' := [(mo, .inr (12, .ref nw :: m1 :: m2 :: m3 :: mv))]) [0] rfl
          have hDc := hD.sub (ws' := [(mo, .inr (12, .ref nw :: m1 :: m2 :: m3 :: mv))]) [0] (by decide) rfl
          have hFc := va_free (wc := [(mo, .inr (12, .ref nw :: m1 :: m2 :: m3 :: mv))]) hD hS hA [0] rfl
          refine va_calli (va_runV (As := [.int 217]) (rest := []) ⟨hx, hb, hml, hown, hts⟩ (r_says l G _ mo 217 (.ref nw) m1 m2 m3 mv ) (cwV 1 hts (gd_V mw_12_4 mw_12_5 mw_12_6 mw_1_5 mw_12_7) rfl rfl rfl ⟨rfl, yk_X12_says⟩ ⟨Nat.le_of_ble_eq_true rfl, Nat.le_of_ble_eq_true rfl⟩) (c0_preV (q0 := 0) (ci := 12) (q := (RX12, TX12, 32)) hPc hK hDc rfl rfl) rfl rfl hl.1 rfl (lv_room (Nat.le_of_ble_eq_true rfl)) dX12_digest_236 ⟨Nat.le_of_ble_eq_true rfl, Nat.le_of_ble_eq_true rfl⟩) hS (fun q _ h => hFc q h) hFc (fun r_11 u t H1 locs ht1 hvm hw hB hz1 hk1 hS => ?_)
          try dsimp only at hw hB
          have hr11 := hw
          obtain rfl := hr11.symm
          obtain ⟨hP1, hD1⟩ := hB
          rw [ht1] at hP1
          obtain ⟨hP, hD⟩ := va_join (wr := [(nw, .inl (G.2 0, 15642, .inl nf))]) (w1 := [(mo, .inr (12, .ref nw :: m1 :: m2 :: .int 0 :: mv))]) hP hD [0] [1] rfl rfl (by decide) (by decide) hk1 hFc hP1 hD1
          generalize H1 = H at hP hS ⊢
          have hP : va_P G.1 vwCl ([(nw, .inl (G.2 0, 15642, .inl nf)), (mo, .inr (12, .ref nw :: m1 :: m2 :: .int 0 :: mv))]) H := hP
          have hD : va_D A ([(nw, .inl (G.2 0, 15642, .inl nf)), (mo, .inr (12, .ref nw :: m1 :: m2 :: .int 0 :: mv))]) := hD
          exact W.iret (v := 217) hx hb hr (fun t ht hW => ⟨⟨217, (), rfl, rfl, trivial⟩, hS.F ht⟩) hS.2.2 dX12_digest_239
        · exact absurd c_10 (by decide)
      · exact absurd c_8 (by decide)
    · exact absurd c_6 (by decide)
  · exact absurd c_4 (by decide)

set_option maxHeartbeats 4000000 in
set_option maxRecDepth 100000 in
theorem r_count (l : Launch) (G : GG) (sz : Nat) (mo : Nat) (x1 : Int32) (nw : Nat) (m1 : Value) (m2 : Value) (m3 : Value) (mv : List Value) (nf : Nat → Int32) (hz : ∀ j, j < 16 → nf j = 0) : Met l yX12_count (.code yX12_count cX12_count 2 (some .int) :: TT) ({ frames := 2, cells := 0, slots := 0, locals := 200 } : Room) (c0_P G [.ref mo, .int x1] sz ([(mo, .inr (12, .ref nw :: m1 :: m2 :: m3 :: mv)), (nw, .inl (G.2 0, 15642, .inl nf))])) (va_Qi (S := Unit) (fun (r : Int32) (u : Unit) => r = sp_count x1) (fun (u : Unit) (t : State) => True) (va_A ([(mo, .inr (12, .ref nw :: m1 :: m2 :: m3 :: mv)), (nw, .inl (G.2 0, 15642, .inl nf))]) sz)) 0 0 (va_A ([(mo, .inr (12, .ref nw :: m1 :: m2 :: m3 :: mv)), (nw, .inl (G.2 0, 15642, .inl nf))]) sz) := by
  refine Met.ofW (cc := cX12_count) (maxL := 2) (ret := (some .int)) (by decide) rfl ?_
  intro p e s m args below meth c s₁ B hml hv
  obtain ⟨rfl, hsz, hP, hK, hD0⟩ := hv
  have hx := B.exec
  have hb := B.bytes
  have hr := B.returns
  have hts := atoms_spec (ws := .code yX12_count cX12_count 2 (some .int) :: TT) B.pre
  have ht := fun (w : Cond) (h : w ∈ TT) => hts w (List.mem_cons_of_mem _ h)
  have hown : s.vm.findClass RX12 = some m.cls := findClass_of_methodNamed B.named
  have hlocks := B.notSynchronized
  subst hsz
  have hD := hD0.self (sz := s.heap.size)
  generalize hAe : va_A ([(mo, .inr (12, .ref nw :: m1 :: m2 :: m3 :: mv)), (nw, .inl (G.2 0, 15642, .inl nf))]) s.heap.size = A at hD ⊢
  have hA : ∀ q : Nat, s.heap.size ≤ q → A q := fun q h => by rw [← hAe]; exact Or.inr h
  have hS : va_S A s.heap s.heap [] := va_S.rf
  have hP : va_P G.1 vwCl ([(mo, .inr (12, .ref nw :: m1 :: m2 :: m3 :: mv)), (nw, .inl (G.2 0, 15642, .inl nf))]) s.heap := hP
  have hl := lv_entry ([.ref mo, .int x1]) (n := 2) (Nat.le_of_ble_eq_true rfl)
  rw [lg_entry_eq]
  generalize (lg_sl ([.ref mo, .int x1]) ++ List.replicate (2 - (lg_sl ([.ref mo, .int x1])).length) Slot.unset).toArray = ls at hl ⊢
  have hl : lv_has ls 2 [(0, .ref mo), (1, .int x1)] := hl
  refine lv_iload_n hx hb dX12_count_0 rfl (lv_at hl 1 rfl) ?_
  refine lv_iconst (v := 0) hx hb dX12_count_1 (by decide) ?_
  refine lv_iconst (v := 3) hx hb dX12_count_2 (by decide) ?_
  have hPc := hP.sub (ws' := []) [] rfl
  have hDc := hD.sub (ws' := []) [] (by decide) rfl
  have hFc := va_free (wc := []) hD hS hA [] rfl
  refine va_calli (va_runS (As := [.int x1, .int 0, .int 3]) (rest := []) ⟨hx, hb, hml, hown, hts⟩ (r_in l G _ x1 0 3 ) (va_cwS 3 hts (gd_S mw_11_11 mw_11_12 mw_1_5 mw_11_13) rfl rfl rfl yk_X12_in ⟨Nat.le_of_ble_eq_true rfl, Nat.le_of_ble_eq_true rfl⟩) (c0_pre hPc hK hDc) rfl rfl hl.1 rfl (lv_room (Nat.le_of_ble_eq_true rfl)) dX12_count_3 ⟨Nat.le_of_ble_eq_true rfl, Nat.le_of_ble_eq_true rfl⟩) hS (fun q _ h => hFc q h) hFc (fun r_1 u t H1 locs ht1 hvm hw hB hz1 hk1 hS => ?_)
  try dsimp only at hw hB
  have hr1 := hw
  obtain ⟨hP1, hD1⟩ := hB
  rw [ht1] at hP1
  obtain ⟨hP, hD⟩ := va_join (wr := [(mo, .inr (12, .ref nw :: m1 :: m2 :: m3 :: mv)), (nw, .inl (G.2 0, 15642, .inl nf))]) (w1 := []) hP hD [] [0, 1] rfl rfl (by decide) (by decide) hk1 hFc hP1 hD1
  generalize H1 = H at hP hS ⊢
  have hP : va_P G.1 vwCl ([(mo, .inr (12, .ref nw :: m1 :: m2 :: m3 :: mv)), (nw, .inl (G.2 0, 15642, .inl nf))]) H := hP
  have hD : va_D A ([(mo, .inr (12, .ref nw :: m1 :: m2 :: m3 :: mv)), (nw, .inl (G.2 0, 15642, .inl nf))]) := hD
  rcases sp_in_c x1 0 3 with ⟨c_2a, c_2b, he9⟩ | ⟨c_2, he9⟩
  · obtain rfl : r_1 = 1 := hr1.trans he9
    refine lv_if_eq (tgt := 18) hx hb dX12_count_6 (by decide) (fun c_3 => ?_) (fun c_3 => ?_)
    · exact absurd c_3 (by decide)
    · refine lv_aload_n hx hb dX12_count_9 rfl (lv_at hl 0 rfl) ?_
      refine va_get (D := G.1) (ci := 12) (v := .ref nw) (C := RX12) (T := TX12) (N := 32) hx hb ht inlX12 hown hK.1 hP 0 rfl rfl 0 (by decide) (ht (Cond.fieldLink RX12 7 "PloughDepotModel" "now" "[I") mw_6_19) (fun _ h9 => h9) rfl dX12_count_10 ?_
      refine lv_iload_n hx hb dX12_count_13 rfl (lv_at hl 1 rfl) ?_
      refine va_iald hx hb hK.1 hP 1 0 rfl rfl (vp_in_iff.mpr (by simp only [fa_lt, fa_le, fa_eq] at c_2a c_2b c_3; have n0 : (0 : Int32).toInt = 0 := (by decide); have n1 : (1 : Int32).toInt = 1 := (by decide); have n3 : (3 : Int32).toInt = 3 := (by decide); omega)) dX12_count_14 ?_
      refine lv_topi (fun v_4 ev_4 => ?_)
      obtain rfl : 0 = v_4 := (ev_4.trans (hz _ (clamp_lt (by simp only [fa_lt, fa_le, fa_eq] at c_2a c_2b c_3; have n0 : (0 : Int32).toInt = 0 := (by decide); have n1 : (1 : Int32).toInt = 1 := (by decide); have n3 : (3 : Int32).toInt = 3 := (by decide); omega) (by decide)))).symm
      refine lv_goto (tgt := 20) hx hb dX12_count_15 (by decide) ?_
      exact W.iret (v := 0) hx hb hr (fun t ht hW => ⟨⟨0, (), rfl, (by unfold sp_count; split <;> rename_i hc9 <;> first | rfl | (exfalso; simp only [fa_lt, fa_le, fa_eq] at hc9 c_2a c_2b c_3; have n0 : (0 : Int32).toInt = 0 := (by decide); have n1 : (1 : Int32).toInt = 1 := (by decide); have n3 : (3 : Int32).toInt = 3 := (by decide); omega)), trivial⟩, hS.F ht⟩) hS.2.2 dX12_count_20
  · obtain rfl : r_1 = 0 := hr1.trans he9
    refine lv_if_eq (tgt := 18) hx hb dX12_count_6 (by decide) (fun c_5 => ?_) (fun c_5 => ?_)
    · refine lv_bipush (v := (-2)) hx hb dX12_count_18 (by decide) ?_
      exact W.iret (v := (-2)) hx hb hr (fun t ht hW => ⟨⟨(-2), (), rfl, (by unfold sp_count; split <;> rename_i hc9 <;> first | rfl | (exfalso; simp only [fa_lt, fa_le, fa_eq] at hc9 c_2 c_5; have n0 : (0 : Int32).toInt = 0 := (by decide); have n3 : (3 : Int32).toInt = 3 := (by decide); omega)), trivial⟩, hS.F ht⟩) hS.2.2 dX12_count_20
    · exact absurd c_5 (by decide)

