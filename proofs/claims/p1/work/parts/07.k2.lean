def sp_at (w : Int32) : Int32 := if w < 0 ∨ 3 < w then -2 else -1
def sp_length (w : Int32) : Int32 := if w < 0 ∨ 6 < w then -2 else 0
def sp_findings (w : Int32) : Int32 := if w < 0 ∨ 4 < w then -2 else 0
def sp_count (w : Int32) : Int32 := if w < 0 ∨ 3 < w then -2 else 0
def sp_crossings (w : Int32) : Int32 := if w < 1 ∨ 20 < w then -2 else w
def sp_snow (w : Int32) : Int32 := if w < 0 ∨ 199 < w then -2 else 0
def sp_least (w : Int32) : Int32 := if w < 0 ∨ 0 < w then -2 else 0
def sp_plough (k w : Int32) : Int32 := if k < 0 ∨ 3 < k ∨ w < 0 ∨ 10000 < w then -2 else 0
set_option maxHeartbeats 4000000 in
set_option maxRecDepth 100000 in
theorem k_become (l : Launch) (G : GG) (sz : Nat) (dp : Nat) (x1 : Int32) (x2 : Int32) (x3 : Int32) (lg : Nat) (nw : Nat) (dv : List Value) (lfi : Value) (lst : Value) (ltr : Value) (llk : Value) (ts : Nat) (nv : List Value) (tsc : Value)  : Met l yX11_become (.code yX11_become cX11_become 5 (some .int) :: TT) ({ frames := 3, cells := 0, slots := 0, locals := 300 } : Room) (c0_P G [.ref dp, .int x1, .int x2, .int x3] sz ([(dp, .inr (11, .ref lg :: .ref nw :: dv)), (lg, .inr (2, [lfi, lst, ltr, llk])), (nw, .inr (1, .int 0 :: .ref ts :: nv)), (ts, .inr (8, [tsc, .int 0]))])) (va_Qi (S := Unit) (fun (r : Int32) (u : Unit) => r = (-2)) (fun (u : Unit) (t : State) => True) (va_A ([(dp, .inr (11, .ref lg :: .ref nw :: dv)), (lg, .inr (2, [lfi, lst, ltr, llk])), (nw, .inr (1, .int 0 :: .ref ts :: nv)), (ts, .inr (8, [tsc, .int 0]))]) sz)) 0 0 (va_A ([(dp, .inr (11, .ref lg :: .ref nw :: dv)), (lg, .inr (2, [lfi, lst, ltr, llk])), (nw, .inr (1, .int 0 :: .ref ts :: nv)), (ts, .inr (8, [tsc, .int 0]))]) sz) := by
  refine Met.ofW (cc := cX11_become) (maxL := 5) (ret := (some .int)) (by decide) rfl ?_
  intro p e s m args below meth c s₁ B hml hv
  obtain ⟨rfl, hsz, hP, hK, hD0⟩ := hv
  have hx := B.exec
  have hb := B.bytes
  have hr := B.returns
  have hts := atoms_spec (ws := .code yX11_become cX11_become 5 (some .int) :: TT) B.pre
  have ht := fun (w : Cond) (h : w ∈ TT) => hts w (List.mem_cons_of_mem _ h)
  have hown : s.vm.findClass RX11 = some m.cls := findClass_of_methodNamed B.named
  have hlocks := B.notSynchronized
  subst hsz
  have hD := hD0.self (sz := s.heap.size)
  generalize hAe : va_A ([(dp, .inr (11, .ref lg :: .ref nw :: dv)), (lg, .inr (2, [lfi, lst, ltr, llk])), (nw, .inr (1, .int 0 :: .ref ts :: nv)), (ts, .inr (8, [tsc, .int 0]))]) s.heap.size = A at hD ⊢
  have hA : ∀ q : Nat, s.heap.size ≤ q → A q := fun q h => by rw [← hAe]; exact Or.inr h
  have hS : va_S A s.heap s.heap [] := va_S.rf
  have hP : va_P G.1 vwCl ([(dp, .inr (11, .ref lg :: .ref nw :: dv)), (lg, .inr (2, [lfi, lst, ltr, llk])), (nw, .inr (1, .int 0 :: .ref ts :: nv)), (ts, .inr (8, [tsc, .int 0]))]) s.heap := hP
  have hl := lv_entry ([.ref dp, .int x1, .int x2, .int x3]) (n := 5) (Nat.le_of_ble_eq_true rfl)
  rw [lg_entry_eq]
  generalize (lg_sl ([.ref dp, .int x1, .int x2, .int x3]) ++ List.replicate (5 - (lg_sl ([.ref dp, .int x1, .int x2, .int x3])).length) Slot.unset).toArray = ls at hl ⊢
  have hl : lv_has ls 5 [(0, .ref dp), (1, .int x1), (2, .int x2), (3, .int x3)] := hl
  refine lv_aload_n hx hb dX11_become_0 rfl (lv_at hl 0 rfl) ?_
  refine va_get (D := G.1) (ci := 11) (v := .ref nw) (C := RX11) (T := TX11) (N := 14) hx hb ht inlX11 hown hK.1 hP 0 rfl rfl 1 (by decide) (ht (Cond.fieldLink RX11 19 "PloughDepot" "now" "LPloughDepot$Books;") mw_1_19) (fun _ h9 => h9) rfl dX11_become_1 ?_
  refine va_get (D := G.1) (ci := 1) (v := .ref ts) (C := RX1) (T := TX1) (N := 8) hx hb ht inlX1 hown hK.1 hP 2 rfl rfl 1 (by decide) (ht (Cond.fieldLink RX11 105 "PloughDepot$Books" "streets" "LPloughDepot$Table;") mw_12_12) (fun _ h9 => h9) rfl dX11_become_4 ?_
  refine lv_iload_n hx hb dX11_become_7 rfl (lv_at hl 1 rfl) ?_
  have hPc := hP.sub (ws' := [(ts, .inr (8, [tsc, .int 0]))]) [3] rfl
  have hDc := hD.sub (ws' := [(ts, .inr (8, [tsc, .int 0]))]) [3] (by decide) rfl
  have hFc := va_free (wc := [(ts, .inr (8, [tsc, .int 0]))]) hD hS hA [3] rfl
  refine va_calli (va_runV (As := [.int x1]) (rest := []) ⟨hx, hb, hml, hown, hts⟩ (k_has l G _ ts x1 tsc ) (cwV 1 hts (gd_V mw_13_22 mw_13_23 mw_14_0 mw_3_13 mw_14_1) rfl rfl rfl ⟨rfl, yk_X8_has⟩ ⟨Nat.le_of_ble_eq_true rfl, Nat.le_of_ble_eq_true rfl⟩) (c0_preV (q0 := 0) (ci := 8) (q := (RX8, TX8, 2)) hPc hK hDc rfl rfl) rfl rfl hl.1 rfl (lv_room (Nat.le_of_ble_eq_true rfl)) dX11_become_8 ⟨Nat.le_of_ble_eq_true rfl, Nat.le_of_ble_eq_true rfl⟩) hS (fun q _ h => hFc q h) hFc (fun r_1 u t H1 locs ht1 hvm hw hB hz1 hk1 hS => ?_)
  try dsimp only at hw hB
  have hr1 := hw
  obtain rfl := hr1.symm
  obtain ⟨hP1, hD1⟩ := hB
  rw [ht1] at hP1
  obtain ⟨hP, hD⟩ := va_join (wr := [(dp, .inr (11, .ref lg :: .ref nw :: dv)), (lg, .inr (2, [lfi, lst, ltr, llk])), (nw, .inr (1, .int 0 :: .ref ts :: nv))]) (w1 := [(ts, .inr (8, [tsc, .int 0]))]) hP hD [3] [0, 1, 2] rfl rfl (by decide) (by decide) hk1 hFc hP1 hD1
  generalize H1 = H at hP hS ⊢
  have hP : va_P G.1 vwCl ([(dp, .inr (11, .ref lg :: .ref nw :: dv)), (lg, .inr (2, [lfi, lst, ltr, llk])), (nw, .inr (1, .int 0 :: .ref ts :: nv)), (ts, .inr (8, [tsc, .int 0]))]) H := hP
  have hD : va_D A ([(dp, .inr (11, .ref lg :: .ref nw :: dv)), (lg, .inr (2, [lfi, lst, ltr, llk])), (nw, .inr (1, .int 0 :: .ref ts :: nv)), (ts, .inr (8, [tsc, .int 0]))]) := hD
  refine lv_if_ne (tgt := 21) hx hb dX11_become_11 (by decide) (fun c_2 => ?_) (fun c_2 => ?_)
  · exact absurd c_2 (by decide)
  · refine lv_aload_n hx hb dX11_become_14 rfl (lv_at hl 0 rfl) ?_
    refine lv_bipush (v := (-2)) hx hb dX11_become_15 (by decide) ?_
    have hPc := hP.sub (ws' := [(dp, .inr (11, .ref lg :: .ref nw :: dv)), (lg, .inr (2, [lfi, lst, ltr, llk]))]) [0, 1] rfl
    have hDc := hD.sub (ws' := [(dp, .inr (11, .ref lg :: .ref nw :: dv)), (lg, .inr (2, [lfi, lst, ltr, llk]))]) [0, 1] (by decide) rfl
    have hFc := va_free (wc := [(dp, .inr (11, .ref lg :: .ref nw :: dv)), (lg, .inr (2, [lfi, lst, ltr, llk]))]) hD hS hA [0, 1] rfl
    refine va_calli (va_runV (As := [.int (-2)]) (rest := []) ⟨hx, hb, hml, hown, hts⟩ (k_refuse_m2 l G _ dp lg (.ref nw :: dv) lfi lst ltr llk ) (cwV 1 hts (gd_V mw_7_22 mw_7_23 mw_8_0 mw_1_2 mw_8_1) rfl rfl rfl ⟨rfl, yk_X11_refuse⟩ ⟨Nat.le_of_ble_eq_true rfl, Nat.le_of_ble_eq_true rfl⟩) (c0_preV (q0 := 0) (ci := 11) (q := (RX11, TX11, 14)) hPc hK hDc rfl rfl) rfl rfl hl.1 rfl (lv_room (Nat.le_of_ble_eq_true rfl)) dX11_become_17 ⟨Nat.le_of_ble_eq_true rfl, Nat.le_of_ble_eq_true rfl⟩) hS (fun q _ h => hFc q h) hFc (fun r_3 u t H1 locs ht1 hvm hw hB hz1 hk1 hS => ?_)
    try dsimp only at hw hB
    have hr3 := hw
    obtain rfl := hr3.symm
    obtain ⟨hP1, hD1⟩ := hB
    rw [ht1] at hP1
    obtain ⟨hP, hD⟩ := va_join (wr := [(nw, .inr (1, .int 0 :: .ref ts :: nv)), (ts, .inr (8, [tsc, .int 0]))]) (w1 := [(dp, .inr (11, .ref lg :: .ref nw :: dv)), (lg, .inr (2, [lfi, .int (-2), ltr, llk]))]) hP hD [0, 1] [2, 3] rfl rfl (by decide) (by decide) hk1 hFc hP1 hD1
    generalize H1 = H at hP hS ⊢
    have hP : va_P G.1 vwCl ([(nw, .inr (1, .int 0 :: .ref ts :: nv)), (ts, .inr (8, [tsc, .int 0])), (dp, .inr (11, .ref lg :: .ref nw :: dv)), (lg, .inr (2, [lfi, .int (-2), ltr, llk]))]) H := hP
    have hD : va_D A ([(nw, .inr (1, .int 0 :: .ref ts :: nv)), (ts, .inr (8, [tsc, .int 0])), (dp, .inr (11, .ref lg :: .ref nw :: dv)), (lg, .inr (2, [lfi, .int (-2), ltr, llk]))]) := hD
    exact W.iret (v := (-2)) hx hb hr (fun t ht hW => ⟨⟨(-2), (), rfl, rfl, trivial⟩, hS.F ht⟩) hS.2.2 dX11_become_20

set_option maxHeartbeats 4000000 in
set_option maxRecDepth 100000 in
theorem k_street (l : Launch) (G : GG) (sz : Nat) (dp : Nat) (x1 : Int32) (x2 : Int32) (x3 : Int32) (x4 : Int32) (lg : Nat) (nw : Nat) (dv : List Value) (lfi : Value) (lst : Value) (ltr : Value) (llk : Value) (nv : List Value)  : Met l yX11_street (.code yX11_street cX11_street 6 (some .int) :: TT) ({ frames := 3, cells := 0, slots := 0, locals := 300 } : Room) (c0_P G [.ref dp, .int x1, .int x2, .int x3, .int x4] sz ([(dp, .inr (11, .ref lg :: .ref nw :: dv)), (lg, .inr (2, [lfi, lst, ltr, llk])), (nw, .inr (1, .int 0 :: nv))])) (va_Qi (S := Unit) (fun (r : Int32) (u : Unit) => r = (-2)) (fun (u : Unit) (t : State) => True) (va_A ([(dp, .inr (11, .ref lg :: .ref nw :: dv)), (lg, .inr (2, [lfi, lst, ltr, llk])), (nw, .inr (1, .int 0 :: nv))]) sz)) 0 0 (va_A ([(dp, .inr (11, .ref lg :: .ref nw :: dv)), (lg, .inr (2, [lfi, lst, ltr, llk])), (nw, .inr (1, .int 0 :: nv))]) sz) := by
  refine Met.ofW (cc := cX11_street) (maxL := 6) (ret := (some .int)) (by decide) rfl ?_
  intro p e s m args below meth c s₁ B hml hv
  obtain ⟨rfl, hsz, hP, hK, hD0⟩ := hv
  have hx := B.exec
  have hb := B.bytes
  have hr := B.returns
  have hts := atoms_spec (ws := .code yX11_street cX11_street 6 (some .int) :: TT) B.pre
  have ht := fun (w : Cond) (h : w ∈ TT) => hts w (List.mem_cons_of_mem _ h)
  have hown : s.vm.findClass RX11 = some m.cls := findClass_of_methodNamed B.named
  have hlocks := B.notSynchronized
  subst hsz
  have hD := hD0.self (sz := s.heap.size)
  generalize hAe : va_A ([(dp, .inr (11, .ref lg :: .ref nw :: dv)), (lg, .inr (2, [lfi, lst, ltr, llk])), (nw, .inr (1, .int 0 :: nv))]) s.heap.size = A at hD ⊢
  have hA : ∀ q : Nat, s.heap.size ≤ q → A q := fun q h => by rw [← hAe]; exact Or.inr h
  have hS : va_S A s.heap s.heap [] := va_S.rf
  have hP : va_P G.1 vwCl ([(dp, .inr (11, .ref lg :: .ref nw :: dv)), (lg, .inr (2, [lfi, lst, ltr, llk])), (nw, .inr (1, .int 0 :: nv))]) s.heap := hP
  have hl := lv_entry ([.ref dp, .int x1, .int x2, .int x3, .int x4]) (n := 6) (Nat.le_of_ble_eq_true rfl)
  rw [lg_entry_eq]
  generalize (lg_sl ([.ref dp, .int x1, .int x2, .int x3, .int x4]) ++ List.replicate (6 - (lg_sl ([.ref dp, .int x1, .int x2, .int x3, .int x4])).length) Slot.unset).toArray = ls at hl ⊢
  have hl : lv_has ls 6 [(0, .ref dp), (1, .int x1), (2, .int x2), (3, .int x3), (4, .int x4)] := hl
  refine lv_aload_n hx hb dX11_street_0 rfl (lv_at hl 0 rfl) ?_
  refine va_get (D := G.1) (ci := 11) (v := .ref nw) (C := RX11) (T := TX11) (N := 14) hx hb ht inlX11 hown hK.1 hP 0 rfl rfl 1 (by decide) (ht (Cond.fieldLink RX11 19 "PloughDepot" "now" "LPloughDepot$Books;") mw_1_19) (fun _ h9 => h9) rfl dX11_street_1 ?_
  refine lv_iload_n hx hb dX11_street_4 rfl (lv_at hl 1 rfl) ?_
  have hPc := hP.sub (ws' := [(nw, .inr (1, .int 0 :: nv))]) [2] rfl
  have hDc := hD.sub (ws' := [(nw, .inr (1, .int 0 :: nv))]) [2] (by decide) rfl
  have hFc := va_free (wc := [(nw, .inr (1, .int 0 :: nv))]) hD hS hA [2] rfl
  refine va_calli (va_runV (As := [.int x1]) (rest := []) ⟨hx, hb, hml, hown, hts⟩ (k_hasCrossing l G _ nw x1 nv ) (cwV 1 hts (gd_V mw_12_14 mw_12_15 mw_12_16 mw_1_18 mw_12_17) rfl rfl rfl ⟨rfl, yk_X1_hasCrossing⟩ ⟨Nat.le_of_ble_eq_true rfl, Nat.le_of_ble_eq_true rfl⟩) (c0_preV (q0 := 0) (ci := 1) (q := (RX1, TX1, 8)) hPc hK hDc rfl rfl) rfl rfl hl.1 rfl (lv_room (Nat.le_of_ble_eq_true rfl)) dX11_street_5 ⟨Nat.le_of_ble_eq_true rfl, Nat.le_of_ble_eq_true rfl⟩) hS (fun q _ h => hFc q h) hFc (fun r_1 u t H1 locs ht1 hvm hw hB hz1 hk1 hS => ?_)
  try dsimp only at hw hB
  have hr1 := hw
  obtain rfl := hr1.symm
  obtain ⟨hP1, hD1⟩ := hB
  rw [ht1] at hP1
  obtain ⟨hP, hD⟩ := va_join (wr := [(dp, .inr (11, .ref lg :: .ref nw :: dv)), (lg, .inr (2, [lfi, lst, ltr, llk]))]) (w1 := [(nw, .inr (1, .int 0 :: nv))]) hP hD [2] [0, 1] rfl rfl (by decide) (by decide) hk1 hFc hP1 hD1
  generalize H1 = H at hP hS ⊢
  have hP : va_P G.1 vwCl ([(dp, .inr (11, .ref lg :: .ref nw :: dv)), (lg, .inr (2, [lfi, lst, ltr, llk])), (nw, .inr (1, .int 0 :: nv))]) H := hP
  have hD : va_D A ([(dp, .inr (11, .ref lg :: .ref nw :: dv)), (lg, .inr (2, [lfi, lst, ltr, llk])), (nw, .inr (1, .int 0 :: nv))]) := hD
  refine lv_if_eq (tgt := 39) hx hb dX11_street_8 (by decide) (fun c_2 => ?_) (fun c_2 => ?_)
  · refine lv_aload_n hx hb dX11_street_39 rfl (lv_at hl 0 rfl) ?_
    refine lv_bipush (v := (-2)) hx hb dX11_street_40 (by decide) ?_
    have hPc := hP.sub (ws' := [(dp, .inr (11, .ref lg :: .ref nw :: dv)), (lg, .inr (2, [lfi, lst, ltr, llk]))]) [0, 1] rfl
    have hDc := hD.sub (ws' := [(dp, .inr (11, .ref lg :: .ref nw :: dv)), (lg, .inr (2, [lfi, lst, ltr, llk]))]) [0, 1] (by decide) rfl
    have hFc := va_free (wc := [(dp, .inr (11, .ref lg :: .ref nw :: dv)), (lg, .inr (2, [lfi, lst, ltr, llk]))]) hD hS hA [0, 1] rfl
    refine va_calli (va_runV (As := [.int (-2)]) (rest := []) ⟨hx, hb, hml, hown, hts⟩ (k_refuse_m2 l G _ dp lg (.ref nw :: dv) lfi lst ltr llk ) (cwV 1 hts (gd_V mw_7_22 mw_7_23 mw_8_0 mw_1_2 mw_8_1) rfl rfl rfl ⟨rfl, yk_X11_refuse⟩ ⟨Nat.le_of_ble_eq_true rfl, Nat.le_of_ble_eq_true rfl⟩) (c0_preV (q0 := 0) (ci := 11) (q := (RX11, TX11, 14)) hPc hK hDc rfl rfl) rfl rfl hl.1 rfl (lv_room (Nat.le_of_ble_eq_true rfl)) dX11_street_42 ⟨Nat.le_of_ble_eq_true rfl, Nat.le_of_ble_eq_true rfl⟩) hS (fun q _ h => hFc q h) hFc (fun r_3 u t H1 locs ht1 hvm hw hB hz1 hk1 hS => ?_)
    try dsimp only at hw hB
    have hr3 := hw
    obtain rfl := hr3.symm
    obtain ⟨hP1, hD1⟩ := hB
    rw [ht1] at hP1
    obtain ⟨hP, hD⟩ := va_join (wr := [(nw, .inr (1, .int 0 :: nv))]) (w1 := [(dp, .inr (11, .ref lg :: .ref nw :: dv)), (lg, .inr (2, [lfi, .int (-2), ltr, llk]))]) hP hD [0, 1] [2] rfl rfl (by decide) (by decide) hk1 hFc hP1 hD1
    generalize H1 = H at hP hS ⊢
    have hP : va_P G.1 vwCl ([(nw, .inr (1, .int 0 :: nv)), (dp, .inr (11, .ref lg :: .ref nw :: dv)), (lg, .inr (2, [lfi, .int (-2), ltr, llk]))]) H := hP
    have hD : va_D A ([(nw, .inr (1, .int 0 :: nv)), (dp, .inr (11, .ref lg :: .ref nw :: dv)), (lg, .inr (2, [lfi, .int (-2), ltr, llk]))]) := hD
    exact W.iret (v := (-2)) hx hb hr (fun t ht hW => ⟨⟨(-2), (), rfl, rfl, trivial⟩, hS.F ht⟩) hS.2.2 dX11_street_45
  · exact absurd c_2 (by decide)

set_option maxHeartbeats 4000000 in
set_option maxRecDepth 100000 in
theorem k_oneWay (l : Launch) (G : GG) (sz : Nat) (dp : Nat) (x1 : Int32) (x2 : Int32) (lg : Nat) (nw : Nat) (dv : List Value) (lfi : Value) (lst : Value) (ltr : Value) (llk : Value) (ts : Nat) (nv : List Value) (tsc : Value)  : Met l yX11_oneWay (.code yX11_oneWay cX11_oneWay 3 (some .int) :: TT) ({ frames := 4, cells := 0, slots := 0, locals := 400 } : Room) (c0_P G [.ref dp, .int x1, .int x2] sz ([(dp, .inr (11, .ref lg :: .ref nw :: dv)), (lg, .inr (2, [lfi, lst, ltr, llk])), (nw, .inr (1, .int 0 :: .ref ts :: nv)), (ts, .inr (8, [tsc, .int 0]))])) (va_Qi (S := Unit) (fun (r : Int32) (u : Unit) => r = (-2)) (fun (u : Unit) (t : State) => True) (va_A ([(dp, .inr (11, .ref lg :: .ref nw :: dv)), (lg, .inr (2, [lfi, lst, ltr, llk])), (nw, .inr (1, .int 0 :: .ref ts :: nv)), (ts, .inr (8, [tsc, .int 0]))]) sz)) 0 0 (va_A ([(dp, .inr (11, .ref lg :: .ref nw :: dv)), (lg, .inr (2, [lfi, lst, ltr, llk])), (nw, .inr (1, .int 0 :: .ref ts :: nv)), (ts, .inr (8, [tsc, .int 0]))]) sz) := by
  refine Met.ofW (cc := cX11_oneWay) (maxL := 3) (ret := (some .int)) (by decide) rfl ?_
  intro p e s m args below meth c s₁ B hml hv
  obtain ⟨rfl, hsz, hP, hK, hD0⟩ := hv
  have hx := B.exec
  have hb := B.bytes
  have hr := B.returns
  have hts := atoms_spec (ws := .code yX11_oneWay cX11_oneWay 3 (some .int) :: TT) B.pre
  have ht := fun (w : Cond) (h : w ∈ TT) => hts w (List.mem_cons_of_mem _ h)
  have hown : s.vm.findClass RX11 = some m.cls := findClass_of_methodNamed B.named
  have hlocks := B.notSynchronized
  subst hsz
  have hD := hD0.self (sz := s.heap.size)
  generalize hAe : va_A ([(dp, .inr (11, .ref lg :: .ref nw :: dv)), (lg, .inr (2, [lfi, lst, ltr, llk])), (nw, .inr (1, .int 0 :: .ref ts :: nv)), (ts, .inr (8, [tsc, .int 0]))]) s.heap.size = A at hD ⊢
  have hA : ∀ q : Nat, s.heap.size ≤ q → A q := fun q h => by rw [← hAe]; exact Or.inr h
  have hS : va_S A s.heap s.heap [] := va_S.rf
  have hP : va_P G.1 vwCl ([(dp, .inr (11, .ref lg :: .ref nw :: dv)), (lg, .inr (2, [lfi, lst, ltr, llk])), (nw, .inr (1, .int 0 :: .ref ts :: nv)), (ts, .inr (8, [tsc, .int 0]))]) s.heap := hP
  have hl := lv_entry ([.ref dp, .int x1, .int x2]) (n := 3) (Nat.le_of_ble_eq_true rfl)
  rw [lg_entry_eq]
  generalize (lg_sl ([.ref dp, .int x1, .int x2]) ++ List.replicate (3 - (lg_sl ([.ref dp, .int x1, .int x2])).length) Slot.unset).toArray = ls at hl ⊢
  have hl : lv_has ls 3 [(0, .ref dp), (1, .int x1), (2, .int x2)] := hl
  refine lv_aload_n hx hb dX11_oneWay_0 rfl (lv_at hl 0 rfl) ?_
  refine lv_iload_n hx hb dX11_oneWay_1 rfl (lv_at hl 1 rfl) ?_
  refine lv_iconst (v := 5) hx hb dX11_oneWay_2 (by decide) ?_
  refine lv_iload_n hx hb dX11_oneWay_3 rfl (lv_at hl 2 rfl) ?_
  refine lv_if_eq (tgt := 11) hx hb dX11_oneWay_4 (by decide) (fun c_1 => ?_) (fun c_1 => ?_)
  · refine lv_iconst (v := 0) hx hb dX11_oneWay_11 (by decide) ?_
    have hPc := hP.sub (ws' := [(dp, .inr (11, .ref lg :: .ref nw :: dv)), (lg, .inr (2, [lfi, lst, ltr, llk])), (nw, .inr (1, .int 0 :: .ref ts :: nv)), (ts, .inr (8, [tsc, .int 0]))]) [0, 1, 2, 3] rfl
    have hDc := hD.sub (ws' := [(dp, .inr (11, .ref lg :: .ref nw :: dv)), (lg, .inr (2, [lfi, lst, ltr, llk])), (nw, .inr (1, .int 0 :: .ref ts :: nv)), (ts, .inr (8, [tsc, .int 0]))]) [0, 1, 2, 3] (by decide) rfl
    have hFc := va_free (wc := [(dp, .inr (11, .ref lg :: .ref nw :: dv)), (lg, .inr (2, [lfi, lst, ltr, llk])), (nw, .inr (1, .int 0 :: .ref ts :: nv)), (ts, .inr (8, [tsc, .int 0]))]) hD hS hA [0, 1, 2, 3] rfl
    refine va_calli (va_runV (As := [.int x1, .int 5, .int 0]) (rest := []) ⟨hx, hb, hml, hown, hts⟩ (k_become l G _ dp x1 5 0 lg nw dv lfi lst ltr llk ts nv tsc ) (cwV 3 hts (gd_V mw_13_18 mw_13_19 mw_13_20 mw_1_2 mw_13_21) rfl rfl rfl ⟨rfl, yk_X11_become⟩ ⟨Nat.le_of_ble_eq_true rfl, Nat.le_of_ble_eq_true rfl⟩) (c0_preV (q0 := 0) (ci := 11) (q := (RX11, TX11, 14)) hPc hK hDc rfl rfl) rfl rfl hl.1 rfl (lv_room (Nat.le_of_ble_eq_true rfl)) dX11_oneWay_12 ⟨Nat.le_of_ble_eq_true rfl, Nat.le_of_ble_eq_true rfl⟩) hS (fun q _ h => hFc q h) hFc (fun r_2 u t H1 locs ht1 hvm hw hB hz1 hk1 hS => ?_)
    try dsimp only at hw hB
    have hr2 := hw
    obtain rfl := hr2.symm
    have hP1 := va_P_nil (D := G.1) (cl := vwCl) (H := H1)
    obtain ⟨hP, hD⟩ := va_join (wr := []) (w1 := []) hP hD [0, 1, 2, 3] [] rfl rfl (by decide) (by decide) hk1 hFc hP1 va_D_nil
    generalize H1 = H at hP hS ⊢
    have hP : va_P G.1 vwCl ([]) H := hP
    have hD : va_D A ([]) := hD
    exact W.iret (v := (-2)) hx hb hr (fun t ht hW => ⟨⟨(-2), (), rfl, rfl, trivial⟩, hS.F ht⟩) hS.2.2 dX11_oneWay_15
  · refine lv_iconst (v := 1) hx hb dX11_oneWay_7 (by decide) ?_
    refine lv_goto (tgt := 12) hx hb dX11_oneWay_8 (by decide) ?_
    have hPc := hP.sub (ws' := [(dp, .inr (11, .ref lg :: .ref nw :: dv)), (lg, .inr (2, [lfi, lst, ltr, llk])), (nw, .inr (1, .int 0 :: .ref ts :: nv)), (ts, .inr (8, [tsc, .int 0]))]) [0, 1, 2, 3] rfl
    have hDc := hD.sub (ws' := [(dp, .inr (11, .ref lg :: .ref nw :: dv)), (lg, .inr (2, [lfi, lst, ltr, llk])), (nw, .inr (1, .int 0 :: .ref ts :: nv)), (ts, .inr (8, [tsc, .int 0]))]) [0, 1, 2, 3] (by decide) rfl
    have hFc := va_free (wc := [(dp, .inr (11, .ref lg :: .ref nw :: dv)), (lg, .inr (2, [lfi, lst, ltr, llk])), (nw, .inr (1, .int 0 :: .ref ts :: nv)), (ts, .inr (8, [tsc, .int 0]))]) hD hS hA [0, 1, 2, 3] rfl
    refine va_calli (va_runV (As := [.int x1, .int 5, .int 1]) (rest := []) ⟨hx, hb, hml, hown, hts⟩ (k_become l G _ dp x1 5 1 lg nw dv lfi lst ltr llk ts nv tsc ) (cwV 3 hts (gd_V mw_13_18 mw_13_19 mw_13_20 mw_1_2 mw_13_21) rfl rfl rfl ⟨rfl, yk_X11_become⟩ ⟨Nat.le_of_ble_eq_true rfl, Nat.le_of_ble_eq_true rfl⟩) (c0_preV (q0 := 0) (ci := 11) (q := (RX11, TX11, 14)) hPc hK hDc rfl rfl) rfl rfl hl.1 rfl (lv_room (Nat.le_of_ble_eq_true rfl)) dX11_oneWay_12 ⟨Nat.le_of_ble_eq_true rfl, Nat.le_of_ble_eq_true rfl⟩) hS (fun q _ h => hFc q h) hFc (fun r_3 u t H1 locs ht1 hvm hw hB hz1 hk1 hS => ?_)
    try dsimp only at hw hB
    have hr3 := hw
    obtain rfl := hr3.symm
    have hP1 := va_P_nil (D := G.1) (cl := vwCl) (H := H1)
    obtain ⟨hP, hD⟩ := va_join (wr := []) (w1 := []) hP hD [0, 1, 2, 3] [] rfl rfl (by decide) (by decide) hk1 hFc hP1 va_D_nil
    generalize H1 = H at hP hS ⊢
    have hP : va_P G.1 vwCl ([]) H := hP
    have hD : va_D A ([]) := hD
    exact W.iret (v := (-2)) hx hb hr (fun t ht hW => ⟨⟨(-2), (), rfl, rfl, trivial⟩, hS.F ht⟩) hS.2.2 dX11_oneWay_15

set_option maxHeartbeats 4000000 in
set_option maxRecDepth 100000 in
theorem k_shut (l : Launch) (G : GG) (sz : Nat) (dp : Nat) (x1 : Int32) (x2 : Int32) (lg : Nat) (nw : Nat) (dv : List Value) (lfi : Value) (lst : Value) (ltr : Value) (llk : Value) (ts : Nat) (nv : List Value) (tsc : Value)  : Met l yX11_shut (.code yX11_shut cX11_shut 3 (some .int) :: TT) ({ frames := 4, cells := 0, slots := 0, locals := 400 } : Room) (c0_P G [.ref dp, .int x1, .int x2] sz ([(dp, .inr (11, .ref lg :: .ref nw :: dv)), (lg, .inr (2, [lfi, lst, ltr, llk])), (nw, .inr (1, .int 0 :: .ref ts :: nv)), (ts, .inr (8, [tsc, .int 0]))])) (va_Qi (S := Unit) (fun (r : Int32) (u : Unit) => r = (-2)) (fun (u : Unit) (t : State) => True) (va_A ([(dp, .inr (11, .ref lg :: .ref nw :: dv)), (lg, .inr (2, [lfi, lst, ltr, llk])), (nw, .inr (1, .int 0 :: .ref ts :: nv)), (ts, .inr (8, [tsc, .int 0]))]) sz)) 0 0 (va_A ([(dp, .inr (11, .ref lg :: .ref nw :: dv)), (lg, .inr (2, [lfi, lst, ltr, llk])), (nw, .inr (1, .int 0 :: .ref ts :: nv)), (ts, .inr (8, [tsc, .int 0]))]) sz) := by
  refine Met.ofW (cc := cX11_shut) (maxL := 3) (ret := (some .int)) (by decide) rfl ?_
  intro p e s m args below meth c s₁ B hml hv
  obtain ⟨rfl, hsz, hP, hK, hD0⟩ := hv
  have hx := B.exec
  have hb := B.bytes
  have hr := B.returns
  have hts := atoms_spec (ws := .code yX11_shut cX11_shut 3 (some .int) :: TT) B.pre
  have ht := fun (w : Cond) (h : w ∈ TT) => hts w (List.mem_cons_of_mem _ h)
  have hown : s.vm.findClass RX11 = some m.cls := findClass_of_methodNamed B.named
  have hlocks := B.notSynchronized
  subst hsz
  have hD := hD0.self (sz := s.heap.size)
  generalize hAe : va_A ([(dp, .inr (11, .ref lg :: .ref nw :: dv)), (lg, .inr (2, [lfi, lst, ltr, llk])), (nw, .inr (1, .int 0 :: .ref ts :: nv)), (ts, .inr (8, [tsc, .int 0]))]) s.heap.size = A at hD ⊢
  have hA : ∀ q : Nat, s.heap.size ≤ q → A q := fun q h => by rw [← hAe]; exact Or.inr h
  have hS : va_S A s.heap s.heap [] := va_S.rf
  have hP : va_P G.1 vwCl ([(dp, .inr (11, .ref lg :: .ref nw :: dv)), (lg, .inr (2, [lfi, lst, ltr, llk])), (nw, .inr (1, .int 0 :: .ref ts :: nv)), (ts, .inr (8, [tsc, .int 0]))]) s.heap := hP
  have hl := lv_entry ([.ref dp, .int x1, .int x2]) (n := 3) (Nat.le_of_ble_eq_true rfl)
  rw [lg_entry_eq]
  generalize (lg_sl ([.ref dp, .int x1, .int x2]) ++ List.replicate (3 - (lg_sl ([.ref dp, .int x1, .int x2])).length) Slot.unset).toArray = ls at hl ⊢
  have hl : lv_has ls 3 [(0, .ref dp), (1, .int x1), (2, .int x2)] := hl
  refine lv_aload_n hx hb dX11_shut_0 rfl (lv_at hl 0 rfl) ?_
  refine lv_iload_n hx hb dX11_shut_1 rfl (lv_at hl 1 rfl) ?_
  refine lv_iconst (v := 4) hx hb dX11_shut_2 (by decide) ?_
  refine lv_iload_n hx hb dX11_shut_3 rfl (lv_at hl 2 rfl) ?_
  refine lv_if_eq (tgt := 11) hx hb dX11_shut_4 (by decide) (fun c_1 => ?_) (fun c_1 => ?_)
  · refine lv_iconst (v := 0) hx hb dX11_shut_11 (by decide) ?_
    have hPc := hP.sub (ws' := [(dp, .inr (11, .ref lg :: .ref nw :: dv)), (lg, .inr (2, [lfi, lst, ltr, llk])), (nw, .inr (1, .int 0 :: .ref ts :: nv)), (ts, .inr (8, [tsc, .int 0]))]) [0, 1, 2, 3] rfl
    have hDc := hD.sub (ws' := [(dp, .inr (11, .ref lg :: .ref nw :: dv)), (lg, .inr (2, [lfi, lst, ltr, llk])), (nw, .inr (1, .int 0 :: .ref ts :: nv)), (ts, .inr (8, [tsc, .int 0]))]) [0, 1, 2, 3] (by decide) rfl
    have hFc := va_free (wc := [(dp, .inr (11, .ref lg :: .ref nw :: dv)), (lg, .inr (2, [lfi, lst, ltr, llk])), (nw, .inr (1, .int 0 :: .ref ts :: nv)), (ts, .inr (8, [tsc, .int 0]))]) hD hS hA [0, 1, 2, 3] rfl
    refine va_calli (va_runV (As := [.int x1, .int 4, .int 0]) (rest := []) ⟨hx, hb, hml, hown, hts⟩ (k_become l G _ dp x1 4 0 lg nw dv lfi lst ltr llk ts nv tsc ) (cwV 3 hts (gd_V mw_13_18 mw_13_19 mw_13_20 mw_1_2 mw_13_21) rfl rfl rfl ⟨rfl, yk_X11_become⟩ ⟨Nat.le_of_ble_eq_true rfl, Nat.le_of_ble_eq_true rfl⟩) (c0_preV (q0 := 0) (ci := 11) (q := (RX11, TX11, 14)) hPc hK hDc rfl rfl) rfl rfl hl.1 rfl (lv_room (Nat.le_of_ble_eq_true rfl)) dX11_shut_12 ⟨Nat.le_of_ble_eq_true rfl, Nat.le_of_ble_eq_true rfl⟩) hS (fun q _ h => hFc q h) hFc (fun r_2 u t H1 locs ht1 hvm hw hB hz1 hk1 hS => ?_)
    try dsimp only at hw hB
    have hr2 := hw
    obtain rfl := hr2.symm
    have hP1 := va_P_nil (D := G.1) (cl := vwCl) (H := H1)
    obtain ⟨hP, hD⟩ := va_join (wr := []) (w1 := []) hP hD [0, 1, 2, 3] [] rfl rfl (by decide) (by decide) hk1 hFc hP1 va_D_nil
    generalize H1 = H at hP hS ⊢
    have hP : va_P G.1 vwCl ([]) H := hP
    have hD : va_D A ([]) := hD
    exact W.iret (v := (-2)) hx hb hr (fun t ht hW => ⟨⟨(-2), (), rfl, rfl, trivial⟩, hS.F ht⟩) hS.2.2 dX11_shut_15
  · refine lv_iconst (v := 1) hx hb dX11_shut_7 (by decide) ?_
    refine lv_goto (tgt := 12) hx hb dX11_shut_8 (by decide) ?_
    have hPc := hP.sub (ws' := [(dp, .inr (11, .ref lg :: .ref nw :: dv)), (lg, .inr (2, [lfi, lst, ltr, llk])), (nw, .inr (1, .int 0 :: .ref ts :: nv)), (ts, .inr (8, [tsc, .int 0]))]) [0, 1, 2, 3] rfl
    have hDc := hD.sub (ws' := [(dp, .inr (11, .ref lg :: .ref nw :: dv)), (lg, .inr (2, [lfi, lst, ltr, llk])), (nw, .inr (1, .int 0 :: .ref ts :: nv)), (ts, .inr (8, [tsc, .int 0]))]) [0, 1, 2, 3] (by decide) rfl
    have hFc := va_free (wc := [(dp, .inr (11, .ref lg :: .ref nw :: dv)), (lg, .inr (2, [lfi, lst, ltr, llk])), (nw, .inr (1, .int 0 :: .ref ts :: nv)), (ts, .inr (8, [tsc, .int 0]))]) hD hS hA [0, 1, 2, 3] rfl
    refine va_calli (va_runV (As := [.int x1, .int 4, .int 1]) (rest := []) ⟨hx, hb, hml, hown, hts⟩ (k_become l G _ dp x1 4 1 lg nw dv lfi lst ltr llk ts nv tsc ) (cwV 3 hts (gd_V mw_13_18 mw_13_19 mw_13_20 mw_1_2 mw_13_21) rfl rfl rfl ⟨rfl, yk_X11_become⟩ ⟨Nat.le_of_ble_eq_true rfl, Nat.le_of_ble_eq_true rfl⟩) (c0_preV (q0 := 0) (ci := 11) (q := (RX11, TX11, 14)) hPc hK hDc rfl rfl) rfl rfl hl.1 rfl (lv_room (Nat.le_of_ble_eq_true rfl)) dX11_shut_12 ⟨Nat.le_of_ble_eq_true rfl, Nat.le_of_ble_eq_true rfl⟩) hS (fun q _ h => hFc q h) hFc (fun r_3 u t H1 locs ht1 hvm hw hB hz1 hk1 hS => ?_)
    try dsimp only at hw hB
    have hr3 := hw
    obtain rfl := hr3.symm
    have hP1 := va_P_nil (D := G.1) (cl := vwCl) (H := H1)
    obtain ⟨hP, hD⟩ := va_join (wr := []) (w1 := []) hP hD [0, 1, 2, 3] [] rfl rfl (by decide) (by decide) hk1 hFc hP1 va_D_nil
    generalize H1 = H at hP hS ⊢
    have hP : va_P G.1 vwCl ([]) H := hP
    have hD : va_D A ([]) := hD
    exact W.iret (v := (-2)) hx hb hr (fun t ht hW => ⟨⟨(-2), (), rfl, rfl, trivial⟩, hS.F ht⟩) hS.2.2 dX11_shut_15

set_option maxHeartbeats 4000000 in
set_option maxRecDepth 100000 in
theorem k_sides (l : Launch) (G : GG) (sz : Nat) (dp : Nat) (x1 : Int32) (x2 : Int32) (lg : Nat) (nw : Nat) (dv : List Value) (lfi : Value) (lst : Value) (ltr : Value) (llk : Value) (ts : Nat) (nv : List Value) (tsc : Value)  : Met l yX11_sides (.code yX11_sides cX11_sides 4 (some .int) :: TT) ({ frames := 4, cells := 0, slots := 0, locals := 400 } : Room) (c0_P G [.ref dp, .int x1, .int x2] sz ([(dp, .inr (11, .ref lg :: .ref nw :: dv)), (lg, .inr (2, [lfi, lst, ltr, llk])), (nw, .inr (1, .int 0 :: .ref ts :: nv)), (ts, .inr (8, [tsc, .int 0]))])) (va_Qi (S := Unit) (fun (r : Int32) (u : Unit) => r = (-2)) (fun (u : Unit) (t : State) => True) (va_A ([(dp, .inr (11, .ref lg :: .ref nw :: dv)), (lg, .inr (2, [lfi, lst, ltr, llk])), (nw, .inr (1, .int 0 :: .ref ts :: nv)), (ts, .inr (8, [tsc, .int 0]))]) sz)) 0 0 (va_A ([(dp, .inr (11, .ref lg :: .ref nw :: dv)), (lg, .inr (2, [lfi, lst, ltr, llk])), (nw, .inr (1, .int 0 :: .ref ts :: nv)), (ts, .inr (8, [tsc, .int 0]))]) sz) := by
  refine Met.ofW (cc := cX11_sides) (maxL := 4) (ret := (some .int)) (by decide) rfl ?_
  intro p e s m args below meth c s₁ B hml hv
  obtain ⟨rfl, hsz, hP, hK, hD0⟩ := hv
  have hx := B.exec
  have hb := B.bytes
  have hr := B.returns
  have hts := atoms_spec (ws := .code yX11_sides cX11_sides 4 (some .int) :: TT) B.pre
  have ht := fun (w : Cond) (h : w ∈ TT) => hts w (List.mem_cons_of_mem _ h)
  have hown : s.vm.findClass RX11 = some m.cls := findClass_of_methodNamed B.named
  have hlocks := B.notSynchronized
  subst hsz
  have hD := hD0.self (sz := s.heap.size)
  generalize hAe : va_A ([(dp, .inr (11, .ref lg :: .ref nw :: dv)), (lg, .inr (2, [lfi, lst, ltr, llk])), (nw, .inr (1, .int 0 :: .ref ts :: nv)), (ts, .inr (8, [tsc, .int 0]))]) s.heap.size = A at hD ⊢
  have hA : ∀ q : Nat, s.heap.size ≤ q → A q := fun q h => by rw [← hAe]; exact Or.inr h
  have hS : va_S A s.heap s.heap [] := va_S.rf
  have hP : va_P G.1 vwCl ([(dp, .inr (11, .ref lg :: .ref nw :: dv)), (lg, .inr (2, [lfi, lst, ltr, llk])), (nw, .inr (1, .int 0 :: .ref ts :: nv)), (ts, .inr (8, [tsc, .int 0]))]) s.heap := hP
  have hl := lv_entry ([.ref dp, .int x1, .int x2]) (n := 4) (Nat.le_of_ble_eq_true rfl)
  rw [lg_entry_eq]
  generalize (lg_sl ([.ref dp, .int x1, .int x2]) ++ List.replicate (4 - (lg_sl ([.ref dp, .int x1, .int x2])).length) Slot.unset).toArray = ls at hl ⊢
  have hl : lv_has ls 4 [(0, .ref dp), (1, .int x1), (2, .int x2)] := hl
  refine lv_iload_n hx hb dX11_sides_0 rfl (lv_at hl 2 rfl) ?_
  refine lv_if_lt (tgt := 9) hx hb dX11_sides_1 (by decide) (fun c_1 => ?_) (fun c_1 => ?_)
  · refine lv_aload_n hx hb dX11_sides_9 rfl (lv_at hl 0 rfl) ?_
    refine lv_bipush (v := (-2)) hx hb dX11_sides_10 (by decide) ?_
    have hPc := hP.sub (ws' := [(dp, .inr (11, .ref lg :: .ref nw :: dv)), (lg, .inr (2, [lfi, lst, ltr, llk]))]) [0, 1] rfl
    have hDc := hD.sub (ws' := [(dp, .inr (11, .ref lg :: .ref nw :: dv)), (lg, .inr (2, [lfi, lst, ltr, llk]))]) [0, 1] (by decide) rfl
    have hFc := va_free (wc := [(dp, .inr (11, .ref lg :: .ref nw :: dv)), (lg, .inr (2, [lfi, lst, ltr, llk]))]) hD hS hA [0, 1] rfl
    refine va_calli (va_runV (As := [.int (-2)]) (rest := []) ⟨hx, hb, hml, hown, hts⟩ (k_refuse_m2 l G _ dp lg (.ref nw :: dv) lfi lst ltr llk ) (cwV 1 hts (gd_V mw_7_22 mw_7_23 mw_8_0 mw_1_2 mw_8_1) rfl rfl rfl ⟨rfl, yk_X11_refuse⟩ ⟨Nat.le_of_ble_eq_true rfl, Nat.le_of_ble_eq_true rfl⟩) (c0_preV (q0 := 0) (ci := 11) (q := (RX11, TX11, 14)) hPc hK hDc rfl rfl) rfl rfl hl.1 rfl (lv_room (Nat.le_of_ble_eq_true rfl)) dX11_sides_12 ⟨Nat.le_of_ble_eq_true rfl, Nat.le_of_ble_eq_true rfl⟩) hS (fun q _ h => hFc q h) hFc (fun r_2 u t H1 locs ht1 hvm hw hB hz1 hk1 hS => ?_)
    try dsimp only at hw hB
    have hr2 := hw
    obtain rfl := hr2.symm
    obtain ⟨hP1, hD1⟩ := hB
    rw [ht1] at hP1
    obtain ⟨hP, hD⟩ := va_join (wr := [(nw, .inr (1, .int 0 :: .ref ts :: nv)), (ts, .inr (8, [tsc, .int 0]))]) (w1 := [(dp, .inr (11, .ref lg :: .ref nw :: dv)), (lg, .inr (2, [lfi, .int (-2), ltr, llk]))]) hP hD [0, 1] [2, 3] rfl rfl (by decide) (by decide) hk1 hFc hP1 hD1
    generalize H1 = H at hP hS ⊢
    have hP : va_P G.1 vwCl ([(nw, .inr (1, .int 0 :: .ref ts :: nv)), (ts, .inr (8, [tsc, .int 0])), (dp, .inr (11, .ref lg :: .ref nw :: dv)), (lg, .inr (2, [lfi, .int (-2), ltr, llk]))]) H := hP
    have hD : va_D A ([(nw, .inr (1, .int 0 :: .ref ts :: nv)), (ts, .inr (8, [tsc, .int 0])), (dp, .inr (11, .ref lg :: .ref nw :: dv)), (lg, .inr (2, [lfi, .int (-2), ltr, llk]))]) := hD
    exact W.iret (v := (-2)) hx hb hr (fun t ht hW => ⟨⟨(-2), (), rfl, rfl, trivial⟩, hS.F ht⟩) hS.2.2 dX11_sides_15
  · refine lv_iload_n hx hb dX11_sides_4 rfl (lv_at hl 2 rfl) ?_
    refine lv_iconst (v := 2) hx hb dX11_sides_5 (by decide) ?_
    refine lv_icmp_le (tgt := 16) hx hb dX11_sides_6 (by decide) (fun c_3 => ?_) (fun c_3 => ?_)
    · refine lv_aload_n hx hb dX11_sides_16 rfl (lv_at hl 0 rfl) ?_
      refine lv_iload_n hx hb dX11_sides_17 rfl (lv_at hl 1 rfl) ?_
      refine lv_iconst (v := 3) hx hb dX11_sides_18 (by decide) ?_
      refine lv_iload_n hx hb dX11_sides_19 rfl (lv_at hl 2 rfl) ?_
      have hPc := hP.sub (ws' := [(dp, .inr (11, .ref lg :: .ref nw :: dv)), (lg, .inr (2, [lfi, lst, ltr, llk])), (nw, .inr (1, .int 0 :: .ref ts :: nv)), (ts, .inr (8, [tsc, .int 0]))]) [0, 1, 2, 3] rfl
      have hDc := hD.sub (ws' := [(dp, .inr (11, .ref lg :: .ref nw :: dv)), (lg, .inr (2, [lfi, lst, ltr, llk])), (nw, .inr (1, .int 0 :: .ref ts :: nv)), (ts, .inr (8, [tsc, .int 0]))]) [0, 1, 2, 3] (by decide) rfl
      have hFc := va_free (wc := [(dp, .inr (11, .ref lg :: .ref nw :: dv)), (lg, .inr (2, [lfi, lst, ltr, llk])), (nw, .inr (1, .int 0 :: .ref ts :: nv)), (ts, .inr (8, [tsc, .int 0]))]) hD hS hA [0, 1, 2, 3] rfl
      refine va_calli (va_runV (As := [.int x1, .int 3, .int x2]) (rest := []) ⟨hx, hb, hml, hown, hts⟩ (k_become l G _ dp x1 3 x2 lg nw dv lfi lst ltr llk ts nv tsc ) (cwV 3 hts (gd_V mw_13_18 mw_13_19 mw_13_20 mw_1_2 mw_13_21) rfl rfl rfl ⟨rfl, yk_X11_become⟩ ⟨Nat.le_of_ble_eq_true rfl, Nat.le_of_ble_eq_true rfl⟩) (c0_preV (q0 := 0) (ci := 11) (q := (RX11, TX11, 14)) hPc hK hDc rfl rfl) rfl rfl hl.1 rfl (lv_room (Nat.le_of_ble_eq_true rfl)) dX11_sides_20 ⟨Nat.le_of_ble_eq_true rfl, Nat.le_of_ble_eq_true rfl⟩) hS (fun q _ h => hFc q h) hFc (fun r_4 u t H1 locs ht1 hvm hw hB hz1 hk1 hS => ?_)
      try dsimp only at hw hB
      have hr4 := hw
      obtain rfl := hr4.symm
      have hP1 := va_P_nil (D := G.1) (cl := vwCl) (H := H1)
      obtain ⟨hP, hD⟩ := va_join (wr := []) (w1 := []) hP hD [0, 1, 2, 3] [] rfl rfl (by decide) (by decide) hk1 hFc hP1 va_D_nil
      generalize H1 = H at hP hS ⊢
      have hP : va_P G.1 vwCl ([]) H := hP
      have hD : va_D A ([]) := hD
      refine lv_istore_n (lv' := [(3, .int (-2)), (0, .ref dp), (1, .int x1), (2, .int x2)]) hx hb dX11_sides_23 rfl hl (by decide) rfl (fun ls hl => ?_)
      refine lv_iload_n hx hb dX11_sides_24 rfl (lv_at hl 0 rfl) ?_
      refine lv_if_lt (tgt := 41) hx hb dX11_sides_25 (by decide) (fun c_5 => ?_) (fun c_5 => ?_)
      · refine lv_iload_n hx hb dX11_sides_41 rfl (lv_at hl 0 rfl) ?_
        exact W.iret (v := (-2)) hx hb hr (fun t ht hW => ⟨⟨(-2), (), rfl, rfl, trivial⟩, hS.F ht⟩) hS.2.2 dX11_sides_42
      · exact absurd c_5 (by decide)
    · refine lv_aload_n hx hb dX11_sides_9 rfl (lv_at hl 0 rfl) ?_
      refine lv_bipush (v := (-2)) hx hb dX11_sides_10 (by decide) ?_
      have hPc := hP.sub (ws' := [(dp, .inr (11, .ref lg :: .ref nw :: dv)), (lg, .inr (2, [lfi, lst, ltr, llk]))]) [0, 1] rfl
      have hDc := hD.sub (ws' := [(dp, .inr (11, .ref lg :: .ref nw :: dv)), (lg, .inr (2, [lfi, lst, ltr, llk]))]) [0, 1] (by decide) rfl
      have hFc := va_free (wc := [(dp, .inr (11, .ref lg :: .ref nw :: dv)), (lg, .inr (2, [lfi, lst, ltr, llk]))]) hD hS hA [0, 1] rfl
      refine va_calli (va_runV (As := [.int (-2)]) (rest := []) ⟨hx, hb, hml, hown, hts⟩ (k_refuse_m2 l G _ dp lg (.ref nw :: dv) lfi lst ltr llk ) (cwV 1 hts (gd_V mw_7_22 mw_7_23 mw_8_0 mw_1_2 mw_8_1) rfl rfl rfl ⟨rfl, yk_X11_refuse⟩ ⟨Nat.le_of_ble_eq_true rfl, Nat.le_of_ble_eq_true rfl⟩) (c0_preV (q0 := 0) (ci := 11) (q := (RX11, TX11, 14)) hPc hK hDc rfl rfl) rfl rfl hl.1 rfl (lv_room (Nat.le_of_ble_eq_true rfl)) dX11_sides_12 ⟨Nat.le_of_ble_eq_true rfl, Nat.le_of_ble_eq_true rfl⟩) hS (fun q _ h => hFc q h) hFc (fun r_6 u t H1 locs ht1 hvm hw hB hz1 hk1 hS => ?_)
      try dsimp only at hw hB
      have hr6 := hw
      obtain rfl := hr6.symm
      obtain ⟨hP1, hD1⟩ := hB
      rw [ht1] at hP1
      obtain ⟨hP, hD⟩ := va_join (wr := [(nw, .inr (1, .int 0 :: .ref ts :: nv)), (ts, .inr (8, [tsc, .int 0]))]) (w1 := [(dp, .inr (11, .ref lg :: .ref nw :: dv)), (lg, .inr (2, [lfi, .int (-2), ltr, llk]))]) hP hD [0, 1] [2, 3] rfl rfl (by decide) (by decide) hk1 hFc hP1 hD1
      generalize H1 = H at hP hS ⊢
      have hP : va_P G.1 vwCl ([(nw, .inr (1, .int 0 :: .ref ts :: nv)), (ts, .inr (8, [tsc, .int 0])), (dp, .inr (11, .ref lg :: .ref nw :: dv)), (lg, .inr (2, [lfi, .int (-2), ltr, llk]))]) H := hP
      have hD : va_D A ([(nw, .inr (1, .int 0 :: .ref ts :: nv)), (ts, .inr (8, [tsc, .int 0])), (dp, .inr (11, .ref lg :: .ref nw :: dv)), (lg, .inr (2, [lfi, .int (-2), ltr, llk]))]) := hD
      exact W.iret (v := (-2)) hx hb hr (fun t ht hW => ⟨⟨(-2), (), rfl, rfl, trivial⟩, hS.F ht⟩) hS.2.2 dX11_sides_15

set_option maxHeartbeats 4000000 in
set_option maxRecDepth 100000 in
theorem k_told (l : Launch) (G : GG) (sz : Nat) (dp : Nat) (x1 : Int32) (x2 : Int32) (lg : Nat) (nw : Nat) (dv : List Value) (lfi : Value) (lst : Value) (ltr : Value) (llk : Value) (ts : Nat) (nv : List Value) (tsc : Value)  : Met l yX11_told (.code yX11_told cX11_told 3 (some .int) :: TT) ({ frames := 3, cells := 0, slots := 0, locals := 300 } : Room) (c0_P G [.ref dp, .int x1, .int x2] sz ([(dp, .inr (11, .ref lg :: .ref nw :: dv)), (lg, .inr (2, [lfi, lst, ltr, llk])), (nw, .inr (1, .int 0 :: .ref ts :: nv)), (ts, .inr (8, [tsc, .int 0]))])) (va_Qi (S := Unit) (fun (r : Int32) (u : Unit) => r = (-2)) (fun (u : Unit) (t : State) => True) (va_A ([(dp, .inr (11, .ref lg :: .ref nw :: dv)), (lg, .inr (2, [lfi, lst, ltr, llk])), (nw, .inr (1, .int 0 :: .ref ts :: nv)), (ts, .inr (8, [tsc, .int 0]))]) sz)) 0 0 (va_A ([(dp, .inr (11, .ref lg :: .ref nw :: dv)), (lg, .inr (2, [lfi, lst, ltr, llk])), (nw, .inr (1, .int 0 :: .ref ts :: nv)), (ts, .inr (8, [tsc, .int 0]))]) sz) := by
  refine Met.ofW (cc := cX11_told) (maxL := 3) (ret := (some .int)) (by decide) rfl ?_
  intro p e s m args below meth c s₁ B hml hv
  obtain ⟨rfl, hsz, hP, hK, hD0⟩ := hv
  have hx := B.exec
  have hb := B.bytes
  have hr := B.returns
  have hts := atoms_spec (ws := .code yX11_told cX11_told 3 (some .int) :: TT) B.pre
  have ht := fun (w : Cond) (h : w ∈ TT) => hts w (List.mem_cons_of_mem _ h)
  have hown : s.vm.findClass RX11 = some m.cls := findClass_of_methodNamed B.named
  have hlocks := B.notSynchronized
  subst hsz
  have hD := hD0.self (sz := s.heap.size)
  generalize hAe : va_A ([(dp, .inr (11, .ref lg :: .ref nw :: dv)), (lg, .inr (2, [lfi, lst, ltr, llk])), (nw, .inr (1, .int 0 :: .ref ts :: nv)), (ts, .inr (8, [tsc, .int 0]))]) s.heap.size = A at hD ⊢
  have hA : ∀ q : Nat, s.heap.size ≤ q → A q := fun q h => by rw [← hAe]; exact Or.inr h
  have hS : va_S A s.heap s.heap [] := va_S.rf
  have hP : va_P G.1 vwCl ([(dp, .inr (11, .ref lg :: .ref nw :: dv)), (lg, .inr (2, [lfi, lst, ltr, llk])), (nw, .inr (1, .int 0 :: .ref ts :: nv)), (ts, .inr (8, [tsc, .int 0]))]) s.heap := hP
  have hl := lv_entry ([.ref dp, .int x1, .int x2]) (n := 3) (Nat.le_of_ble_eq_true rfl)
  rw [lg_entry_eq]
  generalize (lg_sl ([.ref dp, .int x1, .int x2]) ++ List.replicate (3 - (lg_sl ([.ref dp, .int x1, .int x2])).length) Slot.unset).toArray = ls at hl ⊢
  have hl : lv_has ls 3 [(0, .ref dp), (1, .int x1), (2, .int x2)] := hl
  refine lv_aload_n hx hb dX11_told_0 rfl (lv_at hl 0 rfl) ?_
  refine va_get (D := G.1) (ci := 11) (v := .ref nw) (C := RX11) (T := TX11) (N := 14) hx hb ht inlX11 hown hK.1 hP 0 rfl rfl 1 (by decide) (ht (Cond.fieldLink RX11 19 "PloughDepot" "now" "LPloughDepot$Books;") mw_1_19) (fun _ h9 => h9) rfl dX11_told_1 ?_
  refine va_get (D := G.1) (ci := 1) (v := .ref ts) (C := RX1) (T := TX1) (N := 8) hx hb ht inlX1 hown hK.1 hP 2 rfl rfl 1 (by decide) (ht (Cond.fieldLink RX11 105 "PloughDepot$Books" "streets" "LPloughDepot$Table;") mw_12_12) (fun _ h9 => h9) rfl dX11_told_4 ?_
  refine lv_iload_n hx hb dX11_told_7 rfl (lv_at hl 1 rfl) ?_
  have hPc := hP.sub (ws' := [(ts, .inr (8, [tsc, .int 0]))]) [3] rfl
  have hDc := hD.sub (ws' := [(ts, .inr (8, [tsc, .int 0]))]) [3] (by decide) rfl
  have hFc := va_free (wc := [(ts, .inr (8, [tsc, .int 0]))]) hD hS hA [3] rfl
  refine va_calli (va_runV (As := [.int x1]) (rest := []) ⟨hx, hb, hml, hown, hts⟩ (k_has l G _ ts x1 tsc ) (cwV 1 hts (gd_V mw_13_22 mw_13_23 mw_14_0 mw_3_13 mw_14_1) rfl rfl rfl ⟨rfl, yk_X8_has⟩ ⟨Nat.le_of_ble_eq_true rfl, Nat.le_of_ble_eq_true rfl⟩) (c0_preV (q0 := 0) (ci := 8) (q := (RX8, TX8, 2)) hPc hK hDc rfl rfl) rfl rfl hl.1 rfl (lv_room (Nat.le_of_ble_eq_true rfl)) dX11_told_8 ⟨Nat.le_of_ble_eq_true rfl, Nat.le_of_ble_eq_true rfl⟩) hS (fun q _ h => hFc q h) hFc (fun r_1 u t H1 locs ht1 hvm hw hB hz1 hk1 hS => ?_)
  try dsimp only at hw hB
  have hr1 := hw
  obtain rfl := hr1.symm
  obtain ⟨hP1, hD1⟩ := hB
  rw [ht1] at hP1
  obtain ⟨hP, hD⟩ := va_join (wr := [(dp, .inr (11, .ref lg :: .ref nw :: dv)), (lg, .inr (2, [lfi, lst, ltr, llk])), (nw, .inr (1, .int 0 :: .ref ts :: nv))]) (w1 := [(ts, .inr (8, [tsc, .int 0]))]) hP hD [3] [0, 1, 2] rfl rfl (by decide) (by decide) hk1 hFc hP1 hD1
  generalize H1 = H at hP hS ⊢
  have hP : va_P G.1 vwCl ([(dp, .inr (11, .ref lg :: .ref nw :: dv)), (lg, .inr (2, [lfi, lst, ltr, llk])), (nw, .inr (1, .int 0 :: .ref ts :: nv)), (ts, .inr (8, [tsc, .int 0]))]) H := hP
  have hD : va_D A ([(dp, .inr (11, .ref lg :: .ref nw :: dv)), (lg, .inr (2, [lfi, lst, ltr, llk])), (nw, .inr (1, .int 0 :: .ref ts :: nv)), (ts, .inr (8, [tsc, .int 0]))]) := hD
  refine lv_if_eq (tgt := 24) hx hb dX11_told_11 (by decide) (fun c_2 => ?_) (fun c_2 => ?_)
  · refine lv_aload_n hx hb dX11_told_24 rfl (lv_at hl 0 rfl) ?_
    refine lv_bipush (v := (-2)) hx hb dX11_told_25 (by decide) ?_
    have hPc := hP.sub (ws' := [(dp, .inr (11, .ref lg :: .ref nw :: dv)), (lg, .inr (2, [lfi, lst, ltr, llk]))]) [0, 1] rfl
    have hDc := hD.sub (ws' := [(dp, .inr (11, .ref lg :: .ref nw :: dv)), (lg, .inr (2, [lfi, lst, ltr, llk]))]) [0, 1] (by decide) rfl
    have hFc := va_free (wc := [(dp, .inr (11, .ref lg :: .ref nw :: dv)), (lg, .inr (2, [lfi, lst, ltr, llk]))]) hD hS hA [0, 1] rfl
    refine va_calli (va_runV (As := [.int (-2)]) (rest := []) ⟨hx, hb, hml, hown, hts⟩ (k_refuse_m2 l G _ dp lg (.ref nw :: dv) lfi lst ltr llk ) (cwV 1 hts (gd_V mw_7_22 mw_7_23 mw_8_0 mw_1_2 mw_8_1) rfl rfl rfl ⟨rfl, yk_X11_refuse⟩ ⟨Nat.le_of_ble_eq_true rfl, Nat.le_of_ble_eq_true rfl⟩) (c0_preV (q0 := 0) (ci := 11) (q := (RX11, TX11, 14)) hPc hK hDc rfl rfl) rfl rfl hl.1 rfl (lv_room (Nat.le_of_ble_eq_true rfl)) dX11_told_27 ⟨Nat.le_of_ble_eq_true rfl, Nat.le_of_ble_eq_true rfl⟩) hS (fun q _ h => hFc q h) hFc (fun r_3 u t H1 locs ht1 hvm hw hB hz1 hk1 hS => ?_)
    try dsimp only at hw hB
    have hr3 := hw
    obtain rfl := hr3.symm
    obtain ⟨hP1, hD1⟩ := hB
    rw [ht1] at hP1
    obtain ⟨hP, hD⟩ := va_join (wr := [(nw, .inr (1, .int 0 :: .ref ts :: nv)), (ts, .inr (8, [tsc, .int 0]))]) (w1 := [(dp, .inr (11, .ref lg :: .ref nw :: dv)), (lg, .inr (2, [lfi, .int (-2), ltr, llk]))]) hP hD [0, 1] [2, 3] rfl rfl (by decide) (by decide) hk1 hFc hP1 hD1
    generalize H1 = H at hP hS ⊢
    have hP : va_P G.1 vwCl ([(nw, .inr (1, .int 0 :: .ref ts :: nv)), (ts, .inr (8, [tsc, .int 0])), (dp, .inr (11, .ref lg :: .ref nw :: dv)), (lg, .inr (2, [lfi, .int (-2), ltr, llk]))]) H := hP
    have hD : va_D A ([(nw, .inr (1, .int 0 :: .ref ts :: nv)), (ts, .inr (8, [tsc, .int 0])), (dp, .inr (11, .ref lg :: .ref nw :: dv)), (lg, .inr (2, [lfi, .int (-2), ltr, llk]))]) := hD
    exact W.iret (v := (-2)) hx hb hr (fun t ht hW => ⟨⟨(-2), (), rfl, rfl, trivial⟩, hS.F ht⟩) hS.2.2 dX11_told_30
  · exact absurd c_2 (by decide)

set_option maxHeartbeats 4000000 in
set_option maxRecDepth 100000 in
theorem k_way (l : Launch) (G : GG) (sz : Nat) (dp : Nat) (x1 : Int32) (x2 : Int32) (lg : Nat) (nw : Nat) (dv : List Value) (lfi : Value) (lst : Value) (ltr : Value) (llk : Value) (nv : List Value)  : Met l yX11_way (.code yX11_way cX11_way 4 (some .int) :: TT) ({ frames := 3, cells := 0, slots := 0, locals := 300 } : Room) (c0_P G [.ref dp, .int x1, .int x2] sz ([(dp, .inr (11, .ref lg :: .ref nw :: dv)), (lg, .inr (2, [lfi, lst, ltr, llk])), (nw, .inr (1, .int 0 :: nv))])) (va_Qi (S := Unit) (fun (r : Int32) (u : Unit) => r = (-2)) (fun (u : Unit) (t : State) => True) (va_A ([(dp, .inr (11, .ref lg :: .ref nw :: dv)), (lg, .inr (2, [lfi, lst, ltr, llk])), (nw, .inr (1, .int 0 :: nv))]) sz)) 0 0 (va_A ([(dp, .inr (11, .ref lg :: .ref nw :: dv)), (lg, .inr (2, [lfi, lst, ltr, llk])), (nw, .inr (1, .int 0 :: nv))]) sz) := by
  refine Met.ofW (cc := cX11_way) (maxL := 4) (ret := (some .int)) (by decide) rfl ?_
  intro p e s m args below meth c s₁ B hml hv
  obtain ⟨rfl, hsz, hP, hK, hD0⟩ := hv
  have hx := B.exec
  have hb := B.bytes
  have hr := B.returns
  have hts := atoms_spec (ws := .code yX11_way cX11_way 4 (some .int) :: TT) B.pre
  have ht := fun (w : Cond) (h : w ∈ TT) => hts w (List.mem_cons_of_mem _ h)
  have hown : s.vm.findClass RX11 = some m.cls := findClass_of_methodNamed B.named
  have hlocks := B.notSynchronized
  subst hsz
  have hD := hD0.self (sz := s.heap.size)
  generalize hAe : va_A ([(dp, .inr (11, .ref lg :: .ref nw :: dv)), (lg, .inr (2, [lfi, lst, ltr, llk])), (nw, .inr (1, .int 0 :: nv))]) s.heap.size = A at hD ⊢
  have hA : ∀ q : Nat, s.heap.size ≤ q → A q := fun q h => by rw [← hAe]; exact Or.inr h
  have hS : va_S A s.heap s.heap [] := va_S.rf
  have hP : va_P G.1 vwCl ([(dp, .inr (11, .ref lg :: .ref nw :: dv)), (lg, .inr (2, [lfi, lst, ltr, llk])), (nw, .inr (1, .int 0 :: nv))]) s.heap := hP
  have hl := lv_entry ([.ref dp, .int x1, .int x2]) (n := 4) (Nat.le_of_ble_eq_true rfl)
  rw [lg_entry_eq]
  generalize (lg_sl ([.ref dp, .int x1, .int x2]) ++ List.replicate (4 - (lg_sl ([.ref dp, .int x1, .int x2])).length) Slot.unset).toArray = ls at hl ⊢
  have hl : lv_has ls 4 [(0, .ref dp), (1, .int x1), (2, .int x2)] := hl
  refine lv_aload_n hx hb dX11_way_0 rfl (lv_at hl 0 rfl) ?_
  refine va_get (D := G.1) (ci := 11) (v := .ref nw) (C := RX11) (T := TX11) (N := 14) hx hb ht inlX11 hown hK.1 hP 0 rfl rfl 1 (by decide) (ht (Cond.fieldLink RX11 19 "PloughDepot" "now" "LPloughDepot$Books;") mw_1_19) (fun _ h9 => h9) rfl dX11_way_1 ?_
  refine lv_iload_n hx hb dX11_way_4 rfl (lv_at hl 1 rfl) ?_
  have hPc := hP.sub (ws' := [(nw, .inr (1, .int 0 :: nv))]) [2] rfl
  have hDc := hD.sub (ws' := [(nw, .inr (1, .int 0 :: nv))]) [2] (by decide) rfl
  have hFc := va_free (wc := [(nw, .inr (1, .int 0 :: nv))]) hD hS hA [2] rfl
  refine va_calli (va_runV (As := [.int x1]) (rest := []) ⟨hx, hb, hml, hown, hts⟩ (k_hasCrossing l G _ nw x1 nv ) (cwV 1 hts (gd_V mw_12_14 mw_12_15 mw_12_16 mw_1_18 mw_12_17) rfl rfl rfl ⟨rfl, yk_X1_hasCrossing⟩ ⟨Nat.le_of_ble_eq_true rfl, Nat.le_of_ble_eq_true rfl⟩) (c0_preV (q0 := 0) (ci := 1) (q := (RX1, TX1, 8)) hPc hK hDc rfl rfl) rfl rfl hl.1 rfl (lv_room (Nat.le_of_ble_eq_true rfl)) dX11_way_5 ⟨Nat.le_of_ble_eq_true rfl, Nat.le_of_ble_eq_true rfl⟩) hS (fun q _ h => hFc q h) hFc (fun r_1 u t H1 locs ht1 hvm hw hB hz1 hk1 hS => ?_)
  try dsimp only at hw hB
  have hr1 := hw
  obtain rfl := hr1.symm
  obtain ⟨hP1, hD1⟩ := hB
  rw [ht1] at hP1
  obtain ⟨hP, hD⟩ := va_join (wr := [(dp, .inr (11, .ref lg :: .ref nw :: dv)), (lg, .inr (2, [lfi, lst, ltr, llk]))]) (w1 := [(nw, .inr (1, .int 0 :: nv))]) hP hD [2] [0, 1] rfl rfl (by decide) (by decide) hk1 hFc hP1 hD1
  generalize H1 = H at hP hS ⊢
  have hP : va_P G.1 vwCl ([(dp, .inr (11, .ref lg :: .ref nw :: dv)), (lg, .inr (2, [lfi, lst, ltr, llk])), (nw, .inr (1, .int 0 :: nv))]) H := hP
  have hD : va_D A ([(dp, .inr (11, .ref lg :: .ref nw :: dv)), (lg, .inr (2, [lfi, lst, ltr, llk])), (nw, .inr (1, .int 0 :: nv))]) := hD
  refine lv_if_eq (tgt := 22) hx hb dX11_way_8 (by decide) (fun c_2 => ?_) (fun c_2 => ?_)
  · refine lv_aload_n hx hb dX11_way_22 rfl (lv_at hl 0 rfl) ?_
    refine lv_bipush (v := (-2)) hx hb dX11_way_23 (by decide) ?_
    have hPc := hP.sub (ws' := [(dp, .inr (11, .ref lg :: .ref nw :: dv)), (lg, .inr (2, [lfi, lst, ltr, llk]))]) [0, 1] rfl
    have hDc := hD.sub (ws' := [(dp, .inr (11, .ref lg :: .ref nw :: dv)), (lg, .inr (2, [lfi, lst, ltr, llk]))]) [0, 1] (by decide) rfl
    have hFc := va_free (wc := [(dp, .inr (11, .ref lg :: .ref nw :: dv)), (lg, .inr (2, [lfi, lst, ltr, llk]))]) hD hS hA [0, 1] rfl
    refine va_calli (va_runV (As := [.int (-2)]) (rest := []) ⟨hx, hb, hml, hown, hts⟩ (k_refuse_m2 l G _ dp lg (.ref nw :: dv) lfi lst ltr llk ) (cwV 1 hts (gd_V mw_7_22 mw_7_23 mw_8_0 mw_1_2 mw_8_1) rfl rfl rfl ⟨rfl, yk_X11_refuse⟩ ⟨Nat.le_of_ble_eq_true rfl, Nat.le_of_ble_eq_true rfl⟩) (c0_preV (q0 := 0) (ci := 11) (q := (RX11, TX11, 14)) hPc hK hDc rfl rfl) rfl rfl hl.1 rfl (lv_room (Nat.le_of_ble_eq_true rfl)) dX11_way_25 ⟨Nat.le_of_ble_eq_true rfl, Nat.le_of_ble_eq_true rfl⟩) hS (fun q _ h => hFc q h) hFc (fun r_3 u t H1 locs ht1 hvm hw hB hz1 hk1 hS => ?_)
    try dsimp only at hw hB
    have hr3 := hw
    obtain rfl := hr3.symm
    obtain ⟨hP1, hD1⟩ := hB
    rw [ht1] at hP1
    obtain ⟨hP, hD⟩ := va_join (wr := [(nw, .inr (1, .int 0 :: nv))]) (w1 := [(dp, .inr (11, .ref lg :: .ref nw :: dv)), (lg, .inr (2, [lfi, .int (-2), ltr, llk]))]) hP hD [0, 1] [2] rfl rfl (by decide) (by decide) hk1 hFc hP1 hD1
    generalize H1 = H at hP hS ⊢
    have hP : va_P G.1 vwCl ([(nw, .inr (1, .int 0 :: nv)), (dp, .inr (11, .ref lg :: .ref nw :: dv)), (lg, .inr (2, [lfi, .int (-2), ltr, llk]))]) H := hP
    have hD : va_D A ([(nw, .inr (1, .int 0 :: nv)), (dp, .inr (11, .ref lg :: .ref nw :: dv)), (lg, .inr (2, [lfi, .int (-2), ltr, llk]))]) := hD
    exact W.iret (v := (-2)) hx hb hr (fun t ht hW => ⟨⟨(-2), (), rfl, rfl, trivial⟩, hS.F ht⟩) hS.2.2 dX11_way_28
  · exact absurd c_2 (by decide)

set_option maxHeartbeats 4000000 in
set_option maxRecDepth 100000 in
theorem k_wayAt (l : Launch) (G : GG) (sz : Nat) (dp : Nat) (x1 : Int32) (x2 : Int32) (x3 : Int32) (lg : Nat) (nw : Nat) (dv : List Value) (lfi : Value) (lst : Value) (ltr : Value) (llk : Value) (nv : List Value)  : Met l yX11_wayAt (.code yX11_wayAt cX11_wayAt 4 (some .int) :: TT) ({ frames := 3, cells := 0, slots := 0, locals := 300 } : Room) (c0_P G [.ref dp, .int x1, .int x2, .int x3] sz ([(dp, .inr (11, .ref lg :: .ref nw :: dv)), (lg, .inr (2, [lfi, lst, ltr, llk])), (nw, .inr (1, .int 0 :: nv))])) (va_Qi (S := Unit) (fun (r : Int32) (u : Unit) => r = (-2)) (fun (u : Unit) (t : State) => True) (va_A ([(dp, .inr (11, .ref lg :: .ref nw :: dv)), (lg, .inr (2, [lfi, lst, ltr, llk])), (nw, .inr (1, .int 0 :: nv))]) sz)) 0 0 (va_A ([(dp, .inr (11, .ref lg :: .ref nw :: dv)), (lg, .inr (2, [lfi, lst, ltr, llk])), (nw, .inr (1, .int 0 :: nv))]) sz) := by
  refine Met.ofW (cc := cX11_wayAt) (maxL := 4) (ret := (some .int)) (by decide) rfl ?_
  intro p e s m args below meth c s₁ B hml hv
  obtain ⟨rfl, hsz, hP, hK, hD0⟩ := hv
  have hx := B.exec
  have hb := B.bytes
  have hr := B.returns
  have hts := atoms_spec (ws := .code yX11_wayAt cX11_wayAt 4 (some .int) :: TT) B.pre
  have ht := fun (w : Cond) (h : w ∈ TT) => hts w (List.mem_cons_of_mem _ h)
  have hown : s.vm.findClass RX11 = some m.cls := findClass_of_methodNamed B.named
  have hlocks := B.notSynchronized
  subst hsz
  have hD := hD0.self (sz := s.heap.size)
  generalize hAe : va_A ([(dp, .inr (11, .ref lg :: .ref nw :: dv)), (lg, .inr (2, [lfi, lst, ltr, llk])), (nw, .inr (1, .int 0 :: nv))]) s.heap.size = A at hD ⊢
  have hA : ∀ q : Nat, s.heap.size ≤ q → A q := fun q h => by rw [← hAe]; exact Or.inr h
  have hS : va_S A s.heap s.heap [] := va_S.rf
  have hP : va_P G.1 vwCl ([(dp, .inr (11, .ref lg :: .ref nw :: dv)), (lg, .inr (2, [lfi, lst, ltr, llk])), (nw, .inr (1, .int 0 :: nv))]) s.heap := hP
  have hl := lv_entry ([.ref dp, .int x1, .int x2, .int x3]) (n := 4) (Nat.le_of_ble_eq_true rfl)
  rw [lg_entry_eq]
  generalize (lg_sl ([.ref dp, .int x1, .int x2, .int x3]) ++ List.replicate (4 - (lg_sl ([.ref dp, .int x1, .int x2, .int x3])).length) Slot.unset).toArray = ls at hl ⊢
  have hl : lv_has ls 4 [(0, .ref dp), (1, .int x1), (2, .int x2), (3, .int x3)] := hl
  refine lv_aload_n hx hb dX11_wayAt_0 rfl (lv_at hl 0 rfl) ?_
  refine va_get (D := G.1) (ci := 11) (v := .ref nw) (C := RX11) (T := TX11) (N := 14) hx hb ht inlX11 hown hK.1 hP 0 rfl rfl 1 (by decide) (ht (Cond.fieldLink RX11 19 "PloughDepot" "now" "LPloughDepot$Books;") mw_1_19) (fun _ h9 => h9) rfl dX11_wayAt_1 ?_
  refine lv_iload_n hx hb dX11_wayAt_4 rfl (lv_at hl 1 rfl) ?_
  have hPc := hP.sub (ws' := [(nw, .inr (1, .int 0 :: nv))]) [2] rfl
  have hDc := hD.sub (ws' := [(nw, .inr (1, .int 0 :: nv))]) [2] (by decide) rfl
  have hFc := va_free (wc := [(nw, .inr (1, .int 0 :: nv))]) hD hS hA [2] rfl
  refine va_calli (va_runV (As := [.int x1]) (rest := []) ⟨hx, hb, hml, hown, hts⟩ (k_hasCrossing l G _ nw x1 nv ) (cwV 1 hts (gd_V mw_12_14 mw_12_15 mw_12_16 mw_1_18 mw_12_17) rfl rfl rfl ⟨rfl, yk_X1_hasCrossing⟩ ⟨Nat.le_of_ble_eq_true rfl, Nat.le_of_ble_eq_true rfl⟩) (c0_preV (q0 := 0) (ci := 1) (q := (RX1, TX1, 8)) hPc hK hDc rfl rfl) rfl rfl hl.1 rfl (lv_room (Nat.le_of_ble_eq_true rfl)) dX11_wayAt_5 ⟨Nat.le_of_ble_eq_true rfl, Nat.le_of_ble_eq_true rfl⟩) hS (fun q _ h => hFc q h) hFc (fun r_1 u t H1 locs ht1 hvm hw hB hz1 hk1 hS => ?_)
  try dsimp only at hw hB
  have hr1 := hw
  obtain rfl := hr1.symm
  obtain ⟨hP1, hD1⟩ := hB
  rw [ht1] at hP1
  obtain ⟨hP, hD⟩ := va_join (wr := [(dp, .inr (11, .ref lg :: .ref nw :: dv)), (lg, .inr (2, [lfi, lst, ltr, llk]))]) (w1 := [(nw, .inr (1, .int 0 :: nv))]) hP hD [2] [0, 1] rfl rfl (by decide) (by decide) hk1 hFc hP1 hD1
  generalize H1 = H at hP hS ⊢
  have hP : va_P G.1 vwCl ([(dp, .inr (11, .ref lg :: .ref nw :: dv)), (lg, .inr (2, [lfi, lst, ltr, llk])), (nw, .inr (1, .int 0 :: nv))]) H := hP
  have hD : va_D A ([(dp, .inr (11, .ref lg :: .ref nw :: dv)), (lg, .inr (2, [lfi, lst, ltr, llk])), (nw, .inr (1, .int 0 :: nv))]) := hD
  refine lv_if_eq (tgt := 22) hx hb dX11_wayAt_8 (by decide) (fun c_2 => ?_) (fun c_2 => ?_)
  · refine lv_aload_n hx hb dX11_wayAt_22 rfl (lv_at hl 0 rfl) ?_
    refine lv_bipush (v := (-2)) hx hb dX11_wayAt_23 (by decide) ?_
    have hPc := hP.sub (ws' := [(dp, .inr (11, .ref lg :: .ref nw :: dv)), (lg, .inr (2, [lfi, lst, ltr, llk]))]) [0, 1] rfl
    have hDc := hD.sub (ws' := [(dp, .inr (11, .ref lg :: .ref nw :: dv)), (lg, .inr (2, [lfi, lst, ltr, llk]))]) [0, 1] (by decide) rfl
    have hFc := va_free (wc := [(dp, .inr (11, .ref lg :: .ref nw :: dv)), (lg, .inr (2, [lfi, lst, ltr, llk]))]) hD hS hA [0, 1] rfl
    refine va_calli (va_runV (As := [.int (-2)]) (rest := []) ⟨hx, hb, hml, hown, hts⟩ (k_refuse_m2 l G _ dp lg (.ref nw :: dv) lfi lst ltr llk ) (cwV 1 hts (gd_V mw_7_22 mw_7_23 mw_8_0 mw_1_2 mw_8_1) rfl rfl rfl ⟨rfl, yk_X11_refuse⟩ ⟨Nat.le_of_ble_eq_true rfl, Nat.le_of_ble_eq_true rfl⟩) (c0_preV (q0 := 0) (ci := 11) (q := (RX11, TX11, 14)) hPc hK hDc rfl rfl) rfl rfl hl.1 rfl (lv_room (Nat.le_of_ble_eq_true rfl)) dX11_wayAt_25 ⟨Nat.le_of_ble_eq_true rfl, Nat.le_of_ble_eq_true rfl⟩) hS (fun q _ h => hFc q h) hFc (fun r_3 u t H1 locs ht1 hvm hw hB hz1 hk1 hS => ?_)
    try dsimp only at hw hB
    have hr3 := hw
    obtain rfl := hr3.symm
    obtain ⟨hP1, hD1⟩ := hB
    rw [ht1] at hP1
    obtain ⟨hP, hD⟩ := va_join (wr := [(nw, .inr (1, .int 0 :: nv))]) (w1 := [(dp, .inr (11, .ref lg :: .ref nw :: dv)), (lg, .inr (2, [lfi, .int (-2), ltr, llk]))]) hP hD [0, 1] [2] rfl rfl (by decide) (by decide) hk1 hFc hP1 hD1
    generalize H1 = H at hP hS ⊢
    have hP : va_P G.1 vwCl ([(nw, .inr (1, .int 0 :: nv)), (dp, .inr (11, .ref lg :: .ref nw :: dv)), (lg, .inr (2, [lfi, .int (-2), ltr, llk]))]) H := hP
    have hD : va_D A ([(nw, .inr (1, .int 0 :: nv)), (dp, .inr (11, .ref lg :: .ref nw :: dv)), (lg, .inr (2, [lfi, .int (-2), ltr, llk]))]) := hD
    exact W.iret (v := (-2)) hx hb hr (fun t ht hW => ⟨⟨(-2), (), rfl, rfl, trivial⟩, hS.F ht⟩) hS.2.2 dX11_wayAt_28
  · exact absurd c_2 (by decide)

set_option maxHeartbeats 4000000 in
set_option maxRecDepth 100000 in
theorem k_gauge (l : Launch) (G : GG) (sz : Nat) (dp : Nat) (x1 : Int32) (x2 : Int32) (lg : Nat) (nw : Nat) (dv : List Value) (lfi : Value) (lst : Value) (ltr : Value) (llk : Value) (nv : List Value)  : Met l yX11_gauge (.code yX11_gauge cX11_gauge 3 (some .int) :: TT) ({ frames := 3, cells := 0, slots := 0, locals := 300 } : Room) (c0_P G [.ref dp, .int x1, .int x2] sz ([(dp, .inr (11, .ref lg :: .ref nw :: dv)), (lg, .inr (2, [lfi, lst, ltr, llk])), (nw, .inr (1, .int 0 :: nv))])) (va_Qi (S := Unit) (fun (r : Int32) (u : Unit) => r = (-2)) (fun (u : Unit) (t : State) => True) (va_A ([(dp, .inr (11, .ref lg :: .ref nw :: dv)), (lg, .inr (2, [lfi, lst, ltr, llk])), (nw, .inr (1, .int 0 :: nv))]) sz)) 0 0 (va_A ([(dp, .inr (11, .ref lg :: .ref nw :: dv)), (lg, .inr (2, [lfi, lst, ltr, llk])), (nw, .inr (1, .int 0 :: nv))]) sz) := by
  refine Met.ofW (cc := cX11_gauge) (maxL := 3) (ret := (some .int)) (by decide) rfl ?_
  intro p e s m args below meth c s₁ B hml hv
  obtain ⟨rfl, hsz, hP, hK, hD0⟩ := hv
  have hx := B.exec
  have hb := B.bytes
  have hr := B.returns
  have hts := atoms_spec (ws := .code yX11_gauge cX11_gauge 3 (some .int) :: TT) B.pre
  have ht := fun (w : Cond) (h : w ∈ TT) => hts w (List.mem_cons_of_mem _ h)
  have hown : s.vm.findClass RX11 = some m.cls := findClass_of_methodNamed B.named
  have hlocks := B.notSynchronized
  subst hsz
  have hD := hD0.self (sz := s.heap.size)
  generalize hAe : va_A ([(dp, .inr (11, .ref lg :: .ref nw :: dv)), (lg, .inr (2, [lfi, lst, ltr, llk])), (nw, .inr (1, .int 0 :: nv))]) s.heap.size = A at hD ⊢
  have hA : ∀ q : Nat, s.heap.size ≤ q → A q := fun q h => by rw [← hAe]; exact Or.inr h
  have hS : va_S A s.heap s.heap [] := va_S.rf
  have hP : va_P G.1 vwCl ([(dp, .inr (11, .ref lg :: .ref nw :: dv)), (lg, .inr (2, [lfi, lst, ltr, llk])), (nw, .inr (1, .int 0 :: nv))]) s.heap := hP
  have hl := lv_entry ([.ref dp, .int x1, .int x2]) (n := 3) (Nat.le_of_ble_eq_true rfl)
  rw [lg_entry_eq]
  generalize (lg_sl ([.ref dp, .int x1, .int x2]) ++ List.replicate (3 - (lg_sl ([.ref dp, .int x1, .int x2])).length) Slot.unset).toArray = ls at hl ⊢
  have hl : lv_has ls 3 [(0, .ref dp), (1, .int x1), (2, .int x2)] := hl
  refine lv_aload_n hx hb dX11_gauge_0 rfl (lv_at hl 0 rfl) ?_
  refine va_get (D := G.1) (ci := 11) (v := .ref nw) (C := RX11) (T := TX11) (N := 14) hx hb ht inlX11 hown hK.1 hP 0 rfl rfl 1 (by decide) (ht (Cond.fieldLink RX11 19 "PloughDepot" "now" "LPloughDepot$Books;") mw_1_19) (fun _ h9 => h9) rfl dX11_gauge_1 ?_
  refine lv_iload_n hx hb dX11_gauge_4 rfl (lv_at hl 1 rfl) ?_
  have hPc := hP.sub (ws' := [(nw, .inr (1, .int 0 :: nv))]) [2] rfl
  have hDc := hD.sub (ws' := [(nw, .inr (1, .int 0 :: nv))]) [2] (by decide) rfl
  have hFc := va_free (wc := [(nw, .inr (1, .int 0 :: nv))]) hD hS hA [2] rfl
  refine va_calli (va_runV (As := [.int x1]) (rest := []) ⟨hx, hb, hml, hown, hts⟩ (k_hasCrossing l G _ nw x1 nv ) (cwV 1 hts (gd_V mw_12_14 mw_12_15 mw_12_16 mw_1_18 mw_12_17) rfl rfl rfl ⟨rfl, yk_X1_hasCrossing⟩ ⟨Nat.le_of_ble_eq_true rfl, Nat.le_of_ble_eq_true rfl⟩) (c0_preV (q0 := 0) (ci := 1) (q := (RX1, TX1, 8)) hPc hK hDc rfl rfl) rfl rfl hl.1 rfl (lv_room (Nat.le_of_ble_eq_true rfl)) dX11_gauge_5 ⟨Nat.le_of_ble_eq_true rfl, Nat.le_of_ble_eq_true rfl⟩) hS (fun q _ h => hFc q h) hFc (fun r_1 u t H1 locs ht1 hvm hw hB hz1 hk1 hS => ?_)
  try dsimp only at hw hB
  have hr1 := hw
  obtain rfl := hr1.symm
  obtain ⟨hP1, hD1⟩ := hB
  rw [ht1] at hP1
  obtain ⟨hP, hD⟩ := va_join (wr := [(dp, .inr (11, .ref lg :: .ref nw :: dv)), (lg, .inr (2, [lfi, lst, ltr, llk]))]) (w1 := [(nw, .inr (1, .int 0 :: nv))]) hP hD [2] [0, 1] rfl rfl (by decide) (by decide) hk1 hFc hP1 hD1
  generalize H1 = H at hP hS ⊢
  have hP : va_P G.1 vwCl ([(dp, .inr (11, .ref lg :: .ref nw :: dv)), (lg, .inr (2, [lfi, lst, ltr, llk])), (nw, .inr (1, .int 0 :: nv))]) H := hP
  have hD : va_D A ([(dp, .inr (11, .ref lg :: .ref nw :: dv)), (lg, .inr (2, [lfi, lst, ltr, llk])), (nw, .inr (1, .int 0 :: nv))]) := hD
  refine lv_if_ne (tgt := 18) hx hb dX11_gauge_8 (by decide) (fun c_2 => ?_) (fun c_2 => ?_)
  · exact absurd c_2 (by decide)
  · refine lv_aload_n hx hb dX11_gauge_11 rfl (lv_at hl 0 rfl) ?_
    refine lv_bipush (v := (-2)) hx hb dX11_gauge_12 (by decide) ?_
    have hPc := hP.sub (ws' := [(dp, .inr (11, .ref lg :: .ref nw :: dv)), (lg, .inr (2, [lfi, lst, ltr, llk]))]) [0, 1] rfl
    have hDc := hD.sub (ws' := [(dp, .inr (11, .ref lg :: .ref nw :: dv)), (lg, .inr (2, [lfi, lst, ltr, llk]))]) [0, 1] (by decide) rfl
    have hFc := va_free (wc := [(dp, .inr (11, .ref lg :: .ref nw :: dv)), (lg, .inr (2, [lfi, lst, ltr, llk]))]) hD hS hA [0, 1] rfl
    refine va_calli (va_runV (As := [.int (-2)]) (rest := []) ⟨hx, hb, hml, hown, hts⟩ (k_refuse_m2 l G _ dp lg (.ref nw :: dv) lfi lst ltr llk ) (cwV 1 hts (gd_V mw_7_22 mw_7_23 mw_8_0 mw_1_2 mw_8_1) rfl rfl rfl ⟨rfl, yk_X11_refuse⟩ ⟨Nat.le_of_ble_eq_true rfl, Nat.le_of_ble_eq_true rfl⟩) (c0_preV (q0 := 0) (ci := 11) (q := (RX11, TX11, 14)) hPc hK hDc rfl rfl) rfl rfl hl.1 rfl (lv_room (Nat.le_of_ble_eq_true rfl)) dX11_gauge_14 ⟨Nat.le_of_ble_eq_true rfl, Nat.le_of_ble_eq_true rfl⟩) hS (fun q _ h => hFc q h) hFc (fun r_3 u t H1 locs ht1 hvm hw hB hz1 hk1 hS => ?_)
    try dsimp only at hw hB
    have hr3 := hw
    obtain rfl := hr3.symm
    obtain ⟨hP1, hD1⟩ := hB
    rw [ht1] at hP1
    obtain ⟨hP, hD⟩ := va_join (wr := [(nw, .inr (1, .int 0 :: nv))]) (w1 := [(dp, .inr (11, .ref lg :: .ref nw :: dv)), (lg, .inr (2, [lfi, .int (-2), ltr, llk]))]) hP hD [0, 1] [2] rfl rfl (by decide) (by decide) hk1 hFc hP1 hD1
    generalize H1 = H at hP hS ⊢
    have hP : va_P G.1 vwCl ([(nw, .inr (1, .int 0 :: nv)), (dp, .inr (11, .ref lg :: .ref nw :: dv)), (lg, .inr (2, [lfi, .int (-2), ltr, llk]))]) H := hP
    have hD : va_D A ([(nw, .inr (1, .int 0 :: nv)), (dp, .inr (11, .ref lg :: .ref nw :: dv)), (lg, .inr (2, [lfi, .int (-2), ltr, llk]))]) := hD
    exact W.iret (v := (-2)) hx hb hr (fun t ht hW => ⟨⟨(-2), (), rfl, rfl, trivial⟩, hS.F ht⟩) hS.2.2 dX11_gauge_17

set_option maxHeartbeats 4000000 in
set_option maxRecDepth 100000 in
theorem k_partner (l : Launch) (G : GG) (sz : Nat) (dp : Nat) (x1 : Int32) (lg : Nat) (nw : Nat) (dv : List Value) (lfi : Value) (lst : Value) (ltr : Value) (llk : Value) (nv : List Value)  : Met l yX11_partner (.code yX11_partner cX11_partner 2 (some .int) :: TT) ({ frames := 3, cells := 0, slots := 0, locals := 300 } : Room) (c0_P G [.ref dp, .int x1] sz ([(dp, .inr (11, .ref lg :: .ref nw :: dv)), (lg, .inr (2, [lfi, lst, ltr, llk])), (nw, .inr (1, .int 0 :: nv))])) (va_Qi (S := Unit) (fun (r : Int32) (u : Unit) => r = (-2)) (fun (u : Unit) (t : State) => True) (va_A ([(dp, .inr (11, .ref lg :: .ref nw :: dv)), (lg, .inr (2, [lfi, lst, ltr, llk])), (nw, .inr (1, .int 0 :: nv))]) sz)) 0 0 (va_A ([(dp, .inr (11, .ref lg :: .ref nw :: dv)), (lg, .inr (2, [lfi, lst, ltr, llk])), (nw, .inr (1, .int 0 :: nv))]) sz) := by
  refine Met.ofW (cc := cX11_partner) (maxL := 2) (ret := (some .int)) (by decide) rfl ?_
  intro p e s m args below meth c s₁ B hml hv
  obtain ⟨rfl, hsz, hP, hK, hD0⟩ := hv
  have hx := B.exec
  have hb := B.bytes
  have hr := B.returns
  have hts := atoms_spec (ws := .code yX11_partner cX11_partner 2 (some .int) :: TT) B.pre
  have ht := fun (w : Cond) (h : w ∈ TT) => hts w (List.mem_cons_of_mem _ h)
  have hown : s.vm.findClass RX11 = some m.cls := findClass_of_methodNamed B.named
  have hlocks := B.notSynchronized
  subst hsz
  have hD := hD0.self (sz := s.heap.size)
  generalize hAe : va_A ([(dp, .inr (11, .ref lg :: .ref nw :: dv)), (lg, .inr (2, [lfi, lst, ltr, llk])), (nw, .inr (1, .int 0 :: nv))]) s.heap.size = A at hD ⊢
  have hA : ∀ q : Nat, s.heap.size ≤ q → A q := fun q h => by rw [← hAe]; exact Or.inr h
  have hS : va_S A s.heap s.heap [] := va_S.rf
  have hP : va_P G.1 vwCl ([(dp, .inr (11, .ref lg :: .ref nw :: dv)), (lg, .inr (2, [lfi, lst, ltr, llk])), (nw, .inr (1, .int 0 :: nv))]) s.heap := hP
  have hl := lv_entry ([.ref dp, .int x1]) (n := 2) (Nat.le_of_ble_eq_true rfl)
  rw [lg_entry_eq]
  generalize (lg_sl ([.ref dp, .int x1]) ++ List.replicate (2 - (lg_sl ([.ref dp, .int x1])).length) Slot.unset).toArray = ls at hl ⊢
  have hl : lv_has ls 2 [(0, .ref dp), (1, .int x1)] := hl
  refine lv_aload_n hx hb dX11_partner_0 rfl (lv_at hl 0 rfl) ?_
  refine va_get (D := G.1) (ci := 11) (v := .ref nw) (C := RX11) (T := TX11) (N := 14) hx hb ht inlX11 hown hK.1 hP 0 rfl rfl 1 (by decide) (ht (Cond.fieldLink RX11 19 "PloughDepot" "now" "LPloughDepot$Books;") mw_1_19) (fun _ h9 => h9) rfl dX11_partner_1 ?_
  refine lv_iload_n hx hb dX11_partner_4 rfl (lv_at hl 1 rfl) ?_
  have hPc := hP.sub (ws' := [(nw, .inr (1, .int 0 :: nv))]) [2] rfl
  have hDc := hD.sub (ws' := [(nw, .inr (1, .int 0 :: nv))]) [2] (by decide) rfl
  have hFc := va_free (wc := [(nw, .inr (1, .int 0 :: nv))]) hD hS hA [2] rfl
  refine va_calli (va_runV (As := [.int x1]) (rest := []) ⟨hx, hb, hml, hown, hts⟩ (k_hasCrossing l G _ nw x1 nv ) (cwV 1 hts (gd_V mw_12_14 mw_12_15 mw_12_16 mw_1_18 mw_12_17) rfl rfl rfl ⟨rfl, yk_X1_hasCrossing⟩ ⟨Nat.le_of_ble_eq_true rfl, Nat.le_of_ble_eq_true rfl⟩) (c0_preV (q0 := 0) (ci := 1) (q := (RX1, TX1, 8)) hPc hK hDc rfl rfl) rfl rfl hl.1 rfl (lv_room (Nat.le_of_ble_eq_true rfl)) dX11_partner_5 ⟨Nat.le_of_ble_eq_true rfl, Nat.le_of_ble_eq_true rfl⟩) hS (fun q _ h => hFc q h) hFc (fun r_1 u t H1 locs ht1 hvm hw hB hz1 hk1 hS => ?_)
  try dsimp only at hw hB
  have hr1 := hw
  obtain rfl := hr1.symm
  obtain ⟨hP1, hD1⟩ := hB
  rw [ht1] at hP1
  obtain ⟨hP, hD⟩ := va_join (wr := [(dp, .inr (11, .ref lg :: .ref nw :: dv)), (lg, .inr (2, [lfi, lst, ltr, llk]))]) (w1 := [(nw, .inr (1, .int 0 :: nv))]) hP hD [2] [0, 1] rfl rfl (by decide) (by decide) hk1 hFc hP1 hD1
  generalize H1 = H at hP hS ⊢
  have hP : va_P G.1 vwCl ([(dp, .inr (11, .ref lg :: .ref nw :: dv)), (lg, .inr (2, [lfi, lst, ltr, llk])), (nw, .inr (1, .int 0 :: nv))]) H := hP
  have hD : va_D A ([(dp, .inr (11, .ref lg :: .ref nw :: dv)), (lg, .inr (2, [lfi, lst, ltr, llk])), (nw, .inr (1, .int 0 :: nv))]) := hD
  refine lv_if_eq (tgt := 27) hx hb dX11_partner_8 (by decide) (fun c_2 => ?_) (fun c_2 => ?_)
  · refine lv_aload_n hx hb dX11_partner_27 rfl (lv_at hl 0 rfl) ?_
    refine lv_bipush (v := (-2)) hx hb dX11_partner_28 (by decide) ?_
    have hPc := hP.sub (ws' := [(dp, .inr (11, .ref lg :: .ref nw :: dv)), (lg, .inr (2, [lfi, lst, ltr, llk]))]) [0, 1] rfl
    have hDc := hD.sub (ws' := [(dp, .inr (11, .ref lg :: .ref nw :: dv)), (lg, .inr (2, [lfi, lst, ltr, llk]))]) [0, 1] (by decide) rfl
    have hFc := va_free (wc := [(dp, .inr (11, .ref lg :: .ref nw :: dv)), (lg, .inr (2, [lfi, lst, ltr, llk]))]) hD hS hA [0, 1] rfl
    refine va_calli (va_runV (As := [.int (-2)]) (rest := []) ⟨hx, hb, hml, hown, hts⟩ (k_refuse_m2 l G _ dp lg (.ref nw :: dv) lfi lst ltr llk ) (cwV 1 hts (gd_V mw_7_22 mw_7_23 mw_8_0 mw_1_2 mw_8_1) rfl rfl rfl ⟨rfl, yk_X11_refuse⟩ ⟨Nat.le_of_ble_eq_true rfl, Nat.le_of_ble_eq_true rfl⟩) (c0_preV (q0 := 0) (ci := 11) (q := (RX11, TX11, 14)) hPc hK hDc rfl rfl) rfl rfl hl.1 rfl (lv_room (Nat.le_of_ble_eq_true rfl)) dX11_partner_30 ⟨Nat.le_of_ble_eq_true rfl, Nat.le_of_ble_eq_true rfl⟩) hS (fun q _ h => hFc q h) hFc (fun r_3 u t H1 locs ht1 hvm hw hB hz1 hk1 hS => ?_)
    try dsimp only at hw hB
    have hr3 := hw
    obtain rfl := hr3.symm
    obtain ⟨hP1, hD1⟩ := hB
    rw [ht1] at hP1
    obtain ⟨hP, hD⟩ := va_join (wr := [(nw, .inr (1, .int 0 :: nv))]) (w1 := [(dp, .inr (11, .ref lg :: .ref nw :: dv)), (lg, .inr (2, [lfi, .int (-2), ltr, llk]))]) hP hD [0, 1] [2] rfl rfl (by decide) (by decide) hk1 hFc hP1 hD1
    generalize H1 = H at hP hS ⊢
    have hP : va_P G.1 vwCl ([(nw, .inr (1, .int 0 :: nv)), (dp, .inr (11, .ref lg :: .ref nw :: dv)), (lg, .inr (2, [lfi, .int (-2), ltr, llk]))]) H := hP
    have hD : va_D A ([(nw, .inr (1, .int 0 :: nv)), (dp, .inr (11, .ref lg :: .ref nw :: dv)), (lg, .inr (2, [lfi, .int (-2), ltr, llk]))]) := hD
    exact W.iret (v := (-2)) hx hb hr (fun t ht hW => ⟨⟨(-2), (), rfl, rfl, trivial⟩, hS.F ht⟩) hS.2.2 dX11_partner_33
  · exact absurd c_2 (by decide)

set_option maxHeartbeats 4000000 in
set_option maxRecDepth 100000 in
theorem k_row (l : Launch) (G : GG) (sz : Nat) (dp : Nat) (x1 : Int32) (x2 : Int32) (lg : Nat) (nw : Nat) (dv : List Value) (lfi : Value) (lst : Value) (ltr : Value) (llk : Value) (n1 : Value) (tg : Nat) (nv : List Value) (tgc : Value)  : Met l yX11_row (.code yX11_row cX11_row 3 (some .int) :: TT) ({ frames := 3, cells := 0, slots := 0, locals := 300 } : Room) (c0_P G [.ref dp, .int x1, .int x2] sz ([(dp, .inr (11, .ref lg :: .ref nw :: dv)), (lg, .inr (2, [lfi, lst, ltr, llk])), (nw, .inr (1, .int 0 :: n1 :: .ref tg :: nv)), (tg, .inr (8, [tgc, .int 0]))])) (va_Qi (S := Unit) (fun (r : Int32) (u : Unit) => r = (-2)) (fun (u : Unit) (t : State) => True) (va_A ([(dp, .inr (11, .ref lg :: .ref nw :: dv)), (lg, .inr (2, [lfi, lst, ltr, llk])), (nw, .inr (1, .int 0 :: n1 :: .ref tg :: nv)), (tg, .inr (8, [tgc, .int 0]))]) sz)) 0 0 (va_A ([(dp, .inr (11, .ref lg :: .ref nw :: dv)), (lg, .inr (2, [lfi, lst, ltr, llk])), (nw, .inr (1, .int 0 :: n1 :: .ref tg :: nv)), (tg, .inr (8, [tgc, .int 0]))]) sz) := by
  refine Met.ofW (cc := cX11_row) (maxL := 3) (ret := (some .int)) (by decide) rfl ?_
  intro p e s m args below meth c s₁ B hml hv
  obtain ⟨rfl, hsz, hP, hK, hD0⟩ := hv
  have hx := B.exec
  have hb := B.bytes
  have hr := B.returns
  have hts := atoms_spec (ws := .code yX11_row cX11_row 3 (some .int) :: TT) B.pre
  have ht := fun (w : Cond) (h : w ∈ TT) => hts w (List.mem_cons_of_mem _ h)
  have hown : s.vm.findClass RX11 = some m.cls := findClass_of_methodNamed B.named
  have hlocks := B.notSynchronized
  subst hsz
  have hD := hD0.self (sz := s.heap.size)
  generalize hAe : va_A ([(dp, .inr (11, .ref lg :: .ref nw :: dv)), (lg, .inr (2, [lfi, lst, ltr, llk])), (nw, .inr (1, .int 0 :: n1 :: .ref tg :: nv)), (tg, .inr (8, [tgc, .int 0]))]) s.heap.size = A at hD ⊢
  have hA : ∀ q : Nat, s.heap.size ≤ q → A q := fun q h => by rw [← hAe]; exact Or.inr h
  have hS : va_S A s.heap s.heap [] := va_S.rf
  have hP : va_P G.1 vwCl ([(dp, .inr (11, .ref lg :: .ref nw :: dv)), (lg, .inr (2, [lfi, lst, ltr, llk])), (nw, .inr (1, .int 0 :: n1 :: .ref tg :: nv)), (tg, .inr (8, [tgc, .int 0]))]) s.heap := hP
  have hl := lv_entry ([.ref dp, .int x1, .int x2]) (n := 3) (Nat.le_of_ble_eq_true rfl)
  rw [lg_entry_eq]
  generalize (lg_sl ([.ref dp, .int x1, .int x2]) ++ List.replicate (3 - (lg_sl ([.ref dp, .int x1, .int x2])).length) Slot.unset).toArray = ls at hl ⊢
  have hl : lv_has ls 3 [(0, .ref dp), (1, .int x1), (2, .int x2)] := hl
  refine lv_aload_n hx hb dX11_row_0 rfl (lv_at hl 0 rfl) ?_
  refine va_get (D := G.1) (ci := 11) (v := .ref nw) (C := RX11) (T := TX11) (N := 14) hx hb ht inlX11 hown hK.1 hP 0 rfl rfl 1 (by decide) (ht (Cond.fieldLink RX11 19 "PloughDepot" "now" "LPloughDepot$Books;") mw_1_19) (fun _ h9 => h9) rfl dX11_row_1 ?_
  refine va_get (D := G.1) (ci := 1) (v := .ref tg) (C := RX1) (T := TX1) (N := 8) hx hb ht inlX1 hown hK.1 hP 2 rfl rfl 2 (by decide) (ht (Cond.fieldLink RX11 144 "PloughDepot$Books" "gauges" "LPloughDepot$Table;") mw_19_21) (fun _ h9 => h9) rfl dX11_row_4 ?_
  refine lv_iload_n hx hb dX11_row_7 rfl (lv_at hl 1 rfl) ?_
  have hPc := hP.sub (ws' := [(tg, .inr (8, [tgc, .int 0]))]) [3] rfl
  have hDc := hD.sub (ws' := [(tg, .inr (8, [tgc, .int 0]))]) [3] (by decide) rfl
  have hFc := va_free (wc := [(tg, .inr (8, [tgc, .int 0]))]) hD hS hA [3] rfl
  refine va_calli (va_runV (As := [.int x1]) (rest := []) ⟨hx, hb, hml, hown, hts⟩ (k_has l G _ tg x1 tgc ) (cwV 1 hts (gd_V mw_13_22 mw_13_23 mw_14_0 mw_3_13 mw_14_1) rfl rfl rfl ⟨rfl, yk_X8_has⟩ ⟨Nat.le_of_ble_eq_true rfl, Nat.le_of_ble_eq_true rfl⟩) (c0_preV (q0 := 0) (ci := 8) (q := (RX8, TX8, 2)) hPc hK hDc rfl rfl) rfl rfl hl.1 rfl (lv_room (Nat.le_of_ble_eq_true rfl)) dX11_row_8 ⟨Nat.le_of_ble_eq_true rfl, Nat.le_of_ble_eq_true rfl⟩) hS (fun q _ h => hFc q h) hFc (fun r_1 u t H1 locs ht1 hvm hw hB hz1 hk1 hS => ?_)
  try dsimp only at hw hB
  have hr1 := hw
  obtain rfl := hr1.symm
  obtain ⟨hP1, hD1⟩ := hB
  rw [ht1] at hP1
  obtain ⟨hP, hD⟩ := va_join (wr := [(dp, .inr (11, .ref lg :: .ref nw :: dv)), (lg, .inr (2, [lfi, lst, ltr, llk])), (nw, .inr (1, .int 0 :: n1 :: .ref tg :: nv))]) (w1 := [(tg, .inr (8, [tgc, .int 0]))]) hP hD [3] [0, 1, 2] rfl rfl (by decide) (by decide) hk1 hFc hP1 hD1
  generalize H1 = H at hP hS ⊢
  have hP : va_P G.1 vwCl ([(dp, .inr (11, .ref lg :: .ref nw :: dv)), (lg, .inr (2, [lfi, lst, ltr, llk])), (nw, .inr (1, .int 0 :: n1 :: .ref tg :: nv)), (tg, .inr (8, [tgc, .int 0]))]) H := hP
  have hD : va_D A ([(dp, .inr (11, .ref lg :: .ref nw :: dv)), (lg, .inr (2, [lfi, lst, ltr, llk])), (nw, .inr (1, .int 0 :: n1 :: .ref tg :: nv)), (tg, .inr (8, [tgc, .int 0]))]) := hD
  refine lv_if_eq (tgt := 21) hx hb dX11_row_11 (by decide) (fun c_2 => ?_) (fun c_2 => ?_)
  · refine lv_aload_n hx hb dX11_row_21 rfl (lv_at hl 0 rfl) ?_
    refine lv_bipush (v := (-2)) hx hb dX11_row_22 (by decide) ?_
    have hPc := hP.sub (ws' := [(dp, .inr (11, .ref lg :: .ref nw :: dv)), (lg, .inr (2, [lfi, lst, ltr, llk]))]) [0, 1] rfl
    have hDc := hD.sub (ws' := [(dp, .inr (11, .ref lg :: .ref nw :: dv)), (lg, .inr (2, [lfi, lst, ltr, llk]))]) [0, 1] (by decide) rfl
    have hFc := va_free (wc := [(dp, .inr (11, .ref lg :: .ref nw :: dv)), (lg, .inr (2, [lfi, lst, ltr, llk]))]) hD hS hA [0, 1] rfl
    refine va_calli (va_runV (As := [.int (-2)]) (rest := []) ⟨hx, hb, hml, hown, hts⟩ (k_refuse_m2 l G _ dp lg (.ref nw :: dv) lfi lst ltr llk ) (cwV 1 hts (gd_V mw_7_22 mw_7_23 mw_8_0 mw_1_2 mw_8_1) rfl rfl rfl ⟨rfl, yk_X11_refuse⟩ ⟨Nat.le_of_ble_eq_true rfl, Nat.le_of_ble_eq_true rfl⟩) (c0_preV (q0 := 0) (ci := 11) (q := (RX11, TX11, 14)) hPc hK hDc rfl rfl) rfl rfl hl.1 rfl (lv_room (Nat.le_of_ble_eq_true rfl)) dX11_row_24 ⟨Nat.le_of_ble_eq_true rfl, Nat.le_of_ble_eq_true rfl⟩) hS (fun q _ h => hFc q h) hFc (fun r_3 u t H1 locs ht1 hvm hw hB hz1 hk1 hS => ?_)
    try dsimp only at hw hB
    have hr3 := hw
    obtain rfl := hr3.symm
    obtain ⟨hP1, hD1⟩ := hB
    rw [ht1] at hP1
    obtain ⟨hP, hD⟩ := va_join (wr := [(nw, .inr (1, .int 0 :: n1 :: .ref tg :: nv)), (tg, .inr (8, [tgc, .int 0]))]) (w1 := [(dp, .inr (11, .ref lg :: .ref nw :: dv)), (lg, .inr (2, [lfi, .int (-2), ltr, llk]))]) hP hD [0, 1] [2, 3] rfl rfl (by decide) (by decide) hk1 hFc hP1 hD1
    generalize H1 = H at hP hS ⊢
    have hP : va_P G.1 vwCl ([(nw, .inr (1, .int 0 :: n1 :: .ref tg :: nv)), (tg, .inr (8, [tgc, .int 0])), (dp, .inr (11, .ref lg :: .ref nw :: dv)), (lg, .inr (2, [lfi, .int (-2), ltr, llk]))]) H := hP
    have hD : va_D A ([(nw, .inr (1, .int 0 :: n1 :: .ref tg :: nv)), (tg, .inr (8, [tgc, .int 0])), (dp, .inr (11, .ref lg :: .ref nw :: dv)), (lg, .inr (2, [lfi, .int (-2), ltr, llk]))]) := hD
    exact W.iret (v := (-2)) hx hb hr (fun t ht hW => ⟨⟨(-2), (), rfl, rfl, trivial⟩, hS.F ht⟩) hS.2.2 dX11_row_27
  · exact absurd c_2 (by decide)

set_option maxHeartbeats 4000000 in
set_option maxRecDepth 100000 in
theorem k_lose (l : Launch) (G : GG) (sz : Nat) (dp : Nat) (x1 : Int32) (lg : Nat) (nw : Nat) (dv : List Value) (lfi : Value) (lst : Value) (ltr : Value) (llk : Value) (n1 : Value) (tg : Nat) (nv : List Value) (tgc : Value)  : Met l yX11_lose (.code yX11_lose cX11_lose 3 (some .int) :: TT) ({ frames := 3, cells := 0, slots := 0, locals := 300 } : Room) (c0_P G [.ref dp, .int x1] sz ([(dp, .inr (11, .ref lg :: .ref nw :: dv)), (lg, .inr (2, [lfi, lst, ltr, llk])), (nw, .inr (1, .int 0 :: n1 :: .ref tg :: nv)), (tg, .inr (8, [tgc, .int 0]))])) (va_Qi (S := Unit) (fun (r : Int32) (u : Unit) => r = (-2)) (fun (u : Unit) (t : State) => True) (va_A ([(dp, .inr (11, .ref lg :: .ref nw :: dv)), (lg, .inr (2, [lfi, lst, ltr, llk])), (nw, .inr (1, .int 0 :: n1 :: .ref tg :: nv)), (tg, .inr (8, [tgc, .int 0]))]) sz)) 0 0 (va_A ([(dp, .inr (11, .ref lg :: .ref nw :: dv)), (lg, .inr (2, [lfi, lst, ltr, llk])), (nw, .inr (1, .int 0 :: n1 :: .ref tg :: nv)), (tg, .inr (8, [tgc, .int 0]))]) sz) := by
  refine Met.ofW (cc := cX11_lose) (maxL := 3) (ret := (some .int)) (by decide) rfl ?_
  intro p e s m args below meth c s₁ B hml hv
  obtain ⟨rfl, hsz, hP, hK, hD0⟩ := hv
  have hx := B.exec
  have hb := B.bytes
  have hr := B.returns
  have hts := atoms_spec (ws := .code yX11_lose cX11_lose 3 (some .int) :: TT) B.pre
  have ht := fun (w : Cond) (h : w ∈ TT) => hts w (List.mem_cons_of_mem _ h)
  have hown : s.vm.findClass RX11 = some m.cls := findClass_of_methodNamed B.named
  have hlocks := B.notSynchronized
  subst hsz
  have hD := hD0.self (sz := s.heap.size)
  generalize hAe : va_A ([(dp, .inr (11, .ref lg :: .ref nw :: dv)), (lg, .inr (2, [lfi, lst, ltr, llk])), (nw, .inr (1, .int 0 :: n1 :: .ref tg :: nv)), (tg, .inr (8, [tgc, .int 0]))]) s.heap.size = A at hD ⊢
  have hA : ∀ q : Nat, s.heap.size ≤ q → A q := fun q h => by rw [← hAe]; exact Or.inr h
  have hS : va_S A s.heap s.heap [] := va_S.rf
  have hP : va_P G.1 vwCl ([(dp, .inr (11, .ref lg :: .ref nw :: dv)), (lg, .inr (2, [lfi, lst, ltr, llk])), (nw, .inr (1, .int 0 :: n1 :: .ref tg :: nv)), (tg, .inr (8, [tgc, .int 0]))]) s.heap := hP
  have hl := lv_entry ([.ref dp, .int x1]) (n := 3) (Nat.le_of_ble_eq_true rfl)
  rw [lg_entry_eq]
  generalize (lg_sl ([.ref dp, .int x1]) ++ List.replicate (3 - (lg_sl ([.ref dp, .int x1])).length) Slot.unset).toArray = ls at hl ⊢
  have hl : lv_has ls 3 [(0, .ref dp), (1, .int x1)] := hl
  refine lv_aload_n hx hb dX11_lose_0 rfl (lv_at hl 0 rfl) ?_
  refine va_get (D := G.1) (ci := 11) (v := .ref nw) (C := RX11) (T := TX11) (N := 14) hx hb ht inlX11 hown hK.1 hP 0 rfl rfl 1 (by decide) (ht (Cond.fieldLink RX11 19 "PloughDepot" "now" "LPloughDepot$Books;") mw_1_19) (fun _ h9 => h9) rfl dX11_lose_1 ?_
  refine va_get (D := G.1) (ci := 1) (v := .ref tg) (C := RX1) (T := TX1) (N := 8) hx hb ht inlX1 hown hK.1 hP 2 rfl rfl 2 (by decide) (ht (Cond.fieldLink RX11 144 "PloughDepot$Books" "gauges" "LPloughDepot$Table;") mw_19_21) (fun _ h9 => h9) rfl dX11_lose_4 ?_
  refine lv_iload_n hx hb dX11_lose_7 rfl (lv_at hl 1 rfl) ?_
  have hPc := hP.sub (ws' := [(tg, .inr (8, [tgc, .int 0]))]) [3] rfl
  have hDc := hD.sub (ws' := [(tg, .inr (8, [tgc, .int 0]))]) [3] (by decide) rfl
  have hFc := va_free (wc := [(tg, .inr (8, [tgc, .int 0]))]) hD hS hA [3] rfl
  refine va_calli (va_runV (As := [.int x1]) (rest := []) ⟨hx, hb, hml, hown, hts⟩ (k_has l G _ tg x1 tgc ) (cwV 1 hts (gd_V mw_13_22 mw_13_23 mw_14_0 mw_3_13 mw_14_1) rfl rfl rfl ⟨rfl, yk_X8_has⟩ ⟨Nat.le_of_ble_eq_true rfl, Nat.le_of_ble_eq_true rfl⟩) (c0_preV (q0 := 0) (ci := 8) (q := (RX8, TX8, 2)) hPc hK hDc rfl rfl) rfl rfl hl.1 rfl (lv_room (Nat.le_of_ble_eq_true rfl)) dX11_lose_8 ⟨Nat.le_of_ble_eq_true rfl, Nat.le_of_ble_eq_true rfl⟩) hS (fun q _ h => hFc q h) hFc (fun r_1 u t H1 locs ht1 hvm hw hB hz1 hk1 hS => ?_)
  try dsimp only at hw hB
  have hr1 := hw
  obtain rfl := hr1.symm
  obtain ⟨hP1, hD1⟩ := hB
  rw [ht1] at hP1
  obtain ⟨hP, hD⟩ := va_join (wr := [(dp, .inr (11, .ref lg :: .ref nw :: dv)), (lg, .inr (2, [lfi, lst, ltr, llk])), (nw, .inr (1, .int 0 :: n1 :: .ref tg :: nv))]) (w1 := [(tg, .inr (8, [tgc, .int 0]))]) hP hD [3] [0, 1, 2] rfl rfl (by decide) (by decide) hk1 hFc hP1 hD1
  generalize H1 = H at hP hS ⊢
  have hP : va_P G.1 vwCl ([(dp, .inr (11, .ref lg :: .ref nw :: dv)), (lg, .inr (2, [lfi, lst, ltr, llk])), (nw, .inr (1, .int 0 :: n1 :: .ref tg :: nv)), (tg, .inr (8, [tgc, .int 0]))]) H := hP
  have hD : va_D A ([(dp, .inr (11, .ref lg :: .ref nw :: dv)), (lg, .inr (2, [lfi, lst, ltr, llk])), (nw, .inr (1, .int 0 :: n1 :: .ref tg :: nv)), (tg, .inr (8, [tgc, .int 0]))]) := hD
  refine lv_if_ne (tgt := 21) hx hb dX11_lose_11 (by decide) (fun c_2 => ?_) (fun c_2 => ?_)
  · exact absurd c_2 (by decide)
  · refine lv_aload_n hx hb dX11_lose_14 rfl (lv_at hl 0 rfl) ?_
    refine lv_bipush (v := (-2)) hx hb dX11_lose_15 (by decide) ?_
    have hPc := hP.sub (ws' := [(dp, .inr (11, .ref lg :: .ref nw :: dv)), (lg, .inr (2, [lfi, lst, ltr, llk]))]) [0, 1] rfl
    have hDc := hD.sub (ws' := [(dp, .inr (11, .ref lg :: .ref nw :: dv)), (lg, .inr (2, [lfi, lst, ltr, llk]))]) [0, 1] (by decide) rfl
    have hFc := va_free (wc := [(dp, .inr (11, .ref lg :: .ref nw :: dv)), (lg, .inr (2, [lfi, lst, ltr, llk]))]) hD hS hA [0, 1] rfl
    refine va_calli (va_runV (As := [.int (-2)]) (rest := []) ⟨hx, hb, hml, hown, hts⟩ (k_refuse_m2 l G _ dp lg (.ref nw :: dv) lfi lst ltr llk ) (cwV 1 hts (gd_V mw_7_22 mw_7_23 mw_8_0 mw_1_2 mw_8_1) rfl rfl rfl ⟨rfl, yk_X11_refuse⟩ ⟨Nat.le_of_ble_eq_true rfl, Nat.le_of_ble_eq_true rfl⟩) (c0_preV (q0 := 0) (ci := 11) (q := (RX11, TX11, 14)) hPc hK hDc rfl rfl) rfl rfl hl.1 rfl (lv_room (Nat.le_of_ble_eq_true rfl)) dX11_lose_17 ⟨Nat.le_of_ble_eq_true rfl, Nat.le_of_ble_eq_true rfl⟩) hS (fun q _ h => hFc q h) hFc (fun r_3 u t H1 locs ht1 hvm hw hB hz1 hk1 hS => ?_)
    try dsimp only at hw hB
    have hr3 := hw
    obtain rfl := hr3.symm
    obtain ⟨hP1, hD1⟩ := hB
    rw [ht1] at hP1
    obtain ⟨hP, hD⟩ := va_join (wr := [(nw, .inr (1, .int 0 :: n1 :: .ref tg :: nv)), (tg, .inr (8, [tgc, .int 0]))]) (w1 := [(dp, .inr (11, .ref lg :: .ref nw :: dv)), (lg, .inr (2, [lfi, .int (-2), ltr, llk]))]) hP hD [0, 1] [2, 3] rfl rfl (by decide) (by decide) hk1 hFc hP1 hD1
    generalize H1 = H at hP hS ⊢
    have hP : va_P G.1 vwCl ([(nw, .inr (1, .int 0 :: n1 :: .ref tg :: nv)), (tg, .inr (8, [tgc, .int 0])), (dp, .inr (11, .ref lg :: .ref nw :: dv)), (lg, .inr (2, [lfi, .int (-2), ltr, llk]))]) H := hP
    have hD : va_D A ([(nw, .inr (1, .int 0 :: n1 :: .ref tg :: nv)), (tg, .inr (8, [tgc, .int 0])), (dp, .inr (11, .ref lg :: .ref nw :: dv)), (lg, .inr (2, [lfi, .int (-2), ltr, llk]))]) := hD
    exact W.iret (v := (-2)) hx hb hr (fun t ht hW => ⟨⟨(-2), (), rfl, rfl, trivial⟩, hS.F ht⟩) hS.2.2 dX11_lose_20

set_option maxHeartbeats 4000000 in
set_option maxRecDepth 100000 in
theorem k_reading (l : Launch) (G : GG) (sz : Nat) (dp : Nat) (x1 : Int32) (x2 : Int32) (x3 : Int32) (lg : Nat) (nw : Nat) (dv : List Value) (lfi : Value) (lst : Value) (ltr : Value) (llk : Value) (n1 : Value) (tg : Nat) (nv : List Value) (tgc : Value)  : Met l yX11_reading (.code yX11_reading cX11_reading 4 (some .int) :: TT) ({ frames := 3, cells := 0, slots := 0, locals := 300 } : Room) (c0_P G [.ref dp, .int x1, .int x2, .int x3] sz ([(dp, .inr (11, .ref lg :: .ref nw :: dv)), (lg, .inr (2, [lfi, lst, ltr, llk])), (nw, .inr (1, .int 0 :: n1 :: .ref tg :: nv)), (tg, .inr (8, [tgc, .int 0]))])) (va_Qi (S := Unit) (fun (r : Int32) (u : Unit) => r = (-2)) (fun (u : Unit) (t : State) => True) (va_A ([(dp, .inr (11, .ref lg :: .ref nw :: dv)), (lg, .inr (2, [lfi, lst, ltr, llk])), (nw, .inr (1, .int 0 :: n1 :: .ref tg :: nv)), (tg, .inr (8, [tgc, .int 0]))]) sz)) 0 0 (va_A ([(dp, .inr (11, .ref lg :: .ref nw :: dv)), (lg, .inr (2, [lfi, lst, ltr, llk])), (nw, .inr (1, .int 0 :: n1 :: .ref tg :: nv)), (tg, .inr (8, [tgc, .int 0]))]) sz) := by
  refine Met.ofW (cc := cX11_reading) (maxL := 4) (ret := (some .int)) (by decide) rfl ?_
  intro p e s m args below meth c s₁ B hml hv
  obtain ⟨rfl, hsz, hP, hK, hD0⟩ := hv
  have hx := B.exec
  have hb := B.bytes
  have hr := B.returns
  have hts := atoms_spec (ws := .code yX11_reading cX11_reading 4 (some .int) :: TT) B.pre
  have ht := fun (w : Cond) (h : w ∈ TT) => hts w (List.mem_cons_of_mem _ h)
  have hown : s.vm.findClass RX11 = some m.cls := findClass_of_methodNamed B.named
  have hlocks := B.notSynchronized
  subst hsz
  have hD := hD0.self (sz := s.heap.size)
  generalize hAe : va_A ([(dp, .inr (11, .ref lg :: .ref nw :: dv)), (lg, .inr (2, [lfi, lst, ltr, llk])), (nw, .inr (1, .int 0 :: n1 :: .ref tg :: nv)), (tg, .inr (8, [tgc, .int 0]))]) s.heap.size = A at hD ⊢
  have hA : ∀ q : Nat, s.heap.size ≤ q → A q := fun q h => by rw [← hAe]; exact Or.inr h
  have hS : va_S A s.heap s.heap [] := va_S.rf
  have hP : va_P G.1 vwCl ([(dp, .inr (11, .ref lg :: .ref nw :: dv)), (lg, .inr (2, [lfi, lst, ltr, llk])), (nw, .inr (1, .int 0 :: n1 :: .ref tg :: nv)), (tg, .inr (8, [tgc, .int 0]))]) s.heap := hP
  have hl := lv_entry ([.ref dp, .int x1, .int x2, .int x3]) (n := 4) (Nat.le_of_ble_eq_true rfl)
  rw [lg_entry_eq]
  generalize (lg_sl ([.ref dp, .int x1, .int x2, .int x3]) ++ List.replicate (4 - (lg_sl ([.ref dp, .int x1, .int x2, .int x3])).length) Slot.unset).toArray = ls at hl ⊢
  have hl : lv_has ls 4 [(0, .ref dp), (1, .int x1), (2, .int x2), (3, .int x3)] := hl
  refine lv_aload_n hx hb dX11_reading_0 rfl (lv_at hl 0 rfl) ?_
  refine va_get (D := G.1) (ci := 11) (v := .ref nw) (C := RX11) (T := TX11) (N := 14) hx hb ht inlX11 hown hK.1 hP 0 rfl rfl 1 (by decide) (ht (Cond.fieldLink RX11 19 "PloughDepot" "now" "LPloughDepot$Books;") mw_1_19) (fun _ h9 => h9) rfl dX11_reading_1 ?_
  refine va_get (D := G.1) (ci := 1) (v := .ref tg) (C := RX1) (T := TX1) (N := 8) hx hb ht inlX1 hown hK.1 hP 2 rfl rfl 2 (by decide) (ht (Cond.fieldLink RX11 144 "PloughDepot$Books" "gauges" "LPloughDepot$Table;") mw_19_21) (fun _ h9 => h9) rfl dX11_reading_4 ?_
  refine lv_iload_n hx hb dX11_reading_7 rfl (lv_at hl 1 rfl) ?_
  have hPc := hP.sub (ws' := [(tg, .inr (8, [tgc, .int 0]))]) [3] rfl
  have hDc := hD.sub (ws' := [(tg, .inr (8, [tgc, .int 0]))]) [3] (by decide) rfl
  have hFc := va_free (wc := [(tg, .inr (8, [tgc, .int 0]))]) hD hS hA [3] rfl
  refine va_calli (va_runV (As := [.int x1]) (rest := []) ⟨hx, hb, hml, hown, hts⟩ (k_has l G _ tg x1 tgc ) (cwV 1 hts (gd_V mw_13_22 mw_13_23 mw_14_0 mw_3_13 mw_14_1) rfl rfl rfl ⟨rfl, yk_X8_has⟩ ⟨Nat.le_of_ble_eq_true rfl, Nat.le_of_ble_eq_true rfl⟩) (c0_preV (q0 := 0) (ci := 8) (q := (RX8, TX8, 2)) hPc hK hDc rfl rfl) rfl rfl hl.1 rfl (lv_room (Nat.le_of_ble_eq_true rfl)) dX11_reading_8 ⟨Nat.le_of_ble_eq_true rfl, Nat.le_of_ble_eq_true rfl⟩) hS (fun q _ h => hFc q h) hFc (fun r_1 u t H1 locs ht1 hvm hw hB hz1 hk1 hS => ?_)
  try dsimp only at hw hB
  have hr1 := hw
  obtain rfl := hr1.symm
  obtain ⟨hP1, hD1⟩ := hB
  rw [ht1] at hP1
  obtain ⟨hP, hD⟩ := va_join (wr := [(dp, .inr (11, .ref lg :: .ref nw :: dv)), (lg, .inr (2, [lfi, lst, ltr, llk])), (nw, .inr (1, .int 0 :: n1 :: .ref tg :: nv))]) (w1 := [(tg, .inr (8, [tgc, .int 0]))]) hP hD [3] [0, 1, 2] rfl rfl (by decide) (by decide) hk1 hFc hP1 hD1
  generalize H1 = H at hP hS ⊢
  have hP : va_P G.1 vwCl ([(dp, .inr (11, .ref lg :: .ref nw :: dv)), (lg, .inr (2, [lfi, lst, ltr, llk])), (nw, .inr (1, .int 0 :: n1 :: .ref tg :: nv)), (tg, .inr (8, [tgc, .int 0]))]) H := hP
  have hD : va_D A ([(dp, .inr (11, .ref lg :: .ref nw :: dv)), (lg, .inr (2, [lfi, lst, ltr, llk])), (nw, .inr (1, .int 0 :: n1 :: .ref tg :: nv)), (tg, .inr (8, [tgc, .int 0]))]) := hD
  refine lv_if_ne (tgt := 21) hx hb dX11_reading_11 (by decide) (fun c_2 => ?_) (fun c_2 => ?_)
  · exact absurd c_2 (by decide)
  · refine lv_aload_n hx hb dX11_reading_14 rfl (lv_at hl 0 rfl) ?_
    refine lv_bipush (v := (-2)) hx hb dX11_reading_15 (by decide) ?_
    have hPc := hP.sub (ws' := [(dp, .inr (11, .ref lg :: .ref nw :: dv)), (lg, .inr (2, [lfi, lst, ltr, llk]))]) [0, 1] rfl
    have hDc := hD.sub (ws' := [(dp, .inr (11, .ref lg :: .ref nw :: dv)), (lg, .inr (2, [lfi, lst, ltr, llk]))]) [0, 1] (by decide) rfl
    have hFc := va_free (wc := [(dp, .inr (11, .ref lg :: .ref nw :: dv)), (lg, .inr (2, [lfi, lst, ltr, llk]))]) hD hS hA [0, 1] rfl
    refine va_calli (va_runV (As := [.int (-2)]) (rest := []) ⟨hx, hb, hml, hown, hts⟩ (k_refuse_m2 l G _ dp lg (.ref nw :: dv) lfi lst ltr llk ) (cwV 1 hts (gd_V mw_7_22 mw_7_23 mw_8_0 mw_1_2 mw_8_1) rfl rfl rfl ⟨rfl, yk_X11_refuse⟩ ⟨Nat.le_of_ble_eq_true rfl, Nat.le_of_ble_eq_true rfl⟩) (c0_preV (q0 := 0) (ci := 11) (q := (RX11, TX11, 14)) hPc hK hDc rfl rfl) rfl rfl hl.1 rfl (lv_room (Nat.le_of_ble_eq_true rfl)) dX11_reading_17 ⟨Nat.le_of_ble_eq_true rfl, Nat.le_of_ble_eq_true rfl⟩) hS (fun q _ h => hFc q h) hFc (fun r_3 u t H1 locs ht1 hvm hw hB hz1 hk1 hS => ?_)
    try dsimp only at hw hB
    have hr3 := hw
    obtain rfl := hr3.symm
    obtain ⟨hP1, hD1⟩ := hB
    rw [ht1] at hP1
    obtain ⟨hP, hD⟩ := va_join (wr := [(nw, .inr (1, .int 0 :: n1 :: .ref tg :: nv)), (tg, .inr (8, [tgc, .int 0]))]) (w1 := [(dp, .inr (11, .ref lg :: .ref nw :: dv)), (lg, .inr (2, [lfi, .int (-2), ltr, llk]))]) hP hD [0, 1] [2, 3] rfl rfl (by decide) (by decide) hk1 hFc hP1 hD1
    generalize H1 = H at hP hS ⊢
    have hP : va_P G.1 vwCl ([(nw, .inr (1, .int 0 :: n1 :: .ref tg :: nv)), (tg, .inr (8, [tgc, .int 0])), (dp, .inr (11, .ref lg :: .ref nw :: dv)), (lg, .inr (2, [lfi, .int (-2), ltr, llk]))]) H := hP
    have hD : va_D A ([(nw, .inr (1, .int 0 :: n1 :: .ref tg :: nv)), (tg, .inr (8, [tgc, .int 0])), (dp, .inr (11, .ref lg :: .ref nw :: dv)), (lg, .inr (2, [lfi, .int (-2), ltr, llk]))]) := hD
    exact W.iret (v := (-2)) hx hb hr (fun t ht hW => ⟨⟨(-2), (), rfl, rfl, trivial⟩, hS.F ht⟩) hS.2.2 dX11_reading_20

set_option maxHeartbeats 4000000 in
set_option maxRecDepth 100000 in
theorem k_none (l : Launch) (G : GG) (sz : Nat) (dp : Nat) (x1 : Int32) (x2 : Int32) (x3 : Int32) (lg : Nat) (nw : Nat) (dv : List Value) (lfi : Value) (lst : Value) (ltr : Value) (llk : Value) (n1 : Value) (tg : Nat) (nv : List Value) (tgc : Value)  : Met l yX11_none (.code yX11_none cX11_none 4 (some .int) :: TT) ({ frames := 3, cells := 0, slots := 0, locals := 300 } : Room) (c0_P G [.ref dp, .int x1, .int x2, .int x3] sz ([(dp, .inr (11, .ref lg :: .ref nw :: dv)), (lg, .inr (2, [lfi, lst, ltr, llk])), (nw, .inr (1, .int 0 :: n1 :: .ref tg :: nv)), (tg, .inr (8, [tgc, .int 0]))])) (va_Qi (S := Unit) (fun (r : Int32) (u : Unit) => r = (-2)) (fun (u : Unit) (t : State) => True) (va_A ([(dp, .inr (11, .ref lg :: .ref nw :: dv)), (lg, .inr (2, [lfi, lst, ltr, llk])), (nw, .inr (1, .int 0 :: n1 :: .ref tg :: nv)), (tg, .inr (8, [tgc, .int 0]))]) sz)) 0 0 (va_A ([(dp, .inr (11, .ref lg :: .ref nw :: dv)), (lg, .inr (2, [lfi, lst, ltr, llk])), (nw, .inr (1, .int 0 :: n1 :: .ref tg :: nv)), (tg, .inr (8, [tgc, .int 0]))]) sz) := by
  refine Met.ofW (cc := cX11_none) (maxL := 4) (ret := (some .int)) (by decide) rfl ?_
  intro p e s m args below meth c s₁ B hml hv
  obtain ⟨rfl, hsz, hP, hK, hD0⟩ := hv
  have hx := B.exec
  have hb := B.bytes
  have hr := B.returns
  have hts := atoms_spec (ws := .code yX11_none cX11_none 4 (some .int) :: TT) B.pre
  have ht := fun (w : Cond) (h : w ∈ TT) => hts w (List.mem_cons_of_mem _ h)
  have hown : s.vm.findClass RX11 = some m.cls := findClass_of_methodNamed B.named
  have hlocks := B.notSynchronized
  subst hsz
  have hD := hD0.self (sz := s.heap.size)
  generalize hAe : va_A ([(dp, .inr (11, .ref lg :: .ref nw :: dv)), (lg, .inr (2, [lfi, lst, ltr, llk])), (nw, .inr (1, .int 0 :: n1 :: .ref tg :: nv)), (tg, .inr (8, [tgc, .int 0]))]) s.heap.size = A at hD ⊢
  have hA : ∀ q : Nat, s.heap.size ≤ q → A q := fun q h => by rw [← hAe]; exact Or.inr h
  have hS : va_S A s.heap s.heap [] := va_S.rf
  have hP : va_P G.1 vwCl ([(dp, .inr (11, .ref lg :: .ref nw :: dv)), (lg, .inr (2, [lfi, lst, ltr, llk])), (nw, .inr (1, .int 0 :: n1 :: .ref tg :: nv)), (tg, .inr (8, [tgc, .int 0]))]) s.heap := hP
  have hl := lv_entry ([.ref dp, .int x1, .int x2, .int x3]) (n := 4) (Nat.le_of_ble_eq_true rfl)
  rw [lg_entry_eq]
  generalize (lg_sl ([.ref dp, .int x1, .int x2, .int x3]) ++ List.replicate (4 - (lg_sl ([.ref dp, .int x1, .int x2, .int x3])).length) Slot.unset).toArray = ls at hl ⊢
  have hl : lv_has ls 4 [(0, .ref dp), (1, .int x1), (2, .int x2), (3, .int x3)] := hl
  refine lv_aload_n hx hb dX11_none_0 rfl (lv_at hl 0 rfl) ?_
  refine va_get (D := G.1) (ci := 11) (v := .ref nw) (C := RX11) (T := TX11) (N := 14) hx hb ht inlX11 hown hK.1 hP 0 rfl rfl 1 (by decide) (ht (Cond.fieldLink RX11 19 "PloughDepot" "now" "LPloughDepot$Books;") mw_1_19) (fun _ h9 => h9) rfl dX11_none_1 ?_
  refine va_get (D := G.1) (ci := 1) (v := .ref tg) (C := RX1) (T := TX1) (N := 8) hx hb ht inlX1 hown hK.1 hP 2 rfl rfl 2 (by decide) (ht (Cond.fieldLink RX11 144 "PloughDepot$Books" "gauges" "LPloughDepot$Table;") mw_19_21) (fun _ h9 => h9) rfl dX11_none_4 ?_
  refine lv_iload_n hx hb dX11_none_7 rfl (lv_at hl 1 rfl) ?_
  have hPc := hP.sub (ws' := [(tg, .inr (8, [tgc, .int 0]))]) [3] rfl
  have hDc := hD.sub (ws' := [(tg, .inr (8, [tgc, .int 0]))]) [3] (by decide) rfl
  have hFc := va_free (wc := [(tg, .inr (8, [tgc, .int 0]))]) hD hS hA [3] rfl
  refine va_calli (va_runV (As := [.int x1]) (rest := []) ⟨hx, hb, hml, hown, hts⟩ (k_has l G _ tg x1 tgc ) (cwV 1 hts (gd_V mw_13_22 mw_13_23 mw_14_0 mw_3_13 mw_14_1) rfl rfl rfl ⟨rfl, yk_X8_has⟩ ⟨Nat.le_of_ble_eq_true rfl, Nat.le_of_ble_eq_true rfl⟩) (c0_preV (q0 := 0) (ci := 8) (q := (RX8, TX8, 2)) hPc hK hDc rfl rfl) rfl rfl hl.1 rfl (lv_room (Nat.le_of_ble_eq_true rfl)) dX11_none_8 ⟨Nat.le_of_ble_eq_true rfl, Nat.le_of_ble_eq_true rfl⟩) hS (fun q _ h => hFc q h) hFc (fun r_1 u t H1 locs ht1 hvm hw hB hz1 hk1 hS => ?_)
  try dsimp only at hw hB
  have hr1 := hw
  obtain rfl := hr1.symm
  obtain ⟨hP1, hD1⟩ := hB
  rw [ht1] at hP1
  obtain ⟨hP, hD⟩ := va_join (wr := [(dp, .inr (11, .ref lg :: .ref nw :: dv)), (lg, .inr (2, [lfi, lst, ltr, llk])), (nw, .inr (1, .int 0 :: n1 :: .ref tg :: nv))]) (w1 := [(tg, .inr (8, [tgc, .int 0]))]) hP hD [3] [0, 1, 2] rfl rfl (by decide) (by decide) hk1 hFc hP1 hD1
  generalize H1 = H at hP hS ⊢
  have hP : va_P G.1 vwCl ([(dp, .inr (11, .ref lg :: .ref nw :: dv)), (lg, .inr (2, [lfi, lst, ltr, llk])), (nw, .inr (1, .int 0 :: n1 :: .ref tg :: nv)), (tg, .inr (8, [tgc, .int 0]))]) H := hP
  have hD : va_D A ([(dp, .inr (11, .ref lg :: .ref nw :: dv)), (lg, .inr (2, [lfi, lst, ltr, llk])), (nw, .inr (1, .int 0 :: n1 :: .ref tg :: nv)), (tg, .inr (8, [tgc, .int 0]))]) := hD
  refine lv_if_eq (tgt := 23) hx hb dX11_none_11 (by decide) (fun c_2 => ?_) (fun c_2 => ?_)
  · refine lv_aload_n hx hb dX11_none_23 rfl (lv_at hl 0 rfl) ?_
    refine lv_bipush (v := (-2)) hx hb dX11_none_24 (by decide) ?_
    have hPc := hP.sub (ws' := [(dp, .inr (11, .ref lg :: .ref nw :: dv)), (lg, .inr (2, [lfi, lst, ltr, llk]))]) [0, 1] rfl
    have hDc := hD.sub (ws' := [(dp, .inr (11, .ref lg :: .ref nw :: dv)), (lg, .inr (2, [lfi, lst, ltr, llk]))]) [0, 1] (by decide) rfl
    have hFc := va_free (wc := [(dp, .inr (11, .ref lg :: .ref nw :: dv)), (lg, .inr (2, [lfi, lst, ltr, llk]))]) hD hS hA [0, 1] rfl
    refine va_calli (va_runV (As := [.int (-2)]) (rest := []) ⟨hx, hb, hml, hown, hts⟩ (k_refuse_m2 l G _ dp lg (.ref nw :: dv) lfi lst ltr llk ) (cwV 1 hts (gd_V mw_7_22 mw_7_23 mw_8_0 mw_1_2 mw_8_1) rfl rfl rfl ⟨rfl, yk_X11_refuse⟩ ⟨Nat.le_of_ble_eq_true rfl, Nat.le_of_ble_eq_true rfl⟩) (c0_preV (q0 := 0) (ci := 11) (q := (RX11, TX11, 14)) hPc hK hDc rfl rfl) rfl rfl hl.1 rfl (lv_room (Nat.le_of_ble_eq_true rfl)) dX11_none_26 ⟨Nat.le_of_ble_eq_true rfl, Nat.le_of_ble_eq_true rfl⟩) hS (fun q _ h => hFc q h) hFc (fun r_3 u t H1 locs ht1 hvm hw hB hz1 hk1 hS => ?_)
    try dsimp only at hw hB
    have hr3 := hw
    obtain rfl := hr3.symm
    obtain ⟨hP1, hD1⟩ := hB
    rw [ht1] at hP1
    obtain ⟨hP, hD⟩ := va_join (wr := [(nw, .inr (1, .int 0 :: n1 :: .ref tg :: nv)), (tg, .inr (8, [tgc, .int 0]))]) (w1 := [(dp, .inr (11, .ref lg :: .ref nw :: dv)), (lg, .inr (2, [lfi, .int (-2), ltr, llk]))]) hP hD [0, 1] [2, 3] rfl rfl (by decide) (by decide) hk1 hFc hP1 hD1
    generalize H1 = H at hP hS ⊢
    have hP : va_P G.1 vwCl ([(nw, .inr (1, .int 0 :: n1 :: .ref tg :: nv)), (tg, .inr (8, [tgc, .int 0])), (dp, .inr (11, .ref lg :: .ref nw :: dv)), (lg, .inr (2, [lfi, .int (-2), ltr, llk]))]) H := hP
    have hD : va_D A ([(nw, .inr (1, .int 0 :: n1 :: .ref tg :: nv)), (tg, .inr (8, [tgc, .int 0])), (dp, .inr (11, .ref lg :: .ref nw :: dv)), (lg, .inr (2, [lfi, .int (-2), ltr, llk]))]) := hD
    exact W.iret (v := (-2)) hx hb hr (fun t ht hW => ⟨⟨(-2), (), rfl, rfl, trivial⟩, hS.F ht⟩) hS.2.2 dX11_none_29
  · exact absurd c_2 (by decide)

set_option maxHeartbeats 4000000 in
set_option maxRecDepth 100000 in
theorem k_read (l : Launch) (G : GG) (sz : Nat) (dp : Nat) (x1 : Int32) (x2 : Int32) (lg : Nat) (nw : Nat) (dv : List Value) (lfi : Value) (lst : Value) (ltr : Value) (llk : Value) (n1 : Value) (tg : Nat) (nv : List Value) (tgc : Value)  : Met l yX11_read (.code yX11_read cX11_read 4 (some .int) :: TT) ({ frames := 3, cells := 0, slots := 0, locals := 300 } : Room) (c0_P G [.ref dp, .int x1, .int x2] sz ([(dp, .inr (11, .ref lg :: .ref nw :: dv)), (lg, .inr (2, [lfi, lst, ltr, llk])), (nw, .inr (1, .int 0 :: n1 :: .ref tg :: nv)), (tg, .inr (8, [tgc, .int 0]))])) (va_Qi (S := Unit) (fun (r : Int32) (u : Unit) => r = (-2)) (fun (u : Unit) (t : State) => True) (va_A ([(dp, .inr (11, .ref lg :: .ref nw :: dv)), (lg, .inr (2, [lfi, lst, ltr, llk])), (nw, .inr (1, .int 0 :: n1 :: .ref tg :: nv)), (tg, .inr (8, [tgc, .int 0]))]) sz)) 0 0 (va_A ([(dp, .inr (11, .ref lg :: .ref nw :: dv)), (lg, .inr (2, [lfi, lst, ltr, llk])), (nw, .inr (1, .int 0 :: n1 :: .ref tg :: nv)), (tg, .inr (8, [tgc, .int 0]))]) sz) := by
  refine Met.ofW (cc := cX11_read) (maxL := 4) (ret := (some .int)) (by decide) rfl ?_
  intro p e s m args below meth c s₁ B hml hv
  obtain ⟨rfl, hsz, hP, hK, hD0⟩ := hv
  have hx := B.exec
  have hb := B.bytes
  have hr := B.returns
  have hts := atoms_spec (ws := .code yX11_read cX11_read 4 (some .int) :: TT) B.pre
  have ht := fun (w : Cond) (h : w ∈ TT) => hts w (List.mem_cons_of_mem _ h)
  have hown : s.vm.findClass RX11 = some m.cls := findClass_of_methodNamed B.named
  have hlocks := B.notSynchronized
  subst hsz
  have hD := hD0.self (sz := s.heap.size)
  generalize hAe : va_A ([(dp, .inr (11, .ref lg :: .ref nw :: dv)), (lg, .inr (2, [lfi, lst, ltr, llk])), (nw, .inr (1, .int 0 :: n1 :: .ref tg :: nv)), (tg, .inr (8, [tgc, .int 0]))]) s.heap.size = A at hD ⊢
  have hA : ∀ q : Nat, s.heap.size ≤ q → A q := fun q h => by rw [← hAe]; exact Or.inr h
  have hS : va_S A s.heap s.heap [] := va_S.rf
  have hP : va_P G.1 vwCl ([(dp, .inr (11, .ref lg :: .ref nw :: dv)), (lg, .inr (2, [lfi, lst, ltr, llk])), (nw, .inr (1, .int 0 :: n1 :: .ref tg :: nv)), (tg, .inr (8, [tgc, .int 0]))]) s.heap := hP
  have hl := lv_entry ([.ref dp, .int x1, .int x2]) (n := 4) (Nat.le_of_ble_eq_true rfl)
  rw [lg_entry_eq]
  generalize (lg_sl ([.ref dp, .int x1, .int x2]) ++ List.replicate (4 - (lg_sl ([.ref dp, .int x1, .int x2])).length) Slot.unset).toArray = ls at hl ⊢
  have hl : lv_has ls 4 [(0, .ref dp), (1, .int x1), (2, .int x2)] := hl
  refine lv_aload_n hx hb dX11_read_0 rfl (lv_at hl 0 rfl) ?_
  refine va_get (D := G.1) (ci := 11) (v := .ref nw) (C := RX11) (T := TX11) (N := 14) hx hb ht inlX11 hown hK.1 hP 0 rfl rfl 1 (by decide) (ht (Cond.fieldLink RX11 19 "PloughDepot" "now" "LPloughDepot$Books;") mw_1_19) (fun _ h9 => h9) rfl dX11_read_1 ?_
  refine va_get (D := G.1) (ci := 1) (v := .ref tg) (C := RX1) (T := TX1) (N := 8) hx hb ht inlX1 hown hK.1 hP 2 rfl rfl 2 (by decide) (ht (Cond.fieldLink RX11 144 "PloughDepot$Books" "gauges" "LPloughDepot$Table;") mw_19_21) (fun _ h9 => h9) rfl dX11_read_4 ?_
  refine lv_iload_n hx hb dX11_read_7 rfl (lv_at hl 1 rfl) ?_
  have hPc := hP.sub (ws' := [(tg, .inr (8, [tgc, .int 0]))]) [3] rfl
  have hDc := hD.sub (ws' := [(tg, .inr (8, [tgc, .int 0]))]) [3] (by decide) rfl
  have hFc := va_free (wc := [(tg, .inr (8, [tgc, .int 0]))]) hD hS hA [3] rfl
  refine va_calli (va_runV (As := [.int x1]) (rest := []) ⟨hx, hb, hml, hown, hts⟩ (k_has l G _ tg x1 tgc ) (cwV 1 hts (gd_V mw_13_22 mw_13_23 mw_14_0 mw_3_13 mw_14_1) rfl rfl rfl ⟨rfl, yk_X8_has⟩ ⟨Nat.le_of_ble_eq_true rfl, Nat.le_of_ble_eq_true rfl⟩) (c0_preV (q0 := 0) (ci := 8) (q := (RX8, TX8, 2)) hPc hK hDc rfl rfl) rfl rfl hl.1 rfl (lv_room (Nat.le_of_ble_eq_true rfl)) dX11_read_8 ⟨Nat.le_of_ble_eq_true rfl, Nat.le_of_ble_eq_true rfl⟩) hS (fun q _ h => hFc q h) hFc (fun r_1 u t H1 locs ht1 hvm hw hB hz1 hk1 hS => ?_)
  try dsimp only at hw hB
  have hr1 := hw
  obtain rfl := hr1.symm
  obtain ⟨hP1, hD1⟩ := hB
  rw [ht1] at hP1
  obtain ⟨hP, hD⟩ := va_join (wr := [(dp, .inr (11, .ref lg :: .ref nw :: dv)), (lg, .inr (2, [lfi, lst, ltr, llk])), (nw, .inr (1, .int 0 :: n1 :: .ref tg :: nv))]) (w1 := [(tg, .inr (8, [tgc, .int 0]))]) hP hD [3] [0, 1, 2] rfl rfl (by decide) (by decide) hk1 hFc hP1 hD1
  generalize H1 = H at hP hS ⊢
  have hP : va_P G.1 vwCl ([(dp, .inr (11, .ref lg :: .ref nw :: dv)), (lg, .inr (2, [lfi, lst, ltr, llk])), (nw, .inr (1, .int 0 :: n1 :: .ref tg :: nv)), (tg, .inr (8, [tgc, .int 0]))]) H := hP
  have hD : va_D A ([(dp, .inr (11, .ref lg :: .ref nw :: dv)), (lg, .inr (2, [lfi, lst, ltr, llk])), (nw, .inr (1, .int 0 :: n1 :: .ref tg :: nv)), (tg, .inr (8, [tgc, .int 0]))]) := hD
  refine lv_if_ne (tgt := 21) hx hb dX11_read_11 (by decide) (fun c_2 => ?_) (fun c_2 => ?_)
  · exact absurd c_2 (by decide)
  · refine lv_aload_n hx hb dX11_read_14 rfl (lv_at hl 0 rfl) ?_
    refine lv_bipush (v := (-2)) hx hb dX11_read_15 (by decide) ?_
    have hPc := hP.sub (ws' := [(dp, .inr (11, .ref lg :: .ref nw :: dv)), (lg, .inr (2, [lfi, lst, ltr, llk]))]) [0, 1] rfl
    have hDc := hD.sub (ws' := [(dp, .inr (11, .ref lg :: .ref nw :: dv)), (lg, .inr (2, [lfi, lst, ltr, llk]))]) [0, 1] (by decide) rfl
    have hFc := va_free (wc := [(dp, .inr (11, .ref lg :: .ref nw :: dv)), (lg, .inr (2, [lfi, lst, ltr, llk]))]) hD hS hA [0, 1] rfl
    refine va_calli (va_runV (As := [.int (-2)]) (rest := []) ⟨hx, hb, hml, hown, hts⟩ (k_refuse_m2 l G _ dp lg (.ref nw :: dv) lfi lst ltr llk ) (cwV 1 hts (gd_V mw_7_22 mw_7_23 mw_8_0 mw_1_2 mw_8_1) rfl rfl rfl ⟨rfl, yk_X11_refuse⟩ ⟨Nat.le_of_ble_eq_true rfl, Nat.le_of_ble_eq_true rfl⟩) (c0_preV (q0 := 0) (ci := 11) (q := (RX11, TX11, 14)) hPc hK hDc rfl rfl) rfl rfl hl.1 rfl (lv_room (Nat.le_of_ble_eq_true rfl)) dX11_read_17 ⟨Nat.le_of_ble_eq_true rfl, Nat.le_of_ble_eq_true rfl⟩) hS (fun q _ h => hFc q h) hFc (fun r_3 u t H1 locs ht1 hvm hw hB hz1 hk1 hS => ?_)
    try dsimp only at hw hB
    have hr3 := hw
    obtain rfl := hr3.symm
    obtain ⟨hP1, hD1⟩ := hB
    rw [ht1] at hP1
    obtain ⟨hP, hD⟩ := va_join (wr := [(nw, .inr (1, .int 0 :: n1 :: .ref tg :: nv)), (tg, .inr (8, [tgc, .int 0]))]) (w1 := [(dp, .inr (11, .ref lg :: .ref nw :: dv)), (lg, .inr (2, [lfi, .int (-2), ltr, llk]))]) hP hD [0, 1] [2, 3] rfl rfl (by decide) (by decide) hk1 hFc hP1 hD1
    generalize H1 = H at hP hS ⊢
    have hP : va_P G.1 vwCl ([(nw, .inr (1, .int 0 :: n1 :: .ref tg :: nv)), (tg, .inr (8, [tgc, .int 0])), (dp, .inr (11, .ref lg :: .ref nw :: dv)), (lg, .inr (2, [lfi, .int (-2), ltr, llk]))]) H := hP
    have hD : va_D A ([(nw, .inr (1, .int 0 :: n1 :: .ref tg :: nv)), (tg, .inr (8, [tgc, .int 0])), (dp, .inr (11, .ref lg :: .ref nw :: dv)), (lg, .inr (2, [lfi, .int (-2), ltr, llk]))]) := hD
    exact W.iret (v := (-2)) hx hb hr (fun t ht hW => ⟨⟨(-2), (), rfl, rfl, trivial⟩, hS.F ht⟩) hS.2.2 dX11_read_20

set_option maxHeartbeats 4000000 in
set_option maxRecDepth 100000 in
theorem k_copy (l : Launch) (G : GG) (sz : Nat) (dp : Nat) (x1 : Int32) (x2 : Int32) (x3 : Int32) (x4 : Int32) (x5 : Int32) (lg : Nat) (nw : Nat) (dv : List Value) (lfi : Value) (lst : Value) (ltr : Value) (llk : Value) (n1 : Value) (tg : Nat) (nv : List Value) (tgc : Value)  : Met l yX11_copy (.code yX11_copy cX11_copy 7 (some .int) :: TT) ({ frames := 3, cells := 0, slots := 0, locals := 300 } : Room) (c0_P G [.ref dp, .int x1, .int x2, .int x3, .int x4, .int x5] sz ([(dp, .inr (11, .ref lg :: .ref nw :: dv)), (lg, .inr (2, [lfi, lst, ltr, llk])), (nw, .inr (1, .int 0 :: n1 :: .ref tg :: nv)), (tg, .inr (8, [tgc, .int 0]))])) (va_Qi (S := Unit) (fun (r : Int32) (u : Unit) => r = (-2)) (fun (u : Unit) (t : State) => True) (va_A ([(dp, .inr (11, .ref lg :: .ref nw :: dv)), (lg, .inr (2, [lfi, lst, ltr, llk])), (nw, .inr (1, .int 0 :: n1 :: .ref tg :: nv)), (tg, .inr (8, [tgc, .int 0]))]) sz)) 0 0 (va_A ([(dp, .inr (11, .ref lg :: .ref nw :: dv)), (lg, .inr (2, [lfi, lst, ltr, llk])), (nw, .inr (1, .int 0 :: n1 :: .ref tg :: nv)), (tg, .inr (8, [tgc, .int 0]))]) sz) := by
  refine Met.ofW (cc := cX11_copy) (maxL := 7) (ret := (some .int)) (by decide) rfl ?_
  intro p e s m args below meth c s₁ B hml hv
  obtain ⟨rfl, hsz, hP, hK, hD0⟩ := hv
  have hx := B.exec
  have hb := B.bytes
  have hr := B.returns
  have hts := atoms_spec (ws := .code yX11_copy cX11_copy 7 (some .int) :: TT) B.pre
  have ht := fun (w : Cond) (h : w ∈ TT) => hts w (List.mem_cons_of_mem _ h)
  have hown : s.vm.findClass RX11 = some m.cls := findClass_of_methodNamed B.named
  have hlocks := B.notSynchronized
  subst hsz
  have hD := hD0.self (sz := s.heap.size)
  generalize hAe : va_A ([(dp, .inr (11, .ref lg :: .ref nw :: dv)), (lg, .inr (2, [lfi, lst, ltr, llk])), (nw, .inr (1, .int 0 :: n1 :: .ref tg :: nv)), (tg, .inr (8, [tgc, .int 0]))]) s.heap.size = A at hD ⊢
  have hA : ∀ q : Nat, s.heap.size ≤ q → A q := fun q h => by rw [← hAe]; exact Or.inr h
  have hS : va_S A s.heap s.heap [] := va_S.rf
  have hP : va_P G.1 vwCl ([(dp, .inr (11, .ref lg :: .ref nw :: dv)), (lg, .inr (2, [lfi, lst, ltr, llk])), (nw, .inr (1, .int 0 :: n1 :: .ref tg :: nv)), (tg, .inr (8, [tgc, .int 0]))]) s.heap := hP
  have hl := lv_entry ([.ref dp, .int x1, .int x2, .int x3, .int x4, .int x5]) (n := 7) (Nat.le_of_ble_eq_true rfl)
  rw [lg_entry_eq]
  generalize (lg_sl ([.ref dp, .int x1, .int x2, .int x3, .int x4, .int x5]) ++ List.replicate (7 - (lg_sl ([.ref dp, .int x1, .int x2, .int x3, .int x4, .int x5])).length) Slot.unset).toArray = ls at hl ⊢
  have hl : lv_has ls 7 [(0, .ref dp), (1, .int x1), (2, .int x2), (3, .int x3), (4, .int x4), (5, .int x5)] := hl
  refine lv_aload_n hx hb dX11_copy_0 rfl (lv_at hl 0 rfl) ?_
  refine va_get (D := G.1) (ci := 11) (v := .ref nw) (C := RX11) (T := TX11) (N := 14) hx hb ht inlX11 hown hK.1 hP 0 rfl rfl 1 (by decide) (ht (Cond.fieldLink RX11 19 "PloughDepot" "now" "LPloughDepot$Books;") mw_1_19) (fun _ h9 => h9) rfl dX11_copy_1 ?_
  refine va_get (D := G.1) (ci := 1) (v := .ref tg) (C := RX1) (T := TX1) (N := 8) hx hb ht inlX1 hown hK.1 hP 2 rfl rfl 2 (by decide) (ht (Cond.fieldLink RX11 144 "PloughDepot$Books" "gauges" "LPloughDepot$Table;") mw_19_21) (fun _ h9 => h9) rfl dX11_copy_4 ?_
  refine lv_iload_n hx hb dX11_copy_7 rfl (lv_at hl 1 rfl) ?_
  have hPc := hP.sub (ws' := [(tg, .inr (8, [tgc, .int 0]))]) [3] rfl
  have hDc := hD.sub (ws' := [(tg, .inr (8, [tgc, .int 0]))]) [3] (by decide) rfl
  have hFc := va_free (wc := [(tg, .inr (8, [tgc, .int 0]))]) hD hS hA [3] rfl
  refine va_calli (va_runV (As := [.int x1]) (rest := []) ⟨hx, hb, hml, hown, hts⟩ (k_has l G _ tg x1 tgc ) (cwV 1 hts (gd_V mw_13_22 mw_13_23 mw_14_0 mw_3_13 mw_14_1) rfl rfl rfl ⟨rfl, yk_X8_has⟩ ⟨Nat.le_of_ble_eq_true rfl, Nat.le_of_ble_eq_true rfl⟩) (c0_preV (q0 := 0) (ci := 8) (q := (RX8, TX8, 2)) hPc hK hDc rfl rfl) rfl rfl hl.1 rfl (lv_room (Nat.le_of_ble_eq_true rfl)) dX11_copy_8 ⟨Nat.le_of_ble_eq_true rfl, Nat.le_of_ble_eq_true rfl⟩) hS (fun q _ h => hFc q h) hFc (fun r_1 u t H1 locs ht1 hvm hw hB hz1 hk1 hS => ?_)
  try dsimp only at hw hB
  have hr1 := hw
  obtain rfl := hr1.symm
  obtain ⟨hP1, hD1⟩ := hB
  rw [ht1] at hP1
  obtain ⟨hP, hD⟩ := va_join (wr := [(dp, .inr (11, .ref lg :: .ref nw :: dv)), (lg, .inr (2, [lfi, lst, ltr, llk])), (nw, .inr (1, .int 0 :: n1 :: .ref tg :: nv))]) (w1 := [(tg, .inr (8, [tgc, .int 0]))]) hP hD [3] [0, 1, 2] rfl rfl (by decide) (by decide) hk1 hFc hP1 hD1
  generalize H1 = H at hP hS ⊢
  have hP : va_P G.1 vwCl ([(dp, .inr (11, .ref lg :: .ref nw :: dv)), (lg, .inr (2, [lfi, lst, ltr, llk])), (nw, .inr (1, .int 0 :: n1 :: .ref tg :: nv)), (tg, .inr (8, [tgc, .int 0]))]) H := hP
  have hD : va_D A ([(dp, .inr (11, .ref lg :: .ref nw :: dv)), (lg, .inr (2, [lfi, lst, ltr, llk])), (nw, .inr (1, .int 0 :: n1 :: .ref tg :: nv)), (tg, .inr (8, [tgc, .int 0]))]) := hD
  refine lv_if_eq (tgt := 47) hx hb dX11_copy_11 (by decide) (fun c_2 => ?_) (fun c_2 => ?_)
  · refine lv_aload_n hx hb dX11_copy_47 rfl (lv_at hl 0 rfl) ?_
    refine lv_bipush (v := (-2)) hx hb dX11_copy_48 (by decide) ?_
    have hPc := hP.sub (ws' := [(dp, .inr (11, .ref lg :: .ref nw :: dv)), (lg, .inr (2, [lfi, lst, ltr, llk]))]) [0, 1] rfl
    have hDc := hD.sub (ws' := [(dp, .inr (11, .ref lg :: .ref nw :: dv)), (lg, .inr (2, [lfi, lst, ltr, llk]))]) [0, 1] (by decide) rfl
    have hFc := va_free (wc := [(dp, .inr (11, .ref lg :: .ref nw :: dv)), (lg, .inr (2, [lfi, lst, ltr, llk]))]) hD hS hA [0, 1] rfl
    refine va_calli (va_runV (As := [.int (-2)]) (rest := []) ⟨hx, hb, hml, hown, hts⟩ (k_refuse_m2 l G _ dp lg (.ref nw :: dv) lfi lst ltr llk ) (cwV 1 hts (gd_V mw_7_22 mw_7_23 mw_8_0 mw_1_2 mw_8_1) rfl rfl rfl ⟨rfl, yk_X11_refuse⟩ ⟨Nat.le_of_ble_eq_true rfl, Nat.le_of_ble_eq_true rfl⟩) (c0_preV (q0 := 0) (ci := 11) (q := (RX11, TX11, 14)) hPc hK hDc rfl rfl) rfl rfl hl.1 rfl (lv_room (Nat.le_of_ble_eq_true rfl)) dX11_copy_50 ⟨Nat.le_of_ble_eq_true rfl, Nat.le_of_ble_eq_true rfl⟩) hS (fun q _ h => hFc q h) hFc (fun r_3 u t H1 locs ht1 hvm hw hB hz1 hk1 hS => ?_)
    try dsimp only at hw hB
    have hr3 := hw
    obtain rfl := hr3.symm
    obtain ⟨hP1, hD1⟩ := hB
    rw [ht1] at hP1
    obtain ⟨hP, hD⟩ := va_join (wr := [(nw, .inr (1, .int 0 :: n1 :: .ref tg :: nv)), (tg, .inr (8, [tgc, .int 0]))]) (w1 := [(dp, .inr (11, .ref lg :: .ref nw :: dv)), (lg, .inr (2, [lfi, .int (-2), ltr, llk]))]) hP hD [0, 1] [2, 3] rfl rfl (by decide) (by decide) hk1 hFc hP1 hD1
    generalize H1 = H at hP hS ⊢
    have hP : va_P G.1 vwCl ([(nw, .inr (1, .int 0 :: n1 :: .ref tg :: nv)), (tg, .inr (8, [tgc, .int 0])), (dp, .inr (11, .ref lg :: .ref nw :: dv)), (lg, .inr (2, [lfi, .int (-2), ltr, llk]))]) H := hP
    have hD : va_D A ([(nw, .inr (1, .int 0 :: n1 :: .ref tg :: nv)), (tg, .inr (8, [tgc, .int 0])), (dp, .inr (11, .ref lg :: .ref nw :: dv)), (lg, .inr (2, [lfi, .int (-2), ltr, llk]))]) := hD
    exact W.iret (v := (-2)) hx hb hr (fun t ht hW => ⟨⟨(-2), (), rfl, rfl, trivial⟩, hS.F ht⟩) hS.2.2 dX11_copy_53
  · exact absurd c_2 (by decide)

set_option maxHeartbeats 4000000 in
set_option maxRecDepth 100000 in
theorem k_copies (l : Launch) (G : GG) (sz : Nat) (dp : Nat) (x1 : Int32) (x2 : Int32) (x3 : Int32) (lg : Nat) (nw : Nat) (dv : List Value) (lfi : Value) (lst : Value) (ltr : Value) (llk : Value) (n1 : Value) (tg : Nat) (nv : List Value) (tgc : Value)  : Met l yX11_copies (.code yX11_copies cX11_copies 7 (some .int) :: TT) ({ frames := 2, cells := 0, slots := 0, locals := 200 } : Room) (c0_P G [.ref dp, .int x1, .int x2, .int x3] sz ([(dp, .inr (11, .ref lg :: .ref nw :: dv)), (lg, .inr (2, [lfi, lst, ltr, llk])), (nw, .inr (1, .int 0 :: n1 :: .ref tg :: nv)), (tg, .inr (8, [tgc, .int 0]))])) (va_Qi (S := Unit) (fun (r : Int32) (u : Unit) => r = 0) (fun (u : Unit) (t : State) => True) (va_A ([(dp, .inr (11, .ref lg :: .ref nw :: dv)), (lg, .inr (2, [lfi, lst, ltr, llk])), (nw, .inr (1, .int 0 :: n1 :: .ref tg :: nv)), (tg, .inr (8, [tgc, .int 0]))]) sz)) 0 0 (va_A ([(dp, .inr (11, .ref lg :: .ref nw :: dv)), (lg, .inr (2, [lfi, lst, ltr, llk])), (nw, .inr (1, .int 0 :: n1 :: .ref tg :: nv)), (tg, .inr (8, [tgc, .int 0]))]) sz) := by
  refine Met.ofW (cc := cX11_copies) (maxL := 7) (ret := (some .int)) (by decide) rfl ?_
  intro p e s m args below meth c s₁ B hml hv
  obtain ⟨rfl, hsz, hP, hK, hD0⟩ := hv
  have hx := B.exec
  have hb := B.bytes
  have hr := B.returns
  have hts := atoms_spec (ws := .code yX11_copies cX11_copies 7 (some .int) :: TT) B.pre
  have ht := fun (w : Cond) (h : w ∈ TT) => hts w (List.mem_cons_of_mem _ h)
  have hown : s.vm.findClass RX11 = some m.cls := findClass_of_methodNamed B.named
  have hlocks := B.notSynchronized
  subst hsz
  have hD := hD0.self (sz := s.heap.size)
  generalize hAe : va_A ([(dp, .inr (11, .ref lg :: .ref nw :: dv)), (lg, .inr (2, [lfi, lst, ltr, llk])), (nw, .inr (1, .int 0 :: n1 :: .ref tg :: nv)), (tg, .inr (8, [tgc, .int 0]))]) s.heap.size = A at hD ⊢
  have hA : ∀ q : Nat, s.heap.size ≤ q → A q := fun q h => by rw [← hAe]; exact Or.inr h
  have hS : va_S A s.heap s.heap [] := va_S.rf
  have hP : va_P G.1 vwCl ([(dp, .inr (11, .ref lg :: .ref nw :: dv)), (lg, .inr (2, [lfi, lst, ltr, llk])), (nw, .inr (1, .int 0 :: n1 :: .ref tg :: nv)), (tg, .inr (8, [tgc, .int 0]))]) s.heap := hP
  have hl := lv_entry ([.ref dp, .int x1, .int x2, .int x3]) (n := 7) (Nat.le_of_ble_eq_true rfl)
  rw [lg_entry_eq]
  generalize (lg_sl ([.ref dp, .int x1, .int x2, .int x3]) ++ List.replicate (7 - (lg_sl ([.ref dp, .int x1, .int x2, .int x3])).length) Slot.unset).toArray = ls at hl ⊢
  have hl : lv_has ls 7 [(0, .ref dp), (1, .int x1), (2, .int x2), (3, .int x3)] := hl
  refine lv_iconst (v := 0) hx hb dX11_copies_0 (by decide) ?_
  refine lv_istore (lv' := [(4, .int 0), (0, .ref dp), (1, .int x1), (2, .int x2), (3, .int x3)]) hx hb dX11_copies_1 hl (by decide) rfl (fun ls hl => ?_)
  refine lv_iconst (v := 0) hx hb dX11_copies_3 (by decide) ?_
  refine lv_istore (lv' := [(5, .int 0), (4, .int 0), (0, .ref dp), (1, .int x1), (2, .int x2), (3, .int x3)]) hx hb dX11_copies_4 hl (by decide) rfl (fun ls hl => ?_)
  refine lv_iload hx hb dX11_copies_6 (lv_at hl 0 rfl) ?_
  refine lv_aload_n hx hb dX11_copies_8 rfl (lv_at hl 2 rfl) ?_
  refine va_get (D := G.1) (ci := 11) (v := .ref nw) (C := RX11) (T := TX11) (N := 14) hx hb ht inlX11 hown hK.1 hP 0 rfl rfl 1 (by decide) (ht (Cond.fieldLink RX11 19 "PloughDepot" "now" "LPloughDepot$Books;") mw_1_19) (fun _ h9 => h9) rfl dX11_copies_9 ?_
  refine va_get (D := G.1) (ci := 1) (v := .ref tg) (C := RX1) (T := TX1) (N := 8) hx hb ht inlX1 hown hK.1 hP 2 rfl rfl 2 (by decide) (ht (Cond.fieldLink RX11 144 "PloughDepot$Books" "gauges" "LPloughDepot$Table;") mw_19_21) (fun _ h9 => h9) rfl dX11_copies_12 ?_
  refine va_get (D := G.1) (ci := 8) (v := .int 0) (C := RX8) (T := TX8) (N := 2) hx hb ht inlX8 hown hK.1 hP 3 rfl rfl 1 (by decide) (ht (Cond.fieldLink RX11 109 "PloughDepot$Table" "size" "I") mw_12_13) (fun _ h9 => h9) rfl dX11_copies_15 ?_
  refine lv_icmp_ge (tgt := 84) hx hb dX11_copies_18 (by decide) (fun c_1 => ?_) (fun c_1 => ?_)
  · refine lv_aload_n hx hb dX11_copies_84 rfl (lv_at hl 2 rfl) ?_
    refine lv_iload hx hb dX11_copies_85 (lv_at hl 1 rfl) ?_
    have hPc := hP.sub (ws' := [(dp, .inr (11, .ref lg :: .ref nw :: dv)), (lg, .inr (2, [lfi, lst, ltr, llk]))]) [0, 1] rfl
    have hDc := hD.sub (ws' := [(dp, .inr (11, .ref lg :: .ref nw :: dv)), (lg, .inr (2, [lfi, lst, ltr, llk]))]) [0, 1] (by decide) rfl
    have hFc := va_free (wc := [(dp, .inr (11, .ref lg :: .ref nw :: dv)), (lg, .inr (2, [lfi, lst, ltr, llk]))]) hD hS hA [0, 1] rfl
    refine va_calli (va_runV (As := [.int 0]) (rest := []) ⟨hx, hb, hml, hown, hts⟩ (k_answer l G _ dp 0 lg (.ref nw :: dv) lfi lst ltr llk ) (cwV 1 hts (gd_V mw_11_2 mw_11_3 mw_11_4 mw_1_2 mw_11_5) rfl rfl rfl ⟨rfl, yk_X11_answer⟩ ⟨Nat.le_of_ble_eq_true rfl, Nat.le_of_ble_eq_true rfl⟩) (c0_preV (q0 := 0) (ci := 11) (q := (RX11, TX11, 14)) hPc hK hDc rfl rfl) rfl rfl hl.1 rfl (lv_room (Nat.le_of_ble_eq_true rfl)) dX11_copies_87 ⟨Nat.le_of_ble_eq_true rfl, Nat.le_of_ble_eq_true rfl⟩) hS (fun q _ h => hFc q h) hFc (fun r_2 u t H1 locs ht1 hvm hw hB hz1 hk1 hS => ?_)
    try dsimp only at hw hB
    have hr2 := hw
    obtain rfl := hr2.symm
    obtain ⟨hP1, hD1⟩ := hB
    rw [ht1] at hP1
    obtain ⟨hP, hD⟩ := va_join (wr := [(nw, .inr (1, .int 0 :: n1 :: .ref tg :: nv)), (tg, .inr (8, [tgc, .int 0]))]) (w1 := [(dp, .inr (11, .ref lg :: .ref nw :: dv)), (lg, .inr (2, [lfi, .int 0, ltr, llk]))]) hP hD [0, 1] [2, 3] rfl rfl (by decide) (by decide) hk1 hFc hP1 hD1
    generalize H1 = H at hP hS ⊢
    have hP : va_P G.1 vwCl ([(nw, .inr (1, .int 0 :: n1 :: .ref tg :: nv)), (tg, .inr (8, [tgc, .int 0])), (dp, .inr (11, .ref lg :: .ref nw :: dv)), (lg, .inr (2, [lfi, .int 0, ltr, llk]))]) H := hP
    have hD : va_D A ([(nw, .inr (1, .int 0 :: n1 :: .ref tg :: nv)), (tg, .inr (8, [tgc, .int 0])), (dp, .inr (11, .ref lg :: .ref nw :: dv)), (lg, .inr (2, [lfi, .int 0, ltr, llk]))]) := hD
    exact W.iret (v := 0) hx hb hr (fun t ht hW => ⟨⟨0, (), rfl, rfl, trivial⟩, hS.F ht⟩) hS.2.2 dX11_copies_90
  · exact absurd c_1 (by decide)

set_option maxHeartbeats 4000000 in
set_option maxRecDepth 100000 in
theorem k_pair (l : Launch) (G : GG) (sz : Nat) (dp : Nat) (x1 : Int32) (x2 : Int32) (x3 : Int32) (lg : Nat) (nw : Nat) (dv : List Value) (lfi : Value) (lst : Value) (ltr : Value) (llk : Value) (n1 : Value) (n2 : Value) (tp : Nat) (nv : List Value) (tpc : Value)  : Met l yX11_pair (.code yX11_pair cX11_pair 5 (some .int) :: TT) ({ frames := 3, cells := 0, slots := 0, locals := 300 } : Room) (c0_P G [.ref dp, .int x1, .int x2, .int x3] sz ([(dp, .inr (11, .ref lg :: .ref nw :: dv)), (lg, .inr (2, [lfi, lst, ltr, llk])), (nw, .inr (1, .int 0 :: n1 :: n2 :: .ref tp :: nv)), (tp, .inr (8, [tpc, .int 0]))])) (va_Qi (S := Unit) (fun (r : Int32) (u : Unit) => r = (-2)) (fun (u : Unit) (t : State) => True) (va_A ([(dp, .inr (11, .ref lg :: .ref nw :: dv)), (lg, .inr (2, [lfi, lst, ltr, llk])), (nw, .inr (1, .int 0 :: n1 :: n2 :: .ref tp :: nv)), (tp, .inr (8, [tpc, .int 0]))]) sz)) 0 0 (va_A ([(dp, .inr (11, .ref lg :: .ref nw :: dv)), (lg, .inr (2, [lfi, lst, ltr, llk])), (nw, .inr (1, .int 0 :: n1 :: n2 :: .ref tp :: nv)), (tp, .inr (8, [tpc, .int 0]))]) sz) := by
  refine Met.ofW (cc := cX11_pair) (maxL := 5) (ret := (some .int)) (by decide) rfl ?_
  intro p e s m args below meth c s₁ B hml hv
  obtain ⟨rfl, hsz, hP, hK, hD0⟩ := hv
  have hx := B.exec
  have hb := B.bytes
  have hr := B.returns
  have hts := atoms_spec (ws := .code yX11_pair cX11_pair 5 (some .int) :: TT) B.pre
  have ht := fun (w : Cond) (h : w ∈ TT) => hts w (List.mem_cons_of_mem _ h)
  have hown : s.vm.findClass RX11 = some m.cls := findClass_of_methodNamed B.named
  have hlocks := B.notSynchronized
  subst hsz
  have hD := hD0.self (sz := s.heap.size)
  generalize hAe : va_A ([(dp, .inr (11, .ref lg :: .ref nw :: dv)), (lg, .inr (2, [lfi, lst, ltr, llk])), (nw, .inr (1, .int 0 :: n1 :: n2 :: .ref tp :: nv)), (tp, .inr (8, [tpc, .int 0]))]) s.heap.size = A at hD ⊢
  have hA : ∀ q : Nat, s.heap.size ≤ q → A q := fun q h => by rw [← hAe]; exact Or.inr h
  have hS : va_S A s.heap s.heap [] := va_S.rf
  have hP : va_P G.1 vwCl ([(dp, .inr (11, .ref lg :: .ref nw :: dv)), (lg, .inr (2, [lfi, lst, ltr, llk])), (nw, .inr (1, .int 0 :: n1 :: n2 :: .ref tp :: nv)), (tp, .inr (8, [tpc, .int 0]))]) s.heap := hP
  have hl := lv_entry ([.ref dp, .int x1, .int x2, .int x3]) (n := 5) (Nat.le_of_ble_eq_true rfl)
  rw [lg_entry_eq]
  generalize (lg_sl ([.ref dp, .int x1, .int x2, .int x3]) ++ List.replicate (5 - (lg_sl ([.ref dp, .int x1, .int x2, .int x3])).length) Slot.unset).toArray = ls at hl ⊢
  have hl : lv_has ls 5 [(0, .ref dp), (1, .int x1), (2, .int x2), (3, .int x3)] := hl
  refine lv_aload_n hx hb dX11_pair_0 rfl (lv_at hl 0 rfl) ?_
  refine va_get (D := G.1) (ci := 11) (v := .ref nw) (C := RX11) (T := TX11) (N := 14) hx hb ht inlX11 hown hK.1 hP 0 rfl rfl 1 (by decide) (ht (Cond.fieldLink RX11 19 "PloughDepot" "now" "LPloughDepot$Books;") mw_1_19) (fun _ h9 => h9) rfl dX11_pair_1 ?_
  refine va_get (D := G.1) (ci := 1) (v := .ref tp) (C := RX1) (T := TX1) (N := 8) hx hb ht inlX1 hown hK.1 hP 2 rfl rfl 3 (by decide) (ht (Cond.fieldLink RX11 203 "PloughDepot$Books" "ploughs" "LPloughDepot$Table;") mw_29_16) (fun _ h9 => h9) rfl dX11_pair_4 ?_
  refine lv_iload_n hx hb dX11_pair_7 rfl (lv_at hl 1 rfl) ?_
  have hPc := hP.sub (ws' := [(tp, .inr (8, [tpc, .int 0]))]) [3] rfl
  have hDc := hD.sub (ws' := [(tp, .inr (8, [tpc, .int 0]))]) [3] (by decide) rfl
  have hFc := va_free (wc := [(tp, .inr (8, [tpc, .int 0]))]) hD hS hA [3] rfl
  refine va_calli (va_runV (As := [.int x1]) (rest := []) ⟨hx, hb, hml, hown, hts⟩ (k_has l G _ tp x1 tpc ) (cwV 1 hts (gd_V mw_13_22 mw_13_23 mw_14_0 mw_3_13 mw_14_1) rfl rfl rfl ⟨rfl, yk_X8_has⟩ ⟨Nat.le_of_ble_eq_true rfl, Nat.le_of_ble_eq_true rfl⟩) (c0_preV (q0 := 0) (ci := 8) (q := (RX8, TX8, 2)) hPc hK hDc rfl rfl) rfl rfl hl.1 rfl (lv_room (Nat.le_of_ble_eq_true rfl)) dX11_pair_8 ⟨Nat.le_of_ble_eq_true rfl, Nat.le_of_ble_eq_true rfl⟩) hS (fun q _ h => hFc q h) hFc (fun r_1 u t H1 locs ht1 hvm hw hB hz1 hk1 hS => ?_)
  try dsimp only at hw hB
  have hr1 := hw
  obtain rfl := hr1.symm
  obtain ⟨hP1, hD1⟩ := hB
  rw [ht1] at hP1
  obtain ⟨hP, hD⟩ := va_join (wr := [(dp, .inr (11, .ref lg :: .ref nw :: dv)), (lg, .inr (2, [lfi, lst, ltr, llk])), (nw, .inr (1, .int 0 :: n1 :: n2 :: .ref tp :: nv))]) (w1 := [(tp, .inr (8, [tpc, .int 0]))]) hP hD [3] [0, 1, 2] rfl rfl (by decide) (by decide) hk1 hFc hP1 hD1
  generalize H1 = H at hP hS ⊢
  have hP : va_P G.1 vwCl ([(dp, .inr (11, .ref lg :: .ref nw :: dv)), (lg, .inr (2, [lfi, lst, ltr, llk])), (nw, .inr (1, .int 0 :: n1 :: n2 :: .ref tp :: nv)), (tp, .inr (8, [tpc, .int 0]))]) H := hP
  have hD : va_D A ([(dp, .inr (11, .ref lg :: .ref nw :: dv)), (lg, .inr (2, [lfi, lst, ltr, llk])), (nw, .inr (1, .int 0 :: n1 :: n2 :: .ref tp :: nv)), (tp, .inr (8, [tpc, .int 0]))]) := hD
  refine lv_if_eq (tgt := 44) hx hb dX11_pair_11 (by decide) (fun c_2 => ?_) (fun c_2 => ?_)
  · refine lv_aload_n hx hb dX11_pair_44 rfl (lv_at hl 0 rfl) ?_
    refine lv_bipush (v := (-2)) hx hb dX11_pair_45 (by decide) ?_
    have hPc := hP.sub (ws' := [(dp, .inr (11, .ref lg :: .ref nw :: dv)), (lg, .inr (2, [lfi, lst, ltr, llk]))]) [0, 1] rfl
    have hDc := hD.sub (ws' := [(dp, .inr (11, .ref lg :: .ref nw :: dv)), (lg, .inr (2, [lfi, lst, ltr, llk]))]) [0, 1] (by decide) rfl
    have hFc := va_free (wc := [(dp, .inr (11, .ref lg :: .ref nw :: dv)), (lg, .inr (2, [lfi, lst, ltr, llk]))]) hD hS hA [0, 1] rfl
    refine va_calli (va_runV (As := [.int (-2)]) (rest := []) ⟨hx, hb, hml, hown, hts⟩ (k_refuse_m2 l G _ dp lg (.ref nw :: dv) lfi lst ltr llk ) (cwV 1 hts (gd_V mw_7_22 mw_7_23 mw_8_0 mw_1_2 mw_8_1) rfl rfl rfl ⟨rfl, yk_X11_refuse⟩ ⟨Nat.le_of_ble_eq_true rfl, Nat.le_of_ble_eq_true rfl⟩) (c0_preV (q0 := 0) (ci := 11) (q := (RX11, TX11, 14)) hPc hK hDc rfl rfl) rfl rfl hl.1 rfl (lv_room (Nat.le_of_ble_eq_true rfl)) dX11_pair_47 ⟨Nat.le_of_ble_eq_true rfl, Nat.le_of_ble_eq_true rfl⟩) hS (fun q _ h => hFc q h) hFc (fun r_3 u t H1 locs ht1 hvm hw hB hz1 hk1 hS => ?_)
    try dsimp only at hw hB
    have hr3 := hw
    obtain rfl := hr3.symm
    obtain ⟨hP1, hD1⟩ := hB
    rw [ht1] at hP1
    obtain ⟨hP, hD⟩ := va_join (wr := [(nw, .inr (1, .int 0 :: n1 :: n2 :: .ref tp :: nv)), (tp, .inr (8, [tpc, .int 0]))]) (w1 := [(dp, .inr (11, .ref lg :: .ref nw :: dv)), (lg, .inr (2, [lfi, .int (-2), ltr, llk]))]) hP hD [0, 1] [2, 3] rfl rfl (by decide) (by decide) hk1 hFc hP1 hD1
    generalize H1 = H at hP hS ⊢
    have hP : va_P G.1 vwCl ([(nw, .inr (1, .int 0 :: n1 :: n2 :: .ref tp :: nv)), (tp, .inr (8, [tpc, .int 0])), (dp, .inr (11, .ref lg :: .ref nw :: dv)), (lg, .inr (2, [lfi, .int (-2), ltr, llk]))]) H := hP
    have hD : va_D A ([(nw, .inr (1, .int 0 :: n1 :: n2 :: .ref tp :: nv)), (tp, .inr (8, [tpc, .int 0])), (dp, .inr (11, .ref lg :: .ref nw :: dv)), (lg, .inr (2, [lfi, .int (-2), ltr, llk]))]) := hD
    exact W.iret (v := (-2)) hx hb hr (fun t ht hW => ⟨⟨(-2), (), rfl, rfl, trivial⟩, hS.F ht⟩) hS.2.2 dX11_pair_50
  · exact absurd c_2 (by decide)

set_option maxHeartbeats 4000000 in
set_option maxRecDepth 100000 in
theorem k_out (l : Launch) (G : GG) (sz : Nat) (dp : Nat) (x1 : Int32) (lg : Nat) (nw : Nat) (dv : List Value) (lfi : Value) (lst : Value) (ltr : Value) (llk : Value) (n1 : Value) (n2 : Value) (tp : Nat) (nv : List Value) (tpc : Value)  : Met l yX11_out (.code yX11_out cX11_out 3 (some .int) :: TT) ({ frames := 3, cells := 0, slots := 0, locals := 300 } : Room) (c0_P G [.ref dp, .int x1] sz ([(dp, .inr (11, .ref lg :: .ref nw :: dv)), (lg, .inr (2, [lfi, lst, ltr, llk])), (nw, .inr (1, .int 0 :: n1 :: n2 :: .ref tp :: nv)), (tp, .inr (8, [tpc, .int 0]))])) (va_Qi (S := Unit) (fun (r : Int32) (u : Unit) => r = (-2)) (fun (u : Unit) (t : State) => True) (va_A ([(dp, .inr (11, .ref lg :: .ref nw :: dv)), (lg, .inr (2, [lfi, lst, ltr, llk])), (nw, .inr (1, .int 0 :: n1 :: n2 :: .ref tp :: nv)), (tp, .inr (8, [tpc, .int 0]))]) sz)) 0 0 (va_A ([(dp, .inr (11, .ref lg :: .ref nw :: dv)), (lg, .inr (2, [lfi, lst, ltr, llk])), (nw, .inr (1, .int 0 :: n1 :: n2 :: .ref tp :: nv)), (tp, .inr (8, [tpc, .int 0]))]) sz) := by
  refine Met.ofW (cc := cX11_out) (maxL := 3) (ret := (some .int)) (by decide) rfl ?_
  intro p e s m args below meth c s₁ B hml hv
  obtain ⟨rfl, hsz, hP, hK, hD0⟩ := hv
  have hx := B.exec
  have hb := B.bytes
  have hr := B.returns
  have hts := atoms_spec (ws := .code yX11_out cX11_out 3 (some .int) :: TT) B.pre
  have ht := fun (w : Cond) (h : w ∈ TT) => hts w (List.mem_cons_of_mem _ h)
  have hown : s.vm.findClass RX11 = some m.cls := findClass_of_methodNamed B.named
  have hlocks := B.notSynchronized
  subst hsz
  have hD := hD0.self (sz := s.heap.size)
  generalize hAe : va_A ([(dp, .inr (11, .ref lg :: .ref nw :: dv)), (lg, .inr (2, [lfi, lst, ltr, llk])), (nw, .inr (1, .int 0 :: n1 :: n2 :: .ref tp :: nv)), (tp, .inr (8, [tpc, .int 0]))]) s.heap.size = A at hD ⊢
  have hA : ∀ q : Nat, s.heap.size ≤ q → A q := fun q h => by rw [← hAe]; exact Or.inr h
  have hS : va_S A s.heap s.heap [] := va_S.rf
  have hP : va_P G.1 vwCl ([(dp, .inr (11, .ref lg :: .ref nw :: dv)), (lg, .inr (2, [lfi, lst, ltr, llk])), (nw, .inr (1, .int 0 :: n1 :: n2 :: .ref tp :: nv)), (tp, .inr (8, [tpc, .int 0]))]) s.heap := hP
  have hl := lv_entry ([.ref dp, .int x1]) (n := 3) (Nat.le_of_ble_eq_true rfl)
  rw [lg_entry_eq]
  generalize (lg_sl ([.ref dp, .int x1]) ++ List.replicate (3 - (lg_sl ([.ref dp, .int x1])).length) Slot.unset).toArray = ls at hl ⊢
  have hl : lv_has ls 3 [(0, .ref dp), (1, .int x1)] := hl
  refine lv_aload_n hx hb dX11_out_0 rfl (lv_at hl 0 rfl) ?_
  refine va_get (D := G.1) (ci := 11) (v := .ref nw) (C := RX11) (T := TX11) (N := 14) hx hb ht inlX11 hown hK.1 hP 0 rfl rfl 1 (by decide) (ht (Cond.fieldLink RX11 19 "PloughDepot" "now" "LPloughDepot$Books;") mw_1_19) (fun _ h9 => h9) rfl dX11_out_1 ?_
  refine va_get (D := G.1) (ci := 1) (v := .ref tp) (C := RX1) (T := TX1) (N := 8) hx hb ht inlX1 hown hK.1 hP 2 rfl rfl 3 (by decide) (ht (Cond.fieldLink RX11 203 "PloughDepot$Books" "ploughs" "LPloughDepot$Table;") mw_29_16) (fun _ h9 => h9) rfl dX11_out_4 ?_
  refine lv_iload_n hx hb dX11_out_7 rfl (lv_at hl 1 rfl) ?_
  have hPc := hP.sub (ws' := [(tp, .inr (8, [tpc, .int 0]))]) [3] rfl
  have hDc := hD.sub (ws' := [(tp, .inr (8, [tpc, .int 0]))]) [3] (by decide) rfl
  have hFc := va_free (wc := [(tp, .inr (8, [tpc, .int 0]))]) hD hS hA [3] rfl
  refine va_calli (va_runV (As := [.int x1]) (rest := []) ⟨hx, hb, hml, hown, hts⟩ (k_has l G _ tp x1 tpc ) (cwV 1 hts (gd_V mw_13_22 mw_13_23 mw_14_0 mw_3_13 mw_14_1) rfl rfl rfl ⟨rfl, yk_X8_has⟩ ⟨Nat.le_of_ble_eq_true rfl, Nat.le_of_ble_eq_true rfl⟩) (c0_preV (q0 := 0) (ci := 8) (q := (RX8, TX8, 2)) hPc hK hDc rfl rfl) rfl rfl hl.1 rfl (lv_room (Nat.le_of_ble_eq_true rfl)) dX11_out_8 ⟨Nat.le_of_ble_eq_true rfl, Nat.le_of_ble_eq_true rfl⟩) hS (fun q _ h => hFc q h) hFc (fun r_1 u t H1 locs ht1 hvm hw hB hz1 hk1 hS => ?_)
  try dsimp only at hw hB
  have hr1 := hw
  obtain rfl := hr1.symm
  obtain ⟨hP1, hD1⟩ := hB
  rw [ht1] at hP1
  obtain ⟨hP, hD⟩ := va_join (wr := [(dp, .inr (11, .ref lg :: .ref nw :: dv)), (lg, .inr (2, [lfi, lst, ltr, llk])), (nw, .inr (1, .int 0 :: n1 :: n2 :: .ref tp :: nv))]) (w1 := [(tp, .inr (8, [tpc, .int 0]))]) hP hD [3] [0, 1, 2] rfl rfl (by decide) (by decide) hk1 hFc hP1 hD1
  generalize H1 = H at hP hS ⊢
  have hP : va_P G.1 vwCl ([(dp, .inr (11, .ref lg :: .ref nw :: dv)), (lg, .inr (2, [lfi, lst, ltr, llk])), (nw, .inr (1, .int 0 :: n1 :: n2 :: .ref tp :: nv)), (tp, .inr (8, [tpc, .int 0]))]) H := hP
  have hD : va_D A ([(dp, .inr (11, .ref lg :: .ref nw :: dv)), (lg, .inr (2, [lfi, lst, ltr, llk])), (nw, .inr (1, .int 0 :: n1 :: n2 :: .ref tp :: nv)), (tp, .inr (8, [tpc, .int 0]))]) := hD
  refine lv_if_ne (tgt := 21) hx hb dX11_out_11 (by decide) (fun c_2 => ?_) (fun c_2 => ?_)
  · exact absurd c_2 (by decide)
  · refine lv_aload_n hx hb dX11_out_14 rfl (lv_at hl 0 rfl) ?_
    refine lv_bipush (v := (-2)) hx hb dX11_out_15 (by decide) ?_
    have hPc := hP.sub (ws' := [(dp, .inr (11, .ref lg :: .ref nw :: dv)), (lg, .inr (2, [lfi, lst, ltr, llk]))]) [0, 1] rfl
    have hDc := hD.sub (ws' := [(dp, .inr (11, .ref lg :: .ref nw :: dv)), (lg, .inr (2, [lfi, lst, ltr, llk]))]) [0, 1] (by decide) rfl
    have hFc := va_free (wc := [(dp, .inr (11, .ref lg :: .ref nw :: dv)), (lg, .inr (2, [lfi, lst, ltr, llk]))]) hD hS hA [0, 1] rfl
    refine va_calli (va_runV (As := [.int (-2)]) (rest := []) ⟨hx, hb, hml, hown, hts⟩ (k_refuse_m2 l G _ dp lg (.ref nw :: dv) lfi lst ltr llk ) (cwV 1 hts (gd_V mw_7_22 mw_7_23 mw_8_0 mw_1_2 mw_8_1) rfl rfl rfl ⟨rfl, yk_X11_refuse⟩ ⟨Nat.le_of_ble_eq_true rfl, Nat.le_of_ble_eq_true rfl⟩) (c0_preV (q0 := 0) (ci := 11) (q := (RX11, TX11, 14)) hPc hK hDc rfl rfl) rfl rfl hl.1 rfl (lv_room (Nat.le_of_ble_eq_true rfl)) dX11_out_17 ⟨Nat.le_of_ble_eq_true rfl, Nat.le_of_ble_eq_true rfl⟩) hS (fun q _ h => hFc q h) hFc (fun r_3 u t H1 locs ht1 hvm hw hB hz1 hk1 hS => ?_)
    try dsimp only at hw hB
    have hr3 := hw
    obtain rfl := hr3.symm
    obtain ⟨hP1, hD1⟩ := hB
    rw [ht1] at hP1
    obtain ⟨hP, hD⟩ := va_join (wr := [(nw, .inr (1, .int 0 :: n1 :: n2 :: .ref tp :: nv)), (tp, .inr (8, [tpc, .int 0]))]) (w1 := [(dp, .inr (11, .ref lg :: .ref nw :: dv)), (lg, .inr (2, [lfi, .int (-2), ltr, llk]))]) hP hD [0, 1] [2, 3] rfl rfl (by decide) (by decide) hk1 hFc hP1 hD1
    generalize H1 = H at hP hS ⊢
    have hP : va_P G.1 vwCl ([(nw, .inr (1, .int 0 :: n1 :: n2 :: .ref tp :: nv)), (tp, .inr (8, [tpc, .int 0])), (dp, .inr (11, .ref lg :: .ref nw :: dv)), (lg, .inr (2, [lfi, .int (-2), ltr, llk]))]) H := hP
    have hD : va_D A ([(nw, .inr (1, .int 0 :: n1 :: n2 :: .ref tp :: nv)), (tp, .inr (8, [tpc, .int 0])), (dp, .inr (11, .ref lg :: .ref nw :: dv)), (lg, .inr (2, [lfi, .int (-2), ltr, llk]))]) := hD
    exact W.iret (v := (-2)) hx hb hr (fun t ht hW => ⟨⟨(-2), (), rfl, rfl, trivial⟩, hS.F ht⟩) hS.2.2 dX11_out_20

set_option maxHeartbeats 4000000 in
set_option maxRecDepth 100000 in
theorem k_asks (l : Launch) (G : GG) (sz : Nat) (dp : Nat) (x1 : Int32) (x2 : Int32) (x3 : Int32) (lg : Nat) (nw : Nat) (dv : List Value) (lfi : Value) (lst : Value) (ltr : Value) (llk : Value) (n1 : Value) (n2 : Value) (tp : Nat) (nv : List Value) (tpc : Value)  : Met l yX11_asks (.code yX11_asks cX11_asks 6 (some .int) :: TT) ({ frames := 3, cells := 0, slots := 0, locals := 300 } : Room) (c0_P G [.ref dp, .int x1, .int x2, .int x3] sz ([(dp, .inr (11, .ref lg :: .ref nw :: dv)), (lg, .inr (2, [lfi, lst, ltr, llk])), (nw, .inr (1, .int 0 :: n1 :: n2 :: .ref tp :: nv)), (tp, .inr (8, [tpc, .int 0]))])) (va_Qi (S := Unit) (fun (r : Int32) (u : Unit) => r = (-2)) (fun (u : Unit) (t : State) => True) (va_A ([(dp, .inr (11, .ref lg :: .ref nw :: dv)), (lg, .inr (2, [lfi, lst, ltr, llk])), (nw, .inr (1, .int 0 :: n1 :: n2 :: .ref tp :: nv)), (tp, .inr (8, [tpc, .int 0]))]) sz)) 0 0 (va_A ([(dp, .inr (11, .ref lg :: .ref nw :: dv)), (lg, .inr (2, [lfi, lst, ltr, llk])), (nw, .inr (1, .int 0 :: n1 :: n2 :: .ref tp :: nv)), (tp, .inr (8, [tpc, .int 0]))]) sz) := by
  refine Met.ofW (cc := cX11_asks) (maxL := 6) (ret := (some .int)) (by decide) rfl ?_
  intro p e s m args below meth c s₁ B hml hv
  obtain ⟨rfl, hsz, hP, hK, hD0⟩ := hv
  have hx := B.exec
  have hb := B.bytes
  have hr := B.returns
  have hts := atoms_spec (ws := .code yX11_asks cX11_asks 6 (some .int) :: TT) B.pre
  have ht := fun (w : Cond) (h : w ∈ TT) => hts w (List.mem_cons_of_mem _ h)
  have hown : s.vm.findClass RX11 = some m.cls := findClass_of_methodNamed B.named
  have hlocks := B.notSynchronized
  subst hsz
  have hD := hD0.self (sz := s.heap.size)
  generalize hAe : va_A ([(dp, .inr (11, .ref lg :: .ref nw :: dv)), (lg, .inr (2, [lfi, lst, ltr, llk])), (nw, .inr (1, .int 0 :: n1 :: n2 :: .ref tp :: nv)), (tp, .inr (8, [tpc, .int 0]))]) s.heap.size = A at hD ⊢
  have hA : ∀ q : Nat, s.heap.size ≤ q → A q := fun q h => by rw [← hAe]; exact Or.inr h
  have hS : va_S A s.heap s.heap [] := va_S.rf
  have hP : va_P G.1 vwCl ([(dp, .inr (11, .ref lg :: .ref nw :: dv)), (lg, .inr (2, [lfi, lst, ltr, llk])), (nw, .inr (1, .int 0 :: n1 :: n2 :: .ref tp :: nv)), (tp, .inr (8, [tpc, .int 0]))]) s.heap := hP
  have hl := lv_entry ([.ref dp, .int x1, .int x2, .int x3]) (n := 6) (Nat.le_of_ble_eq_true rfl)
  rw [lg_entry_eq]
  generalize (lg_sl ([.ref dp, .int x1, .int x2, .int x3]) ++ List.replicate (6 - (lg_sl ([.ref dp, .int x1, .int x2, .int x3])).length) Slot.unset).toArray = ls at hl ⊢
  have hl : lv_has ls 6 [(0, .ref dp), (1, .int x1), (2, .int x2), (3, .int x3)] := hl
  refine lv_aload_n hx hb dX11_asks_0 rfl (lv_at hl 0 rfl) ?_
  refine va_get (D := G.1) (ci := 11) (v := .ref nw) (C := RX11) (T := TX11) (N := 14) hx hb ht inlX11 hown hK.1 hP 0 rfl rfl 1 (by decide) (ht (Cond.fieldLink RX11 19 "PloughDepot" "now" "LPloughDepot$Books;") mw_1_19) (fun _ h9 => h9) rfl dX11_asks_1 ?_
  refine va_get (D := G.1) (ci := 1) (v := .ref tp) (C := RX1) (T := TX1) (N := 8) hx hb ht inlX1 hown hK.1 hP 2 rfl rfl 3 (by decide) (ht (Cond.fieldLink RX11 203 "PloughDepot$Books" "ploughs" "LPloughDepot$Table;") mw_29_16) (fun _ h9 => h9) rfl dX11_asks_4 ?_
  refine lv_iload_n hx hb dX11_asks_7 rfl (lv_at hl 1 rfl) ?_
  have hPc := hP.sub (ws' := [(tp, .inr (8, [tpc, .int 0]))]) [3] rfl
  have hDc := hD.sub (ws' := [(tp, .inr (8, [tpc, .int 0]))]) [3] (by decide) rfl
  have hFc := va_free (wc := [(tp, .inr (8, [tpc, .int 0]))]) hD hS hA [3] rfl
  refine va_calli (va_runV (As := [.int x1]) (rest := []) ⟨hx, hb, hml, hown, hts⟩ (k_has l G _ tp x1 tpc ) (cwV 1 hts (gd_V mw_13_22 mw_13_23 mw_14_0 mw_3_13 mw_14_1) rfl rfl rfl ⟨rfl, yk_X8_has⟩ ⟨Nat.le_of_ble_eq_true rfl, Nat.le_of_ble_eq_true rfl⟩) (c0_preV (q0 := 0) (ci := 8) (q := (RX8, TX8, 2)) hPc hK hDc rfl rfl) rfl rfl hl.1 rfl (lv_room (Nat.le_of_ble_eq_true rfl)) dX11_asks_8 ⟨Nat.le_of_ble_eq_true rfl, Nat.le_of_ble_eq_true rfl⟩) hS (fun q _ h => hFc q h) hFc (fun r_1 u t H1 locs ht1 hvm hw hB hz1 hk1 hS => ?_)
  try dsimp only at hw hB
  have hr1 := hw
  obtain rfl := hr1.symm
  obtain ⟨hP1, hD1⟩ := hB
  rw [ht1] at hP1
  obtain ⟨hP, hD⟩ := va_join (wr := [(dp, .inr (11, .ref lg :: .ref nw :: dv)), (lg, .inr (2, [lfi, lst, ltr, llk])), (nw, .inr (1, .int 0 :: n1 :: n2 :: .ref tp :: nv))]) (w1 := [(tp, .inr (8, [tpc, .int 0]))]) hP hD [3] [0, 1, 2] rfl rfl (by decide) (by decide) hk1 hFc hP1 hD1
  generalize H1 = H at hP hS ⊢
  have hP : va_P G.1 vwCl ([(dp, .inr (11, .ref lg :: .ref nw :: dv)), (lg, .inr (2, [lfi, lst, ltr, llk])), (nw, .inr (1, .int 0 :: n1 :: n2 :: .ref tp :: nv)), (tp, .inr (8, [tpc, .int 0]))]) H := hP
  have hD : va_D A ([(dp, .inr (11, .ref lg :: .ref nw :: dv)), (lg, .inr (2, [lfi, lst, ltr, llk])), (nw, .inr (1, .int 0 :: n1 :: n2 :: .ref tp :: nv)), (tp, .inr (8, [tpc, .int 0]))]) := hD
  refine lv_if_eq (tgt := 37) hx hb dX11_asks_11 (by decide) (fun c_2 => ?_) (fun c_2 => ?_)
  · refine lv_aload_n hx hb dX11_asks_37 rfl (lv_at hl 0 rfl) ?_
    refine lv_bipush (v := (-2)) hx hb dX11_asks_38 (by decide) ?_
    have hPc := hP.sub (ws' := [(dp, .inr (11, .ref lg :: .ref nw :: dv)), (lg, .inr (2, [lfi, lst, ltr, llk]))]) [0, 1] rfl
    have hDc := hD.sub (ws' := [(dp, .inr (11, .ref lg :: .ref nw :: dv)), (lg, .inr (2, [lfi, lst, ltr, llk]))]) [0, 1] (by decide) rfl
    have hFc := va_free (wc := [(dp, .inr (11, .ref lg :: .ref nw :: dv)), (lg, .inr (2, [lfi, lst, ltr, llk]))]) hD hS hA [0, 1] rfl
    refine va_calli (va_runV (As := [.int (-2)]) (rest := []) ⟨hx, hb, hml, hown, hts⟩ (k_refuse_m2 l G _ dp lg (.ref nw :: dv) lfi lst ltr llk ) (cwV 1 hts (gd_V mw_7_22 mw_7_23 mw_8_0 mw_1_2 mw_8_1) rfl rfl rfl ⟨rfl, yk_X11_refuse⟩ ⟨Nat.le_of_ble_eq_true rfl, Nat.le_of_ble_eq_true rfl⟩) (c0_preV (q0 := 0) (ci := 11) (q := (RX11, TX11, 14)) hPc hK hDc rfl rfl) rfl rfl hl.1 rfl (lv_room (Nat.le_of_ble_eq_true rfl)) dX11_asks_40 ⟨Nat.le_of_ble_eq_true rfl, Nat.le_of_ble_eq_true rfl⟩) hS (fun q _ h => hFc q h) hFc (fun r_3 u t H1 locs ht1 hvm hw hB hz1 hk1 hS => ?_)
    try dsimp only at hw hB
    have hr3 := hw
    obtain rfl := hr3.symm
    obtain ⟨hP1, hD1⟩ := hB
    rw [ht1] at hP1
    obtain ⟨hP, hD⟩ := va_join (wr := [(nw, .inr (1, .int 0 :: n1 :: n2 :: .ref tp :: nv)), (tp, .inr (8, [tpc, .int 0]))]) (w1 := [(dp, .inr (11, .ref lg :: .ref nw :: dv)), (lg, .inr (2, [lfi, .int (-2), ltr, llk]))]) hP hD [0, 1] [2, 3] rfl rfl (by decide) (by decide) hk1 hFc hP1 hD1
    generalize H1 = H at hP hS ⊢
    have hP : va_P G.1 vwCl ([(nw, .inr (1, .int 0 :: n1 :: n2 :: .ref tp :: nv)), (tp, .inr (8, [tpc, .int 0])), (dp, .inr (11, .ref lg :: .ref nw :: dv)), (lg, .inr (2, [lfi, .int (-2), ltr, llk]))]) H := hP
    have hD : va_D A ([(nw, .inr (1, .int 0 :: n1 :: n2 :: .ref tp :: nv)), (tp, .inr (8, [tpc, .int 0])), (dp, .inr (11, .ref lg :: .ref nw :: dv)), (lg, .inr (2, [lfi, .int (-2), ltr, llk]))]) := hD
    exact W.iret (v := (-2)) hx hb hr (fun t ht hW => ⟨⟨(-2), (), rfl, rfl, trivial⟩, hS.F ht⟩) hS.2.2 dX11_asks_43
  · exact absurd c_2 (by decide)

set_option maxHeartbeats 4000000 in
set_option maxRecDepth 100000 in
theorem k_salt (l : Launch) (G : GG) (sz : Nat) (dp : Nat) (x1 : Int32) (x2 : Int32) (lg : Nat) (nw : Nat) (dv : List Value) (lfi : Value) (lst : Value) (ltr : Value) (llk : Value) (n1 : Value) (n2 : Value) (tp : Nat) (nv : List Value) (tpc : Value)  : Met l yX11_salt (.code yX11_salt cX11_salt 3 (some .int) :: TT) ({ frames := 3, cells := 0, slots := 0, locals := 300 } : Room) (c0_P G [.ref dp, .int x1, .int x2] sz ([(dp, .inr (11, .ref lg :: .ref nw :: dv)), (lg, .inr (2, [lfi, lst, ltr, llk])), (nw, .inr (1, .int 0 :: n1 :: n2 :: .ref tp :: nv)), (tp, .inr (8, [tpc, .int 0]))])) (va_Qi (S := Unit) (fun (r : Int32) (u : Unit) => r = (-2)) (fun (u : Unit) (t : State) => True) (va_A ([(dp, .inr (11, .ref lg :: .ref nw :: dv)), (lg, .inr (2, [lfi, lst, ltr, llk])), (nw, .inr (1, .int 0 :: n1 :: n2 :: .ref tp :: nv)), (tp, .inr (8, [tpc, .int 0]))]) sz)) 0 0 (va_A ([(dp, .inr (11, .ref lg :: .ref nw :: dv)), (lg, .inr (2, [lfi, lst, ltr, llk])), (nw, .inr (1, .int 0 :: n1 :: n2 :: .ref tp :: nv)), (tp, .inr (8, [tpc, .int 0]))]) sz) := by
  refine Met.ofW (cc := cX11_salt) (maxL := 3) (ret := (some .int)) (by decide) rfl ?_
  intro p e s m args below meth c s₁ B hml hv
  obtain ⟨rfl, hsz, hP, hK, hD0⟩ := hv
  have hx := B.exec
  have hb := B.bytes
  have hr := B.returns
  have hts := atoms_spec (ws := .code yX11_salt cX11_salt 3 (some .int) :: TT) B.pre
  have ht := fun (w : Cond) (h : w ∈ TT) => hts w (List.mem_cons_of_mem _ h)
  have hown : s.vm.findClass RX11 = some m.cls := findClass_of_methodNamed B.named
  have hlocks := B.notSynchronized
  subst hsz
  have hD := hD0.self (sz := s.heap.size)
  generalize hAe : va_A ([(dp, .inr (11, .ref lg :: .ref nw :: dv)), (lg, .inr (2, [lfi, lst, ltr, llk])), (nw, .inr (1, .int 0 :: n1 :: n2 :: .ref tp :: nv)), (tp, .inr (8, [tpc, .int 0]))]) s.heap.size = A at hD ⊢
  have hA : ∀ q : Nat, s.heap.size ≤ q → A q := fun q h => by rw [← hAe]; exact Or.inr h
  have hS : va_S A s.heap s.heap [] := va_S.rf
  have hP : va_P G.1 vwCl ([(dp, .inr (11, .ref lg :: .ref nw :: dv)), (lg, .inr (2, [lfi, lst, ltr, llk])), (nw, .inr (1, .int 0 :: n1 :: n2 :: .ref tp :: nv)), (tp, .inr (8, [tpc, .int 0]))]) s.heap := hP
  have hl := lv_entry ([.ref dp, .int x1, .int x2]) (n := 3) (Nat.le_of_ble_eq_true rfl)
  rw [lg_entry_eq]
  generalize (lg_sl ([.ref dp, .int x1, .int x2]) ++ List.replicate (3 - (lg_sl ([.ref dp, .int x1, .int x2])).length) Slot.unset).toArray = ls at hl ⊢
  have hl : lv_has ls 3 [(0, .ref dp), (1, .int x1), (2, .int x2)] := hl
  refine lv_aload_n hx hb dX11_salt_0 rfl (lv_at hl 0 rfl) ?_
  refine va_get (D := G.1) (ci := 11) (v := .ref nw) (C := RX11) (T := TX11) (N := 14) hx hb ht inlX11 hown hK.1 hP 0 rfl rfl 1 (by decide) (ht (Cond.fieldLink RX11 19 "PloughDepot" "now" "LPloughDepot$Books;") mw_1_19) (fun _ h9 => h9) rfl dX11_salt_1 ?_
  refine va_get (D := G.1) (ci := 1) (v := .ref tp) (C := RX1) (T := TX1) (N := 8) hx hb ht inlX1 hown hK.1 hP 2 rfl rfl 3 (by decide) (ht (Cond.fieldLink RX11 203 "PloughDepot$Books" "ploughs" "LPloughDepot$Table;") mw_29_16) (fun _ h9 => h9) rfl dX11_salt_4 ?_
  refine lv_iload_n hx hb dX11_salt_7 rfl (lv_at hl 1 rfl) ?_
  have hPc := hP.sub (ws' := [(tp, .inr (8, [tpc, .int 0]))]) [3] rfl
  have hDc := hD.sub (ws' := [(tp, .inr (8, [tpc, .int 0]))]) [3] (by decide) rfl
  have hFc := va_free (wc := [(tp, .inr (8, [tpc, .int 0]))]) hD hS hA [3] rfl
  refine va_calli (va_runV (As := [.int x1]) (rest := []) ⟨hx, hb, hml, hown, hts⟩ (k_has l G _ tp x1 tpc ) (cwV 1 hts (gd_V mw_13_22 mw_13_23 mw_14_0 mw_3_13 mw_14_1) rfl rfl rfl ⟨rfl, yk_X8_has⟩ ⟨Nat.le_of_ble_eq_true rfl, Nat.le_of_ble_eq_true rfl⟩) (c0_preV (q0 := 0) (ci := 8) (q := (RX8, TX8, 2)) hPc hK hDc rfl rfl) rfl rfl hl.1 rfl (lv_room (Nat.le_of_ble_eq_true rfl)) dX11_salt_8 ⟨Nat.le_of_ble_eq_true rfl, Nat.le_of_ble_eq_true rfl⟩) hS (fun q _ h => hFc q h) hFc (fun r_1 u t H1 locs ht1 hvm hw hB hz1 hk1 hS => ?_)
  try dsimp only at hw hB
  have hr1 := hw
  obtain rfl := hr1.symm
  obtain ⟨hP1, hD1⟩ := hB
  rw [ht1] at hP1
  obtain ⟨hP, hD⟩ := va_join (wr := [(dp, .inr (11, .ref lg :: .ref nw :: dv)), (lg, .inr (2, [lfi, lst, ltr, llk])), (nw, .inr (1, .int 0 :: n1 :: n2 :: .ref tp :: nv))]) (w1 := [(tp, .inr (8, [tpc, .int 0]))]) hP hD [3] [0, 1, 2] rfl rfl (by decide) (by decide) hk1 hFc hP1 hD1
  generalize H1 = H at hP hS ⊢
  have hP : va_P G.1 vwCl ([(dp, .inr (11, .ref lg :: .ref nw :: dv)), (lg, .inr (2, [lfi, lst, ltr, llk])), (nw, .inr (1, .int 0 :: n1 :: n2 :: .ref tp :: nv)), (tp, .inr (8, [tpc, .int 0]))]) H := hP
  have hD : va_D A ([(dp, .inr (11, .ref lg :: .ref nw :: dv)), (lg, .inr (2, [lfi, lst, ltr, llk])), (nw, .inr (1, .int 0 :: n1 :: n2 :: .ref tp :: nv)), (tp, .inr (8, [tpc, .int 0]))]) := hD
  refine lv_if_eq (tgt := 28) hx hb dX11_salt_11 (by decide) (fun c_2 => ?_) (fun c_2 => ?_)
  · refine lv_aload_n hx hb dX11_salt_28 rfl (lv_at hl 0 rfl) ?_
    refine lv_bipush (v := (-2)) hx hb dX11_salt_29 (by decide) ?_
    have hPc := hP.sub (ws' := [(dp, .inr (11, .ref lg :: .ref nw :: dv)), (lg, .inr (2, [lfi, lst, ltr, llk]))]) [0, 1] rfl
    have hDc := hD.sub (ws' := [(dp, .inr (11, .ref lg :: .ref nw :: dv)), (lg, .inr (2, [lfi, lst, ltr, llk]))]) [0, 1] (by decide) rfl
    have hFc := va_free (wc := [(dp, .inr (11, .ref lg :: .ref nw :: dv)), (lg, .inr (2, [lfi, lst, ltr, llk]))]) hD hS hA [0, 1] rfl
    refine va_calli (va_runV (As := [.int (-2)]) (rest := []) ⟨hx, hb, hml, hown, hts⟩ (k_refuse_m2 l G _ dp lg (.ref nw :: dv) lfi lst ltr llk ) (cwV 1 hts (gd_V mw_7_22 mw_7_23 mw_8_0 mw_1_2 mw_8_1) rfl rfl rfl ⟨rfl, yk_X11_refuse⟩ ⟨Nat.le_of_ble_eq_true rfl, Nat.le_of_ble_eq_true rfl⟩) (c0_preV (q0 := 0) (ci := 11) (q := (RX11, TX11, 14)) hPc hK hDc rfl rfl) rfl rfl hl.1 rfl (lv_room (Nat.le_of_ble_eq_true rfl)) dX11_salt_31 ⟨Nat.le_of_ble_eq_true rfl, Nat.le_of_ble_eq_true rfl⟩) hS (fun q _ h => hFc q h) hFc (fun r_3 u t H1 locs ht1 hvm hw hB hz1 hk1 hS => ?_)
    try dsimp only at hw hB
    have hr3 := hw
    obtain rfl := hr3.symm
    obtain ⟨hP1, hD1⟩ := hB
    rw [ht1] at hP1
    obtain ⟨hP, hD⟩ := va_join (wr := [(nw, .inr (1, .int 0 :: n1 :: n2 :: .ref tp :: nv)), (tp, .inr (8, [tpc, .int 0]))]) (w1 := [(dp, .inr (11, .ref lg :: .ref nw :: dv)), (lg, .inr (2, [lfi, .int (-2), ltr, llk]))]) hP hD [0, 1] [2, 3] rfl rfl (by decide) (by decide) hk1 hFc hP1 hD1
    generalize H1 = H at hP hS ⊢
    have hP : va_P G.1 vwCl ([(nw, .inr (1, .int 0 :: n1 :: n2 :: .ref tp :: nv)), (tp, .inr (8, [tpc, .int 0])), (dp, .inr (11, .ref lg :: .ref nw :: dv)), (lg, .inr (2, [lfi, .int (-2), ltr, llk]))]) H := hP
    have hD : va_D A ([(nw, .inr (1, .int 0 :: n1 :: n2 :: .ref tp :: nv)), (tp, .inr (8, [tpc, .int 0])), (dp, .inr (11, .ref lg :: .ref nw :: dv)), (lg, .inr (2, [lfi, .int (-2), ltr, llk]))]) := hD
    exact W.iret (v := (-2)) hx hb hr (fun t ht hW => ⟨⟨(-2), (), rfl, rfl, trivial⟩, hS.F ht⟩) hS.2.2 dX11_salt_34
  · exact absurd c_2 (by decide)

set_option maxHeartbeats 4000000 in
set_option maxRecDepth 100000 in
theorem k_part (l : Launch) (G : GG) (sz : Nat) (dp : Nat) (x1 : Int32) (x2 : Int32) (lg : Nat) (nw : Nat) (dv : List Value) (lfi : Value) (lst : Value) (ltr : Value) (llk : Value) (n1 : Value) (n2 : Value) (tp : Nat) (nv : List Value) (tpc : Value)  : Met l yX11_part (.code yX11_part cX11_part 3 (some .int) :: TT) ({ frames := 3, cells := 0, slots := 0, locals := 300 } : Room) (c0_P G [.ref dp, .int x1, .int x2] sz ([(dp, .inr (11, .ref lg :: .ref nw :: dv)), (lg, .inr (2, [lfi, lst, ltr, llk])), (nw, .inr (1, .int 0 :: n1 :: n2 :: .ref tp :: nv)), (tp, .inr (8, [tpc, .int 0]))])) (va_Qi (S := Unit) (fun (r : Int32) (u : Unit) => r = (-2)) (fun (u : Unit) (t : State) => True) (va_A ([(dp, .inr (11, .ref lg :: .ref nw :: dv)), (lg, .inr (2, [lfi, lst, ltr, llk])), (nw, .inr (1, .int 0 :: n1 :: n2 :: .ref tp :: nv)), (tp, .inr (8, [tpc, .int 0]))]) sz)) 0 0 (va_A ([(dp, .inr (11, .ref lg :: .ref nw :: dv)), (lg, .inr (2, [lfi, lst, ltr, llk])), (nw, .inr (1, .int 0 :: n1 :: n2 :: .ref tp :: nv)), (tp, .inr (8, [tpc, .int 0]))]) sz) := by
  refine Met.ofW (cc := cX11_part) (maxL := 3) (ret := (some .int)) (by decide) rfl ?_
  intro p e s m args below meth c s₁ B hml hv
  obtain ⟨rfl, hsz, hP, hK, hD0⟩ := hv
  have hx := B.exec
  have hb := B.bytes
  have hr := B.returns
  have hts := atoms_spec (ws := .code yX11_part cX11_part 3 (some .int) :: TT) B.pre
  have ht := fun (w : Cond) (h : w ∈ TT) => hts w (List.mem_cons_of_mem _ h)
  have hown : s.vm.findClass RX11 = some m.cls := findClass_of_methodNamed B.named
  have hlocks := B.notSynchronized
  subst hsz
  have hD := hD0.self (sz := s.heap.size)
  generalize hAe : va_A ([(dp, .inr (11, .ref lg :: .ref nw :: dv)), (lg, .inr (2, [lfi, lst, ltr, llk])), (nw, .inr (1, .int 0 :: n1 :: n2 :: .ref tp :: nv)), (tp, .inr (8, [tpc, .int 0]))]) s.heap.size = A at hD ⊢
  have hA : ∀ q : Nat, s.heap.size ≤ q → A q := fun q h => by rw [← hAe]; exact Or.inr h
  have hS : va_S A s.heap s.heap [] := va_S.rf
  have hP : va_P G.1 vwCl ([(dp, .inr (11, .ref lg :: .ref nw :: dv)), (lg, .inr (2, [lfi, lst, ltr, llk])), (nw, .inr (1, .int 0 :: n1 :: n2 :: .ref tp :: nv)), (tp, .inr (8, [tpc, .int 0]))]) s.heap := hP
  have hl := lv_entry ([.ref dp, .int x1, .int x2]) (n := 3) (Nat.le_of_ble_eq_true rfl)
  rw [lg_entry_eq]
  generalize (lg_sl ([.ref dp, .int x1, .int x2]) ++ List.replicate (3 - (lg_sl ([.ref dp, .int x1, .int x2])).length) Slot.unset).toArray = ls at hl ⊢
  have hl : lv_has ls 3 [(0, .ref dp), (1, .int x1), (2, .int x2)] := hl
  refine lv_aload_n hx hb dX11_part_0 rfl (lv_at hl 0 rfl) ?_
  refine va_get (D := G.1) (ci := 11) (v := .ref nw) (C := RX11) (T := TX11) (N := 14) hx hb ht inlX11 hown hK.1 hP 0 rfl rfl 1 (by decide) (ht (Cond.fieldLink RX11 19 "PloughDepot" "now" "LPloughDepot$Books;") mw_1_19) (fun _ h9 => h9) rfl dX11_part_1 ?_
  refine va_get (D := G.1) (ci := 1) (v := .ref tp) (C := RX1) (T := TX1) (N := 8) hx hb ht inlX1 hown hK.1 hP 2 rfl rfl 3 (by decide) (ht (Cond.fieldLink RX11 203 "PloughDepot$Books" "ploughs" "LPloughDepot$Table;") mw_29_16) (fun _ h9 => h9) rfl dX11_part_4 ?_
  refine lv_iload_n hx hb dX11_part_7 rfl (lv_at hl 1 rfl) ?_
  have hPc := hP.sub (ws' := [(tp, .inr (8, [tpc, .int 0]))]) [3] rfl
  have hDc := hD.sub (ws' := [(tp, .inr (8, [tpc, .int 0]))]) [3] (by decide) rfl
  have hFc := va_free (wc := [(tp, .inr (8, [tpc, .int 0]))]) hD hS hA [3] rfl
  refine va_calli (va_runV (As := [.int x1]) (rest := []) ⟨hx, hb, hml, hown, hts⟩ (k_has l G _ tp x1 tpc ) (cwV 1 hts (gd_V mw_13_22 mw_13_23 mw_14_0 mw_3_13 mw_14_1) rfl rfl rfl ⟨rfl, yk_X8_has⟩ ⟨Nat.le_of_ble_eq_true rfl, Nat.le_of_ble_eq_true rfl⟩) (c0_preV (q0 := 0) (ci := 8) (q := (RX8, TX8, 2)) hPc hK hDc rfl rfl) rfl rfl hl.1 rfl (lv_room (Nat.le_of_ble_eq_true rfl)) dX11_part_8 ⟨Nat.le_of_ble_eq_true rfl, Nat.le_of_ble_eq_true rfl⟩) hS (fun q _ h => hFc q h) hFc (fun r_1 u t H1 locs ht1 hvm hw hB hz1 hk1 hS => ?_)
  try dsimp only at hw hB
  have hr1 := hw
  obtain rfl := hr1.symm
  obtain ⟨hP1, hD1⟩ := hB
  rw [ht1] at hP1
  obtain ⟨hP, hD⟩ := va_join (wr := [(dp, .inr (11, .ref lg :: .ref nw :: dv)), (lg, .inr (2, [lfi, lst, ltr, llk])), (nw, .inr (1, .int 0 :: n1 :: n2 :: .ref tp :: nv))]) (w1 := [(tp, .inr (8, [tpc, .int 0]))]) hP hD [3] [0, 1, 2] rfl rfl (by decide) (by decide) hk1 hFc hP1 hD1
  generalize H1 = H at hP hS ⊢
  have hP : va_P G.1 vwCl ([(dp, .inr (11, .ref lg :: .ref nw :: dv)), (lg, .inr (2, [lfi, lst, ltr, llk])), (nw, .inr (1, .int 0 :: n1 :: n2 :: .ref tp :: nv)), (tp, .inr (8, [tpc, .int 0]))]) H := hP
  have hD : va_D A ([(dp, .inr (11, .ref lg :: .ref nw :: dv)), (lg, .inr (2, [lfi, lst, ltr, llk])), (nw, .inr (1, .int 0 :: n1 :: n2 :: .ref tp :: nv)), (tp, .inr (8, [tpc, .int 0]))]) := hD
  refine lv_if_eq (tgt := 24) hx hb dX11_part_11 (by decide) (fun c_2 => ?_) (fun c_2 => ?_)
  · refine lv_aload_n hx hb dX11_part_24 rfl (lv_at hl 0 rfl) ?_
    refine lv_bipush (v := (-2)) hx hb dX11_part_25 (by decide) ?_
    have hPc := hP.sub (ws' := [(dp, .inr (11, .ref lg :: .ref nw :: dv)), (lg, .inr (2, [lfi, lst, ltr, llk]))]) [0, 1] rfl
    have hDc := hD.sub (ws' := [(dp, .inr (11, .ref lg :: .ref nw :: dv)), (lg, .inr (2, [lfi, lst, ltr, llk]))]) [0, 1] (by decide) rfl
    have hFc := va_free (wc := [(dp, .inr (11, .ref lg :: .ref nw :: dv)), (lg, .inr (2, [lfi, lst, ltr, llk]))]) hD hS hA [0, 1] rfl
    refine va_calli (va_runV (As := [.int (-2)]) (rest := []) ⟨hx, hb, hml, hown, hts⟩ (k_refuse_m2 l G _ dp lg (.ref nw :: dv) lfi lst ltr llk ) (cwV 1 hts (gd_V mw_7_22 mw_7_23 mw_8_0 mw_1_2 mw_8_1) rfl rfl rfl ⟨rfl, yk_X11_refuse⟩ ⟨Nat.le_of_ble_eq_true rfl, Nat.le_of_ble_eq_true rfl⟩) (c0_preV (q0 := 0) (ci := 11) (q := (RX11, TX11, 14)) hPc hK hDc rfl rfl) rfl rfl hl.1 rfl (lv_room (Nat.le_of_ble_eq_true rfl)) dX11_part_27 ⟨Nat.le_of_ble_eq_true rfl, Nat.le_of_ble_eq_true rfl⟩) hS (fun q _ h => hFc q h) hFc (fun r_3 u t H1 locs ht1 hvm hw hB hz1 hk1 hS => ?_)
    try dsimp only at hw hB
    have hr3 := hw
    obtain rfl := hr3.symm
    obtain ⟨hP1, hD1⟩ := hB
    rw [ht1] at hP1
    obtain ⟨hP, hD⟩ := va_join (wr := [(nw, .inr (1, .int 0 :: n1 :: n2 :: .ref tp :: nv)), (tp, .inr (8, [tpc, .int 0]))]) (w1 := [(dp, .inr (11, .ref lg :: .ref nw :: dv)), (lg, .inr (2, [lfi, .int (-2), ltr, llk]))]) hP hD [0, 1] [2, 3] rfl rfl (by decide) (by decide) hk1 hFc hP1 hD1
    generalize H1 = H at hP hS ⊢
    have hP : va_P G.1 vwCl ([(nw, .inr (1, .int 0 :: n1 :: n2 :: .ref tp :: nv)), (tp, .inr (8, [tpc, .int 0])), (dp, .inr (11, .ref lg :: .ref nw :: dv)), (lg, .inr (2, [lfi, .int (-2), ltr, llk]))]) H := hP
    have hD : va_D A ([(nw, .inr (1, .int 0 :: n1 :: n2 :: .ref tp :: nv)), (tp, .inr (8, [tpc, .int 0])), (dp, .inr (11, .ref lg :: .ref nw :: dv)), (lg, .inr (2, [lfi, .int (-2), ltr, llk]))]) := hD
    exact W.iret (v := (-2)) hx hb hr (fun t ht hW => ⟨⟨(-2), (), rfl, rfl, trivial⟩, hS.F ht⟩) hS.2.2 dX11_part_30
  · exact absurd c_2 (by decide)

set_option maxHeartbeats 4000000 in
set_option maxRecDepth 100000 in
theorem k_go (l : Launch) (G : GG) (sz : Nat) (dp : Nat) (x1 : Int32) (x2 : Int32) (lg : Nat) (nw : Nat) (dv : List Value) (lfi : Value) (lst : Value) (ltr : Value) (llk : Value) (n1 : Value) (n2 : Value) (tp : Nat) (nv : List Value) (tpc : Value)  : Met l yX11_go (.code yX11_go cX11_go 4 (some .int) :: TT) ({ frames := 3, cells := 0, slots := 0, locals := 300 } : Room) (c0_P G [.ref dp, .int x1, .int x2] sz ([(dp, .inr (11, .ref lg :: .ref nw :: dv)), (lg, .inr (2, [lfi, lst, ltr, llk])), (nw, .inr (1, .int 0 :: n1 :: n2 :: .ref tp :: nv)), (tp, .inr (8, [tpc, .int 0]))])) (va_Qi (S := Unit) (fun (r : Int32) (u : Unit) => r = (-2)) (fun (u : Unit) (t : State) => True) (va_A ([(dp, .inr (11, .ref lg :: .ref nw :: dv)), (lg, .inr (2, [lfi, lst, ltr, llk])), (nw, .inr (1, .int 0 :: n1 :: n2 :: .ref tp :: nv)), (tp, .inr (8, [tpc, .int 0]))]) sz)) 0 0 (va_A ([(dp, .inr (11, .ref lg :: .ref nw :: dv)), (lg, .inr (2, [lfi, lst, ltr, llk])), (nw, .inr (1, .int 0 :: n1 :: n2 :: .ref tp :: nv)), (tp, .inr (8, [tpc, .int 0]))]) sz) := by
  refine Met.ofW (cc := cX11_go) (maxL := 4) (ret := (some .int)) (by decide) rfl ?_
  intro p e s m args below meth c s₁ B hml hv
  obtain ⟨rfl, hsz, hP, hK, hD0⟩ := hv
  have hx := B.exec
  have hb := B.bytes
  have hr := B.returns
  have hts := atoms_spec (ws := .code yX11_go cX11_go 4 (some .int) :: TT) B.pre
  have ht := fun (w : Cond) (h : w ∈ TT) => hts w (List.mem_cons_of_mem _ h)
  have hown : s.vm.findClass RX11 = some m.cls := findClass_of_methodNamed B.named
  have hlocks := B.notSynchronized
  subst hsz
  have hD := hD0.self (sz := s.heap.size)
  generalize hAe : va_A ([(dp, .inr (11, .ref lg :: .ref nw :: dv)), (lg, .inr (2, [lfi, lst, ltr, llk])), (nw, .inr (1, .int 0 :: n1 :: n2 :: .ref tp :: nv)), (tp, .inr (8, [tpc, .int 0]))]) s.heap.size = A at hD ⊢
  have hA : ∀ q : Nat, s.heap.size ≤ q → A q := fun q h => by rw [← hAe]; exact Or.inr h
  have hS : va_S A s.heap s.heap [] := va_S.rf
  have hP : va_P G.1 vwCl ([(dp, .inr (11, .ref lg :: .ref nw :: dv)), (lg, .inr (2, [lfi, lst, ltr, llk])), (nw, .inr (1, .int 0 :: n1 :: n2 :: .ref tp :: nv)), (tp, .inr (8, [tpc, .int 0]))]) s.heap := hP
  have hl := lv_entry ([.ref dp, .int x1, .int x2]) (n := 4) (Nat.le_of_ble_eq_true rfl)
  rw [lg_entry_eq]
  generalize (lg_sl ([.ref dp, .int x1, .int x2]) ++ List.replicate (4 - (lg_sl ([.ref dp, .int x1, .int x2])).length) Slot.unset).toArray = ls at hl ⊢
  have hl : lv_has ls 4 [(0, .ref dp), (1, .int x1), (2, .int x2)] := hl
  refine lv_aload_n hx hb dX11_go_0 rfl (lv_at hl 0 rfl) ?_
  refine va_get (D := G.1) (ci := 11) (v := .ref nw) (C := RX11) (T := TX11) (N := 14) hx hb ht inlX11 hown hK.1 hP 0 rfl rfl 1 (by decide) (ht (Cond.fieldLink RX11 19 "PloughDepot" "now" "LPloughDepot$Books;") mw_1_19) (fun _ h9 => h9) rfl dX11_go_1 ?_
  refine va_get (D := G.1) (ci := 1) (v := .ref tp) (C := RX1) (T := TX1) (N := 8) hx hb ht inlX1 hown hK.1 hP 2 rfl rfl 3 (by decide) (ht (Cond.fieldLink RX11 203 "PloughDepot$Books" "ploughs" "LPloughDepot$Table;") mw_29_16) (fun _ h9 => h9) rfl dX11_go_4 ?_
  refine lv_iload_n hx hb dX11_go_7 rfl (lv_at hl 1 rfl) ?_
  have hPc := hP.sub (ws' := [(tp, .inr (8, [tpc, .int 0]))]) [3] rfl
  have hDc := hD.sub (ws' := [(tp, .inr (8, [tpc, .int 0]))]) [3] (by decide) rfl
  have hFc := va_free (wc := [(tp, .inr (8, [tpc, .int 0]))]) hD hS hA [3] rfl
  refine va_calli (va_runV (As := [.int x1]) (rest := []) ⟨hx, hb, hml, hown, hts⟩ (k_has l G _ tp x1 tpc ) (cwV 1 hts (gd_V mw_13_22 mw_13_23 mw_14_0 mw_3_13 mw_14_1) rfl rfl rfl ⟨rfl, yk_X8_has⟩ ⟨Nat.le_of_ble_eq_true rfl, Nat.le_of_ble_eq_true rfl⟩) (c0_preV (q0 := 0) (ci := 8) (q := (RX8, TX8, 2)) hPc hK hDc rfl rfl) rfl rfl hl.1 rfl (lv_room (Nat.le_of_ble_eq_true rfl)) dX11_go_8 ⟨Nat.le_of_ble_eq_true rfl, Nat.le_of_ble_eq_true rfl⟩) hS (fun q _ h => hFc q h) hFc (fun r_1 u t H1 locs ht1 hvm hw hB hz1 hk1 hS => ?_)
  try dsimp only at hw hB
  have hr1 := hw
  obtain rfl := hr1.symm
  obtain ⟨hP1, hD1⟩ := hB
  rw [ht1] at hP1
  obtain ⟨hP, hD⟩ := va_join (wr := [(dp, .inr (11, .ref lg :: .ref nw :: dv)), (lg, .inr (2, [lfi, lst, ltr, llk])), (nw, .inr (1, .int 0 :: n1 :: n2 :: .ref tp :: nv))]) (w1 := [(tp, .inr (8, [tpc, .int 0]))]) hP hD [3] [0, 1, 2] rfl rfl (by decide) (by decide) hk1 hFc hP1 hD1
  generalize H1 = H at hP hS ⊢
  have hP : va_P G.1 vwCl ([(dp, .inr (11, .ref lg :: .ref nw :: dv)), (lg, .inr (2, [lfi, lst, ltr, llk])), (nw, .inr (1, .int 0 :: n1 :: n2 :: .ref tp :: nv)), (tp, .inr (8, [tpc, .int 0]))]) H := hP
  have hD : va_D A ([(dp, .inr (11, .ref lg :: .ref nw :: dv)), (lg, .inr (2, [lfi, lst, ltr, llk])), (nw, .inr (1, .int 0 :: n1 :: n2 :: .ref tp :: nv)), (tp, .inr (8, [tpc, .int 0]))]) := hD
  refine lv_if_eq (tgt := 25) hx hb dX11_go_11 (by decide) (fun c_2 => ?_) (fun c_2 => ?_)
  · refine lv_aload_n hx hb dX11_go_25 rfl (lv_at hl 0 rfl) ?_
    refine lv_bipush (v := (-2)) hx hb dX11_go_26 (by decide) ?_
    have hPc := hP.sub (ws' := [(dp, .inr (11, .ref lg :: .ref nw :: dv)), (lg, .inr (2, [lfi, lst, ltr, llk]))]) [0, 1] rfl
    have hDc := hD.sub (ws' := [(dp, .inr (11, .ref lg :: .ref nw :: dv)), (lg, .inr (2, [lfi, lst, ltr, llk]))]) [0, 1] (by decide) rfl
    have hFc := va_free (wc := [(dp, .inr (11, .ref lg :: .ref nw :: dv)), (lg, .inr (2, [lfi, lst, ltr, llk]))]) hD hS hA [0, 1] rfl
    refine va_calli (va_runV (As := [.int (-2)]) (rest := []) ⟨hx, hb, hml, hown, hts⟩ (k_refuse_m2 l G _ dp lg (.ref nw :: dv) lfi lst ltr llk ) (cwV 1 hts (gd_V mw_7_22 mw_7_23 mw_8_0 mw_1_2 mw_8_1) rfl rfl rfl ⟨rfl, yk_X11_refuse⟩ ⟨Nat.le_of_ble_eq_true rfl, Nat.le_of_ble_eq_true rfl⟩) (c0_preV (q0 := 0) (ci := 11) (q := (RX11, TX11, 14)) hPc hK hDc rfl rfl) rfl rfl hl.1 rfl (lv_room (Nat.le_of_ble_eq_true rfl)) dX11_go_28 ⟨Nat.le_of_ble_eq_true rfl, Nat.le_of_ble_eq_true rfl⟩) hS (fun q _ h => hFc q h) hFc (fun r_3 u t H1 locs ht1 hvm hw hB hz1 hk1 hS => ?_)
    try dsimp only at hw hB
    have hr3 := hw
    obtain rfl := hr3.symm
    obtain ⟨hP1, hD1⟩ := hB
    rw [ht1] at hP1
    obtain ⟨hP, hD⟩ := va_join (wr := [(nw, .inr (1, .int 0 :: n1 :: n2 :: .ref tp :: nv)), (tp, .inr (8, [tpc, .int 0]))]) (w1 := [(dp, .inr (11, .ref lg :: .ref nw :: dv)), (lg, .inr (2, [lfi, .int (-2), ltr, llk]))]) hP hD [0, 1] [2, 3] rfl rfl (by decide) (by decide) hk1 hFc hP1 hD1
    generalize H1 = H at hP hS ⊢
    have hP : va_P G.1 vwCl ([(nw, .inr (1, .int 0 :: n1 :: n2 :: .ref tp :: nv)), (tp, .inr (8, [tpc, .int 0])), (dp, .inr (11, .ref lg :: .ref nw :: dv)), (lg, .inr (2, [lfi, .int (-2), ltr, llk]))]) H := hP
    have hD : va_D A ([(nw, .inr (1, .int 0 :: n1 :: n2 :: .ref tp :: nv)), (tp, .inr (8, [tpc, .int 0])), (dp, .inr (11, .ref lg :: .ref nw :: dv)), (lg, .inr (2, [lfi, .int (-2), ltr, llk]))]) := hD
    exact W.iret (v := (-2)) hx hb hr (fun t ht hW => ⟨⟨(-2), (), rfl, rfl, trivial⟩, hS.F ht⟩) hS.2.2 dX11_go_31
  · exact absurd c_2 (by decide)

set_option maxHeartbeats 4000000 in
set_option maxRecDepth 100000 in
theorem k_at (l : Launch) (G : GG) (sz : Nat) (dp : Nat) (x1 : Int32) (x2 : Int32) (lg : Nat) (nw : Nat) (dv : List Value) (lfi : Value) (lst : Value) (ltr : Value) (llk : Value) (n1 : Value) (n2 : Value) (n3 : Value) (td : Nat) (nv : List Value) (tdc : Value)  : Met l yX11_at (.code yX11_at cX11_at 3 (some .int) :: TT) ({ frames := 3, cells := 0, slots := 0, locals := 300 } : Room) (c0_P G [.ref dp, .int x1, .int x2] sz ([(dp, .inr (11, .ref lg :: .ref nw :: dv)), (lg, .inr (2, [lfi, lst, ltr, llk])), (nw, .inr (1, .int 0 :: n1 :: n2 :: n3 :: .ref td :: nv)), (td, .inr (8, [tdc, .int 0]))])) (va_Qi (S := Unit) (fun (r : Int32) (u : Unit) => r = sp_at x2) (fun (u : Unit) (t : State) => True) (va_A ([(dp, .inr (11, .ref lg :: .ref nw :: dv)), (lg, .inr (2, [lfi, lst, ltr, llk])), (nw, .inr (1, .int 0 :: n1 :: n2 :: n3 :: .ref td :: nv)), (td, .inr (8, [tdc, .int 0]))]) sz)) 0 0 (va_A ([(dp, .inr (11, .ref lg :: .ref nw :: dv)), (lg, .inr (2, [lfi, lst, ltr, llk])), (nw, .inr (1, .int 0 :: n1 :: n2 :: n3 :: .ref td :: nv)), (td, .inr (8, [tdc, .int 0]))]) sz) := by
  refine Met.ofW (cc := cX11_at) (maxL := 3) (ret := (some .int)) (by decide) rfl ?_
  intro p e s m args below meth c s₁ B hml hv
  obtain ⟨rfl, hsz, hP, hK, hD0⟩ := hv
  have hx := B.exec
  have hb := B.bytes
  have hr := B.returns
  have hts := atoms_spec (ws := .code yX11_at cX11_at 3 (some .int) :: TT) B.pre
  have ht := fun (w : Cond) (h : w ∈ TT) => hts w (List.mem_cons_of_mem _ h)
  have hown : s.vm.findClass RX11 = some m.cls := findClass_of_methodNamed B.named
  have hlocks := B.notSynchronized
  subst hsz
  have hD := hD0.self (sz := s.heap.size)
  generalize hAe : va_A ([(dp, .inr (11, .ref lg :: .ref nw :: dv)), (lg, .inr (2, [lfi, lst, ltr, llk])), (nw, .inr (1, .int 0 :: n1 :: n2 :: n3 :: .ref td :: nv)), (td, .inr (8, [tdc, .int 0]))]) s.heap.size = A at hD ⊢
  have hA : ∀ q : Nat, s.heap.size ≤ q → A q := fun q h => by rw [← hAe]; exact Or.inr h
  have hS : va_S A s.heap s.heap [] := va_S.rf
  have hP : va_P G.1 vwCl ([(dp, .inr (11, .ref lg :: .ref nw :: dv)), (lg, .inr (2, [lfi, lst, ltr, llk])), (nw, .inr (1, .int 0 :: n1 :: n2 :: n3 :: .ref td :: nv)), (td, .inr (8, [tdc, .int 0]))]) s.heap := hP
  have hl := lv_entry ([.ref dp, .int x1, .int x2]) (n := 3) (Nat.le_of_ble_eq_true rfl)
  rw [lg_entry_eq]
  generalize (lg_sl ([.ref dp, .int x1, .int x2]) ++ List.replicate (3 - (lg_sl ([.ref dp, .int x1, .int x2])).length) Slot.unset).toArray = ls at hl ⊢
  have hl : lv_has ls 3 [(0, .ref dp), (1, .int x1), (2, .int x2)] := hl
  refine lv_iload_n hx hb dX11_at_0 rfl (lv_at hl 2 rfl) ?_
  refine lv_if_lt (tgt := 9) hx hb dX11_at_1 (by decide) (fun c_1 => ?_) (fun c_1 => ?_)
  · refine lv_aload_n hx hb dX11_at_9 rfl (lv_at hl 0 rfl) ?_
    refine lv_bipush (v := (-2)) hx hb dX11_at_10 (by decide) ?_
    have hPc := hP.sub (ws' := [(dp, .inr (11, .ref lg :: .ref nw :: dv)), (lg, .inr (2, [lfi, lst, ltr, llk]))]) [0, 1] rfl
    have hDc := hD.sub (ws' := [(dp, .inr (11, .ref lg :: .ref nw :: dv)), (lg, .inr (2, [lfi, lst, ltr, llk]))]) [0, 1] (by decide) rfl
    have hFc := va_free (wc := [(dp, .inr (11, .ref lg :: .ref nw :: dv)), (lg, .inr (2, [lfi, lst, ltr, llk]))]) hD hS hA [0, 1] rfl
    refine va_calli (va_runV (As := [.int (-2)]) (rest := []) ⟨hx, hb, hml, hown, hts⟩ (k_refuse_m2 l G _ dp lg (.ref nw :: dv) lfi lst ltr llk ) (cwV 1 hts (gd_V mw_7_22 mw_7_23 mw_8_0 mw_1_2 mw_8_1) rfl rfl rfl ⟨rfl, yk_X11_refuse⟩ ⟨Nat.le_of_ble_eq_true rfl, Nat.le_of_ble_eq_true rfl⟩) (c0_preV (q0 := 0) (ci := 11) (q := (RX11, TX11, 14)) hPc hK hDc rfl rfl) rfl rfl hl.1 rfl (lv_room (Nat.le_of_ble_eq_true rfl)) dX11_at_12 ⟨Nat.le_of_ble_eq_true rfl, Nat.le_of_ble_eq_true rfl⟩) hS (fun q _ h => hFc q h) hFc (fun r_2 u t H1 locs ht1 hvm hw hB hz1 hk1 hS => ?_)
    try dsimp only at hw hB
    have hr2 := hw
    obtain rfl := hr2.symm
    obtain ⟨hP1, hD1⟩ := hB
    rw [ht1] at hP1
    obtain ⟨hP, hD⟩ := va_join (wr := [(nw, .inr (1, .int 0 :: n1 :: n2 :: n3 :: .ref td :: nv)), (td, .inr (8, [tdc, .int 0]))]) (w1 := [(dp, .inr (11, .ref lg :: .ref nw :: dv)), (lg, .inr (2, [lfi, .int (-2), ltr, llk]))]) hP hD [0, 1] [2, 3] rfl rfl (by decide) (by decide) hk1 hFc hP1 hD1
    generalize H1 = H at hP hS ⊢
    have hP : va_P G.1 vwCl ([(nw, .inr (1, .int 0 :: n1 :: n2 :: n3 :: .ref td :: nv)), (td, .inr (8, [tdc, .int 0])), (dp, .inr (11, .ref lg :: .ref nw :: dv)), (lg, .inr (2, [lfi, .int (-2), ltr, llk]))]) H := hP
    have hD : va_D A ([(nw, .inr (1, .int 0 :: n1 :: n2 :: n3 :: .ref td :: nv)), (td, .inr (8, [tdc, .int 0])), (dp, .inr (11, .ref lg :: .ref nw :: dv)), (lg, .inr (2, [lfi, .int (-2), ltr, llk]))]) := hD
    exact W.iret (v := (-2)) hx hb hr (fun t ht hW => ⟨⟨(-2), (), rfl, (by unfold sp_at; split <;> rename_i hc9 <;> first | rfl | (exfalso; simp only [fa_lt, fa_le, fa_eq] at hc9 c_1; have n0 : (0 : Int32).toInt = 0 := (by decide); have n3 : (3 : Int32).toInt = 3 := (by decide); omega)), trivial⟩, hS.F ht⟩) hS.2.2 dX11_at_15
  · refine lv_iload_n hx hb dX11_at_4 rfl (lv_at hl 2 rfl) ?_
    refine lv_iconst (v := 4) hx hb dX11_at_5 (by decide) ?_
    refine lv_icmp_lt (tgt := 16) hx hb dX11_at_6 (by decide) (fun c_3 => ?_) (fun c_3 => ?_)
    · refine lv_aload_n hx hb dX11_at_16 rfl (lv_at hl 0 rfl) ?_
      refine lv_aload_n hx hb dX11_at_17 rfl (lv_at hl 0 rfl) ?_
      refine va_get (D := G.1) (ci := 11) (v := .ref nw) (C := RX11) (T := TX11) (N := 14) hx hb ht inlX11 hown hK.1 hP 0 rfl rfl 1 (by decide) (ht (Cond.fieldLink RX11 19 "PloughDepot" "now" "LPloughDepot$Books;") mw_1_19) (fun _ h9 => h9) rfl dX11_at_18 ?_
      refine va_get (D := G.1) (ci := 1) (v := .ref td) (C := RX1) (T := TX1) (N := 8) hx hb ht inlX1 hown hK.1 hP 2 rfl rfl 4 (by decide) (ht (Cond.fieldLink RX11 274 "PloughDepot$Books" "drives" "LPloughDepot$Table;") mw_43_7) (fun _ h9 => h9) rfl dX11_at_21 ?_
      refine lv_iload_n hx hb dX11_at_24 rfl (lv_at hl 1 rfl) ?_
      have hPc := hP.sub (ws' := [(td, .inr (8, [tdc, .int 0]))]) [3] rfl
      have hDc := hD.sub (ws' := [(td, .inr (8, [tdc, .int 0]))]) [3] (by decide) rfl
      have hFc := va_free (wc := [(td, .inr (8, [tdc, .int 0]))]) hD hS hA [3] rfl
      refine va_calli (va_runV (As := [.int x1]) (rest := [.ref dp]) ⟨hx, hb, hml, hown, hts⟩ (k_has l G _ td x1 tdc ) (cwV 1 hts (gd_V mw_13_22 mw_13_23 mw_14_0 mw_3_13 mw_14_1) rfl rfl rfl ⟨rfl, yk_X8_has⟩ ⟨Nat.le_of_ble_eq_true rfl, Nat.le_of_ble_eq_true rfl⟩) (c0_preV (q0 := 0) (ci := 8) (q := (RX8, TX8, 2)) hPc hK hDc rfl rfl) rfl rfl hl.1 rfl (lv_room (Nat.le_of_ble_eq_true rfl)) dX11_at_25 ⟨Nat.le_of_ble_eq_true rfl, Nat.le_of_ble_eq_true rfl⟩) hS (fun q _ h => hFc q h) hFc (fun r_4 u t H1 locs ht1 hvm hw hB hz1 hk1 hS => ?_)
      try dsimp only at hw hB
      have hr4 := hw
      obtain rfl := hr4.symm
      obtain ⟨hP1, hD1⟩ := hB
      rw [ht1] at hP1
      obtain ⟨hP, hD⟩ := va_join (wr := [(dp, .inr (11, .ref lg :: .ref nw :: dv)), (lg, .inr (2, [lfi, lst, ltr, llk])), (nw, .inr (1, .int 0 :: n1 :: n2 :: n3 :: .ref td :: nv))]) (w1 := [(td, .inr (8, [tdc, .int 0]))]) hP hD [3] [0, 1, 2] rfl rfl (by decide) (by decide) hk1 hFc hP1 hD1
      generalize H1 = H at hP hS ⊢
      have hP : va_P G.1 vwCl ([(dp, .inr (11, .ref lg :: .ref nw :: dv)), (lg, .inr (2, [lfi, lst, ltr, llk])), (nw, .inr (1, .int 0 :: n1 :: n2 :: n3 :: .ref td :: nv)), (td, .inr (8, [tdc, .int 0]))]) H := hP
      have hD : va_D A ([(dp, .inr (11, .ref lg :: .ref nw :: dv)), (lg, .inr (2, [lfi, lst, ltr, llk])), (nw, .inr (1, .int 0 :: n1 :: n2 :: n3 :: .ref td :: nv)), (td, .inr (8, [tdc, .int 0]))]) := hD
      refine lv_if_eq (tgt := 46) hx hb dX11_at_28 (by decide) (fun c_5 => ?_) (fun c_5 => ?_)
      · refine lv_iconst (v := (-1)) hx hb dX11_at_46 (by decide) ?_
        have hPc := hP.sub (ws' := [(dp, .inr (11, .ref lg :: .ref nw :: dv)), (lg, .inr (2, [lfi, lst, ltr, llk]))]) [0, 1] rfl
        have hDc := hD.sub (ws' := [(dp, .inr (11, .ref lg :: .ref nw :: dv)), (lg, .inr (2, [lfi, lst, ltr, llk]))]) [0, 1] (by decide) rfl
        have hFc := va_free (wc := [(dp, .inr (11, .ref lg :: .ref nw :: dv)), (lg, .inr (2, [lfi, lst, ltr, llk]))]) hD hS hA [0, 1] rfl
        refine va_calli (va_runV (As := [.int (-1)]) (rest := []) ⟨hx, hb, hml, hown, hts⟩ (k_answer l G _ dp (-1) lg (.ref nw :: dv) lfi lst ltr llk ) (cwV 1 hts (gd_V mw_11_2 mw_11_3 mw_11_4 mw_1_2 mw_11_5) rfl rfl rfl ⟨rfl, yk_X11_answer⟩ ⟨Nat.le_of_ble_eq_true rfl, Nat.le_of_ble_eq_true rfl⟩) (c0_preV (q0 := 0) (ci := 11) (q := (RX11, TX11, 14)) hPc hK hDc rfl rfl) rfl rfl hl.1 rfl (lv_room (Nat.le_of_ble_eq_true rfl)) dX11_at_47 ⟨Nat.le_of_ble_eq_true rfl, Nat.le_of_ble_eq_true rfl⟩) hS (fun q _ h => hFc q h) hFc (fun r_6 u t H1 locs ht1 hvm hw hB hz1 hk1 hS => ?_)
        try dsimp only at hw hB
        have hr6 := hw
        obtain rfl := hr6.symm
        obtain ⟨hP1, hD1⟩ := hB
        rw [ht1] at hP1
        obtain ⟨hP, hD⟩ := va_join (wr := [(nw, .inr (1, .int 0 :: n1 :: n2 :: n3 :: .ref td :: nv)), (td, .inr (8, [tdc, .int 0]))]) (w1 := [(dp, .inr (11, .ref lg :: .ref nw :: dv)), (lg, .inr (2, [lfi, .int 0, ltr, llk]))]) hP hD [0, 1] [2, 3] rfl rfl (by decide) (by decide) hk1 hFc hP1 hD1
        generalize H1 = H at hP hS ⊢
        have hP : va_P G.1 vwCl ([(nw, .inr (1, .int 0 :: n1 :: n2 :: n3 :: .ref td :: nv)), (td, .inr (8, [tdc, .int 0])), (dp, .inr (11, .ref lg :: .ref nw :: dv)), (lg, .inr (2, [lfi, .int 0, ltr, llk]))]) H := hP
        have hD : va_D A ([(nw, .inr (1, .int 0 :: n1 :: n2 :: n3 :: .ref td :: nv)), (td, .inr (8, [tdc, .int 0])), (dp, .inr (11, .ref lg :: .ref nw :: dv)), (lg, .inr (2, [lfi, .int 0, ltr, llk]))]) := hD
        exact W.iret (v := (-1)) hx hb hr (fun t ht hW => ⟨⟨(-1), (), rfl, (by unfold sp_at; split <;> rename_i hc9 <;> first | rfl | (exfalso; simp only [fa_lt, fa_le, fa_eq] at hc9 c_1 c_3 c_5; have n0 : (0 : Int32).toInt = 0 := (by decide); have n3 : (3 : Int32).toInt = 3 := (by decide); have n4 : (4 : Int32).toInt = 4 := (by decide); omega)), trivial⟩, hS.F ht⟩) hS.2.2 dX11_at_50
      · exact absurd c_5 (by decide)
    · refine lv_aload_n hx hb dX11_at_9 rfl (lv_at hl 0 rfl) ?_
      refine lv_bipush (v := (-2)) hx hb dX11_at_10 (by decide) ?_
      have hPc := hP.sub (ws' := [(dp, .inr (11, .ref lg :: .ref nw :: dv)), (lg, .inr (2, [lfi, lst, ltr, llk]))]) [0, 1] rfl
      have hDc := hD.sub (ws' := [(dp, .inr (11, .ref lg :: .ref nw :: dv)), (lg, .inr (2, [lfi, lst, ltr, llk]))]) [0, 1] (by decide) rfl
      have hFc := va_free (wc := [(dp, .inr (11, .ref lg :: .ref nw :: dv)), (lg, .inr (2, [lfi, lst, ltr, llk]))]) hD hS hA [0, 1] rfl
      refine va_calli (va_runV (As := [.int (-2)]) (rest := []) ⟨hx, hb, hml, hown, hts⟩ (k_refuse_m2 l G _ dp lg (.ref nw :: dv) lfi lst ltr llk ) (cwV 1 hts (gd_V mw_7_22 mw_7_23 mw_8_0 mw_1_2 mw_8_1) rfl rfl rfl ⟨rfl, yk_X11_refuse⟩ ⟨Nat.le_of_ble_eq_true rfl, Nat.le_of_ble_eq_true rfl⟩) (c0_preV (q0 := 0) (ci := 11) (q := (RX11, TX11, 14)) hPc hK hDc rfl rfl) rfl rfl hl.1 rfl (lv_room (Nat.le_of_ble_eq_true rfl)) dX11_at_12 ⟨Nat.le_of_ble_eq_true rfl, Nat.le_of_ble_eq_true rfl⟩) hS (fun q _ h => hFc q h) hFc (fun r_7 u t H1 locs ht1 hvm hw hB hz1 hk1 hS => ?_)
      try dsimp only at hw hB
      have hr7 := hw
      obtain rfl := hr7.symm
      obtain ⟨hP1, hD1⟩ := hB
      rw [ht1] at hP1
      obtain ⟨hP, hD⟩ := va_join (wr := [(nw, .inr (1, .int 0 :: n1 :: n2 :: n3 :: .ref td :: nv)), (td, .inr (8, [tdc, .int 0]))]) (w1 := [(dp, .inr (11, .ref lg :: .ref nw :: dv)), (lg, .inr (2, [lfi, .int (-2), ltr, llk]))]) hP hD [0, 1] [2, 3] rfl rfl (by decide) (by decide) hk1 hFc hP1 hD1
      generalize H1 = H at hP hS ⊢
      have hP : va_P G.1 vwCl ([(nw, .inr (1, .int 0 :: n1 :: n2 :: n3 :: .ref td :: nv)), (td, .inr (8, [tdc, .int 0])), (dp, .inr (11, .ref lg :: .ref nw :: dv)), (lg, .inr (2, [lfi, .int (-2), ltr, llk]))]) H := hP
      have hD : va_D A ([(nw, .inr (1, .int 0 :: n1 :: n2 :: n3 :: .ref td :: nv)), (td, .inr (8, [tdc, .int 0])), (dp, .inr (11, .ref lg :: .ref nw :: dv)), (lg, .inr (2, [lfi, .int (-2), ltr, llk]))]) := hD
      exact W.iret (v := (-2)) hx hb hr (fun t ht hW => ⟨⟨(-2), (), rfl, (by unfold sp_at; split <;> rename_i hc9 <;> first | rfl | (exfalso; simp only [fa_lt, fa_le, fa_eq] at hc9 c_1 c_3; have n0 : (0 : Int32).toInt = 0 := (by decide); have n3 : (3 : Int32).toInt = 3 := (by decide); have n4 : (4 : Int32).toInt = 4 := (by decide); omega)), trivial⟩, hS.F ht⟩) hS.2.2 dX11_at_15

set_option maxHeartbeats 4000000 in
set_option maxRecDepth 100000 in
theorem k_length (l : Launch) (G : GG) (sz : Nat) (dp : Nat) (x1 : Int32) (lg : Nat) (nw : Nat) (dv : List Value) (lfi : Value) (lst : Value) (ltr : Value) (llk : Value) (n1 : Value) (n2 : Value) (n3 : Value) (n4 : Value) (fa : Nat) (nv : List Value)  : Met l yX11_length (.code yX11_length cX11_length 2 (some .int) :: TT) ({ frames := 3, cells := 0, slots := 0, locals := 300 } : Room) (c0_P G [.ref dp, .int x1] sz ([(dp, .inr (11, .ref lg :: .ref nw :: dv)), (lg, .inr (2, [lfi, lst, ltr, llk])), (nw, .inr (1, .int 0 :: n1 :: n2 :: n3 :: n4 :: .ref fa :: nv)), (fa, .inl (G.2 0, 7, .inl (fun _ => 0)))])) (va_Qi (S := Unit) (fun (r : Int32) (u : Unit) => r = sp_length x1) (fun (u : Unit) (t : State) => True) (va_A ([(dp, .inr (11, .ref lg :: .ref nw :: dv)), (lg, .inr (2, [lfi, lst, ltr, llk])), (nw, .inr (1, .int 0 :: n1 :: n2 :: n3 :: n4 :: .ref fa :: nv)), (fa, .inl (G.2 0, 7, .inl (fun _ => 0)))]) sz)) 0 0 (va_A ([(dp, .inr (11, .ref lg :: .ref nw :: dv)), (lg, .inr (2, [lfi, lst, ltr, llk])), (nw, .inr (1, .int 0 :: n1 :: n2 :: n3 :: n4 :: .ref fa :: nv)), (fa, .inl (G.2 0, 7, .inl (fun _ => 0)))]) sz) := by
  refine Met.ofW (cc := cX11_length) (maxL := 2) (ret := (some .int)) (by decide) rfl ?_
  intro p e s m args below meth c s₁ B hml hv
  obtain ⟨rfl, hsz, hP, hK, hD0⟩ := hv
  have hx := B.exec
  have hb := B.bytes
  have hr := B.returns
  have hts := atoms_spec (ws := .code yX11_length cX11_length 2 (some .int) :: TT) B.pre
  have ht := fun (w : Cond) (h : w ∈ TT) => hts w (List.mem_cons_of_mem _ h)
  have hown : s.vm.findClass RX11 = some m.cls := findClass_of_methodNamed B.named
  have hlocks := B.notSynchronized
  subst hsz
  have hD := hD0.self (sz := s.heap.size)
  generalize hAe : va_A ([(dp, .inr (11, .ref lg :: .ref nw :: dv)), (lg, .inr (2, [lfi, lst, ltr, llk])), (nw, .inr (1, .int 0 :: n1 :: n2 :: n3 :: n4 :: .ref fa :: nv)), (fa, .inl (G.2 0, 7, .inl (fun _ => 0)))]) s.heap.size = A at hD ⊢
  have hA : ∀ q : Nat, s.heap.size ≤ q → A q := fun q h => by rw [← hAe]; exact Or.inr h
  have hS : va_S A s.heap s.heap [] := va_S.rf
  have hP : va_P G.1 vwCl ([(dp, .inr (11, .ref lg :: .ref nw :: dv)), (lg, .inr (2, [lfi, lst, ltr, llk])), (nw, .inr (1, .int 0 :: n1 :: n2 :: n3 :: n4 :: .ref fa :: nv)), (fa, .inl (G.2 0, 7, .inl (fun _ => 0)))]) s.heap := hP
  have hl := lv_entry ([.ref dp, .int x1]) (n := 2) (Nat.le_of_ble_eq_true rfl)
  rw [lg_entry_eq]
  generalize (lg_sl ([.ref dp, .int x1]) ++ List.replicate (2 - (lg_sl ([.ref dp, .int x1])).length) Slot.unset).toArray = ls at hl ⊢
  have hl : lv_has ls 2 [(0, .ref dp), (1, .int x1)] := hl
  refine lv_iload_n hx hb dX11_length_0 rfl (lv_at hl 1 rfl) ?_
  refine lv_if_lt (tgt := 10) hx hb dX11_length_1 (by decide) (fun c_1 => ?_) (fun c_1 => ?_)
  · refine lv_aload_n hx hb dX11_length_10 rfl (lv_at hl 0 rfl) ?_
    refine lv_bipush (v := (-2)) hx hb dX11_length_11 (by decide) ?_
    have hPc := hP.sub (ws' := [(dp, .inr (11, .ref lg :: .ref nw :: dv)), (lg, .inr (2, [lfi, lst, ltr, llk]))]) [0, 1] rfl
    have hDc := hD.sub (ws' := [(dp, .inr (11, .ref lg :: .ref nw :: dv)), (lg, .inr (2, [lfi, lst, ltr, llk]))]) [0, 1] (by decide) rfl
    have hFc := va_free (wc := [(dp, .inr (11, .ref lg :: .ref nw :: dv)), (lg, .inr (2, [lfi, lst, ltr, llk]))]) hD hS hA [0, 1] rfl
    refine va_calli (va_runV (As := [.int (-2)]) (rest := []) ⟨hx, hb, hml, hown, hts⟩ (k_refuse_m2 l G _ dp lg (.ref nw :: dv) lfi lst ltr llk ) (cwV 1 hts (gd_V mw_7_22 mw_7_23 mw_8_0 mw_1_2 mw_8_1) rfl rfl rfl ⟨rfl, yk_X11_refuse⟩ ⟨Nat.le_of_ble_eq_true rfl, Nat.le_of_ble_eq_true rfl⟩) (c0_preV (q0 := 0) (ci := 11) (q := (RX11, TX11, 14)) hPc hK hDc rfl rfl) rfl rfl hl.1 rfl (lv_room (Nat.le_of_ble_eq_true rfl)) dX11_length_13 ⟨Nat.le_of_ble_eq_true rfl, Nat.le_of_ble_eq_true rfl⟩) hS (fun q _ h => hFc q h) hFc (fun r_2 u t H1 locs ht1 hvm hw hB hz1 hk1 hS => ?_)
    try dsimp only at hw hB
    have hr2 := hw
    obtain rfl := hr2.symm
    obtain ⟨hP1, hD1⟩ := hB
    rw [ht1] at hP1
    obtain ⟨hP, hD⟩ := va_join (wr := [(nw, .inr (1, .int 0 :: n1 :: n2 :: n3 :: n4 :: .ref fa :: nv)), (fa, .inl (G.2 0, 7, .inl (fun _ => 0)))]) (w1 := [(dp, .inr (11, .ref lg :: .ref nw :: dv)), (lg, .inr (2, [lfi, .int (-2), ltr, llk]))]) hP hD [0, 1] [2, 3] rfl rfl (by decide) (by decide) hk1 hFc hP1 hD1
    generalize H1 = H at hP hS ⊢
    have hP : va_P G.1 vwCl ([(nw, .inr (1, .int 0 :: n1 :: n2 :: n3 :: n4 :: .ref fa :: nv)), (fa, .inl (G.2 0, 7, .inl (fun _ => 0))), (dp, .inr (11, .ref lg :: .ref nw :: dv)), (lg, .inr (2, [lfi, .int (-2), ltr, llk]))]) H := hP
    have hD : va_D A ([(nw, .inr (1, .int 0 :: n1 :: n2 :: n3 :: n4 :: .ref fa :: nv)), (fa, .inl (G.2 0, 7, .inl (fun _ => 0))), (dp, .inr (11, .ref lg :: .ref nw :: dv)), (lg, .inr (2, [lfi, .int (-2), ltr, llk]))]) := hD
    exact W.iret (v := (-2)) hx hb hr (fun t ht hW => ⟨⟨(-2), (), rfl, (by unfold sp_length; split <;> rename_i hc9 <;> first | rfl | (exfalso; simp only [fa_lt, fa_le, fa_eq] at hc9 c_1; have n0 : (0 : Int32).toInt = 0 := (by decide); have n6 : (6 : Int32).toInt = 6 := (by decide); omega)), trivial⟩, hS.F ht⟩) hS.2.2 dX11_length_16
  · refine lv_iload_n hx hb dX11_length_4 rfl (lv_at hl 1 rfl) ?_
    refine lv_bipush (v := 7) hx hb dX11_length_5 (by decide) ?_
    refine lv_icmp_lt (tgt := 17) hx hb dX11_length_7 (by decide) (fun c_3 => ?_) (fun c_3 => ?_)
    · refine lv_aload_n hx hb dX11_length_17 rfl (lv_at hl 0 rfl) ?_
      refine lv_aload_n hx hb dX11_length_18 rfl (lv_at hl 0 rfl) ?_
      refine va_get (D := G.1) (ci := 11) (v := .ref nw) (C := RX11) (T := TX11) (N := 14) hx hb ht inlX11 hown hK.1 hP 0 rfl rfl 1 (by decide) (ht (Cond.fieldLink RX11 19 "PloughDepot" "now" "LPloughDepot$Books;") mw_1_19) (fun _ h9 => h9) rfl dX11_length_19 ?_
      refine va_get (D := G.1) (ci := 1) (v := .ref fa) (C := RX1) (T := TX1) (N := 8) hx hb ht inlX1 hown hK.1 hP 2 rfl rfl 5 (by decide) (ht (Cond.fieldLink RX11 277 "PloughDepot$Books" "facts" "[I") mw_52_5) (fun _ h9 => h9) rfl dX11_length_22 ?_
      refine lv_iload_n hx hb dX11_length_25 rfl (lv_at hl 1 rfl) ?_
      refine va_iald hx hb hK.1 hP 3 0 rfl rfl (vp_in_iff.mpr (by simp only [fa_lt, fa_le, fa_eq] at c_1 c_3; have n0 : (0 : Int32).toInt = 0 := (by decide); have n7 : (7 : Int32).toInt = 7 := (by decide); omega)) dX11_length_26 ?_
      refine lv_topi (fun v_4 ev_4 => ?_)
      obtain rfl : 0 = v_4 := (ev_4.trans (rfl)).symm
      have hPc := hP.sub (ws' := [(dp, .inr (11, .ref lg :: .ref nw :: dv)), (lg, .inr (2, [lfi, lst, ltr, llk]))]) [0, 1] rfl
      have hDc := hD.sub (ws' := [(dp, .inr (11, .ref lg :: .ref nw :: dv)), (lg, .inr (2, [lfi, lst, ltr, llk]))]) [0, 1] (by decide) rfl
      have hFc := va_free (wc := [(dp, .inr (11, .ref lg :: .ref nw :: dv)), (lg, .inr (2, [lfi, lst, ltr, llk]))]) hD hS hA [0, 1] rfl
      refine va_calli (va_runV (As := [.int 0]) (rest := []) ⟨hx, hb, hml, hown, hts⟩ (k_answer l G _ dp 0 lg (.ref nw :: dv) lfi lst ltr llk ) (cwV 1 hts (gd_V mw_11_2 mw_11_3 mw_11_4 mw_1_2 mw_11_5) rfl rfl rfl ⟨rfl, yk_X11_answer⟩ ⟨Nat.le_of_ble_eq_true rfl, Nat.le_of_ble_eq_true rfl⟩) (c0_preV (q0 := 0) (ci := 11) (q := (RX11, TX11, 14)) hPc hK hDc rfl rfl) rfl rfl hl.1 rfl (lv_room (Nat.le_of_ble_eq_true rfl)) dX11_length_27 ⟨Nat.le_of_ble_eq_true rfl, Nat.le_of_ble_eq_true rfl⟩) hS (fun q _ h => hFc q h) hFc (fun r_5 u t H1 locs ht1 hvm hw hB hz1 hk1 hS => ?_)
      try dsimp only at hw hB
      have hr5 := hw
      obtain rfl := hr5.symm
      obtain ⟨hP1, hD1⟩ := hB
      rw [ht1] at hP1
      obtain ⟨hP, hD⟩ := va_join (wr := [(nw, .inr (1, .int 0 :: n1 :: n2 :: n3 :: n4 :: .ref fa :: nv)), (fa, .inl (G.2 0, 7, .inl (fun _ => 0)))]) (w1 := [(dp, .inr (11, .ref lg :: .ref nw :: dv)), (lg, .inr (2, [lfi, .int 0, ltr, llk]))]) hP hD [0, 1] [2, 3] rfl rfl (by decide) (by decide) hk1 hFc hP1 hD1
      generalize H1 = H at hP hS ⊢
      have hP : va_P G.1 vwCl ([(nw, .inr (1, .int 0 :: n1 :: n2 :: n3 :: n4 :: .ref fa :: nv)), (fa, .inl (G.2 0, 7, .inl (fun _ => 0))), (dp, .inr (11, .ref lg :: .ref nw :: dv)), (lg, .inr (2, [lfi, .int 0, ltr, llk]))]) H := hP
      have hD : va_D A ([(nw, .inr (1, .int 0 :: n1 :: n2 :: n3 :: n4 :: .ref fa :: nv)), (fa, .inl (G.2 0, 7, .inl (fun _ => 0))), (dp, .inr (11, .ref lg :: .ref nw :: dv)), (lg, .inr (2, [lfi, .int 0, ltr, llk]))]) := hD
      exact W.iret (v := 0) hx hb hr (fun t ht hW => ⟨⟨0, (), rfl, (by unfold sp_length; split <;> rename_i hc9 <;> first | rfl | (exfalso; simp only [fa_lt, fa_le, fa_eq] at hc9 c_1 c_3; have n0 : (0 : Int32).toInt = 0 := (by decide); have n6 : (6 : Int32).toInt = 6 := (by decide); have n7 : (7 : Int32).toInt = 7 := (by decide); omega)), trivial⟩, hS.F ht⟩) hS.2.2 dX11_length_30
    · refine lv_aload_n hx hb dX11_length_10 rfl (lv_at hl 0 rfl) ?_
      refine lv_bipush (v := (-2)) hx hb dX11_length_11 (by decide) ?_
      have hPc := hP.sub (ws' := [(dp, .inr (11, .ref lg :: .ref nw :: dv)), (lg, .inr (2, [lfi, lst, ltr, llk]))]) [0, 1] rfl
      have hDc := hD.sub (ws' := [(dp, .inr (11, .ref lg :: .ref nw :: dv)), (lg, .inr (2, [lfi, lst, ltr, llk]))]) [0, 1] (by decide) rfl
      have hFc := va_free (wc := [(dp, .inr (11, .ref lg :: .ref nw :: dv)), (lg, .inr (2, [lfi, lst, ltr, llk]))]) hD hS hA [0, 1] rfl
      refine va_calli (va_runV (As := [.int (-2)]) (rest := []) ⟨hx, hb, hml, hown, hts⟩ (k_refuse_m2 l G _ dp lg (.ref nw :: dv) lfi lst ltr llk ) (cwV 1 hts (gd_V mw_7_22 mw_7_23 mw_8_0 mw_1_2 mw_8_1) rfl rfl rfl ⟨rfl, yk_X11_refuse⟩ ⟨Nat.le_of_ble_eq_true rfl, Nat.le_of_ble_eq_true rfl⟩) (c0_preV (q0 := 0) (ci := 11) (q := (RX11, TX11, 14)) hPc hK hDc rfl rfl) rfl rfl hl.1 rfl (lv_room (Nat.le_of_ble_eq_true rfl)) dX11_length_13 ⟨Nat.le_of_ble_eq_true rfl, Nat.le_of_ble_eq_true rfl⟩) hS (fun q _ h => hFc q h) hFc (fun r_6 u t H1 locs ht1 hvm hw hB hz1 hk1 hS => ?_)
      try dsimp only at hw hB
      have hr6 := hw
      obtain rfl := hr6.symm
      obtain ⟨hP1, hD1⟩ := hB
      rw [ht1] at hP1
      obtain ⟨hP, hD⟩ := va_join (wr := [(nw, .inr (1, .int 0 :: n1 :: n2 :: n3 :: n4 :: .ref fa :: nv)), (fa, .inl (G.2 0, 7, .inl (fun _ => 0)))]) (w1 := [(dp, .inr (11, .ref lg :: .ref nw :: dv)), (lg, .inr (2, [lfi, .int (-2), ltr, llk]))]) hP hD [0, 1] [2, 3] rfl rfl (by decide) (by decide) hk1 hFc hP1 hD1
      generalize H1 = H at hP hS ⊢
      have hP : va_P G.1 vwCl ([(nw, .inr (1, .int 0 :: n1 :: n2 :: n3 :: n4 :: .ref fa :: nv)), (fa, .inl (G.2 0, 7, .inl (fun _ => 0))), (dp, .inr (11, .ref lg :: .ref nw :: dv)), (lg, .inr (2, [lfi, .int (-2), ltr, llk]))]) H := hP
      have hD : va_D A ([(nw, .inr (1, .int 0 :: n1 :: n2 :: n3 :: n4 :: .ref fa :: nv)), (fa, .inl (G.2 0, 7, .inl (fun _ => 0))), (dp, .inr (11, .ref lg :: .ref nw :: dv)), (lg, .inr (2, [lfi, .int (-2), ltr, llk]))]) := hD
      exact W.iret (v := (-2)) hx hb hr (fun t ht hW => ⟨⟨(-2), (), rfl, (by unfold sp_length; split <;> rename_i hc9 <;> first | rfl | (exfalso; simp only [fa_lt, fa_le, fa_eq] at hc9 c_1 c_3; have n0 : (0 : Int32).toInt = 0 := (by decide); have n6 : (6 : Int32).toInt = 6 := (by decide); have n7 : (7 : Int32).toInt = 7 := (by decide); omega)), trivial⟩, hS.F ht⟩) hS.2.2 dX11_length_16

set_option maxHeartbeats 4000000 in
set_option maxRecDepth 100000 in
theorem k_findings (l : Launch) (G : GG) (sz : Nat) (dp : Nat) (x1 : Int32) (lg : Nat) (dv : List Value) (fi : Nat) (lgv : List Value)  : Met l yX11_findings (.code yX11_findings cX11_findings 2 (some .int) :: TT) ({ frames := 1, cells := 0, slots := 0, locals := 100 } : Room) (c0_P G [.ref dp, .int x1] sz ([(dp, .inr (11, .ref lg :: dv)), (lg, .inr (2, .ref fi :: lgv)), (fi, .inl (G.2 0, 5, .inl (fun _ => 0)))])) (va_Qi (S := Unit) (fun (r : Int32) (u : Unit) => r = sp_findings x1) (fun (u : Unit) (t : State) => True) (va_A ([(dp, .inr (11, .ref lg :: dv)), (lg, .inr (2, .ref fi :: lgv)), (fi, .inl (G.2 0, 5, .inl (fun _ => 0)))]) sz)) 0 0 (va_A ([(dp, .inr (11, .ref lg :: dv)), (lg, .inr (2, .ref fi :: lgv)), (fi, .inl (G.2 0, 5, .inl (fun _ => 0)))]) sz) := by
  refine Met.ofW (cc := cX11_findings) (maxL := 2) (ret := (some .int)) (by decide) rfl ?_
  intro p e s m args below meth c s₁ B hml hv
  obtain ⟨rfl, hsz, hP, hK, hD0⟩ := hv
  have hx := B.exec
  have hb := B.bytes
  have hr := B.returns
  have hts := atoms_spec (ws := .code yX11_findings cX11_findings 2 (some .int) :: TT) B.pre
  have ht := fun (w : Cond) (h : w ∈ TT) => hts w (List.mem_cons_of_mem _ h)
  have hown : s.vm.findClass RX11 = some m.cls := findClass_of_methodNamed B.named
  have hlocks := B.notSynchronized
  subst hsz
  have hD := hD0.self (sz := s.heap.size)
  generalize hAe : va_A ([(dp, .inr (11, .ref lg :: dv)), (lg, .inr (2, .ref fi :: lgv)), (fi, .inl (G.2 0, 5, .inl (fun _ => 0)))]) s.heap.size = A at hD ⊢
  have hA : ∀ q : Nat, s.heap.size ≤ q → A q := fun q h => by rw [← hAe]; exact Or.inr h
  have hS : va_S A s.heap s.heap [] := va_S.rf
  have hP : va_P G.1 vwCl ([(dp, .inr (11, .ref lg :: dv)), (lg, .inr (2, .ref fi :: lgv)), (fi, .inl (G.2 0, 5, .inl (fun _ => 0)))]) s.heap := hP
  have hl := lv_entry ([.ref dp, .int x1]) (n := 2) (Nat.le_of_ble_eq_true rfl)
  rw [lg_entry_eq]
  generalize (lg_sl ([.ref dp, .int x1]) ++ List.replicate (2 - (lg_sl ([.ref dp, .int x1])).length) Slot.unset).toArray = ls at hl ⊢
  have hl : lv_has ls 2 [(0, .ref dp), (1, .int x1)] := hl
  refine lv_iload_n hx hb dX11_findings_0 rfl (lv_at hl 1 rfl) ?_
  refine lv_if_lt (tgt := 28) hx hb dX11_findings_1 (by decide) (fun c_1 => ?_) (fun c_1 => ?_)
  · refine lv_bipush (v := (-2)) hx hb dX11_findings_28 (by decide) ?_
    exact W.iret (v := (-2)) hx hb hr (fun t ht hW => ⟨⟨(-2), (), rfl, (by unfold sp_findings; split <;> rename_i hc9 <;> first | rfl | (exfalso; simp only [fa_lt, fa_le, fa_eq] at hc9 c_1; have n0 : (0 : Int32).toInt = 0 := (by decide); have n4 : (4 : Int32).toInt = 4 := (by decide); omega)), trivial⟩, hS.F ht⟩) hS.2.2 dX11_findings_30
  · refine lv_iload_n hx hb dX11_findings_4 rfl (lv_at hl 1 rfl) ?_
    refine lv_aload_n hx hb dX11_findings_5 rfl (lv_at hl 0 rfl) ?_
    refine va_get (D := G.1) (ci := 11) (v := .ref lg) (C := RX11) (T := TX11) (N := 14) hx hb ht inlX11 hown hK.1 hP 0 rfl rfl 0 (by decide) (ht (Cond.fieldLink RX11 10 "PloughDepot" "log" "LPloughDepot$Log;") mw_1_15) (fun _ h9 => h9) rfl dX11_findings_6 ?_
    refine va_get (D := G.1) (ci := 2) (v := .ref fi) (C := RX2) (T := TX2) (N := 4) hx hb ht inlX2 hown hK.1 hP 1 rfl rfl 0 (by decide) (ht (Cond.fieldLink RX11 309 "PloughDepot$Log" "findings" "[I") mw_58_20) (fun _ h9 => h9) rfl dX11_findings_9 ?_
    refine va_alen hx hb hK.1 hP 2 0 rfl rfl (v := 5) rfl dX11_findings_12 ?_
    refine lv_icmp_ge (tgt := 28) hx hb dX11_findings_13 (by decide) (fun c_2 => ?_) (fun c_2 => ?_)
    · refine lv_bipush (v := (-2)) hx hb dX11_findings_28 (by decide) ?_
      exact W.iret (v := (-2)) hx hb hr (fun t ht hW => ⟨⟨(-2), (), rfl, (by unfold sp_findings; split <;> rename_i hc9 <;> first | rfl | (exfalso; simp only [fa_lt, fa_le, fa_eq] at hc9 c_1 c_2; have n0 : (0 : Int32).toInt = 0 := (by decide); have n4 : (4 : Int32).toInt = 4 := (by decide); have n5 : (5 : Int32).toInt = 5 := (by decide); omega)), trivial⟩, hS.F ht⟩) hS.2.2 dX11_findings_30
    · refine lv_aload_n hx hb dX11_findings_16 rfl (lv_at hl 0 rfl) ?_
      refine va_get (D := G.1) (ci := 11) (v := .ref lg) (C := RX11) (T := TX11) (N := 14) hx hb ht inlX11 hown hK.1 hP 0 rfl rfl 0 (by decide) (ht (Cond.fieldLink RX11 10 "PloughDepot" "log" "LPloughDepot$Log;") mw_1_15) (fun _ h9 => h9) rfl dX11_findings_17 ?_
      refine va_get (D := G.1) (ci := 2) (v := .ref fi) (C := RX2) (T := TX2) (N := 4) hx hb ht inlX2 hown hK.1 hP 1 rfl rfl 0 (by decide) (ht (Cond.fieldLink RX11 309 "PloughDepot$Log" "findings" "[I") mw_58_20) (fun _ h9 => h9) rfl dX11_findings_20 ?_
      refine lv_iload_n hx hb dX11_findings_23 rfl (lv_at hl 1 rfl) ?_
      refine va_iald hx hb hK.1 hP 2 0 rfl rfl (vp_in_iff.mpr (by simp only [fa_lt, fa_le, fa_eq] at c_1 c_2; have n0 : (0 : Int32).toInt = 0 := (by decide); have n5 : (5 : Int32).toInt = 5 := (by decide); omega)) dX11_findings_24 ?_
      refine lv_topi (fun v_3 ev_3 => ?_)
      obtain rfl : 0 = v_3 := (ev_3.trans (rfl)).symm
      refine lv_goto (tgt := 30) hx hb dX11_findings_25 (by decide) ?_
      exact W.iret (v := 0) hx hb hr (fun t ht hW => ⟨⟨0, (), rfl, (by unfold sp_findings; split <;> rename_i hc9 <;> first | rfl | (exfalso; simp only [fa_lt, fa_le, fa_eq] at hc9 c_1 c_2; have n0 : (0 : Int32).toInt = 0 := (by decide); have n4 : (4 : Int32).toInt = 4 := (by decide); have n5 : (5 : Int32).toInt = 5 := (by decide); omega)), trivial⟩, hS.F ht⟩) hS.2.2 dX11_findings_30

set_option maxHeartbeats 4000000 in
set_option maxRecDepth 100000 in
theorem k_status (l : Launch) (G : GG) (sz : Nat) (dp : Nat) (lg : Nat) (dv : List Value) (lfi : Value) (lgv : List Value)  : Met l yX11_status (.code yX11_status cX11_status 1 (some .int) :: TT) ({ frames := 1, cells := 0, slots := 0, locals := 100 } : Room) (c0_P G [.ref dp] sz ([(dp, .inr (11, .ref lg :: dv)), (lg, .inr (2, lfi :: .int 0 :: lgv))])) (va_Qi (S := Unit) (fun (r : Int32) (u : Unit) => r = 0) (fun (u : Unit) (t : State) => True) (va_A ([(dp, .inr (11, .ref lg :: dv)), (lg, .inr (2, lfi :: .int 0 :: lgv))]) sz)) 0 0 (va_A ([(dp, .inr (11, .ref lg :: dv)), (lg, .inr (2, lfi :: .int 0 :: lgv))]) sz) := by
  refine Met.ofW (cc := cX11_status) (maxL := 1) (ret := (some .int)) (by decide) rfl ?_
  intro p e s m args below meth c s₁ B hml hv
  obtain ⟨rfl, hsz, hP, hK, hD0⟩ := hv
  have hx := B.exec
  have hb := B.bytes
  have hr := B.returns
  have hts := atoms_spec (ws := .code yX11_status cX11_status 1 (some .int) :: TT) B.pre
  have ht := fun (w : Cond) (h : w ∈ TT) => hts w (List.mem_cons_of_mem _ h)
  have hown : s.vm.findClass RX11 = some m.cls := findClass_of_methodNamed B.named
  have hlocks := B.notSynchronized
  subst hsz
  have hD := hD0.self (sz := s.heap.size)
  generalize hAe : va_A ([(dp, .inr (11, .ref lg :: dv)), (lg, .inr (2, lfi :: .int 0 :: lgv))]) s.heap.size = A at hD ⊢
  have hA : ∀ q : Nat, s.heap.size ≤ q → A q := fun q h => by rw [← hAe]; exact Or.inr h
  have hS : va_S A s.heap s.heap [] := va_S.rf
  have hP : va_P G.1 vwCl ([(dp, .inr (11, .ref lg :: dv)), (lg, .inr (2, lfi :: .int 0 :: lgv))]) s.heap := hP
  have hl := lv_entry ([.ref dp]) (n := 1) (Nat.le_of_ble_eq_true rfl)
  rw [lg_entry_eq]
  generalize (lg_sl ([.ref dp]) ++ List.replicate (1 - (lg_sl ([.ref dp])).length) Slot.unset).toArray = ls at hl ⊢
  have hl : lv_has ls 1 [(0, .ref dp)] := hl
  refine lv_aload_n hx hb dX11_status_0 rfl (lv_at hl 0 rfl) ?_
  refine va_get (D := G.1) (ci := 11) (v := .ref lg) (C := RX11) (T := TX11) (N := 14) hx hb ht inlX11 hown hK.1 hP 0 rfl rfl 0 (by decide) (ht (Cond.fieldLink RX11 10 "PloughDepot" "log" "LPloughDepot$Log;") mw_1_15) (fun _ h9 => h9) rfl dX11_status_1 ?_
  refine va_get (D := G.1) (ci := 2) (v := .int 0) (C := RX2) (T := TX2) (N := 4) hx hb ht inlX2 hown hK.1 hP 1 rfl rfl 1 (by decide) (ht (Cond.fieldLink RX11 312 "PloughDepot$Log" "status" "I") mw_8_2) (fun _ h9 => h9) rfl dX11_status_4 ?_
  exact W.iret (v := 0) hx hb hr (fun t ht hW => ⟨⟨0, (), rfl, rfl, trivial⟩, hS.F ht⟩) hS.2.2 dX11_status_7

set_option maxHeartbeats 4000000 in
set_option maxRecDepth 100000 in
theorem k_trace (l : Launch) (G : GG) (sz : Nat) (dp : Nat) (lg : Nat) (dv : List Value) (lfi : Value) (lst : Value) (lgv : List Value)  : Met l yX11_trace (.code yX11_trace cX11_trace 1 (some .int) :: TT) ({ frames := 1, cells := 0, slots := 0, locals := 100 } : Room) (c0_P G [.ref dp] sz ([(dp, .inr (11, .ref lg :: dv)), (lg, .inr (2, lfi :: lst :: .int 0 :: lgv))])) (va_Qi (S := Unit) (fun (r : Int32) (u : Unit) => r = 0) (fun (u : Unit) (t : State) => True) (va_A ([(dp, .inr (11, .ref lg :: dv)), (lg, .inr (2, lfi :: lst :: .int 0 :: lgv))]) sz)) 0 0 (va_A ([(dp, .inr (11, .ref lg :: dv)), (lg, .inr (2, lfi :: lst :: .int 0 :: lgv))]) sz) := by
  refine Met.ofW (cc := cX11_trace) (maxL := 1) (ret := (some .int)) (by decide) rfl ?_
  intro p e s m args below meth c s₁ B hml hv
  obtain ⟨rfl, hsz, hP, hK, hD0⟩ := hv
  have hx := B.exec
  have hb := B.bytes
  have hr := B.returns
  have hts := atoms_spec (ws := .code yX11_trace cX11_trace 1 (some .int) :: TT) B.pre
  have ht := fun (w : Cond) (h : w ∈ TT) => hts w (List.mem_cons_of_mem _ h)
  have hown : s.vm.findClass RX11 = some m.cls := findClass_of_methodNamed B.named
  have hlocks := B.notSynchronized
  subst hsz
  have hD := hD0.self (sz := s.heap.size)
  generalize hAe : va_A ([(dp, .inr (11, .ref lg :: dv)), (lg, .inr (2, lfi :: lst :: .int 0 :: lgv))]) s.heap.size = A at hD ⊢
  have hA : ∀ q : Nat, s.heap.size ≤ q → A q := fun q h => by rw [← hAe]; exact Or.inr h
  have hS : va_S A s.heap s.heap [] := va_S.rf
  have hP : va_P G.1 vwCl ([(dp, .inr (11, .ref lg :: dv)), (lg, .inr (2, lfi :: lst :: .int 0 :: lgv))]) s.heap := hP
  have hl := lv_entry ([.ref dp]) (n := 1) (Nat.le_of_ble_eq_true rfl)
  rw [lg_entry_eq]
  generalize (lg_sl ([.ref dp]) ++ List.replicate (1 - (lg_sl ([.ref dp])).length) Slot.unset).toArray = ls at hl ⊢
  have hl : lv_has ls 1 [(0, .ref dp)] := hl
  refine lv_aload_n hx hb dX11_trace_0 rfl (lv_at hl 0 rfl) ?_
  refine va_get (D := G.1) (ci := 11) (v := .ref lg) (C := RX11) (T := TX11) (N := 14) hx hb ht inlX11 hown hK.1 hP 0 rfl rfl 0 (by decide) (ht (Cond.fieldLink RX11 10 "PloughDepot" "log" "LPloughDepot$Log;") mw_1_15) (fun _ h9 => h9) rfl dX11_trace_1 ?_
  refine va_get (D := G.1) (ci := 2) (v := .int 0) (C := RX2) (T := TX2) (N := 4) hx hb ht inlX2 hown hK.1 hP 1 rfl rfl 2 (by decide) (ht (Cond.fieldLink RX11 315 "PloughDepot$Log" "trace" "I") mw_59_13) (fun _ h9 => h9) rfl dX11_trace_4 ?_
  exact W.iret (v := 0) hx hb hr (fun t ht hW => ⟨⟨0, (), rfl, rfl, trivial⟩, hS.F ht⟩) hS.2.2 dX11_trace_7

set_option maxHeartbeats 4000000 in
set_option maxRecDepth 100000 in
theorem k_looks (l : Launch) (G : GG) (sz : Nat) (dp : Nat) (lg : Nat) (dv : List Value) (lfi : Value) (lst : Value) (ltr : Value)  : Met l yX11_looks (.code yX11_looks cX11_looks 1 (some .int) :: TT) ({ frames := 1, cells := 0, slots := 0, locals := 100 } : Room) (c0_P G [.ref dp] sz ([(dp, .inr (11, .ref lg :: dv)), (lg, .inr (2, [lfi, lst, ltr, .int 0]))])) (va_Qi (S := Unit) (fun (r : Int32) (u : Unit) => r = 0) (fun (u : Unit) (t : State) => True) (va_A ([(dp, .inr (11, .ref lg :: dv)), (lg, .inr (2, [lfi, lst, ltr, .int 0]))]) sz)) 0 0 (va_A ([(dp, .inr (11, .ref lg :: dv)), (lg, .inr (2, [lfi, lst, ltr, .int 0]))]) sz) := by
  refine Met.ofW (cc := cX11_looks) (maxL := 1) (ret := (some .int)) (by decide) rfl ?_
  intro p e s m args below meth c s₁ B hml hv
  obtain ⟨rfl, hsz, hP, hK, hD0⟩ := hv
  have hx := B.exec
  have hb := B.bytes
  have hr := B.returns
  have hts := atoms_spec (ws := .code yX11_looks cX11_looks 1 (some .int) :: TT) B.pre
  have ht := fun (w : Cond) (h : w ∈ TT) => hts w (List.mem_cons_of_mem _ h)
  have hown : s.vm.findClass RX11 = some m.cls := findClass_of_methodNamed B.named
  have hlocks := B.notSynchronized
  subst hsz
  have hD := hD0.self (sz := s.heap.size)
  generalize hAe : va_A ([(dp, .inr (11, .ref lg :: dv)), (lg, .inr (2, [lfi, lst, ltr, .int 0]))]) s.heap.size = A at hD ⊢
  have hA : ∀ q : Nat, s.heap.size ≤ q → A q := fun q h => by rw [← hAe]; exact Or.inr h
  have hS : va_S A s.heap s.heap [] := va_S.rf
  have hP : va_P G.1 vwCl ([(dp, .inr (11, .ref lg :: dv)), (lg, .inr (2, [lfi, lst, ltr, .int 0]))]) s.heap := hP
  have hl := lv_entry ([.ref dp]) (n := 1) (Nat.le_of_ble_eq_true rfl)
  rw [lg_entry_eq]
  generalize (lg_sl ([.ref dp]) ++ List.replicate (1 - (lg_sl ([.ref dp])).length) Slot.unset).toArray = ls at hl ⊢
  have hl : lv_has ls 1 [(0, .ref dp)] := hl
  refine lv_aload_n hx hb dX11_looks_0 rfl (lv_at hl 0 rfl) ?_
  refine va_get (D := G.1) (ci := 11) (v := .ref lg) (C := RX11) (T := TX11) (N := 14) hx hb ht inlX11 hown hK.1 hP 0 rfl rfl 0 (by decide) (ht (Cond.fieldLink RX11 10 "PloughDepot" "log" "LPloughDepot$Log;") mw_1_15) (fun _ h9 => h9) rfl dX11_looks_1 ?_
  refine va_get (D := G.1) (ci := 2) (v := .int 0) (C := RX2) (T := TX2) (N := 4) hx hb ht inlX2 hown hK.1 hP 1 rfl rfl 3 (by decide) (ht (Cond.fieldLink RX11 292 "PloughDepot$Log" "looks" "I") mw_54_3) (fun _ h9 => h9) rfl dX11_looks_4 ?_
  exact W.iret (v := 0) hx hb hr (fun t ht hW => ⟨⟨0, (), rfl, rfl, trivial⟩, hS.F ht⟩) hS.2.2 dX11_looks_7

set_option maxHeartbeats 4000000 in
set_option maxRecDepth 100000 in
theorem k_sign (l : Launch) (G : GG) (sz : Nat) (dp : Nat) (x1 : Int32) (lg : Nat) (nw : Nat) (d2 : Value) (d3 : Value) (d4 : Value) (d5 : Value) (d6 : Value) (d7 : Value) (d8 : Value) (d9 : Value) (d10 : Value) (d11 : Value)  : Met l yX11_sign (.code yX11_sign cX11_sign 2 (some .int) :: TT) ({ frames := 1, cells := 0, slots := 0, locals := 100 } : Room) (c0_P G [.ref dp, .int x1] sz ([(dp, .inr (11, [.ref lg, .ref nw, d2, d3, d4, d5, d6, d7, d8, d9, d10, d11, .int 0, .int 0]))])) (va_Qi (S := Unit) (fun (r : Int32) (u : Unit) => r = (-1)) (fun (u : Unit) (t : State) => True) (va_A ([(dp, .inr (11, [.ref lg, .ref nw, d2, d3, d4, d5, d6, d7, d8, d9, d10, d11, .int 0, .int 0]))]) sz)) 0 0 (va_A ([(dp, .inr (11, [.ref lg, .ref nw, d2, d3, d4, d5, d6, d7, d8, d9, d10, d11, .int 0, .int 0]))]) sz) := by
  refine Met.ofW (cc := cX11_sign) (maxL := 2) (ret := (some .int)) (by decide) rfl ?_
  intro p e s m args below meth c s₁ B hml hv
  obtain ⟨rfl, hsz, hP, hK, hD0⟩ := hv
  have hx := B.exec
  have hb := B.bytes
  have hr := B.returns
  have hts := atoms_spec (ws := .code yX11_sign cX11_sign 2 (some .int) :: TT) B.pre
  have ht := fun (w : Cond) (h : w ∈ TT) => hts w (List.mem_cons_of_mem _ h)
  have hown : s.vm.findClass RX11 = some m.cls := findClass_of_methodNamed B.named
  have hlocks := B.notSynchronized
  subst hsz
  have hD := hD0.self (sz := s.heap.size)
  generalize hAe : va_A ([(dp, .inr (11, [.ref lg, .ref nw, d2, d3, d4, d5, d6, d7, d8, d9, d10, d11, .int 0, .int 0]))]) s.heap.size = A at hD ⊢
  have hA : ∀ q : Nat, s.heap.size ≤ q → A q := fun q h => by rw [← hAe]; exact Or.inr h
  have hS : va_S A s.heap s.heap [] := va_S.rf
  have hP : va_P G.1 vwCl ([(dp, .inr (11, [.ref lg, .ref nw, d2, d3, d4, d5, d6, d7, d8, d9, d10, d11, .int 0, .int 0]))]) s.heap := hP
  have hl := lv_entry ([.ref dp, .int x1]) (n := 2) (Nat.le_of_ble_eq_true rfl)
  rw [lg_entry_eq]
  generalize (lg_sl ([.ref dp, .int x1]) ++ List.replicate (2 - (lg_sl ([.ref dp, .int x1])).length) Slot.unset).toArray = ls at hl ⊢
  have hl : lv_has ls 2 [(0, .ref dp), (1, .int x1)] := hl
  refine lv_iload_n hx hb dX11_sign_0 rfl (lv_at hl 1 rfl) ?_
  refine lv_if_lt (tgt := 21) hx hb dX11_sign_1 (by decide) (fun c_1 => ?_) (fun c_1 => ?_)
  · refine lv_iconst (v := (-1)) hx hb dX11_sign_21 (by decide) ?_
    exact W.iret (v := (-1)) hx hb hr (fun t ht hW => ⟨⟨(-1), (), rfl, rfl, trivial⟩, hS.F ht⟩) hS.2.2 dX11_sign_22
  · refine lv_iload_n hx hb dX11_sign_4 rfl (lv_at hl 1 rfl) ?_
    refine lv_aload_n hx hb dX11_sign_5 rfl (lv_at hl 0 rfl) ?_
    refine va_get (D := G.1) (ci := 11) (v := .int 0) (C := RX11) (T := TX11) (N := 14) hx hb ht inlX11 hown hK.1 hP 0 rfl rfl 12 (by decide) (ht (Cond.fieldLink RX11 77 "PloughDepot" "written" "I") mw_2_19) (fun _ h9 => h9) rfl dX11_sign_6 ?_
    refine lv_icmp_ge (tgt := 21) hx hb dX11_sign_9 (by decide) (fun c_2 => ?_) (fun c_2 => ?_)
    · refine lv_iconst (v := (-1)) hx hb dX11_sign_21 (by decide) ?_
      exact W.iret (v := (-1)) hx hb hr (fun t ht hW => ⟨⟨(-1), (), rfl, rfl, trivial⟩, hS.F ht⟩) hS.2.2 dX11_sign_22
    · exfalso; simp only [fa_lt, fa_le, fa_eq] at c_1 c_2; have n0 : (0 : Int32).toInt = 0 := (by decide); omega

set_option maxHeartbeats 4000000 in
set_option maxRecDepth 100000 in
theorem k_undo (l : Launch) (G : GG) (sz : Nat) (dp : Nat) (lg : Nat) (nw : Nat) (d2 : Value) (d3 : Value) (d4 : Value) (d5 : Value) (d6 : Value) (d7 : Value) (d8 : Value) (d9 : Value) (d10 : Value) (d11 : Value) (lfi : Value) (lst : Value) (ltr : Value) (llk : Value)  : Met l yX11_undo (.code yX11_undo cX11_undo 1 (some .int) :: TT) ({ frames := 2, cells := 0, slots := 0, locals := 200 } : Room) (c0_P G [.ref dp] sz ([(dp, .inr (11, [.ref lg, .ref nw, d2, d3, d4, d5, d6, d7, d8, d9, d10, d11, .int 0, .int 0])), (lg, .inr (2, [lfi, lst, ltr, llk]))])) (va_Qi (S := Unit) (fun (r : Int32) (u : Unit) => r = 0) (fun (u : Unit) (t : State) => True) (va_A ([(dp, .inr (11, [.ref lg, .ref nw, d2, d3, d4, d5, d6, d7, d8, d9, d10, d11, .int 0, .int 0])), (lg, .inr (2, [lfi, lst, ltr, llk]))]) sz)) 0 0 (va_A ([(dp, .inr (11, [.ref lg, .ref nw, d2, d3, d4, d5, d6, d7, d8, d9, d10, d11, .int 0, .int 0])), (lg, .inr (2, [lfi, lst, ltr, llk]))]) sz) := by
  refine Met.ofW (cc := cX11_undo) (maxL := 1) (ret := (some .int)) (by decide) rfl ?_
  intro p e s m args below meth c s₁ B hml hv
  obtain ⟨rfl, hsz, hP, hK, hD0⟩ := hv
  have hx := B.exec
  have hb := B.bytes
  have hr := B.returns
  have hts := atoms_spec (ws := .code yX11_undo cX11_undo 1 (some .int) :: TT) B.pre
  have ht := fun (w : Cond) (h : w ∈ TT) => hts w (List.mem_cons_of_mem _ h)
  have hown : s.vm.findClass RX11 = some m.cls := findClass_of_methodNamed B.named
  have hlocks := B.notSynchronized
  subst hsz
  have hD := hD0.self (sz := s.heap.size)
  generalize hAe : va_A ([(dp, .inr (11, [.ref lg, .ref nw, d2, d3, d4, d5, d6, d7, d8, d9, d10, d11, .int 0, .int 0])), (lg, .inr (2, [lfi, lst, ltr, llk]))]) s.heap.size = A at hD ⊢
  have hA : ∀ q : Nat, s.heap.size ≤ q → A q := fun q h => by rw [← hAe]; exact Or.inr h
  have hS : va_S A s.heap s.heap [] := va_S.rf
  have hP : va_P G.1 vwCl ([(dp, .inr (11, [.ref lg, .ref nw, d2, d3, d4, d5, d6, d7, d8, d9, d10, d11, .int 0, .int 0])), (lg, .inr (2, [lfi, lst, ltr, llk]))]) s.heap := hP
  have hl := lv_entry ([.ref dp]) (n := 1) (Nat.le_of_ble_eq_true rfl)
  rw [lg_entry_eq]
  generalize (lg_sl ([.ref dp]) ++ List.replicate (1 - (lg_sl ([.ref dp])).length) Slot.unset).toArray = ls at hl ⊢
  have hl : lv_has ls 1 [(0, .ref dp)] := hl
  refine lv_aload_n hx hb dX11_undo_0 rfl (lv_at hl 0 rfl) ?_
  refine va_get (D := G.1) (ci := 11) (v := .int 0) (C := RX11) (T := TX11) (N := 14) hx hb ht inlX11 hown hK.1 hP 0 rfl rfl 13 (by decide) (ht (Cond.fieldLink RX11 81 "PloughDepot" "undoable" "Z") mw_2_20) (fun _ h9 => h9) rfl dX11_undo_1 ?_
  refine lv_if_ne (tgt := 13) hx hb dX11_undo_4 (by decide) (fun c_1 => ?_) (fun c_1 => ?_)
  · exact absurd c_1 (by decide)
  · refine lv_aload_n hx hb dX11_undo_7 rfl (lv_at hl 0 rfl) ?_
    refine lv_iconst (v := 0) hx hb dX11_undo_8 (by decide) ?_
    have hPc := hP.sub (ws' := [(dp, .inr (11, [.ref lg, .ref nw, d2, d3, d4, d5, d6, d7, d8, d9, d10, d11, .int 0, .int 0])), (lg, .inr (2, [lfi, lst, ltr, llk]))]) [0, 1] rfl
    have hDc := hD.sub (ws' := [(dp, .inr (11, [.ref lg, .ref nw, d2, d3, d4, d5, d6, d7, d8, d9, d10, d11, .int 0, .int 0])), (lg, .inr (2, [lfi, lst, ltr, llk]))]) [0, 1] (by decide) rfl
    have hFc := va_free (wc := [(dp, .inr (11, [.ref lg, .ref nw, d2, d3, d4, d5, d6, d7, d8, d9, d10, d11, .int 0, .int 0])), (lg, .inr (2, [lfi, lst, ltr, llk]))]) hD hS hA [0, 1] rfl
    refine va_calli (va_runV (As := [.int 0]) (rest := []) ⟨hx, hb, hml, hown, hts⟩ (k_answer l G _ dp 0 lg ([.ref nw, d2, d3, d4, d5, d6, d7, d8, d9, d10, d11, .int 0, .int 0]) lfi lst ltr llk ) (cwV 1 hts (gd_V mw_11_2 mw_11_3 mw_11_4 mw_1_2 mw_11_5) rfl rfl rfl ⟨rfl, yk_X11_answer⟩ ⟨Nat.le_of_ble_eq_true rfl, Nat.le_of_ble_eq_true rfl⟩) (c0_preV (q0 := 0) (ci := 11) (q := (RX11, TX11, 14)) hPc hK hDc rfl rfl) rfl rfl hl.1 rfl (lv_room (Nat.le_of_ble_eq_true rfl)) dX11_undo_9 ⟨Nat.le_of_ble_eq_true rfl, Nat.le_of_ble_eq_true rfl⟩) hS (fun q _ h => hFc q h) hFc (fun r_2 u t H1 locs ht1 hvm hw hB hz1 hk1 hS => ?_)
    try dsimp only at hw hB
    have hr2 := hw
    obtain rfl := hr2.symm
    obtain ⟨hP1, hD1⟩ := hB
    rw [ht1] at hP1
    obtain ⟨hP, hD⟩ := va_join (wr := []) (w1 := [(dp, .inr (11, [.ref lg, .ref nw, d2, d3, d4, d5, d6, d7, d8, d9, d10, d11, .int 0, .int 0])), (lg, .inr (2, [lfi, .int 0, ltr, llk]))]) hP hD [0, 1] [] rfl rfl (by decide) (by decide) hk1 hFc hP1 hD1
    generalize H1 = H at hP hS ⊢
    have hP : va_P G.1 vwCl ([(dp, .inr (11, [.ref lg, .ref nw, d2, d3, d4, d5, d6, d7, d8, d9, d10, d11, .int 0, .int 0])), (lg, .inr (2, [lfi, .int 0, ltr, llk]))]) H := hP
    have hD : va_D A ([(dp, .inr (11, [.ref lg, .ref nw, d2, d3, d4, d5, d6, d7, d8, d9, d10, d11, .int 0, .int 0])), (lg, .inr (2, [lfi, .int 0, ltr, llk]))]) := hD
    exact W.iret (v := 0) hx hb hr (fun t ht hW => ⟨⟨0, (), rfl, rfl, trivial⟩, hS.F ht⟩) hS.2.2 dX11_undo_12

set_option maxHeartbeats 4000000 in
set_option maxRecDepth 100000 in
theorem k_text (l : Launch) (G : GG) (sz : Nat) (dp : Nat) (lg : Nat) (nw : Nat) (d2 : Value) (d3 : Value) (d4 : Value) (d5 : Value) (d6 : Value) (d7 : Value) (d8 : Value) (d9 : Value) (d10 : Value) (d11 : Value) (lfi : Value) (lst : Value) (ltr : Value) (llk : Value) (n1 : Value) (n2 : Value) (n3 : Value) (td : Nat) (nv : List Value) (tdc : Value)  : Met l yX11_text (.code yX11_text cX11_text 3 (some .int) :: TT) ({ frames := 2, cells := 0, slots := 0, locals := 200 } : Room) (c0_P G [.ref dp] sz ([(dp, .inr (11, [.ref lg, .ref nw, d2, d3, d4, d5, d6, d7, d8, d9, d10, d11, .int 0, .int 0])), (lg, .inr (2, [lfi, lst, ltr, llk])), (nw, .inr (1, .int 0 :: n1 :: n2 :: n3 :: .ref td :: nv)), (td, .inr (8, [tdc, .int 0]))])) (va_Qi (S := Unit) (fun (r : Int32) (u : Unit) => r = 0) (fun (u : Unit) (t : State) => True) (va_A ([(dp, .inr (11, [.ref lg, .ref nw, d2, d3, d4, d5, d6, d7, d8, d9, d10, d11, .int 0, .int 0])), (lg, .inr (2, [lfi, lst, ltr, llk])), (nw, .inr (1, .int 0 :: n1 :: n2 :: n3 :: .ref td :: nv)), (td, .inr (8, [tdc, .int 0]))]) sz)) 0 0 (va_A ([(dp, .inr (11, [.ref lg, .ref nw, d2, d3, d4, d5, d6, d7, d8, d9, d10, d11, .int 0, .int 0])), (lg, .inr (2, [lfi, lst, ltr, llk])), (nw, .inr (1, .int 0 :: n1 :: n2 :: n3 :: .ref td :: nv)), (td, .inr (8, [tdc, .int 0]))]) sz) := by
  refine Met.ofW (cc := cX11_text) (maxL := 3) (ret := (some .int)) (by decide) rfl ?_
  intro p e s m args below meth c s₁ B hml hv
  obtain ⟨rfl, hsz, hP, hK, hD0⟩ := hv
  have hx := B.exec
  have hb := B.bytes
  have hr := B.returns
  have hts := atoms_spec (ws := .code yX11_text cX11_text 3 (some .int) :: TT) B.pre
  have ht := fun (w : Cond) (h : w ∈ TT) => hts w (List.mem_cons_of_mem _ h)
  have hown : s.vm.findClass RX11 = some m.cls := findClass_of_methodNamed B.named
  have hlocks := B.notSynchronized
  subst hsz
  have hD := hD0.self (sz := s.heap.size)
  generalize hAe : va_A ([(dp, .inr (11, [.ref lg, .ref nw, d2, d3, d4, d5, d6, d7, d8, d9, d10, d11, .int 0, .int 0])), (lg, .inr (2, [lfi, lst, ltr, llk])), (nw, .inr (1, .int 0 :: n1 :: n2 :: n3 :: .ref td :: nv)), (td, .inr (8, [tdc, .int 0]))]) s.heap.size = A at hD ⊢
  have hA : ∀ q : Nat, s.heap.size ≤ q → A q := fun q h => by rw [← hAe]; exact Or.inr h
  have hS : va_S A s.heap s.heap [] := va_S.rf
  have hP : va_P G.1 vwCl ([(dp, .inr (11, [.ref lg, .ref nw, d2, d3, d4, d5, d6, d7, d8, d9, d10, d11, .int 0, .int 0])), (lg, .inr (2, [lfi, lst, ltr, llk])), (nw, .inr (1, .int 0 :: n1 :: n2 :: n3 :: .ref td :: nv)), (td, .inr (8, [tdc, .int 0]))]) s.heap := hP
  have hl := lv_entry ([.ref dp]) (n := 3) (Nat.le_of_ble_eq_true rfl)
  rw [lg_entry_eq]
  generalize (lg_sl ([.ref dp]) ++ List.replicate (3 - (lg_sl ([.ref dp])).length) Slot.unset).toArray = ls at hl ⊢
  have hl : lv_has ls 3 [(0, .ref dp)] := hl
  refine lv_aload_n hx hb dX11_text_0 rfl (lv_at hl 0 rfl) ?_
  refine lv_iconst (v := 0) hx hb dX11_text_1 (by decide) ?_
  refine va_put (D := G.1) (ci := 11) (v := .int 0) (ty := tyX11 12) (C := RX11) (T := TX11) (N := 14) hx hb ht inlX11 tyX11 tyX11_ok nmX11 hown hK.1 hP hD hS 0 rfl rfl 12 (by decide) (ht (Cond.fieldLink RX11 77 "PloughDepot" "written" "I") mw_2_19) (fun _ h9 => h9) rfl (tyX11_ok 12 (by decide)) rfl rfl (Nat.le_of_ble_eq_true rfl) dX11_text_2 (fun H locs hP hD hS => ?_)
  have hP : va_P G.1 vwCl ([(dp, .inr (11, [.ref lg, .ref nw, d2, d3, d4, d5, d6, d7, d8, d9, d10, d11, .int 0, .int 0])), (lg, .inr (2, [lfi, lst, ltr, llk])), (nw, .inr (1, .int 0 :: n1 :: n2 :: n3 :: .ref td :: nv)), (td, .inr (8, [tdc, .int 0]))]) H := hP
  have hD : va_D A ([(dp, .inr (11, [.ref lg, .ref nw, d2, d3, d4, d5, d6, d7, d8, d9, d10, d11, .int 0, .int 0])), (lg, .inr (2, [lfi, lst, ltr, llk])), (nw, .inr (1, .int 0 :: n1 :: n2 :: n3 :: .ref td :: nv)), (td, .inr (8, [tdc, .int 0]))]) := hD
  refine lv_iconst (v := 1) hx hb dX11_text_5 (by decide) ?_
  refine lv_istore_n (lv' := [(1, .int 1), (0, .ref dp)]) hx hb dX11_text_6 rfl hl (by decide) rfl (fun ls hl => ?_)
  refine lv_iconst (v := 0) hx hb dX11_text_7 (by decide) ?_
  refine lv_istore_n (lv' := [(2, .int 0), (1, .int 1), (0, .ref dp)]) hx hb dX11_text_8 rfl hl (by decide) rfl (fun ls hl => ?_)
  refine lv_iload_n hx hb dX11_text_9 rfl (lv_at hl 0 rfl) ?_
  refine lv_aload_n hx hb dX11_text_10 rfl (lv_at hl 2 rfl) ?_
  refine va_get (D := G.1) (ci := 11) (v := .ref nw) (C := RX11) (T := TX11) (N := 14) hx hb ht inlX11 hown hK.1 hP 0 rfl rfl 1 (by decide) (ht (Cond.fieldLink RX11 19 "PloughDepot" "now" "LPloughDepot$Books;") mw_1_19) (fun _ h9 => h9) rfl dX11_text_11 ?_
  refine va_get (D := G.1) (ci := 1) (v := .ref td) (C := RX1) (T := TX1) (N := 8) hx hb ht inlX1 hown hK.1 hP 2 rfl rfl 4 (by decide) (ht (Cond.fieldLink RX11 274 "PloughDepot$Books" "drives" "LPloughDepot$Table;") mw_43_7) (fun _ h9 => h9) rfl dX11_text_14 ?_
  refine va_get (D := G.1) (ci := 8) (v := .int 0) (C := RX8) (T := TX8) (N := 2) hx hb ht inlX8 hown hK.1 hP 3 rfl rfl 1 (by decide) (ht (Cond.fieldLink RX11 109 "PloughDepot$Table" "size" "I") mw_12_13) (fun _ h9 => h9) rfl dX11_text_17 ?_
  refine lv_icmp_ge (tgt := 39) hx hb dX11_text_20 (by decide) (fun c_1 => ?_) (fun c_1 => ?_)
  · refine lv_aload_n hx hb dX11_text_39 rfl (lv_at hl 2 rfl) ?_
    refine lv_aload_n hx hb dX11_text_40 rfl (lv_at hl 2 rfl) ?_
    refine va_get (D := G.1) (ci := 11) (v := .int 0) (C := RX11) (T := TX11) (N := 14) hx hb ht inlX11 hown hK.1 hP 0 rfl rfl 12 (by decide) (ht (Cond.fieldLink RX11 77 "PloughDepot" "written" "I") mw_2_19) (fun _ h9 => h9) rfl dX11_text_41 ?_
    have hPc := hP.sub (ws' := [(dp, .inr (11, [.ref lg, .ref nw, d2, d3, d4, d5, d6, d7, d8, d9, d10, d11, .int 0, .int 0])), (lg, .inr (2, [lfi, lst, ltr, llk]))]) [0, 1] rfl
    have hDc := hD.sub (ws' := [(dp, .inr (11, [.ref lg, .ref nw, d2, d3, d4, d5, d6, d7, d8, d9, d10, d11, .int 0, .int 0])), (lg, .inr (2, [lfi, lst, ltr, llk]))]) [0, 1] (by decide) rfl
    have hFc := va_free (wc := [(dp, .inr (11, [.ref lg, .ref nw, d2, d3, d4, d5, d6, d7, d8, d9, d10, d11, .int 0, .int 0])), (lg, .inr (2, [lfi, lst, ltr, llk]))]) hD hS hA [0, 1] rfl
    refine va_calli (va_runV (As := [.int 0]) (rest := []) ⟨hx, hb, hml, hown, hts⟩ (k_answer l G _ dp 0 lg ([.ref nw, d2, d3, d4, d5, d6, d7, d8, d9, d10, d11, .int 0, .int 0]) lfi lst ltr llk ) (cwV 1 hts (gd_V mw_11_2 mw_11_3 mw_11_4 mw_1_2 mw_11_5) rfl rfl rfl ⟨rfl, yk_X11_answer⟩ ⟨Nat.le_of_ble_eq_true rfl, Nat.le_of_ble_eq_true rfl⟩) (c0_preV (q0 := 0) (ci := 11) (q := (RX11, TX11, 14)) hPc hK hDc rfl rfl) rfl rfl hl.1 rfl (lv_room (Nat.le_of_ble_eq_true rfl)) dX11_text_44 ⟨Nat.le_of_ble_eq_true rfl, Nat.le_of_ble_eq_true rfl⟩) hS (fun q _ h => hFc q h) hFc (fun r_2 u t H1 locs ht1 hvm hw hB hz1 hk1 hS => ?_)
    try dsimp only at hw hB
    have hr2 := hw
    obtain rfl := hr2.symm
    obtain ⟨hP1, hD1⟩ := hB
    rw [ht1] at hP1
    obtain ⟨hP, hD⟩ := va_join (wr := [(nw, .inr (1, .int 0 :: n1 :: n2 :: n3 :: .ref td :: nv)), (td, .inr (8, [tdc, .int 0]))]) (w1 := [(dp, .inr (11, [.ref lg, .ref nw, d2, d3, d4, d5, d6, d7, d8, d9, d10, d11, .int 0, .int 0])), (lg, .inr (2, [lfi, .int 0, ltr, llk]))]) hP hD [0, 1] [2, 3] rfl rfl (by decide) (by decide) hk1 hFc hP1 hD1
    generalize H1 = H at hP hS ⊢
    have hP : va_P G.1 vwCl ([(nw, .inr (1, .int 0 :: n1 :: n2 :: n3 :: .ref td :: nv)), (td, .inr (8, [tdc, .int 0])), (dp, .inr (11, [.ref lg, .ref nw, d2, d3, d4, d5, d6, d7, d8, d9, d10, d11, .int 0, .int 0])), (lg, .inr (2, [lfi, .int 0, ltr, llk]))]) H := hP
    have hD : va_D A ([(nw, .inr (1, .int 0 :: n1 :: n2 :: n3 :: .ref td :: nv)), (td, .inr (8, [tdc, .int 0])), (dp, .inr (11, [.ref lg, .ref nw, d2, d3, d4, d5, d6, d7, d8, d9, d10, d11, .int 0, .int 0])), (lg, .inr (2, [lfi, .int 0, ltr, llk]))]) := hD
    exact W.iret (v := 0) hx hb hr (fun t ht hW => ⟨⟨0, (), rfl, rfl, trivial⟩, hS.F ht⟩) hS.2.2 dX11_text_47
  · exact absurd c_1 (by decide)

set_option maxHeartbeats 4000000 in
set_option maxRecDepth 100000 in
theorem k_digestOf (l : Launch) (G : GG) (sz : Nat) (tb : Nat) (sm : Int32) (tbc : Value)  : Met l yX8_digestOf (.code yX8_digestOf cX8_digestOf 5 (some .int) :: TT) ({ frames := 1, cells := 0, slots := 0, locals := 100 } : Room) (c0_P G [.ref tb, .int sm] sz ([(tb, .inr (8, [tbc, .int 0]))])) (va_Qi (S := Unit) (fun (r : Int32) (u : Unit) => r = sm) (fun (u : Unit) (t : State) => c0_B G (va_A ([(tb, .inr (8, [tbc, .int 0]))]) sz) ([(tb, .inr (8, [tbc, .int 0]))]) t) (va_A ([(tb, .inr (8, [tbc, .int 0]))]) sz)) 0 0 (va_A ([(tb, .inr (8, [tbc, .int 0]))]) sz) := by
  refine Met.ofW (cc := cX8_digestOf) (maxL := 5) (ret := (some .int)) (by decide) rfl ?_
  intro p e s m args below meth c s₁ B hml hv
  obtain ⟨rfl, hsz, hP, hK, hD0⟩ := hv
  have hx := B.exec
  have hb := B.bytes
  have hr := B.returns
  have hts := atoms_spec (ws := .code yX8_digestOf cX8_digestOf 5 (some .int) :: TT) B.pre
  have ht := fun (w : Cond) (h : w ∈ TT) => hts w (List.mem_cons_of_mem _ h)
  have hown : s.vm.findClass RX8 = some m.cls := findClass_of_methodNamed B.named
  have hlocks := B.notSynchronized
  subst hsz
  have hD := hD0.self (sz := s.heap.size)
  generalize hAe : va_A ([(tb, .inr (8, [tbc, .int 0]))]) s.heap.size = A at hD ⊢
  have hA : ∀ q : Nat, s.heap.size ≤ q → A q := fun q h => by rw [← hAe]; exact Or.inr h
  have hS : va_S A s.heap s.heap [] := va_S.rf
  have hP : va_P G.1 vwCl ([(tb, .inr (8, [tbc, .int 0]))]) s.heap := hP
  have hl := lv_entry ([.ref tb, .int sm]) (n := 5) (Nat.le_of_ble_eq_true rfl)
  rw [lg_entry_eq]
  generalize (lg_sl ([.ref tb, .int sm]) ++ List.replicate (5 - (lg_sl ([.ref tb, .int sm])).length) Slot.unset).toArray = ls at hl ⊢
  have hl : lv_has ls 5 [(0, .ref tb), (1, .int sm)] := hl
  refine lv_iload_n hx hb dX8_digestOf_0 rfl (lv_at hl 1 rfl) ?_
  refine lv_istore_n (lv' := [(2, .int sm), (0, .ref tb), (1, .int sm)]) hx hb dX8_digestOf_1 rfl hl (by decide) rfl (fun ls hl => ?_)
  refine lv_iconst (v := 0) hx hb dX8_digestOf_2 (by decide) ?_
  refine lv_istore_n (lv' := [(3, .int 0), (2, .int sm), (0, .ref tb), (1, .int sm)]) hx hb dX8_digestOf_3 rfl hl (by decide) rfl (fun ls hl => ?_)
  refine lv_iload_n hx hb dX8_digestOf_4 rfl (lv_at hl 0 rfl) ?_
  refine lv_aload_n hx hb dX8_digestOf_5 rfl (lv_at hl 2 rfl) ?_
  refine va_get (D := G.1) (ci := 8) (v := .int 0) (C := RX8) (T := TX8) (N := 2) hx hb ht inlX8 hown hK.1 hP 0 rfl rfl 1 (by decide) (ht (Cond.fieldLink RX8 9 "PloughDepot$Table" "size" "I") mw_4_2) (fun _ h9 => h9) rfl dX8_digestOf_6 ?_
  refine lv_icmp_ge (tgt := 52) hx hb dX8_digestOf_9 (by decide) (fun c_1 => ?_) (fun c_1 => ?_)
  · refine lv_iload_n hx hb dX8_digestOf_52 rfl (lv_at hl 1 rfl) ?_
    have hP9 := hP.sub (ws' := [(tb, .inr (8, [tbc, .int 0]))]) [0] rfl
    have hD9 := hD.sub (ws' := [(tb, .inr (8, [tbc, .int 0]))]) [0] (by decide) rfl
    exact W.iret (v := sm) hx hb hr (fun t ht hW => ⟨⟨sm, (), rfl, rfl, ⟨by rw [ht]; exact hP9, hD9⟩⟩, hS.F ht⟩) hS.2.2 dX8_digestOf_53
  · exact absurd c_1 (by decide)

set_option maxHeartbeats 4000000 in
set_option maxRecDepth 100000 in
theorem k_digest (l : Launch) (G : GG) (sz : Nat) (dp : Nat) (lg : Nat) (nw : Nat) (dv : List Value) (lfi : Value) (lst : Value) (ltr : Value) (llk : Value) (ts : Nat) (tg : Nat) (tp : Nat) (td : Nat) (nv : List Value) (tsc : Value) (tgc : Value) (tpc : Value) (tdc : Value)  : Met l yX11_digest (.code yX11_digest cX11_digest 5 (some .int) :: TT) ({ frames := 2, cells := 0, slots := 0, locals := 200 } : Room) (c0_P G [.ref dp] sz ([(dp, .inr (11, .ref lg :: .ref nw :: dv)), (lg, .inr (2, [lfi, lst, ltr, llk])), (nw, .inr (1, .int 0 :: .ref ts :: .ref tg :: .ref tp :: .ref td :: nv)), (ts, .inr (8, [tsc, .int 0])), (tg, .inr (8, [tgc, .int 0])), (tp, .inr (8, [tpc, .int 0])), (td, .inr (8, [tdc, .int 0]))])) (va_Qi (S := Unit) (fun (r : Int32) (u : Unit) => r = 217) (fun (u : Unit) (t : State) => True) (va_A ([(dp, .inr (11, .ref lg :: .ref nw :: dv)), (lg, .inr (2, [lfi, lst, ltr, llk])), (nw, .inr (1, .int 0 :: .ref ts :: .ref tg :: .ref tp :: .ref td :: nv)), (ts, .inr (8, [tsc, .int 0])), (tg, .inr (8, [tgc, .int 0])), (tp, .inr (8, [tpc, .int 0])), (td, .inr (8, [tdc, .int 0]))]) sz)) 0 0 (va_A ([(dp, .inr (11, .ref lg :: .ref nw :: dv)), (lg, .inr (2, [lfi, lst, ltr, llk])), (nw, .inr (1, .int 0 :: .ref ts :: .ref tg :: .ref tp :: .ref td :: nv)), (ts, .inr (8, [tsc, .int 0])), (tg, .inr (8, [tgc, .int 0])), (tp, .inr (8, [tpc, .int 0])), (td, .inr (8, [tdc, .int 0]))]) sz) := by
  refine Met.ofW (cc := cX11_digest) (maxL := 5) (ret := (some .int)) (by decide) rfl ?_
  intro p e s m args below meth c s₁ B hml hv
  obtain ⟨rfl, hsz, hP, hK, hD0⟩ := hv
  have hx := B.exec
  have hb := B.bytes
  have hr := B.returns
  have hts := atoms_spec (ws := .code yX11_digest cX11_digest 5 (some .int) :: TT) B.pre
  have ht := fun (w : Cond) (h : w ∈ TT) => hts w (List.mem_cons_of_mem _ h)
  have hown : s.vm.findClass RX11 = some m.cls := findClass_of_methodNamed B.named
  have hlocks := B.notSynchronized
  subst hsz
  have hD := hD0.self (sz := s.heap.size)
  generalize hAe : va_A ([(dp, .inr (11, .ref lg :: .ref nw :: dv)), (lg, .inr (2, [lfi, lst, ltr, llk])), (nw, .inr (1, .int 0 :: .ref ts :: .ref tg :: .ref tp :: .ref td :: nv)), (ts, .inr (8, [tsc, .int 0])), (tg, .inr (8, [tgc, .int 0])), (tp, .inr (8, [tpc, .int 0])), (td, .inr (8, [tdc, .int 0]))]) s.heap.size = A at hD ⊢
  have hA : ∀ q : Nat, s.heap.size ≤ q → A q := fun q h => by rw [← hAe]; exact Or.inr h
  have hS : va_S A s.heap s.heap [] := va_S.rf
  have hP : va_P G.1 vwCl ([(dp, .inr (11, .ref lg :: .ref nw :: dv)), (lg, .inr (2, [lfi, lst, ltr, llk])), (nw, .inr (1, .int 0 :: .ref ts :: .ref tg :: .ref tp :: .ref td :: nv)), (ts, .inr (8, [tsc, .int 0])), (tg, .inr (8, [tgc, .int 0])), (tp, .inr (8, [tpc, .int 0])), (td, .inr (8, [tdc, .int 0]))]) s.heap := hP
  have hl := lv_entry ([.ref dp]) (n := 5) (Nat.le_of_ble_eq_true rfl)
  rw [lg_entry_eq]
  generalize (lg_sl ([.ref dp]) ++ List.replicate (5 - (lg_sl ([.ref dp])).length) Slot.unset).toArray = ls at hl ⊢
  have hl : lv_has ls 5 [(0, .ref dp)] := hl
  refine lv_sipush (v := 217) hx hb dX11_digest_0 (by decide) ?_
  refine lv_aload_n hx hb dX11_digest_3 rfl (lv_at hl 0 rfl) ?_
  refine va_get (D := G.1) (ci := 11) (v := .ref nw) (C := RX11) (T := TX11) (N := 14) hx hb ht inlX11 hown hK.1 hP 0 rfl rfl 1 (by decide) (ht (Cond.fieldLink RX11 19 "PloughDepot" "now" "LPloughDepot$Books;") mw_1_19) (fun _ h9 => h9) rfl dX11_digest_4 ?_
  refine va_get (D := G.1) (ci := 1) (v := .int 0) (C := RX1) (T := TX1) (N := 8) hx hb ht inlX1 hown hK.1 hP 2 rfl rfl 0 (by decide) (ht (Cond.fieldLink RX11 92 "PloughDepot$Books" "crossings" "I") mw_7_21) (fun _ h9 => h9) rfl dX11_digest_7 ?_
  refine lv_iadd hx hb dX11_digest_10 ?_
  refine lv_topi (fun v_1 ev_1 => ?_)
  obtain rfl : v_1 = 217 := ev_1.trans (by decide)
  refine lv_istore_n (lv' := [(1, .int 217), (0, .ref dp)]) hx hb dX11_digest_11 rfl hl (by decide) rfl (fun ls hl => ?_)
  refine lv_aload_n hx hb dX11_digest_12 rfl (lv_at hl 1 rfl) ?_
  refine va_get (D := G.1) (ci := 11) (v := .ref nw) (C := RX11) (T := TX11) (N := 14) hx hb ht inlX11 hown hK.1 hP 0 rfl rfl 1 (by decide) (ht (Cond.fieldLink RX11 19 "PloughDepot" "now" "LPloughDepot$Books;") mw_1_19) (fun _ h9 => h9) rfl dX11_digest_13 ?_
  refine va_get (D := G.1) (ci := 1) (v := .ref ts) (C := RX1) (T := TX1) (N := 8) hx hb ht inlX1 hown hK.1 hP 2 rfl rfl 1 (by decide) (ht (Cond.fieldLink RX11 105 "PloughDepot$Books" "streets" "LPloughDepot$Table;") mw_12_12) (fun _ h9 => h9) rfl dX11_digest_16 ?_
  refine lv_iload_n hx hb dX11_digest_19 rfl (lv_at hl 0 rfl) ?_
  have hPc := hP.sub (ws' := [(ts, .inr (8, [tsc, .int 0]))]) [3] rfl
  have hDc := hD.sub (ws' := [(ts, .inr (8, [tsc, .int 0]))]) [3] (by decide) rfl
  have hFc := va_free (wc := [(ts, .inr (8, [tsc, .int 0]))]) hD hS hA [3] rfl
  refine va_calli (va_runV (As := [.int 217]) (rest := []) ⟨hx, hb, hml, hown, hts⟩ (k_digestOf l G _ ts 217 tsc ) (cwV 1 hts (gd_V mw_58_0 mw_58_1 mw_58_2 mw_3_13 mw_58_3) rfl rfl rfl ⟨rfl, yk_X8_digestOf⟩ ⟨Nat.le_of_ble_eq_true rfl, Nat.le_of_ble_eq_true rfl⟩) (c0_preV (q0 := 0) (ci := 8) (q := (RX8, TX8, 2)) hPc hK hDc rfl rfl) rfl rfl hl.1 rfl (lv_room (Nat.le_of_ble_eq_true rfl)) dX11_digest_20 ⟨Nat.le_of_ble_eq_true rfl, Nat.le_of_ble_eq_true rfl⟩) hS (fun q _ h => hFc q h) hFc (fun r_2 u t H1 locs ht1 hvm hw hB hz1 hk1 hS => ?_)
  try dsimp only at hw hB
  have hr2 := hw
  obtain rfl := hr2.symm
  obtain ⟨hP1, hD1⟩ := hB
  rw [ht1] at hP1
  obtain ⟨hP, hD⟩ := va_join (wr := [(dp, .inr (11, .ref lg :: .ref nw :: dv)), (lg, .inr (2, [lfi, lst, ltr, llk])), (nw, .inr (1, .int 0 :: .ref ts :: .ref tg :: .ref tp :: .ref td :: nv)), (tg, .inr (8, [tgc, .int 0])), (tp, .inr (8, [tpc, .int 0])), (td, .inr (8, [tdc, .int 0]))]) (w1 := [(ts, .inr (8, [tsc, .int 0]))]) hP hD [3] [0, 1, 2, 4, 5, 6] rfl rfl (by decide) (by decide) hk1 hFc hP1 hD1
  generalize H1 = H at hP hS ⊢
  have hP : va_P G.1 vwCl ([(dp, .inr (11, .ref lg :: .ref nw :: dv)), (lg, .inr (2, [lfi, lst, ltr, llk])), (nw, .inr (1, .int 0 :: .ref ts :: .ref tg :: .ref tp :: .ref td :: nv)), (tg, .inr (8, [tgc, .int 0])), (tp, .inr (8, [tpc, .int 0])), (td, .inr (8, [tdc, .int 0])), (ts, .inr (8, [tsc, .int 0]))]) H := hP
  have hD : va_D A ([(dp, .inr (11, .ref lg :: .ref nw :: dv)), (lg, .inr (2, [lfi, lst, ltr, llk])), (nw, .inr (1, .int 0 :: .ref ts :: .ref tg :: .ref tp :: .ref td :: nv)), (tg, .inr (8, [tgc, .int 0])), (tp, .inr (8, [tpc, .int 0])), (td, .inr (8, [tdc, .int 0])), (ts, .inr (8, [tsc, .int 0]))]) := hD
  refine lv_istore_n (lv' := [(1, .int 217), (0, .ref dp)]) hx hb dX11_digest_23 rfl hl (by decide) rfl (fun ls hl => ?_)
  refine lv_iconst (v := 0) hx hb dX11_digest_24 (by decide) ?_
  refine lv_istore_n (lv' := [(2, .int 0), (1, .int 217), (0, .ref dp)]) hx hb dX11_digest_25 rfl hl (by decide) rfl (fun ls hl => ?_)
  refine lv_iload_n hx hb dX11_digest_26 rfl (lv_at hl 0 rfl) ?_
  refine lv_aload_n hx hb dX11_digest_27 rfl (lv_at hl 2 rfl) ?_
  refine va_get (D := G.1) (ci := 11) (v := .ref nw) (C := RX11) (T := TX11) (N := 14) hx hb ht inlX11 hown hK.1 hP 0 rfl rfl 1 (by decide) (ht (Cond.fieldLink RX11 19 "PloughDepot" "now" "LPloughDepot$Books;") mw_1_19) (fun _ h9 => h9) rfl dX11_digest_28 ?_
  refine va_get (D := G.1) (ci := 1) (v := .ref tg) (C := RX1) (T := TX1) (N := 8) hx hb ht inlX1 hown hK.1 hP 2 rfl rfl 2 (by decide) (ht (Cond.fieldLink RX11 144 "PloughDepot$Books" "gauges" "LPloughDepot$Table;") mw_19_21) (fun _ h9 => h9) rfl dX11_digest_31 ?_
  refine va_get (D := G.1) (ci := 8) (v := .int 0) (C := RX8) (T := TX8) (N := 2) hx hb ht inlX8 hown hK.1 hP 3 rfl rfl 1 (by decide) (ht (Cond.fieldLink RX11 109 "PloughDepot$Table" "size" "I") mw_12_13) (fun _ h9 => h9) rfl dX11_digest_34 ?_
  refine lv_icmp_ge (tgt := 113) hx hb dX11_digest_37 (by decide) (fun c_3 => ?_) (fun c_3 => ?_)
  · refine lv_aload_n hx hb dX11_digest_113 rfl (lv_at hl 2 rfl) ?_
    refine va_get (D := G.1) (ci := 11) (v := .ref nw) (C := RX11) (T := TX11) (N := 14) hx hb ht inlX11 hown hK.1 hP 0 rfl rfl 1 (by decide) (ht (Cond.fieldLink RX11 19 "PloughDepot" "now" "LPloughDepot$Books;") mw_1_19) (fun _ h9 => h9) rfl dX11_digest_114 ?_
    refine va_get (D := G.1) (ci := 1) (v := .ref tp) (C := RX1) (T := TX1) (N := 8) hx hb ht inlX1 hown hK.1 hP 2 rfl rfl 3 (by decide) (ht (Cond.fieldLink RX11 203 "PloughDepot$Books" "ploughs" "LPloughDepot$Table;") mw_29_16) (fun _ h9 => h9) rfl dX11_digest_117 ?_
    refine lv_iload_n hx hb dX11_digest_120 rfl (lv_at hl 1 rfl) ?_
    have hPc := hP.sub (ws' := [(tp, .inr (8, [tpc, .int 0]))]) [4] rfl
    have hDc := hD.sub (ws' := [(tp, .inr (8, [tpc, .int 0]))]) [4] (by decide) rfl
    have hFc := va_free (wc := [(tp, .inr (8, [tpc, .int 0]))]) hD hS hA [4] rfl
    refine va_calli (va_runV (As := [.int 217]) (rest := []) ⟨hx, hb, hml, hown, hts⟩ (k_digestOf l G _ tp 217 tpc ) (cwV 1 hts (gd_V mw_58_0 mw_58_1 mw_58_2 mw_3_13 mw_58_3) rfl rfl rfl ⟨rfl, yk_X8_digestOf⟩ ⟨Nat.le_of_ble_eq_true rfl, Nat.le_of_ble_eq_true rfl⟩) (c0_preV (q0 := 0) (ci := 8) (q := (RX8, TX8, 2)) hPc hK hDc rfl rfl) rfl rfl hl.1 rfl (lv_room (Nat.le_of_ble_eq_true rfl)) dX11_digest_121 ⟨Nat.le_of_ble_eq_true rfl, Nat.le_of_ble_eq_true rfl⟩) hS (fun q _ h => hFc q h) hFc (fun r_4 u t H1 locs ht1 hvm hw hB hz1 hk1 hS => ?_)
    try dsimp only at hw hB
    have hr4 := hw
    obtain rfl := hr4.symm
    obtain ⟨hP1, hD1⟩ := hB
    rw [ht1] at hP1
    obtain ⟨hP, hD⟩ := va_join (wr := [(dp, .inr (11, .ref lg :: .ref nw :: dv)), (lg, .inr (2, [lfi, lst, ltr, llk])), (nw, .inr (1, .int 0 :: .ref ts :: .ref tg :: .ref tp :: .ref td :: nv)), (tg, .inr (8, [tgc, .int 0])), (td, .inr (8, [tdc, .int 0])), (ts, .inr (8, [tsc, .int 0]))]) (w1 := [(tp, .inr (8, [tpc, .int 0]))]) hP hD [4] [0, 1, 2, 3, 5, 6] rfl rfl (by decide) (by decide) hk1 hFc hP1 hD1
    generalize H1 = H at hP hS ⊢
    have hP : va_P G.1 vwCl ([(dp, .inr (11, .ref lg :: .ref nw :: dv)), (lg, .inr (2, [lfi, lst, ltr, llk])), (nw, .inr (1, .int 0 :: .ref ts :: .ref tg :: .ref tp :: .ref td :: nv)), (tg, .inr (8, [tgc, .int 0])), (td, .inr (8, [tdc, .int 0])), (ts, .inr (8, [tsc, .int 0])), (tp, .inr (8, [tpc, .int 0]))]) H := hP
    have hD : va_D A ([(dp, .inr (11, .ref lg :: .ref nw :: dv)), (lg, .inr (2, [lfi, lst, ltr, llk])), (nw, .inr (1, .int 0 :: .ref ts :: .ref tg :: .ref tp :: .ref td :: nv)), (tg, .inr (8, [tgc, .int 0])), (td, .inr (8, [tdc, .int 0])), (ts, .inr (8, [tsc, .int 0])), (tp, .inr (8, [tpc, .int 0]))]) := hD
    refine lv_istore_n (lv' := [(1, .int 217), (2, .int 0), (0, .ref dp)]) hx hb dX11_digest_124 rfl hl (by decide) rfl (fun ls hl => ?_)
    refine lv_aload_n hx hb dX11_digest_125 rfl (lv_at hl 2 rfl) ?_
    refine lv_aload_n hx hb dX11_digest_126 rfl (lv_at hl 2 rfl) ?_
    refine va_get (D := G.1) (ci := 11) (v := .ref nw) (C := RX11) (T := TX11) (N := 14) hx hb ht inlX11 hown hK.1 hP 0 rfl rfl 1 (by decide) (ht (Cond.fieldLink RX11 19 "PloughDepot" "now" "LPloughDepot$Books;") mw_1_19) (fun _ h9 => h9) rfl dX11_digest_127 ?_
    refine va_get (D := G.1) (ci := 1) (v := .ref td) (C := RX1) (T := TX1) (N := 8) hx hb ht inlX1 hown hK.1 hP 2 rfl rfl 4 (by decide) (ht (Cond.fieldLink RX11 274 "PloughDepot$Books" "drives" "LPloughDepot$Table;") mw_43_7) (fun _ h9 => h9) rfl dX11_digest_130 ?_
    refine lv_iload_n hx hb dX11_digest_133 rfl (lv_at hl 0 rfl) ?_
    have hPc := hP.sub (ws' := [(td, .inr (8, [tdc, .int 0]))]) [4] rfl
    have hDc := hD.sub (ws' := [(td, .inr (8, [tdc, .int 0]))]) [4] (by decide) rfl
    have hFc := va_free (wc := [(td, .inr (8, [tdc, .int 0]))]) hD hS hA [4] rfl
    refine va_calli (va_runV (As := [.int 217]) (rest := [.ref dp]) ⟨hx, hb, hml, hown, hts⟩ (k_digestOf l G _ td 217 tdc ) (cwV 1 hts (gd_V mw_58_0 mw_58_1 mw_58_2 mw_3_13 mw_58_3) rfl rfl rfl ⟨rfl, yk_X8_digestOf⟩ ⟨Nat.le_of_ble_eq_true rfl, Nat.le_of_ble_eq_true rfl⟩) (c0_preV (q0 := 0) (ci := 8) (q := (RX8, TX8, 2)) hPc hK hDc rfl rfl) rfl rfl hl.1 rfl (lv_room (Nat.le_of_ble_eq_true rfl)) dX11_digest_134 ⟨Nat.le_of_ble_eq_true rfl, Nat.le_of_ble_eq_true rfl⟩) hS (fun q _ h => hFc q h) hFc (fun r_5 u t H1 locs ht1 hvm hw hB hz1 hk1 hS => ?_)
    try dsimp only at hw hB
    have hr5 := hw
    obtain rfl := hr5.symm
    obtain ⟨hP1, hD1⟩ := hB
    rw [ht1] at hP1
    obtain ⟨hP, hD⟩ := va_join (wr := [(dp, .inr (11, .ref lg :: .ref nw :: dv)), (lg, .inr (2, [lfi, lst, ltr, llk])), (nw, .inr (1, .int 0 :: .ref ts :: .ref tg :: .ref tp :: .ref td :: nv)), (tg, .inr (8, [tgc, .int 0])), (ts, .inr (8, [tsc, .int 0])), (tp, .inr (8, [tpc, .int 0]))]) (w1 := [(td, .inr (8, [tdc, .int 0]))]) hP hD [4] [0, 1, 2, 3, 5, 6] rfl rfl (by decide) (by decide) hk1 hFc hP1 hD1
    generalize H1 = H at hP hS ⊢
    have hP : va_P G.1 vwCl ([(dp, .inr (11, .ref lg :: .ref nw :: dv)), (lg, .inr (2, [lfi, lst, ltr, llk])), (nw, .inr (1, .int 0 :: .ref ts :: .ref tg :: .ref tp :: .ref td :: nv)), (tg, .inr (8, [tgc, .int 0])), (ts, .inr (8, [tsc, .int 0])), (tp, .inr (8, [tpc, .int 0])), (td, .inr (8, [tdc, .int 0]))]) H := hP
    have hD : va_D A ([(dp, .inr (11, .ref lg :: .ref nw :: dv)), (lg, .inr (2, [lfi, lst, ltr, llk])), (nw, .inr (1, .int 0 :: .ref ts :: .ref tg :: .ref tp :: .ref td :: nv)), (tg, .inr (8, [tgc, .int 0])), (ts, .inr (8, [tsc, .int 0])), (tp, .inr (8, [tpc, .int 0])), (td, .inr (8, [tdc, .int 0]))]) := hD
    have hPc := hP.sub (ws' := [(dp, .inr (11, .ref lg :: .ref nw :: dv)), (lg, .inr (2, [lfi, lst, ltr, llk]))]) [0, 1] rfl
    have hDc := hD.sub (ws' := [(dp, .inr (11, .ref lg :: .ref nw :: dv)), (lg, .inr (2, [lfi, lst, ltr, llk]))]) [0, 1] (by decide) rfl
    have hFc := va_free (wc := [(dp, .inr (11, .ref lg :: .ref nw :: dv)), (lg, .inr (2, [lfi, lst, ltr, llk]))]) hD hS hA [0, 1] rfl
    refine va_calli (va_runV (As := [.int 217]) (rest := []) ⟨hx, hb, hml, hown, hts⟩ (k_answer l G _ dp 217 lg (.ref nw :: dv) lfi lst ltr llk ) (cwV 1 hts (gd_V mw_11_2 mw_11_3 mw_11_4 mw_1_2 mw_11_5) rfl rfl rfl ⟨rfl, yk_X11_answer⟩ ⟨Nat.le_of_ble_eq_true rfl, Nat.le_of_ble_eq_true rfl⟩) (c0_preV (q0 := 0) (ci := 11) (q := (RX11, TX11, 14)) hPc hK hDc rfl rfl) rfl rfl hl.1 rfl (lv_room (Nat.le_of_ble_eq_true rfl)) dX11_digest_137 ⟨Nat.le_of_ble_eq_true rfl, Nat.le_of_ble_eq_true rfl⟩) hS (fun q _ h => hFc q h) hFc (fun r_6 u t H1 locs ht1 hvm hw hB hz1 hk1 hS => ?_)
    try dsimp only at hw hB
    have hr6 := hw
    obtain rfl := hr6.symm
    obtain ⟨hP1, hD1⟩ := hB
    rw [ht1] at hP1
    obtain ⟨hP, hD⟩ := va_join (wr := [(nw, .inr (1, .int 0 :: .ref ts :: .ref tg :: .ref tp :: .ref td :: nv)), (tg, .inr (8, [tgc, .int 0])), (ts, .inr (8, [tsc, .int 0])), (tp, .inr (8, [tpc, .int 0])), (td, .inr (8, [tdc, .int 0]))]) (w1 := [(dp, .inr (11, .ref lg :: .ref nw :: dv)), (lg, .inr (2, [lfi, .int 0, ltr, llk]))]) hP hD [0, 1] [2, 3, 4, 5, 6] rfl rfl (by decide) (by decide) hk1 hFc hP1 hD1
    generalize H1 = H at hP hS ⊢
    have hP : va_P G.1 vwCl ([(nw, .inr (1, .int 0 :: .ref ts :: .ref tg :: .ref tp :: .ref td :: nv)), (tg, .inr (8, [tgc, .int 0])), (ts, .inr (8, [tsc, .int 0])), (tp, .inr (8, [tpc, .int 0])), (td, .inr (8, [tdc, .int 0])), (dp, .inr (11, .ref lg :: .ref nw :: dv)), (lg, .inr (2, [lfi, .int 0, ltr, llk]))]) H := hP
    have hD : va_D A ([(nw, .inr (1, .int 0 :: .ref ts :: .ref tg :: .ref tp :: .ref td :: nv)), (tg, .inr (8, [tgc, .int 0])), (ts, .inr (8, [tsc, .int 0])), (tp, .inr (8, [tpc, .int 0])), (td, .inr (8, [tdc, .int 0])), (dp, .inr (11, .ref lg :: .ref nw :: dv)), (lg, .inr (2, [lfi, .int 0, ltr, llk]))]) := hD
    exact W.iret (v := 217) hx hb hr (fun t ht hW => ⟨⟨217, (), rfl, rfl, trivial⟩, hS.F ht⟩) hS.2.2 dX11_digest_140
  · exact absurd c_3 (by decide)

set_option maxHeartbeats 4000000 in
set_option maxRecDepth 100000 in
theorem k_count (l : Launch) (G : GG) (sz : Nat) (dp : Nat) (x1 : Int32) (lg : Nat) (nw : Nat) (dv : List Value) (ts : Nat) (tg : Nat) (tp : Nat) (td : Nat) (nv : List Value) (tsc : Value) (tgc : Value) (tpc : Value)  : Met l yX11_count (.code yX11_count cX11_count 2 (some .int) :: TT) ({ frames := 1, cells := 0, slots := 0, locals := 100 } : Room) (c0_P G [.ref dp, .int x1] sz ([(dp, .inr (11, .ref lg :: .ref nw :: dv)), (nw, .inr (1, .int 0 :: .ref ts :: .ref tg :: .ref tp :: .ref td :: nv)), (ts, .inr (8, [tsc, .int 0])), (tg, .inr (8, [tgc, .int 0])), (tp, .inr (8, [tpc, .int 0]))])) (va_Qi (S := Unit) (fun (r : Int32) (u : Unit) => r = sp_count x1) (fun (u : Unit) (t : State) => True) (va_A ([(dp, .inr (11, .ref lg :: .ref nw :: dv)), (nw, .inr (1, .int 0 :: .ref ts :: .ref tg :: .ref tp :: .ref td :: nv)), (ts, .inr (8, [tsc, .int 0])), (tg, .inr (8, [tgc, .int 0])), (tp, .inr (8, [tpc, .int 0]))]) sz)) 0 0 (va_A ([(dp, .inr (11, .ref lg :: .ref nw :: dv)), (nw, .inr (1, .int 0 :: .ref ts :: .ref tg :: .ref tp :: .ref td :: nv)), (ts, .inr (8, [tsc, .int 0])), (tg, .inr (8, [tgc, .int 0])), (tp, .inr (8, [tpc, .int 0]))]) sz) := by
  refine Met.ofW (cc := cX11_count) (maxL := 2) (ret := (some .int)) (by decide) rfl ?_
  intro p e s m args below meth c s₁ B hml hv
  obtain ⟨rfl, hsz, hP, hK, hD0⟩ := hv
  have hx := B.exec
  have hb := B.bytes
  have hr := B.returns
  have hts := atoms_spec (ws := .code yX11_count cX11_count 2 (some .int) :: TT) B.pre
  have ht := fun (w : Cond) (h : w ∈ TT) => hts w (List.mem_cons_of_mem _ h)
  have hown : s.vm.findClass RX11 = some m.cls := findClass_of_methodNamed B.named
  have hlocks := B.notSynchronized
  subst hsz
  have hD := hD0.self (sz := s.heap.size)
  generalize hAe : va_A ([(dp, .inr (11, .ref lg :: .ref nw :: dv)), (nw, .inr (1, .int 0 :: .ref ts :: .ref tg :: .ref tp :: .ref td :: nv)), (ts, .inr (8, [tsc, .int 0])), (tg, .inr (8, [tgc, .int 0])), (tp, .inr (8, [tpc, .int 0]))]) s.heap.size = A at hD ⊢
  have hA : ∀ q : Nat, s.heap.size ≤ q → A q := fun q h => by rw [← hAe]; exact Or.inr h
  have hS : va_S A s.heap s.heap [] := va_S.rf
  have hP : va_P G.1 vwCl ([(dp, .inr (11, .ref lg :: .ref nw :: dv)), (nw, .inr (1, .int 0 :: .ref ts :: .ref tg :: .ref tp :: .ref td :: nv)), (ts, .inr (8, [tsc, .int 0])), (tg, .inr (8, [tgc, .int 0])), (tp, .inr (8, [tpc, .int 0]))]) s.heap := hP
  have hl := lv_entry ([.ref dp, .int x1]) (n := 2) (Nat.le_of_ble_eq_true rfl)
  rw [lg_entry_eq]
  generalize (lg_sl ([.ref dp, .int x1]) ++ List.replicate (2 - (lg_sl ([.ref dp, .int x1])).length) Slot.unset).toArray = ls at hl ⊢
  have hl : lv_has ls 2 [(0, .ref dp), (1, .int x1)] := hl
  refine lv_iload_n hx hb dX11_count_0 rfl (lv_at hl 1 rfl) ?_
  by_cases c_1 : x1 = 0
  · refine lv_tableIn (tgt := 32) (off := 31) hx hb dX11_count_1 (by rw [c_1]; decide) (by rw [c_1]; decide) (by rw [c_1]; decide) (by decide) ?_
    refine lv_aload_n hx hb dX11_count_32 rfl (lv_at hl 0 rfl) ?_
    refine va_get (D := G.1) (ci := 11) (v := .ref nw) (C := RX11) (T := TX11) (N := 14) hx hb ht inlX11 hown hK.1 hP 0 rfl rfl 1 (by decide) (ht (Cond.fieldLink RX11 19 "PloughDepot" "now" "LPloughDepot$Books;") mw_1_19) (fun _ h9 => h9) rfl dX11_count_33 ?_
    refine va_get (D := G.1) (ci := 1) (v := .int 0) (C := RX1) (T := TX1) (N := 8) hx hb ht inlX1 hown hK.1 hP 1 rfl rfl 0 (by decide) (ht (Cond.fieldLink RX11 92 "PloughDepot$Books" "crossings" "I") mw_7_21) (fun _ h9 => h9) rfl dX11_count_36 ?_
    exact W.iret (v := 0) hx hb hr (fun t ht hW => ⟨⟨0, (), rfl, (by unfold sp_count; split <;> rename_i hc9 <;> first | rfl | (exfalso; simp only [fa_lt, fa_le, fa_eq] at hc9 c_1; have n0 : (0 : Int32).toInt = 0 := (by decide); have n3 : (3 : Int32).toInt = 3 := (by decide); omega)), trivial⟩, hS.F ht⟩) hS.2.2 dX11_count_39
  by_cases c_2 : x1 = 1
  · refine lv_tableIn (tgt := 40) (off := 39) hx hb dX11_count_1 (by rw [c_2]; decide) (by rw [c_2]; decide) (by rw [c_2]; decide) (by decide) ?_
    refine lv_aload_n hx hb dX11_count_40 rfl (lv_at hl 0 rfl) ?_
    refine va_get (D := G.1) (ci := 11) (v := .ref nw) (C := RX11) (T := TX11) (N := 14) hx hb ht inlX11 hown hK.1 hP 0 rfl rfl 1 (by decide) (ht (Cond.fieldLink RX11 19 "PloughDepot" "now" "LPloughDepot$Books;") mw_1_19) (fun _ h9 => h9) rfl dX11_count_41 ?_
    refine va_get (D := G.1) (ci := 1) (v := .ref ts) (C := RX1) (T := TX1) (N := 8) hx hb ht inlX1 hown hK.1 hP 1 rfl rfl 1 (by decide) (ht (Cond.fieldLink RX11 105 "PloughDepot$Books" "streets" "LPloughDepot$Table;") mw_12_12) (fun _ h9 => h9) rfl dX11_count_44 ?_
    refine va_get (D := G.1) (ci := 8) (v := .int 0) (C := RX8) (T := TX8) (N := 2) hx hb ht inlX8 hown hK.1 hP 2 rfl rfl 1 (by decide) (ht (Cond.fieldLink RX11 109 "PloughDepot$Table" "size" "I") mw_12_13) (fun _ h9 => h9) rfl dX11_count_47 ?_
    exact W.iret (v := 0) hx hb hr (fun t ht hW => ⟨⟨0, (), rfl, (by unfold sp_count; split <;> rename_i hc9 <;> first | rfl | (exfalso; simp only [fa_lt, fa_le, fa_eq] at hc9 c_1 c_2; have n0 : (0 : Int32).toInt = 0 := (by decide); have n1 : (1 : Int32).toInt = 1 := (by decide); have n3 : (3 : Int32).toInt = 3 := (by decide); omega)), trivial⟩, hS.F ht⟩) hS.2.2 dX11_count_50
  by_cases c_3 : x1 = 2
  · refine lv_tableIn (tgt := 51) (off := 50) hx hb dX11_count_1 (by rw [c_3]; decide) (by rw [c_3]; decide) (by rw [c_3]; decide) (by decide) ?_
    refine lv_aload_n hx hb dX11_count_51 rfl (lv_at hl 0 rfl) ?_
    refine va_get (D := G.1) (ci := 11) (v := .ref nw) (C := RX11) (T := TX11) (N := 14) hx hb ht inlX11 hown hK.1 hP 0 rfl rfl 1 (by decide) (ht (Cond.fieldLink RX11 19 "PloughDepot" "now" "LPloughDepot$Books;") mw_1_19) (fun _ h9 => h9) rfl dX11_count_52 ?_
    refine va_get (D := G.1) (ci := 1) (v := .ref tg) (C := RX1) (T := TX1) (N := 8) hx hb ht inlX1 hown hK.1 hP 1 rfl rfl 2 (by decide) (ht (Cond.fieldLink RX11 144 "PloughDepot$Books" "gauges" "LPloughDepot$Table;") mw_19_21) (fun _ h9 => h9) rfl dX11_count_55 ?_
    refine va_get (D := G.1) (ci := 8) (v := .int 0) (C := RX8) (T := TX8) (N := 2) hx hb ht inlX8 hown hK.1 hP 3 rfl rfl 1 (by decide) (ht (Cond.fieldLink RX11 109 "PloughDepot$Table" "size" "I") mw_12_13) (fun _ h9 => h9) rfl dX11_count_58 ?_
    exact W.iret (v := 0) hx hb hr (fun t ht hW => ⟨⟨0, (), rfl, (by unfold sp_count; split <;> rename_i hc9 <;> first | rfl | (exfalso; simp only [fa_lt, fa_le, fa_eq] at hc9 c_1 c_2 c_3; have n0 : (0 : Int32).toInt = 0 := (by decide); have n1 : (1 : Int32).toInt = 1 := (by decide); have n2 : (2 : Int32).toInt = 2 := (by decide); have n3 : (3 : Int32).toInt = 3 := (by decide); omega)), trivial⟩, hS.F ht⟩) hS.2.2 dX11_count_61
  by_cases c_4 : x1 = 3
  · refine lv_tableIn (tgt := 62) (off := 61) hx hb dX11_count_1 (by rw [c_4]; decide) (by rw [c_4]; decide) (by rw [c_4]; decide) (by decide) ?_
    refine lv_aload_n hx hb dX11_count_62 rfl (lv_at hl 0 rfl) ?_
    refine va_get (D := G.1) (ci := 11) (v := .ref nw) (C := RX11) (T := TX11) (N := 14) hx hb ht inlX11 hown hK.1 hP 0 rfl rfl 1 (by decide) (ht (Cond.fieldLink RX11 19 "PloughDepot" "now" "LPloughDepot$Books;") mw_1_19) (fun _ h9 => h9) rfl dX11_count_63 ?_
    refine va_get (D := G.1) (ci := 1) (v := .ref tp) (C := RX1) (T := TX1) (N := 8) hx hb ht inlX1 hown hK.1 hP 1 rfl rfl 3 (by decide) (ht (Cond.fieldLink RX11 203 "PloughDepot$Books" "ploughs" "LPloughDepot$Table;") mw_29_16) (fun _ h9 => h9) rfl dX11_count_66 ?_
    refine va_get (D := G.1) (ci := 8) (v := .int 0) (C := RX8) (T := TX8) (N := 2) hx hb ht inlX8 hown hK.1 hP 4 rfl rfl 1 (by decide) (ht (Cond.fieldLink RX11 109 "PloughDepot$Table" "size" "I") mw_12_13) (fun _ h9 => h9) rfl dX11_count_69 ?_
    exact W.iret (v := 0) hx hb hr (fun t ht hW => ⟨⟨0, (), rfl, (by unfold sp_count; split <;> rename_i hc9 <;> first | rfl | (exfalso; simp only [fa_lt, fa_le, fa_eq] at hc9 c_1 c_2 c_3 c_4; have n0 : (0 : Int32).toInt = 0 := (by decide); have n1 : (1 : Int32).toInt = 1 := (by decide); have n2 : (2 : Int32).toInt = 2 := (by decide); have n3 : (3 : Int32).toInt = 3 := (by decide); omega)), trivial⟩, hS.F ht⟩) hS.2.2 dX11_count_72
  refine lv_tableOut (tgt := 73) hx hb dX11_count_1 (by simp only [fa_lt, fa_le, fa_eq] at c_1 c_2 c_3 c_4; have n0 : (0 : Int32).toInt = 0 := (by decide); have n1 : (1 : Int32).toInt = 1 := (by decide); have n2 : (2 : Int32).toInt = 2 := (by decide); have n3 : (3 : Int32).toInt = 3 := (by decide); omega) (by decide) ?_
  refine lv_bipush (v := (-2)) hx hb dX11_count_73 (by decide) ?_
  exact W.iret (v := (-2)) hx hb hr (fun t ht hW => ⟨⟨(-2), (), rfl, (by unfold sp_count; split <;> rename_i hc9 <;> first | rfl | (exfalso; simp only [fa_lt, fa_le, fa_eq] at hc9 c_1 c_2 c_3 c_4; have n0 : (0 : Int32).toInt = 0 := (by decide); have n1 : (1 : Int32).toInt = 1 := (by decide); have n2 : (2 : Int32).toInt = 2 := (by decide); have n3 : (3 : Int32).toInt = 3 := (by decide); omega)), trivial⟩, hS.F ht⟩) hS.2.2 dX11_count_75

