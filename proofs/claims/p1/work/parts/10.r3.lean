set_option maxHeartbeats 4000000 in
set_option maxRecDepth 100000 in
theorem r_follows (l : Launch) (G : GG) (sz : Nat) (mo : Nat) (ti : Nat) (nw : Nat) (m1 : Value) (m2 : Value) (m3 : Value) (m4 : Value) (m5 : Value) (m6 : Value) (m7 : Value) (m8 : Value) (m9 : Value) (m10 : Value) (m11 : Value) (m12 : Value) (m13 : Value) (m14 : Value) (m15 : Value) (m16 : Value) (cm : Nat) (mv : List Value) (nf : Nat → Int32) (cmf : Nat → Int32) (hz : ∀ j, j < 16 → nf j = 0) : Met l yX12_follows (.code yX12_follows cX12_follows 7 none :: TT) ({ frames := 1, cells := 0, slots := 0, locals := 100 } : Room) (c0_P G [.ref mo, .int 0, .ref ti] sz ([(mo, .inr (12, .ref nw :: m1 :: m2 :: m3 :: m4 :: m5 :: m6 :: m7 :: m8 :: m9 :: m10 :: m11 :: m12 :: m13 :: m14 :: m15 :: m16 :: .ref cm :: mv)), (nw, .inl (G.2 0, 15642, .inl nf)), (cm, .inl (G.2 4, 60, .inl cmf))])) (va_Qv (S := (Nat → Int32)) (fun (u : (Nat → Int32)) => True) (fun (u : (Nat → Int32)) (t : State) => c0_B G (va_A ([(mo, .inr (12, .ref nw :: m1 :: m2 :: m3 :: m4 :: m5 :: m6 :: m7 :: m8 :: m9 :: m10 :: m11 :: m12 :: m13 :: m14 :: m15 :: m16 :: .ref cm :: mv)), (nw, .inl (G.2 0, 15642, .inl nf)), (cm, .inl (G.2 4, 60, .inl cmf))]) sz) ([(mo, .inr (12, .ref nw :: m1 :: m2 :: m3 :: m4 :: m5 :: m6 :: m7 :: m8 :: m9 :: m10 :: m11 :: m12 :: m13 :: m14 :: m15 :: m16 :: .ref cm :: mv)), (nw, .inl (G.2 0, 15642, .inl nf)), (cm, .inl (G.2 4, 60, .inl u))]) t) (va_A ([(mo, .inr (12, .ref nw :: m1 :: m2 :: m3 :: m4 :: m5 :: m6 :: m7 :: m8 :: m9 :: m10 :: m11 :: m12 :: m13 :: m14 :: m15 :: m16 :: .ref cm :: mv)), (nw, .inl (G.2 0, 15642, .inl nf)), (cm, .inl (G.2 4, 60, .inl cmf))]) sz)) 0 0 (va_A ([(mo, .inr (12, .ref nw :: m1 :: m2 :: m3 :: m4 :: m5 :: m6 :: m7 :: m8 :: m9 :: m10 :: m11 :: m12 :: m13 :: m14 :: m15 :: m16 :: .ref cm :: mv)), (nw, .inl (G.2 0, 15642, .inl nf)), (cm, .inl (G.2 4, 60, .inl cmf))]) sz) := by
  refine Met.ofW (cc := cX12_follows) (maxL := 7) (ret := none) (by decide) rfl ?_
  intro p e s m args below meth c s₁ B hml hv
  obtain ⟨rfl, hsz, hP, hK, hD0⟩ := hv
  have hx := B.exec
  have hb := B.bytes
  have hr := B.returns
  have hts := atoms_spec (ws := .code yX12_follows cX12_follows 7 none :: TT) B.pre
  have ht := fun (w : Cond) (h : w ∈ TT) => hts w (List.mem_cons_of_mem _ h)
  have hown : s.vm.findClass RX12 = some m.cls := findClass_of_methodNamed B.named
  have hlocks := B.notSynchronized
  subst hsz
  have hD := hD0.self (sz := s.heap.size)
  generalize hAe : va_A ([(mo, .inr (12, .ref nw :: m1 :: m2 :: m3 :: m4 :: m5 :: m6 :: m7 :: m8 :: m9 :: m10 :: m11 :: m12 :: m13 :: m14 :: m15 :: m16 :: .ref cm :: mv)), (nw, .inl (G.2 0, 15642, .inl nf)), (cm, .inl (G.2 4, 60, .inl cmf))]) s.heap.size = A at hD ⊢
  have hA : ∀ q : Nat, s.heap.size ≤ q → A q := fun q h => by rw [← hAe]; exact Or.inr h
  have hS : va_S A s.heap s.heap [] := va_S.rf
  have hP : va_P G.1 vwCl ([(mo, .inr (12, .ref nw :: m1 :: m2 :: m3 :: m4 :: m5 :: m6 :: m7 :: m8 :: m9 :: m10 :: m11 :: m12 :: m13 :: m14 :: m15 :: m16 :: .ref cm :: mv)), (nw, .inl (G.2 0, 15642, .inl nf)), (cm, .inl (G.2 4, 60, .inl cmf))]) s.heap := hP
  have hl := lv_entry ([.ref mo, .int 0, .ref ti]) (n := 7) (Nat.le_of_ble_eq_true rfl)
  rw [lg_entry_eq]
  generalize (lg_sl ([.ref mo, .int 0, .ref ti]) ++ List.replicate (7 - (lg_sl ([.ref mo, .int 0, .ref ti])).length) Slot.unset).toArray = ls at hl ⊢
  have hl : lv_has ls 7 [(0, .ref mo), (1, .int 0), (2, .ref ti)] := hl
  refine lv_iconst (v := 0) hx hb dX12_follows_0 (by decide) ?_
  refine lv_istore_n (lv' := [(3, .int 0), (0, .ref mo), (1, .int 0), (2, .ref ti)]) hx hb dX12_follows_1 rfl hl (by decide) rfl (fun ls hl => ?_)
  have lp_1 : ∀ (Q : State → Prop), (∀ (fcm_1 : Nat → Int32) (H : Heap) (locs : List Loc) (ls : Array Slot), va_P G.1 vwCl ([(mo, .inr (12, .ref nw :: m1 :: m2 :: m3 :: m4 :: m5 :: m6 :: m7 :: m8 :: m9 :: m10 :: m11 :: m12 :: m13 :: m14 :: m15 :: m16 :: .ref cm :: mv)), (nw, .inl (G.2 0, 15642, .inl nf)), (cm, .inl (G.2 4, 60, .inl fcm_1))]) H → va_D A ([(mo, .inr (12, .ref nw :: m1 :: m2 :: m3 :: m4 :: m5 :: m6 :: m7 :: m8 :: m9 :: m10 :: m11 :: m12 :: m13 :: m14 :: m15 :: m16 :: .ref cm :: mv)), (nw, .inl (G.2 0, 15642, .inl nf)), (cm, .inl (G.2 4, 60, .inl fcm_1))]) → va_S A s.heap H locs → lv_has ls 7 [(0, .ref mo), (1, .int 0), (2, .ref ti)] → W p l e (headSpec (.code yX12_follows cX12_follows 7 none :: TT) ({ frames := 1, cells := 0, slots := 0, locals := 100 } : Room)).room s m [.ref mo, .int 0, .ref ti].toArray below meth c H locs 0 0 Q (F0 m 30 ls [])) → ∀ (n i : Nat) (x9 : Int32) (fcm_1 : Nat → Int32) (H : Heap) (locs : List Loc) (ls : Array Slot), i ≤ 60 → 61 ≤ i + n → x9 = nI i → va_P G.1 vwCl ([(mo, .inr (12, .ref nw :: m1 :: m2 :: m3 :: m4 :: m5 :: m6 :: m7 :: m8 :: m9 :: m10 :: m11 :: m12 :: m13 :: m14 :: m15 :: m16 :: .ref cm :: mv)), (nw, .inl (G.2 0, 15642, .inl nf)), (cm, .inl (G.2 4, 60, .inl fcm_1))]) H → va_D A ([(mo, .inr (12, .ref nw :: m1 :: m2 :: m3 :: m4 :: m5 :: m6 :: m7 :: m8 :: m9 :: m10 :: m11 :: m12 :: m13 :: m14 :: m15 :: m16 :: .ref cm :: mv)), (nw, .inl (G.2 0, 15642, .inl nf)), (cm, .inl (G.2 4, 60, .inl fcm_1))]) → va_S A s.heap H locs → lv_has ls 7 [(3, .int x9), (0, .ref mo), (1, .int 0), (2, .ref ti)] → W p l e (headSpec (.code yX12_follows cX12_follows 7 none :: TT) ({ frames := 1, cells := 0, slots := 0, locals := 100 } : Room)).room s m [.ref mo, .int 0, .ref ti].toArray below meth c H locs 0 0 Q (F0 m 2 ls []) := by
    intro Q hex n
    induction n with
    | zero =>
      intro i x9 fcm_1 H locs ls h1 h2
      exact absurd h2 (by omega)
    | succ n ih =>
      intro i x9 fcm_1 H locs ls hi hin9 ex9 hP hD hS hl
      refine lv_iload_n hx hb dX12_follows_2 rfl (lv_at hl 0 rfl) ?_
      refine lv_bipush (v := 60) hx hb dX12_follows_3 (by decide) ?_
      refine lv_icmp_ge (tgt := 30) hx hb dX12_follows_5 (by decide) (fun c9 => ?_) (fun c9 => ?_)
      · have hiN : i = 60 := by
          rcases Nat.lt_or_ge i 60 with q | q
          · exact absurd c9 (by rw [ex9]; exact nI_ge q (by first | decide | omega))
          · omega
        exact hex fcm_1 H locs ls hP hD hS (lv_sub hl [1, 2, 3] rfl)
      · have hlt : i < 60 := by
          rcases Nat.lt_or_ge i 60 with q | q
          · exact q
          · exact absurd (by rw [ex9]; exact nI_le q (by omega)) c9
        have hin_cm : vp_in x9 60 := by rw [ex9]; exact vp_in_nI (by omega) (by first | decide | omega)
        have hx0 : (0 : Int32) ≤ x9 := by rw [ex9]; exact nI_pos' (by omega)
        refine lv_aload_n hx hb dX12_follows_8 rfl (lv_at hl 1 rfl) ?_
        refine va_get (D := G.1) (ci := 12) (v := .ref cm) (C := RX12) (T := TX12) (N := 32) hx hb ht inlX12 hown hK.1 hP 0 rfl rfl 17 (by decide) (ht (Cond.fieldLink RX12 43 "PloughDepotModel" "come" "[Z") mw_7_6) (fun _ h9 => h9) rfl dX12_follows_9 ?_
        refine lv_iload_n hx hb dX12_follows_12 rfl (lv_at hl 0 rfl) ?_
        refine lv_iload_n hx hb dX12_follows_13 rfl (lv_at hl 0 rfl) ?_
        refine lv_iload_n hx hb dX12_follows_14 rfl (lv_at hl 2 rfl) ?_
        refine lv_icmp_ne (tgt := 22) hx hb dX12_follows_15 (by decide) (fun c_2 => ?_) (fun c_2 => ?_)
        · refine lv_iconst (v := 0) hx hb dX12_follows_22 (by decide) ?_
          refine va_zast hx hb hK.1 hP hD hS 2 4 rfl rfl hin_cm dX12_follows_23 (fun H locs hP hD hS => ?_)
          have hP : va_P G.1 vwCl ([(mo, .inr (12, .ref nw :: m1 :: m2 :: m3 :: m4 :: m5 :: m6 :: m7 :: m8 :: m9 :: m10 :: m11 :: m12 :: m13 :: m14 :: m15 :: m16 :: .ref cm :: mv)), (nw, .inl (G.2 0, 15642, .inl nf)), (cm, .inl (G.2 4, 60, .inl (upd fcm_1 (x9 : Int32).toNatClampNeg (vp_nar .boolean 0))))]) H := hP
          have hD : va_D A ([(mo, .inr (12, .ref nw :: m1 :: m2 :: m3 :: m4 :: m5 :: m6 :: m7 :: m8 :: m9 :: m10 :: m11 :: m12 :: m13 :: m14 :: m15 :: m16 :: .ref cm :: mv)), (nw, .inl (G.2 0, 15642, .inl nf)), (cm, .inl (G.2 4, 60, .inl (upd fcm_1 (x9 : Int32).toNatClampNeg (vp_nar .boolean 0))))]) := hD
          generalize upd fcm_1 (x9 : Int32).toNatClampNeg (vp_nar .boolean 0) = f_3 at hP hD
          obtain ⟨v_4, ev_4⟩ : ∃ y : Int32, y = x9 + 1 := ⟨_, rfl⟩
          refine lv_iinc (v := v_4) (lv' := [(3, .int v_4), (0, .ref mo), (1, .int 0), (2, .ref ti)]) hx hb dX12_follows_24 hl (k := 0) rfl (by rw [ev_4]; rfl) (by decide) rfl (fun ls hl => ?_)
          refine lv_goto (tgt := 2) hx hb dX12_follows_27 (by decide) ?_
          exact ih (i + 1) _ f_3 _ _ _ (by omega) (by omega) (by rw [ev_4, ex9]; exact nI_1 i) hP hD hS (lv_sub hl [0, 1, 2, 3] rfl)
        · refine lv_iconst (v := 1) hx hb dX12_follows_18 (by decide) ?_
          refine lv_goto (tgt := 23) hx hb dX12_follows_19 (by decide) ?_
          refine va_zast hx hb hK.1 hP hD hS 2 4 rfl rfl hin_cm dX12_follows_23 (fun H locs hP hD hS => ?_)
          have hP : va_P G.1 vwCl ([(mo, .inr (12, .ref nw :: m1 :: m2 :: m3 :: m4 :: m5 :: m6 :: m7 :: m8 :: m9 :: m10 :: m11 :: m12 :: m13 :: m14 :: m15 :: m16 :: .ref cm :: mv)), (nw, .inl (G.2 0, 15642, .inl nf)), (cm, .inl (G.2 4, 60, .inl (upd fcm_1 (x9 : Int32).toNatClampNeg (vp_nar .boolean 1))))]) H := hP
          have hD : va_D A ([(mo, .inr (12, .ref nw :: m1 :: m2 :: m3 :: m4 :: m5 :: m6 :: m7 :: m8 :: m9 :: m10 :: m11 :: m12 :: m13 :: m14 :: m15 :: m16 :: .ref cm :: mv)), (nw, .inl (G.2 0, 15642, .inl nf)), (cm, .inl (G.2 4, 60, .inl (upd fcm_1 (x9 : Int32).toNatClampNeg (vp_nar .boolean 1))))]) := hD
          generalize upd fcm_1 (x9 : Int32).toNatClampNeg (vp_nar .boolean 1) = f_5 at hP hD
          obtain ⟨v_6, ev_6⟩ : ∃ y : Int32, y = x9 + 1 := ⟨_, rfl⟩
          refine lv_iinc (v := v_6) (lv' := [(3, .int v_6), (0, .ref mo), (1, .int 0), (2, .ref ti)]) hx hb dX12_follows_24 hl (k := 0) rfl (by rw [ev_6]; rfl) (by decide) rfl (fun ls hl => ?_)
          refine lv_goto (tgt := 2) hx hb dX12_follows_27 (by decide) ?_
          exact ih (i + 1) _ f_5 _ _ _ (by omega) (by omega) (by rw [ev_6, ex9]; exact nI_1 i) hP hD hS (lv_sub hl [0, 1, 2, 3] rfl)
  refine lp_1 _ ?_ (61) 0 0 cmf _ _ _ (by omega) (by omega) nI_0.symm hP hD hS (lv_sub hl [0, 1, 2, 3] rfl)
  intro fcm_1 H locs ls hP hD hS hl
  refine lv_iconst (v := 1) hx hb dX12_follows_30 (by decide) ?_
  refine lv_istore_n (lv' := [(3, .int 1), (0, .ref mo), (1, .int 0), (2, .ref ti)]) hx hb dX12_follows_31 rfl hl (by decide) rfl (fun ls hl => ?_)
  refine lv_iload_n hx hb dX12_follows_32 rfl (lv_at hl 0 rfl) ?_
  refine lv_if_eq (tgt := 135) hx hb dX12_follows_33 (by decide) (fun c_7 => ?_) (fun c_7 => ?_)
  · exact absurd c_7 (by decide)
  · refine lv_iconst (v := 0) hx hb dX12_follows_36 (by decide) ?_
    refine lv_istore_n (lv' := [(3, .int 0), (0, .ref mo), (1, .int 0), (2, .ref ti)]) hx hb dX12_follows_37 rfl hl (by decide) rfl (fun ls hl => ?_)
    refine lv_iconst (v := 0) hx hb dX12_follows_38 (by decide) ?_
    refine lv_istore (lv' := [(4, .int 0), (3, .int 0), (0, .ref mo), (1, .int 0), (2, .ref ti)]) hx hb dX12_follows_39 hl (by decide) rfl (fun ls hl => ?_)
    refine lv_iload hx hb dX12_follows_41 (lv_at hl 0 rfl) ?_
    refine lv_aload_n hx hb dX12_follows_43 rfl (lv_at hl 2 rfl) ?_
    refine va_get (D := G.1) (ci := 12) (v := .ref nw) (C := RX12) (T := TX12) (N := 32) hx hb ht inlX12 hown hK.1 hP 0 rfl rfl 0 (by decide) (ht (Cond.fieldLink RX12 7 "PloughDepotModel" "now" "[I") mw_6_19) (fun _ h9 => h9) rfl dX12_follows_44 ?_
    refine lv_iconst (v := 1) hx hb dX12_follows_47 (by decide) ?_
    refine va_iald hx hb hK.1 hP 1 0 rfl rfl (show ¬ ((1 : Int32) < 0 ∨ 15642 ≤ (1 : Int32).toNatClampNeg) by decide) dX12_follows_48 ?_
    refine lv_topi (fun v_8 ev_8 => ?_)
    obtain rfl : 0 = v_8 := (ev_8.trans (hz _ (by decide))).symm
    refine lv_icmp_ge (tgt := 132) hx hb dX12_follows_49 (by decide) (fun c_9 => ?_) (fun c_9 => ?_)
    · refine lv_goto (tgt := 32) hx hb dX12_follows_132 (by decide) ?_
      refine lv_iload_n hx hb dX12_follows_32 rfl (lv_at hl 1 rfl) ?_
      refine lv_if_eq (tgt := 135) hx hb dX12_follows_33 (by decide) (fun c_10 => ?_) (fun c_10 => ?_)
      · have hP9 := hP.sub (ws' := [(mo, .inr (12, .ref nw :: m1 :: m2 :: m3 :: m4 :: m5 :: m6 :: m7 :: m8 :: m9 :: m10 :: m11 :: m12 :: m13 :: m14 :: m15 :: m16 :: .ref cm :: mv)), (nw, .inl (G.2 0, 15642, .inl nf)), (cm, .inl (G.2 4, 60, .inl fcm_1))]) [0, 1, 2] rfl
        have hD9 := hD.sub (ws' := [(mo, .inr (12, .ref nw :: m1 :: m2 :: m3 :: m4 :: m5 :: m6 :: m7 :: m8 :: m9 :: m10 :: m11 :: m12 :: m13 :: m14 :: m15 :: m16 :: .ref cm :: mv)), (nw, .inl (G.2 0, 15642, .inl nf)), (cm, .inl (G.2 4, 60, .inl fcm_1))]) [0, 1, 2] (by decide) rfl
        exact W.vret hx hb hr (fun t ht hW => ⟨⟨fcm_1, rfl, trivial, ⟨by rw [ht]; exact hP9, hD9⟩⟩, hS.F ht⟩) hS.2.2 dX12_follows_135
      · exact absurd c_10 (by decide)
    · exact absurd c_9 (by decide)

set_option maxHeartbeats 4000000 in
set_option maxRecDepth 100000 in
theorem r_hasMore (l : Launch) (G : GG) (sz : Nat) (mo : Nat) (ti : Nat) (nw : Nat) (mv : List Value) (nf : Nat → Int32) (hz : ∀ j, j < 16 → nf j = 0) : Met l yX12_hasMore (.code yX12_hasMore cX12_hasMore 4 (some .boolean) :: TT) ({ frames := 1, cells := 0, slots := 0, locals := 100 } : Room) (c0_P G [.ref mo, .ref ti] sz ([(mo, .inr (12, .ref nw :: mv)), (nw, .inl (G.2 0, 15642, .inl nf))])) (va_Qi (S := Unit) (fun (r : Int32) (u : Unit) => r = 0) (fun (u : Unit) (t : State) => c0_B G (va_A ([(mo, .inr (12, .ref nw :: mv)), (nw, .inl (G.2 0, 15642, .inl nf))]) sz) ([(mo, .inr (12, .ref nw :: mv)), (nw, .inl (G.2 0, 15642, .inl nf))]) t) (va_A ([(mo, .inr (12, .ref nw :: mv)), (nw, .inl (G.2 0, 15642, .inl nf))]) sz)) 0 0 (va_A ([(mo, .inr (12, .ref nw :: mv)), (nw, .inl (G.2 0, 15642, .inl nf))]) sz) := by
  refine Met.ofW (cc := cX12_hasMore) (maxL := 4) (ret := (some .boolean)) (by decide) rfl ?_
  intro p e s m args below meth c s₁ B hml hv
  obtain ⟨rfl, hsz, hP, hK, hD0⟩ := hv
  have hx := B.exec
  have hb := B.bytes
  have hr := B.returns
  have hts := atoms_spec (ws := .code yX12_hasMore cX12_hasMore 4 (some .boolean) :: TT) B.pre
  have ht := fun (w : Cond) (h : w ∈ TT) => hts w (List.mem_cons_of_mem _ h)
  have hown : s.vm.findClass RX12 = some m.cls := findClass_of_methodNamed B.named
  have hlocks := B.notSynchronized
  subst hsz
  have hD := hD0.self (sz := s.heap.size)
  generalize hAe : va_A ([(mo, .inr (12, .ref nw :: mv)), (nw, .inl (G.2 0, 15642, .inl nf))]) s.heap.size = A at hD ⊢
  have hA : ∀ q : Nat, s.heap.size ≤ q → A q := fun q h => by rw [← hAe]; exact Or.inr h
  have hS : va_S A s.heap s.heap [] := va_S.rf
  have hP : va_P G.1 vwCl ([(mo, .inr (12, .ref nw :: mv)), (nw, .inl (G.2 0, 15642, .inl nf))]) s.heap := hP
  have hl := lv_entry ([.ref mo, .ref ti]) (n := 4) (Nat.le_of_ble_eq_true rfl)
  rw [lg_entry_eq]
  generalize (lg_sl ([.ref mo, .ref ti]) ++ List.replicate (4 - (lg_sl ([.ref mo, .ref ti])).length) Slot.unset).toArray = ls at hl ⊢
  have hl : lv_has ls 4 [(0, .ref mo), (1, .ref ti)] := hl
  refine lv_iconst (v := 0) hx hb dX12_hasMore_0 (by decide) ?_
  refine lv_istore_n (lv' := [(2, .int 0), (0, .ref mo), (1, .ref ti)]) hx hb dX12_hasMore_1 rfl hl (by decide) rfl (fun ls hl => ?_)
  refine lv_iconst (v := 0) hx hb dX12_hasMore_2 (by decide) ?_
  refine lv_istore_n (lv' := [(3, .int 0), (2, .int 0), (0, .ref mo), (1, .ref ti)]) hx hb dX12_hasMore_3 rfl hl (by decide) rfl (fun ls hl => ?_)
  refine lv_iload_n hx hb dX12_hasMore_4 rfl (lv_at hl 0 rfl) ?_
  refine lv_aload_n hx hb dX12_hasMore_5 rfl (lv_at hl 2 rfl) ?_
  refine va_get (D := G.1) (ci := 12) (v := .ref nw) (C := RX12) (T := TX12) (N := 32) hx hb ht inlX12 hown hK.1 hP 0 rfl rfl 0 (by decide) (ht (Cond.fieldLink RX12 7 "PloughDepotModel" "now" "[I") mw_6_19) (fun _ h9 => h9) rfl dX12_hasMore_6 ?_
  refine lv_iconst (v := 1) hx hb dX12_hasMore_9 (by decide) ?_
  refine va_iald hx hb hK.1 hP 1 0 rfl rfl (show ¬ ((1 : Int32) < 0 ∨ 15642 ≤ (1 : Int32).toNatClampNeg) by decide) dX12_hasMore_10 ?_
  refine lv_topi (fun v_1 ev_1 => ?_)
  obtain rfl : 0 = v_1 := (ev_1.trans (hz _ (by decide))).symm
  refine lv_icmp_ge (tgt := 57) hx hb dX12_hasMore_11 (by decide) (fun c_2 => ?_) (fun c_2 => ?_)
  · refine lv_iload_n hx hb dX12_hasMore_57 rfl (lv_at hl 1 rfl) ?_
    have hP9 := hP.sub (ws' := [(mo, .inr (12, .ref nw :: mv)), (nw, .inl (G.2 0, 15642, .inl nf))]) [0, 1] rfl
    have hD9 := hD.sub (ws' := [(mo, .inr (12, .ref nw :: mv)), (nw, .inl (G.2 0, 15642, .inl nf))]) [0, 1] (by decide) rfl
    exact W.zret (v := 0) hx hb hr rfl (fun t ht hW => ⟨⟨0, (), rfl, rfl, ⟨by rw [ht]; exact hP9, hD9⟩⟩, hS.F ht⟩) hS.2.2 dX12_hasMore_58
  · exact absurd c_2 (by decide)

set_option maxHeartbeats 4000000 in
set_option maxRecDepth 100000 in
theorem r_joinsAll (l : Launch) (G : GG) (sz : Nat) (mo : Nat) (nw : Nat) (m1 : Value) (m2 : Value) (m3 : Value) (m4 : Value) (m5 : Value) (m6 : Value) (m7 : Value) (m8 : Value) (m9 : Value) (m10 : Value) (m11 : Value) (m12 : Value) (m13 : Value) (ti : Nat) (m15 : Value) (m16 : Value) (cm : Nat) (m18 : Value) (m19 : Value) (mv : List Value) (nf : Nat → Int32) (cmf : Nat → Int32) (hz : ∀ j, j < 16 → nf j = 0) : Met l yX12_joinsAll (.code yX12_joinsAll cX12_joinsAll 8 (some .boolean) :: TT) ({ frames := 2, cells := 0, slots := 0, locals := 200 } : Room) (c0_P G [.ref mo] sz ([(mo, .inr (12, .ref nw :: m1 :: m2 :: m3 :: m4 :: m5 :: m6 :: m7 :: m8 :: m9 :: m10 :: m11 :: m12 :: m13 :: .ref ti :: m15 :: m16 :: .ref cm :: m18 :: m19 :: mv)), (nw, .inl (G.2 0, 15642, .inl nf)), (cm, .inl (G.2 4, 60, .inl cmf))])) (va_Qi (S := (Nat → Int32)) (fun (r : Int32) (u : (Nat → Int32)) => r = 1) (fun (u : (Nat → Int32)) (t : State) => c0_B G (va_A ([(mo, .inr (12, .ref nw :: m1 :: m2 :: m3 :: m4 :: m5 :: m6 :: m7 :: m8 :: m9 :: m10 :: m11 :: m12 :: m13 :: .ref ti :: m15 :: m16 :: .ref cm :: m18 :: m19 :: mv)), (nw, .inl (G.2 0, 15642, .inl nf)), (cm, .inl (G.2 4, 60, .inl cmf))]) sz) ([(mo, .inr (12, .ref nw :: m1 :: m2 :: m3 :: m4 :: m5 :: m6 :: m7 :: m8 :: m9 :: m10 :: m11 :: m12 :: m13 :: .ref ti :: m15 :: m16 :: .ref cm :: m18 :: .int 0 :: mv)), (nw, .inl (G.2 0, 15642, .inl nf)), (cm, .inl (G.2 4, 60, .inl u))]) t) (va_A ([(mo, .inr (12, .ref nw :: m1 :: m2 :: m3 :: m4 :: m5 :: m6 :: m7 :: m8 :: m9 :: m10 :: m11 :: m12 :: m13 :: .ref ti :: m15 :: m16 :: .ref cm :: m18 :: m19 :: mv)), (nw, .inl (G.2 0, 15642, .inl nf)), (cm, .inl (G.2 4, 60, .inl cmf))]) sz)) 0 0 (va_A ([(mo, .inr (12, .ref nw :: m1 :: m2 :: m3 :: m4 :: m5 :: m6 :: m7 :: m8 :: m9 :: m10 :: m11 :: m12 :: m13 :: .ref ti :: m15 :: m16 :: .ref cm :: m18 :: m19 :: mv)), (nw, .inl (G.2 0, 15642, .inl nf)), (cm, .inl (G.2 4, 60, .inl cmf))]) sz) := by
  refine Met.ofW (cc := cX12_joinsAll) (maxL := 8) (ret := (some .boolean)) (by decide) rfl ?_
  intro p e s m args below meth c s₁ B hml hv
  obtain ⟨rfl, hsz, hP, hK, hD0⟩ := hv
  have hx := B.exec
  have hb := B.bytes
  have hr := B.returns
  have hts := atoms_spec (ws := .code yX12_joinsAll cX12_joinsAll 8 (some .boolean) :: TT) B.pre
  have ht := fun (w : Cond) (h : w ∈ TT) => hts w (List.mem_cons_of_mem _ h)
  have hown : s.vm.findClass RX12 = some m.cls := findClass_of_methodNamed B.named
  have hlocks := B.notSynchronized
  subst hsz
  have hD := hD0.self (sz := s.heap.size)
  generalize hAe : va_A ([(mo, .inr (12, .ref nw :: m1 :: m2 :: m3 :: m4 :: m5 :: m6 :: m7 :: m8 :: m9 :: m10 :: m11 :: m12 :: m13 :: .ref ti :: m15 :: m16 :: .ref cm :: m18 :: m19 :: mv)), (nw, .inl (G.2 0, 15642, .inl nf)), (cm, .inl (G.2 4, 60, .inl cmf))]) s.heap.size = A at hD ⊢
  have hA : ∀ q : Nat, s.heap.size ≤ q → A q := fun q h => by rw [← hAe]; exact Or.inr h
  have hS : va_S A s.heap s.heap [] := va_S.rf
  have hP : va_P G.1 vwCl ([(mo, .inr (12, .ref nw :: m1 :: m2 :: m3 :: m4 :: m5 :: m6 :: m7 :: m8 :: m9 :: m10 :: m11 :: m12 :: m13 :: .ref ti :: m15 :: m16 :: .ref cm :: m18 :: m19 :: mv)), (nw, .inl (G.2 0, 15642, .inl nf)), (cm, .inl (G.2 4, 60, .inl cmf))]) s.heap := hP
  have hl := lv_entry ([.ref mo]) (n := 8) (Nat.le_of_ble_eq_true rfl)
  rw [lg_entry_eq]
  generalize (lg_sl ([.ref mo]) ++ List.replicate (8 - (lg_sl ([.ref mo])).length) Slot.unset).toArray = ls at hl ⊢
  have hl : lv_has ls 8 [(0, .ref mo)] := hl
  refine lv_aload_n hx hb dX12_joinsAll_0 rfl (lv_at hl 0 rfl) ?_
  refine lv_iconst (v := 0) hx hb dX12_joinsAll_1 (by decide) ?_
  refine va_put (D := G.1) (ci := 12) (v := .int 0) (ty := tyX12 19) (C := RX12) (T := TX12) (N := 32) hx hb ht inlX12 tyX12 tyX12_ok nmX12 hown hK.1 hP hD hS 0 rfl rfl 19 (by decide) (ht (Cond.fieldLink RX12 267 "PloughDepotModel" "joins" "I") mw_48_17) (fun _ h9 => h9) rfl (tyX12_ok 19 (by decide)) rfl rfl (by simp) dX12_joinsAll_2 (fun H locs hP hD hS => ?_)
  have hP : va_P G.1 vwCl ([(mo, .inr (12, .ref nw :: m1 :: m2 :: m3 :: m4 :: m5 :: m6 :: m7 :: m8 :: m9 :: m10 :: m11 :: m12 :: m13 :: .ref ti :: m15 :: m16 :: .ref cm :: m18 :: .int 0 :: mv)), (nw, .inl (G.2 0, 15642, .inl nf)), (cm, .inl (G.2 4, 60, .inl cmf))]) H := hP
  have hD : va_D A ([(mo, .inr (12, .ref nw :: m1 :: m2 :: m3 :: m4 :: m5 :: m6 :: m7 :: m8 :: m9 :: m10 :: m11 :: m12 :: m13 :: .ref ti :: m15 :: m16 :: .ref cm :: m18 :: .int 0 :: mv)), (nw, .inl (G.2 0, 15642, .inl nf)), (cm, .inl (G.2 4, 60, .inl cmf))]) := hD
  refine lv_aload_n hx hb dX12_joinsAll_5 rfl (lv_at hl 0 rfl) ?_
  refine lv_iconst (v := 0) hx hb dX12_joinsAll_6 (by decide) ?_
  refine lv_aload_n hx hb dX12_joinsAll_7 rfl (lv_at hl 0 rfl) ?_
  refine va_get (D := G.1) (ci := 12) (v := .ref ti) (C := RX12) (T := TX12) (N := 32) hx hb ht inlX12 hown hK.1 hP 0 rfl rfl 14 (by decide) (ht (Cond.fieldLink RX12 37 "PloughDepotModel" "times" "[I") mw_7_4) (fun _ h9 => h9) rfl dX12_joinsAll_8 ?_
  have hPc := hP.sub (ws' := [(mo, .inr (12, .ref nw :: m1 :: m2 :: m3 :: m4 :: m5 :: m6 :: m7 :: m8 :: m9 :: m10 :: m11 :: m12 :: m13 :: .ref ti :: m15 :: m16 :: .ref cm :: m18 :: .int 0 :: mv)), (nw, .inl (G.2 0, 15642, .inl nf)), (cm, .inl (G.2 4, 60, .inl cmf))]) [0, 1, 2] rfl
  have hDc := hD.sub (ws' := [(mo, .inr (12, .ref nw :: m1 :: m2 :: m3 :: m4 :: m5 :: m6 :: m7 :: m8 :: m9 :: m10 :: m11 :: m12 :: m13 :: .ref ti :: m15 :: m16 :: .ref cm :: m18 :: .int 0 :: mv)), (nw, .inl (G.2 0, 15642, .inl nf)), (cm, .inl (G.2 4, 60, .inl cmf))]) [0, 1, 2] (by decide) rfl
  have hFc := va_free (wc := [(mo, .inr (12, .ref nw :: m1 :: m2 :: m3 :: m4 :: m5 :: m6 :: m7 :: m8 :: m9 :: m10 :: m11 :: m12 :: m13 :: .ref ti :: m15 :: m16 :: .ref cm :: m18 :: .int 0 :: mv)), (nw, .inl (G.2 0, 15642, .inl nf)), (cm, .inl (G.2 4, 60, .inl cmf))]) hD hS hA [0, 1, 2] rfl
  refine va_callv (va_runV (As := [.int 0, .ref ti]) (rest := []) ⟨hx, hb, hml, hown, hts⟩ (r_follows l G _ mo ti nw m1 m2 m3 m4 m5 m6 m7 m8 m9 m10 m11 m12 m13 (.ref ti) m15 m16 cm (m18 :: .int 0 :: mv) nf cmf (by first | assumption | decide)) (cwV 2 hts (gd_V mw_49_17 mw_49_18 mw_49_19 mw_1_5 mw_49_20) rfl rfl rfl ⟨rfl, yk_X12_follows⟩ ⟨Nat.le_of_ble_eq_true rfl, Nat.le_of_ble_eq_true rfl⟩) (c0_preV (q0 := 0) (ci := 12) (q := (RX12, TX12, 32)) hPc hK hDc rfl rfl) rfl rfl hl.1 rfl (lv_room (Nat.le_of_ble_eq_true rfl)) dX12_joinsAll_11 ⟨Nat.le_of_ble_eq_true rfl, Nat.le_of_ble_eq_true rfl⟩) hS (fun q _ h => hFc q h) hFc (fun u t H1 locs ht1 hvm hw hB hz1 hk1 hS => ?_)
  obtain ⟨cmf2_1, rfl⟩ : ∃ z, z = u := ⟨_, rfl⟩
  try dsimp only at hw hB
  obtain ⟨hP1, hD1⟩ := hB
  rw [ht1] at hP1
  obtain ⟨hP, hD⟩ := va_join (wr := []) (w1 := [(mo, .inr (12, .ref nw :: m1 :: m2 :: m3 :: m4 :: m5 :: m6 :: m7 :: m8 :: m9 :: m10 :: m11 :: m12 :: m13 :: .ref ti :: m15 :: m16 :: .ref cm :: m18 :: .int 0 :: mv)), (nw, .inl (G.2 0, 15642, .inl nf)), (cm, .inl (G.2 4, 60, .inl cmf2_1))]) hP hD [0, 1, 2] [] rfl rfl (by decide) (by decide) hk1 hFc hP1 hD1
  generalize H1 = H at hP hS ⊢
  have hP : va_P G.1 vwCl ([(mo, .inr (12, .ref nw :: m1 :: m2 :: m3 :: m4 :: m5 :: m6 :: m7 :: m8 :: m9 :: m10 :: m11 :: m12 :: m13 :: .ref ti :: m15 :: m16 :: .ref cm :: m18 :: .int 0 :: mv)), (nw, .inl (G.2 0, 15642, .inl nf)), (cm, .inl (G.2 4, 60, .inl cmf2_1))]) H := hP
  have hD : va_D A ([(mo, .inr (12, .ref nw :: m1 :: m2 :: m3 :: m4 :: m5 :: m6 :: m7 :: m8 :: m9 :: m10 :: m11 :: m12 :: m13 :: .ref ti :: m15 :: m16 :: .ref cm :: m18 :: .int 0 :: mv)), (nw, .inl (G.2 0, 15642, .inl nf)), (cm, .inl (G.2 4, 60, .inl cmf2_1))]) := hD
  refine lv_aload_n hx hb dX12_joinsAll_14 rfl (lv_at hl 0 rfl) ?_
  refine lv_aload_n hx hb dX12_joinsAll_15 rfl (lv_at hl 0 rfl) ?_
  refine va_get (D := G.1) (ci := 12) (v := .ref ti) (C := RX12) (T := TX12) (N := 32) hx hb ht inlX12 hown hK.1 hP 0 rfl rfl 14 (by decide) (ht (Cond.fieldLink RX12 37 "PloughDepotModel" "times" "[I") mw_7_4) (fun _ h9 => h9) rfl dX12_joinsAll_16 ?_
  have hPc := hP.sub (ws' := [(mo, .inr (12, .ref nw :: m1 :: m2 :: m3 :: m4 :: m5 :: m6 :: m7 :: m8 :: m9 :: m10 :: m11 :: m12 :: m13 :: .ref ti :: m15 :: m16 :: .ref cm :: m18 :: .int 0 :: mv)), (nw, .inl (G.2 0, 15642, .inl nf))]) [0, 1] rfl
  have hDc := hD.sub (ws' := [(mo, .inr (12, .ref nw :: m1 :: m2 :: m3 :: m4 :: m5 :: m6 :: m7 :: m8 :: m9 :: m10 :: m11 :: m12 :: m13 :: .ref ti :: m15 :: m16 :: .ref cm :: m18 :: .int 0 :: mv)), (nw, .inl (G.2 0, 15642, .inl nf))]) [0, 1] (by decide) rfl
  have hFc := va_free (wc := [(mo, .inr (12, .ref nw :: m1 :: m2 :: m3 :: m4 :: m5 :: m6 :: m7 :: m8 :: m9 :: m10 :: m11 :: m12 :: m13 :: .ref ti :: m15 :: m16 :: .ref cm :: m18 :: .int 0 :: mv)), (nw, .inl (G.2 0, 15642, .inl nf))]) hD hS hA [0, 1] rfl
  refine va_calli (va_runV (As := [.ref ti]) (rest := []) ⟨hx, hb, hml, hown, hts⟩ (r_hasMore l G _ mo ti nw (m1 :: m2 :: m3 :: m4 :: m5 :: m6 :: m7 :: m8 :: m9 :: m10 :: m11 :: m12 :: m13 :: .ref ti :: m15 :: m16 :: .ref cm :: m18 :: .int 0 :: mv) nf (by first | assumption | decide)) (cwV 1 hts (gd_V mw_49_21 mw_49_22 mw_49_23 mw_1_5 mw_50_0) rfl rfl rfl ⟨rfl, yk_X12_hasMore⟩ ⟨Nat.le_of_ble_eq_true rfl, Nat.le_of_ble_eq_true rfl⟩) (c0_preV (q0 := 0) (ci := 12) (q := (RX12, TX12, 32)) hPc hK hDc rfl rfl) rfl rfl hl.1 rfl (lv_room (Nat.le_of_ble_eq_true rfl)) dX12_joinsAll_19 ⟨Nat.le_of_ble_eq_true rfl, Nat.le_of_ble_eq_true rfl⟩) hS (fun q _ h => hFc q h) hFc (fun r_2 u t H1 locs ht1 hvm hw hB hz1 hk1 hS => ?_)
  try dsimp only at hw hB
  have hr2 := hw
  obtain rfl := hr2.symm
  obtain ⟨hP1, hD1⟩ := hB
  rw [ht1] at hP1
  obtain ⟨hP, hD⟩ := va_join (wr := [(cm, .inl (G.2 4, 60, .inl cmf2_1))]) (w1 := [(mo, .inr (12, .ref nw :: m1 :: m2 :: m3 :: m4 :: m5 :: m6 :: m7 :: m8 :: m9 :: m10 :: m11 :: m12 :: m13 :: .ref ti :: m15 :: m16 :: .ref cm :: m18 :: .int 0 :: mv)), (nw, .inl (G.2 0, 15642, .inl nf))]) hP hD [0, 1] [2] rfl rfl (by decide) (by decide) hk1 hFc hP1 hD1
  generalize H1 = H at hP hS ⊢
  have hP : va_P G.1 vwCl ([(cm, .inl (G.2 4, 60, .inl cmf2_1)), (mo, .inr (12, .ref nw :: m1 :: m2 :: m3 :: m4 :: m5 :: m6 :: m7 :: m8 :: m9 :: m10 :: m11 :: m12 :: m13 :: .ref ti :: m15 :: m16 :: .ref cm :: m18 :: .int 0 :: mv)), (nw, .inl (G.2 0, 15642, .inl nf))]) H := hP
  have hD : va_D A ([(cm, .inl (G.2 4, 60, .inl cmf2_1)), (mo, .inr (12, .ref nw :: m1 :: m2 :: m3 :: m4 :: m5 :: m6 :: m7 :: m8 :: m9 :: m10 :: m11 :: m12 :: m13 :: .ref ti :: m15 :: m16 :: .ref cm :: m18 :: .int 0 :: mv)), (nw, .inl (G.2 0, 15642, .inl nf))]) := hD
  refine lv_if_eq (tgt := 186) hx hb dX12_joinsAll_22 (by decide) (fun c_3 => ?_) (fun c_3 => ?_)
  · refine lv_iconst (v := 1) hx hb dX12_joinsAll_186 (by decide) ?_
    have hP9 := hP.sub (ws' := [(mo, .inr (12, .ref nw :: m1 :: m2 :: m3 :: m4 :: m5 :: m6 :: m7 :: m8 :: m9 :: m10 :: m11 :: m12 :: m13 :: .ref ti :: m15 :: m16 :: .ref cm :: m18 :: .int 0 :: mv)), (nw, .inl (G.2 0, 15642, .inl nf)), (cm, .inl (G.2 4, 60, .inl cmf2_1))]) [1, 2, 0] rfl
    have hD9 := hD.sub (ws' := [(mo, .inr (12, .ref nw :: m1 :: m2 :: m3 :: m4 :: m5 :: m6 :: m7 :: m8 :: m9 :: m10 :: m11 :: m12 :: m13 :: .ref ti :: m15 :: m16 :: .ref cm :: m18 :: .int 0 :: mv)), (nw, .inl (G.2 0, 15642, .inl nf)), (cm, .inl (G.2 4, 60, .inl cmf2_1))]) [1, 2, 0] (by decide) rfl
    exact W.zret (v := 1) hx hb hr rfl (fun t ht hW => ⟨⟨1, cmf2_1, rfl, rfl, ⟨by rw [ht]; exact hP9, hD9⟩⟩, hS.F ht⟩) hS.2.2 dX12_joinsAll_187
  · exact absurd c_3 (by decide)

set_option maxHeartbeats 4000000 in
set_option maxRecDepth 100000 in
theorem r_pairsLeast (l : Launch) (G : GG) (sz : Nat) (mo : Nat) (m0 : Value) (m1 : Value) (m2 : Value) (m3 : Value) (m4 : Value) (m5 : Value) (m6 : Value) (m7 : Value) (m8 : Value) (m9 : Value) (m10 : Value) (m11 : Value) (m12 : Value) (m13 : Value) (m14 : Value) (m15 : Value) (m17 : Value) (le : Nat) (mv : List Value) (lef : Nat → Int32)  : Met l yX12_pairsLeast (.code yX12_pairsLeast cX12_pairsLeast 4 none :: TT) ({ frames := 2, cells := 0, slots := 0, locals := 200 } : Room) (c0_P G [.ref mo] sz ([(mo, .inr (12, m0 :: m1 :: m2 :: m3 :: m4 :: m5 :: m6 :: m7 :: m8 :: m9 :: m10 :: m11 :: m12 :: m13 :: m14 :: m15 :: .int 0 :: m17 :: .ref le :: mv)), (le, .inl (G.2 0, 16384, .inl lef))])) (va_Qv (S := (Nat → Int32)) (fun (u : (Nat → Int32)) => True) (fun (u : (Nat → Int32)) (t : State) => c0_B G (va_A ([(mo, .inr (12, m0 :: m1 :: m2 :: m3 :: m4 :: m5 :: m6 :: m7 :: m8 :: m9 :: m10 :: m11 :: m12 :: m13 :: m14 :: m15 :: .int 0 :: m17 :: .ref le :: mv)), (le, .inl (G.2 0, 16384, .inl lef))]) sz) ([(mo, .inr (12, m0 :: m1 :: m2 :: m3 :: m4 :: m5 :: m6 :: m7 :: m8 :: m9 :: m10 :: m11 :: m12 :: m13 :: m14 :: m15 :: .int 0 :: m17 :: .ref le :: mv)), (le, .inl (G.2 0, 16384, .inl u))]) t) (va_A ([(mo, .inr (12, m0 :: m1 :: m2 :: m3 :: m4 :: m5 :: m6 :: m7 :: m8 :: m9 :: m10 :: m11 :: m12 :: m13 :: m14 :: m15 :: .int 0 :: m17 :: .ref le :: mv)), (le, .inl (G.2 0, 16384, .inl lef))]) sz)) 0 0 (va_A ([(mo, .inr (12, m0 :: m1 :: m2 :: m3 :: m4 :: m5 :: m6 :: m7 :: m8 :: m9 :: m10 :: m11 :: m12 :: m13 :: m14 :: m15 :: .int 0 :: m17 :: .ref le :: mv)), (le, .inl (G.2 0, 16384, .inl lef))]) sz) := by
  refine Met.ofW (cc := cX12_pairsLeast) (maxL := 4) (ret := none) (by decide) rfl ?_
  intro p e s m args below meth c s₁ B hml hv
  obtain ⟨rfl, hsz, hP, hK, hD0⟩ := hv
  have hx := B.exec
  have hb := B.bytes
  have hr := B.returns
  have hts := atoms_spec (ws := .code yX12_pairsLeast cX12_pairsLeast 4 none :: TT) B.pre
  have ht := fun (w : Cond) (h : w ∈ TT) => hts w (List.mem_cons_of_mem _ h)
  have hown : s.vm.findClass RX12 = some m.cls := findClass_of_methodNamed B.named
  have hlocks := B.notSynchronized
  subst hsz
  have hD := hD0.self (sz := s.heap.size)
  generalize hAe : va_A ([(mo, .inr (12, m0 :: m1 :: m2 :: m3 :: m4 :: m5 :: m6 :: m7 :: m8 :: m9 :: m10 :: m11 :: m12 :: m13 :: m14 :: m15 :: .int 0 :: m17 :: .ref le :: mv)), (le, .inl (G.2 0, 16384, .inl lef))]) s.heap.size = A at hD ⊢
  have hA : ∀ q : Nat, s.heap.size ≤ q → A q := fun q h => by rw [← hAe]; exact Or.inr h
  have hS : va_S A s.heap s.heap [] := va_S.rf
  have hP : va_P G.1 vwCl ([(mo, .inr (12, m0 :: m1 :: m2 :: m3 :: m4 :: m5 :: m6 :: m7 :: m8 :: m9 :: m10 :: m11 :: m12 :: m13 :: m14 :: m15 :: .int 0 :: m17 :: .ref le :: mv)), (le, .inl (G.2 0, 16384, .inl lef))]) s.heap := hP
  have hl := lv_entry ([.ref mo]) (n := 4) (Nat.le_of_ble_eq_true rfl)
  rw [lg_entry_eq]
  generalize (lg_sl ([.ref mo]) ++ List.replicate (4 - (lg_sl ([.ref mo])).length) Slot.unset).toArray = ls at hl ⊢
  have hl : lv_has ls 4 [(0, .ref mo)] := hl
  refine lv_iconst (v := 1) hx hb dX12_pairsLeast_0 (by decide) ?_
  refine lv_aload_n hx hb dX12_pairsLeast_1 rfl (lv_at hl 0 rfl) ?_
  refine va_get (D := G.1) (ci := 12) (v := .int 0) (C := RX12) (T := TX12) (N := 32) hx hb ht inlX12 hown hK.1 hP 0 rfl rfl 16 (by decide) (ht (Cond.fieldLink RX12 242 "PloughDepotModel" "odds" "I") mw_40_8) (fun _ h9 => h9) rfl dX12_pairsLeast_2 ?_
  refine lv_ishl hx hb dX12_pairsLeast_5 ?_
  refine lv_topi (fun v_1 ev_1 => ?_)
  obtain rfl : v_1 = 1 := ev_1.trans (by decide)
  refine lv_iconst (v := 1) hx hb dX12_pairsLeast_6 (by decide) ?_
  refine lv_isub hx hb dX12_pairsLeast_7 ?_
  refine lv_topi (fun v_2 ev_2 => ?_)
  obtain rfl : v_2 = 0 := ev_2.trans (by decide)
  refine lv_istore_n (lv' := [(1, .int 0), (0, .ref mo)]) hx hb dX12_pairsLeast_8 rfl hl (by decide) rfl (fun ls hl => ?_)
  refine lv_aload_n hx hb dX12_pairsLeast_9 rfl (lv_at hl 1 rfl) ?_
  refine lv_iload_n hx hb dX12_pairsLeast_10 rfl (lv_at hl 0 rfl) ?_
  have hPc := hP.sub (ws' := [(mo, .inr (12, m0 :: m1 :: m2 :: m3 :: m4 :: m5 :: m6 :: m7 :: m8 :: m9 :: m10 :: m11 :: m12 :: m13 :: m14 :: m15 :: .int 0 :: m17 :: .ref le :: mv)), (le, .inl (G.2 0, 16384, .inl lef))]) [0, 1] rfl
  have hDc := hD.sub (ws' := [(mo, .inr (12, m0 :: m1 :: m2 :: m3 :: m4 :: m5 :: m6 :: m7 :: m8 :: m9 :: m10 :: m11 :: m12 :: m13 :: m14 :: m15 :: .int 0 :: m17 :: .ref le :: mv)), (le, .inl (G.2 0, 16384, .inl lef))]) [0, 1] (by decide) rfl
  have hFc := va_free (wc := [(mo, .inr (12, m0 :: m1 :: m2 :: m3 :: m4 :: m5 :: m6 :: m7 :: m8 :: m9 :: m10 :: m11 :: m12 :: m13 :: m14 :: m15 :: .int 0 :: m17 :: .ref le :: mv)), (le, .inl (G.2 0, 16384, .inl lef))]) hD hS hA [0, 1] rfl
  refine va_callv (va_runV (As := [.int 0]) (rest := []) ⟨hx, hb, hml, hown, hts⟩ (r_findLeast l G _ mo m0 m1 m2 m3 m4 m5 m6 m7 m8 m9 m10 m11 m12 m13 m14 m15 (.int 0) m17 le mv lef ) (cwV 1 hts (gd_V mw_42_12 mw_42_13 mw_42_14 mw_1_5 mw_42_15) rfl rfl rfl ⟨rfl, yk_X12_findLeast⟩ ⟨Nat.le_of_ble_eq_true rfl, Nat.le_of_ble_eq_true rfl⟩) (c0_preV (q0 := 0) (ci := 12) (q := (RX12, TX12, 32)) hPc hK hDc rfl rfl) rfl rfl hl.1 rfl (lv_room (Nat.le_of_ble_eq_true rfl)) dX12_pairsLeast_11 ⟨Nat.le_of_ble_eq_true rfl, Nat.le_of_ble_eq_true rfl⟩) hS (fun q _ h => hFc q h) hFc (fun u t H1 locs ht1 hvm hw hB hz1 hk1 hS => ?_)
  obtain ⟨lef2_3, rfl⟩ : ∃ z, z = u := ⟨_, rfl⟩
  try dsimp only at hw hB
  have hq3_0 := hw
  obtain ⟨hP1, hD1⟩ := hB
  rw [ht1] at hP1
  obtain ⟨hP, hD⟩ := va_join (wr := []) (w1 := [(mo, .inr (12, m0 :: m1 :: m2 :: m3 :: m4 :: m5 :: m6 :: m7 :: m8 :: m9 :: m10 :: m11 :: m12 :: m13 :: m14 :: m15 :: .int 0 :: m17 :: .ref le :: mv)), (le, .inl (G.2 0, 16384, .inl lef2_3))]) hP hD [0, 1] [] rfl rfl (by decide) (by decide) hk1 hFc hP1 hD1
  generalize H1 = H at hP hS ⊢
  have hP : va_P G.1 vwCl ([(mo, .inr (12, m0 :: m1 :: m2 :: m3 :: m4 :: m5 :: m6 :: m7 :: m8 :: m9 :: m10 :: m11 :: m12 :: m13 :: m14 :: m15 :: .int 0 :: m17 :: .ref le :: mv)), (le, .inl (G.2 0, 16384, .inl lef2_3))]) H := hP
  have hD : va_D A ([(mo, .inr (12, m0 :: m1 :: m2 :: m3 :: m4 :: m5 :: m6 :: m7 :: m8 :: m9 :: m10 :: m11 :: m12 :: m13 :: m14 :: m15 :: .int 0 :: m17 :: .ref le :: mv)), (le, .inl (G.2 0, 16384, .inl lef2_3))]) := hD
  refine lv_iload_n hx hb dX12_pairsLeast_14 rfl (lv_at hl 0 rfl) ?_
  refine lv_if_eq (tgt := 124) hx hb dX12_pairsLeast_15 (by decide) (fun c_4 => ?_) (fun c_4 => ?_)
  · have hP9 := hP.sub (ws' := [(mo, .inr (12, m0 :: m1 :: m2 :: m3 :: m4 :: m5 :: m6 :: m7 :: m8 :: m9 :: m10 :: m11 :: m12 :: m13 :: m14 :: m15 :: .int 0 :: m17 :: .ref le :: mv)), (le, .inl (G.2 0, 16384, .inl lef2_3))]) [0, 1] rfl
    have hD9 := hD.sub (ws' := [(mo, .inr (12, m0 :: m1 :: m2 :: m3 :: m4 :: m5 :: m6 :: m7 :: m8 :: m9 :: m10 :: m11 :: m12 :: m13 :: m14 :: m15 :: .int 0 :: m17 :: .ref le :: mv)), (le, .inl (G.2 0, 16384, .inl lef2_3))]) [0, 1] (by decide) rfl
    exact W.vret hx hb hr (fun t ht hW => ⟨⟨lef2_3, rfl, trivial, ⟨by rw [ht]; exact hP9, hD9⟩⟩, hS.F ht⟩) hS.2.2 dX12_pairsLeast_124
  · exact absurd c_4 (by decide)

set_option maxHeartbeats 4000000 in
set_option maxRecDepth 100000 in
theorem r_nextStreet (l : Launch) (G : GG) (sz : Nat) (mo : Nat) (nw : Nat) (mv : List Value) (nf : Nat → Int32) (hz : ∀ j, j < 16 → nf j = 0) : Met l yX12_nextStreet (.code yX12_nextStreet cX12_nextStreet 5 (some .int) :: TT) ({ frames := 1, cells := 0, slots := 0, locals := 100 } : Room) (c0_P G [.ref mo, .int 0] sz ([(mo, .inr (12, .ref nw :: mv)), (nw, .inl (G.2 0, 15642, .inl nf))])) (va_Qi (S := Unit) (fun (r : Int32) (u : Unit) => r = (-1)) (fun (u : Unit) (t : State) => c0_B G (va_A ([(mo, .inr (12, .ref nw :: mv)), (nw, .inl (G.2 0, 15642, .inl nf))]) sz) ([(mo, .inr (12, .ref nw :: mv)), (nw, .inl (G.2 0, 15642, .inl nf))]) t) (va_A ([(mo, .inr (12, .ref nw :: mv)), (nw, .inl (G.2 0, 15642, .inl nf))]) sz)) 0 0 (va_A ([(mo, .inr (12, .ref nw :: mv)), (nw, .inl (G.2 0, 15642, .inl nf))]) sz) := by
  refine Met.ofW (cc := cX12_nextStreet) (maxL := 5) (ret := (some .int)) (by decide) rfl ?_
  intro p e s m args below meth c s₁ B hml hv
  obtain ⟨rfl, hsz, hP, hK, hD0⟩ := hv
  have hx := B.exec
  have hb := B.bytes
  have hr := B.returns
  have hts := atoms_spec (ws := .code yX12_nextStreet cX12_nextStreet 5 (some .int) :: TT) B.pre
  have ht := fun (w : Cond) (h : w ∈ TT) => hts w (List.mem_cons_of_mem _ h)
  have hown : s.vm.findClass RX12 = some m.cls := findClass_of_methodNamed B.named
  have hlocks := B.notSynchronized
  subst hsz
  have hD := hD0.self (sz := s.heap.size)
  generalize hAe : va_A ([(mo, .inr (12, .ref nw :: mv)), (nw, .inl (G.2 0, 15642, .inl nf))]) s.heap.size = A at hD ⊢
  have hA : ∀ q : Nat, s.heap.size ≤ q → A q := fun q h => by rw [← hAe]; exact Or.inr h
  have hS : va_S A s.heap s.heap [] := va_S.rf
  have hP : va_P G.1 vwCl ([(mo, .inr (12, .ref nw :: mv)), (nw, .inl (G.2 0, 15642, .inl nf))]) s.heap := hP
  have hl := lv_entry ([.ref mo, .int 0]) (n := 5) (Nat.le_of_ble_eq_true rfl)
  rw [lg_entry_eq]
  generalize (lg_sl ([.ref mo, .int 0]) ++ List.replicate (5 - (lg_sl ([.ref mo, .int 0])).length) Slot.unset).toArray = ls at hl ⊢
  have hl : lv_has ls 5 [(0, .ref mo), (1, .int 0)] := hl
  refine lv_iconst (v := 0) hx hb dX12_nextStreet_0 (by decide) ?_
  refine lv_istore_n (lv' := [(2, .int 0), (0, .ref mo), (1, .int 0)]) hx hb dX12_nextStreet_1 rfl hl (by decide) rfl (fun ls hl => ?_)
  refine lv_iload_n hx hb dX12_nextStreet_2 rfl (lv_at hl 0 rfl) ?_
  refine lv_aload_n hx hb dX12_nextStreet_3 rfl (lv_at hl 1 rfl) ?_
  refine va_get (D := G.1) (ci := 12) (v := .ref nw) (C := RX12) (T := TX12) (N := 32) hx hb ht inlX12 hown hK.1 hP 0 rfl rfl 0 (by decide) (ht (Cond.fieldLink RX12 7 "PloughDepotModel" "now" "[I") mw_6_19) (fun _ h9 => h9) rfl dX12_nextStreet_4 ?_
  refine lv_iconst (v := 1) hx hb dX12_nextStreet_7 (by decide) ?_
  refine va_iald hx hb hK.1 hP 1 0 rfl rfl (show ¬ ((1 : Int32) < 0 ∨ 15642 ≤ (1 : Int32).toNatClampNeg) by decide) dX12_nextStreet_8 ?_
  refine lv_topi (fun v_1 ev_1 => ?_)
  obtain rfl : 0 = v_1 := (ev_1.trans (hz _ (by decide))).symm
  refine lv_icmp_ge (tgt := 97) hx hb dX12_nextStreet_9 (by decide) (fun c_2 => ?_) (fun c_2 => ?_)
  · refine lv_iconst (v := (-1)) hx hb dX12_nextStreet_97 (by decide) ?_
    have hP9 := hP.sub (ws' := [(mo, .inr (12, .ref nw :: mv)), (nw, .inl (G.2 0, 15642, .inl nf))]) [0, 1] rfl
    have hD9 := hD.sub (ws' := [(mo, .inr (12, .ref nw :: mv)), (nw, .inl (G.2 0, 15642, .inl nf))]) [0, 1] (by decide) rfl
    exact W.iret (v := (-1)) hx hb hr (fun t ht hW => ⟨⟨(-1), (), rfl, rfl, ⟨by rw [ht]; exact hP9, hD9⟩⟩, hS.F ht⟩) hS.2.2 dX12_nextStreet_98
  · exact absurd c_2 (by decide)

set_option maxHeartbeats 4000000 in
set_option maxRecDepth 100000 in
theorem r_drivesAll (l : Launch) (G : GG) (sz : Nat) (mo : Nat) (nw : Nat) (mv : List Value) (nf : Nat → Int32) (hz : ∀ j, j < 16 → nf j = 0) : Met l yX12_drivesAll (.code yX12_drivesAll cX12_drivesAll 3 none :: TT) ({ frames := 2, cells := 0, slots := 0, locals := 200 } : Room) (c0_P G [.ref mo] sz ([(mo, .inr (12, .ref nw :: mv)), (nw, .inl (G.2 0, 15642, .inl nf))])) (va_Qv (S := Unit) (fun (u : Unit) => True) (fun (u : Unit) (t : State) => c0_B G (va_A ([(mo, .inr (12, .ref nw :: mv)), (nw, .inl (G.2 0, 15642, .inl nf))]) sz) ([(mo, .inr (12, .ref nw :: mv)), (nw, .inl (G.2 0, 15642, .inl nf))]) t) (va_A ([(mo, .inr (12, .ref nw :: mv)), (nw, .inl (G.2 0, 15642, .inl nf))]) sz)) 0 0 (va_A ([(mo, .inr (12, .ref nw :: mv)), (nw, .inl (G.2 0, 15642, .inl nf))]) sz) := by
  refine Met.ofW (cc := cX12_drivesAll) (maxL := 3) (ret := none) (by decide) rfl ?_
  intro p e s m args below meth c s₁ B hml hv
  obtain ⟨rfl, hsz, hP, hK, hD0⟩ := hv
  have hx := B.exec
  have hb := B.bytes
  have hr := B.returns
  have hts := atoms_spec (ws := .code yX12_drivesAll cX12_drivesAll 3 none :: TT) B.pre
  have ht := fun (w : Cond) (h : w ∈ TT) => hts w (List.mem_cons_of_mem _ h)
  have hown : s.vm.findClass RX12 = some m.cls := findClass_of_methodNamed B.named
  have hlocks := B.notSynchronized
  subst hsz
  have hD := hD0.self (sz := s.heap.size)
  generalize hAe : va_A ([(mo, .inr (12, .ref nw :: mv)), (nw, .inl (G.2 0, 15642, .inl nf))]) s.heap.size = A at hD ⊢
  have hA : ∀ q : Nat, s.heap.size ≤ q → A q := fun q h => by rw [← hAe]; exact Or.inr h
  have hS : va_S A s.heap s.heap [] := va_S.rf
  have hP : va_P G.1 vwCl ([(mo, .inr (12, .ref nw :: mv)), (nw, .inl (G.2 0, 15642, .inl nf))]) s.heap := hP
  have hl := lv_entry ([.ref mo]) (n := 3) (Nat.le_of_ble_eq_true rfl)
  rw [lg_entry_eq]
  generalize (lg_sl ([.ref mo]) ++ List.replicate (3 - (lg_sl ([.ref mo])).length) Slot.unset).toArray = ls at hl ⊢
  have hl : lv_has ls 3 [(0, .ref mo)] := hl
  refine lv_iconst (v := 0) hx hb dX12_drivesAll_0 (by decide) ?_
  refine lv_istore_n (lv' := [(1, .int 0), (0, .ref mo)]) hx hb dX12_drivesAll_1 rfl hl (by decide) rfl (fun ls hl => ?_)
  refine lv_aload_n hx hb dX12_drivesAll_2 rfl (lv_at hl 1 rfl) ?_
  refine lv_iload_n hx hb dX12_drivesAll_3 rfl (lv_at hl 0 rfl) ?_
  have hPc := hP.sub (ws' := [(mo, .inr (12, .ref nw :: mv)), (nw, .inl (G.2 0, 15642, .inl nf))]) [0, 1] rfl
  have hDc := hD.sub (ws' := [(mo, .inr (12, .ref nw :: mv)), (nw, .inl (G.2 0, 15642, .inl nf))]) [0, 1] (by decide) rfl
  have hFc := va_free (wc := [(mo, .inr (12, .ref nw :: mv)), (nw, .inl (G.2 0, 15642, .inl nf))]) hD hS hA [0, 1] rfl
  refine va_calli (va_runV (As := [.int 0]) (rest := []) ⟨hx, hb, hml, hown, hts⟩ (r_nextStreet l G _ mo nw mv nf (by first | assumption | decide)) (cwV 1 hts (gd_V mw_51_5 mw_51_6 mw_51_7 mw_1_5 mw_51_8) rfl rfl rfl ⟨rfl, yk_X12_nextStreet⟩ ⟨Nat.le_of_ble_eq_true rfl, Nat.le_of_ble_eq_true rfl⟩) (c0_preV (q0 := 0) (ci := 12) (q := (RX12, TX12, 32)) hPc hK hDc rfl rfl) rfl rfl hl.1 rfl (lv_room (Nat.le_of_ble_eq_true rfl)) dX12_drivesAll_4 ⟨Nat.le_of_ble_eq_true rfl, Nat.le_of_ble_eq_true rfl⟩) hS (fun q _ h => hFc q h) hFc (fun r_1 u t H1 locs ht1 hvm hw hB hz1 hk1 hS => ?_)
  try dsimp only at hw hB
  have hr1 := hw
  obtain rfl := hr1.symm
  obtain ⟨hP1, hD1⟩ := hB
  rw [ht1] at hP1
  obtain ⟨hP, hD⟩ := va_join (wr := []) (w1 := [(mo, .inr (12, .ref nw :: mv)), (nw, .inl (G.2 0, 15642, .inl nf))]) hP hD [0, 1] [] rfl rfl (by decide) (by decide) hk1 hFc hP1 hD1
  generalize H1 = H at hP hS ⊢
  have hP : va_P G.1 vwCl ([(mo, .inr (12, .ref nw :: mv)), (nw, .inl (G.2 0, 15642, .inl nf))]) H := hP
  have hD : va_D A ([(mo, .inr (12, .ref nw :: mv)), (nw, .inl (G.2 0, 15642, .inl nf))]) := hD
  refine lv_istore_n (lv' := [(2, .int (-1)), (1, .int 0), (0, .ref mo)]) hx hb dX12_drivesAll_7 rfl hl (by decide) rfl (fun ls hl => ?_)
  refine lv_iload_n hx hb dX12_drivesAll_8 rfl (lv_at hl 0 rfl) ?_
  refine lv_iconst (v := (-1)) hx hb dX12_drivesAll_9 (by decide) ?_
  refine lv_icmp_eq (tgt := 81) hx hb dX12_drivesAll_10 (by decide) (fun c_2 => ?_) (fun c_2 => ?_)
  · have hP9 := hP.sub (ws' := [(mo, .inr (12, .ref nw :: mv)), (nw, .inl (G.2 0, 15642, .inl nf))]) [0, 1] rfl
    have hD9 := hD.sub (ws' := [(mo, .inr (12, .ref nw :: mv)), (nw, .inl (G.2 0, 15642, .inl nf))]) [0, 1] (by decide) rfl
    exact W.vret hx hb hr (fun t ht hW => ⟨⟨(), rfl, trivial, ⟨by rw [ht]; exact hP9, hD9⟩⟩, hS.F ht⟩) hS.2.2 dX12_drivesAll_81
  · exact absurd c_2 (by decide)

set_option maxHeartbeats 4000000 in
set_option maxRecDepth 100000 in
theorem r_roundByPairs (l : Launch) (G : GG) (sz : Nat) (mo : Nat) (nw : Nat) (m1 : Value) (m2 : Value) (m3 : Value) (m4 : Value) (m5 : Value) (m6 : Value) (m7 : Value) (m8 : Value) (m9 : Value) (m10 : Value) (m11 : Value) (m12 : Value) (m13 : Value) (ti : Nat) (m15 : Value) (m16 : Value) (cm : Nat) (le : Nat) (m19 : Value) (m20 : Value) (mv : List Value) (nf : Nat → Int32) (cmf : Nat → Int32) (lef : Nat → Int32) (hz : ∀ j, j < 16 → nf j = 0) : Met l yX12_roundByPairs (.code yX12_roundByPairs cX12_roundByPairs 3 (some .int) :: TT) ({ frames := 3, cells := 0, slots := 0, locals := 300 } : Room) (c0_P G [.ref mo] sz ([(mo, .inr (12, .ref nw :: m1 :: m2 :: m3 :: m4 :: m5 :: m6 :: m7 :: m8 :: m9 :: m10 :: m11 :: m12 :: m13 :: .ref ti :: m15 :: m16 :: .ref cm :: .ref le :: m19 :: m20 :: .int 0 :: mv)), (nw, .inl (G.2 0, 15642, .inl nf)), (cm, .inl (G.2 4, 60, .inl cmf)), (le, .inl (G.2 0, 16384, .inl lef))])) (va_Qi (S := (Nat → Int32) × (Nat → Int32)) (fun (r : Int32) (u : (Nat → Int32) × (Nat → Int32)) => r = 0) (fun (u : (Nat → Int32) × (Nat → Int32)) (t : State) => c0_B G (va_A ([(mo, .inr (12, .ref nw :: m1 :: m2 :: m3 :: m4 :: m5 :: m6 :: m7 :: m8 :: m9 :: m10 :: m11 :: m12 :: m13 :: .ref ti :: m15 :: m16 :: .ref cm :: .ref le :: m19 :: m20 :: .int 0 :: mv)), (nw, .inl (G.2 0, 15642, .inl nf)), (cm, .inl (G.2 4, 60, .inl cmf)), (le, .inl (G.2 0, 16384, .inl lef))]) sz) ([(mo, .inr (12, .ref nw :: m1 :: m2 :: m3 :: m4 :: m5 :: m6 :: m7 :: m8 :: m9 :: m10 :: m11 :: m12 :: m13 :: .ref ti :: m15 :: .int 0 :: .ref cm :: .ref le :: .int 0 :: m20 :: .int 0 :: mv)), (nw, .inl (G.2 0, 15642, .inl nf)), (cm, .inl (G.2 4, 60, .inl u.1)), (le, .inl (G.2 0, 16384, .inl u.2))]) t) (va_A ([(mo, .inr (12, .ref nw :: m1 :: m2 :: m3 :: m4 :: m5 :: m6 :: m7 :: m8 :: m9 :: m10 :: m11 :: m12 :: m13 :: .ref ti :: m15 :: m16 :: .ref cm :: .ref le :: m19 :: m20 :: .int 0 :: mv)), (nw, .inl (G.2 0, 15642, .inl nf)), (cm, .inl (G.2 4, 60, .inl cmf)), (le, .inl (G.2 0, 16384, .inl lef))]) sz)) 0 0 (va_A ([(mo, .inr (12, .ref nw :: m1 :: m2 :: m3 :: m4 :: m5 :: m6 :: m7 :: m8 :: m9 :: m10 :: m11 :: m12 :: m13 :: .ref ti :: m15 :: m16 :: .ref cm :: .ref le :: m19 :: m20 :: .int 0 :: mv)), (nw, .inl (G.2 0, 15642, .inl nf)), (cm, .inl (G.2 4, 60, .inl cmf)), (le, .inl (G.2 0, 16384, .inl lef))]) sz) := by
  refine Met.ofW (cc := cX12_roundByPairs) (maxL := 3) (ret := (some .int)) (by decide) rfl ?_
  intro p e s m args below meth c s₁ B hml hv
  obtain ⟨rfl, hsz, hP, hK, hD0⟩ := hv
  have hx := B.exec
  have hb := B.bytes
  have hr := B.returns
  have hts := atoms_spec (ws := .code yX12_roundByPairs cX12_roundByPairs 3 (some .int) :: TT) B.pre
  have ht := fun (w : Cond) (h : w ∈ TT) => hts w (List.mem_cons_of_mem _ h)
  have hown : s.vm.findClass RX12 = some m.cls := findClass_of_methodNamed B.named
  have hlocks := B.notSynchronized
  subst hsz
  have hD := hD0.self (sz := s.heap.size)
  generalize hAe : va_A ([(mo, .inr (12, .ref nw :: m1 :: m2 :: m3 :: m4 :: m5 :: m6 :: m7 :: m8 :: m9 :: m10 :: m11 :: m12 :: m13 :: .ref ti :: m15 :: m16 :: .ref cm :: .ref le :: m19 :: m20 :: .int 0 :: mv)), (nw, .inl (G.2 0, 15642, .inl nf)), (cm, .inl (G.2 4, 60, .inl cmf)), (le, .inl (G.2 0, 16384, .inl lef))]) s.heap.size = A at hD ⊢
  have hA : ∀ q : Nat, s.heap.size ≤ q → A q := fun q h => by rw [← hAe]; exact Or.inr h
  have hS : va_S A s.heap s.heap [] := va_S.rf
  have hP : va_P G.1 vwCl ([(mo, .inr (12, .ref nw :: m1 :: m2 :: m3 :: m4 :: m5 :: m6 :: m7 :: m8 :: m9 :: m10 :: m11 :: m12 :: m13 :: .ref ti :: m15 :: m16 :: .ref cm :: .ref le :: m19 :: m20 :: .int 0 :: mv)), (nw, .inl (G.2 0, 15642, .inl nf)), (cm, .inl (G.2 4, 60, .inl cmf)), (le, .inl (G.2 0, 16384, .inl lef))]) s.heap := hP
  have hl := lv_entry ([.ref mo]) (n := 3) (Nat.le_of_ble_eq_true rfl)
  rw [lg_entry_eq]
  generalize (lg_sl ([.ref mo]) ++ List.replicate (3 - (lg_sl ([.ref mo])).length) Slot.unset).toArray = ls at hl ⊢
  have hl : lv_has ls 3 [(0, .ref mo)] := hl
  refine lv_aload_n hx hb dX12_roundByPairs_0 rfl (lv_at hl 0 rfl) ?_
  have hPc := hP.sub (ws' := [(mo, .inr (12, .ref nw :: m1 :: m2 :: m3 :: m4 :: m5 :: m6 :: m7 :: m8 :: m9 :: m10 :: m11 :: m12 :: m13 :: .ref ti :: m15 :: m16 :: .ref cm :: .ref le :: m19 :: m20 :: .int 0 :: mv)), (nw, .inl (G.2 0, 15642, .inl nf))]) [0, 1] rfl
  have hDc := hD.sub (ws' := [(mo, .inr (12, .ref nw :: m1 :: m2 :: m3 :: m4 :: m5 :: m6 :: m7 :: m8 :: m9 :: m10 :: m11 :: m12 :: m13 :: .ref ti :: m15 :: m16 :: .ref cm :: .ref le :: m19 :: m20 :: .int 0 :: mv)), (nw, .inl (G.2 0, 15642, .inl nf))]) [0, 1] (by decide) rfl
  have hFc := va_free (wc := [(mo, .inr (12, .ref nw :: m1 :: m2 :: m3 :: m4 :: m5 :: m6 :: m7 :: m8 :: m9 :: m10 :: m11 :: m12 :: m13 :: .ref ti :: m15 :: m16 :: .ref cm :: .ref le :: m19 :: m20 :: .int 0 :: mv)), (nw, .inl (G.2 0, 15642, .inl nf))]) hD hS hA [0, 1] rfl
  refine va_callv (va_runV (As := []) (rest := []) ⟨hx, hb, hml, hown, hts⟩ (r_beginTimes l G _ mo nw (m1 :: m2 :: m3 :: m4 :: m5 :: m6 :: m7 :: m8 :: m9 :: m10 :: m11 :: m12 :: m13 :: .ref ti :: m15 :: m16 :: .ref cm :: .ref le :: m19 :: m20 :: .int 0 :: mv) nf (by first | assumption | decide)) (cwV 0 hts (gd_V mw_40_9 mw_40_10 mw_40_11 mw_1_5 mw_40_12) rfl rfl rfl ⟨rfl, yk_X12_beginTimes⟩ ⟨Nat.le_of_ble_eq_true rfl, Nat.le_of_ble_eq_true rfl⟩) (c0_preV (q0 := 0) (ci := 12) (q := (RX12, TX12, 32)) hPc hK hDc rfl rfl) rfl rfl hl.1 rfl (lv_room (Nat.le_of_ble_eq_true rfl)) dX12_roundByPairs_1 ⟨Nat.le_of_ble_eq_true rfl, Nat.le_of_ble_eq_true rfl⟩) hS (fun q _ h => hFc q h) hFc (fun u t H1 locs ht1 hvm hw hB hz1 hk1 hS => ?_)
  try dsimp only at hw hB
  obtain ⟨hP1, hD1⟩ := hB
  rw [ht1] at hP1
  obtain ⟨hP, hD⟩ := va_join (wr := [(cm, .inl (G.2 4, 60, .inl cmf)), (le, .inl (G.2 0, 16384, .inl lef))]) (w1 := [(mo, .inr (12, .ref nw :: m1 :: m2 :: m3 :: m4 :: m5 :: m6 :: m7 :: m8 :: m9 :: m10 :: m11 :: m12 :: m13 :: .ref ti :: m15 :: m16 :: .ref cm :: .ref le :: m19 :: m20 :: .int 0 :: mv)), (nw, .inl (G.2 0, 15642, .inl nf))]) hP hD [0, 1] [2, 3] rfl rfl (by decide) (by decide) hk1 hFc hP1 hD1
  generalize H1 = H at hP hS ⊢
  have hP : va_P G.1 vwCl ([(cm, .inl (G.2 4, 60, .inl cmf)), (le, .inl (G.2 0, 16384, .inl lef)), (mo, .inr (12, .ref nw :: m1 :: m2 :: m3 :: m4 :: m5 :: m6 :: m7 :: m8 :: m9 :: m10 :: m11 :: m12 :: m13 :: .ref ti :: m15 :: m16 :: .ref cm :: .ref le :: m19 :: m20 :: .int 0 :: mv)), (nw, .inl (G.2 0, 15642, .inl nf))]) H := hP
  have hD : va_D A ([(cm, .inl (G.2 4, 60, .inl cmf)), (le, .inl (G.2 0, 16384, .inl lef)), (mo, .inr (12, .ref nw :: m1 :: m2 :: m3 :: m4 :: m5 :: m6 :: m7 :: m8 :: m9 :: m10 :: m11 :: m12 :: m13 :: .ref ti :: m15 :: m16 :: .ref cm :: .ref le :: m19 :: m20 :: .int 0 :: mv)), (nw, .inl (G.2 0, 15642, .inl nf))]) := hD
  refine lv_aload_n hx hb dX12_roundByPairs_4 rfl (lv_at hl 0 rfl) ?_
  have hPc := hP.sub (ws' := [(mo, .inr (12, .ref nw :: m1 :: m2 :: m3 :: m4 :: m5 :: m6 :: m7 :: m8 :: m9 :: m10 :: m11 :: m12 :: m13 :: .ref ti :: m15 :: m16 :: .ref cm :: .ref le :: m19 :: m20 :: .int 0 :: mv)), (nw, .inl (G.2 0, 15642, .inl nf)), (cm, .inl (G.2 4, 60, .inl cmf))]) [2, 3, 0] rfl
  have hDc := hD.sub (ws' := [(mo, .inr (12, .ref nw :: m1 :: m2 :: m3 :: m4 :: m5 :: m6 :: m7 :: m8 :: m9 :: m10 :: m11 :: m12 :: m13 :: .ref ti :: m15 :: m16 :: .ref cm :: .ref le :: m19 :: m20 :: .int 0 :: mv)), (nw, .inl (G.2 0, 15642, .inl nf)), (cm, .inl (G.2 4, 60, .inl cmf))]) [2, 3, 0] (by decide) rfl
  have hFc := va_free (wc := [(mo, .inr (12, .ref nw :: m1 :: m2 :: m3 :: m4 :: m5 :: m6 :: m7 :: m8 :: m9 :: m10 :: m11 :: m12 :: m13 :: .ref ti :: m15 :: m16 :: .ref cm :: .ref le :: m19 :: m20 :: .int 0 :: mv)), (nw, .inl (G.2 0, 15642, .inl nf)), (cm, .inl (G.2 4, 60, .inl cmf))]) hD hS hA [2, 3, 0] rfl
  refine va_calli (va_runV (As := []) (rest := []) ⟨hx, hb, hml, hown, hts⟩ (r_joinsAll l G _ mo nw m1 m2 m3 m4 m5 m6 m7 m8 m9 m10 m11 m12 m13 ti m15 m16 cm (.ref le) m19 (m20 :: .int 0 :: mv) nf cmf (by first | assumption | decide)) (cwV 0 hts (gd_V mw_49_13 mw_49_14 mw_49_15 mw_1_5 mw_49_16) rfl rfl rfl ⟨rfl, yk_X12_joinsAll⟩ ⟨Nat.le_of_ble_eq_true rfl, Nat.le_of_ble_eq_true rfl⟩) (c0_preV (q0 := 0) (ci := 12) (q := (RX12, TX12, 32)) hPc hK hDc rfl rfl) rfl rfl hl.1 rfl (lv_room (Nat.le_of_ble_eq_true rfl)) dX12_roundByPairs_5 ⟨Nat.le_of_ble_eq_true rfl, Nat.le_of_ble_eq_true rfl⟩) hS (fun q _ h => hFc q h) hFc (fun r_1 u t H1 locs ht1 hvm hw hB hz1 hk1 hS => ?_)
  obtain ⟨cmf2_2, rfl⟩ : ∃ z, z = u := ⟨_, rfl⟩
  try dsimp only at hw hB
  have hr2 := hw
  obtain rfl := hr2.symm
  obtain ⟨hP1, hD1⟩ := hB
  rw [ht1] at hP1
  obtain ⟨hP, hD⟩ := va_join (wr := [(le, .inl (G.2 0, 16384, .inl lef))]) (w1 := [(mo, .inr (12, .ref nw :: m1 :: m2 :: m3 :: m4 :: m5 :: m6 :: m7 :: m8 :: m9 :: m10 :: m11 :: m12 :: m13 :: .ref ti :: m15 :: m16 :: .ref cm :: .ref le :: .int 0 :: m20 :: .int 0 :: mv)), (nw, .inl (G.2 0, 15642, .inl nf)), (cm, .inl (G.2 4, 60, .inl cmf2_2))]) hP hD [2, 3, 0] [1] rfl rfl (by decide) (by decide) hk1 hFc hP1 hD1
  generalize H1 = H at hP hS ⊢
  have hP : va_P G.1 vwCl ([(le, .inl (G.2 0, 16384, .inl lef)), (mo, .inr (12, .ref nw :: m1 :: m2 :: m3 :: m4 :: m5 :: m6 :: m7 :: m8 :: m9 :: m10 :: m11 :: m12 :: m13 :: .ref ti :: m15 :: m16 :: .ref cm :: .ref le :: .int 0 :: m20 :: .int 0 :: mv)), (nw, .inl (G.2 0, 15642, .inl nf)), (cm, .inl (G.2 4, 60, .inl cmf2_2))]) H := hP
  have hD : va_D A ([(le, .inl (G.2 0, 16384, .inl lef)), (mo, .inr (12, .ref nw :: m1 :: m2 :: m3 :: m4 :: m5 :: m6 :: m7 :: m8 :: m9 :: m10 :: m11 :: m12 :: m13 :: .ref ti :: m15 :: m16 :: .ref cm :: .ref le :: .int 0 :: m20 :: .int 0 :: mv)), (nw, .inl (G.2 0, 15642, .inl nf)), (cm, .inl (G.2 4, 60, .inl cmf2_2))]) := hD
  refine lv_if_ne (tgt := 14) hx hb dX12_roundByPairs_8 (by decide) (fun c_3 => ?_) (fun c_3 => ?_)
  · refine lv_aload_n hx hb dX12_roundByPairs_14 rfl (lv_at hl 0 rfl) ?_
    have hPc := hP.sub (ws' := [(mo, .inr (12, .ref nw :: m1 :: m2 :: m3 :: m4 :: m5 :: m6 :: m7 :: m8 :: m9 :: m10 :: m11 :: m12 :: m13 :: .ref ti :: m15 :: m16 :: .ref cm :: .ref le :: .int 0 :: m20 :: .int 0 :: mv)), (nw, .inl (G.2 0, 15642, .inl nf))]) [1, 2] rfl
    have hDc := hD.sub (ws' := [(mo, .inr (12, .ref nw :: m1 :: m2 :: m3 :: m4 :: m5 :: m6 :: m7 :: m8 :: m9 :: m10 :: m11 :: m12 :: m13 :: .ref ti :: m15 :: m16 :: .ref cm :: .ref le :: .int 0 :: m20 :: .int 0 :: mv)), (nw, .inl (G.2 0, 15642, .inl nf))]) [1, 2] (by decide) rfl
    have hFc := va_free (wc := [(mo, .inr (12, .ref nw :: m1 :: m2 :: m3 :: m4 :: m5 :: m6 :: m7 :: m8 :: m9 :: m10 :: m11 :: m12 :: m13 :: .ref ti :: m15 :: m16 :: .ref cm :: .ref le :: .int 0 :: m20 :: .int 0 :: mv)), (nw, .inl (G.2 0, 15642, .inl nf))]) hD hS hA [1, 2] rfl
    refine va_callv (va_runV (As := []) (rest := []) ⟨hx, hb, hml, hown, hts⟩ (r_findOdd l G _ mo nw m1 m2 m3 m4 m5 m6 m7 m8 m9 m10 m11 m12 m13 (.ref ti) m15 m16 (.ref cm :: .ref le :: .int 0 :: m20 :: .int 0 :: mv) nf (by first | assumption | decide)) (cwV 0 hts (gd_V mw_40_17 mw_40_18 mw_40_19 mw_1_5 mw_40_20) rfl rfl rfl ⟨rfl, yk_X12_findOdd⟩ ⟨Nat.le_of_ble_eq_true rfl, Nat.le_of_ble_eq_true rfl⟩) (c0_preV (q0 := 0) (ci := 12) (q := (RX12, TX12, 32)) hPc hK hDc rfl rfl) rfl rfl hl.1 rfl (lv_room (Nat.le_of_ble_eq_true rfl)) dX12_roundByPairs_15 ⟨Nat.le_of_ble_eq_true rfl, Nat.le_of_ble_eq_true rfl⟩) hS (fun q _ h => hFc q h) hFc (fun u t H1 locs ht1 hvm hw hB hz1 hk1 hS => ?_)
    try dsimp only at hw hB
    obtain ⟨hP1, hD1⟩ := hB
    rw [ht1] at hP1
    obtain ⟨hP, hD⟩ := va_join (wr := [(le, .inl (G.2 0, 16384, .inl lef)), (cm, .inl (G.2 4, 60, .inl cmf2_2))]) (w1 := [(mo, .inr (12, .ref nw :: m1 :: m2 :: m3 :: m4 :: m5 :: m6 :: m7 :: m8 :: m9 :: m10 :: m11 :: m12 :: m13 :: .ref ti :: m15 :: .int 0 :: .ref cm :: .ref le :: .int 0 :: m20 :: .int 0 :: mv)), (nw, .inl (G.2 0, 15642, .inl nf))]) hP hD [1, 2] [0, 3] rfl rfl (by decide) (by decide) hk1 hFc hP1 hD1
    generalize H1 = H at hP hS ⊢
    have hP : va_P G.1 vwCl ([(le, .inl (G.2 0, 16384, .inl lef)), (cm, .inl (G.2 4, 60, .inl cmf2_2)), (mo, .inr (12, .ref nw :: m1 :: m2 :: m3 :: m4 :: m5 :: m6 :: m7 :: m8 :: m9 :: m10 :: m11 :: m12 :: m13 :: .ref ti :: m15 :: .int 0 :: .ref cm :: .ref le :: .int 0 :: m20 :: .int 0 :: mv)), (nw, .inl (G.2 0, 15642, .inl nf))]) H := hP
    have hD : va_D A ([(le, .inl (G.2 0, 16384, .inl lef)), (cm, .inl (G.2 4, 60, .inl cmf2_2)), (mo, .inr (12, .ref nw :: m1 :: m2 :: m3 :: m4 :: m5 :: m6 :: m7 :: m8 :: m9 :: m10 :: m11 :: m12 :: m13 :: .ref ti :: m15 :: .int 0 :: .ref cm :: .ref le :: .int 0 :: m20 :: .int 0 :: mv)), (nw, .inl (G.2 0, 15642, .inl nf))]) := hD
    refine lv_aload_n hx hb dX12_roundByPairs_18 rfl (lv_at hl 0 rfl) ?_
    refine va_get (D := G.1) (ci := 12) (v := .int 0) (C := RX12) (T := TX12) (N := 32) hx hb ht inlX12 hown hK.1 hP 2 rfl rfl 16 (by decide) (ht (Cond.fieldLink RX12 242 "PloughDepotModel" "odds" "I") mw_40_8) (fun _ h9 => h9) rfl dX12_roundByPairs_19 ?_
    refine lv_bipush (v := 14) hx hb dX12_roundByPairs_22 (by decide) ?_
    refine lv_icmp_gt (tgt := 34) hx hb dX12_roundByPairs_24 (by decide) (fun c_4 => ?_) (fun c_4 => ?_)
    · exact absurd c_4 (by decide)
    · refine lv_aload_n hx hb dX12_roundByPairs_27 rfl (lv_at hl 0 rfl) ?_
      have hPc := hP.sub (ws' := [(mo, .inr (12, .ref nw :: m1 :: m2 :: m3 :: m4 :: m5 :: m6 :: m7 :: m8 :: m9 :: m10 :: m11 :: m12 :: m13 :: .ref ti :: m15 :: .int 0 :: .ref cm :: .ref le :: .int 0 :: m20 :: .int 0 :: mv)), (le, .inl (G.2 0, 16384, .inl lef))]) [2, 0] rfl
      have hDc := hD.sub (ws' := [(mo, .inr (12, .ref nw :: m1 :: m2 :: m3 :: m4 :: m5 :: m6 :: m7 :: m8 :: m9 :: m10 :: m11 :: m12 :: m13 :: .ref ti :: m15 :: .int 0 :: .ref cm :: .ref le :: .int 0 :: m20 :: .int 0 :: mv)), (le, .inl (G.2 0, 16384, .inl lef))]) [2, 0] (by decide) rfl
      have hFc := va_free (wc := [(mo, .inr (12, .ref nw :: m1 :: m2 :: m3 :: m4 :: m5 :: m6 :: m7 :: m8 :: m9 :: m10 :: m11 :: m12 :: m13 :: .ref ti :: m15 :: .int 0 :: .ref cm :: .ref le :: .int 0 :: m20 :: .int 0 :: mv)), (le, .inl (G.2 0, 16384, .inl lef))]) hD hS hA [2, 0] rfl
      refine va_callv (va_runV (As := []) (rest := []) ⟨hx, hb, hml, hown, hts⟩ (r_pairsLeast l G _ mo (.ref nw) m1 m2 m3 m4 m5 m6 m7 m8 m9 m10 m11 m12 m13 (.ref ti) m15 (.ref cm) le (.int 0 :: m20 :: .int 0 :: mv) lef ) (cwV 0 hts (gd_V mw_50_9 mw_50_10 mw_50_11 mw_1_5 mw_50_12) rfl rfl rfl ⟨rfl, yk_X12_pairsLeast⟩ ⟨Nat.le_of_ble_eq_true rfl, Nat.le_of_ble_eq_true rfl⟩) (c0_preV (q0 := 0) (ci := 12) (q := (RX12, TX12, 32)) hPc hK hDc rfl rfl) rfl rfl hl.1 rfl (lv_room (Nat.le_of_ble_eq_true rfl)) dX12_roundByPairs_28 ⟨Nat.le_of_ble_eq_true rfl, Nat.le_of_ble_eq_true rfl⟩) hS (fun q _ h => hFc q h) hFc (fun u t H1 locs ht1 hvm hw hB hz1 hk1 hS => ?_)
      obtain ⟨lef2_5, rfl⟩ : ∃ z, z = u := ⟨_, rfl⟩
      try dsimp only at hw hB
      obtain ⟨hP1, hD1⟩ := hB
      rw [ht1] at hP1
      obtain ⟨hP, hD⟩ := va_join (wr := [(cm, .inl (G.2 4, 60, .inl cmf2_2)), (nw, .inl (G.2 0, 15642, .inl nf))]) (w1 := [(mo, .inr (12, .ref nw :: m1 :: m2 :: m3 :: m4 :: m5 :: m6 :: m7 :: m8 :: m9 :: m10 :: m11 :: m12 :: m13 :: .ref ti :: m15 :: .int 0 :: .ref cm :: .ref le :: .int 0 :: m20 :: .int 0 :: mv)), (le, .inl (G.2 0, 16384, .inl lef2_5))]) hP hD [2, 0] [1, 3] rfl rfl (by decide) (by decide) hk1 hFc hP1 hD1
      generalize H1 = H at hP hS ⊢
      have hP : va_P G.1 vwCl ([(cm, .inl (G.2 4, 60, .inl cmf2_2)), (nw, .inl (G.2 0, 15642, .inl nf)), (mo, .inr (12, .ref nw :: m1 :: m2 :: m3 :: m4 :: m5 :: m6 :: m7 :: m8 :: m9 :: m10 :: m11 :: m12 :: m13 :: .ref ti :: m15 :: .int 0 :: .ref cm :: .ref le :: .int 0 :: m20 :: .int 0 :: mv)), (le, .inl (G.2 0, 16384, .inl lef2_5))]) H := hP
      have hD : va_D A ([(cm, .inl (G.2 4, 60, .inl cmf2_2)), (nw, .inl (G.2 0, 15642, .inl nf)), (mo, .inr (12, .ref nw :: m1 :: m2 :: m3 :: m4 :: m5 :: m6 :: m7 :: m8 :: m9 :: m10 :: m11 :: m12 :: m13 :: .ref ti :: m15 :: .int 0 :: .ref cm :: .ref le :: .int 0 :: m20 :: .int 0 :: mv)), (le, .inl (G.2 0, 16384, .inl lef2_5))]) := hD
      refine lv_goto (tgt := 38) hx hb dX12_roundByPairs_31 (by decide) ?_
      refine lv_iconst (v := 0) hx hb dX12_roundByPairs_38 (by decide) ?_
      refine lv_istore_n (lv' := [(1, .int 0), (0, .ref mo)]) hx hb dX12_roundByPairs_39 rfl hl (by decide) rfl (fun ls hl => ?_)
      refine lv_iload_n hx hb dX12_roundByPairs_40 rfl (lv_at hl 0 rfl) ?_
      refine lv_aload_n hx hb dX12_roundByPairs_41 rfl (lv_at hl 1 rfl) ?_
      refine va_get (D := G.1) (ci := 12) (v := .int 0) (C := RX12) (T := TX12) (N := 32) hx hb ht inlX12 hown hK.1 hP 2 rfl rfl 21 (by decide) (ht (Cond.fieldLink RX12 285 "PloughDepotModel" "pairs" "I") mw_48_19) (fun _ h9 => h9) rfl dX12_roundByPairs_42 ?_
      refine lv_icmp_ge (tgt := 71) hx hb dX12_roundByPairs_45 (by decide) (fun c_6 => ?_) (fun c_6 => ?_)
      · refine lv_iconst (v := 0) hx hb dX12_roundByPairs_71 (by decide) ?_
        refine lv_istore_n (lv' := [(1, .int 0), (0, .ref mo)]) hx hb dX12_roundByPairs_72 rfl hl (by decide) rfl (fun ls hl => ?_)
        refine lv_iconst (v := 0) hx hb dX12_roundByPairs_73 (by decide) ?_
        refine lv_istore_n (lv' := [(2, .int 0), (1, .int 0), (0, .ref mo)]) hx hb dX12_roundByPairs_74 rfl hl (by decide) rfl (fun ls hl => ?_)
        refine lv_iload_n hx hb dX12_roundByPairs_75 rfl (lv_at hl 0 rfl) ?_
        refine lv_aload_n hx hb dX12_roundByPairs_76 rfl (lv_at hl 2 rfl) ?_
        refine va_get (D := G.1) (ci := 12) (v := .ref nw) (C := RX12) (T := TX12) (N := 32) hx hb ht inlX12 hown hK.1 hP 2 rfl rfl 0 (by decide) (ht (Cond.fieldLink RX12 7 "PloughDepotModel" "now" "[I") mw_6_19) (fun _ h9 => h9) rfl dX12_roundByPairs_77 ?_
        refine lv_iconst (v := 1) hx hb dX12_roundByPairs_80 (by decide) ?_
        refine va_iald hx hb hK.1 hP 1 0 rfl rfl (show ¬ ((1 : Int32) < 0 ∨ 15642 ≤ (1 : Int32).toNatClampNeg) by decide) dX12_roundByPairs_81 ?_
        refine lv_topi (fun v_7 ev_7 => ?_)
        obtain rfl : 0 = v_7 := (ev_7.trans (hz _ (by decide))).symm
        refine lv_icmp_ge (tgt := 100) hx hb dX12_roundByPairs_82 (by decide) (fun c_8 => ?_) (fun c_8 => ?_)
        · refine lv_iload_n hx hb dX12_roundByPairs_100 rfl (lv_at hl 1 rfl) ?_
          refine lv_sipush (v := 2000) hx hb dX12_roundByPairs_101 (by decide) ?_
          refine lv_icmp_le (tgt := 110) hx hb dX12_roundByPairs_104 (by decide) (fun c_9 => ?_) (fun c_9 => ?_)
          · refine lv_aload_n hx hb dX12_roundByPairs_110 rfl (lv_at hl 2 rfl) ?_
            have hPc := hP.sub (ws' := [(mo, .inr (12, .ref nw :: m1 :: m2 :: m3 :: m4 :: m5 :: m6 :: m7 :: m8 :: m9 :: m10 :: m11 :: m12 :: m13 :: .ref ti :: m15 :: .int 0 :: .ref cm :: .ref le :: .int 0 :: m20 :: .int 0 :: mv)), (nw, .inl (G.2 0, 15642, .inl nf))]) [2, 1] rfl
            have hDc := hD.sub (ws' := [(mo, .inr (12, .ref nw :: m1 :: m2 :: m3 :: m4 :: m5 :: m6 :: m7 :: m8 :: m9 :: m10 :: m11 :: m12 :: m13 :: .ref ti :: m15 :: .int 0 :: .ref cm :: .ref le :: .int 0 :: m20 :: .int 0 :: mv)), (nw, .inl (G.2 0, 15642, .inl nf))]) [2, 1] (by decide) rfl
            have hFc := va_free (wc := [(mo, .inr (12, .ref nw :: m1 :: m2 :: m3 :: m4 :: m5 :: m6 :: m7 :: m8 :: m9 :: m10 :: m11 :: m12 :: m13 :: .ref ti :: m15 :: .int 0 :: .ref cm :: .ref le :: .int 0 :: m20 :: .int 0 :: mv)), (nw, .inl (G.2 0, 15642, .inl nf))]) hD hS hA [2, 1] rfl
            refine va_callv (va_runV (As := []) (rest := []) ⟨hx, hb, hml, hown, hts⟩ (r_drivesAll l G _ mo nw (m1 :: m2 :: m3 :: m4 :: m5 :: m6 :: m7 :: m8 :: m9 :: m10 :: m11 :: m12 :: m13 :: .ref ti :: m15 :: .int 0 :: .ref cm :: .ref le :: .int 0 :: m20 :: .int 0 :: mv) nf (by first | assumption | decide)) (cwV 0 hts (gd_V mw_51_1 mw_51_2 mw_51_3 mw_1_5 mw_51_4) rfl rfl rfl ⟨rfl, yk_X12_drivesAll⟩ ⟨Nat.le_of_ble_eq_true rfl, Nat.le_of_ble_eq_true rfl⟩) (c0_preV (q0 := 0) (ci := 12) (q := (RX12, TX12, 32)) hPc hK hDc rfl rfl) rfl rfl hl.1 rfl (lv_room (Nat.le_of_ble_eq_true rfl)) dX12_roundByPairs_111 ⟨Nat.le_of_ble_eq_true rfl, Nat.le_of_ble_eq_true rfl⟩) hS (fun q _ h => hFc q h) hFc (fun u t H1 locs ht1 hvm hw hB hz1 hk1 hS => ?_)
            try dsimp only at hw hB
            obtain ⟨hP1, hD1⟩ := hB
            rw [ht1] at hP1
            obtain ⟨hP, hD⟩ := va_join (wr := [(cm, .inl (G.2 4, 60, .inl cmf2_2)), (le, .inl (G.2 0, 16384, .inl lef2_5))]) (w1 := [(mo, .inr (12, .ref nw :: m1 :: m2 :: m3 :: m4 :: m5 :: m6 :: m7 :: m8 :: m9 :: m10 :: m11 :: m12 :: m13 :: .ref ti :: m15 :: .int 0 :: .ref cm :: .ref le :: .int 0 :: m20 :: .int 0 :: mv)), (nw, .inl (G.2 0, 15642, .inl nf))]) hP hD [2, 1] [0, 3] rfl rfl (by decide) (by decide) hk1 hFc hP1 hD1
            generalize H1 = H at hP hS ⊢
            have hP : va_P G.1 vwCl ([(cm, .inl (G.2 4, 60, .inl cmf2_2)), (le, .inl (G.2 0, 16384, .inl lef2_5)), (mo, .inr (12, .ref nw :: m1 :: m2 :: m3 :: m4 :: m5 :: m6 :: m7 :: m8 :: m9 :: m10 :: m11 :: m12 :: m13 :: .ref ti :: m15 :: .int 0 :: .ref cm :: .ref le :: .int 0 :: m20 :: .int 0 :: mv)), (nw, .inl (G.2 0, 15642, .inl nf))]) H := hP
            have hD : va_D A ([(cm, .inl (G.2 4, 60, .inl cmf2_2)), (le, .inl (G.2 0, 16384, .inl lef2_5)), (mo, .inr (12, .ref nw :: m1 :: m2 :: m3 :: m4 :: m5 :: m6 :: m7 :: m8 :: m9 :: m10 :: m11 :: m12 :: m13 :: .ref ti :: m15 :: .int 0 :: .ref cm :: .ref le :: .int 0 :: m20 :: .int 0 :: mv)), (nw, .inl (G.2 0, 15642, .inl nf))]) := hD
            refine lv_iconst (v := 0) hx hb dX12_roundByPairs_114 (by decide) ?_
            have hP9 := hP.sub (ws' := [(mo, .inr (12, .ref nw :: m1 :: m2 :: m3 :: m4 :: m5 :: m6 :: m7 :: m8 :: m9 :: m10 :: m11 :: m12 :: m13 :: .ref ti :: m15 :: .int 0 :: .ref cm :: .ref le :: .int 0 :: m20 :: .int 0 :: mv)), (nw, .inl (G.2 0, 15642, .inl nf)), (cm, .inl (G.2 4, 60, .inl cmf2_2)), (le, .inl (G.2 0, 16384, .inl lef2_5))]) [2, 3, 0, 1] rfl
            have hD9 := hD.sub (ws' := [(mo, .inr (12, .ref nw :: m1 :: m2 :: m3 :: m4 :: m5 :: m6 :: m7 :: m8 :: m9 :: m10 :: m11 :: m12 :: m13 :: .ref ti :: m15 :: .int 0 :: .ref cm :: .ref le :: .int 0 :: m20 :: .int 0 :: mv)), (nw, .inl (G.2 0, 15642, .inl nf)), (cm, .inl (G.2 4, 60, .inl cmf2_2)), (le, .inl (G.2 0, 16384, .inl lef2_5))]) [2, 3, 0, 1] (by decide) rfl
            exact W.iret (v := 0) hx hb hr (fun t ht hW => ⟨⟨0, (cmf2_2, lef2_5), rfl, rfl, ⟨by rw [ht]; exact hP9, hD9⟩⟩, hS.F ht⟩) hS.2.2 dX12_roundByPairs_115
          · exact absurd c_9 (by decide)
        · exact absurd c_8 (by decide)
      · exact absurd c_6 (by decide)
  · exact absurd c_3 (by decide)

set_option maxHeartbeats 4000000 in
set_option maxRecDepth 100000 in
theorem r_round (l : Launch) (G : GG) (sz : Nat) (mo : Nat) (nw : Nat) (kp : Nat) (m2 : Value) (m3 : Value) (m4 : Value) (m5 : Value) (m6 : Value) (m7 : Value) (m8 : Value) (m9 : Value) (m11 : Value) (m12 : Value) (m13 : Value) (ti : Nat) (m15 : Value) (m16 : Value) (cm : Nat) (le : Nat) (m19 : Value) (m20 : Value) (m21 : Value) (m22 : Value) (m23 : Value) (m24 : Value) (m25 : Value) (m26 : Value) (m27 : Value) (dn : Nat) (mv : List Value) (nf : Nat → Int32) (kf : Nat → Int32) (cmf : Nat → Int32) (lef : Nat → Int32) (dnf : Nat → Int32) (hz : ∀ j, j < 16 → nf j = 0) : Met l yX12_round (.code yX12_round cX12_round 4 (some .int) :: TT) ({ frames := 4, cells := 0, slots := 0, locals := 400 } : Room) (c0_P G [.ref mo] sz ([(mo, .inr (12, .ref nw :: .ref kp :: m2 :: m3 :: m4 :: m5 :: m6 :: m7 :: m8 :: m9 :: .int 0 :: m11 :: m12 :: m13 :: .ref ti :: m15 :: m16 :: .ref cm :: .ref le :: m19 :: m20 :: m21 :: m22 :: m23 :: m24 :: m25 :: m26 :: m27 :: .ref dn :: mv)), (nw, .inl (G.2 0, 15642, .inl nf)), (kp, .inl (G.2 0, 15642, .inl kf)), (cm, .inl (G.2 4, 60, .inl cmf)), (le, .inl (G.2 0, 16384, .inl lef)), (dn, .inl (G.2 0, 150, .inl dnf))])) (va_Qi (S := Unit) (fun (r : Int32) (u : Unit) => r = 0) (fun (u : Unit) (t : State) => True) (va_A ([(mo, .inr (12, .ref nw :: .ref kp :: m2 :: m3 :: m4 :: m5 :: m6 :: m7 :: m8 :: m9 :: .int 0 :: m11 :: m12 :: m13 :: .ref ti :: m15 :: m16 :: .ref cm :: .ref le :: m19 :: m20 :: m21 :: m22 :: m23 :: m24 :: m25 :: m26 :: m27 :: .ref dn :: mv)), (nw, .inl (G.2 0, 15642, .inl nf)), (kp, .inl (G.2 0, 15642, .inl kf)), (cm, .inl (G.2 4, 60, .inl cmf)), (le, .inl (G.2 0, 16384, .inl lef)), (dn, .inl (G.2 0, 150, .inl dnf))]) sz)) 0 0 (va_A ([(mo, .inr (12, .ref nw :: .ref kp :: m2 :: m3 :: m4 :: m5 :: m6 :: m7 :: m8 :: m9 :: .int 0 :: m11 :: m12 :: m13 :: .ref ti :: m15 :: m16 :: .ref cm :: .ref le :: m19 :: m20 :: m21 :: m22 :: m23 :: m24 :: m25 :: m26 :: m27 :: .ref dn :: mv)), (nw, .inl (G.2 0, 15642, .inl nf)), (kp, .inl (G.2 0, 15642, .inl kf)), (cm, .inl (G.2 4, 60, .inl cmf)), (le, .inl (G.2 0, 16384, .inl lef)), (dn, .inl (G.2 0, 150, .inl dnf))]) sz) := by
  refine Met.ofW (cc := cX12_round) (maxL := 4) (ret := (some .int)) (by decide) rfl ?_
  intro p e s m args below meth c s₁ B hml hv
  obtain ⟨rfl, hsz, hP, hK, hD0⟩ := hv
  have hx := B.exec
  have hb := B.bytes
  have hr := B.returns
  have hts := atoms_spec (ws := .code yX12_round cX12_round 4 (some .int) :: TT) B.pre
  have ht := fun (w : Cond) (h : w ∈ TT) => hts w (List.mem_cons_of_mem _ h)
  have hown : s.vm.findClass RX12 = some m.cls := findClass_of_methodNamed B.named
  have hlocks := B.notSynchronized
  subst hsz
  have hD := hD0.self (sz := s.heap.size)
  generalize hAe : va_A ([(mo, .inr (12, .ref nw :: .ref kp :: m2 :: m3 :: m4 :: m5 :: m6 :: m7 :: m8 :: m9 :: .int 0 :: m11 :: m12 :: m13 :: .ref ti :: m15 :: m16 :: .ref cm :: .ref le :: m19 :: m20 :: m21 :: m22 :: m23 :: m24 :: m25 :: m26 :: m27 :: .ref dn :: mv)), (nw, .inl (G.2 0, 15642, .inl nf)), (kp, .inl (G.2 0, 15642, .inl kf)), (cm, .inl (G.2 4, 60, .inl cmf)), (le, .inl (G.2 0, 16384, .inl lef)), (dn, .inl (G.2 0, 150, .inl dnf))]) s.heap.size = A at hD ⊢
  have hA : ∀ q : Nat, s.heap.size ≤ q → A q := fun q h => by rw [← hAe]; exact Or.inr h
  have hS : va_S A s.heap s.heap [] := va_S.rf
  have hP : va_P G.1 vwCl ([(mo, .inr (12, .ref nw :: .ref kp :: m2 :: m3 :: m4 :: m5 :: m6 :: m7 :: m8 :: m9 :: .int 0 :: m11 :: m12 :: m13 :: .ref ti :: m15 :: m16 :: .ref cm :: .ref le :: m19 :: m20 :: m21 :: m22 :: m23 :: m24 :: m25 :: m26 :: m27 :: .ref dn :: mv)), (nw, .inl (G.2 0, 15642, .inl nf)), (kp, .inl (G.2 0, 15642, .inl kf)), (cm, .inl (G.2 4, 60, .inl cmf)), (le, .inl (G.2 0, 16384, .inl lef)), (dn, .inl (G.2 0, 150, .inl dnf))]) s.heap := hP
  have hl := lv_entry ([.ref mo]) (n := 4) (Nat.le_of_ble_eq_true rfl)
  rw [lg_entry_eq]
  generalize (lg_sl ([.ref mo]) ++ List.replicate (4 - (lg_sl ([.ref mo])).length) Slot.unset).toArray = ls at hl ⊢
  have hl : lv_has ls 4 [(0, .ref mo)] := hl
  refine lv_aload_n hx hb dX12_round_0 rfl (lv_at hl 0 rfl) ?_
  have hPc := hP.sub (ws' := [(mo, .inr (12, .ref nw :: .ref kp :: m2 :: m3 :: m4 :: m5 :: m6 :: m7 :: m8 :: m9 :: .int 0 :: m11 :: m12 :: m13 :: .ref ti :: m15 :: m16 :: .ref cm :: .ref le :: m19 :: m20 :: m21 :: m22 :: m23 :: m24 :: m25 :: m26 :: m27 :: .ref dn :: mv)), (nw, .inl (G.2 0, 15642, .inl nf))]) [0, 1] rfl
  have hDc := hD.sub (ws' := [(mo, .inr (12, .ref nw :: .ref kp :: m2 :: m3 :: m4 :: m5 :: m6 :: m7 :: m8 :: m9 :: .int 0 :: m11 :: m12 :: m13 :: .ref ti :: m15 :: m16 :: .ref cm :: .ref le :: m19 :: m20 :: m21 :: m22 :: m23 :: m24 :: m25 :: m26 :: m27 :: .ref dn :: mv)), (nw, .inl (G.2 0, 15642, .inl nf))]) [0, 1] (by decide) rfl
  have hFc := va_free (wc := [(mo, .inr (12, .ref nw :: .ref kp :: m2 :: m3 :: m4 :: m5 :: m6 :: m7 :: m8 :: m9 :: .int 0 :: m11 :: m12 :: m13 :: .ref ti :: m15 :: m16 :: .ref cm :: .ref le :: m19 :: m20 :: m21 :: m22 :: m23 :: m24 :: m25 :: m26 :: m27 :: .ref dn :: mv)), (nw, .inl (G.2 0, 15642, .inl nf))]) hD hS hA [0, 1] rfl
  refine va_callv (va_runV (As := []) (rest := []) ⟨hx, hb, hml, hown, hts⟩ (r_reckon l G _ mo nw (.ref kp) m2 m3 m4 m5 m6 m7 m8 m9 (m11 :: m12 :: m13 :: .ref ti :: m15 :: m16 :: .ref cm :: .ref le :: m19 :: m20 :: m21 :: m22 :: m23 :: m24 :: m25 :: m26 :: m27 :: .ref dn :: mv) nf (by first | assumption | decide)) (cwV 0 hts (gd_V mw_17_20 mw_17_21 mw_17_22 mw_1_5 mw_17_23) rfl rfl rfl ⟨rfl, yk_X12_reckon⟩ ⟨Nat.le_of_ble_eq_true rfl, Nat.le_of_ble_eq_true rfl⟩) (c0_preV (q0 := 0) (ci := 12) (q := (RX12, TX12, 32)) hPc hK hDc rfl rfl) rfl rfl hl.1 rfl (lv_room (Nat.le_of_ble_eq_true rfl)) dX12_round_1 ⟨Nat.le_of_ble_eq_true rfl, Nat.le_of_ble_eq_true rfl⟩) hS (fun q _ h => hFc q h) hFc (fun u t H1 locs ht1 hvm hw hB hz1 hk1 hS => ?_)
  try dsimp only at hw hB
  obtain ⟨hP1, hD1⟩ := hB
  rw [ht1] at hP1
  obtain ⟨hP, hD⟩ := va_join (wr := [(kp, .inl (G.2 0, 15642, .inl kf)), (cm, .inl (G.2 4, 60, .inl cmf)), (le, .inl (G.2 0, 16384, .inl lef)), (dn, .inl (G.2 0, 150, .inl dnf))]) (w1 := [(mo, .inr (12, .ref nw :: .ref kp :: m2 :: m3 :: m4 :: m5 :: m6 :: m7 :: m8 :: m9 :: .int 1 :: m11 :: m12 :: m13 :: .ref ti :: m15 :: m16 :: .ref cm :: .ref le :: m19 :: m20 :: m21 :: m22 :: m23 :: m24 :: m25 :: m26 :: m27 :: .ref dn :: mv)), (nw, .inl (G.2 0, 15642, .inl nf))]) hP hD [0, 1] [2, 3, 4, 5] rfl rfl (by decide) (by decide) hk1 hFc hP1 hD1
  generalize H1 = H at hP hS ⊢
  have hP : va_P G.1 vwCl ([(kp, .inl (G.2 0, 15642, .inl kf)), (cm, .inl (G.2 4, 60, .inl cmf)), (le, .inl (G.2 0, 16384, .inl lef)), (dn, .inl (G.2 0, 150, .inl dnf)), (mo, .inr (12, .ref nw :: .ref kp :: m2 :: m3 :: m4 :: m5 :: m6 :: m7 :: m8 :: m9 :: .int 1 :: m11 :: m12 :: m13 :: .ref ti :: m15 :: m16 :: .ref cm :: .ref le :: m19 :: m20 :: m21 :: m22 :: m23 :: m24 :: m25 :: m26 :: m27 :: .ref dn :: mv)), (nw, .inl (G.2 0, 15642, .inl nf))]) H := hP
  have hD : va_D A ([(kp, .inl (G.2 0, 15642, .inl kf)), (cm, .inl (G.2 4, 60, .inl cmf)), (le, .inl (G.2 0, 16384, .inl lef)), (dn, .inl (G.2 0, 150, .inl dnf)), (mo, .inr (12, .ref nw :: .ref kp :: m2 :: m3 :: m4 :: m5 :: m6 :: m7 :: m8 :: m9 :: .int 1 :: m11 :: m12 :: m13 :: .ref ti :: m15 :: m16 :: .ref cm :: .ref le :: m19 :: m20 :: m21 :: m22 :: m23 :: m24 :: m25 :: m26 :: m27 :: .ref dn :: mv)), (nw, .inl (G.2 0, 15642, .inl nf))]) := hD
  refine lv_aload_n hx hb dX12_round_4 rfl (lv_at hl 0 rfl) ?_
  refine lv_iconst (v := 0) hx hb dX12_round_5 (by decide) ?_
  refine va_put (D := G.1) (ci := 12) (v := .int 0) (ty := tyX12 19) (C := RX12) (T := TX12) (N := 32) hx hb ht inlX12 tyX12 tyX12_ok nmX12 hown hK.1 hP hD hS 4 rfl rfl 19 (by decide) (ht (Cond.fieldLink RX12 267 "PloughDepotModel" "joins" "I") mw_48_17) (fun _ h9 => h9) rfl (tyX12_ok 19 (by decide)) rfl rfl (by simp) dX12_round_6 (fun H locs hP hD hS => ?_)
  have hP : va_P G.1 vwCl ([(kp, .inl (G.2 0, 15642, .inl kf)), (cm, .inl (G.2 4, 60, .inl cmf)), (le, .inl (G.2 0, 16384, .inl lef)), (dn, .inl (G.2 0, 150, .inl dnf)), (mo, .inr (12, .ref nw :: .ref kp :: m2 :: m3 :: m4 :: m5 :: m6 :: m7 :: m8 :: m9 :: .int 1 :: m11 :: m12 :: m13 :: .ref ti :: m15 :: m16 :: .ref cm :: .ref le :: .int 0 :: m20 :: m21 :: m22 :: m23 :: m24 :: m25 :: m26 :: m27 :: .ref dn :: mv)), (nw, .inl (G.2 0, 15642, .inl nf))]) H := hP
  have hD : va_D A ([(kp, .inl (G.2 0, 15642, .inl kf)), (cm, .inl (G.2 4, 60, .inl cmf)), (le, .inl (G.2 0, 16384, .inl lef)), (dn, .inl (G.2 0, 150, .inl dnf)), (mo, .inr (12, .ref nw :: .ref kp :: m2 :: m3 :: m4 :: m5 :: m6 :: m7 :: m8 :: m9 :: .int 1 :: m11 :: m12 :: m13 :: .ref ti :: m15 :: m16 :: .ref cm :: .ref le :: .int 0 :: m20 :: m21 :: m22 :: m23 :: m24 :: m25 :: m26 :: m27 :: .ref dn :: mv)), (nw, .inl (G.2 0, 15642, .inl nf))]) := hD
  refine lv_aload_n hx hb dX12_round_9 rfl (lv_at hl 0 rfl) ?_
  refine lv_iconst (v := 0) hx hb dX12_round_10 (by decide) ?_
  refine va_put (D := G.1) (ci := 12) (v := .int 0) (ty := tyX12 20) (C := RX12) (T := TX12) (N := 32) hx hb ht inlX12 tyX12 tyX12_ok nmX12 hown hK.1 hP hD hS 4 rfl rfl 20 (by decide) (ht (Cond.fieldLink RX12 291 "PloughDepotModel" "exchanges" "I") mw_48_18) (fun _ h9 => h9) rfl (tyX12_ok 20 (by decide)) rfl rfl (by simp) dX12_round_11 (fun H locs hP hD hS => ?_)
  have hP : va_P G.1 vwCl ([(kp, .inl (G.2 0, 15642, .inl kf)), (cm, .inl (G.2 4, 60, .inl cmf)), (le, .inl (G.2 0, 16384, .inl lef)), (dn, .inl (G.2 0, 150, .inl dnf)), (mo, .inr (12, .ref nw :: .ref kp :: m2 :: m3 :: m4 :: m5 :: m6 :: m7 :: m8 :: m9 :: .int 1 :: m11 :: m12 :: m13 :: .ref ti :: m15 :: m16 :: .ref cm :: .ref le :: .int 0 :: .int 0 :: m21 :: m22 :: m23 :: m24 :: m25 :: m26 :: m27 :: .ref dn :: mv)), (nw, .inl (G.2 0, 15642, .inl nf))]) H := hP
  have hD : va_D A ([(kp, .inl (G.2 0, 15642, .inl kf)), (cm, .inl (G.2 4, 60, .inl cmf)), (le, .inl (G.2 0, 16384, .inl lef)), (dn, .inl (G.2 0, 150, .inl dnf)), (mo, .inr (12, .ref nw :: .ref kp :: m2 :: m3 :: m4 :: m5 :: m6 :: m7 :: m8 :: m9 :: .int 1 :: m11 :: m12 :: m13 :: .ref ti :: m15 :: m16 :: .ref cm :: .ref le :: .int 0 :: .int 0 :: m21 :: m22 :: m23 :: m24 :: m25 :: m26 :: m27 :: .ref dn :: mv)), (nw, .inl (G.2 0, 15642, .inl nf))]) := hD
  refine lv_aload_n hx hb dX12_round_14 rfl (lv_at hl 0 rfl) ?_
  refine lv_iconst (v := 0) hx hb dX12_round_15 (by decide) ?_
  refine va_put (D := G.1) (ci := 12) (v := .int 0) (ty := tyX12 21) (C := RX12) (T := TX12) (N := 32) hx hb ht inlX12 tyX12 tyX12_ok nmX12 hown hK.1 hP hD hS 4 rfl rfl 21 (by decide) (ht (Cond.fieldLink RX12 285 "PloughDepotModel" "pairs" "I") mw_48_19) (fun _ h9 => h9) rfl (tyX12_ok 21 (by decide)) rfl rfl (by simp) dX12_round_16 (fun H locs hP hD hS => ?_)
  have hP : va_P G.1 vwCl ([(kp, .inl (G.2 0, 15642, .inl kf)), (cm, .inl (G.2 4, 60, .inl cmf)), (le, .inl (G.2 0, 16384, .inl lef)), (dn, .inl (G.2 0, 150, .inl dnf)), (mo, .inr (12, .ref nw :: .ref kp :: m2 :: m3 :: m4 :: m5 :: m6 :: m7 :: m8 :: m9 :: .int 1 :: m11 :: m12 :: m13 :: .ref ti :: m15 :: m16 :: .ref cm :: .ref le :: .int 0 :: .int 0 :: .int 0 :: m22 :: m23 :: m24 :: m25 :: m26 :: m27 :: .ref dn :: mv)), (nw, .inl (G.2 0, 15642, .inl nf))]) H := hP
  have hD : va_D A ([(kp, .inl (G.2 0, 15642, .inl kf)), (cm, .inl (G.2 4, 60, .inl cmf)), (le, .inl (G.2 0, 16384, .inl lef)), (dn, .inl (G.2 0, 150, .inl dnf)), (mo, .inr (12, .ref nw :: .ref kp :: m2 :: m3 :: m4 :: m5 :: m6 :: m7 :: m8 :: m9 :: .int 1 :: m11 :: m12 :: m13 :: .ref ti :: m15 :: m16 :: .ref cm :: .ref le :: .int 0 :: .int 0 :: .int 0 :: m22 :: m23 :: m24 :: m25 :: m26 :: m27 :: .ref dn :: mv)), (nw, .inl (G.2 0, 15642, .inl nf))]) := hD
  refine lv_aload_n hx hb dX12_round_19 rfl (lv_at hl 0 rfl) ?_
  refine lv_iconst (v := 0) hx hb dX12_round_20 (by decide) ?_
  refine va_put (D := G.1) (ci := 12) (v := .int 0) (ty := tyX12 24) (C := RX12) (T := TX12) (N := 32) hx hb ht inlX12 tyX12 tyX12_ok nmX12 hown hK.1 hP hD hS 4 rfl rfl 24 (by decide) (ht (Cond.fieldLink RX12 297 "PloughDepotModel" "drives" "I") mw_48_20) (fun _ h9 => h9) rfl (tyX12_ok 24 (by decide)) rfl rfl (by simp) dX12_round_21 (fun H locs hP hD hS => ?_)
  have hP : va_P G.1 vwCl ([(kp, .inl (G.2 0, 15642, .inl kf)), (cm, .inl (G.2 4, 60, .inl cmf)), (le, .inl (G.2 0, 16384, .inl lef)), (dn, .inl (G.2 0, 150, .inl dnf)), (mo, .inr (12, .ref nw :: .ref kp :: m2 :: m3 :: m4 :: m5 :: m6 :: m7 :: m8 :: m9 :: .int 1 :: m11 :: m12 :: m13 :: .ref ti :: m15 :: m16 :: .ref cm :: .ref le :: .int 0 :: .int 0 :: .int 0 :: m22 :: m23 :: .int 0 :: m25 :: m26 :: m27 :: .ref dn :: mv)), (nw, .inl (G.2 0, 15642, .inl nf))]) H := hP
  have hD : va_D A ([(kp, .inl (G.2 0, 15642, .inl kf)), (cm, .inl (G.2 4, 60, .inl cmf)), (le, .inl (G.2 0, 16384, .inl lef)), (dn, .inl (G.2 0, 150, .inl dnf)), (mo, .inr (12, .ref nw :: .ref kp :: m2 :: m3 :: m4 :: m5 :: m6 :: m7 :: m8 :: m9 :: .int 1 :: m11 :: m12 :: m13 :: .ref ti :: m15 :: m16 :: .ref cm :: .ref le :: .int 0 :: .int 0 :: .int 0 :: m22 :: m23 :: .int 0 :: m25 :: m26 :: m27 :: .ref dn :: mv)), (nw, .inl (G.2 0, 15642, .inl nf))]) := hD
  refine lv_iconst (v := 0) hx hb dX12_round_24 (by decide) ?_
  refine lv_istore_n (lv' := [(1, .int 0), (0, .ref mo)]) hx hb dX12_round_25 rfl hl (by decide) rfl (fun ls hl => ?_)
  have lp_1 : ∀ (Q : State → Prop), (∀ (fdn_1 : Nat → Int32) (H : Heap) (locs : List Loc) (ls : Array Slot), va_P G.1 vwCl ([(kp, .inl (G.2 0, 15642, .inl kf)), (cm, .inl (G.2 4, 60, .inl cmf)), (le, .inl (G.2 0, 16384, .inl lef)), (dn, .inl (G.2 0, 150, .inl fdn_1)), (mo, .inr (12, .ref nw :: .ref kp :: m2 :: m3 :: m4 :: m5 :: m6 :: m7 :: m8 :: m9 :: .int 1 :: m11 :: m12 :: m13 :: .ref ti :: m15 :: m16 :: .ref cm :: .ref le :: .int 0 :: .int 0 :: .int 0 :: m22 :: m23 :: .int 0 :: m25 :: m26 :: m27 :: .ref dn :: mv)), (nw, .inl (G.2 0, 15642, .inl nf))]) H → va_D A ([(kp, .inl (G.2 0, 15642, .inl kf)), (cm, .inl (G.2 4, 60, .inl cmf)), (le, .inl (G.2 0, 16384, .inl lef)), (dn, .inl (G.2 0, 150, .inl fdn_1)), (mo, .inr (12, .ref nw :: .ref kp :: m2 :: m3 :: m4 :: m5 :: m6 :: m7 :: m8 :: m9 :: .int 1 :: m11 :: m12 :: m13 :: .ref ti :: m15 :: m16 :: .ref cm :: .ref le :: .int 0 :: .int 0 :: .int 0 :: m22 :: m23 :: .int 0 :: m25 :: m26 :: m27 :: .ref dn :: mv)), (nw, .inl (G.2 0, 15642, .inl nf))]) → va_S A s.heap H locs → lv_has ls 4 [(0, .ref mo)] → W p l e (headSpec (.code yX12_round cX12_round 4 (some .int) :: TT) ({ frames := 4, cells := 0, slots := 0, locals := 400 } : Room)).room s m [.ref mo].toArray below meth c H locs 0 0 Q (F0 m 46 ls [])) → ∀ (n i : Nat) (x9 : Int32) (fdn_1 : Nat → Int32) (H : Heap) (locs : List Loc) (ls : Array Slot), i ≤ 150 → 151 ≤ i + n → x9 = nI i → va_P G.1 vwCl ([(kp, .inl (G.2 0, 15642, .inl kf)), (cm, .inl (G.2 4, 60, .inl cmf)), (le, .inl (G.2 0, 16384, .inl lef)), (dn, .inl (G.2 0, 150, .inl fdn_1)), (mo, .inr (12, .ref nw :: .ref kp :: m2 :: m3 :: m4 :: m5 :: m6 :: m7 :: m8 :: m9 :: .int 1 :: m11 :: m12 :: m13 :: .ref ti :: m15 :: m16 :: .ref cm :: .ref le :: .int 0 :: .int 0 :: .int 0 :: m22 :: m23 :: .int 0 :: m25 :: m26 :: m27 :: .ref dn :: mv)), (nw, .inl (G.2 0, 15642, .inl nf))]) H → va_D A ([(kp, .inl (G.2 0, 15642, .inl kf)), (cm, .inl (G.2 4, 60, .inl cmf)), (le, .inl (G.2 0, 16384, .inl lef)), (dn, .inl (G.2 0, 150, .inl fdn_1)), (mo, .inr (12, .ref nw :: .ref kp :: m2 :: m3 :: m4 :: m5 :: m6 :: m7 :: m8 :: m9 :: .int 1 :: m11 :: m12 :: m13 :: .ref ti :: m15 :: m16 :: .ref cm :: .ref le :: .int 0 :: .int 0 :: .int 0 :: m22 :: m23 :: .int 0 :: m25 :: m26 :: m27 :: .ref dn :: mv)), (nw, .inl (G.2 0, 15642, .inl nf))]) → va_S A s.heap H locs → lv_has ls 4 [(1, .int x9), (0, .ref mo)] → W p l e (headSpec (.code yX12_round cX12_round 4 (some .int) :: TT) ({ frames := 4, cells := 0, slots := 0, locals := 400 } : Room)).room s m [.ref mo].toArray below meth c H locs 0 0 Q (F0 m 26 ls []) := by
    intro Q hex n
    induction n with
    | zero =>
      intro i x9 fdn_1 H locs ls h1 h2
      exact absurd h2 (by omega)
    | succ n ih =>
      intro i x9 fdn_1 H locs ls hi hin9 ex9 hP hD hS hl
      refine lv_iload_n hx hb dX12_round_26 rfl (lv_at hl 0 rfl) ?_
      refine lv_sipush (v := 150) hx hb dX12_round_27 (by decide) ?_
      refine lv_icmp_ge (tgt := 46) hx hb dX12_round_30 (by decide) (fun c9 => ?_) (fun c9 => ?_)
      · have hiN : i = 150 := by
          rcases Nat.lt_or_ge i 150 with q | q
          · exact absurd c9 (by rw [ex9]; exact nI_ge q (by first | decide | omega))
          · omega
        exact hex fdn_1 H locs ls hP hD hS (lv_sub hl [1] rfl)
      · have hlt : i < 150 := by
          rcases Nat.lt_or_ge i 150 with q | q
          · exact q
          · exact absurd (by rw [ex9]; exact nI_le q (by omega)) c9
        have hin_dn : vp_in x9 150 := by rw [ex9]; exact vp_in_nI (by omega) (by first | decide | omega)
        have hx0 : (0 : Int32) ≤ x9 := by rw [ex9]; exact nI_pos' (by omega)
        refine lv_aload_n hx hb dX12_round_33 rfl (lv_at hl 1 rfl) ?_
        refine va_get (D := G.1) (ci := 12) (v := .ref dn) (C := RX12) (T := TX12) (N := 32) hx hb ht inlX12 hown hK.1 hP 4 rfl rfl 28 (by decide) (ht (Cond.fieldLink RX12 64 "PloughDepotModel" "done" "[I") mw_7_13) (fun _ h9 => h9) rfl dX12_round_34 ?_
        refine lv_iload_n hx hb dX12_round_37 rfl (lv_at hl 0 rfl) ?_
        refine lv_iconst (v := 0) hx hb dX12_round_38 (by decide) ?_
        refine va_iast hx hb hK.1 hP hD hS 3 0 rfl rfl hin_dn dX12_round_39 (fun H locs hP hD hS => ?_)
        have hP : va_P G.1 vwCl ([(kp, .inl (G.2 0, 15642, .inl kf)), (cm, .inl (G.2 4, 60, .inl cmf)), (le, .inl (G.2 0, 16384, .inl lef)), (dn, .inl (G.2 0, 150, .inl (upd fdn_1 (x9 : Int32).toNatClampNeg 0))), (mo, .inr (12, .ref nw :: .ref kp :: m2 :: m3 :: m4 :: m5 :: m6 :: m7 :: m8 :: m9 :: .int 1 :: m11 :: m12 :: m13 :: .ref ti :: m15 :: m16 :: .ref cm :: .ref le :: .int 0 :: .int 0 :: .int 0 :: m22 :: m23 :: .int 0 :: m25 :: m26 :: m27 :: .ref dn :: mv)), (nw, .inl (G.2 0, 15642, .inl nf))]) H := hP
        have hD : va_D A ([(kp, .inl (G.2 0, 15642, .inl kf)), (cm, .inl (G.2 4, 60, .inl cmf)), (le, .inl (G.2 0, 16384, .inl lef)), (dn, .inl (G.2 0, 150, .inl (upd fdn_1 (x9 : Int32).toNatClampNeg 0))), (mo, .inr (12, .ref nw :: .ref kp :: m2 :: m3 :: m4 :: m5 :: m6 :: m7 :: m8 :: m9 :: .int 1 :: m11 :: m12 :: m13 :: .ref ti :: m15 :: m16 :: .ref cm :: .ref le :: .int 0 :: .int 0 :: .int 0 :: m22 :: m23 :: .int 0 :: m25 :: m26 :: m27 :: .ref dn :: mv)), (nw, .inl (G.2 0, 15642, .inl nf))]) := hD
        generalize upd fdn_1 (x9 : Int32).toNatClampNeg 0 = f_2 at hP hD
        obtain ⟨v_3, ev_3⟩ : ∃ y : Int32, y = x9 + 1 := ⟨_, rfl⟩
        refine lv_iinc (v := v_3) (lv' := [(1, .int v_3), (0, .ref mo)]) hx hb dX12_round_40 hl (k := 0) rfl (by rw [ev_3]; rfl) (by decide) rfl (fun ls hl => ?_)
        refine lv_goto (tgt := 26) hx hb dX12_round_43 (by decide) ?_
        exact ih (i + 1) _ f_2 _ _ _ (by omega) (by omega) (by rw [ev_3, ex9]; exact nI_1 i) hP hD hS (lv_sub hl [0, 1] rfl)
  refine lp_1 _ ?_ (151) 0 0 dnf _ _ _ (by omega) (by omega) nI_0.symm hP hD hS (lv_sub hl [0, 1] rfl)
  intro fdn_1 H locs ls hP hD hS hl
  refine lv_aload_n hx hb dX12_round_46 rfl (lv_at hl 0 rfl) ?_
  have hPc := hP.sub (ws' := [(mo, .inr (12, .ref nw :: .ref kp :: m2 :: m3 :: m4 :: m5 :: m6 :: m7 :: m8 :: m9 :: .int 1 :: m11 :: m12 :: m13 :: .ref ti :: m15 :: m16 :: .ref cm :: .ref le :: .int 0 :: .int 0 :: .int 0 :: m22 :: m23 :: .int 0 :: m25 :: m26 :: m27 :: .ref dn :: mv)), (nw, .inl (G.2 0, 15642, .inl nf))]) [4, 5] rfl
  have hDc := hD.sub (ws' := [(mo, .inr (12, .ref nw :: .ref kp :: m2 :: m3 :: m4 :: m5 :: m6 :: m7 :: m8 :: m9 :: .int 1 :: m11 :: m12 :: m13 :: .ref ti :: m15 :: m16 :: .ref cm :: .ref le :: .int 0 :: .int 0 :: .int 0 :: m22 :: m23 :: .int 0 :: m25 :: m26 :: m27 :: .ref dn :: mv)), (nw, .inl (G.2 0, 15642, .inl nf))]) [4, 5] (by decide) rfl
  have hFc := va_free (wc := [(mo, .inr (12, .ref nw :: .ref kp :: m2 :: m3 :: m4 :: m5 :: m6 :: m7 :: m8 :: m9 :: .int 1 :: m11 :: m12 :: m13 :: .ref ti :: m15 :: m16 :: .ref cm :: .ref le :: .int 0 :: .int 0 :: .int 0 :: m22 :: m23 :: .int 0 :: m25 :: m26 :: m27 :: .ref dn :: mv)), (nw, .inl (G.2 0, 15642, .inl nf))]) hD hS hA [4, 5] rfl
  refine va_calli (va_runV (As := []) (rest := []) ⟨hx, hb, hml, hown, hts⟩ (r_isOneWay l G _ mo nw (.ref kp :: m2 :: m3 :: m4 :: m5 :: m6 :: m7 :: m8 :: m9 :: .int 1 :: m11 :: m12 :: m13 :: .ref ti :: m15 :: m16 :: .ref cm :: .ref le :: .int 0 :: .int 0 :: .int 0 :: m22 :: m23 :: .int 0 :: m25 :: m26 :: m27 :: .ref dn :: mv) nf (by first | assumption | decide)) (cwV 0 hts (gd_V mw_42_8 mw_42_9 mw_42_10 mw_1_5 mw_42_11) rfl rfl rfl ⟨rfl, yk_X12_isOneWay⟩ ⟨Nat.le_of_ble_eq_true rfl, Nat.le_of_ble_eq_true rfl⟩) (c0_preV (q0 := 0) (ci := 12) (q := (RX12, TX12, 32)) hPc hK hDc rfl rfl) rfl rfl hl.1 rfl (lv_room (Nat.le_of_ble_eq_true rfl)) dX12_round_47 ⟨Nat.le_of_ble_eq_true rfl, Nat.le_of_ble_eq_true rfl⟩) hS (fun q _ h => hFc q h) hFc (fun r_4 u t H1 locs ht1 hvm hw hB hz1 hk1 hS => ?_)
  try dsimp only at hw hB
  have hr4 := hw
  obtain rfl := hr4.symm
  obtain ⟨hP1, hD1⟩ := hB
  rw [ht1] at hP1
  obtain ⟨hP, hD⟩ := va_join (wr := [(kp, .inl (G.2 0, 15642, .inl kf)), (cm, .inl (G.2 4, 60, .inl cmf)), (le, .inl (G.2 0, 16384, .inl lef)), (dn, .inl (G.2 0, 150, .inl fdn_1))]) (w1 := [(mo, .inr (12, .ref nw :: .ref kp :: m2 :: m3 :: m4 :: m5 :: m6 :: m7 :: m8 :: m9 :: .int 1 :: m11 :: m12 :: m13 :: .ref ti :: m15 :: m16 :: .ref cm :: .ref le :: .int 0 :: .int 0 :: .int 0 :: m22 :: m23 :: .int 0 :: m25 :: m26 :: m27 :: .ref dn :: mv)), (nw, .inl (G.2 0, 15642, .inl nf))]) hP hD [4, 5] [0, 1, 2, 3] rfl rfl (by decide) (by decide) hk1 hFc hP1 hD1
  generalize H1 = H at hP hS ⊢
  have hP : va_P G.1 vwCl ([(kp, .inl (G.2 0, 15642, .inl kf)), (cm, .inl (G.2 4, 60, .inl cmf)), (le, .inl (G.2 0, 16384, .inl lef)), (dn, .inl (G.2 0, 150, .inl fdn_1)), (mo, .inr (12, .ref nw :: .ref kp :: m2 :: m3 :: m4 :: m5 :: m6 :: m7 :: m8 :: m9 :: .int 1 :: m11 :: m12 :: m13 :: .ref ti :: m15 :: m16 :: .ref cm :: .ref le :: .int 0 :: .int 0 :: .int 0 :: m22 :: m23 :: .int 0 :: m25 :: m26 :: m27 :: .ref dn :: mv)), (nw, .inl (G.2 0, 15642, .inl nf))]) H := hP
  have hD : va_D A ([(kp, .inl (G.2 0, 15642, .inl kf)), (cm, .inl (G.2 4, 60, .inl cmf)), (le, .inl (G.2 0, 16384, .inl lef)), (dn, .inl (G.2 0, 150, .inl fdn_1)), (mo, .inr (12, .ref nw :: .ref kp :: m2 :: m3 :: m4 :: m5 :: m6 :: m7 :: m8 :: m9 :: .int 1 :: m11 :: m12 :: m13 :: .ref ti :: m15 :: m16 :: .ref cm :: .ref le :: .int 0 :: .int 0 :: .int 0 :: m22 :: m23 :: .int 0 :: m25 :: m26 :: m27 :: .ref dn :: mv)), (nw, .inl (G.2 0, 15642, .inl nf))]) := hD
  refine lv_istore_n (lv' := [(1, .int 0), (0, .ref mo)]) hx hb dX12_round_50 rfl hl (by decide) rfl (fun ls hl => ?_)
  refine lv_iload_n hx hb dX12_round_51 rfl (lv_at hl 0 rfl) ?_
  refine lv_if_eq (tgt := 62) hx hb dX12_round_52 (by decide) (fun c_5 => ?_) (fun c_5 => ?_)
  · refine lv_aload_n hx hb dX12_round_62 rfl (lv_at hl 1 rfl) ?_
    have hPc := hP.sub (ws' := [(mo, .inr (12, .ref nw :: .ref kp :: m2 :: m3 :: m4 :: m5 :: m6 :: m7 :: m8 :: m9 :: .int 1 :: m11 :: m12 :: m13 :: .ref ti :: m15 :: m16 :: .ref cm :: .ref le :: .int 0 :: .int 0 :: .int 0 :: m22 :: m23 :: .int 0 :: m25 :: m26 :: m27 :: .ref dn :: mv)), (nw, .inl (G.2 0, 15642, .inl nf)), (cm, .inl (G.2 4, 60, .inl cmf)), (le, .inl (G.2 0, 16384, .inl lef))]) [4, 5, 1, 2] rfl
    have hDc := hD.sub (ws' := [(mo, .inr (12, .ref nw :: .ref kp :: m2 :: m3 :: m4 :: m5 :: m6 :: m7 :: m8 :: m9 :: .int 1 :: m11 :: m12 :: m13 :: .ref ti :: m15 :: m16 :: .ref cm :: .ref le :: .int 0 :: .int 0 :: .int 0 :: m22 :: m23 :: .int 0 :: m25 :: m26 :: m27 :: .ref dn :: mv)), (nw, .inl (G.2 0, 15642, .inl nf)), (cm, .inl (G.2 4, 60, .inl cmf)), (le, .inl (G.2 0, 16384, .inl lef))]) [4, 5, 1, 2] (by decide) rfl
    have hFc := va_free (wc := [(mo, .inr (12, .ref nw :: .ref kp :: m2 :: m3 :: m4 :: m5 :: m6 :: m7 :: m8 :: m9 :: .int 1 :: m11 :: m12 :: m13 :: .ref ti :: m15 :: m16 :: .ref cm :: .ref le :: .int 0 :: .int 0 :: .int 0 :: m22 :: m23 :: .int 0 :: m25 :: m26 :: m27 :: .ref dn :: mv)), (nw, .inl (G.2 0, 15642, .inl nf)), (cm, .inl (G.2 4, 60, .inl cmf)), (le, .inl (G.2 0, 16384, .inl lef))]) hD hS hA [4, 5, 1, 2] rfl
    refine va_calli (va_runV (As := []) (rest := []) ⟨hx, hb, hml, hown, hts⟩ (r_roundByPairs l G _ mo nw (.ref kp) m2 m3 m4 m5 m6 m7 m8 m9 (.int 1) m11 m12 m13 ti m15 m16 cm le (.int 0) (.int 0) (m22 :: m23 :: .int 0 :: m25 :: m26 :: m27 :: .ref dn :: mv) nf cmf lef (by first | assumption | decide)) (cwV 0 hts (gd_V mw_49_9 mw_49_10 mw_49_11 mw_1_5 mw_49_12) rfl rfl rfl ⟨rfl, yk_X12_roundByPairs⟩ ⟨Nat.le_of_ble_eq_true rfl, Nat.le_of_ble_eq_true rfl⟩) (c0_preV (q0 := 0) (ci := 12) (q := (RX12, TX12, 32)) hPc hK hDc rfl rfl) rfl rfl hl.1 rfl (lv_room (Nat.le_of_ble_eq_true rfl)) dX12_round_63 ⟨Nat.le_of_ble_eq_true rfl, Nat.le_of_ble_eq_true rfl⟩) hS (fun q _ h => hFc q h) hFc (fun r_6 u t H1 locs ht1 hvm hw hB hz1 hk1 hS => ?_)
    obtain ⟨cmf2_7, lef2_8⟩ := u
    try dsimp only at hw hB
    have hr8 := hw
    obtain rfl := hr8.symm
    obtain ⟨hP1, hD1⟩ := hB
    rw [ht1] at hP1
    obtain ⟨hP, hD⟩ := va_join (wr := [(kp, .inl (G.2 0, 15642, .inl kf)), (dn, .inl (G.2 0, 150, .inl fdn_1))]) (w1 := [(mo, .inr (12, .ref nw :: .ref kp :: m2 :: m3 :: m4 :: m5 :: m6 :: m7 :: m8 :: m9 :: .int 1 :: m11 :: m12 :: m13 :: .ref ti :: m15 :: .int 0 :: .ref cm :: .ref le :: .int 0 :: .int 0 :: .int 0 :: m22 :: m23 :: .int 0 :: m25 :: m26 :: m27 :: .ref dn :: mv)), (nw, .inl (G.2 0, 15642, .inl nf)), (cm, .inl (G.2 4, 60, .inl cmf2_7)), (le, .inl (G.2 0, 16384, .inl lef2_8))]) hP hD [4, 5, 1, 2] [0, 3] rfl rfl (by decide) (by decide) hk1 hFc hP1 hD1
    generalize H1 = H at hP hS ⊢
    have hP : va_P G.1 vwCl ([(kp, .inl (G.2 0, 15642, .inl kf)), (dn, .inl (G.2 0, 150, .inl fdn_1)), (mo, .inr (12, .ref nw :: .ref kp :: m2 :: m3 :: m4 :: m5 :: m6 :: m7 :: m8 :: m9 :: .int 1 :: m11 :: m12 :: m13 :: .ref ti :: m15 :: .int 0 :: .ref cm :: .ref le :: .int 0 :: .int 0 :: .int 0 :: m22 :: m23 :: .int 0 :: m25 :: m26 :: m27 :: .ref dn :: mv)), (nw, .inl (G.2 0, 15642, .inl nf)), (cm, .inl (G.2 4, 60, .inl cmf2_7)), (le, .inl (G.2 0, 16384, .inl lef2_8))]) H := hP
    have hD : va_D A ([(kp, .inl (G.2 0, 15642, .inl kf)), (dn, .inl (G.2 0, 150, .inl fdn_1)), (mo, .inr (12, .ref nw :: .ref kp :: m2 :: m3 :: m4 :: m5 :: m6 :: m7 :: m8 :: m9 :: .int 1 :: m11 :: m12 :: m13 :: .ref ti :: m15 :: .int 0 :: .ref cm :: .ref le :: .int 0 :: .int 0 :: .int 0 :: m22 :: m23 :: .int 0 :: m25 :: m26 :: m27 :: .ref dn :: mv)), (nw, .inl (G.2 0, 15642, .inl nf)), (cm, .inl (G.2 4, 60, .inl cmf2_7)), (le, .inl (G.2 0, 16384, .inl lef2_8))]) := hD
    refine lv_istore_n (lv' := [(2, .int 0), (1, .int 0), (0, .ref mo)]) hx hb dX12_round_66 rfl hl (by decide) rfl (fun ls hl => ?_)
    refine lv_iload_n hx hb dX12_round_67 rfl (lv_at hl 0 rfl) ?_
    refine lv_if_eq (tgt := 77) hx hb dX12_round_68 (by decide) (fun c_9 => ?_) (fun c_9 => ?_)
    · refine lv_aload_n hx hb dX12_round_77 rfl (lv_at hl 2 rfl) ?_
      have hPc := hP.sub (ws' := [(mo, .inr (12, .ref nw :: .ref kp :: m2 :: m3 :: m4 :: m5 :: m6 :: m7 :: m8 :: m9 :: .int 1 :: m11 :: m12 :: m13 :: .ref ti :: m15 :: .int 0 :: .ref cm :: .ref le :: .int 0 :: .int 0 :: .int 0 :: m22 :: m23 :: .int 0 :: m25 :: m26 :: m27 :: .ref dn :: mv)), (nw, .inl (G.2 0, 15642, .inl nf)), (kp, .inl (G.2 0, 15642, .inl kf))]) [2, 3, 0] rfl
      have hDc := hD.sub (ws' := [(mo, .inr (12, .ref nw :: .ref kp :: m2 :: m3 :: m4 :: m5 :: m6 :: m7 :: m8 :: m9 :: .int 1 :: m11 :: m12 :: m13 :: .ref ti :: m15 :: .int 0 :: .ref cm :: .ref le :: .int 0 :: .int 0 :: .int 0 :: m22 :: m23 :: .int 0 :: m25 :: m26 :: m27 :: .ref dn :: mv)), (nw, .inl (G.2 0, 15642, .inl nf)), (kp, .inl (G.2 0, 15642, .inl kf))]) [2, 3, 0] (by decide) rfl
      have hFc := va_free (wc := [(mo, .inr (12, .ref nw :: .ref kp :: m2 :: m3 :: m4 :: m5 :: m6 :: m7 :: m8 :: m9 :: .int 1 :: m11 :: m12 :: m13 :: .ref ti :: m15 :: .int 0 :: .ref cm :: .ref le :: .int 0 :: .int 0 :: .int 0 :: m22 :: m23 :: .int 0 :: m25 :: m26 :: m27 :: .ref dn :: mv)), (nw, .inl (G.2 0, 15642, .inl nf)), (kp, .inl (G.2 0, 15642, .inl kf))]) hD hS hA [2, 3, 0] rfl
      refine va_callv (va_runV (As := []) (rest := []) ⟨hx, hb, hml, hown, hts⟩ (r_keeps l G _ mo nw kp m2 (m3 :: m4 :: m5 :: m6 :: m7 :: m8 :: m9 :: .int 1 :: m11 :: m12 :: m13 :: .ref ti :: m15 :: .int 0 :: .ref cm :: .ref le :: .int 0 :: .int 0 :: .int 0 :: m22 :: m23 :: .int 0 :: m25 :: m26 :: m27 :: .ref dn :: mv) nf kf ) (cwV 0 hts (gd_V mw_11_23 mw_12_0 mw_12_1 mw_1_5 mw_12_2) rfl rfl rfl ⟨rfl, yk_X12_keeps⟩ ⟨Nat.le_of_ble_eq_true rfl, Nat.le_of_ble_eq_true rfl⟩) (c0_preV (q0 := 0) (ci := 12) (q := (RX12, TX12, 32)) hPc hK hDc rfl rfl) rfl rfl hl.1 rfl (lv_room (Nat.le_of_ble_eq_true rfl)) dX12_round_78 ⟨Nat.le_of_ble_eq_true rfl, Nat.le_of_ble_eq_true rfl⟩) hS (fun q _ h => hFc q h) hFc (fun u t H1 locs ht1 hvm hw hB hz1 hk1 hS => ?_)
      obtain ⟨kf2_10, rfl⟩ : ∃ z, z = u := ⟨_, rfl⟩
      try dsimp only at hw hB
      obtain ⟨hP1, hD1⟩ := hB
      rw [ht1] at hP1
      obtain ⟨hP, hD⟩ := va_join (wr := [(dn, .inl (G.2 0, 150, .inl fdn_1)), (cm, .inl (G.2 4, 60, .inl cmf2_7)), (le, .inl (G.2 0, 16384, .inl lef2_8))]) (w1 := [(mo, .inr (12, .ref nw :: .ref kp :: .int 1 :: m3 :: m4 :: m5 :: m6 :: m7 :: m8 :: m9 :: .int 1 :: m11 :: m12 :: m13 :: .ref ti :: m15 :: .int 0 :: .ref cm :: .ref le :: .int 0 :: .int 0 :: .int 0 :: m22 :: m23 :: .int 0 :: m25 :: m26 :: m27 :: .ref dn :: mv)), (nw, .inl (G.2 0, 15642, .inl nf)), (kp, .inl (G.2 0, 15642, .inl kf2_10))]) hP hD [2, 3, 0] [1, 4, 5] rfl rfl (by decide) (by decide) hk1 hFc hP1 hD1
      generalize H1 = H at hP hS ⊢
      have hP : va_P G.1 vwCl ([(dn, .inl (G.2 0, 150, .inl fdn_1)), (cm, .inl (G.2 4, 60, .inl cmf2_7)), (le, .inl (G.2 0, 16384, .inl lef2_8)), (mo, .inr (12, .ref nw :: .ref kp :: .int 1 :: m3 :: m4 :: m5 :: m6 :: m7 :: m8 :: m9 :: .int 1 :: m11 :: m12 :: m13 :: .ref ti :: m15 :: .int 0 :: .ref cm :: .ref le :: .int 0 :: .int 0 :: .int 0 :: m22 :: m23 :: .int 0 :: m25 :: m26 :: m27 :: .ref dn :: mv)), (nw, .inl (G.2 0, 15642, .inl nf)), (kp, .inl (G.2 0, 15642, .inl kf2_10))]) H := hP
      have hD : va_D A ([(dn, .inl (G.2 0, 150, .inl fdn_1)), (cm, .inl (G.2 4, 60, .inl cmf2_7)), (le, .inl (G.2 0, 16384, .inl lef2_8)), (mo, .inr (12, .ref nw :: .ref kp :: .int 1 :: m3 :: m4 :: m5 :: m6 :: m7 :: m8 :: m9 :: .int 1 :: m11 :: m12 :: m13 :: .ref ti :: m15 :: .int 0 :: .ref cm :: .ref le :: .int 0 :: .int 0 :: .int 0 :: m22 :: m23 :: .int 0 :: m25 :: m26 :: m27 :: .ref dn :: mv)), (nw, .inl (G.2 0, 15642, .inl nf)), (kp, .inl (G.2 0, 15642, .inl kf2_10))]) := hD
      refine lv_aload_n hx hb dX12_round_81 rfl (lv_at hl 2 rfl) ?_
      refine va_get (D := G.1) (ci := 12) (v := .ref nw) (C := RX12) (T := TX12) (N := 32) hx hb ht inlX12 hown hK.1 hP 3 rfl rfl 0 (by decide) (ht (Cond.fieldLink RX12 7 "PloughDepotModel" "now" "[I") mw_6_19) (fun _ h9 => h9) rfl dX12_round_82 ?_
      refine lv_iconst (v := 4) hx hb dX12_round_85 (by decide) ?_
      refine lv_aload_n hx hb dX12_round_86 rfl (lv_at hl 2 rfl) ?_
      refine va_get (D := G.1) (ci := 12) (v := .int 0) (C := RX12) (T := TX12) (N := 32) hx hb ht inlX12 hown hK.1 hP 3 rfl rfl 24 (by decide) (ht (Cond.fieldLink RX12 297 "PloughDepotModel" "drives" "I") mw_48_20) (fun _ h9 => h9) rfl dX12_round_87 ?_
      refine va_iast hx hb hK.1 hP hD hS 4 0 rfl rfl (show ¬ ((4 : Int32) < 0 ∨ 15642 ≤ (4 : Int32).toNatClampNeg) by decide) dX12_round_90 (fun H locs hP hD hS => ?_)
      have hP : va_P G.1 vwCl ([(dn, .inl (G.2 0, 150, .inl fdn_1)), (cm, .inl (G.2 4, 60, .inl cmf2_7)), (le, .inl (G.2 0, 16384, .inl lef2_8)), (mo, .inr (12, .ref nw :: .ref kp :: .int 1 :: m3 :: m4 :: m5 :: m6 :: m7 :: m8 :: m9 :: .int 1 :: m11 :: m12 :: m13 :: .ref ti :: m15 :: .int 0 :: .ref cm :: .ref le :: .int 0 :: .int 0 :: .int 0 :: m22 :: m23 :: .int 0 :: m25 :: m26 :: m27 :: .ref dn :: mv)), (nw, .inl (G.2 0, 15642, .inl (upd nf (4 : Int32).toNatClampNeg 0))), (kp, .inl (G.2 0, 15642, .inl kf2_10))]) H := hP
      have hD : va_D A ([(dn, .inl (G.2 0, 150, .inl fdn_1)), (cm, .inl (G.2 4, 60, .inl cmf2_7)), (le, .inl (G.2 0, 16384, .inl lef2_8)), (mo, .inr (12, .ref nw :: .ref kp :: .int 1 :: m3 :: m4 :: m5 :: m6 :: m7 :: m8 :: m9 :: .int 1 :: m11 :: m12 :: m13 :: .ref ti :: m15 :: .int 0 :: .ref cm :: .ref le :: .int 0 :: .int 0 :: .int 0 :: m22 :: m23 :: .int 0 :: m25 :: m26 :: m27 :: .ref dn :: mv)), (nw, .inl (G.2 0, 15642, .inl (upd nf (4 : Int32).toNatClampNeg 0))), (kp, .inl (G.2 0, 15642, .inl kf2_10))]) := hD
      have hz3 : nf 3 = 0 := hz 3 (by decide)
      have hz3 : (upd nf (4 : Int32).toNatClampNeg 0) 3 = 0 := (pk_un (by decide)).trans hz3
      generalize upd nf (4 : Int32).toNatClampNeg 0 = f_11 at hP hD hz3
      refine lv_aload_n hx hb dX12_round_91 rfl (lv_at hl 2 rfl) ?_
      refine va_get (D := G.1) (ci := 12) (v := .ref nw) (C := RX12) (T := TX12) (N := 32) hx hb ht inlX12 hown hK.1 hP 3 rfl rfl 0 (by decide) (ht (Cond.fieldLink RX12 7 "PloughDepotModel" "now" "[I") mw_6_19) (fun _ h9 => h9) rfl dX12_round_92 ?_
      refine lv_iconst (v := 5) hx hb dX12_round_95 (by decide) ?_
      refine lv_iload_n hx hb dX12_round_96 rfl (lv_at hl 1 rfl) ?_
      refine lv_if_eq (tgt := 104) hx hb dX12_round_97 (by decide) (fun c_12 => ?_) (fun c_12 => ?_)
      · refine lv_iconst (v := 1) hx hb dX12_round_104 (by decide) ?_
        refine va_iast hx hb hK.1 hP hD hS 4 0 rfl rfl (show ¬ ((5 : Int32) < 0 ∨ 15642 ≤ (5 : Int32).toNatClampNeg) by decide) dX12_round_105 (fun H locs hP hD hS => ?_)
        have hP : va_P G.1 vwCl ([(dn, .inl (G.2 0, 150, .inl fdn_1)), (cm, .inl (G.2 4, 60, .inl cmf2_7)), (le, .inl (G.2 0, 16384, .inl lef2_8)), (mo, .inr (12, .ref nw :: .ref kp :: .int 1 :: m3 :: m4 :: m5 :: m6 :: m7 :: m8 :: m9 :: .int 1 :: m11 :: m12 :: m13 :: .ref ti :: m15 :: .int 0 :: .ref cm :: .ref le :: .int 0 :: .int 0 :: .int 0 :: m22 :: m23 :: .int 0 :: m25 :: m26 :: m27 :: .ref dn :: mv)), (nw, .inl (G.2 0, 15642, .inl (upd f_11 (5 : Int32).toNatClampNeg 1))), (kp, .inl (G.2 0, 15642, .inl kf2_10))]) H := hP
        have hD : va_D A ([(dn, .inl (G.2 0, 150, .inl fdn_1)), (cm, .inl (G.2 4, 60, .inl cmf2_7)), (le, .inl (G.2 0, 16384, .inl lef2_8)), (mo, .inr (12, .ref nw :: .ref kp :: .int 1 :: m3 :: m4 :: m5 :: m6 :: m7 :: m8 :: m9 :: .int 1 :: m11 :: m12 :: m13 :: .ref ti :: m15 :: .int 0 :: .ref cm :: .ref le :: .int 0 :: .int 0 :: .int 0 :: m22 :: m23 :: .int 0 :: m25 :: m26 :: m27 :: .ref dn :: mv)), (nw, .inl (G.2 0, 15642, .inl (upd f_11 (5 : Int32).toNatClampNeg 1))), (kp, .inl (G.2 0, 15642, .inl kf2_10))]) := hD
        have hz3 : (upd f_11 (5 : Int32).toNatClampNeg 1) 3 = 0 := (pk_un (by decide)).trans hz3
        generalize upd f_11 (5 : Int32).toNatClampNeg 1 = f_13 at hP hD hz3
        refine lv_aload_n hx hb dX12_round_106 rfl (lv_at hl 2 rfl) ?_
        refine va_get (D := G.1) (ci := 12) (v := .ref nw) (C := RX12) (T := TX12) (N := 32) hx hb ht inlX12 hown hK.1 hP 3 rfl rfl 0 (by decide) (ht (Cond.fieldLink RX12 7 "PloughDepotModel" "now" "[I") mw_6_19) (fun _ h9 => h9) rfl dX12_round_107 ?_
        refine lv_bipush (v := 6) hx hb dX12_round_110 (by decide) ?_
        refine lv_aload_n hx hb dX12_round_112 rfl (lv_at hl 2 rfl) ?_
        refine va_get (D := G.1) (ci := 12) (v := .int 0) (C := RX12) (T := TX12) (N := 32) hx hb ht inlX12 hown hK.1 hP 3 rfl rfl 19 (by decide) (ht (Cond.fieldLink RX12 267 "PloughDepotModel" "joins" "I") mw_48_17) (fun _ h9 => h9) rfl dX12_round_113 ?_
        refine va_iast hx hb hK.1 hP hD hS 4 0 rfl rfl (show ¬ ((6 : Int32) < 0 ∨ 15642 ≤ (6 : Int32).toNatClampNeg) by decide) dX12_round_116 (fun H locs hP hD hS => ?_)
        have hP : va_P G.1 vwCl ([(dn, .inl (G.2 0, 150, .inl fdn_1)), (cm, .inl (G.2 4, 60, .inl cmf2_7)), (le, .inl (G.2 0, 16384, .inl lef2_8)), (mo, .inr (12, .ref nw :: .ref kp :: .int 1 :: m3 :: m4 :: m5 :: m6 :: m7 :: m8 :: m9 :: .int 1 :: m11 :: m12 :: m13 :: .ref ti :: m15 :: .int 0 :: .ref cm :: .ref le :: .int 0 :: .int 0 :: .int 0 :: m22 :: m23 :: .int 0 :: m25 :: m26 :: m27 :: .ref dn :: mv)), (nw, .inl (G.2 0, 15642, .inl (upd f_13 (6 : Int32).toNatClampNeg 0))), (kp, .inl (G.2 0, 15642, .inl kf2_10))]) H := hP
        have hD : va_D A ([(dn, .inl (G.2 0, 150, .inl fdn_1)), (cm, .inl (G.2 4, 60, .inl cmf2_7)), (le, .inl (G.2 0, 16384, .inl lef2_8)), (mo, .inr (12, .ref nw :: .ref kp :: .int 1 :: m3 :: m4 :: m5 :: m6 :: m7 :: m8 :: m9 :: .int 1 :: m11 :: m12 :: m13 :: .ref ti :: m15 :: .int 0 :: .ref cm :: .ref le :: .int 0 :: .int 0 :: .int 0 :: m22 :: m23 :: .int 0 :: m25 :: m26 :: m27 :: .ref dn :: mv)), (nw, .inl (G.2 0, 15642, .inl (upd f_13 (6 : Int32).toNatClampNeg 0))), (kp, .inl (G.2 0, 15642, .inl kf2_10))]) := hD
        have hz3 : (upd f_13 (6 : Int32).toNatClampNeg 0) 3 = 0 := (pk_un (by decide)).trans hz3
        generalize upd f_13 (6 : Int32).toNatClampNeg 0 = f_14 at hP hD hz3
        refine lv_aload_n hx hb dX12_round_117 rfl (lv_at hl 2 rfl) ?_
        refine va_get (D := G.1) (ci := 12) (v := .ref nw) (C := RX12) (T := TX12) (N := 32) hx hb ht inlX12 hown hK.1 hP 3 rfl rfl 0 (by decide) (ht (Cond.fieldLink RX12 7 "PloughDepotModel" "now" "[I") mw_6_19) (fun _ h9 => h9) rfl dX12_round_118 ?_
        refine lv_bipush (v := 7) hx hb dX12_round_121 (by decide) ?_
        refine lv_aload_n hx hb dX12_round_123 rfl (lv_at hl 2 rfl) ?_
        refine va_get (D := G.1) (ci := 12) (v := .int 0) (C := RX12) (T := TX12) (N := 32) hx hb ht inlX12 hown hK.1 hP 3 rfl rfl 20 (by decide) (ht (Cond.fieldLink RX12 291 "PloughDepotModel" "exchanges" "I") mw_48_18) (fun _ h9 => h9) rfl dX12_round_124 ?_
        refine va_iast hx hb hK.1 hP hD hS 4 0 rfl rfl (show ¬ ((7 : Int32) < 0 ∨ 15642 ≤ (7 : Int32).toNatClampNeg) by decide) dX12_round_127 (fun H locs hP hD hS => ?_)
        have hP : va_P G.1 vwCl ([(dn, .inl (G.2 0, 150, .inl fdn_1)), (cm, .inl (G.2 4, 60, .inl cmf2_7)), (le, .inl (G.2 0, 16384, .inl lef2_8)), (mo, .inr (12, .ref nw :: .ref kp :: .int 1 :: m3 :: m4 :: m5 :: m6 :: m7 :: m8 :: m9 :: .int 1 :: m11 :: m12 :: m13 :: .ref ti :: m15 :: .int 0 :: .ref cm :: .ref le :: .int 0 :: .int 0 :: .int 0 :: m22 :: m23 :: .int 0 :: m25 :: m26 :: m27 :: .ref dn :: mv)), (nw, .inl (G.2 0, 15642, .inl (upd f_14 (7 : Int32).toNatClampNeg 0))), (kp, .inl (G.2 0, 15642, .inl kf2_10))]) H := hP
        have hD : va_D A ([(dn, .inl (G.2 0, 150, .inl fdn_1)), (cm, .inl (G.2 4, 60, .inl cmf2_7)), (le, .inl (G.2 0, 16384, .inl lef2_8)), (mo, .inr (12, .ref nw :: .ref kp :: .int 1 :: m3 :: m4 :: m5 :: m6 :: m7 :: m8 :: m9 :: .int 1 :: m11 :: m12 :: m13 :: .ref ti :: m15 :: .int 0 :: .ref cm :: .ref le :: .int 0 :: .int 0 :: .int 0 :: m22 :: m23 :: .int 0 :: m25 :: m26 :: m27 :: .ref dn :: mv)), (nw, .inl (G.2 0, 15642, .inl (upd f_14 (7 : Int32).toNatClampNeg 0))), (kp, .inl (G.2 0, 15642, .inl kf2_10))]) := hD
        have hz3 : (upd f_14 (7 : Int32).toNatClampNeg 0) 3 = 0 := (pk_un (by decide)).trans hz3
        generalize upd f_14 (7 : Int32).toNatClampNeg 0 = f_15 at hP hD hz3
        refine lv_aload_n hx hb dX12_round_128 rfl (lv_at hl 2 rfl) ?_
        refine va_get (D := G.1) (ci := 12) (v := .ref nw) (C := RX12) (T := TX12) (N := 32) hx hb ht inlX12 hown hK.1 hP 3 rfl rfl 0 (by decide) (ht (Cond.fieldLink RX12 7 "PloughDepotModel" "now" "[I") mw_6_19) (fun _ h9 => h9) rfl dX12_round_129 ?_
        refine lv_bipush (v := 8) hx hb dX12_round_132 (by decide) ?_
        refine lv_aload_n hx hb dX12_round_134 rfl (lv_at hl 2 rfl) ?_
        refine va_get (D := G.1) (ci := 12) (v := .int 0) (C := RX12) (T := TX12) (N := 32) hx hb ht inlX12 hown hK.1 hP 3 rfl rfl 21 (by decide) (ht (Cond.fieldLink RX12 285 "PloughDepotModel" "pairs" "I") mw_48_19) (fun _ h9 => h9) rfl dX12_round_135 ?_
        refine va_iast hx hb hK.1 hP hD hS 4 0 rfl rfl (show ¬ ((8 : Int32) < 0 ∨ 15642 ≤ (8 : Int32).toNatClampNeg) by decide) dX12_round_138 (fun H locs hP hD hS => ?_)
        have hP : va_P G.1 vwCl ([(dn, .inl (G.2 0, 150, .inl fdn_1)), (cm, .inl (G.2 4, 60, .inl cmf2_7)), (le, .inl (G.2 0, 16384, .inl lef2_8)), (mo, .inr (12, .ref nw :: .ref kp :: .int 1 :: m3 :: m4 :: m5 :: m6 :: m7 :: m8 :: m9 :: .int 1 :: m11 :: m12 :: m13 :: .ref ti :: m15 :: .int 0 :: .ref cm :: .ref le :: .int 0 :: .int 0 :: .int 0 :: m22 :: m23 :: .int 0 :: m25 :: m26 :: m27 :: .ref dn :: mv)), (nw, .inl (G.2 0, 15642, .inl (upd f_15 (8 : Int32).toNatClampNeg 0))), (kp, .inl (G.2 0, 15642, .inl kf2_10))]) H := hP
        have hD : va_D A ([(dn, .inl (G.2 0, 150, .inl fdn_1)), (cm, .inl (G.2 4, 60, .inl cmf2_7)), (le, .inl (G.2 0, 16384, .inl lef2_8)), (mo, .inr (12, .ref nw :: .ref kp :: .int 1 :: m3 :: m4 :: m5 :: m6 :: m7 :: m8 :: m9 :: .int 1 :: m11 :: m12 :: m13 :: .ref ti :: m15 :: .int 0 :: .ref cm :: .ref le :: .int 0 :: .int 0 :: .int 0 :: m22 :: m23 :: .int 0 :: m25 :: m26 :: m27 :: .ref dn :: mv)), (nw, .inl (G.2 0, 15642, .inl (upd f_15 (8 : Int32).toNatClampNeg 0))), (kp, .inl (G.2 0, 15642, .inl kf2_10))]) := hD
        have hz3 : (upd f_15 (8 : Int32).toNatClampNeg 0) 3 = 0 := (pk_un (by decide)).trans hz3
        generalize upd f_15 (8 : Int32).toNatClampNeg 0 = f_16 at hP hD hz3
        refine lv_iconst (v := 0) hx hb dX12_round_139 (by decide) ?_
        refine lv_istore_n (lv' := [(3, .int 0), (2, .int 0), (1, .int 0), (0, .ref mo)]) hx hb dX12_round_140 rfl hl (by decide) rfl (fun ls hl => ?_)
        have lp_17 : ∀ (Q : State → Prop), (∀ (fnw_17 : Nat → Int32) (H : Heap) (locs : List Loc) (ls : Array Slot), (fnw_17 3 = 0) → va_P G.1 vwCl ([(dn, .inl (G.2 0, 150, .inl fdn_1)), (cm, .inl (G.2 4, 60, .inl cmf2_7)), (le, .inl (G.2 0, 16384, .inl lef2_8)), (mo, .inr (12, .ref nw :: .ref kp :: .int 1 :: m3 :: m4 :: m5 :: m6 :: m7 :: m8 :: m9 :: .int 1 :: m11 :: m12 :: m13 :: .ref ti :: m15 :: .int 0 :: .ref cm :: .ref le :: .int 0 :: .int 0 :: .int 0 :: m22 :: m23 :: .int 0 :: m25 :: m26 :: m27 :: .ref dn :: mv)), (nw, .inl (G.2 0, 15642, .inl fnw_17)), (kp, .inl (G.2 0, 15642, .inl kf2_10))]) H → va_D A ([(dn, .inl (G.2 0, 150, .inl fdn_1)), (cm, .inl (G.2 4, 60, .inl cmf2_7)), (le, .inl (G.2 0, 16384, .inl lef2_8)), (mo, .inr (12, .ref nw :: .ref kp :: .int 1 :: m3 :: m4 :: m5 :: m6 :: m7 :: m8 :: m9 :: .int 1 :: m11 :: m12 :: m13 :: .ref ti :: m15 :: .int 0 :: .ref cm :: .ref le :: .int 0 :: .int 0 :: .int 0 :: m22 :: m23 :: .int 0 :: m25 :: m26 :: m27 :: .ref dn :: mv)), (nw, .inl (G.2 0, 15642, .inl fnw_17)), (kp, .inl (G.2 0, 15642, .inl kf2_10))]) → va_S A s.heap H locs → lv_has ls 4 [(2, .int 0), (1, .int 0), (0, .ref mo)] → W p l e (headSpec (.code yX12_round cX12_round 4 (some .int) :: TT) ({ frames := 4, cells := 0, slots := 0, locals := 400 } : Room)).room s m [.ref mo].toArray below meth c H locs 0 0 Q (F0 m 164 ls [])) → ∀ (n i : Nat) (x9 : Int32) (fnw_17 : Nat → Int32) (H : Heap) (locs : List Loc) (ls : Array Slot), i ≤ 60 → 61 ≤ i + n → x9 = nI i → (fnw_17 3 = 0) → va_P G.1 vwCl ([(dn, .inl (G.2 0, 150, .inl fdn_1)), (cm, .inl (G.2 4, 60, .inl cmf2_7)), (le, .inl (G.2 0, 16384, .inl lef2_8)), (mo, .inr (12, .ref nw :: .ref kp :: .int 1 :: m3 :: m4 :: m5 :: m6 :: m7 :: m8 :: m9 :: .int 1 :: m11 :: m12 :: m13 :: .ref ti :: m15 :: .int 0 :: .ref cm :: .ref le :: .int 0 :: .int 0 :: .int 0 :: m22 :: m23 :: .int 0 :: m25 :: m26 :: m27 :: .ref dn :: mv)), (nw, .inl (G.2 0, 15642, .inl fnw_17)), (kp, .inl (G.2 0, 15642, .inl kf2_10))]) H → va_D A ([(dn, .inl (G.2 0, 150, .inl fdn_1)), (cm, .inl (G.2 4, 60, .inl cmf2_7)), (le, .inl (G.2 0, 16384, .inl lef2_8)), (mo, .inr (12, .ref nw :: .ref kp :: .int 1 :: m3 :: m4 :: m5 :: m6 :: m7 :: m8 :: m9 :: .int 1 :: m11 :: m12 :: m13 :: .ref ti :: m15 :: .int 0 :: .ref cm :: .ref le :: .int 0 :: .int 0 :: .int 0 :: m22 :: m23 :: .int 0 :: m25 :: m26 :: m27 :: .ref dn :: mv)), (nw, .inl (G.2 0, 15642, .inl fnw_17)), (kp, .inl (G.2 0, 15642, .inl kf2_10))]) → va_S A s.heap H locs → lv_has ls 4 [(3, .int x9), (2, .int 0), (1, .int 0), (0, .ref mo)] → W p l e (headSpec (.code yX12_round cX12_round 4 (some .int) :: TT) ({ frames := 4, cells := 0, slots := 0, locals := 400 } : Room)).room s m [.ref mo].toArray below meth c H locs 0 0 Q (F0 m 141 ls []) := by
          intro Q hex n
          induction n with
          | zero =>
            intro i x9 fnw_17 H locs ls h1 h2
            exact absurd h2 (by omega)
          | succ n ih =>
            intro i x9 fnw_17 H locs ls hi hin9 ex9 hz3 hP hD hS hl
            refine lv_iload_n hx hb dX12_round_141 rfl (lv_at hl 0 rfl) ?_
            refine lv_bipush (v := 60) hx hb dX12_round_142 (by decide) ?_
            refine lv_icmp_ge (tgt := 164) hx hb dX12_round_144 (by decide) (fun c9 => ?_) (fun c9 => ?_)
            · have hiN : i = 60 := by
                rcases Nat.lt_or_ge i 60 with q | q
                · exact absurd c9 (by rw [ex9]; exact nI_ge q (by first | decide | omega))
                · omega
              exact hex fnw_17 H locs ls hz3 hP hD hS (lv_sub hl [1, 2, 3] rfl)
            · have hlt : i < 60 := by
                rcases Nat.lt_or_ge i 60 with q | q
                · exact q
                · exact absurd (by rw [ex9]; exact nI_le q (by omega)) c9
              have hx0 : (0 : Int32) ≤ x9 := by rw [ex9]; exact nI_pos' (by omega)
              refine lv_aload_n hx hb dX12_round_147 rfl (lv_at hl 3 rfl) ?_
              refine va_get (D := G.1) (ci := 12) (v := .ref nw) (C := RX12) (T := TX12) (N := 32) hx hb ht inlX12 hown hK.1 hP 3 rfl rfl 0 (by decide) (ht (Cond.fieldLink RX12 7 "PloughDepotModel" "now" "[I") mw_6_19) (fun _ h9 => h9) rfl dX12_round_148 ?_
              refine lv_sipush (v := 9582) hx hb dX12_round_151 (by decide) ?_
              refine lv_iload_n hx hb dX12_round_154 rfl (lv_at hl 0 rfl) ?_
              refine lv_iadd hx hb dX12_round_155 ?_
              refine lv_topi (fun v_18 ev_18 => ?_)
              refine lv_iconst (v := (-1)) hx hb dX12_round_156 (by decide) ?_
              refine va_iast hx hb hK.1 hP hD hS 4 0 rfl rfl (by rw [ev_18, ex9]; exact vp_in_add (a := 9582) (by omega) (by decide)) dX12_round_157 (fun H locs hP hD hS => ?_)
              have hP : va_P G.1 vwCl ([(dn, .inl (G.2 0, 150, .inl fdn_1)), (cm, .inl (G.2 4, 60, .inl cmf2_7)), (le, .inl (G.2 0, 16384, .inl lef2_8)), (mo, .inr (12, .ref nw :: .ref kp :: .int 1 :: m3 :: m4 :: m5 :: m6 :: m7 :: m8 :: m9 :: .int 1 :: m11 :: m12 :: m13 :: .ref ti :: m15 :: .int 0 :: .ref cm :: .ref le :: .int 0 :: .int 0 :: .int 0 :: m22 :: m23 :: .int 0 :: m25 :: m26 :: m27 :: .ref dn :: mv)), (nw, .inl (G.2 0, 15642, .inl (upd fnw_17 (v_18 : Int32).toNatClampNeg (-1)))), (kp, .inl (G.2 0, 15642, .inl kf2_10))]) H := hP
              have hD : va_D A ([(dn, .inl (G.2 0, 150, .inl fdn_1)), (cm, .inl (G.2 4, 60, .inl cmf2_7)), (le, .inl (G.2 0, 16384, .inl lef2_8)), (mo, .inr (12, .ref nw :: .ref kp :: .int 1 :: m3 :: m4 :: m5 :: m6 :: m7 :: m8 :: m9 :: .int 1 :: m11 :: m12 :: m13 :: .ref ti :: m15 :: .int 0 :: .ref cm :: .ref le :: .int 0 :: .int 0 :: .int 0 :: m22 :: m23 :: .int 0 :: m25 :: m26 :: m27 :: .ref dn :: mv)), (nw, .inl (G.2 0, 15642, .inl (upd fnw_17 (v_18 : Int32).toNatClampNeg (-1)))), (kp, .inl (G.2 0, 15642, .inl kf2_10))]) := hD
              have hz3 : (upd fnw_17 (v_18 : Int32).toNatClampNeg (-1)) 3 = 0 := (pk_un (by rw [ev_18, ex9, show (9582 : Int32) + nI i = nI (9582 + i) from nI_add 9582 i, nI_clamp (by omega)]; omega)).trans hz3
              generalize upd fnw_17 (v_18 : Int32).toNatClampNeg (-1) = f_19 at hP hD hz3
              obtain ⟨v_20, ev_20⟩ : ∃ y : Int32, y = x9 + 1 := ⟨_, rfl⟩
              refine lv_iinc (v := v_20) (lv' := [(3, .int v_20), (2, .int 0), (1, .int 0), (0, .ref mo)]) hx hb dX12_round_158 hl (k := 0) rfl (by rw [ev_20]; rfl) (by decide) rfl (fun ls hl => ?_)
              refine lv_goto (tgt := 141) hx hb dX12_round_161 (by decide) ?_
              exact ih (i + 1) _ f_19 _ _ _ (by omega) (by omega) (by rw [ev_20, ex9]; exact nI_1 i) hz3 hP hD hS (lv_sub hl [0, 1, 2, 3] rfl)
        refine lp_17 _ ?_ (61) 0 0 f_16 _ _ _ (by omega) (by omega) nI_0.symm hz3 hP hD hS (lv_sub hl [0, 1, 2, 3] rfl)
        intro fnw_17 H locs ls hz3 hP hD hS hl
        refine lv_iconst (v := 0) hx hb dX12_round_164 (by decide) ?_
        refine lv_istore_n (lv' := [(3, .int 0), (2, .int 0), (1, .int 0), (0, .ref mo)]) hx hb dX12_round_165 rfl hl (by decide) rfl (fun ls hl => ?_)
        refine lv_iload_n hx hb dX12_round_166 rfl (lv_at hl 0 rfl) ?_
        refine lv_aload_n hx hb dX12_round_167 rfl (lv_at hl 3 rfl) ?_
        refine va_get (D := G.1) (ci := 12) (v := .int 0) (C := RX12) (T := TX12) (N := 32) hx hb ht inlX12 hown hK.1 hP 3 rfl rfl 21 (by decide) (ht (Cond.fieldLink RX12 285 "PloughDepotModel" "pairs" "I") mw_48_19) (fun _ h9 => h9) rfl dX12_round_168 ?_
        refine lv_icmp_ge (tgt := 222) hx hb dX12_round_171 (by decide) (fun c_21 => ?_) (fun c_21 => ?_)
        · refine lv_iconst (v := 0) hx hb dX12_round_222 (by decide) ?_
          refine lv_istore_n (lv' := [(3, .int 0), (2, .int 0), (1, .int 0), (0, .ref mo)]) hx hb dX12_round_223 rfl hl (by decide) rfl (fun ls hl => ?_)
          refine lv_iload_n hx hb dX12_round_224 rfl (lv_at hl 0 rfl) ?_
          refine lv_aload_n hx hb dX12_round_225 rfl (lv_at hl 3 rfl) ?_
          refine va_get (D := G.1) (ci := 12) (v := .int 0) (C := RX12) (T := TX12) (N := 32) hx hb ht inlX12 hown hK.1 hP 3 rfl rfl 24 (by decide) (ht (Cond.fieldLink RX12 297 "PloughDepotModel" "drives" "I") mw_48_20) (fun _ h9 => h9) rfl dX12_round_226 ?_
          refine lv_icmp_ge (tgt := 296) hx hb dX12_round_229 (by decide) (fun c_22 => ?_) (fun c_22 => ?_)
          · refine lv_iconst (v := 0) hx hb dX12_round_296 (by decide) ?_
            refine lv_istore_n (lv' := [(3, .int 0), (2, .int 0), (1, .int 0), (0, .ref mo)]) hx hb dX12_round_297 rfl hl (by decide) rfl (fun ls hl => ?_)
            refine lv_iload_n hx hb dX12_round_298 rfl (lv_at hl 0 rfl) ?_
            refine lv_aload_n hx hb dX12_round_299 rfl (lv_at hl 3 rfl) ?_
            refine va_get (D := G.1) (ci := 12) (v := .ref nw) (C := RX12) (T := TX12) (N := 32) hx hb ht inlX12 hown hK.1 hP 3 rfl rfl 0 (by decide) (ht (Cond.fieldLink RX12 7 "PloughDepotModel" "now" "[I") mw_6_19) (fun _ h9 => h9) rfl dX12_round_300 ?_
            refine lv_iconst (v := 3) hx hb dX12_round_303 (by decide) ?_
            refine va_iald hx hb hK.1 hP 4 0 rfl rfl (show ¬ ((3 : Int32) < 0 ∨ 15642 ≤ (3 : Int32).toNatClampNeg) by decide) dX12_round_304 ?_
            refine lv_topi (fun v_23 ev_23 => ?_)
            obtain rfl : 0 = v_23 := (ev_23.trans (hz3)).symm
            refine lv_icmp_ge (tgt := 319) hx hb dX12_round_305 (by decide) (fun c_24 => ?_) (fun c_24 => ?_)
            · refine lv_aload_n hx hb dX12_round_319 rfl (lv_at hl 3 rfl) ?_
              refine lv_aload_n hx hb dX12_round_320 rfl (lv_at hl 3 rfl) ?_
              refine va_get (D := G.1) (ci := 12) (v := .int 0) (C := RX12) (T := TX12) (N := 32) hx hb ht inlX12 hown hK.1 hP 3 rfl rfl 24 (by decide) (ht (Cond.fieldLink RX12 297 "PloughDepotModel" "drives" "I") mw_48_20) (fun _ h9 => h9) rfl dX12_round_321 ?_
              have hPc := hP.sub (ws' := [(mo, .inr (12, .ref nw :: .ref kp :: .int 1 :: m3 :: m4 :: m5 :: m6 :: m7 :: m8 :: m9 :: .int 1 :: m11 :: m12 :: m13 :: .ref ti :: m15 :: .int 0 :: .ref cm :: .ref le :: .int 0 :: .int 0 :: .int 0 :: m22 :: m23 :: .int 0 :: m25 :: m26 :: m27 :: .ref dn :: mv))]) [3] rfl
              have hDc := hD.sub (ws' := [(mo, .inr (12, .ref nw :: .ref kp :: .int 1 :: m3 :: m4 :: m5 :: m6 :: m7 :: m8 :: m9 :: .int 1 :: m11 :: m12 :: m13 :: .ref ti :: m15 :: .int 0 :: .ref cm :: .ref le :: .int 0 :: .int 0 :: .int 0 :: m22 :: m23 :: .int 0 :: m25 :: m26 :: m27 :: .ref dn :: mv))]) [3] (by decide) rfl
              have hFc := va_free (wc := [(mo, .inr (12, .ref nw :: .ref kp :: .int 1 :: m3 :: m4 :: m5 :: m6 :: m7 :: m8 :: m9 :: .int 1 :: m11 :: m12 :: m13 :: .ref ti :: m15 :: .int 0 :: .ref cm :: .ref le :: .int 0 :: .int 0 :: .int 0 :: m22 :: m23 :: .int 0 :: m25 :: m26 :: m27 :: .ref dn :: mv))]) hD hS hA [3] rfl
              refine va_calli (va_runV (As := [.int 0]) (rest := []) ⟨hx, hb, hml, hown, hts⟩ (r_says l G _ mo 0 (.ref nw) (.ref kp) (.int 1) m3 (m4 :: m5 :: m6 :: m7 :: m8 :: m9 :: .int 1 :: m11 :: m12 :: m13 :: .ref ti :: m15 :: .int 0 :: .ref cm :: .ref le :: .int 0 :: .int 0 :: .int 0 :: m22 :: m23 :: .int 0 :: m25 :: m26 :: m27 :: .ref dn :: mv) ) (cwV 1 hts (gd_V mw_12_4 mw_12_5 mw_12_6 mw_1_5 mw_12_7) rfl rfl rfl ⟨rfl, yk_X12_says⟩ ⟨Nat.le_of_ble_eq_true rfl, Nat.le_of_ble_eq_true rfl⟩) (c0_preV (q0 := 0) (ci := 12) (q := (RX12, TX12, 32)) hPc hK hDc rfl rfl) rfl rfl hl.1 rfl (lv_room (Nat.le_of_ble_eq_true rfl)) dX12_round_324 ⟨Nat.le_of_ble_eq_true rfl, Nat.le_of_ble_eq_true rfl⟩) hS (fun q _ h => hFc q h) hFc (fun r_25 u t H1 locs ht1 hvm hw hB hz1 hk1 hS => ?_)
              try dsimp only at hw hB
              have hr25 := hw
              obtain rfl := hr25.symm
              obtain ⟨hP1, hD1⟩ := hB
              rw [ht1] at hP1
              obtain ⟨hP, hD⟩ := va_join (wr := [(dn, .inl (G.2 0, 150, .inl fdn_1)), (cm, .inl (G.2 4, 60, .inl cmf2_7)), (le, .inl (G.2 0, 16384, .inl lef2_8)), (nw, .inl (G.2 0, 15642, .inl fnw_17)), (kp, .inl (G.2 0, 15642, .inl kf2_10))]) (w1 := [(mo, .inr (12, .ref nw :: .ref kp :: .int 1 :: .int 0 :: m4 :: m5 :: m6 :: m7 :: m8 :: m9 :: .int 1 :: m11 :: m12 :: m13 :: .ref ti :: m15 :: .int 0 :: .ref cm :: .ref le :: .int 0 :: .int 0 :: .int 0 :: m22 :: m23 :: .int 0 :: m25 :: m26 :: m27 :: .ref dn :: mv))]) hP hD [3] [0, 1, 2, 4, 5] rfl rfl (by decide) (by decide) hk1 hFc hP1 hD1
              generalize H1 = H at hP hS ⊢
              have hP : va_P G.1 vwCl ([(dn, .inl (G.2 0, 150, .inl fdn_1)), (cm, .inl (G.2 4, 60, .inl cmf2_7)), (le, .inl (G.2 0, 16384, .inl lef2_8)), (nw, .inl (G.2 0, 15642, .inl fnw_17)), (kp, .inl (G.2 0, 15642, .inl kf2_10)), (mo, .inr (12, .ref nw :: .ref kp :: .int 1 :: .int 0 :: m4 :: m5 :: m6 :: m7 :: m8 :: m9 :: .int 1 :: m11 :: m12 :: m13 :: .ref ti :: m15 :: .int 0 :: .ref cm :: .ref le :: .int 0 :: .int 0 :: .int 0 :: m22 :: m23 :: .int 0 :: m25 :: m26 :: m27 :: .ref dn :: mv))]) H := hP
              have hD : va_D A ([(dn, .inl (G.2 0, 150, .inl fdn_1)), (cm, .inl (G.2 4, 60, .inl cmf2_7)), (le, .inl (G.2 0, 16384, .inl lef2_8)), (nw, .inl (G.2 0, 15642, .inl fnw_17)), (kp, .inl (G.2 0, 15642, .inl kf2_10)), (mo, .inr (12, .ref nw :: .ref kp :: .int 1 :: .int 0 :: m4 :: m5 :: m6 :: m7 :: m8 :: m9 :: .int 1 :: m11 :: m12 :: m13 :: .ref ti :: m15 :: .int 0 :: .ref cm :: .ref le :: .int 0 :: .int 0 :: .int 0 :: m22 :: m23 :: .int 0 :: m25 :: m26 :: m27 :: .ref dn :: mv))]) := hD
              exact W.iret (v := 0) hx hb hr (fun t ht hW => ⟨⟨0, (), rfl, rfl, trivial⟩, hS.F ht⟩) hS.2.2 dX12_round_327
            · exact absurd c_24 (by decide)
          · exact absurd c_22 (by decide)
        · exact absurd c_21 (by decide)
      · exact absurd c_12 (by decide)
    · exact absurd c_9 (by decide)
  · exact absurd c_5 (by decide)

