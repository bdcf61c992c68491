theorem ns_one {G : GG} {ws : va_W} {H : Heap} {k : Nat} {q : Nat × va_E} (hP : va_P G.1 vwCl ws H) (hk : ws[k]? = some q) : va_P G.1 vwCl [q] H := fun j x hx => by
  have hj : j < 1 := (List.getElem?_eq_some_iff.mp hx).1
  rw [show j = 0 by omega] at hx
  cases hx
  exact hP k q hk
theorem va_D_one (a : Nat) (e : va_E) : va_D (fun _ => True) [(a, e)] := ⟨fun i j p q hi hj _ => by
  have h1 : i < 1 := (List.getElem?_eq_some_iff.mp hi).1
  have h2 : j < 1 := (List.getElem?_eq_some_iff.mp hj).1
  omega, fun _ _ _ => trivial⟩
set_option maxHeartbeats 4000000 in
set_option maxRecDepth 100000 in
theorem j_fillI (l : Launch) (G : GG) (sz : Nat) (ar : Nat) (fv : Int32) (an : Nat) (af : Nat → Int32) (hn : an < 2 ^ 20) : Met l yJ7_fill_53178 (.code yJ7_fill_53178 cJ7_fill_53178 4 none :: TT) ({ frames := 1, cells := 0, slots := 0, locals := 100 } : Room) (c0_P G [.ref ar, .int fv] sz ([(ar, .inl (G.2 0, an, .inl af))])) (va_Qv (S := (Nat → Int32)) (fun (u : (Nat → Int32)) => True) (fun (u : (Nat → Int32)) (t : State) => c0_B G (va_A ([(ar, .inl (G.2 0, an, .inl af))]) sz) ([(ar, .inl (G.2 0, an, .inl u))]) t) (va_A ([(ar, .inl (G.2 0, an, .inl af))]) sz)) 0 0 (va_A ([(ar, .inl (G.2 0, an, .inl af))]) sz) := by
  refine va_MetF (cc := cJ7_fill_53178) (maxL := 4) (ret := none) (by decide) rfl ?_
  intro p e s m args below meth c s₁ B hml hv
  obtain ⟨rfl, hsz, hP, hK, hD0⟩ := hv
  have hx := B.exec
  have hb := B.bytes
  have hr := B.returns
  have hts := atoms_spec (ws := .code yJ7_fill_53178 cJ7_fill_53178 4 none :: TT) B.pre
  have ht := fun (w : Cond) (h : w ∈ TT) => hts w (List.mem_cons_of_mem _ h)
  have hown : s.vm.findClass RJ7 = some m.cls := findClass_of_methodNamed B.named
  have hlocks := B.notSynchronized
  subst hsz
  have hD := hD0.self (sz := s.heap.size)
  generalize hAe : va_A ([(ar, .inl (G.2 0, an, .inl af))]) s.heap.size = A at hD ⊢
  have hA : ∀ q : Nat, s.heap.size ≤ q → A q := fun q h => by rw [← hAe]; exact Or.inr h
  have hS : va_S A s.heap s.heap [] := va_S.rf
  have hP : va_P G.1 vwCl ([(ar, .inl (G.2 0, an, .inl af))]) s.heap := hP
  have hl := lv_entry ([.ref ar, .int fv]) (n := 4) (Nat.le_of_ble_eq_true rfl)
  rw [lg_entry_eq]
  generalize (lg_sl ([.ref ar, .int fv]) ++ List.replicate (4 - (lg_sl ([.ref ar, .int fv])).length) Slot.unset).toArray = ls at hl ⊢
  have hl : lv_has ls 4 [(0, .ref ar), (1, .int fv)] := hl
  refine lv_iconst (v := 0) hx hb dJ7_fill_53178_0 (by decide) ?_
  refine lv_istore_n (lv' := [(2, .int 0), (0, .ref ar), (1, .int fv)]) hx hb dJ7_fill_53178_1 rfl hl (by decide) rfl (fun ls hl => ?_)
  refine lv_aload_n hx hb dJ7_fill_53178_2 rfl (lv_at hl 1 rfl) ?_
  refine va_alen hx hb hK.1 hP 0 0 rfl rfl (v := nI an) rfl dJ7_fill_53178_3 ?_
  refine lv_istore_n (lv' := [(3, .int (nI an)), (2, .int 0), (0, .ref ar), (1, .int fv)]) hx hb dJ7_fill_53178_4 rfl hl (by decide) rfl (fun ls hl => ?_)
  have lp_1 : ∀ (Q : State → Prop), (∀ (far_1 : Nat → Int32) (H : Heap) (locs : List Loc) (ls : Array Slot), va_P G.1 vwCl ([(ar, .inl (G.2 0, an, .inl far_1))]) H → va_D A ([(ar, .inl (G.2 0, an, .inl far_1))]) → va_S A s.heap H locs → lv_has ls 4 [(3, .int (nI an)), (0, .ref ar), (1, .int fv)] → W p l e (headSpec (.code yJ7_fill_53178 cJ7_fill_53178 4 none :: TT) ({ frames := 1, cells := 0, slots := 0, locals := 100 } : Room)).room s m [.ref ar, .int fv].toArray below meth c H locs 0 0 Q (F0 m 20 ls [])) → ∀ (n i : Nat) (x9 : Int32) (far_1 : Nat → Int32) (H : Heap) (locs : List Loc) (ls : Array Slot), i ≤ an → an + 1 ≤ i + n → x9 = nI i → va_P G.1 vwCl ([(ar, .inl (G.2 0, an, .inl far_1))]) H → va_D A ([(ar, .inl (G.2 0, an, .inl far_1))]) → va_S A s.heap H locs → lv_has ls 4 [(2, .int x9), (3, .int (nI an)), (0, .ref ar), (1, .int fv)] → W p l e (headSpec (.code yJ7_fill_53178 cJ7_fill_53178 4 none :: TT) ({ frames := 1, cells := 0, slots := 0, locals := 100 } : Room)).room s m [.ref ar, .int fv].toArray below meth c H locs 0 0 Q (F0 m 5 ls []) := by
    intro Q hex n
    induction n with
    | zero =>
      intro i x9 far_1 H locs ls h1 h2
      exact absurd h2 (by omega)
    | succ n ih =>
      intro i x9 far_1 H locs ls hi hin9 ex9 hP hD hS hl
      refine lv_iload_n hx hb dJ7_fill_53178_5 rfl (lv_at hl 0 rfl) ?_
      refine lv_iload_n hx hb dJ7_fill_53178_6 rfl (lv_at hl 1 rfl) ?_
      refine lv_icmp_ge (tgt := 20) hx hb dJ7_fill_53178_7 (by decide) (fun c9 => ?_) (fun c9 => ?_)
      · have hiN : i = an := by
          rcases Nat.lt_or_ge i an with q | q
          · exact absurd c9 (by rw [ex9]; exact nI_ge q (by first | decide | omega))
          · omega
        exact hex far_1 H locs ls hP hD hS (lv_sub hl [1, 2, 3] rfl)
      · have hlt : i < an := by
          rcases Nat.lt_or_ge i an with q | q
          · exact q
          · exact absurd (by rw [ex9]; exact nI_le q (by omega)) c9
        have hin_ar : vp_in x9 an := by rw [ex9]; exact vp_in_nI (by omega) (by first | decide | omega)
        refine lv_aload_n hx hb dJ7_fill_53178_10 rfl (lv_at hl 2 rfl) ?_
        refine lv_iload_n hx hb dJ7_fill_53178_11 rfl (lv_at hl 0 rfl) ?_
        refine lv_iload_n hx hb dJ7_fill_53178_12 rfl (lv_at hl 3 rfl) ?_
        refine va_iast hx hb hK.1 hP hD hS 0 0 rfl rfl hin_ar dJ7_fill_53178_13 (fun H locs hP hD hS => ?_)
        have hP : va_P G.1 vwCl ([(ar, .inl (G.2 0, an, .inl (upd far_1 (x9 : Int32).toNatClampNeg fv)))]) H := hP
        have hD : va_D A ([(ar, .inl (G.2 0, an, .inl (upd far_1 (x9 : Int32).toNatClampNeg fv)))]) := hD
        generalize upd far_1 (x9 : Int32).toNatClampNeg fv = f_2 at hP hD
        obtain ⟨v_3, ev_3⟩ : ∃ y : Int32, y = x9 + 1 := ⟨_, rfl⟩
        refine lv_iinc (v := v_3) (lv' := [(2, .int v_3), (3, .int (nI an)), (0, .ref ar), (1, .int fv)]) hx hb dJ7_fill_53178_14 hl (k := 0) rfl (by rw [ev_3]; rfl) (by decide) rfl (fun ls hl => ?_)
        refine lv_goto (tgt := 5) hx hb dJ7_fill_53178_17 (by decide) ?_
        exact ih (i + 1) _ f_2 _ _ _ (by omega) (by omega) (by rw [ev_3, ex9]; exact nI_1 i) hP hD hS (lv_sub hl [0, 1, 2, 3] rfl)
  refine lp_1 _ ?_ (an + 1) 0 0 af _ _ _ (by omega) (by omega) nI_0.symm hP hD hS (lv_sub hl [1, 0, 2, 3] rfl)
  intro far_1 H locs ls hP hD hS hl
  have hP9 := hP.sub (ws' := [(ar, .inl (G.2 0, an, .inl far_1))]) [0] rfl
  have hD9 := hD.sub (ws' := [(ar, .inl (G.2 0, an, .inl far_1))]) [0] (by decide) rfl
  exact W.vret hx hb hr (fun t ht hW => ⟨⟨far_1, rfl, trivial, ⟨by rw [ht]; exact hP9, hD9⟩⟩, hS.F ht⟩) hS.2.2 dJ7_fill_53178_20

set_option maxHeartbeats 4000000 in
set_option maxRecDepth 100000 in
theorem j_fillJ (l : Launch) (G : GG) (sz : Nat) (ar : Nat) (fv : Int64) (an : Nat) (af : Nat → Int64) (hn : an < 2 ^ 20) : Met l yJ7_fill_d0a16 (.code yJ7_fill_d0a16 cJ7_fill_d0a16 5 none :: TT) ({ frames := 1, cells := 0, slots := 0, locals := 100 } : Room) (c0_P G [.ref ar, .long fv] sz ([(ar, .inl (G.2 1, an, .inr (.inl af)))])) (va_Qv (S := (Nat → Int64)) (fun (u : (Nat → Int64)) => True) (fun (u : (Nat → Int64)) (t : State) => c0_B G (va_A ([(ar, .inl (G.2 1, an, .inr (.inl af)))]) sz) ([(ar, .inl (G.2 1, an, .inr (.inl u)))]) t) (va_A ([(ar, .inl (G.2 1, an, .inr (.inl af)))]) sz)) 0 0 (va_A ([(ar, .inl (G.2 1, an, .inr (.inl af)))]) sz) := by
  refine va_MetF (cc := cJ7_fill_d0a16) (maxL := 5) (ret := none) (by decide) rfl ?_
  intro p e s m args below meth c s₁ B hml hv
  obtain ⟨rfl, hsz, hP, hK, hD0⟩ := hv
  have hx := B.exec
  have hb := B.bytes
  have hr := B.returns
  have hts := atoms_spec (ws := .code yJ7_fill_d0a16 cJ7_fill_d0a16 5 none :: TT) B.pre
  have ht := fun (w : Cond) (h : w ∈ TT) => hts w (List.mem_cons_of_mem _ h)
  have hown : s.vm.findClass RJ7 = some m.cls := findClass_of_methodNamed B.named
  have hlocks := B.notSynchronized
  subst hsz
  have hD := hD0.self (sz := s.heap.size)
  generalize hAe : va_A ([(ar, .inl (G.2 1, an, .inr (.inl af)))]) s.heap.size = A at hD ⊢
  have hA : ∀ q : Nat, s.heap.size ≤ q → A q := fun q h => by rw [← hAe]; exact Or.inr h
  have hS : va_S A s.heap s.heap [] := va_S.rf
  have hP : va_P G.1 vwCl ([(ar, .inl (G.2 1, an, .inr (.inl af)))]) s.heap := hP
  have hl := lv_entry ([.ref ar, .long fv]) (n := 5) (Nat.le_of_ble_eq_true rfl)
  rw [lg_entry_eq]
  generalize (lg_sl ([.ref ar, .long fv]) ++ List.replicate (5 - (lg_sl ([.ref ar, .long fv])).length) Slot.unset).toArray = ls at hl ⊢
  have hl : lv_has ls 5 [(0, .ref ar), (1, .long fv)] := hl
  refine lv_iconst (v := 0) hx hb dJ7_fill_d0a16_0 (by decide) ?_
  refine lv_istore_n (lv' := [(3, .int 0), (0, .ref ar), (1, .long fv)]) hx hb dJ7_fill_d0a16_1 rfl hl (by decide) rfl (fun ls hl => ?_)
  refine lv_aload_n hx hb dJ7_fill_d0a16_2 rfl (lv_at hl 1 rfl) ?_
  refine va_alen hx hb hK.1 hP 0 1 rfl rfl (v := nI an) rfl dJ7_fill_d0a16_3 ?_
  refine lv_istore (lv' := [(4, .int (nI an)), (3, .int 0), (0, .ref ar), (1, .long fv)]) hx hb dJ7_fill_d0a16_4 hl (by decide) rfl (fun ls hl => ?_)
  have lp_1 : ∀ (Q : State → Prop), (∀ (far_1 : Nat → Int64) (H : Heap) (locs : List Loc) (ls : Array Slot), va_P G.1 vwCl ([(ar, .inl (G.2 1, an, .inr (.inl far_1)))]) H → va_D A ([(ar, .inl (G.2 1, an, .inr (.inl far_1)))]) → va_S A s.heap H locs → lv_has ls 5 [(4, .int (nI an)), (0, .ref ar), (1, .long fv)] → W p l e (headSpec (.code yJ7_fill_d0a16 cJ7_fill_d0a16 5 none :: TT) ({ frames := 1, cells := 0, slots := 0, locals := 100 } : Room)).room s m [.ref ar, .long fv].toArray below meth c H locs 0 0 Q (F0 m 22 ls [])) → ∀ (n i : Nat) (x9 : Int32) (far_1 : Nat → Int64) (H : Heap) (locs : List Loc) (ls : Array Slot), i ≤ an → an + 1 ≤ i + n → x9 = nI i → va_P G.1 vwCl ([(ar, .inl (G.2 1, an, .inr (.inl far_1)))]) H → va_D A ([(ar, .inl (G.2 1, an, .inr (.inl far_1)))]) → va_S A s.heap H locs → lv_has ls 5 [(3, .int x9), (4, .int (nI an)), (0, .ref ar), (1, .long fv)] → W p l e (headSpec (.code yJ7_fill_d0a16 cJ7_fill_d0a16 5 none :: TT) ({ frames := 1, cells := 0, slots := 0, locals := 100 } : Room)).room s m [.ref ar, .long fv].toArray below meth c H locs 0 0 Q (F0 m 6 ls []) := by
    intro Q hex n
    induction n with
    | zero =>
      intro i x9 far_1 H locs ls h1 h2
      exact absurd h2 (by omega)
    | succ n ih =>
      intro i x9 far_1 H locs ls hi hin9 ex9 hP hD hS hl
      refine lv_iload_n hx hb dJ7_fill_d0a16_6 rfl (lv_at hl 0 rfl) ?_
      refine lv_iload hx hb dJ7_fill_d0a16_7 (lv_at hl 1 rfl) ?_
      refine lv_icmp_ge (tgt := 22) hx hb dJ7_fill_d0a16_9 (by decide) (fun c9 => ?_) (fun c9 => ?_)
      · have hiN : i = an := by
          rcases Nat.lt_or_ge i an with q | q
          · exact absurd c9 (by rw [ex9]; exact nI_ge q (by first | decide | omega))
          · omega
        exact hex far_1 H locs ls hP hD hS (lv_sub hl [1, 2, 3] rfl)
      · have hlt : i < an := by
          rcases Nat.lt_or_ge i an with q | q
          · exact q
          · exact absurd (by rw [ex9]; exact nI_le q (by omega)) c9
        have hin_ar : vp_in x9 an := by rw [ex9]; exact vp_in_nI (by omega) (by first | decide | omega)
        refine lv_aload_n hx hb dJ7_fill_d0a16_12 rfl (lv_at hl 2 rfl) ?_
        refine lv_iload_n hx hb dJ7_fill_d0a16_13 rfl (lv_at hl 0 rfl) ?_
        refine lv_lload_n hx hb dJ7_fill_d0a16_14 rfl (lv_at hl 3 rfl) ?_
        refine va_last hx hb hK.1 hP hD hS 0 1 rfl rfl hin_ar dJ7_fill_d0a16_15 (fun H locs hP hD hS => ?_)
        have hP : va_P G.1 vwCl ([(ar, .inl (G.2 1, an, .inr (.inl (vp_updL far_1 (x9 : Int32).toNatClampNeg fv))))]) H := hP
        have hD : va_D A ([(ar, .inl (G.2 1, an, .inr (.inl (vp_updL far_1 (x9 : Int32).toNatClampNeg fv))))]) := hD
        generalize vp_updL far_1 (x9 : Int32).toNatClampNeg fv = f_2 at hP hD
        obtain ⟨v_3, ev_3⟩ : ∃ y : Int32, y = x9 + 1 := ⟨_, rfl⟩
        refine lv_iinc (v := v_3) (lv' := [(3, .int v_3), (4, .int (nI an)), (0, .ref ar), (1, .long fv)]) hx hb dJ7_fill_d0a16_16 hl (k := 0) rfl (by rw [ev_3]; rfl) (by decide) rfl (fun ls hl => ?_)
        refine lv_goto (tgt := 6) hx hb dJ7_fill_d0a16_19 (by decide) ?_
        exact ih (i + 1) _ f_2 _ _ _ (by omega) (by omega) (by rw [ev_3, ex9]; exact nI_1 i) hP hD hS (lv_sub hl [0, 1, 2, 3] rfl)
  refine lp_1 _ ?_ (an + 1) 0 0 af _ _ _ (by omega) (by omega) nI_0.symm hP hD hS (lv_sub hl [1, 0, 2, 3] rfl)
  intro far_1 H locs ls hP hD hS hl
  have hP9 := hP.sub (ws' := [(ar, .inl (G.2 1, an, .inr (.inl far_1)))]) [0] rfl
  have hD9 := hD.sub (ws' := [(ar, .inl (G.2 1, an, .inr (.inl far_1)))]) [0] (by decide) rfl
  exact W.vret hx hb hr (fun t ht hW => ⟨⟨far_1, rfl, trivial, ⟨by rw [ht]; exact hP9, hD9⟩⟩, hS.F ht⟩) hS.2.2 dJ7_fill_d0a16_22

set_option maxHeartbeats 4000000 in
set_option maxRecDepth 100000 in
theorem k_widen_9_0 (l : Launch) (G : GG) (sz : Nat) (tb : Nat) (tbo : Nat) (tbg : Nat → Option Nat) (L : List Nat) (fp : Nat → va_E) (hRo : Ro G L fp) (hgtb : Gr L tbg 9) : Met l yX8_widen (.code yX8_widen cX8_widen 3 none :: TT) ({ frames := 1, cells := 0, slots := 0, locals := 100 } : Room) (c0_P G [.ref tb, .int 0] sz ([(tb, .inr (8, [.ref tbo, .int 0])), (tbo, .inl (G.2 5, 9, .inr (.inr (.inr (.inr tbg)))))] ++ va_pl L fp)) (va_Qv (S := Unit) (fun (u : Unit) => True) (fun (u : Unit) (t : State) => c0_B G (va_A ([(tb, .inr (8, [.ref tbo, .int 0])), (tbo, .inl (G.2 5, 9, .inr (.inr (.inr (.inr tbg)))))] ++ va_pl L fp) sz) ([(tb, .inr (8, [.ref tbo, .int 0])), (tbo, .inl (G.2 5, 9, .inr (.inr (.inr (.inr tbg)))))] ++ va_pl L fp) t) (va_A ([(tb, .inr (8, [.ref tbo, .int 0])), (tbo, .inl (G.2 5, 9, .inr (.inr (.inr (.inr tbg)))))] ++ va_pl L fp) sz)) 0 0 (va_A ([(tb, .inr (8, [.ref tbo, .int 0])), (tbo, .inl (G.2 5, 9, .inr (.inr (.inr (.inr tbg)))))] ++ va_pl L fp) sz) := by
  refine Met.ofW (cc := cX8_widen) (maxL := 3) (ret := none) (by decide) rfl ?_
  intro p e s m args below meth c s₁ B hml hv
  obtain ⟨rfl, hsz, hP, hK, hD0⟩ := hv
  have hx := B.exec
  have hb := B.bytes
  have hr := B.returns
  have hts := atoms_spec (ws := .code yX8_widen cX8_widen 3 none :: TT) B.pre
  have ht := fun (w : Cond) (h : w ∈ TT) => hts w (List.mem_cons_of_mem _ h)
  have hown : s.vm.findClass RX8 = some m.cls := findClass_of_methodNamed B.named
  have hlocks := B.notSynchronized
  subst hsz
  have hD := hD0.self (sz := s.heap.size)
  generalize hAe : va_A ([(tb, .inr (8, [.ref tbo, .int 0])), (tbo, .inl (G.2 5, 9, .inr (.inr (.inr (.inr tbg)))))] ++ va_pl L fp) s.heap.size = A at hD ⊢
  have hA : ∀ q : Nat, s.heap.size ≤ q → A q := fun q h => by rw [← hAe]; exact Or.inr h
  have hS : va_S A s.heap s.heap [] := va_S.rf
  have hP : va_P G.1 vwCl ([(tb, .inr (8, [.ref tbo, .int 0])), (tbo, .inl (G.2 5, 9, .inr (.inr (.inr (.inr tbg)))))] ++ va_pl L fp) s.heap := hP
  have hl := lv_entry ([.ref tb, .int 0]) (n := 3) (Nat.le_of_ble_eq_true rfl)
  rw [lg_entry_eq]
  generalize (lg_sl ([.ref tb, .int 0]) ++ List.replicate (3 - (lg_sl ([.ref tb, .int 0])).length) Slot.unset).toArray = ls at hl ⊢
  have hl : lv_has ls 3 [(0, .ref tb), (1, .int 0)] := hl
  refine lv_iconst (v := 0) hx hb dX8_widen_0 (by decide) ?_
  refine lv_istore_n (lv' := [(2, .int 0), (0, .ref tb), (1, .int 0)]) hx hb dX8_widen_1 rfl hl (by decide) rfl (fun ls hl => ?_)
  have lp_1 : ∀ (Q : State → Prop), (∀  (H : Heap) (locs : List Loc) (ls : Array Slot), va_P G.1 vwCl ([(tb, .inr (8, [.ref tbo, .int 0])), (tbo, .inl (G.2 5, 9, .inr (.inr (.inr (.inr tbg)))))] ++ va_pl L fp) H → va_D A ([(tb, .inr (8, [.ref tbo, .int 0])), (tbo, .inl (G.2 5, 9, .inr (.inr (.inr (.inr tbg)))))] ++ va_pl L fp) → va_S A s.heap H locs → lv_has ls 3 [(0, .ref tb), (1, .int 0)] → W p l e (headSpec (.code yX8_widen cX8_widen 3 none :: TT) ({ frames := 1, cells := 0, slots := 0, locals := 100 } : Room)).room s m [.ref tb, .int 0].toArray below meth c H locs 0 0 Q (F0 m 56 ls [])) → ∀ (n i : Nat) (x9 : Int32)  (H : Heap) (locs : List Loc) (ls : Array Slot), i ≤ 9 → 10 ≤ i + n → x9 = nI i → va_P G.1 vwCl ([(tb, .inr (8, [.ref tbo, .int 0])), (tbo, .inl (G.2 5, 9, .inr (.inr (.inr (.inr tbg)))))] ++ va_pl L fp) H → va_D A ([(tb, .inr (8, [.ref tbo, .int 0])), (tbo, .inl (G.2 5, 9, .inr (.inr (.inr (.inr tbg)))))] ++ va_pl L fp) → va_S A s.heap H locs → lv_has ls 3 [(2, .int x9), (0, .ref tb), (1, .int 0)] → W p l e (headSpec (.code yX8_widen cX8_widen 3 none :: TT) ({ frames := 1, cells := 0, slots := 0, locals := 100 } : Room)).room s m [.ref tb, .int 0].toArray below meth c H locs 0 0 Q (F0 m 2 ls []) := by
    intro Q hex n
    induction n with
    | zero =>
      intro i x9  H locs ls h1 h2
      exact absurd h2 (by omega)
    | succ n ih =>
      intro i x9  H locs ls hi hin9 ex9 hP hD hS hl
      refine lv_iload_n hx hb dX8_widen_2 rfl (lv_at hl 0 rfl) ?_
      refine lv_aload_n hx hb dX8_widen_3 rfl (lv_at hl 1 rfl) ?_
      refine va_get (D := G.1) (ci := 8) (v := .ref tbo) (C := RX8) (T := TX8) (N := 2) hx hb ht inlX8 hown hK.1 hP 0 rfl rfl 0 (by decide) (ht (Cond.fieldLink RX8 17 "PloughDepot$Table" "cells" "[[I") mw_4_4) (fun _ h9 => h9) rfl dX8_widen_4 ?_
      refine va_alen hx hb hK.1 hP 1 5 rfl rfl (v := 9) rfl dX8_widen_7 ?_
      refine lv_icmp_ge (tgt := 56) hx hb dX8_widen_8 (by decide) (fun c9 => ?_) (fun c9 => ?_)
      · have hiN : i = 9 := by
          rcases Nat.lt_or_ge i 9 with q | q
          · exact absurd c9 (by rw [ex9]; exact nI_ge q (by first | decide | omega))
          · omega
        exact hex  H locs ls hP hD hS (lv_sub hl [1, 2] rfl)
      · have hlt : i < 9 := by
          rcases Nat.lt_or_ge i 9 with q | q
          · exact q
          · exact absurd (by rw [ex9]; exact nI_le q (by omega)) c9
        have hin_tbo : vp_in x9 9 := by rw [ex9]; exact vp_in_nI (by omega) (by first | decide | omega)
        have hx0 : (0 : Int32) ≤ x9 := by rw [ex9]; exact nI_pos' (by omega)
        refine lv_iload_n hx hb dX8_widen_11 rfl (lv_at hl 2 rfl) ?_
        refine lv_aload_n hx hb dX8_widen_12 rfl (lv_at hl 1 rfl) ?_
        refine va_get (D := G.1) (ci := 8) (v := .ref tbo) (C := RX8) (T := TX8) (N := 2) hx hb ht inlX8 hown hK.1 hP 0 rfl rfl 0 (by decide) (ht (Cond.fieldLink RX8 17 "PloughDepot$Table" "cells" "[[I") mw_4_4) (fun _ h9 => h9) rfl dX8_widen_13 ?_
        refine lv_iload_n hx hb dX8_widen_16 rfl (lv_at hl 0 rfl) ?_
        obtain ⟨y_2, hy_2, hLy_2⟩ := hgtb i (by omega)
        have hy_2 : tbg x9.toNatClampNeg = some y_2 := by rw [ex9, nI_clamp (by omega)]; exact hy_2
        refine ns_row hx hb hK hP 1 rfl hin_tbo hy_2 dX8_widen_17 ?_
        refine ns_plen (X := [(tb, .inr (8, [.ref tbo, .int 0])), (tbo, .inl (G.2 5, 9, .inr (.inr (.inr (.inr tbg)))))]) hx hb hK hRo hLy_2 hP dX8_widen_18 (fun n_3 h4n_3 h2n_3 => ?_)
        refine lv_topi (fun v_4 ev_4 => ?_)
        have h4v_4 : (4 : Int32) ≤ v_4 := by rw [ev_4]; exact nI_le (a := 4) h4n_3 (by omega)
        refine lv_icmp_le (tgt := 50) hx hb dX8_widen_19 (by decide) (fun c_5 => ?_) (fun c_5 => ?_)
        · obtain ⟨v_6, ev_6⟩ : ∃ y : Int32, y = x9 + 1 := ⟨_, rfl⟩
          refine lv_iinc (v := v_6) (lv' := [(2, .int v_6), (0, .ref tb), (1, .int 0)]) hx hb dX8_widen_50 hl (k := 0) rfl (by rw [ev_6]; rfl) (by decide) rfl (fun ls hl => ?_)
          refine lv_goto (tgt := 2) hx hb dX8_widen_53 (by decide) ?_
          exact ih (i + 1) _  _ _ _ (by omega) (by omega) (by rw [ev_6, ex9]; exact nI_1 i) hP hD hS (lv_sub hl [0, 1, 2] rfl)
        · exfalso; simp only [fa_lt, fa_le, fa_eq] at c9 hx0 h4v_4 c_5; have n0 : (0 : Int32).toInt = 0 := (by decide); have n4 : (4 : Int32).toInt = 4 := (by decide); have n9 : (9 : Int32).toInt = 9 := (by decide); omega
  refine lp_1 _ ?_ (10) 0 0  _ _ _ (by omega) (by omega) nI_0.symm hP hD hS (lv_sub hl [0, 1, 2] rfl)
  intro  H locs ls hP hD hS hl
  have hP9 := va_P.part (X := [(tb, .inr (8, [.ref tbo, .int 0])), (tbo, .inl (G.2 5, 9, .inr (.inr (.inr (.inr tbg)))))]) (cx := [(tb, .inr (8, [.ref tbo, .int 0])), (tbo, .inl (G.2 5, 9, .inr (.inr (.inr (.inr tbg)))))]) hP [0, 1] rfl
  have hD9 := va_D.part (X := [(tb, .inr (8, [.ref tbo, .int 0])), (tbo, .inl (G.2 5, 9, .inr (.inr (.inr (.inr tbg)))))]) (cx := [(tb, .inr (8, [.ref tbo, .int 0])), (tbo, .inl (G.2 5, 9, .inr (.inr (.inr (.inr tbg)))))]) hD [0, 1] (by decide) rfl
  exact W.vret hx hb hr (fun t ht hW => ⟨⟨(), rfl, trivial, ⟨by rw [ht]; exact hP9, hD9⟩⟩, hS.F ht⟩) hS.2.2 dX8_widen_56

set_option maxHeartbeats 4000000 in
set_option maxRecDepth 100000 in
theorem k_widen_3_0 (l : Launch) (G : GG) (sz : Nat) (tb : Nat) (tbo : Nat) (tbg : Nat → Option Nat) (L : List Nat) (fp : Nat → va_E) (hRo : Ro G L fp) (hgtb : Gr L tbg 3) : Met l yX8_widen (.code yX8_widen cX8_widen 3 none :: TT) ({ frames := 1, cells := 0, slots := 0, locals := 100 } : Room) (c0_P G [.ref tb, .int 0] sz ([(tb, .inr (8, [.ref tbo, .int 0])), (tbo, .inl (G.2 5, 3, .inr (.inr (.inr (.inr tbg)))))] ++ va_pl L fp)) (va_Qv (S := Unit) (fun (u : Unit) => True) (fun (u : Unit) (t : State) => c0_B G (va_A ([(tb, .inr (8, [.ref tbo, .int 0])), (tbo, .inl (G.2 5, 3, .inr (.inr (.inr (.inr tbg)))))] ++ va_pl L fp) sz) ([(tb, .inr (8, [.ref tbo, .int 0])), (tbo, .inl (G.2 5, 3, .inr (.inr (.inr (.inr tbg)))))] ++ va_pl L fp) t) (va_A ([(tb, .inr (8, [.ref tbo, .int 0])), (tbo, .inl (G.2 5, 3, .inr (.inr (.inr (.inr tbg)))))] ++ va_pl L fp) sz)) 0 0 (va_A ([(tb, .inr (8, [.ref tbo, .int 0])), (tbo, .inl (G.2 5, 3, .inr (.inr (.inr (.inr tbg)))))] ++ va_pl L fp) sz) := by
  refine Met.ofW (cc := cX8_widen) (maxL := 3) (ret := none) (by decide) rfl ?_
  intro p e s m args below meth c s₁ B hml hv
  obtain ⟨rfl, hsz, hP, hK, hD0⟩ := hv
  have hx := B.exec
  have hb := B.bytes
  have hr := B.returns
  have hts := atoms_spec (ws := .code yX8_widen cX8_widen 3 none :: TT) B.pre
  have ht := fun (w : Cond) (h : w ∈ TT) => hts w (List.mem_cons_of_mem _ h)
  have hown : s.vm.findClass RX8 = some m.cls := findClass_of_methodNamed B.named
  have hlocks := B.notSynchronized
  subst hsz
  have hD := hD0.self (sz := s.heap.size)
  generalize hAe : va_A ([(tb, .inr (8, [.ref tbo, .int 0])), (tbo, .inl (G.2 5, 3, .inr (.inr (.inr (.inr tbg)))))] ++ va_pl L fp) s.heap.size = A at hD ⊢
  have hA : ∀ q : Nat, s.heap.size ≤ q → A q := fun q h => by rw [← hAe]; exact Or.inr h
  have hS : va_S A s.heap s.heap [] := va_S.rf
  have hP : va_P G.1 vwCl ([(tb, .inr (8, [.ref tbo, .int 0])), (tbo, .inl (G.2 5, 3, .inr (.inr (.inr (.inr tbg)))))] ++ va_pl L fp) s.heap := hP
  have hl := lv_entry ([.ref tb, .int 0]) (n := 3) (Nat.le_of_ble_eq_true rfl)
  rw [lg_entry_eq]
  generalize (lg_sl ([.ref tb, .int 0]) ++ List.replicate (3 - (lg_sl ([.ref tb, .int 0])).length) Slot.unset).toArray = ls at hl ⊢
  have hl : lv_has ls 3 [(0, .ref tb), (1, .int 0)] := hl
  refine lv_iconst (v := 0) hx hb dX8_widen_0 (by decide) ?_
  refine lv_istore_n (lv' := [(2, .int 0), (0, .ref tb), (1, .int 0)]) hx hb dX8_widen_1 rfl hl (by decide) rfl (fun ls hl => ?_)
  have lp_1 : ∀ (Q : State → Prop), (∀  (H : Heap) (locs : List Loc) (ls : Array Slot), va_P G.1 vwCl ([(tb, .inr (8, [.ref tbo, .int 0])), (tbo, .inl (G.2 5, 3, .inr (.inr (.inr (.inr tbg)))))] ++ va_pl L fp) H → va_D A ([(tb, .inr (8, [.ref tbo, .int 0])), (tbo, .inl (G.2 5, 3, .inr (.inr (.inr (.inr tbg)))))] ++ va_pl L fp) → va_S A s.heap H locs → lv_has ls 3 [(0, .ref tb), (1, .int 0)] → W p l e (headSpec (.code yX8_widen cX8_widen 3 none :: TT) ({ frames := 1, cells := 0, slots := 0, locals := 100 } : Room)).room s m [.ref tb, .int 0].toArray below meth c H locs 0 0 Q (F0 m 56 ls [])) → ∀ (n i : Nat) (x9 : Int32)  (H : Heap) (locs : List Loc) (ls : Array Slot), i ≤ 3 → 4 ≤ i + n → x9 = nI i → va_P G.1 vwCl ([(tb, .inr (8, [.ref tbo, .int 0])), (tbo, .inl (G.2 5, 3, .inr (.inr (.inr (.inr tbg)))))] ++ va_pl L fp) H → va_D A ([(tb, .inr (8, [.ref tbo, .int 0])), (tbo, .inl (G.2 5, 3, .inr (.inr (.inr (.inr tbg)))))] ++ va_pl L fp) → va_S A s.heap H locs → lv_has ls 3 [(2, .int x9), (0, .ref tb), (1, .int 0)] → W p l e (headSpec (.code yX8_widen cX8_widen 3 none :: TT) ({ frames := 1, cells := 0, slots := 0, locals := 100 } : Room)).room s m [.ref tb, .int 0].toArray below meth c H locs 0 0 Q (F0 m 2 ls []) := by
    intro Q hex n
    induction n with
    | zero =>
      intro i x9  H locs ls h1 h2
      exact absurd h2 (by omega)
    | succ n ih =>
      intro i x9  H locs ls hi hin9 ex9 hP hD hS hl
      refine lv_iload_n hx hb dX8_widen_2 rfl (lv_at hl 0 rfl) ?_
      refine lv_aload_n hx hb dX8_widen_3 rfl (lv_at hl 1 rfl) ?_
      refine va_get (D := G.1) (ci := 8) (v := .ref tbo) (C := RX8) (T := TX8) (N := 2) hx hb ht inlX8 hown hK.1 hP 0 rfl rfl 0 (by decide) (ht (Cond.fieldLink RX8 17 "PloughDepot$Table" "cells" "[[I") mw_4_4) (fun _ h9 => h9) rfl dX8_widen_4 ?_
      refine va_alen hx hb hK.1 hP 1 5 rfl rfl (v := 3) rfl dX8_widen_7 ?_
      refine lv_icmp_ge (tgt := 56) hx hb dX8_widen_8 (by decide) (fun c9 => ?_) (fun c9 => ?_)
      · have hiN : i = 3 := by
          rcases Nat.lt_or_ge i 3 with q | q
          · exact absurd c9 (by rw [ex9]; exact nI_ge q (by first | decide | omega))
          · omega
        exact hex  H locs ls hP hD hS (lv_sub hl [1, 2] rfl)
      · have hlt : i < 3 := by
          rcases Nat.lt_or_ge i 3 with q | q
          · exact q
          · exact absurd (by rw [ex9]; exact nI_le q (by omega)) c9
        have hin_tbo : vp_in x9 3 := by rw [ex9]; exact vp_in_nI (by omega) (by first | decide | omega)
        have hx0 : (0 : Int32) ≤ x9 := by rw [ex9]; exact nI_pos' (by omega)
        refine lv_iload_n hx hb dX8_widen_11 rfl (lv_at hl 2 rfl) ?_
        refine lv_aload_n hx hb dX8_widen_12 rfl (lv_at hl 1 rfl) ?_
        refine va_get (D := G.1) (ci := 8) (v := .ref tbo) (C := RX8) (T := TX8) (N := 2) hx hb ht inlX8 hown hK.1 hP 0 rfl rfl 0 (by decide) (ht (Cond.fieldLink RX8 17 "PloughDepot$Table" "cells" "[[I") mw_4_4) (fun _ h9 => h9) rfl dX8_widen_13 ?_
        refine lv_iload_n hx hb dX8_widen_16 rfl (lv_at hl 0 rfl) ?_
        obtain ⟨y_2, hy_2, hLy_2⟩ := hgtb i (by omega)
        have hy_2 : tbg x9.toNatClampNeg = some y_2 := by rw [ex9, nI_clamp (by omega)]; exact hy_2
        refine ns_row hx hb hK hP 1 rfl hin_tbo hy_2 dX8_widen_17 ?_
        refine ns_plen (X := [(tb, .inr (8, [.ref tbo, .int 0])), (tbo, .inl (G.2 5, 3, .inr (.inr (.inr (.inr tbg)))))]) hx hb hK hRo hLy_2 hP dX8_widen_18 (fun n_3 h4n_3 h2n_3 => ?_)
        refine lv_topi (fun v_4 ev_4 => ?_)
        have h4v_4 : (4 : Int32) ≤ v_4 := by rw [ev_4]; exact nI_le (a := 4) h4n_3 (by omega)
        refine lv_icmp_le (tgt := 50) hx hb dX8_widen_19 (by decide) (fun c_5 => ?_) (fun c_5 => ?_)
        · obtain ⟨v_6, ev_6⟩ : ∃ y : Int32, y = x9 + 1 := ⟨_, rfl⟩
          refine lv_iinc (v := v_6) (lv' := [(2, .int v_6), (0, .ref tb), (1, .int 0)]) hx hb dX8_widen_50 hl (k := 0) rfl (by rw [ev_6]; rfl) (by decide) rfl (fun ls hl => ?_)
          refine lv_goto (tgt := 2) hx hb dX8_widen_53 (by decide) ?_
          exact ih (i + 1) _  _ _ _ (by omega) (by omega) (by rw [ev_6, ex9]; exact nI_1 i) hP hD hS (lv_sub hl [0, 1, 2] rfl)
        · exfalso; simp only [fa_lt, fa_le, fa_eq] at c9 hx0 h4v_4 c_5; have n0 : (0 : Int32).toInt = 0 := (by decide); have n3 : (3 : Int32).toInt = 3 := (by decide); have n4 : (4 : Int32).toInt = 4 := (by decide); omega
  refine lp_1 _ ?_ (4) 0 0  _ _ _ (by omega) (by omega) nI_0.symm hP hD hS (lv_sub hl [0, 1, 2] rfl)
  intro  H locs ls hP hD hS hl
  have hP9 := va_P.part (X := [(tb, .inr (8, [.ref tbo, .int 0])), (tbo, .inl (G.2 5, 3, .inr (.inr (.inr (.inr tbg)))))]) (cx := [(tb, .inr (8, [.ref tbo, .int 0])), (tbo, .inl (G.2 5, 3, .inr (.inr (.inr (.inr tbg)))))]) hP [0, 1] rfl
  have hD9 := va_D.part (X := [(tb, .inr (8, [.ref tbo, .int 0])), (tbo, .inl (G.2 5, 3, .inr (.inr (.inr (.inr tbg)))))]) (cx := [(tb, .inr (8, [.ref tbo, .int 0])), (tbo, .inl (G.2 5, 3, .inr (.inr (.inr (.inr tbg)))))]) hD [0, 1] (by decide) rfl
  exact W.vret hx hb hr (fun t ht hW => ⟨⟨(), rfl, trivial, ⟨by rw [ht]; exact hP9, hD9⟩⟩, hS.F ht⟩) hS.2.2 dX8_widen_56

set_option maxHeartbeats 4000000 in
set_option maxRecDepth 100000 in
theorem k_widen_4_0 (l : Launch) (G : GG) (sz : Nat) (tb : Nat) (tbo : Nat) (tbg : Nat → Option Nat) (L : List Nat) (fp : Nat → va_E) (hRo : Ro G L fp) (hgtb : Gr L tbg 4) : Met l yX8_widen (.code yX8_widen cX8_widen 3 none :: TT) ({ frames := 1, cells := 0, slots := 0, locals := 100 } : Room) (c0_P G [.ref tb, .int 0] sz ([(tb, .inr (8, [.ref tbo, .int 0])), (tbo, .inl (G.2 5, 4, .inr (.inr (.inr (.inr tbg)))))] ++ va_pl L fp)) (va_Qv (S := Unit) (fun (u : Unit) => True) (fun (u : Unit) (t : State) => c0_B G (va_A ([(tb, .inr (8, [.ref tbo, .int 0])), (tbo, .inl (G.2 5, 4, .inr (.inr (.inr (.inr tbg)))))] ++ va_pl L fp) sz) ([(tb, .inr (8, [.ref tbo, .int 0])), (tbo, .inl (G.2 5, 4, .inr (.inr (.inr (.inr tbg)))))] ++ va_pl L fp) t) (va_A ([(tb, .inr (8, [.ref tbo, .int 0])), (tbo, .inl (G.2 5, 4, .inr (.inr (.inr (.inr tbg)))))] ++ va_pl L fp) sz)) 0 0 (va_A ([(tb, .inr (8, [.ref tbo, .int 0])), (tbo, .inl (G.2 5, 4, .inr (.inr (.inr (.inr tbg)))))] ++ va_pl L fp) sz) := by
  refine Met.ofW (cc := cX8_widen) (maxL := 3) (ret := none) (by decide) rfl ?_
  intro p e s m args below meth c s₁ B hml hv
  obtain ⟨rfl, hsz, hP, hK, hD0⟩ := hv
  have hx := B.exec
  have hb := B.bytes
  have hr := B.returns
  have hts := atoms_spec (ws := .code yX8_widen cX8_widen 3 none :: TT) B.pre
  have ht := fun (w : Cond) (h : w ∈ TT) => hts w (List.mem_cons_of_mem _ h)
  have hown : s.vm.findClass RX8 = some m.cls := findClass_of_methodNamed B.named
  have hlocks := B.notSynchronized
  subst hsz
  have hD := hD0.self (sz := s.heap.size)
  generalize hAe : va_A ([(tb, .inr (8, [.ref tbo, .int 0])), (tbo, .inl (G.2 5, 4, .inr (.inr (.inr (.inr tbg)))))] ++ va_pl L fp) s.heap.size = A at hD ⊢
  have hA : ∀ q : Nat, s.heap.size ≤ q → A q := fun q h => by rw [← hAe]; exact Or.inr h
  have hS : va_S A s.heap s.heap [] := va_S.rf
  have hP : va_P G.1 vwCl ([(tb, .inr (8, [.ref tbo, .int 0])), (tbo, .inl (G.2 5, 4, .inr (.inr (.inr (.inr tbg)))))] ++ va_pl L fp) s.heap := hP
  have hl := lv_entry ([.ref tb, .int 0]) (n := 3) (Nat.le_of_ble_eq_true rfl)
  rw [lg_entry_eq]
  generalize (lg_sl ([.ref tb, .int 0]) ++ List.replicate (3 - (lg_sl ([.ref tb, .int 0])).length) Slot.unset).toArray = ls at hl ⊢
  have hl : lv_has ls 3 [(0, .ref tb), (1, .int 0)] := hl
  refine lv_iconst (v := 0) hx hb dX8_widen_0 (by decide) ?_
  refine lv_istore_n (lv' := [(2, .int 0), (0, .ref tb), (1, .int 0)]) hx hb dX8_widen_1 rfl hl (by decide) rfl (fun ls hl => ?_)
  have lp_1 : ∀ (Q : State → Prop), (∀  (H : Heap) (locs : List Loc) (ls : Array Slot), va_P G.1 vwCl ([(tb, .inr (8, [.ref tbo, .int 0])), (tbo, .inl (G.2 5, 4, .inr (.inr (.inr (.inr tbg)))))] ++ va_pl L fp) H → va_D A ([(tb, .inr (8, [.ref tbo, .int 0])), (tbo, .inl (G.2 5, 4, .inr (.inr (.inr (.inr tbg)))))] ++ va_pl L fp) → va_S A s.heap H locs → lv_has ls 3 [(0, .ref tb), (1, .int 0)] → W p l e (headSpec (.code yX8_widen cX8_widen 3 none :: TT) ({ frames := 1, cells := 0, slots := 0, locals := 100 } : Room)).room s m [.ref tb, .int 0].toArray below meth c H locs 0 0 Q (F0 m 56 ls [])) → ∀ (n i : Nat) (x9 : Int32)  (H : Heap) (locs : List Loc) (ls : Array Slot), i ≤ 4 → 5 ≤ i + n → x9 = nI i → va_P G.1 vwCl ([(tb, .inr (8, [.ref tbo, .int 0])), (tbo, .inl (G.2 5, 4, .inr (.inr (.inr (.inr tbg)))))] ++ va_pl L fp) H → va_D A ([(tb, .inr (8, [.ref tbo, .int 0])), (tbo, .inl (G.2 5, 4, .inr (.inr (.inr (.inr tbg)))))] ++ va_pl L fp) → va_S A s.heap H locs → lv_has ls 3 [(2, .int x9), (0, .ref tb), (1, .int 0)] → W p l e (headSpec (.code yX8_widen cX8_widen 3 none :: TT) ({ frames := 1, cells := 0, slots := 0, locals := 100 } : Room)).room s m [.ref tb, .int 0].toArray below meth c H locs 0 0 Q (F0 m 2 ls []) := by
    intro Q hex n
    induction n with
    | zero =>
      intro i x9  H locs ls h1 h2
      exact absurd h2 (by omega)
    | succ n ih =>
      intro i x9  H locs ls hi hin9 ex9 hP hD hS hl
      refine lv_iload_n hx hb dX8_widen_2 rfl (lv_at hl 0 rfl) ?_
      refine lv_aload_n hx hb dX8_widen_3 rfl (lv_at hl 1 rfl) ?_
      refine va_get (D := G.1) (ci := 8) (v := .ref tbo) (C := RX8) (T := TX8) (N := 2) hx hb ht inlX8 hown hK.1 hP 0 rfl rfl 0 (by decide) (ht (Cond.fieldLink RX8 17 "PloughDepot$Table" "cells" "[[I") mw_4_4) (fun _ h9 => h9) rfl dX8_widen_4 ?_
      refine va_alen hx hb hK.1 hP 1 5 rfl rfl (v := 4) rfl dX8_widen_7 ?_
      refine lv_icmp_ge (tgt := 56) hx hb dX8_widen_8 (by decide) (fun c9 => ?_) (fun c9 => ?_)
      · have hiN : i = 4 := by
          rcases Nat.lt_or_ge i 4 with q | q
          · exact absurd c9 (by rw [ex9]; exact nI_ge q (by first | decide | omega))
          · omega
        exact hex  H locs ls hP hD hS (lv_sub hl [1, 2] rfl)
      · have hlt : i < 4 := by
          rcases Nat.lt_or_ge i 4 with q | q
          · exact q
          · exact absurd (by rw [ex9]; exact nI_le q (by omega)) c9
        have hin_tbo : vp_in x9 4 := by rw [ex9]; exact vp_in_nI (by omega) (by first | decide | omega)
        have hx0 : (0 : Int32) ≤ x9 := by rw [ex9]; exact nI_pos' (by omega)
        refine lv_iload_n hx hb dX8_widen_11 rfl (lv_at hl 2 rfl) ?_
        refine lv_aload_n hx hb dX8_widen_12 rfl (lv_at hl 1 rfl) ?_
        refine va_get (D := G.1) (ci := 8) (v := .ref tbo) (C := RX8) (T := TX8) (N := 2) hx hb ht inlX8 hown hK.1 hP 0 rfl rfl 0 (by decide) (ht (Cond.fieldLink RX8 17 "PloughDepot$Table" "cells" "[[I") mw_4_4) (fun _ h9 => h9) rfl dX8_widen_13 ?_
        refine lv_iload_n hx hb dX8_widen_16 rfl (lv_at hl 0 rfl) ?_
        obtain ⟨y_2, hy_2, hLy_2⟩ := hgtb i (by omega)
        have hy_2 : tbg x9.toNatClampNeg = some y_2 := by rw [ex9, nI_clamp (by omega)]; exact hy_2
        refine ns_row hx hb hK hP 1 rfl hin_tbo hy_2 dX8_widen_17 ?_
        refine ns_plen (X := [(tb, .inr (8, [.ref tbo, .int 0])), (tbo, .inl (G.2 5, 4, .inr (.inr (.inr (.inr tbg)))))]) hx hb hK hRo hLy_2 hP dX8_widen_18 (fun n_3 h4n_3 h2n_3 => ?_)
        refine lv_topi (fun v_4 ev_4 => ?_)
        have h4v_4 : (4 : Int32) ≤ v_4 := by rw [ev_4]; exact nI_le (a := 4) h4n_3 (by omega)
        refine lv_icmp_le (tgt := 50) hx hb dX8_widen_19 (by decide) (fun c_5 => ?_) (fun c_5 => ?_)
        · obtain ⟨v_6, ev_6⟩ : ∃ y : Int32, y = x9 + 1 := ⟨_, rfl⟩
          refine lv_iinc (v := v_6) (lv' := [(2, .int v_6), (0, .ref tb), (1, .int 0)]) hx hb dX8_widen_50 hl (k := 0) rfl (by rw [ev_6]; rfl) (by decide) rfl (fun ls hl => ?_)
          refine lv_goto (tgt := 2) hx hb dX8_widen_53 (by decide) ?_
          exact ih (i + 1) _  _ _ _ (by omega) (by omega) (by rw [ev_6, ex9]; exact nI_1 i) hP hD hS (lv_sub hl [0, 1, 2] rfl)
        · exfalso; simp only [fa_lt, fa_le, fa_eq] at c9 hx0 h4v_4 c_5; have n0 : (0 : Int32).toInt = 0 := (by decide); have n4 : (4 : Int32).toInt = 4 := (by decide); omega
  refine lp_1 _ ?_ (5) 0 0  _ _ _ (by omega) (by omega) nI_0.symm hP hD hS (lv_sub hl [0, 1, 2] rfl)
  intro  H locs ls hP hD hS hl
  have hP9 := va_P.part (X := [(tb, .inr (8, [.ref tbo, .int 0])), (tbo, .inl (G.2 5, 4, .inr (.inr (.inr (.inr tbg)))))]) (cx := [(tb, .inr (8, [.ref tbo, .int 0])), (tbo, .inl (G.2 5, 4, .inr (.inr (.inr (.inr tbg)))))]) hP [0, 1] rfl
  have hD9 := va_D.part (X := [(tb, .inr (8, [.ref tbo, .int 0])), (tbo, .inl (G.2 5, 4, .inr (.inr (.inr (.inr tbg)))))]) (cx := [(tb, .inr (8, [.ref tbo, .int 0])), (tbo, .inl (G.2 5, 4, .inr (.inr (.inr (.inr tbg)))))]) hD [0, 1] (by decide) rfl
  exact W.vret hx hb hr (fun t ht hW => ⟨⟨(), rfl, trivial, ⟨by rw [ht]; exact hP9, hD9⟩⟩, hS.F ht⟩) hS.2.2 dX8_widen_56

set_option maxHeartbeats 4000000 in
set_option maxRecDepth 100000 in
theorem k_widen_9_1 (l : Launch) (G : GG) (sz : Nat) (tb : Nat) (tbo : Nat) (tbg : Nat → Option Nat) (L : List Nat) (fp : Nat → va_E) (hRo : Ro G L fp) (hgtb : Gr L tbg 9) : Met l yX8_widen (.code yX8_widen cX8_widen 3 none :: TT) ({ frames := 1, cells := 0, slots := 0, locals := 100 } : Room) (c0_P G [.ref tb, .int 1] sz ([(tb, .inr (8, [.ref tbo, .int 0])), (tbo, .inl (G.2 5, 9, .inr (.inr (.inr (.inr tbg)))))] ++ va_pl L fp)) (va_Qv (S := Unit) (fun (u : Unit) => True) (fun (u : Unit) (t : State) => c0_B G (va_A ([(tb, .inr (8, [.ref tbo, .int 0])), (tbo, .inl (G.2 5, 9, .inr (.inr (.inr (.inr tbg)))))] ++ va_pl L fp) sz) ([(tb, .inr (8, [.ref tbo, .int 0])), (tbo, .inl (G.2 5, 9, .inr (.inr (.inr (.inr tbg)))))] ++ va_pl L fp) t) (va_A ([(tb, .inr (8, [.ref tbo, .int 0])), (tbo, .inl (G.2 5, 9, .inr (.inr (.inr (.inr tbg)))))] ++ va_pl L fp) sz)) 0 0 (va_A ([(tb, .inr (8, [.ref tbo, .int 0])), (tbo, .inl (G.2 5, 9, .inr (.inr (.inr (.inr tbg)))))] ++ va_pl L fp) sz) := by
  refine Met.ofW (cc := cX8_widen) (maxL := 3) (ret := none) (by decide) rfl ?_
  intro p e s m args below meth c s₁ B hml hv
  obtain ⟨rfl, hsz, hP, hK, hD0⟩ := hv
  have hx := B.exec
  have hb := B.bytes
  have hr := B.returns
  have hts := atoms_spec (ws := .code yX8_widen cX8_widen 3 none :: TT) B.pre
  have ht := fun (w : Cond) (h : w ∈ TT) => hts w (List.mem_cons_of_mem _ h)
  have hown : s.vm.findClass RX8 = some m.cls := findClass_of_methodNamed B.named
  have hlocks := B.notSynchronized
  subst hsz
  have hD := hD0.self (sz := s.heap.size)
  generalize hAe : va_A ([(tb, .inr (8, [.ref tbo, .int 0])), (tbo, .inl (G.2 5, 9, .inr (.inr (.inr (.inr tbg)))))] ++ va_pl L fp) s.heap.size = A at hD ⊢
  have hA : ∀ q : Nat, s.heap.size ≤ q → A q := fun q h => by rw [← hAe]; exact Or.inr h
  have hS : va_S A s.heap s.heap [] := va_S.rf
  have hP : va_P G.1 vwCl ([(tb, .inr (8, [.ref tbo, .int 0])), (tbo, .inl (G.2 5, 9, .inr (.inr (.inr (.inr tbg)))))] ++ va_pl L fp) s.heap := hP
  have hl := lv_entry ([.ref tb, .int 1]) (n := 3) (Nat.le_of_ble_eq_true rfl)
  rw [lg_entry_eq]
  generalize (lg_sl ([.ref tb, .int 1]) ++ List.replicate (3 - (lg_sl ([.ref tb, .int 1])).length) Slot.unset).toArray = ls at hl ⊢
  have hl : lv_has ls 3 [(0, .ref tb), (1, .int 1)] := hl
  refine lv_iconst (v := 0) hx hb dX8_widen_0 (by decide) ?_
  refine lv_istore_n (lv' := [(2, .int 0), (0, .ref tb), (1, .int 1)]) hx hb dX8_widen_1 rfl hl (by decide) rfl (fun ls hl => ?_)
  have lp_1 : ∀ (Q : State → Prop), (∀  (H : Heap) (locs : List Loc) (ls : Array Slot), va_P G.1 vwCl ([(tb, .inr (8, [.ref tbo, .int 0])), (tbo, .inl (G.2 5, 9, .inr (.inr (.inr (.inr tbg)))))] ++ va_pl L fp) H → va_D A ([(tb, .inr (8, [.ref tbo, .int 0])), (tbo, .inl (G.2 5, 9, .inr (.inr (.inr (.inr tbg)))))] ++ va_pl L fp) → va_S A s.heap H locs → lv_has ls 3 [(0, .ref tb), (1, .int 1)] → W p l e (headSpec (.code yX8_widen cX8_widen 3 none :: TT) ({ frames := 1, cells := 0, slots := 0, locals := 100 } : Room)).room s m [.ref tb, .int 1].toArray below meth c H locs 0 0 Q (F0 m 56 ls [])) → ∀ (n i : Nat) (x9 : Int32)  (H : Heap) (locs : List Loc) (ls : Array Slot), i ≤ 9 → 10 ≤ i + n → x9 = nI i → va_P G.1 vwCl ([(tb, .inr (8, [.ref tbo, .int 0])), (tbo, .inl (G.2 5, 9, .inr (.inr (.inr (.inr tbg)))))] ++ va_pl L fp) H → va_D A ([(tb, .inr (8, [.ref tbo, .int 0])), (tbo, .inl (G.2 5, 9, .inr (.inr (.inr (.inr tbg)))))] ++ va_pl L fp) → va_S A s.heap H locs → lv_has ls 3 [(2, .int x9), (0, .ref tb), (1, .int 1)] → W p l e (headSpec (.code yX8_widen cX8_widen 3 none :: TT) ({ frames := 1, cells := 0, slots := 0, locals := 100 } : Room)).room s m [.ref tb, .int 1].toArray below meth c H locs 0 0 Q (F0 m 2 ls []) := by
    intro Q hex n
    induction n with
    | zero =>
      intro i x9  H locs ls h1 h2
      exact absurd h2 (by omega)
    | succ n ih =>
      intro i x9  H locs ls hi hin9 ex9 hP hD hS hl
      refine lv_iload_n hx hb dX8_widen_2 rfl (lv_at hl 0 rfl) ?_
      refine lv_aload_n hx hb dX8_widen_3 rfl (lv_at hl 1 rfl) ?_
      refine va_get (D := G.1) (ci := 8) (v := .ref tbo) (C := RX8) (T := TX8) (N := 2) hx hb ht inlX8 hown hK.1 hP 0 rfl rfl 0 (by decide) (ht (Cond.fieldLink RX8 17 "PloughDepot$Table" "cells" "[[I") mw_4_4) (fun _ h9 => h9) rfl dX8_widen_4 ?_
      refine va_alen hx hb hK.1 hP 1 5 rfl rfl (v := 9) rfl dX8_widen_7 ?_
      refine lv_icmp_ge (tgt := 56) hx hb dX8_widen_8 (by decide) (fun c9 => ?_) (fun c9 => ?_)
      · have hiN : i = 9 := by
          rcases Nat.lt_or_ge i 9 with q | q
          · exact absurd c9 (by rw [ex9]; exact nI_ge q (by first | decide | omega))
          · omega
        exact hex  H locs ls hP hD hS (lv_sub hl [1, 2] rfl)
      · have hlt : i < 9 := by
          rcases Nat.lt_or_ge i 9 with q | q
          · exact q
          · exact absurd (by rw [ex9]; exact nI_le q (by omega)) c9
        have hin_tbo : vp_in x9 9 := by rw [ex9]; exact vp_in_nI (by omega) (by first | decide | omega)
        have hx0 : (0 : Int32) ≤ x9 := by rw [ex9]; exact nI_pos' (by omega)
        refine lv_iload_n hx hb dX8_widen_11 rfl (lv_at hl 2 rfl) ?_
        refine lv_aload_n hx hb dX8_widen_12 rfl (lv_at hl 1 rfl) ?_
        refine va_get (D := G.1) (ci := 8) (v := .ref tbo) (C := RX8) (T := TX8) (N := 2) hx hb ht inlX8 hown hK.1 hP 0 rfl rfl 0 (by decide) (ht (Cond.fieldLink RX8 17 "PloughDepot$Table" "cells" "[[I") mw_4_4) (fun _ h9 => h9) rfl dX8_widen_13 ?_
        refine lv_iload_n hx hb dX8_widen_16 rfl (lv_at hl 0 rfl) ?_
        obtain ⟨y_2, hy_2, hLy_2⟩ := hgtb i (by omega)
        have hy_2 : tbg x9.toNatClampNeg = some y_2 := by rw [ex9, nI_clamp (by omega)]; exact hy_2
        refine ns_row hx hb hK hP 1 rfl hin_tbo hy_2 dX8_widen_17 ?_
        refine ns_plen (X := [(tb, .inr (8, [.ref tbo, .int 0])), (tbo, .inl (G.2 5, 9, .inr (.inr (.inr (.inr tbg)))))]) hx hb hK hRo hLy_2 hP dX8_widen_18 (fun n_3 h4n_3 h2n_3 => ?_)
        refine lv_topi (fun v_4 ev_4 => ?_)
        have h4v_4 : (4 : Int32) ≤ v_4 := by rw [ev_4]; exact nI_le (a := 4) h4n_3 (by omega)
        refine lv_icmp_le (tgt := 50) hx hb dX8_widen_19 (by decide) (fun c_5 => ?_) (fun c_5 => ?_)
        · obtain ⟨v_6, ev_6⟩ : ∃ y : Int32, y = x9 + 1 := ⟨_, rfl⟩
          refine lv_iinc (v := v_6) (lv' := [(2, .int v_6), (0, .ref tb), (1, .int 1)]) hx hb dX8_widen_50 hl (k := 0) rfl (by rw [ev_6]; rfl) (by decide) rfl (fun ls hl => ?_)
          refine lv_goto (tgt := 2) hx hb dX8_widen_53 (by decide) ?_
          exact ih (i + 1) _  _ _ _ (by omega) (by omega) (by rw [ev_6, ex9]; exact nI_1 i) hP hD hS (lv_sub hl [0, 1, 2] rfl)
        · exfalso; simp only [fa_lt, fa_le, fa_eq] at c9 hx0 h4v_4 c_5; have n0 : (0 : Int32).toInt = 0 := (by decide); have n1 : (1 : Int32).toInt = 1 := (by decide); have n4 : (4 : Int32).toInt = 4 := (by decide); have n9 : (9 : Int32).toInt = 9 := (by decide); omega
  refine lp_1 _ ?_ (10) 0 0  _ _ _ (by omega) (by omega) nI_0.symm hP hD hS (lv_sub hl [0, 1, 2] rfl)
  intro  H locs ls hP hD hS hl
  have hP9 := va_P.part (X := [(tb, .inr (8, [.ref tbo, .int 0])), (tbo, .inl (G.2 5, 9, .inr (.inr (.inr (.inr tbg)))))]) (cx := [(tb, .inr (8, [.ref tbo, .int 0])), (tbo, .inl (G.2 5, 9, .inr (.inr (.inr (.inr tbg)))))]) hP [0, 1] rfl
  have hD9 := va_D.part (X := [(tb, .inr (8, [.ref tbo, .int 0])), (tbo, .inl (G.2 5, 9, .inr (.inr (.inr (.inr tbg)))))]) (cx := [(tb, .inr (8, [.ref tbo, .int 0])), (tbo, .inl (G.2 5, 9, .inr (.inr (.inr (.inr tbg)))))]) hD [0, 1] (by decide) rfl
  exact W.vret hx hb hr (fun t ht hW => ⟨⟨(), rfl, trivial, ⟨by rw [ht]; exact hP9, hD9⟩⟩, hS.F ht⟩) hS.2.2 dX8_widen_56

set_option maxHeartbeats 4000000 in
set_option maxRecDepth 100000 in
theorem k_tbecome_9 (l : Launch) (G : GG) (sz : Nat) (tb : Nat) (ob : Nat) (tbo : Nat) (tbg : Nat → Option Nat) (obo : Nat) (obg : Nat → Option Nat) (L : List Nat) (fp : Nat → va_E) (hRo : Ro G L fp) (hgtb : Gr L tbg 9) (hgob : Gr L obg 9) : Met l yX8_become (.code yX8_become cX8_become 3 none :: TT) ({ frames := 2, cells := 0, slots := 0, locals := 200 } : Room) (c0_P G [.ref tb, .ref ob] sz ([(tb, .inr (8, [.ref tbo, .int 0])), (tbo, .inl (G.2 5, 9, .inr (.inr (.inr (.inr tbg))))), (ob, .inr (8, [.ref obo, .int 0])), (obo, .inl (G.2 5, 9, .inr (.inr (.inr (.inr obg)))))] ++ va_pl L fp)) (va_Qv (S := (Nat → va_E)) (fun (u : (Nat → va_E)) => Ro G L u) (fun (u : (Nat → va_E)) (t : State) => c0_B G (va_A ([(tb, .inr (8, [.ref tbo, .int 0])), (tbo, .inl (G.2 5, 9, .inr (.inr (.inr (.inr tbg))))), (ob, .inr (8, [.ref obo, .int 0])), (obo, .inl (G.2 5, 9, .inr (.inr (.inr (.inr obg)))))] ++ va_pl L fp) sz) ([(tb, .inr (8, [.ref tbo, .int 0])), (tbo, .inl (G.2 5, 9, .inr (.inr (.inr (.inr tbg))))), (ob, .inr (8, [.ref obo, .int 0])), (obo, .inl (G.2 5, 9, .inr (.inr (.inr (.inr obg)))))] ++ va_pl L u) t) (va_A ([(tb, .inr (8, [.ref tbo, .int 0])), (tbo, .inl (G.2 5, 9, .inr (.inr (.inr (.inr tbg))))), (ob, .inr (8, [.ref obo, .int 0])), (obo, .inl (G.2 5, 9, .inr (.inr (.inr (.inr obg)))))] ++ va_pl L fp) sz)) 0 0 (va_A ([(tb, .inr (8, [.ref tbo, .int 0])), (tbo, .inl (G.2 5, 9, .inr (.inr (.inr (.inr tbg))))), (ob, .inr (8, [.ref obo, .int 0])), (obo, .inl (G.2 5, 9, .inr (.inr (.inr (.inr obg)))))] ++ va_pl L fp) sz) := by
  refine Met.ofW (cc := cX8_become) (maxL := 3) (ret := none) (by decide) rfl ?_
  intro p e s m args below meth c s₁ B hml hv
  obtain ⟨rfl, hsz, hP, hK, hD0⟩ := hv
  have hx := B.exec
  have hb := B.bytes
  have hr := B.returns
  have hts := atoms_spec (ws := .code yX8_become cX8_become 3 none :: TT) B.pre
  have ht := fun (w : Cond) (h : w ∈ TT) => hts w (List.mem_cons_of_mem _ h)
  have hown : s.vm.findClass RX8 = some m.cls := findClass_of_methodNamed B.named
  have hlocks := B.notSynchronized
  subst hsz
  have hD := hD0.self (sz := s.heap.size)
  generalize hAe : va_A ([(tb, .inr (8, [.ref tbo, .int 0])), (tbo, .inl (G.2 5, 9, .inr (.inr (.inr (.inr tbg))))), (ob, .inr (8, [.ref obo, .int 0])), (obo, .inl (G.2 5, 9, .inr (.inr (.inr (.inr obg)))))] ++ va_pl L fp) s.heap.size = A at hD ⊢
  have hA : ∀ q : Nat, s.heap.size ≤ q → A q := fun q h => by rw [← hAe]; exact Or.inr h
  have hS : va_S A s.heap s.heap [] := va_S.rf
  have hP : va_P G.1 vwCl ([(tb, .inr (8, [.ref tbo, .int 0])), (tbo, .inl (G.2 5, 9, .inr (.inr (.inr (.inr tbg))))), (ob, .inr (8, [.ref obo, .int 0])), (obo, .inl (G.2 5, 9, .inr (.inr (.inr (.inr obg)))))] ++ va_pl L fp) s.heap := hP
  have hl := lv_entry ([.ref tb, .ref ob]) (n := 3) (Nat.le_of_ble_eq_true rfl)
  rw [lg_entry_eq]
  generalize (lg_sl ([.ref tb, .ref ob]) ++ List.replicate (3 - (lg_sl ([.ref tb, .ref ob])).length) Slot.unset).toArray = ls at hl ⊢
  have hl : lv_has ls 3 [(0, .ref tb), (1, .ref ob)] := hl
  refine lv_aload_n hx hb dX8_become_0 rfl (lv_at hl 0 rfl) ?_
  refine lv_aload_n hx hb dX8_become_1 rfl (lv_at hl 1 rfl) ?_
  refine va_get (D := G.1) (ci := 8) (v := .int 0) (C := RX8) (T := TX8) (N := 2) hx hb ht inlX8 hown hK.1 hP 2 rfl rfl 1 (by decide) (ht (Cond.fieldLink RX8 9 "PloughDepot$Table" "size" "I") mw_4_2) (fun _ h9 => h9) rfl dX8_become_2 ?_
  have hPc := va_P.part (X := [(tb, .inr (8, [.ref tbo, .int 0])), (tbo, .inl (G.2 5, 9, .inr (.inr (.inr (.inr tbg))))), (ob, .inr (8, [.ref obo, .int 0])), (obo, .inl (G.2 5, 9, .inr (.inr (.inr (.inr obg)))))]) (cx := [(tb, .inr (8, [.ref tbo, .int 0])), (tbo, .inl (G.2 5, 9, .inr (.inr (.inr (.inr tbg)))))]) hP [0, 1] rfl
  have hDc := va_D.part (X := [(tb, .inr (8, [.ref tbo, .int 0])), (tbo, .inl (G.2 5, 9, .inr (.inr (.inr (.inr tbg))))), (ob, .inr (8, [.ref obo, .int 0])), (obo, .inl (G.2 5, 9, .inr (.inr (.inr (.inr obg)))))]) (cx := [(tb, .inr (8, [.ref tbo, .int 0])), (tbo, .inl (G.2 5, 9, .inr (.inr (.inr (.inr tbg)))))]) hD [0, 1] (by decide) rfl
  have hFc := va_freeP (X := [(tb, .inr (8, [.ref tbo, .int 0])), (tbo, .inl (G.2 5, 9, .inr (.inr (.inr (.inr tbg))))), (ob, .inr (8, [.ref obo, .int 0])), (obo, .inl (G.2 5, 9, .inr (.inr (.inr (.inr obg)))))]) (cx := [(tb, .inr (8, [.ref tbo, .int 0])), (tbo, .inl (G.2 5, 9, .inr (.inr (.inr (.inr tbg)))))]) hD hS hA [0, 1] rfl
  refine va_callv (va_runV (As := [.int 0]) (rest := []) ⟨hx, hb, hml, hown, hts⟩ (k_widen_9_0 l G _ tb tbo tbg L fp (by first | assumption | decide) (by first | assumption | decide)) (cwV 1 hts (gd_V mw_9_5 mw_9_6 mw_9_7 mw_3_13 mw_9_8) rfl rfl rfl ⟨rfl, yk_X8_widen⟩ ⟨Nat.le_of_ble_eq_true rfl, Nat.le_of_ble_eq_true rfl⟩) (c0_preV (q0 := 0) (ci := 8) (q := (RX8, TX8, 2)) hPc hK hDc rfl rfl) rfl rfl hl.1 rfl (lv_room (Nat.le_of_ble_eq_true rfl)) dX8_become_5 ⟨Nat.le_of_ble_eq_true rfl, Nat.le_of_ble_eq_true rfl⟩) hS (fun q _ h => hFc q h) hFc (fun u t H1 locs ht1 hvm hw hB hz1 hk1 hS => ?_)
  try dsimp only at hw hB
  obtain ⟨hP1, hD1⟩ := hB
  rw [ht1] at hP1
  obtain ⟨hP, hD⟩ := va_joinP (X := [(tb, .inr (8, [.ref tbo, .int 0])), (tbo, .inl (G.2 5, 9, .inr (.inr (.inr (.inr tbg))))), (ob, .inr (8, [.ref obo, .int 0])), (obo, .inl (G.2 5, 9, .inr (.inr (.inr (.inr obg)))))]) (cx := [(tb, .inr (8, [.ref tbo, .int 0])), (tbo, .inl (G.2 5, 9, .inr (.inr (.inr (.inr tbg)))))]) (wr := [(ob, .inr (8, [.ref obo, .int 0])), (obo, .inl (G.2 5, 9, .inr (.inr (.inr (.inr obg)))))]) (rx := [(tb, .inr (8, [.ref tbo, .int 0])), (tbo, .inl (G.2 5, 9, .inr (.inr (.inr (.inr tbg)))))]) (pl1 := va_pl L fp) hP hD [0, 1] [2, 3] rfl rfl (by decide) (by decide) hk1 hFc hP1 hD1
  generalize H1 = H at hP hS ⊢
  have hP : va_P G.1 vwCl ([(ob, .inr (8, [.ref obo, .int 0])), (obo, .inl (G.2 5, 9, .inr (.inr (.inr (.inr obg))))), (tb, .inr (8, [.ref tbo, .int 0])), (tbo, .inl (G.2 5, 9, .inr (.inr (.inr (.inr tbg)))))] ++ va_pl L fp) H := hP
  have hD : va_D A ([(ob, .inr (8, [.ref obo, .int 0])), (obo, .inl (G.2 5, 9, .inr (.inr (.inr (.inr obg))))), (tb, .inr (8, [.ref tbo, .int 0])), (tbo, .inl (G.2 5, 9, .inr (.inr (.inr (.inr tbg)))))] ++ va_pl L fp) := hD
  refine lv_iconst (v := 0) hx hb dX8_become_8 (by decide) ?_
  refine lv_istore_n (lv' := [(2, .int 0), (0, .ref tb), (1, .ref ob)]) hx hb dX8_become_9 rfl hl (by decide) rfl (fun ls hl => ?_)
  have lp_1 : ∀ (Q : State → Prop), (∀ (fp_1 : Nat → va_E) (H : Heap) (locs : List Loc) (ls : Array Slot), Ro G L fp_1 → va_P G.1 vwCl ([(ob, .inr (8, [.ref obo, .int 0])), (obo, .inl (G.2 5, 9, .inr (.inr (.inr (.inr obg))))), (tb, .inr (8, [.ref tbo, .int 0])), (tbo, .inl (G.2 5, 9, .inr (.inr (.inr (.inr tbg)))))] ++ va_pl L fp_1) H → va_D A ([(ob, .inr (8, [.ref obo, .int 0])), (obo, .inl (G.2 5, 9, .inr (.inr (.inr (.inr obg))))), (tb, .inr (8, [.ref tbo, .int 0])), (tbo, .inl (G.2 5, 9, .inr (.inr (.inr (.inr tbg)))))] ++ va_pl L fp_1) → va_S A s.heap H locs → lv_has ls 3 [(0, .ref tb), (1, .ref ob)] → W p l e (headSpec (.code yX8_become cX8_become 3 none :: TT) ({ frames := 2, cells := 0, slots := 0, locals := 200 } : Room)).room s m [.ref tb, .ref ob].toArray below meth c H locs 0 0 Q (F0 m 55 ls [])) → ∀ (n i : Nat) (x9 : Int32) (fp_1 : Nat → va_E) (H : Heap) (locs : List Loc) (ls : Array Slot), i ≤ 9 → 10 ≤ i + n → x9 = nI i → Ro G L fp_1 → va_P G.1 vwCl ([(ob, .inr (8, [.ref obo, .int 0])), (obo, .inl (G.2 5, 9, .inr (.inr (.inr (.inr obg))))), (tb, .inr (8, [.ref tbo, .int 0])), (tbo, .inl (G.2 5, 9, .inr (.inr (.inr (.inr tbg)))))] ++ va_pl L fp_1) H → va_D A ([(ob, .inr (8, [.ref obo, .int 0])), (obo, .inl (G.2 5, 9, .inr (.inr (.inr (.inr obg))))), (tb, .inr (8, [.ref tbo, .int 0])), (tbo, .inl (G.2 5, 9, .inr (.inr (.inr (.inr tbg)))))] ++ va_pl L fp_1) → va_S A s.heap H locs → lv_has ls 3 [(2, .int x9), (0, .ref tb), (1, .ref ob)] → W p l e (headSpec (.code yX8_become cX8_become 3 none :: TT) ({ frames := 2, cells := 0, slots := 0, locals := 200 } : Room)).room s m [.ref tb, .ref ob].toArray below meth c H locs 0 0 Q (F0 m 10 ls []) := by
    intro Q hex n
    induction n with
    | zero =>
      intro i x9 fp_1 H locs ls h1 h2
      exact absurd h2 (by omega)
    | succ n ih =>
      intro i x9 fp_1 H locs ls hi hin9 ex9 hRo hP hD hS hl
      refine lv_iload_n hx hb dX8_become_10 rfl (lv_at hl 0 rfl) ?_
      refine lv_aload_n hx hb dX8_become_11 rfl (lv_at hl 1 rfl) ?_
      refine va_get (D := G.1) (ci := 8) (v := .ref tbo) (C := RX8) (T := TX8) (N := 2) hx hb ht inlX8 hown hK.1 hP 2 rfl rfl 0 (by decide) (ht (Cond.fieldLink RX8 17 "PloughDepot$Table" "cells" "[[I") mw_4_4) (fun _ h9 => h9) rfl dX8_become_12 ?_
      refine va_alen hx hb hK.1 hP 3 5 rfl rfl (v := 9) rfl dX8_become_15 ?_
      refine lv_icmp_ge (tgt := 55) hx hb dX8_become_16 (by decide) (fun c9 => ?_) (fun c9 => ?_)
      · have hiN : i = 9 := by
          rcases Nat.lt_or_ge i 9 with q | q
          · exact absurd c9 (by rw [ex9]; exact nI_ge q (by first | decide | omega))
          · omega
        exact hex fp_1 H locs ls hRo hP hD hS (lv_sub hl [1, 2] rfl)
      · have hlt : i < 9 := by
          rcases Nat.lt_or_ge i 9 with q | q
          · exact q
          · exact absurd (by rw [ex9]; exact nI_le q (by omega)) c9
        have hin_tbo : vp_in x9 9 := by rw [ex9]; exact vp_in_nI (by omega) (by first | decide | omega)
        have hx0 : (0 : Int32) ≤ x9 := by rw [ex9]; exact nI_pos' (by omega)
        refine lv_iload_n hx hb dX8_become_19 rfl (lv_at hl 0 rfl) ?_
        refine lv_aload_n hx hb dX8_become_20 rfl (lv_at hl 2 rfl) ?_
        refine va_get (D := G.1) (ci := 8) (v := .ref obo) (C := RX8) (T := TX8) (N := 2) hx hb ht inlX8 hown hK.1 hP 0 rfl rfl 0 (by decide) (ht (Cond.fieldLink RX8 17 "PloughDepot$Table" "cells" "[[I") mw_4_4) (fun _ h9 => h9) rfl dX8_become_21 ?_
        refine va_alen hx hb hK.1 hP 1 5 rfl rfl (v := 9) rfl dX8_become_24 ?_
        refine lv_icmp_ge (tgt := 55) hx hb dX8_become_25 (by decide) (fun c_2 => ?_) (fun c_2 => ?_)
        · exfalso; simp only [fa_lt, fa_le, fa_eq] at c9 hx0 c_2; have n0 : (0 : Int32).toInt = 0 := (by decide); have n9 : (9 : Int32).toInt = 9 := (by decide); omega
        · refine lv_aload_n hx hb dX8_become_28 rfl (lv_at hl 2 rfl) ?_
          refine va_get (D := G.1) (ci := 8) (v := .ref obo) (C := RX8) (T := TX8) (N := 2) hx hb ht inlX8 hown hK.1 hP 0 rfl rfl 0 (by decide) (ht (Cond.fieldLink RX8 17 "PloughDepot$Table" "cells" "[[I") mw_4_4) (fun _ h9 => h9) rfl dX8_become_29 ?_
          refine lv_iload_n hx hb dX8_become_32 rfl (lv_at hl 0 rfl) ?_
          obtain ⟨y_3, hy_3, hLy_3⟩ := hgob i (by omega)
          have hy_3 : obg x9.toNatClampNeg = some y_3 := by rw [ex9, nI_clamp (by omega)]; exact hy_3
          refine ns_row hx hb hK hP 1 rfl hin_tbo hy_3 dX8_become_33 ?_
          refine lv_iconst (v := 0) hx hb dX8_become_34 (by decide) ?_
          refine lv_aload_n hx hb dX8_become_35 rfl (lv_at hl 1 rfl) ?_
          refine va_get (D := G.1) (ci := 8) (v := .ref tbo) (C := RX8) (T := TX8) (N := 2) hx hb ht inlX8 hown hK.1 hP 2 rfl rfl 0 (by decide) (ht (Cond.fieldLink RX8 17 "PloughDepot$Table" "cells" "[[I") mw_4_4) (fun _ h9 => h9) rfl dX8_become_36 ?_
          refine lv_iload_n hx hb dX8_become_39 rfl (lv_at hl 0 rfl) ?_
          obtain ⟨y_4, hy_4, hLy_4⟩ := hgtb i (by omega)
          have hy_4 : tbg x9.toNatClampNeg = some y_4 := by rw [ex9, nI_clamp (by omega)]; exact hy_4
          refine ns_row hx hb hK hP 3 rfl hin_tbo hy_4 dX8_become_40 ?_
          refine lv_iconst (v := 0) hx hb dX8_become_41 (by decide) ?_
          refine lv_aload_n hx hb dX8_become_42 rfl (lv_at hl 2 rfl) ?_
          refine va_get (D := G.1) (ci := 8) (v := .int 0) (C := RX8) (T := TX8) (N := 2) hx hb ht inlX8 hown hK.1 hP 0 rfl rfl 1 (by decide) (ht (Cond.fieldLink RX8 9 "PloughDepot$Table" "size" "I") mw_4_2) (fun _ h9 => h9) rfl dX8_become_43 ?_
          refine ns_pcopy (X := [(ob, .inr (8, [.ref obo, .int 0])), (obo, .inl (G.2 5, 9, .inr (.inr (.inr (.inr obg))))), (tb, .inr (8, [.ref tbo, .int 0])), (tbo, .inl (G.2 5, 9, .inr (.inr (.inr (.inr tbg)))))]) hx hb (by rw [hml]; exact hl.1.symm) hown (ht (Cond.methodLink RX8 32 arraycopyName) mw_9_4) (ht (Cond.native arraycopyName) mw_8_16) (ht (Cond.static arraycopyName) mw_8_17) (ht (Cond.initialized "java/lang/System") mw_8_18) hK hRo hLy_4 hLy_3 hP hD hS (Nat.le_of_ble_eq_true rfl) (Nat.le_of_ble_eq_true rfl) dX8_become_46 (fun fp_5 H locs hRo hP hD hS => ?_)
          obtain ⟨v_6, ev_6⟩ : ∃ y : Int32, y = x9 + 1 := ⟨_, rfl⟩
          refine lv_iinc (v := v_6) (lv' := [(2, .int v_6), (0, .ref tb), (1, .ref ob)]) hx hb dX8_become_49 hl (k := 0) rfl (by rw [ev_6]; rfl) (by decide) rfl (fun ls hl => ?_)
          refine lv_goto (tgt := 10) hx hb dX8_become_52 (by decide) ?_
          exact ih (i + 1) _ fp_5 _ _ _ (by omega) (by omega) (by rw [ev_6, ex9]; exact nI_1 i) hRo hP hD hS (lv_sub hl [0, 1, 2] rfl)
  refine lp_1 _ ?_ (10) 0 0 fp _ _ _ (by omega) (by omega) nI_0.symm hRo hP hD hS (lv_sub hl [0, 1, 2] rfl)
  intro fp_1 H locs ls hRo hP hD hS hl
  refine lv_aload_n hx hb dX8_become_55 rfl (lv_at hl 0 rfl) ?_
  refine lv_aload_n hx hb dX8_become_56 rfl (lv_at hl 1 rfl) ?_
  refine va_get (D := G.1) (ci := 8) (v := .int 0) (C := RX8) (T := TX8) (N := 2) hx hb ht inlX8 hown hK.1 hP 0 rfl rfl 1 (by decide) (ht (Cond.fieldLink RX8 9 "PloughDepot$Table" "size" "I") mw_4_2) (fun _ h9 => h9) rfl dX8_become_57 ?_
  refine va_put (D := G.1) (ci := 8) (v := .int 0) (ty := tyX8 1) (C := RX8) (T := TX8) (N := 2) hx hb ht inlX8 tyX8 tyX8_ok nmX8 hown hK.1 hP hD hS 2 rfl rfl 1 (by decide) (ht (Cond.fieldLink RX8 9 "PloughDepot$Table" "size" "I") mw_4_2) (fun _ h9 => h9) rfl (tyX8_ok 1 (by decide)) rfl rfl (Nat.le_of_ble_eq_true rfl) dX8_become_60 (fun H locs hP hD hS => ?_)
  have hP : va_P G.1 vwCl ([(ob, .inr (8, [.ref obo, .int 0])), (obo, .inl (G.2 5, 9, .inr (.inr (.inr (.inr obg))))), (tb, .inr (8, [.ref tbo, .int 0])), (tbo, .inl (G.2 5, 9, .inr (.inr (.inr (.inr tbg)))))] ++ va_pl L fp_1) H := hP
  have hD : va_D A ([(ob, .inr (8, [.ref obo, .int 0])), (obo, .inl (G.2 5, 9, .inr (.inr (.inr (.inr obg))))), (tb, .inr (8, [.ref tbo, .int 0])), (tbo, .inl (G.2 5, 9, .inr (.inr (.inr (.inr tbg)))))] ++ va_pl L fp_1) := hD
  have hP9 := va_P.part (X := [(ob, .inr (8, [.ref obo, .int 0])), (obo, .inl (G.2 5, 9, .inr (.inr (.inr (.inr obg))))), (tb, .inr (8, [.ref tbo, .int 0])), (tbo, .inl (G.2 5, 9, .inr (.inr (.inr (.inr tbg)))))]) (cx := [(tb, .inr (8, [.ref tbo, .int 0])), (tbo, .inl (G.2 5, 9, .inr (.inr (.inr (.inr tbg))))), (ob, .inr (8, [.ref obo, .int 0])), (obo, .inl (G.2 5, 9, .inr (.inr (.inr (.inr obg)))))]) hP [2, 3, 0, 1] rfl
  have hD9 := va_D.part (X := [(ob, .inr (8, [.ref obo, .int 0])), (obo, .inl (G.2 5, 9, .inr (.inr (.inr (.inr obg))))), (tb, .inr (8, [.ref tbo, .int 0])), (tbo, .inl (G.2 5, 9, .inr (.inr (.inr (.inr tbg)))))]) (cx := [(tb, .inr (8, [.ref tbo, .int 0])), (tbo, .inl (G.2 5, 9, .inr (.inr (.inr (.inr tbg))))), (ob, .inr (8, [.ref obo, .int 0])), (obo, .inl (G.2 5, 9, .inr (.inr (.inr (.inr obg)))))]) hD [2, 3, 0, 1] (by decide) rfl
  exact W.vret hx hb hr (fun t ht hW => ⟨⟨fp_1, rfl, hRo, ⟨by rw [ht]; exact hP9, hD9⟩⟩, hS.F ht⟩) hS.2.2 dX8_become_63

set_option maxHeartbeats 4000000 in
set_option maxRecDepth 100000 in
theorem k_tbecome_3 (l : Launch) (G : GG) (sz : Nat) (tb : Nat) (ob : Nat) (tbo : Nat) (tbg : Nat → Option Nat) (obo : Nat) (obg : Nat → Option Nat) (L : List Nat) (fp : Nat → va_E) (hRo : Ro G L fp) (hgtb : Gr L tbg 3) (hgob : Gr L obg 3) : Met l yX8_become (.code yX8_become cX8_become 3 none :: TT) ({ frames := 2, cells := 0, slots := 0, locals := 200 } : Room) (c0_P G [.ref tb, .ref ob] sz ([(tb, .inr (8, [.ref tbo, .int 0])), (tbo, .inl (G.2 5, 3, .inr (.inr (.inr (.inr tbg))))), (ob, .inr (8, [.ref obo, .int 0])), (obo, .inl (G.2 5, 3, .inr (.inr (.inr (.inr obg)))))] ++ va_pl L fp)) (va_Qv (S := (Nat → va_E)) (fun (u : (Nat → va_E)) => Ro G L u) (fun (u : (Nat → va_E)) (t : State) => c0_B G (va_A ([(tb, .inr (8, [.ref tbo, .int 0])), (tbo, .inl (G.2 5, 3, .inr (.inr (.inr (.inr tbg))))), (ob, .inr (8, [.ref obo, .int 0])), (obo, .inl (G.2 5, 3, .inr (.inr (.inr (.inr obg)))))] ++ va_pl L fp) sz) ([(tb, .inr (8, [.ref tbo, .int 0])), (tbo, .inl (G.2 5, 3, .inr (.inr (.inr (.inr tbg))))), (ob, .inr (8, [.ref obo, .int 0])), (obo, .inl (G.2 5, 3, .inr (.inr (.inr (.inr obg)))))] ++ va_pl L u) t) (va_A ([(tb, .inr (8, [.ref tbo, .int 0])), (tbo, .inl (G.2 5, 3, .inr (.inr (.inr (.inr tbg))))), (ob, .inr (8, [.ref obo, .int 0])), (obo, .inl (G.2 5, 3, .inr (.inr (.inr (.inr obg)))))] ++ va_pl L fp) sz)) 0 0 (va_A ([(tb, .inr (8, [.ref tbo, .int 0])), (tbo, .inl (G.2 5, 3, .inr (.inr (.inr (.inr tbg))))), (ob, .inr (8, [.ref obo, .int 0])), (obo, .inl (G.2 5, 3, .inr (.inr (.inr (.inr obg)))))] ++ va_pl L fp) sz) := by
  refine Met.ofW (cc := cX8_become) (maxL := 3) (ret := none) (by decide) rfl ?_
  intro p e s m args below meth c s₁ B hml hv
  obtain ⟨rfl, hsz, hP, hK, hD0⟩ := hv
  have hx := B.exec
  have hb := B.bytes
  have hr := B.returns
  have hts := atoms_spec (ws := .code yX8_become cX8_become 3 none :: TT) B.pre
  have ht := fun (w : Cond) (h : w ∈ TT) => hts w (List.mem_cons_of_mem _ h)
  have hown : s.vm.findClass RX8 = some m.cls := findClass_of_methodNamed B.named
  have hlocks := B.notSynchronized
  subst hsz
  have hD := hD0.self (sz := s.heap.size)
  generalize hAe : va_A ([(tb, .inr (8, [.ref tbo, .int 0])), (tbo, .inl (G.2 5, 3, .inr (.inr (.inr (.inr tbg))))), (ob, .inr (8, [.ref obo, .int 0])), (obo, .inl (G.2 5, 3, .inr (.inr (.inr (.inr obg)))))] ++ va_pl L fp) s.heap.size = A at hD ⊢
  have hA : ∀ q : Nat, s.heap.size ≤ q → A q := fun q h => by rw [← hAe]; exact Or.inr h
  have hS : va_S A s.heap s.heap [] := va_S.rf
  have hP : va_P G.1 vwCl ([(tb, .inr (8, [.ref tbo, .int 0])), (tbo, .inl (G.2 5, 3, .inr (.inr (.inr (.inr tbg))))), (ob, .inr (8, [.ref obo, .int 0])), (obo, .inl (G.2 5, 3, .inr (.inr (.inr (.inr obg)))))] ++ va_pl L fp) s.heap := hP
  have hl := lv_entry ([.ref tb, .ref ob]) (n := 3) (Nat.le_of_ble_eq_true rfl)
  rw [lg_entry_eq]
  generalize (lg_sl ([.ref tb, .ref ob]) ++ List.replicate (3 - (lg_sl ([.ref tb, .ref ob])).length) Slot.unset).toArray = ls at hl ⊢
  have hl : lv_has ls 3 [(0, .ref tb), (1, .ref ob)] := hl
  refine lv_aload_n hx hb dX8_become_0 rfl (lv_at hl 0 rfl) ?_
  refine lv_aload_n hx hb dX8_become_1 rfl (lv_at hl 1 rfl) ?_
  refine va_get (D := G.1) (ci := 8) (v := .int 0) (C := RX8) (T := TX8) (N := 2) hx hb ht inlX8 hown hK.1 hP 2 rfl rfl 1 (by decide) (ht (Cond.fieldLink RX8 9 "PloughDepot$Table" "size" "I") mw_4_2) (fun _ h9 => h9) rfl dX8_become_2 ?_
  have hPc := va_P.part (X := [(tb, .inr (8, [.ref tbo, .int 0])), (tbo, .inl (G.2 5, 3, .inr (.inr (.inr (.inr tbg))))), (ob, .inr (8, [.ref obo, .int 0])), (obo, .inl (G.2 5, 3, .inr (.inr (.inr (.inr obg)))))]) (cx := [(tb, .inr (8, [.ref tbo, .int 0])), (tbo, .inl (G.2 5, 3, .inr (.inr (.inr (.inr tbg)))))]) hP [0, 1] rfl
  have hDc := va_D.part (X := [(tb, .inr (8, [.ref tbo, .int 0])), (tbo, .inl (G.2 5, 3, .inr (.inr (.inr (.inr tbg))))), (ob, .inr (8, [.ref obo, .int 0])), (obo, .inl (G.2 5, 3, .inr (.inr (.inr (.inr obg)))))]) (cx := [(tb, .inr (8, [.ref tbo, .int 0])), (tbo, .inl (G.2 5, 3, .inr (.inr (.inr (.inr tbg)))))]) hD [0, 1] (by decide) rfl
  have hFc := va_freeP (X := [(tb, .inr (8, [.ref tbo, .int 0])), (tbo, .inl (G.2 5, 3, .inr (.inr (.inr (.inr tbg))))), (ob, .inr (8, [.ref obo, .int 0])), (obo, .inl (G.2 5, 3, .inr (.inr (.inr (.inr obg)))))]) (cx := [(tb, .inr (8, [.ref tbo, .int 0])), (tbo, .inl (G.2 5, 3, .inr (.inr (.inr (.inr tbg)))))]) hD hS hA [0, 1] rfl
  refine va_callv (va_runV (As := [.int 0]) (rest := []) ⟨hx, hb, hml, hown, hts⟩ (k_widen_3_0 l G _ tb tbo tbg L fp (by first | assumption | decide) (by first | assumption | decide)) (cwV 1 hts (gd_V mw_9_5 mw_9_6 mw_9_7 mw_3_13 mw_9_8) rfl rfl rfl ⟨rfl, yk_X8_widen⟩ ⟨Nat.le_of_ble_eq_true rfl, Nat.le_of_ble_eq_true rfl⟩) (c0_preV (q0 := 0) (ci := 8) (q := (RX8, TX8, 2)) hPc hK hDc rfl rfl) rfl rfl hl.1 rfl (lv_room (Nat.le_of_ble_eq_true rfl)) dX8_become_5 ⟨Nat.le_of_ble_eq_true rfl, Nat.le_of_ble_eq_true rfl⟩) hS (fun q _ h => hFc q h) hFc (fun u t H1 locs ht1 hvm hw hB hz1 hk1 hS => ?_)
  try dsimp only at hw hB
  obtain ⟨hP1, hD1⟩ := hB
  rw [ht1] at hP1
  obtain ⟨hP, hD⟩ := va_joinP (X := [(tb, .inr (8, [.ref tbo, .int 0])), (tbo, .inl (G.2 5, 3, .inr (.inr (.inr (.inr tbg))))), (ob, .inr (8, [.ref obo, .int 0])), (obo, .inl (G.2 5, 3, .inr (.inr (.inr (.inr obg)))))]) (cx := [(tb, .inr (8, [.ref tbo, .int 0])), (tbo, .inl (G.2 5, 3, .inr (.inr (.inr (.inr tbg)))))]) (wr := [(ob, .inr (8, [.ref obo, .int 0])), (obo, .inl (G.2 5, 3, .inr (.inr (.inr (.inr obg)))))]) (rx := [(tb, .inr (8, [.ref tbo, .int 0])), (tbo, .inl (G.2 5, 3, .inr (.inr (.inr (.inr tbg)))))]) (pl1 := va_pl L fp) hP hD [0, 1] [2, 3] rfl rfl (by decide) (by decide) hk1 hFc hP1 hD1
  generalize H1 = H at hP hS ⊢
  have hP : va_P G.1 vwCl ([(ob, .inr (8, [.ref obo, .int 0])), (obo, .inl (G.2 5, 3, .inr (.inr (.inr (.inr obg))))), (tb, .inr (8, [.ref tbo, .int 0])), (tbo, .inl (G.2 5, 3, .inr (.inr (.inr (.inr tbg)))))] ++ va_pl L fp) H := hP
  have hD : va_D A ([(ob, .inr (8, [.ref obo, .int 0])), (obo, .inl (G.2 5, 3, .inr (.inr (.inr (.inr obg))))), (tb, .inr (8, [.ref tbo, .int 0])), (tbo, .inl (G.2 5, 3, .inr (.inr (.inr (.inr tbg)))))] ++ va_pl L fp) := hD
  refine lv_iconst (v := 0) hx hb dX8_become_8 (by decide) ?_
  refine lv_istore_n (lv' := [(2, .int 0), (0, .ref tb), (1, .ref ob)]) hx hb dX8_become_9 rfl hl (by decide) rfl (fun ls hl => ?_)
  have lp_1 : ∀ (Q : State → Prop), (∀ (fp_1 : Nat → va_E) (H : Heap) (locs : List Loc) (ls : Array Slot), Ro G L fp_1 → va_P G.1 vwCl ([(ob, .inr (8, [.ref obo, .int 0])), (obo, .inl (G.2 5, 3, .inr (.inr (.inr (.inr obg))))), (tb, .inr (8, [.ref tbo, .int 0])), (tbo, .inl (G.2 5, 3, .inr (.inr (.inr (.inr tbg)))))] ++ va_pl L fp_1) H → va_D A ([(ob, .inr (8, [.ref obo, .int 0])), (obo, .inl (G.2 5, 3, .inr (.inr (.inr (.inr obg))))), (tb, .inr (8, [.ref tbo, .int 0])), (tbo, .inl (G.2 5, 3, .inr (.inr (.inr (.inr tbg)))))] ++ va_pl L fp_1) → va_S A s.heap H locs → lv_has ls 3 [(0, .ref tb), (1, .ref ob)] → W p l e (headSpec (.code yX8_become cX8_become 3 none :: TT) ({ frames := 2, cells := 0, slots := 0, locals := 200 } : Room)).room s m [.ref tb, .ref ob].toArray below meth c H locs 0 0 Q (F0 m 55 ls [])) → ∀ (n i : Nat) (x9 : Int32) (fp_1 : Nat → va_E) (H : Heap) (locs : List Loc) (ls : Array Slot), i ≤ 3 → 4 ≤ i + n → x9 = nI i → Ro G L fp_1 → va_P G.1 vwCl ([(ob, .inr (8, [.ref obo, .int 0])), (obo, .inl (G.2 5, 3, .inr (.inr (.inr (.inr obg))))), (tb, .inr (8, [.ref tbo, .int 0])), (tbo, .inl (G.2 5, 3, .inr (.inr (.inr (.inr tbg)))))] ++ va_pl L fp_1) H → va_D A ([(ob, .inr (8, [.ref obo, .int 0])), (obo, .inl (G.2 5, 3, .inr (.inr (.inr (.inr obg))))), (tb, .inr (8, [.ref tbo, .int 0])), (tbo, .inl (G.2 5, 3, .inr (.inr (.inr (.inr tbg)))))] ++ va_pl L fp_1) → va_S A s.heap H locs → lv_has ls 3 [(2, .int x9), (0, .ref tb), (1, .ref ob)] → W p l e (headSpec (.code yX8_become cX8_become 3 none :: TT) ({ frames := 2, cells := 0, slots := 0, locals := 200 } : Room)).room s m [.ref tb, .ref ob].toArray below meth c H locs 0 0 Q (F0 m 10 ls []) := by
    intro Q hex n
    induction n with
    | zero =>
      intro i x9 fp_1 H locs ls h1 h2
      exact absurd h2 (by omega)
    | succ n ih =>
      intro i x9 fp_1 H locs ls hi hin9 ex9 hRo hP hD hS hl
      refine lv_iload_n hx hb dX8_become_10 rfl (lv_at hl 0 rfl) ?_
      refine lv_aload_n hx hb dX8_become_11 rfl (lv_at hl 1 rfl) ?_
      refine va_get (D := G.1) (ci := 8) (v := .ref tbo) (C := RX8) (T := TX8) (N := 2) hx hb ht inlX8 hown hK.1 hP 2 rfl rfl 0 (by decide) (ht (Cond.fieldLink RX8 17 "PloughDepot$Table" "cells" "[[I") mw_4_4) (fun _ h9 => h9) rfl dX8_become_12 ?_
      refine va_alen hx hb hK.1 hP 3 5 rfl rfl (v := 3) rfl dX8_become_15 ?_
      refine lv_icmp_ge (tgt := 55) hx hb dX8_become_16 (by decide) (fun c9 => ?_) (fun c9 => ?_)
      · have hiN : i = 3 := by
          rcases Nat.lt_or_ge i 3 with q | q
          · exact absurd c9 (by rw [ex9]; exact nI_ge q (by first | decide | omega))
          · omega
        exact hex fp_1 H locs ls hRo hP hD hS (lv_sub hl [1, 2] rfl)
      · have hlt : i < 3 := by
          rcases Nat.lt_or_ge i 3 with q | q
          · exact q
          · exact absurd (by rw [ex9]; exact nI_le q (by omega)) c9
        have hin_tbo : vp_in x9 3 := by rw [ex9]; exact vp_in_nI (by omega) (by first | decide | omega)
        have hx0 : (0 : Int32) ≤ x9 := by rw [ex9]; exact nI_pos' (by omega)
        refine lv_iload_n hx hb dX8_become_19 rfl (lv_at hl 0 rfl) ?_
        refine lv_aload_n hx hb dX8_become_20 rfl (lv_at hl 2 rfl) ?_
        refine va_get (D := G.1) (ci := 8) (v := .ref obo) (C := RX8) (T := TX8) (N := 2) hx hb ht inlX8 hown hK.1 hP 0 rfl rfl 0 (by decide) (ht (Cond.fieldLink RX8 17 "PloughDepot$Table" "cells" "[[I") mw_4_4) (fun _ h9 => h9) rfl dX8_become_21 ?_
        refine va_alen hx hb hK.1 hP 1 5 rfl rfl (v := 3) rfl dX8_become_24 ?_
        refine lv_icmp_ge (tgt := 55) hx hb dX8_become_25 (by decide) (fun c_2 => ?_) (fun c_2 => ?_)
        · exfalso; simp only [fa_lt, fa_le, fa_eq] at c9 hx0 c_2; have n0 : (0 : Int32).toInt = 0 := (by decide); have n3 : (3 : Int32).toInt = 3 := (by decide); omega
        · refine lv_aload_n hx hb dX8_become_28 rfl (lv_at hl 2 rfl) ?_
          refine va_get (D := G.1) (ci := 8) (v := .ref obo) (C := RX8) (T := TX8) (N := 2) hx hb ht inlX8 hown hK.1 hP 0 rfl rfl 0 (by decide) (ht (Cond.fieldLink RX8 17 "PloughDepot$Table" "cells" "[[I") mw_4_4) (fun _ h9 => h9) rfl dX8_become_29 ?_
          refine lv_iload_n hx hb dX8_become_32 rfl (lv_at hl 0 rfl) ?_
          obtain ⟨y_3, hy_3, hLy_3⟩ := hgob i (by omega)
          have hy_3 : obg x9.toNatClampNeg = some y_3 := by rw [ex9, nI_clamp (by omega)]; exact hy_3
          refine ns_row hx hb hK hP 1 rfl hin_tbo hy_3 dX8_become_33 ?_
          refine lv_iconst (v := 0) hx hb dX8_become_34 (by decide) ?_
          refine lv_aload_n hx hb dX8_become_35 rfl (lv_at hl 1 rfl) ?_
          refine va_get (D := G.1) (ci := 8) (v := .ref tbo) (C := RX8) (T := TX8) (N := 2) hx hb ht inlX8 hown hK.1 hP 2 rfl rfl 0 (by decide) (ht (Cond.fieldLink RX8 17 "PloughDepot$Table" "cells" "[[I") mw_4_4) (fun _ h9 => h9) rfl dX8_become_36 ?_
          refine lv_iload_n hx hb dX8_become_39 rfl (lv_at hl 0 rfl) ?_
          obtain ⟨y_4, hy_4, hLy_4⟩ := hgtb i (by omega)
          have hy_4 : tbg x9.toNatClampNeg = some y_4 := by rw [ex9, nI_clamp (by omega)]; exact hy_4
          refine ns_row hx hb hK hP 3 rfl hin_tbo hy_4 dX8_become_40 ?_
          refine lv_iconst (v := 0) hx hb dX8_become_41 (by decide) ?_
          refine lv_aload_n hx hb dX8_become_42 rfl (lv_at hl 2 rfl) ?_
          refine va_get (D := G.1) (ci := 8) (v := .int 0) (C := RX8) (T := TX8) (N := 2) hx hb ht inlX8 hown hK.1 hP 0 rfl rfl 1 (by decide) (ht (Cond.fieldLink RX8 9 "PloughDepot$Table" "size" "I") mw_4_2) (fun _ h9 => h9) rfl dX8_become_43 ?_
          refine ns_pcopy (X := [(ob, .inr (8, [.ref obo, .int 0])), (obo, .inl (G.2 5, 3, .inr (.inr (.inr (.inr obg))))), (tb, .inr (8, [.ref tbo, .int 0])), (tbo, .inl (G.2 5, 3, .inr (.inr (.inr (.inr tbg)))))]) hx hb (by rw [hml]; exact hl.1.symm) hown (ht (Cond.methodLink RX8 32 arraycopyName) mw_9_4) (ht (Cond.native arraycopyName) mw_8_16) (ht (Cond.static arraycopyName) mw_8_17) (ht (Cond.initialized "java/lang/System") mw_8_18) hK hRo hLy_4 hLy_3 hP hD hS (Nat.le_of_ble_eq_true rfl) (Nat.le_of_ble_eq_true rfl) dX8_become_46 (fun fp_5 H locs hRo hP hD hS => ?_)
          obtain ⟨v_6, ev_6⟩ : ∃ y : Int32, y = x9 + 1 := ⟨_, rfl⟩
          refine lv_iinc (v := v_6) (lv' := [(2, .int v_6), (0, .ref tb), (1, .ref ob)]) hx hb dX8_become_49 hl (k := 0) rfl (by rw [ev_6]; rfl) (by decide) rfl (fun ls hl => ?_)
          refine lv_goto (tgt := 10) hx hb dX8_become_52 (by decide) ?_
          exact ih (i + 1) _ fp_5 _ _ _ (by omega) (by omega) (by rw [ev_6, ex9]; exact nI_1 i) hRo hP hD hS (lv_sub hl [0, 1, 2] rfl)
  refine lp_1 _ ?_ (4) 0 0 fp _ _ _ (by omega) (by omega) nI_0.symm hRo hP hD hS (lv_sub hl [0, 1, 2] rfl)
  intro fp_1 H locs ls hRo hP hD hS hl
  refine lv_aload_n hx hb dX8_become_55 rfl (lv_at hl 0 rfl) ?_
  refine lv_aload_n hx hb dX8_become_56 rfl (lv_at hl 1 rfl) ?_
  refine va_get (D := G.1) (ci := 8) (v := .int 0) (C := RX8) (T := TX8) (N := 2) hx hb ht inlX8 hown hK.1 hP 0 rfl rfl 1 (by decide) (ht (Cond.fieldLink RX8 9 "PloughDepot$Table" "size" "I") mw_4_2) (fun _ h9 => h9) rfl dX8_become_57 ?_
  refine va_put (D := G.1) (ci := 8) (v := .int 0) (ty := tyX8 1) (C := RX8) (T := TX8) (N := 2) hx hb ht inlX8 tyX8 tyX8_ok nmX8 hown hK.1 hP hD hS 2 rfl rfl 1 (by decide) (ht (Cond.fieldLink RX8 9 "PloughDepot$Table" "size" "I") mw_4_2) (fun _ h9 => h9) rfl (tyX8_ok 1 (by decide)) rfl rfl (Nat.le_of_ble_eq_true rfl) dX8_become_60 (fun H locs hP hD hS => ?_)
  have hP : va_P G.1 vwCl ([(ob, .inr (8, [.ref obo, .int 0])), (obo, .inl (G.2 5, 3, .inr (.inr (.inr (.inr obg))))), (tb, .inr (8, [.ref tbo, .int 0])), (tbo, .inl (G.2 5, 3, .inr (.inr (.inr (.inr tbg)))))] ++ va_pl L fp_1) H := hP
  have hD : va_D A ([(ob, .inr (8, [.ref obo, .int 0])), (obo, .inl (G.2 5, 3, .inr (.inr (.inr (.inr obg))))), (tb, .inr (8, [.ref tbo, .int 0])), (tbo, .inl (G.2 5, 3, .inr (.inr (.inr (.inr tbg)))))] ++ va_pl L fp_1) := hD
  have hP9 := va_P.part (X := [(ob, .inr (8, [.ref obo, .int 0])), (obo, .inl (G.2 5, 3, .inr (.inr (.inr (.inr obg))))), (tb, .inr (8, [.ref tbo, .int 0])), (tbo, .inl (G.2 5, 3, .inr (.inr (.inr (.inr tbg)))))]) (cx := [(tb, .inr (8, [.ref tbo, .int 0])), (tbo, .inl (G.2 5, 3, .inr (.inr (.inr (.inr tbg))))), (ob, .inr (8, [.ref obo, .int 0])), (obo, .inl (G.2 5, 3, .inr (.inr (.inr (.inr obg)))))]) hP [2, 3, 0, 1] rfl
  have hD9 := va_D.part (X := [(ob, .inr (8, [.ref obo, .int 0])), (obo, .inl (G.2 5, 3, .inr (.inr (.inr (.inr obg))))), (tb, .inr (8, [.ref tbo, .int 0])), (tbo, .inl (G.2 5, 3, .inr (.inr (.inr (.inr tbg)))))]) (cx := [(tb, .inr (8, [.ref tbo, .int 0])), (tbo, .inl (G.2 5, 3, .inr (.inr (.inr (.inr tbg))))), (ob, .inr (8, [.ref obo, .int 0])), (obo, .inl (G.2 5, 3, .inr (.inr (.inr (.inr obg)))))]) hD [2, 3, 0, 1] (by decide) rfl
  exact W.vret hx hb hr (fun t ht hW => ⟨⟨fp_1, rfl, hRo, ⟨by rw [ht]; exact hP9, hD9⟩⟩, hS.F ht⟩) hS.2.2 dX8_become_63

set_option maxHeartbeats 4000000 in
set_option maxRecDepth 100000 in
theorem k_tbecome_4 (l : Launch) (G : GG) (sz : Nat) (tb : Nat) (ob : Nat) (tbo : Nat) (tbg : Nat → Option Nat) (obo : Nat) (obg : Nat → Option Nat) (L : List Nat) (fp : Nat → va_E) (hRo : Ro G L fp) (hgtb : Gr L tbg 4) (hgob : Gr L obg 4) : Met l yX8_become (.code yX8_become cX8_become 3 none :: TT) ({ frames := 2, cells := 0, slots := 0, locals := 200 } : Room) (c0_P G [.ref tb, .ref ob] sz ([(tb, .inr (8, [.ref tbo, .int 0])), (tbo, .inl (G.2 5, 4, .inr (.inr (.inr (.inr tbg))))), (ob, .inr (8, [.ref obo, .int 0])), (obo, .inl (G.2 5, 4, .inr (.inr (.inr (.inr obg)))))] ++ va_pl L fp)) (va_Qv (S := (Nat → va_E)) (fun (u : (Nat → va_E)) => Ro G L u) (fun (u : (Nat → va_E)) (t : State) => c0_B G (va_A ([(tb, .inr (8, [.ref tbo, .int 0])), (tbo, .inl (G.2 5, 4, .inr (.inr (.inr (.inr tbg))))), (ob, .inr (8, [.ref obo, .int 0])), (obo, .inl (G.2 5, 4, .inr (.inr (.inr (.inr obg)))))] ++ va_pl L fp) sz) ([(tb, .inr (8, [.ref tbo, .int 0])), (tbo, .inl (G.2 5, 4, .inr (.inr (.inr (.inr tbg))))), (ob, .inr (8, [.ref obo, .int 0])), (obo, .inl (G.2 5, 4, .inr (.inr (.inr (.inr obg)))))] ++ va_pl L u) t) (va_A ([(tb, .inr (8, [.ref tbo, .int 0])), (tbo, .inl (G.2 5, 4, .inr (.inr (.inr (.inr tbg))))), (ob, .inr (8, [.ref obo, .int 0])), (obo, .inl (G.2 5, 4, .inr (.inr (.inr (.inr obg)))))] ++ va_pl L fp) sz)) 0 0 (va_A ([(tb, .inr (8, [.ref tbo, .int 0])), (tbo, .inl (G.2 5, 4, .inr (.inr (.inr (.inr tbg))))), (ob, .inr (8, [.ref obo, .int 0])), (obo, .inl (G.2 5, 4, .inr (.inr (.inr (.inr obg)))))] ++ va_pl L fp) sz) := by
  refine Met.ofW (cc := cX8_become) (maxL := 3) (ret := none) (by decide) rfl ?_
  intro p e s m args below meth c s₁ B hml hv
  obtain ⟨rfl, hsz, hP, hK, hD0⟩ := hv
  have hx := B.exec
  have hb := B.bytes
  have hr := B.returns
  have hts := atoms_spec (ws := .code yX8_become cX8_become 3 none :: TT) B.pre
  have ht := fun (w : Cond) (h : w ∈ TT) => hts w (List.mem_cons_of_mem _ h)
  have hown : s.vm.findClass RX8 = some m.cls := findClass_of_methodNamed B.named
  have hlocks := B.notSynchronized
  subst hsz
  have hD := hD0.self (sz := s.heap.size)
  generalize hAe : va_A ([(tb, .inr (8, [.ref tbo, .int 0])), (tbo, .inl (G.2 5, 4, .inr (.inr (.inr (.inr tbg))))), (ob, .inr (8, [.ref obo, .int 0])), (obo, .inl (G.2 5, 4, .inr (.inr (.inr (.inr obg)))))] ++ va_pl L fp) s.heap.size = A at hD ⊢
  have hA : ∀ q : Nat, s.heap.size ≤ q → A q := fun q h => by rw [← hAe]; exact Or.inr h
  have hS : va_S A s.heap s.heap [] := va_S.rf
  have hP : va_P G.1 vwCl ([(tb, .inr (8, [.ref tbo, .int 0])), (tbo, .inl (G.2 5, 4, .inr (.inr (.inr (.inr tbg))))), (ob, .inr (8, [.ref obo, .int 0])), (obo, .inl (G.2 5, 4, .inr (.inr (.inr (.inr obg)))))] ++ va_pl L fp) s.heap := hP
  have hl := lv_entry ([.ref tb, .ref ob]) (n := 3) (Nat.le_of_ble_eq_true rfl)
  rw [lg_entry_eq]
  generalize (lg_sl ([.ref tb, .ref ob]) ++ List.replicate (3 - (lg_sl ([.ref tb, .ref ob])).length) Slot.unset).toArray = ls at hl ⊢
  have hl : lv_has ls 3 [(0, .ref tb), (1, .ref ob)] := hl
  refine lv_aload_n hx hb dX8_become_0 rfl (lv_at hl 0 rfl) ?_
  refine lv_aload_n hx hb dX8_become_1 rfl (lv_at hl 1 rfl) ?_
  refine va_get (D := G.1) (ci := 8) (v := .int 0) (C := RX8) (T := TX8) (N := 2) hx hb ht inlX8 hown hK.1 hP 2 rfl rfl 1 (by decide) (ht (Cond.fieldLink RX8 9 "PloughDepot$Table" "size" "I") mw_4_2) (fun _ h9 => h9) rfl dX8_become_2 ?_
  have hPc := va_P.part (X := [(tb, .inr (8, [.ref tbo, .int 0])), (tbo, .inl (G.2 5, 4, .inr (.inr (.inr (.inr tbg))))), (ob, .inr (8, [.ref obo, .int 0])), (obo, .inl (G.2 5, 4, .inr (.inr (.inr (.inr obg)))))]) (cx := [(tb, .inr (8, [.ref tbo, .int 0])), (tbo, .inl (G.2 5, 4, .inr (.inr (.inr (.inr tbg)))))]) hP [0, 1] rfl
  have hDc := va_D.part (X := [(tb, .inr (8, [.ref tbo, .int 0])), (tbo, .inl (G.2 5, 4, .inr (.inr (.inr (.inr tbg))))), (ob, .inr (8, [.ref obo, .int 0])), (obo, .inl (G.2 5, 4, .inr (.inr (.inr (.inr obg)))))]) (cx := [(tb, .inr (8, [.ref tbo, .int 0])), (tbo, .inl (G.2 5, 4, .inr (.inr (.inr (.inr tbg)))))]) hD [0, 1] (by decide) rfl
  have hFc := va_freeP (X := [(tb, .inr (8, [.ref tbo, .int 0])), (tbo, .inl (G.2 5, 4, .inr (.inr (.inr (.inr tbg))))), (ob, .inr (8, [.ref obo, .int 0])), (obo, .inl (G.2 5, 4, .inr (.inr (.inr (.inr obg)))))]) (cx := [(tb, .inr (8, [.ref tbo, .int 0])), (tbo, .inl (G.2 5, 4, .inr (.inr (.inr (.inr tbg)))))]) hD hS hA [0, 1] rfl
  refine va_callv (va_runV (As := [.int 0]) (rest := []) ⟨hx, hb, hml, hown, hts⟩ (k_widen_4_0 l G _ tb tbo tbg L fp (by first | assumption | decide) (by first | assumption | decide)) (cwV 1 hts (gd_V mw_9_5 mw_9_6 mw_9_7 mw_3_13 mw_9_8) rfl rfl rfl ⟨rfl, yk_X8_widen⟩ ⟨Nat.le_of_ble_eq_true rfl, Nat.le_of_ble_eq_true rfl⟩) (c0_preV (q0 := 0) (ci := 8) (q := (RX8, TX8, 2)) hPc hK hDc rfl rfl) rfl rfl hl.1 rfl (lv_room (Nat.le_of_ble_eq_true rfl)) dX8_become_5 ⟨Nat.le_of_ble_eq_true rfl, Nat.le_of_ble_eq_true rfl⟩) hS (fun q _ h => hFc q h) hFc (fun u t H1 locs ht1 hvm hw hB hz1 hk1 hS => ?_)
  try dsimp only at hw hB
  obtain ⟨hP1, hD1⟩ := hB
  rw [ht1] at hP1
  obtain ⟨hP, hD⟩ := va_joinP (X := [(tb, .inr (8, [.ref tbo, .int 0])), (tbo, .inl (G.2 5, 4, .inr (.inr (.inr (.inr tbg))))), (ob, .inr (8, [.ref obo, .int 0])), (obo, .inl (G.2 5, 4, .inr (.inr (.inr (.inr obg)))))]) (cx := [(tb, .inr (8, [.ref tbo, .int 0])), (tbo, .inl (G.2 5, 4, .inr (.inr (.inr (.inr tbg)))))]) (wr := [(ob, .inr (8, [.ref obo, .int 0])), (obo, .inl (G.2 5, 4, .inr (.inr (.inr (.inr obg)))))]) (rx := [(tb, .inr (8, [.ref tbo, .int 0])), (tbo, .inl (G.2 5, 4, .inr (.inr (.inr (.inr tbg)))))]) (pl1 := va_pl L fp) hP hD [0, 1] [2, 3] rfl rfl (by decide) (by decide) hk1 hFc hP1 hD1
  generalize H1 = H at hP hS ⊢
  have hP : va_P G.1 vwCl ([(ob, .inr (8, [.ref obo, .int 0])), (obo, .inl (G.2 5, 4, .inr (.inr (.inr (.inr obg))))), (tb, .inr (8, [.ref tbo, .int 0])), (tbo, .inl (G.2 5, 4, .inr (.inr (.inr (.inr tbg)))))] ++ va_pl L fp) H := hP
  have hD : va_D A ([(ob, .inr (8, [.ref obo, .int 0])), (obo, .inl (G.2 5, 4, .inr (.inr (.inr (.inr obg))))), (tb, .inr (8, [.ref tbo, .int 0])), (tbo, .inl (G.2 5, 4, .inr (.inr (.inr (.inr tbg)))))] ++ va_pl L fp) := hD
  refine lv_iconst (v := 0) hx hb dX8_become_8 (by decide) ?_
  refine lv_istore_n (lv' := [(2, .int 0), (0, .ref tb), (1, .ref ob)]) hx hb dX8_become_9 rfl hl (by decide) rfl (fun ls hl => ?_)
  have lp_1 : ∀ (Q : State → Prop), (∀ (fp_1 : Nat → va_E) (H : Heap) (locs : List Loc) (ls : Array Slot), Ro G L fp_1 → va_P G.1 vwCl ([(ob, .inr (8, [.ref obo, .int 0])), (obo, .inl (G.2 5, 4, .inr (.inr (.inr (.inr obg))))), (tb, .inr (8, [.ref tbo, .int 0])), (tbo, .inl (G.2 5, 4, .inr (.inr (.inr (.inr tbg)))))] ++ va_pl L fp_1) H → va_D A ([(ob, .inr (8, [.ref obo, .int 0])), (obo, .inl (G.2 5, 4, .inr (.inr (.inr (.inr obg))))), (tb, .inr (8, [.ref tbo, .int 0])), (tbo, .inl (G.2 5, 4, .inr (.inr (.inr (.inr tbg)))))] ++ va_pl L fp_1) → va_S A s.heap H locs → lv_has ls 3 [(0, .ref tb), (1, .ref ob)] → W p l e (headSpec (.code yX8_become cX8_become 3 none :: TT) ({ frames := 2, cells := 0, slots := 0, locals := 200 } : Room)).room s m [.ref tb, .ref ob].toArray below meth c H locs 0 0 Q (F0 m 55 ls [])) → ∀ (n i : Nat) (x9 : Int32) (fp_1 : Nat → va_E) (H : Heap) (locs : List Loc) (ls : Array Slot), i ≤ 4 → 5 ≤ i + n → x9 = nI i → Ro G L fp_1 → va_P G.1 vwCl ([(ob, .inr (8, [.ref obo, .int 0])), (obo, .inl (G.2 5, 4, .inr (.inr (.inr (.inr obg))))), (tb, .inr (8, [.ref tbo, .int 0])), (tbo, .inl (G.2 5, 4, .inr (.inr (.inr (.inr tbg)))))] ++ va_pl L fp_1) H → va_D A ([(ob, .inr (8, [.ref obo, .int 0])), (obo, .inl (G.2 5, 4, .inr (.inr (.inr (.inr obg))))), (tb, .inr (8, [.ref tbo, .int 0])), (tbo, .inl (G.2 5, 4, .inr (.inr (.inr (.inr tbg)))))] ++ va_pl L fp_1) → va_S A s.heap H locs → lv_has ls 3 [(2, .int x9), (0, .ref tb), (1, .ref ob)] → W p l e (headSpec (.code yX8_become cX8_become 3 none :: TT) ({ frames := 2, cells := 0, slots := 0, locals := 200 } : Room)).room s m [.ref tb, .ref ob].toArray below meth c H locs 0 0 Q (F0 m 10 ls []) := by
    intro Q hex n
    induction n with
    | zero =>
      intro i x9 fp_1 H locs ls h1 h2
      exact absurd h2 (by omega)
    | succ n ih =>
      intro i x9 fp_1 H locs ls hi hin9 ex9 hRo hP hD hS hl
      refine lv_iload_n hx hb dX8_become_10 rfl (lv_at hl 0 rfl) ?_
      refine lv_aload_n hx hb dX8_become_11 rfl (lv_at hl 1 rfl) ?_
      refine va_get (D := G.1) (ci := 8) (v := .ref tbo) (C := RX8) (T := TX8) (N := 2) hx hb ht inlX8 hown hK.1 hP 2 rfl rfl 0 (by decide) (ht (Cond.fieldLink RX8 17 "PloughDepot$Table" "cells" "[[I") mw_4_4) (fun _ h9 => h9) rfl dX8_become_12 ?_
      refine va_alen hx hb hK.1 hP 3 5 rfl rfl (v := 4) rfl dX8_become_15 ?_
      refine lv_icmp_ge (tgt := 55) hx hb dX8_become_16 (by decide) (fun c9 => ?_) (fun c9 => ?_)
      · have hiN : i = 4 := by
          rcases Nat.lt_or_ge i 4 with q | q
          · exact absurd c9 (by rw [ex9]; exact nI_ge q (by first | decide | omega))
          · omega
        exact hex fp_1 H locs ls hRo hP hD hS (lv_sub hl [1, 2] rfl)
      · have hlt : i < 4 := by
          rcases Nat.lt_or_ge i 4 with q | q
          · exact q
          · exact absurd (by rw [ex9]; exact nI_le q (by omega)) c9
        have hin_tbo : vp_in x9 4 := by rw [ex9]; exact vp_in_nI (by omega) (by first | decide | omega)
        have hx0 : (0 : Int32) ≤ x9 := by rw [ex9]; exact nI_pos' (by omega)
        refine lv_iload_n hx hb dX8_become_19 rfl (lv_at hl 0 rfl) ?_
        refine lv_aload_n hx hb dX8_become_20 rfl (lv_at hl 2 rfl) ?_
        refine va_get (D := G.1) (ci := 8) (v := .ref obo) (C := RX8) (T := TX8) (N := 2) hx hb ht inlX8 hown hK.1 hP 0 rfl rfl 0 (by decide) (ht (Cond.fieldLink RX8 17 "PloughDepot$Table" "cells" "[[I") mw_4_4) (fun _ h9 => h9) rfl dX8_become_21 ?_
        refine va_alen hx hb hK.1 hP 1 5 rfl rfl (v := 4) rfl dX8_become_24 ?_
        refine lv_icmp_ge (tgt := 55) hx hb dX8_become_25 (by decide) (fun c_2 => ?_) (fun c_2 => ?_)
        · exfalso; simp only [fa_lt, fa_le, fa_eq] at c9 hx0 c_2; have n0 : (0 : Int32).toInt = 0 := (by decide); have n4 : (4 : Int32).toInt = 4 := (by decide); omega
        · refine lv_aload_n hx hb dX8_become_28 rfl (lv_at hl 2 rfl) ?_
          refine va_get (D := G.1) (ci := 8) (v := .ref obo) (C := RX8) (T := TX8) (N := 2) hx hb ht inlX8 hown hK.1 hP 0 rfl rfl 0 (by decide) (ht (Cond.fieldLink RX8 17 "PloughDepot$Table" "cells" "[[I") mw_4_4) (fun _ h9 => h9) rfl dX8_become_29 ?_
          refine lv_iload_n hx hb dX8_become_32 rfl (lv_at hl 0 rfl) ?_
          obtain ⟨y_3, hy_3, hLy_3⟩ := hgob i (by omega)
          have hy_3 : obg x9.toNatClampNeg = some y_3 := by rw [ex9, nI_clamp (by omega)]; exact hy_3
          refine ns_row hx hb hK hP 1 rfl hin_tbo hy_3 dX8_become_33 ?_
          refine lv_iconst (v := 0) hx hb dX8_become_34 (by decide) ?_
          refine lv_aload_n hx hb dX8_become_35 rfl (lv_at hl 1 rfl) ?_
          refine va_get (D := G.1) (ci := 8) (v := .ref tbo) (C := RX8) (T := TX8) (N := 2) hx hb ht inlX8 hown hK.1 hP 2 rfl rfl 0 (by decide) (ht (Cond.fieldLink RX8 17 "PloughDepot$Table" "cells" "[[I") mw_4_4) (fun _ h9 => h9) rfl dX8_become_36 ?_
          refine lv_iload_n hx hb dX8_become_39 rfl (lv_at hl 0 rfl) ?_
          obtain ⟨y_4, hy_4, hLy_4⟩ := hgtb i (by omega)
          have hy_4 : tbg x9.toNatClampNeg = some y_4 := by rw [ex9, nI_clamp (by omega)]; exact hy_4
          refine ns_row hx hb hK hP 3 rfl hin_tbo hy_4 dX8_become_40 ?_
          refine lv_iconst (v := 0) hx hb dX8_become_41 (by decide) ?_
          refine lv_aload_n hx hb dX8_become_42 rfl (lv_at hl 2 rfl) ?_
          refine va_get (D := G.1) (ci := 8) (v := .int 0) (C := RX8) (T := TX8) (N := 2) hx hb ht inlX8 hown hK.1 hP 0 rfl rfl 1 (by decide) (ht (Cond.fieldLink RX8 9 "PloughDepot$Table" "size" "I") mw_4_2) (fun _ h9 => h9) rfl dX8_become_43 ?_
          refine ns_pcopy (X := [(ob, .inr (8, [.ref obo, .int 0])), (obo, .inl (G.2 5, 4, .inr (.inr (.inr (.inr obg))))), (tb, .inr (8, [.ref tbo, .int 0])), (tbo, .inl (G.2 5, 4, .inr (.inr (.inr (.inr tbg)))))]) hx hb (by rw [hml]; exact hl.1.symm) hown (ht (Cond.methodLink RX8 32 arraycopyName) mw_9_4) (ht (Cond.native arraycopyName) mw_8_16) (ht (Cond.static arraycopyName) mw_8_17) (ht (Cond.initialized "java/lang/System") mw_8_18) hK hRo hLy_4 hLy_3 hP hD hS (Nat.le_of_ble_eq_true rfl) (Nat.le_of_ble_eq_true rfl) dX8_become_46 (fun fp_5 H locs hRo hP hD hS => ?_)
          obtain ⟨v_6, ev_6⟩ : ∃ y : Int32, y = x9 + 1 := ⟨_, rfl⟩
          refine lv_iinc (v := v_6) (lv' := [(2, .int v_6), (0, .ref tb), (1, .ref ob)]) hx hb dX8_become_49 hl (k := 0) rfl (by rw [ev_6]; rfl) (by decide) rfl (fun ls hl => ?_)
          refine lv_goto (tgt := 10) hx hb dX8_become_52 (by decide) ?_
          exact ih (i + 1) _ fp_5 _ _ _ (by omega) (by omega) (by rw [ev_6, ex9]; exact nI_1 i) hRo hP hD hS (lv_sub hl [0, 1, 2] rfl)
  refine lp_1 _ ?_ (5) 0 0 fp _ _ _ (by omega) (by omega) nI_0.symm hRo hP hD hS (lv_sub hl [0, 1, 2] rfl)
  intro fp_1 H locs ls hRo hP hD hS hl
  refine lv_aload_n hx hb dX8_become_55 rfl (lv_at hl 0 rfl) ?_
  refine lv_aload_n hx hb dX8_become_56 rfl (lv_at hl 1 rfl) ?_
  refine va_get (D := G.1) (ci := 8) (v := .int 0) (C := RX8) (T := TX8) (N := 2) hx hb ht inlX8 hown hK.1 hP 0 rfl rfl 1 (by decide) (ht (Cond.fieldLink RX8 9 "PloughDepot$Table" "size" "I") mw_4_2) (fun _ h9 => h9) rfl dX8_become_57 ?_
  refine va_put (D := G.1) (ci := 8) (v := .int 0) (ty := tyX8 1) (C := RX8) (T := TX8) (N := 2) hx hb ht inlX8 tyX8 tyX8_ok nmX8 hown hK.1 hP hD hS 2 rfl rfl 1 (by decide) (ht (Cond.fieldLink RX8 9 "PloughDepot$Table" "size" "I") mw_4_2) (fun _ h9 => h9) rfl (tyX8_ok 1 (by decide)) rfl rfl (Nat.le_of_ble_eq_true rfl) dX8_become_60 (fun H locs hP hD hS => ?_)
  have hP : va_P G.1 vwCl ([(ob, .inr (8, [.ref obo, .int 0])), (obo, .inl (G.2 5, 4, .inr (.inr (.inr (.inr obg))))), (tb, .inr (8, [.ref tbo, .int 0])), (tbo, .inl (G.2 5, 4, .inr (.inr (.inr (.inr tbg)))))] ++ va_pl L fp_1) H := hP
  have hD : va_D A ([(ob, .inr (8, [.ref obo, .int 0])), (obo, .inl (G.2 5, 4, .inr (.inr (.inr (.inr obg))))), (tb, .inr (8, [.ref tbo, .int 0])), (tbo, .inl (G.2 5, 4, .inr (.inr (.inr (.inr tbg)))))] ++ va_pl L fp_1) := hD
  have hP9 := va_P.part (X := [(ob, .inr (8, [.ref obo, .int 0])), (obo, .inl (G.2 5, 4, .inr (.inr (.inr (.inr obg))))), (tb, .inr (8, [.ref tbo, .int 0])), (tbo, .inl (G.2 5, 4, .inr (.inr (.inr (.inr tbg)))))]) (cx := [(tb, .inr (8, [.ref tbo, .int 0])), (tbo, .inl (G.2 5, 4, .inr (.inr (.inr (.inr tbg))))), (ob, .inr (8, [.ref obo, .int 0])), (obo, .inl (G.2 5, 4, .inr (.inr (.inr (.inr obg)))))]) hP [2, 3, 0, 1] rfl
  have hD9 := va_D.part (X := [(ob, .inr (8, [.ref obo, .int 0])), (obo, .inl (G.2 5, 4, .inr (.inr (.inr (.inr obg))))), (tb, .inr (8, [.ref tbo, .int 0])), (tbo, .inl (G.2 5, 4, .inr (.inr (.inr (.inr tbg)))))]) (cx := [(tb, .inr (8, [.ref tbo, .int 0])), (tbo, .inl (G.2 5, 4, .inr (.inr (.inr (.inr tbg))))), (ob, .inr (8, [.ref obo, .int 0])), (obo, .inl (G.2 5, 4, .inr (.inr (.inr (.inr obg)))))]) hD [2, 3, 0, 1] (by decide) rfl
  exact W.vret hx hb hr (fun t ht hW => ⟨⟨fp_1, rfl, hRo, ⟨by rw [ht]; exact hP9, hD9⟩⟩, hS.F ht⟩) hS.2.2 dX8_become_63

set_option maxHeartbeats 4000000 in
set_option maxRecDepth 100000 in
theorem k_tadd (l : Launch) (G : GG) (sz : Nat) (tb : Nat) (tbo : Nat) (tbg : Nat → Option Nat) (L : List Nat) (fp : Nat → va_E) (hRo : Ro G L fp) (hgtb : Gr L tbg 9) : Met l yX8_add (.code yX8_add cX8_add 2 (some .int) :: TT) ({ frames := 2, cells := 0, slots := 0, locals := 200 } : Room) (c0_P G [.ref tb] sz ([(tb, .inr (8, [.ref tbo, .int 0])), (tbo, .inl (G.2 5, 9, .inr (.inr (.inr (.inr tbg)))))] ++ va_pl L fp)) (va_Qi (S := (Nat → va_E)) (fun (r : Int32) (u : (Nat → va_E)) => r = 0 ∧ Ro G L u) (fun (u : (Nat → va_E)) (t : State) => c0_B G (va_A ([(tb, .inr (8, [.ref tbo, .int 0])), (tbo, .inl (G.2 5, 9, .inr (.inr (.inr (.inr tbg)))))] ++ va_pl L fp) sz) ([(tb, .inr (8, [.ref tbo, .int 1])), (tbo, .inl (G.2 5, 9, .inr (.inr (.inr (.inr tbg)))))] ++ va_pl L u) t) (va_A ([(tb, .inr (8, [.ref tbo, .int 0])), (tbo, .inl (G.2 5, 9, .inr (.inr (.inr (.inr tbg)))))] ++ va_pl L fp) sz)) 0 0 (va_A ([(tb, .inr (8, [.ref tbo, .int 0])), (tbo, .inl (G.2 5, 9, .inr (.inr (.inr (.inr tbg)))))] ++ va_pl L fp) sz) := by
  refine Met.ofW (cc := cX8_add) (maxL := 2) (ret := (some .int)) (by decide) rfl ?_
  intro p e s m args below meth c s₁ B hml hv
  obtain ⟨rfl, hsz, hP, hK, hD0⟩ := hv
  have hx := B.exec
  have hb := B.bytes
  have hr := B.returns
  have hts := atoms_spec (ws := .code yX8_add cX8_add 2 (some .int) :: TT) B.pre
  have ht := fun (w : Cond) (h : w ∈ TT) => hts w (List.mem_cons_of_mem _ h)
  have hown : s.vm.findClass RX8 = some m.cls := findClass_of_methodNamed B.named
  have hlocks := B.notSynchronized
  subst hsz
  have hD := hD0.self (sz := s.heap.size)
  generalize hAe : va_A ([(tb, .inr (8, [.ref tbo, .int 0])), (tbo, .inl (G.2 5, 9, .inr (.inr (.inr (.inr tbg)))))] ++ va_pl L fp) s.heap.size = A at hD ⊢
  have hA : ∀ q : Nat, s.heap.size ≤ q → A q := fun q h => by rw [← hAe]; exact Or.inr h
  have hS : va_S A s.heap s.heap [] := va_S.rf
  have hP : va_P G.1 vwCl ([(tb, .inr (8, [.ref tbo, .int 0])), (tbo, .inl (G.2 5, 9, .inr (.inr (.inr (.inr tbg)))))] ++ va_pl L fp) s.heap := hP
  have hl := lv_entry ([.ref tb]) (n := 2) (Nat.le_of_ble_eq_true rfl)
  rw [lg_entry_eq]
  generalize (lg_sl ([.ref tb]) ++ List.replicate (2 - (lg_sl ([.ref tb])).length) Slot.unset).toArray = ls at hl ⊢
  have hl : lv_has ls 2 [(0, .ref tb)] := hl
  refine lv_aload_n hx hb dX8_add_0 rfl (lv_at hl 0 rfl) ?_
  refine lv_aload_n hx hb dX8_add_1 rfl (lv_at hl 0 rfl) ?_
  refine va_get (D := G.1) (ci := 8) (v := .int 0) (C := RX8) (T := TX8) (N := 2) hx hb ht inlX8 hown hK.1 hP 0 rfl rfl 1 (by decide) (ht (Cond.fieldLink RX8 9 "PloughDepot$Table" "size" "I") mw_4_2) (fun _ h9 => h9) rfl dX8_add_2 ?_
  refine lv_iconst (v := 1) hx hb dX8_add_5 (by decide) ?_
  refine lv_iadd hx hb dX8_add_6 ?_
  refine lv_topi (fun v_1 ev_1 => ?_)
  obtain rfl : v_1 = 1 := ev_1.trans (by decide)
  have hPc := va_P.part (X := [(tb, .inr (8, [.ref tbo, .int 0])), (tbo, .inl (G.2 5, 9, .inr (.inr (.inr (.inr tbg)))))]) (cx := [(tb, .inr (8, [.ref tbo, .int 0])), (tbo, .inl (G.2 5, 9, .inr (.inr (.inr (.inr tbg)))))]) hP [0, 1] rfl
  have hDc := va_D.part (X := [(tb, .inr (8, [.ref tbo, .int 0])), (tbo, .inl (G.2 5, 9, .inr (.inr (.inr (.inr tbg)))))]) (cx := [(tb, .inr (8, [.ref tbo, .int 0])), (tbo, .inl (G.2 5, 9, .inr (.inr (.inr (.inr tbg)))))]) hD [0, 1] (by decide) rfl
  have hFc := va_freeP (X := [(tb, .inr (8, [.ref tbo, .int 0])), (tbo, .inl (G.2 5, 9, .inr (.inr (.inr (.inr tbg)))))]) (cx := [(tb, .inr (8, [.ref tbo, .int 0])), (tbo, .inl (G.2 5, 9, .inr (.inr (.inr (.inr tbg)))))]) hD hS hA [0, 1] rfl
  refine va_callv (va_runV (As := [.int 1]) (rest := []) ⟨hx, hb, hml, hown, hts⟩ (k_widen_9_1 l G _ tb tbo tbg L fp (by first | assumption | decide) (by first | assumption | decide)) (cwV 1 hts (gd_V mw_9_5 mw_9_6 mw_9_7 mw_3_13 mw_9_8) rfl rfl rfl ⟨rfl, yk_X8_widen⟩ ⟨Nat.le_of_ble_eq_true rfl, Nat.le_of_ble_eq_true rfl⟩) (c0_preV (q0 := 0) (ci := 8) (q := (RX8, TX8, 2)) hPc hK hDc rfl rfl) rfl rfl hl.1 rfl (lv_room (Nat.le_of_ble_eq_true rfl)) dX8_add_7 ⟨Nat.le_of_ble_eq_true rfl, Nat.le_of_ble_eq_true rfl⟩) hS (fun q _ h => hFc q h) hFc (fun u t H1 locs ht1 hvm hw hB hz1 hk1 hS => ?_)
  try dsimp only at hw hB
  obtain ⟨hP1, hD1⟩ := hB
  rw [ht1] at hP1
  obtain ⟨hP, hD⟩ := va_joinP (X := [(tb, .inr (8, [.ref tbo, .int 0])), (tbo, .inl (G.2 5, 9, .inr (.inr (.inr (.inr tbg)))))]) (cx := [(tb, .inr (8, [.ref tbo, .int 0])), (tbo, .inl (G.2 5, 9, .inr (.inr (.inr (.inr tbg)))))]) (wr := []) (rx := [(tb, .inr (8, [.ref tbo, .int 0])), (tbo, .inl (G.2 5, 9, .inr (.inr (.inr (.inr tbg)))))]) (pl1 := va_pl L fp) hP hD [0, 1] [] rfl rfl (by decide) (by decide) hk1 hFc hP1 hD1
  generalize H1 = H at hP hS ⊢
  have hP : va_P G.1 vwCl ([(tb, .inr (8, [.ref tbo, .int 0])), (tbo, .inl (G.2 5, 9, .inr (.inr (.inr (.inr tbg)))))] ++ va_pl L fp) H := hP
  have hD : va_D A ([(tb, .inr (8, [.ref tbo, .int 0])), (tbo, .inl (G.2 5, 9, .inr (.inr (.inr (.inr tbg)))))] ++ va_pl L fp) := hD
  refine lv_iconst (v := 0) hx hb dX8_add_10 (by decide) ?_
  refine lv_istore_n (lv' := [(1, .int 0), (0, .ref tb)]) hx hb dX8_add_11 rfl hl (by decide) rfl (fun ls hl => ?_)
  have lp_2 : ∀ (Q : State → Prop), (∀ (fp_2 : Nat → va_E) (H : Heap) (locs : List Loc) (ls : Array Slot), Ro G L fp_2 → va_P G.1 vwCl ([(tb, .inr (8, [.ref tbo, .int 0])), (tbo, .inl (G.2 5, 9, .inr (.inr (.inr (.inr tbg)))))] ++ va_pl L fp_2) H → va_D A ([(tb, .inr (8, [.ref tbo, .int 0])), (tbo, .inl (G.2 5, 9, .inr (.inr (.inr (.inr tbg)))))] ++ va_pl L fp_2) → va_S A s.heap H locs → lv_has ls 2 [(0, .ref tb)] → W p l e (headSpec (.code yX8_add cX8_add 2 (some .int) :: TT) ({ frames := 2, cells := 0, slots := 0, locals := 200 } : Room)).room s m [.ref tb].toArray below meth c H locs 0 0 Q (F0 m 39 ls [])) → ∀ (n i : Nat) (x9 : Int32) (fp_2 : Nat → va_E) (H : Heap) (locs : List Loc) (ls : Array Slot), i ≤ 9 → 10 ≤ i + n → x9 = nI i → Ro G L fp_2 → va_P G.1 vwCl ([(tb, .inr (8, [.ref tbo, .int 0])), (tbo, .inl (G.2 5, 9, .inr (.inr (.inr (.inr tbg)))))] ++ va_pl L fp_2) H → va_D A ([(tb, .inr (8, [.ref tbo, .int 0])), (tbo, .inl (G.2 5, 9, .inr (.inr (.inr (.inr tbg)))))] ++ va_pl L fp_2) → va_S A s.heap H locs → lv_has ls 2 [(1, .int x9), (0, .ref tb)] → W p l e (headSpec (.code yX8_add cX8_add 2 (some .int) :: TT) ({ frames := 2, cells := 0, slots := 0, locals := 200 } : Room)).room s m [.ref tb].toArray below meth c H locs 0 0 Q (F0 m 12 ls []) := by
    intro Q hex n
    induction n with
    | zero =>
      intro i x9 fp_2 H locs ls h1 h2
      exact absurd h2 (by omega)
    | succ n ih =>
      intro i x9 fp_2 H locs ls hi hin9 ex9 hRo hP hD hS hl
      refine lv_iload_n hx hb dX8_add_12 rfl (lv_at hl 0 rfl) ?_
      refine lv_aload_n hx hb dX8_add_13 rfl (lv_at hl 1 rfl) ?_
      refine va_get (D := G.1) (ci := 8) (v := .ref tbo) (C := RX8) (T := TX8) (N := 2) hx hb ht inlX8 hown hK.1 hP 0 rfl rfl 0 (by decide) (ht (Cond.fieldLink RX8 17 "PloughDepot$Table" "cells" "[[I") mw_4_4) (fun _ h9 => h9) rfl dX8_add_14 ?_
      refine va_alen hx hb hK.1 hP 1 5 rfl rfl (v := 9) rfl dX8_add_17 ?_
      refine lv_icmp_ge (tgt := 39) hx hb dX8_add_18 (by decide) (fun c9 => ?_) (fun c9 => ?_)
      · have hiN : i = 9 := by
          rcases Nat.lt_or_ge i 9 with q | q
          · exact absurd c9 (by rw [ex9]; exact nI_ge q (by first | decide | omega))
          · omega
        exact hex fp_2 H locs ls hRo hP hD hS (lv_sub hl [1] rfl)
      · have hlt : i < 9 := by
          rcases Nat.lt_or_ge i 9 with q | q
          · exact q
          · exact absurd (by rw [ex9]; exact nI_le q (by omega)) c9
        have hin_tbo : vp_in x9 9 := by rw [ex9]; exact vp_in_nI (by omega) (by first | decide | omega)
        have hx0 : (0 : Int32) ≤ x9 := by rw [ex9]; exact nI_pos' (by omega)
        refine lv_aload_n hx hb dX8_add_21 rfl (lv_at hl 1 rfl) ?_
        refine va_get (D := G.1) (ci := 8) (v := .ref tbo) (C := RX8) (T := TX8) (N := 2) hx hb ht inlX8 hown hK.1 hP 0 rfl rfl 0 (by decide) (ht (Cond.fieldLink RX8 17 "PloughDepot$Table" "cells" "[[I") mw_4_4) (fun _ h9 => h9) rfl dX8_add_22 ?_
        refine lv_iload_n hx hb dX8_add_25 rfl (lv_at hl 0 rfl) ?_
        obtain ⟨y_3, hy_3, hLy_3⟩ := hgtb i (by omega)
        have hy_3 : tbg x9.toNatClampNeg = some y_3 := by rw [ex9, nI_clamp (by omega)]; exact hy_3
        refine ns_row hx hb hK hP 1 rfl hin_tbo hy_3 dX8_add_26 ?_
        refine lv_aload_n hx hb dX8_add_27 rfl (lv_at hl 1 rfl) ?_
        refine va_get (D := G.1) (ci := 8) (v := .int 0) (C := RX8) (T := TX8) (N := 2) hx hb ht inlX8 hown hK.1 hP 0 rfl rfl 1 (by decide) (ht (Cond.fieldLink RX8 9 "PloughDepot$Table" "size" "I") mw_4_2) (fun _ h9 => h9) rfl dX8_add_28 ?_
        refine lv_iconst (v := 0) hx hb dX8_add_31 (by decide) ?_
        refine ns_past (X := [(tb, .inr (8, [.ref tbo, .int 0])), (tbo, .inl (G.2 5, 9, .inr (.inr (.inr (.inr tbg)))))]) hx hb hK hRo hLy_3 hP hD hS (fun n h4 => vp_in_iff.mpr ⟨by decide, by have h0 : (0 : Int32).toInt = 0 := (by decide); omega⟩) dX8_add_32 (fun fp_4 H locs hRo hP hD hS => ?_)
        obtain ⟨v_5, ev_5⟩ : ∃ y : Int32, y = x9 + 1 := ⟨_, rfl⟩
        refine lv_iinc (v := v_5) (lv' := [(1, .int v_5), (0, .ref tb)]) hx hb dX8_add_33 hl (k := 0) rfl (by rw [ev_5]; rfl) (by decide) rfl (fun ls hl => ?_)
        refine lv_goto (tgt := 12) hx hb dX8_add_36 (by decide) ?_
        exact ih (i + 1) _ fp_4 _ _ _ (by omega) (by omega) (by rw [ev_5, ex9]; exact nI_1 i) hRo hP hD hS (lv_sub hl [0, 1] rfl)
  refine lp_2 _ ?_ (10) 0 0 fp _ _ _ (by omega) (by omega) nI_0.symm hRo hP hD hS (lv_sub hl [0, 1] rfl)
  intro fp_2 H locs ls hRo hP hD hS hl
  refine lv_aload_n hx hb dX8_add_39 rfl (lv_at hl 0 rfl) ?_
  refine lv_dup hx hb dX8_add_40 rfl ?_
  refine va_get (D := G.1) (ci := 8) (v := .int 0) (C := RX8) (T := TX8) (N := 2) hx hb ht inlX8 hown hK.1 hP 0 rfl rfl 1 (by decide) (ht (Cond.fieldLink RX8 9 "PloughDepot$Table" "size" "I") mw_4_2) (fun _ h9 => h9) rfl dX8_add_41 ?_
  refine lv_iconst (v := 1) hx hb dX8_add_44 (by decide) ?_
  refine lv_iadd hx hb dX8_add_45 ?_
  refine lv_topi (fun v_6 ev_6 => ?_)
  obtain rfl : v_6 = 1 := ev_6.trans (by decide)
  refine va_put (D := G.1) (ci := 8) (v := .int 1) (ty := tyX8 1) (C := RX8) (T := TX8) (N := 2) hx hb ht inlX8 tyX8 tyX8_ok nmX8 hown hK.1 hP hD hS 0 rfl rfl 1 (by decide) (ht (Cond.fieldLink RX8 9 "PloughDepot$Table" "size" "I") mw_4_2) (fun _ h9 => h9) rfl (tyX8_ok 1 (by decide)) rfl rfl (Nat.le_of_ble_eq_true rfl) dX8_add_46 (fun H locs hP hD hS => ?_)
  have hP : va_P G.1 vwCl ([(tb, .inr (8, [.ref tbo, .int 1])), (tbo, .inl (G.2 5, 9, .inr (.inr (.inr (.inr tbg)))))] ++ va_pl L fp_2) H := hP
  have hD : va_D A ([(tb, .inr (8, [.ref tbo, .int 1])), (tbo, .inl (G.2 5, 9, .inr (.inr (.inr (.inr tbg)))))] ++ va_pl L fp_2) := hD
  refine lv_aload_n hx hb dX8_add_49 rfl (lv_at hl 0 rfl) ?_
  refine va_get (D := G.1) (ci := 8) (v := .int 1) (C := RX8) (T := TX8) (N := 2) hx hb ht inlX8 hown hK.1 hP 0 rfl rfl 1 (by decide) (ht (Cond.fieldLink RX8 9 "PloughDepot$Table" "size" "I") mw_4_2) (fun _ h9 => h9) rfl dX8_add_50 ?_
  refine lv_iconst (v := 1) hx hb dX8_add_53 (by decide) ?_
  refine lv_isub hx hb dX8_add_54 ?_
  refine lv_topi (fun v_7 ev_7 => ?_)
  obtain rfl : v_7 = 0 := ev_7.trans (by decide)
  have hP9 := va_P.part (X := [(tb, .inr (8, [.ref tbo, .int 1])), (tbo, .inl (G.2 5, 9, .inr (.inr (.inr (.inr tbg)))))]) (cx := [(tb, .inr (8, [.ref tbo, .int 1])), (tbo, .inl (G.2 5, 9, .inr (.inr (.inr (.inr tbg)))))]) hP [0, 1] rfl
  have hD9 := va_D.part (X := [(tb, .inr (8, [.ref tbo, .int 1])), (tbo, .inl (G.2 5, 9, .inr (.inr (.inr (.inr tbg)))))]) (cx := [(tb, .inr (8, [.ref tbo, .int 1])), (tbo, .inl (G.2 5, 9, .inr (.inr (.inr (.inr tbg)))))]) hD [0, 1] (by decide) rfl
  exact W.iret (v := 0) hx hb hr (fun t ht hW => ⟨⟨0, fp_2, rfl, ⟨rfl, hRo⟩, ⟨by rw [ht]; exact hP9, hD9⟩⟩, hS.F ht⟩) hS.2.2 dX8_add_55

set_option maxHeartbeats 4000000 in
set_option maxRecDepth 100000 in
theorem k_tput6 (l : Launch) (G : GG) (sz : Nat) (tb : Nat) (pv : Int32) (tbo : Nat) (tbg : Nat → Option Nat) (L : List Nat) (fp : Nat → va_E) (hRo : Ro G L fp) (hgtb : Gr L tbg 9) : Met l yX8_put (.code yX8_put cX8_put 4 none :: TT) ({ frames := 1, cells := 0, slots := 0, locals := 100 } : Room) (c0_P G [.ref tb, .int 0, .int 6, .int pv] sz ([(tb, .inr (8, [.ref tbo, .int 1])), (tbo, .inl (G.2 5, 9, .inr (.inr (.inr (.inr tbg)))))] ++ va_pl L fp)) (va_Qv (S := (Nat → va_E)) (fun (u : (Nat → va_E)) => Ro G L u) (fun (u : (Nat → va_E)) (t : State) => c0_B G (va_A ([(tb, .inr (8, [.ref tbo, .int 1])), (tbo, .inl (G.2 5, 9, .inr (.inr (.inr (.inr tbg)))))] ++ va_pl L fp) sz) ([(tb, .inr (8, [.ref tbo, .int 1])), (tbo, .inl (G.2 5, 9, .inr (.inr (.inr (.inr tbg)))))] ++ va_pl L u) t) (va_A ([(tb, .inr (8, [.ref tbo, .int 1])), (tbo, .inl (G.2 5, 9, .inr (.inr (.inr (.inr tbg)))))] ++ va_pl L fp) sz)) 0 0 (va_A ([(tb, .inr (8, [.ref tbo, .int 1])), (tbo, .inl (G.2 5, 9, .inr (.inr (.inr (.inr tbg)))))] ++ va_pl L fp) sz) := by
  refine Met.ofW (cc := cX8_put) (maxL := 4) (ret := none) (by decide) rfl ?_
  intro p e s m args below meth c s₁ B hml hv
  obtain ⟨rfl, hsz, hP, hK, hD0⟩ := hv
  have hx := B.exec
  have hb := B.bytes
  have hr := B.returns
  have hts := atoms_spec (ws := .code yX8_put cX8_put 4 none :: TT) B.pre
  have ht := fun (w : Cond) (h : w ∈ TT) => hts w (List.mem_cons_of_mem _ h)
  have hown : s.vm.findClass RX8 = some m.cls := findClass_of_methodNamed B.named
  have hlocks := B.notSynchronized
  subst hsz
  have hD := hD0.self (sz := s.heap.size)
  generalize hAe : va_A ([(tb, .inr (8, [.ref tbo, .int 1])), (tbo, .inl (G.2 5, 9, .inr (.inr (.inr (.inr tbg)))))] ++ va_pl L fp) s.heap.size = A at hD ⊢
  have hA : ∀ q : Nat, s.heap.size ≤ q → A q := fun q h => by rw [← hAe]; exact Or.inr h
  have hS : va_S A s.heap s.heap [] := va_S.rf
  have hP : va_P G.1 vwCl ([(tb, .inr (8, [.ref tbo, .int 1])), (tbo, .inl (G.2 5, 9, .inr (.inr (.inr (.inr tbg)))))] ++ va_pl L fp) s.heap := hP
  have hl := lv_entry ([.ref tb, .int 0, .int 6, .int pv]) (n := 4) (Nat.le_of_ble_eq_true rfl)
  rw [lg_entry_eq]
  generalize (lg_sl ([.ref tb, .int 0, .int 6, .int pv]) ++ List.replicate (4 - (lg_sl ([.ref tb, .int 0, .int 6, .int pv])).length) Slot.unset).toArray = ls at hl ⊢
  have hl : lv_has ls 4 [(0, .ref tb), (1, .int 0), (2, .int 6), (3, .int pv)] := hl
  refine lv_iload_n hx hb dX8_put_0 rfl (lv_at hl 1 rfl) ?_
  refine lv_if_lt (tgt := 34) hx hb dX8_put_1 (by decide) (fun c_1 => ?_) (fun c_1 => ?_)
  · exact absurd c_1 (by decide)
  · refine lv_iload_n hx hb dX8_put_4 rfl (lv_at hl 1 rfl) ?_
    refine lv_aload_n hx hb dX8_put_5 rfl (lv_at hl 0 rfl) ?_
    refine va_get (D := G.1) (ci := 8) (v := .int 1) (C := RX8) (T := TX8) (N := 2) hx hb ht inlX8 hown hK.1 hP 0 rfl rfl 1 (by decide) (ht (Cond.fieldLink RX8 9 "PloughDepot$Table" "size" "I") mw_4_2) (fun _ h9 => h9) rfl dX8_put_6 ?_
    refine lv_icmp_ge (tgt := 34) hx hb dX8_put_9 (by decide) (fun c_2 => ?_) (fun c_2 => ?_)
    · exact absurd c_2 (by decide)
    · refine lv_iload_n hx hb dX8_put_12 rfl (lv_at hl 2 rfl) ?_
      refine lv_if_lt (tgt := 34) hx hb dX8_put_13 (by decide) (fun c_3 => ?_) (fun c_3 => ?_)
      · exact absurd c_3 (by decide)
      · refine lv_iload_n hx hb dX8_put_16 rfl (lv_at hl 2 rfl) ?_
        refine lv_aload_n hx hb dX8_put_17 rfl (lv_at hl 0 rfl) ?_
        refine va_get (D := G.1) (ci := 8) (v := .ref tbo) (C := RX8) (T := TX8) (N := 2) hx hb ht inlX8 hown hK.1 hP 0 rfl rfl 0 (by decide) (ht (Cond.fieldLink RX8 17 "PloughDepot$Table" "cells" "[[I") mw_4_4) (fun _ h9 => h9) rfl dX8_put_18 ?_
        refine va_alen hx hb hK.1 hP 1 5 rfl rfl (v := 9) rfl dX8_put_21 ?_
        refine lv_icmp_ge (tgt := 34) hx hb dX8_put_22 (by decide) (fun c_4 => ?_) (fun c_4 => ?_)
        · exact absurd c_4 (by decide)
        · refine lv_aload_n hx hb dX8_put_25 rfl (lv_at hl 0 rfl) ?_
          refine va_get (D := G.1) (ci := 8) (v := .ref tbo) (C := RX8) (T := TX8) (N := 2) hx hb ht inlX8 hown hK.1 hP 0 rfl rfl 0 (by decide) (ht (Cond.fieldLink RX8 17 "PloughDepot$Table" "cells" "[[I") mw_4_4) (fun _ h9 => h9) rfl dX8_put_26 ?_
          refine lv_iload_n hx hb dX8_put_29 rfl (lv_at hl 2 rfl) ?_
          obtain ⟨y_5, hy_5, hLy_5⟩ := hgtb 6 (by decide)
          refine ns_row hx hb hK hP 1 rfl (show ¬ ((6 : Int32) < 0 ∨ 9 ≤ (6 : Int32).toNatClampNeg) by decide) hy_5 dX8_put_30 ?_
          refine lv_iload_n hx hb dX8_put_31 rfl (lv_at hl 1 rfl) ?_
          refine lv_iload_n hx hb dX8_put_32 rfl (lv_at hl 3 rfl) ?_
          refine ns_past (X := [(tb, .inr (8, [.ref tbo, .int 1])), (tbo, .inl (G.2 5, 9, .inr (.inr (.inr (.inr tbg)))))]) hx hb hK hRo hLy_5 hP hD hS (fun n h4 => vp_in_iff.mpr ⟨by decide, by have h0 : (0 : Int32).toInt = 0 := (by decide); omega⟩) dX8_put_33 (fun fp_6 H locs hRo hP hD hS => ?_)
          have hP9 := va_P.part (X := [(tb, .inr (8, [.ref tbo, .int 1])), (tbo, .inl (G.2 5, 9, .inr (.inr (.inr (.inr tbg)))))]) (cx := [(tb, .inr (8, [.ref tbo, .int 1])), (tbo, .inl (G.2 5, 9, .inr (.inr (.inr (.inr tbg)))))]) hP [0, 1] rfl
          have hD9 := va_D.part (X := [(tb, .inr (8, [.ref tbo, .int 1])), (tbo, .inl (G.2 5, 9, .inr (.inr (.inr (.inr tbg)))))]) (cx := [(tb, .inr (8, [.ref tbo, .int 1])), (tbo, .inl (G.2 5, 9, .inr (.inr (.inr (.inr tbg)))))]) hD [0, 1] (by decide) rfl
          exact W.vret hx hb hr (fun t ht hW => ⟨⟨fp_6, rfl, hRo, ⟨by rw [ht]; exact hP9, hD9⟩⟩, hS.F ht⟩) hS.2.2 dX8_put_34

set_option maxHeartbeats 4000000 in
set_option maxRecDepth 100000 in
theorem k_tput5 (l : Launch) (G : GG) (sz : Nat) (tb : Nat) (pv : Int32) (tbo : Nat) (tbg : Nat → Option Nat) (L : List Nat) (fp : Nat → va_E) (hRo : Ro G L fp) (hgtb : Gr L tbg 9) : Met l yX8_put (.code yX8_put cX8_put 4 none :: TT) ({ frames := 1, cells := 0, slots := 0, locals := 100 } : Room) (c0_P G [.ref tb, .int 0, .int 5, .int pv] sz ([(tb, .inr (8, [.ref tbo, .int 1])), (tbo, .inl (G.2 5, 9, .inr (.inr (.inr (.inr tbg)))))] ++ va_pl L fp)) (va_Qv (S := (Nat → va_E)) (fun (u : (Nat → va_E)) => Ro G L u) (fun (u : (Nat → va_E)) (t : State) => c0_B G (va_A ([(tb, .inr (8, [.ref tbo, .int 1])), (tbo, .inl (G.2 5, 9, .inr (.inr (.inr (.inr tbg)))))] ++ va_pl L fp) sz) ([(tb, .inr (8, [.ref tbo, .int 1])), (tbo, .inl (G.2 5, 9, .inr (.inr (.inr (.inr tbg)))))] ++ va_pl L u) t) (va_A ([(tb, .inr (8, [.ref tbo, .int 1])), (tbo, .inl (G.2 5, 9, .inr (.inr (.inr (.inr tbg)))))] ++ va_pl L fp) sz)) 0 0 (va_A ([(tb, .inr (8, [.ref tbo, .int 1])), (tbo, .inl (G.2 5, 9, .inr (.inr (.inr (.inr tbg)))))] ++ va_pl L fp) sz) := by
  refine Met.ofW (cc := cX8_put) (maxL := 4) (ret := none) (by decide) rfl ?_
  intro p e s m args below meth c s₁ B hml hv
  obtain ⟨rfl, hsz, hP, hK, hD0⟩ := hv
  have hx := B.exec
  have hb := B.bytes
  have hr := B.returns
  have hts := atoms_spec (ws := .code yX8_put cX8_put 4 none :: TT) B.pre
  have ht := fun (w : Cond) (h : w ∈ TT) => hts w (List.mem_cons_of_mem _ h)
  have hown : s.vm.findClass RX8 = some m.cls := findClass_of_methodNamed B.named
  have hlocks := B.notSynchronized
  subst hsz
  have hD := hD0.self (sz := s.heap.size)
  generalize hAe : va_A ([(tb, .inr (8, [.ref tbo, .int 1])), (tbo, .inl (G.2 5, 9, .inr (.inr (.inr (.inr tbg)))))] ++ va_pl L fp) s.heap.size = A at hD ⊢
  have hA : ∀ q : Nat, s.heap.size ≤ q → A q := fun q h => by rw [← hAe]; exact Or.inr h
  have hS : va_S A s.heap s.heap [] := va_S.rf
  have hP : va_P G.1 vwCl ([(tb, .inr (8, [.ref tbo, .int 1])), (tbo, .inl (G.2 5, 9, .inr (.inr (.inr (.inr tbg)))))] ++ va_pl L fp) s.heap := hP
  have hl := lv_entry ([.ref tb, .int 0, .int 5, .int pv]) (n := 4) (Nat.le_of_ble_eq_true rfl)
  rw [lg_entry_eq]
  generalize (lg_sl ([.ref tb, .int 0, .int 5, .int pv]) ++ List.replicate (4 - (lg_sl ([.ref tb, .int 0, .int 5, .int pv])).length) Slot.unset).toArray = ls at hl ⊢
  have hl : lv_has ls 4 [(0, .ref tb), (1, .int 0), (2, .int 5), (3, .int pv)] := hl
  refine lv_iload_n hx hb dX8_put_0 rfl (lv_at hl 1 rfl) ?_
  refine lv_if_lt (tgt := 34) hx hb dX8_put_1 (by decide) (fun c_1 => ?_) (fun c_1 => ?_)
  · exact absurd c_1 (by decide)
  · refine lv_iload_n hx hb dX8_put_4 rfl (lv_at hl 1 rfl) ?_
    refine lv_aload_n hx hb dX8_put_5 rfl (lv_at hl 0 rfl) ?_
    refine va_get (D := G.1) (ci := 8) (v := .int 1) (C := RX8) (T := TX8) (N := 2) hx hb ht inlX8 hown hK.1 hP 0 rfl rfl 1 (by decide) (ht (Cond.fieldLink RX8 9 "PloughDepot$Table" "size" "I") mw_4_2) (fun _ h9 => h9) rfl dX8_put_6 ?_
    refine lv_icmp_ge (tgt := 34) hx hb dX8_put_9 (by decide) (fun c_2 => ?_) (fun c_2 => ?_)
    · exact absurd c_2 (by decide)
    · refine lv_iload_n hx hb dX8_put_12 rfl (lv_at hl 2 rfl) ?_
      refine lv_if_lt (tgt := 34) hx hb dX8_put_13 (by decide) (fun c_3 => ?_) (fun c_3 => ?_)
      · exact absurd c_3 (by decide)
      · refine lv_iload_n hx hb dX8_put_16 rfl (lv_at hl 2 rfl) ?_
        refine lv_aload_n hx hb dX8_put_17 rfl (lv_at hl 0 rfl) ?_
        refine va_get (D := G.1) (ci := 8) (v := .ref tbo) (C := RX8) (T := TX8) (N := 2) hx hb ht inlX8 hown hK.1 hP 0 rfl rfl 0 (by decide) (ht (Cond.fieldLink RX8 17 "PloughDepot$Table" "cells" "[[I") mw_4_4) (fun _ h9 => h9) rfl dX8_put_18 ?_
        refine va_alen hx hb hK.1 hP 1 5 rfl rfl (v := 9) rfl dX8_put_21 ?_
        refine lv_icmp_ge (tgt := 34) hx hb dX8_put_22 (by decide) (fun c_4 => ?_) (fun c_4 => ?_)
        · exact absurd c_4 (by decide)
        · refine lv_aload_n hx hb dX8_put_25 rfl (lv_at hl 0 rfl) ?_
          refine va_get (D := G.1) (ci := 8) (v := .ref tbo) (C := RX8) (T := TX8) (N := 2) hx hb ht inlX8 hown hK.1 hP 0 rfl rfl 0 (by decide) (ht (Cond.fieldLink RX8 17 "PloughDepot$Table" "cells" "[[I") mw_4_4) (fun _ h9 => h9) rfl dX8_put_26 ?_
          refine lv_iload_n hx hb dX8_put_29 rfl (lv_at hl 2 rfl) ?_
          obtain ⟨y_5, hy_5, hLy_5⟩ := hgtb 5 (by decide)
          refine ns_row hx hb hK hP 1 rfl (show ¬ ((5 : Int32) < 0 ∨ 9 ≤ (5 : Int32).toNatClampNeg) by decide) hy_5 dX8_put_30 ?_
          refine lv_iload_n hx hb dX8_put_31 rfl (lv_at hl 1 rfl) ?_
          refine lv_iload_n hx hb dX8_put_32 rfl (lv_at hl 3 rfl) ?_
          refine ns_past (X := [(tb, .inr (8, [.ref tbo, .int 1])), (tbo, .inl (G.2 5, 9, .inr (.inr (.inr (.inr tbg)))))]) hx hb hK hRo hLy_5 hP hD hS (fun n h4 => vp_in_iff.mpr ⟨by decide, by have h0 : (0 : Int32).toInt = 0 := (by decide); omega⟩) dX8_put_33 (fun fp_6 H locs hRo hP hD hS => ?_)
          have hP9 := va_P.part (X := [(tb, .inr (8, [.ref tbo, .int 1])), (tbo, .inl (G.2 5, 9, .inr (.inr (.inr (.inr tbg)))))]) (cx := [(tb, .inr (8, [.ref tbo, .int 1])), (tbo, .inl (G.2 5, 9, .inr (.inr (.inr (.inr tbg)))))]) hP [0, 1] rfl
          have hD9 := va_D.part (X := [(tb, .inr (8, [.ref tbo, .int 1])), (tbo, .inl (G.2 5, 9, .inr (.inr (.inr (.inr tbg)))))]) (cx := [(tb, .inr (8, [.ref tbo, .int 1])), (tbo, .inl (G.2 5, 9, .inr (.inr (.inr (.inr tbg)))))]) hD [0, 1] (by decide) rfl
          exact W.vret hx hb hr (fun t ht hW => ⟨⟨fp_6, rfl, hRo, ⟨by rw [ht]; exact hP9, hD9⟩⟩, hS.F ht⟩) hS.2.2 dX8_put_34

