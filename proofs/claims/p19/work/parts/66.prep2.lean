section PR2
variable {Q : Dt → Prop} {sh : Sh} {d d0 d' : Dt} {z : Nat} {ow : Nat → Nat} {R : Nat → Int32} {N : Nat} {L : Nat → Nat}
theorem fillJ_loop {a n : Nat} {v : Int64} (ha : isA sh a 1 ∧ sh.2.2.1 a = n) (hn : n < 2 ^ 31) : ∀ (m i fu : Nat) (d : Dt), i + m = n → m < fu → f_J7_fill_d0a16_6 N sh fu a v (nI i) (nI n) d = some (d.1, va_up d.2.1 a (fun k => if i ≤ k ∧ k < n then v else d.2.1 a k), d.2.2)
  | 0, i, fu, d, hi, hf => by
    obtain ⟨fu, rfl⟩ : ∃ q, fu = q + 1 := ⟨fu - 1, by omega⟩
    show g_J7_fill_d0a16_6 N sh (f_J7_fill_d0a16_6 N sh fu) a v (nI i) (nI n) d = _
    unfold g_J7_fill_d0a16_6
    rw [if_pos ((nI_leI (by omega) (by omega)).mpr (by omega))]
    show some d = _
    congr 1
    refine Prod.ext rfl (Prod.ext ?_ rfl)
    funext b
    show d.2.1 b = va_up d.2.1 a _ b
    by_cases e : b = a
    · subst e
      rw [va_up_s]
      funext k
      rw [if_neg (by omega)]
    · rw [va_up_n e]
  | m + 1, i, fu, d, hi, hf => by
    obtain ⟨fu, rfl⟩ : ∃ q, fu = q + 1 := ⟨fu - 1, by omega⟩
    show g_J7_fill_d0a16_6 N sh (f_J7_fill_d0a16_6 N sh fu) a v (nI i) (nI n) d = _
    unfold g_J7_fill_d0a16_6
    rw [if_neg (nI_ge (by omega) (by omega)), q_sJ ha i rfl (by omega) hn]
    show f_J7_fill_d0a16_6 N sh fu a v (nI i + 1) (nI n) (wJ d a i v) = _
    rw [nI_1, fillJ_loop ha hn m (i + 1) fu (wJ d a i v) (by omega) (by omega)]
    congr 1
    refine Prod.ext rfl (Prod.ext ?_ rfl)
    funext b
    show va_up (up2 d.2.1 a i v) a (fun k => if i + 1 ≤ k ∧ k < n then v else up2 d.2.1 a i v a k) b = va_up d.2.1 a _ b
    by_cases e : b = a
    · subst e
      rw [va_up_s, va_up_s, up2_s]
      funext k
      by_cases h1 : k = i
      · subst h1
        rw [if_neg (by omega), if_pos (by omega), va_up_s]
      · rw [va_up_n h1]
        by_cases h2 : i ≤ k ∧ k < n
        · rw [if_pos (by omega), if_pos h2]
        · rw [if_neg (by omega), if_neg h2]
    · rw [va_up_n e, va_up_n e, up2_n e]
theorem fillJ_eq {a n : Nat} {v : Int64} (ha : isA sh a 1 ∧ sh.2.2.1 a = n) (hn : n < 2 ^ 31) (hN : n < N) : f_J7_fill_d0a16 N sh a v d = some (d.1, va_up d.2.1 a (fun k => if k < n then v else d.2.1 a k), d.2.2) := by
  unfold f_J7_fill_d0a16
  rw [q_len ha (by decide)]
  show f_J7_fill_d0a16_6 N sh N a v (nI 0) (nI n) d = _
  rw [fillJ_loop ha hn n 0 N d (by omega) (by omega)]
  simp
theorem edge_iff {i ea eb x y : Nat} (hi : i < nn R 1) (ho : R (16 + 9 * i + 4) = 0) (e7 : R (16 + 9 * i + 7) = nI ea) (e8 : R (16 + 9 * i + 8) = nI eb) (h1 : ea < 2 ^ 31) (h2 : eb < 2 ^ 31) (hx : x < 2 ^ 31) (hy : y < 2 ^ 31) : edge R i x y ↔ (x = ea ∧ y = eb) ∨ (R (16 + 9 * i + 5) = 0 ∧ x = eb ∧ y = ea) := by
  unfold edge
  rw [e7, e8, nI_eq h1 hx, nI_eq h2 hy, nI_eq h2 hx, nI_eq h1 hy]
  refine ⟨fun q => q.2.2.elim (fun r => Or.inl ⟨r.1.symm, r.2.symm⟩) (fun r => Or.inr ⟨r.1, r.2.1.symm, r.2.2.symm⟩), fun q => ⟨hi, ho, q.elim (fun r => Or.inl ⟨r.1.symm, r.2.symm⟩) (fun r => Or.inr ⟨r.1, r.2.1.symm, r.2.2.symm⟩)⟩⟩
theorem HopJ.cg {E E' : Nat → Nat → Nat → Prop} (h : HopJ d z R E) (he : ∀ s a b, a < 60 → b < 60 → (E s a b ↔ E' s a b)) : HopJ d z R E' := by
  refine ⟨fun a b ha hb => ?_, h.2⟩
  obtain ⟨h1, h2⟩ := h.1 a b ha hb
  refine ⟨?_, ?_⟩
  · rcases h1 with ⟨q1, q2⟩ | ⟨s, q1, q2, q3⟩
    · exact Or.inl ⟨q1, fun s hs => q2 s ((he s a b ha hb).mpr hs)⟩
    · exact Or.inr ⟨s, q1, (he s a b ha hb).mp q2, fun s' hs' => q3 s' ((he s' a b ha hb).mpr hs')⟩
  · rw [h2]
    exact ⟨fun ⟨s, hs⟩ => ⟨s, (he s a b ha hb).mp hs⟩, fun ⟨s, hs⟩ => ⟨s, (he s a b ha hb).mpr hs⟩⟩
theorem prep_loop (hK : KS sh z) (hw : OWS ow z) (hN : WN R) (hW : WS R) (hS : SPN d0 z) (hT : TB sh d0 z ow 4 9 (nn R 1) (vS R) L) : ∀ (m i fu : Nat) (d : Dt), i + m = nn R 1 → m < fu → WFR z d0 d → HopJ d z R (fun s a b => s < i ∧ edge R s a b) → Rn (f_X10_prepare_42 N sh fu (z + 77) (nI i) d) (fun d' => WFR z d0 d' ∧ d'.1 (z + 77) 5 = 1 ∧ HopOK d' z R ∧ GapOK d' z R)
  | 0, i, fu, d, hi, hf, hM, hH => by
    obtain ⟨fu, rfl⟩ : ∃ q, fu = q + 1 := ⟨fu - 1, by omega⟩
    show Rn (g_X10_prepare_42 N sh (f_X10_prepare_42 N sh fu) (z + 77) (nI i) d) _
    have n1 := hN.2.1
    have hTd := tb_wfr hK hw (by decide) hT hM (by omega)
    unfold g_X10_prepare_42
    refine r_gP hK 77 10 0 3 rfl (by decide) ?_
    refine r_gP hK 3 1 1 4 rfl (by decide) ?_
    refine r_gI hK (i := 4) (c := 8) rfl ?_
    rw [hTd.1]
    refine rn_t ((nI_leI (by omega) (by omega)).mpr (by omega)) ?_
    unfold f_X10_prepare_134
    refine r_pJ hK (i := 77) (c := 10) rfl ?_
    refine r_pI hK (i := 77) (c := 10) rfl ?_
    have e : i = nn R 1 := by omega
    subst e
    refine rn_some ⟨hM.tr ((WFR.wJ (by omega) (by omega)).tr (WFR.wI (by omega) (by omega))), ?_, ⟨fun a b ha hb => ?_, fun a b hb ha => ?_⟩, fun v hv hb => ?_⟩
    · rw [wI_s, va_up_s]
    · have q := hH.cg (E' := edge R) (fun s a b _ _ => ⟨fun r => r.2, fun r => ⟨r.1, r⟩⟩)
      have q := q.1 a b ha hb
      have e1 : (wI (wJ d (z + 77) 4 0) (z + 77) 5 1).1 (z + (79 + a)) = d.1 (z + (79 + a)) := wI_n (by omega)
      have e2 : (wI (wJ d (z + 77) 4 0) (z + 77) 5 1).2.1 (z + 139) = d.2.1 (z + 139) := up2_n (by omega)
      rw [e1, e2]
      exact q
    · have e2 : (wI (wJ d (z + 77) 4 0) (z + 77) 5 1).2.1 (z + 139) = d.2.1 (z + 139) := up2_n (by omega)
      rw [e2]
      exact hH.2 a b hb ha
    · have e2 : (wI (wJ d (z + 77) 4 0) (z + 77) 5 1).2.1 (z + 77) 4 = 0 := by
        show up2 d.2.1 (z + 77) 4 0 (z + 77) 4 = 0
        rw [up2_s, va_up_s]
      rw [e2, bit_0] at hb
      cases hb
  | m + 1, i, fu, d, hi, hf, hM, hH => by
    obtain ⟨fu, rfl⟩ : ∃ q, fu = q + 1 := ⟨fu - 1, by omega⟩
    have ih := prep_loop hK hw hN hW hS hT m (i + 1) fu
    show Rn (g_X10_prepare_42 N sh (f_X10_prepare_42 N sh fu) (z + 77) (nI i) d) _
    have n0 := hN.1.2
    have n1 := hN.2.1
    have his : i < nn R 1 := by omega
    have hTd := tb_wfr hK hw (by decide) hT hM (by omega)
    obtain ⟨⟨ea, eb, ea2, eb2, hne, e7, e8⟩, -, e5, e4, -⟩ := hW i his
    unfold g_X10_prepare_42
    refine r_gP hK 77 10 0 3 rfl (by decide) ?_
    refine r_gP hK 3 1 1 4 rfl (by decide) ?_
    refine r_gI hK (i := 4) (c := 8) rfl ?_
    rw [hTd.1]
    refine rn_f (nI_ge his (by omega)) ?_
    refine r_stc 7 hK hTd his (by decide) rfl ?_
    refine r_stc 8 hK hTd his (by decide) rfl ?_
    refine r_stc 4 hK hTd his (by decide) rfl ?_
    rcases e4 with e4 | e4
    · refine rn_f (fun q => q e4) ?_
      rw [e7, e8]
      have hed := fun (x y : Nat) (hx : x < 60) (hy : y < 60) => edge_iff (x := x) (y := y) his e4 e7 e8 (by omega) (by omega) (by omega) (by omega)
      refine rn_bind (k_offer hK hN hW (hS.wfr hM) hTd (by omega) (by omega) his (fun s hs => by omega) hH) (fun d1 hd1 => ?_)
      have hM1 := hM.tr hd1.1
      have hTd1 := tb_wfr hK hw (by decide) hT hM1 (by omega)
      refine r_stc 5 hK hTd1 his (by decide) rfl ?_
      rcases e5 with e5 | e5
      · refine rn_f (fun q => q e5) ?_
        refine rn_bind (k_offer hK hN hW (hS.wfr hM1) hTd1 (a := eb) (b := ea) (by omega) (by omega) his (fun s hs => by omega) hd1.2) (fun d2 hd2 => ?_)
        unfold f_X10_prepare_128
        rw [nI_1]
        refine ih d2 (by omega) (by omega) (hM1.tr hd2.1) (hd2.2.cg (fun s x y hx hy => ?_))
        have q := hed x y hx hy
        refine ⟨fun r => ?_, fun r => ?_⟩
        · rcases r with (r | r) | r
          · exact ⟨by omega, r.2⟩
          · obtain ⟨rfl, r2⟩ := r
            exact ⟨by omega, q.mpr (Or.inl r2)⟩
          · obtain ⟨rfl, r2⟩ := r
            exact ⟨by omega, q.mpr (Or.inr ⟨e5, r2⟩)⟩
        · by_cases es : s = i
          · subst es
            rcases q.mp r.2 with r2 | r2
            · exact Or.inl (Or.inr ⟨rfl, r2⟩)
            · exact Or.inr ⟨rfl, r2.2⟩
          · exact Or.inl (Or.inl ⟨by omega, r.2⟩)
      · refine rn_t (by rw [e5]; decide) ?_
        unfold f_X10_prepare_128
        rw [nI_1]
        refine ih d1 (by omega) (by omega) hM1 (hd1.2.cg (fun s x y hx hy => ?_))
        have q := hed x y hx hy
        refine ⟨fun r => ?_, fun r => ?_⟩
        · rcases r with r | r
          · exact ⟨by omega, r.2⟩
          · obtain ⟨rfl, r2⟩ := r
            exact ⟨by omega, q.mpr (Or.inl r2)⟩
        · by_cases es : s = i
          · subst es
            rcases q.mp r.2 with r2 | r2
            · exact Or.inr ⟨rfl, r2⟩
            · rw [e5] at r2
              exact absurd r2.1 (by decide)
          · exact Or.inl ⟨by omega, r.2⟩
    · refine rn_t (by rw [e4]; decide) ?_
      unfold f_X10_prepare_128
      rw [nI_1]
      refine ih d (by omega) (by omega) hM (hH.cg (fun s x y hx hy => ⟨fun r => ⟨by omega, r.2⟩, fun r => ⟨?_, r.2⟩⟩))
      by_cases es : s = i
      · subst es
        have := r.2.2.1
        rw [e4] at this
        exact absurd this (by decide)
      · omega
theorem hop_loop (hN2 : 300 ≤ N) (hK : KS sh z) (hw : OWS ow z) (hN : WN R) (hW : WS R) (hS : SPN d0 z) (hT : TB sh d0 z ow 4 9 (nn R 1) (vS R) L) : ∀ (m i fu : Nat) (d : Dt), i + m = 60 → m < fu → WFR z d0 d → (∀ a b, a < i → b < 60 → d.1 (z + (79 + a)) b = -1) → Rn (f_X10_prepare_10 N sh fu (z + 77) (nI i) d) (fun d' => WFR z d0 d' ∧ d'.1 (z + 77) 5 = 1 ∧ HopOK d' z R ∧ GapOK d' z R)
  | 0, i, fu, d, hi, hf, hM, hH => by
    obtain ⟨fu, rfl⟩ : ∃ q, fu = q + 1 := ⟨fu - 1, by omega⟩
    show Rn (g_X10_prepare_10 N sh (f_X10_prepare_10 N sh fu) (z + 77) (nI i) d) _
    have n1 := hN.2.1.2
    unfold g_X10_prepare_10
    refine rn_t ((nI_leI (a := 60) (by omega) (by omega)).mpr (by omega)) ?_
    unfold f_X10_prepare_32
    refine r_gP hK 77 10 2 139 rfl (by decide) ?_
    refine rn_eq (fillJ_eq (ks_a hK 139 1 60 rfl) (by decide) (by omega)) ?_
    refine prep_loop hK hw hN hW hS hT (nn R 1) 0 N _ (by omega) (by omega) (hM.tr (WFR.rowJ (by omega) (by omega))) ⟨fun a b ha hb => ⟨Or.inl ⟨hH a b (by omega) hb, fun s hs => absurd hs.1 (Nat.not_lt_zero s)⟩, ?_⟩, fun a b hb _ => by
      show bit (va_up d.2.1 (z + 139) (fun k => if k < 60 then 0 else d.2.1 (z + 139) k) (z + 139) b) a = false
      rw [va_up_s, if_pos hb, bit_0]⟩
    show bit (va_up d.2.1 (z + 139) (fun k => if k < 60 then 0 else d.2.1 (z + 139) k) (z + 139) b) a = true ↔ _
    rw [va_up_s, if_pos hb, bit_0]
    exact ⟨fun q => (by cases q), fun ⟨s, hs⟩ => absurd hs.1 (Nat.not_lt_zero s)⟩
  | m + 1, i, fu, d, hi, hf, hM, hH => by
    obtain ⟨fu, rfl⟩ : ∃ q, fu = q + 1 := ⟨fu - 1, by omega⟩
    have ih := hop_loop hN2 hK hw hN hW hS hT m (i + 1) fu
    show Rn (g_X10_prepare_10 N sh (f_X10_prepare_10 N sh fu) (z + 77) (nI i) d) _
    have hSd := hS.wfr hM
    unfold g_X10_prepare_10
    refine rn_f (nI_ge (b := 60) (by omega) (by decide)) ?_
    refine r_gP hK 77 10 1 78 rfl (by decide) ?_
    refine rn_eq (q_aQ (ks_a hK 78 5 60 rfl) i (z + (79 + i)) rfl (by omega) (by decide) (hSd.1 i (by omega))) ?_
    refine rn_eq (fill_eq (ks_a hK (79 + i) 0 60 (ck_hop (by omega))) (by decide) (by omega)) ?_
    rw [nI_1]
    refine ih _ (by omega) (by omega) (hM.tr (WFR.row (by omega) (by omega))) (fun a b ha hb => ?_)
    show va_up d.1 (z + (79 + i)) (fun k => if k < 60 then -1 else d.1 (z + (79 + i)) k) (z + (79 + a)) b = -1
    by_cases e : a = i
    · subst e
      rw [va_up_s, if_pos hb]
    · rw [va_up_n (by omega)]
      exact hH a b (by omega) hb
theorem k_prepare (hN2 : 300 ≤ N) (hK : KS sh z) (hw : OWS ow z) (hN : WN R) (hW : WS R) (hS : SPN d z) (hT : TB sh d z ow 4 9 (nn R 1) (vS R) L) (hy : WY d z R) : Rn (f_X10_prepare N sh (z + 77) d) (fun d' => WFR z d d' ∧ d'.1 (z + 77) 5 = 1 ∧ HopOK d' z R ∧ GapOK d' z R) := by
  unfold f_X10_prepare
  refine rn_t (ks_o hK 77 10 rfl) ?_
  refine r_gI hK (i := 77) (c := 10) rfl ?_
  rcases hy with hy | hy
  · refine rn_t hy ?_
    exact hop_loop hN2 hK hw hN hW hS hT 60 0 N d (by omega) (by omega) WFR.rf (fun a b ha => absurd ha (Nat.not_lt_zero a))
  · refine rn_f (by rw [hy.1]; decide) ?_
    exact rn_some ⟨WFR.rf, hy⟩
end PR2
