section TK3
variable {s s' : AS} {sh : Sh} {d d0 d' : Dt} {z : Nat} {ow ow' : Nat → Nat} {R K : Nat → Int32} {u : Bool} {y : YL} {N S i j k m cc a b : Nat}
def FTQ (s : AS) (z : Nat) (ow : Nat → Nat) (R K : Nat → Int32) (u : Bool) (y : YL) (cc : Nat) (s' : AS) : Prop := ∃ ow' Lt', ES (IX z ow 201 220) s ow s' ow' ∧ CI s' z ow' R K u (y.1, y.2.1, y.2.2.1, Lt', y.2.2.2.2) cc ∧ RFR z s s' ∧ s'.2.1 (z + 201) 7 = 1 ∧ (TabOK s'.2 z R ∧ 2 ^ (oddl R).length ≤ Lt') ∧ (∀ k, k ≠ 7 → s'.2.1 (z + 201) k = s.2.1 (z + 201) k) ∧ ∀ i, i = 202 ∨ i = 219 ∨ i = 220 → s'.2.1 (z + i) = s.2.1 (z + i)
theorem LS_0 : LSx R 0 = 0 := by
  unfold LSx
  generalize (oddl R).length = m
  cases m with
  | zero => rfl
  | succ m =>
    show (if (0 : Nat) = 0 then 0 else _) = 0
    rw [if_pos rfl]
theorem ft_101 {sh' : Sh} {d1 : Dt} {Lt' : Nat} (hN1 : 20000 ≤ N) (h : CI s z ow R K u y cc) (hl : s.2.1 (z + 201) 4 = 1) (hO : OL s.2 (z + 202) (oddl R)) (hm : (oddl R).length ≤ 14) (he : ES (IX z ow 201 220) s ow (sh', d1) ow') (ha : d1.2.2.2 (z + 201) 6 = some a ∧ ow' a = 16 * 201 + 1 ∧ isA sh' a 0 ∧ sh'.2.2.1 a = Lt' ∧ (∃ e, Lt' = 2 ^ e) ∧ Lt' ≤ 16384) (hle : 2 ^ (oddl R).length ≤ Lt') (h3 : d1.1 (z + 201) = s.2.1 (z + 201)) (h203 : d1.2.2.2 (z + 203) = s.2.2.2.2 (z + 203)) (hg : ∀ i j, i < j → j < (oddl R).length → d1.1 (z + (204 + i)) j = nI (min (gO R i j) 1000000000)) (hr : ∀ i, i = 202 ∨ i = 219 ∨ i = 220 → d1.1 (z + i) = s.2.1 (z + i)) (hc : s.2.1 (z + 201) 3 = nI (oddl R).length) (m1 : sh'.1.2.2 + 2 * y.2.2.2.1 ≤ s.1.1.2.2 + 2 * Lt') (m2 : sh'.1.2.1 + y.2.2.2.1 ≤ s.1.1.2.1 + Lt') : Rn (f_X4_fillTable_101 N (z + 201) (nI (2 ^ (oddl R).length)) (sh', d1)) (FTQ s z ow R K u y cc) := by
  have hK1 : KS sh' z := KS.es h.1 he
  have hw1 : OWS ow' z := OWS.es h.2.1 h.1 he
  obtain ⟨a1, a2, a3, a4, a5, a6⟩ := ha
  have hp0 : 0 < 2 ^ (oddl R).length := Nat.two_pow_pos _
  have hne : ∀ i, i < 264 → cOl.getD i 1 = 0 → a ≠ z + i := fun i hi hz e => by
    rw [e, hw1 i hi hz] at a2
    omega
  have hne2 : ∀ i, 201 ≤ i → i ≤ 217 → a ≠ z + i := fun i q1 q2 => by
    have := cO_ways (i := i) (by omega) q2
    rw [Bool.and_eq_true] at this
    exact hne i (by omega) (Nat.eq_of_beq_eq_true this.2)
  have hn219 : a ≠ z + 219 := hne 219 (by decide) (by decide)
  have hn220 : a ≠ z + 220 := hne 220 (by decide) (by decide)
  have hcs3 := h.2.2.2.2.1.1.2.2
  unfold f_X4_fillTable_101
  refine r_gQ hK1 a a1 rfl ?_
  refine rn_eq (q_sI ⟨a3, rfl⟩ 0 rfl (by omega) (by omega)) ?_
  have ht : TBK sh' (wI d1 a 0 0) z R a 1 := by
    refine ⟨?_, fun c hc9 => ?_, fun i j hij hj => ?_, a1, a3, by omega, by omega, fun S hS => ?_⟩
    · rw [wI_n (fun e => hne2 201 (by omega) (by omega) e.symm), h3]
      exact hc
    · show d1.2.2.2 (z + 203) c = _
      rw [h203]
      exact hcs3 c hc9
    · rw [wI_n (fun e => hne2 (204 + i) (by omega) (by omega) e.symm)]
      exact hg i j hij hj
    · have e : S = 0 := by omega
      rw [e, wI_s, va_up_s, LS_0]
      rfl
  refine rn_mono (tab_loop (s := (sh', d1)) (d0 := wI d1 a 0 0) hN1 hK1 hm hne2 (2 ^ (oddl R).length - 1) 1 N (wI d1 a 0 0) (by omega) (by have : 2 ^ (oddl R).length ≤ 2 ^ 14 := Nat.pow_le_pow_right (by decide) hm; omega) (by omega) ⟨rfl, fun _ _ => rfl⟩ ht) (fun s' hs' => ?_)
  obtain ⟨d2, rfl, f2, t2⟩ := hs'
  have o201 := hw1 201 (by decide) (by decide)
  have f3 : FD (IX z ow' 201 220) d1 (wI d2 (z + 201) 7 1) := fun x hx => by
    have x1 : x ≠ z + 201 := fun e => hx (by rw [e]; unfold IX; rw [onr_s o201 (by decide)]; omega)
    have x2 : x ≠ a := fun e => hx (by rw [e]; unfold IX; rw [onr_r (o := 201) (k := 0) a2 (by omega)]; omega)
    refine ⟨by rw [wI_n x1, f2.2 x x2, wI_n x2], ?_, ?_, ?_⟩
    · show d2.2.1 x = d1.2.1 x
      rw [f2.1]
      rfl
    · show d2.2.2.1 x = d1.2.2.1 x
      rw [f2.1]
      rfl
    · show d2.2.2.2 x = d1.2.2.2 x
      rw [f2.1]
      rfl
  have he2 : ES (IX z ow 201 220) s ow (sh', wI d2 (z + 201) 7 1) ow' := es_fd (s' := (sh', d1)) he f3
  have r2 : d2.2 = d1.2 := f2.1
  have rw9 : ∀ i, i = 202 ∨ i = 219 ∨ i = 220 → (wI d2 (z + 201) 7 1).1 (z + i) = s.2.1 (z + i) := fun i hi => by
    have x2 : z + i ≠ a := fun e => by
      rcases hi with rfl | rfl | rfl
      · exact hne2 202 (by omega) (by omega) e.symm
      · exact hn219 e.symm
      · exact hn220 e.symm
    rw [wI_n (by omega), f2.2 (z + i) x2, wI_n x2]
    exact hr i hi
  have r201 : ∀ k, k ≠ 7 → (wI d2 (z + 201) 7 1).1 (z + 201) k = s.2.1 (z + 201) k := fun k hk => by
    have x2 : z + 201 ≠ a := fun e => hne2 201 (by omega) (by omega) e.symm
    rw [wI_s, va_up_n hk, f2.2 (z + 201) x2, wI_n x2, h3]
  have tab : TabOK (wI d2 (z + 201) 7 1) z R := by
    obtain ⟨t1, t3, t4, t5, t6, t7, t8, t9⟩ := t2
    refine ⟨hm, fun i j hij hj => ?_, a, t5, fun S hS => ?_⟩
    · rw [wI_n (by omega)]
      exact t4 i j hij hj
    · rw [wI_n (hne2 201 (by omega) (by omega))]
      exact t9 S hS
  have hcs : CS sh' (wI d2 (z + 201) 7 1) z ow' y.2.2.1 Lt' y.2.2.2.2 := cs_pr (s' := (sh', wI d2 (z + 201) 7 1)) (a' := a) h.2.2.2.2.1 h.1 h.2.1 he2 (by
    show d2.2.2.2 (z + 203) = _
    rw [r2]
    exact h203) ⟨by show d2.2.2.2 (z + 201) 6 = some a; rw [r2]; exact a1, a2, a3, a4, a5, a6⟩
  have q := ci_pr2 (s' := (sh', wI d2 (z + 201) 7 1)) h he2 hcs (Or.inr ⟨by rw [r201 4 (by decide)]; exact hl, by rw [r201 3 (by decide)]; exact hc, by rw [rw9 202 (Or.inl rfl)]; exact hO⟩) (Or.inr ⟨by rw [wI_s, va_up_s], tab⟩) (fun _ => hle) m1 m2
  exact ⟨ow', Lt', he2, q.1, q.2, by rw [wI_s, va_up_s], ⟨tab, hle⟩, r201, rw9⟩
theorem k_fillTable (hN1 : 20000 ≤ N) (h : CI s z ow R K u y cc) (hR : WF R) (hl : s.2.1 (z + 201) 4 = 1) (hc : s.2.1 (z + 201) 3 = nI (oddl R).length) (hO : OL s.2 (z + 202) (oddl R)) (hm : (oddl R).length ≤ 14) (hG : GO s.2 z R) : Rn (f_X4_fillTable N (z + 201) s) (FTQ s z ow R K u y cc) := by
  obtain ⟨hK, hw, b1, b2, b3, b4, b5, b6, b7, b8, b9, b10, b11⟩ := id h
  have hp14 : 2 ^ (oddl R).length ≤ 2 ^ 14 := Nat.pow_le_pow_right (by decide) hm
  unfold f_X4_fillTable
  refine rn_t (ks_o hK 201 4 rfl) ?_
  refine r_gI hK (i := 201) (c := 4) rfl ?_
  rcases b8 with q | q
  · refine rn_f (fun r => r q) ?_
    refine r_gI hK (i := 201) (c := 4) rfl ?_
    rw [hc]
    refine rn_t ((nI_leI (b := 14) (by omega) (by decide)).mpr hm) ?_
    refine gap_out (s := s) (d0 := s.2) (by omega) hK hR.1 hR.2.2.1 hm h.spn b3.1.2.2 hc hO hG (fun d1 g1 g2 => ?_) (oddl R).length 0 N s.2 (by omega) (by omega) GPF.rf (fun i' j' h1 => absurd h1 (Nat.not_lt_zero i'))
    obtain ⟨-, -, ⟨a, t1, t2, t3, t4, t5, t6⟩, -⟩ := id b3
    have r1 : ∀ i, i < 204 ∨ 217 < i → d1.1 (z + i) = s.2.1 (z + i) := fun i hi => g1.2 (z + i) (by omega)
    have fd1 : FD (IX z ow 201 220) s.2 d1 := fun x hx => by
      have q9 : x < z + 204 ∨ z + 217 < x := by
        rcases Nat.lt_or_ge x (z + 204) with c1 | c1
        · exact Or.inl c1
        · rcases Nat.lt_or_ge (z + 217) x with c2 | c2
          · exact Or.inr c2
          · refine absurd ?_ hx
            obtain ⟨i, rfl⟩ : ∃ i, x = z + i := ⟨x - z, by omega⟩
            have h0 := cO_ways (i := i) (by omega) (by omega)
            rw [Bool.and_eq_true] at h0
            unfold IX
            rw [onr_s (hw i (by omega) (Nat.eq_of_beq_eq_true h0.2)) (by omega)]
            omega
      exact ⟨g1.2 x q9, by rw [g1.1], by rw [g1.1], by rw [g1.1]⟩
    have he1 : ES (IX z ow 201 220) s ow (s.1, d1) ow := FD.es (sh := s.1) (d := s.2) fd1
    unfold f_X4_fillTable_78
    refine r_gI hK (i := 201) (c := 4) rfl ?_
    have r3 : d1.1 (z + 201) 3 = nI (oddl R).length := by
      rw [r1 201 (by omega)]
      exact hc
    have ra : d1.2.2.2 (z + 201) 6 = some a := by
      rw [g1.1]
      exact t1
    refine r_gQ hK a ra rfl ?_
    refine rn_eq (q_len ⟨t3, t4⟩ (by decide)) ?_
    rw [r3, sb_pow (by omega)]
    refine rn_ite (fun q1 => ?_) (fun q1 => ?_)
    · have q1 := (nI_leI (by omega) (by omega)).mp q1
      exact ft_101 (sh' := s.1) (d1 := d1) (Lt' := y.2.2.2.1) hN1 h hl hO hm he1 ⟨ra, t2, t3, t4, t5, t6⟩ q1 (r1 201 (by omega)) (by rw [g1.1]) g2 (fun i hi => r1 i (by omega)) hc (Nat.le_refl _) (Nat.le_refl _)
    · have q1 : y.2.2.2.1 < 2 ^ (oddl R).length := Nat.lt_of_not_le (fun r => q1 ((nI_leI (by omega) (by omega)).mpr r))
      have hdbl : 2 * y.2.2.2.1 ≤ 2 ^ (oddl R).length := by
        obtain ⟨e, e9⟩ := t5
        rw [e9] at q1 ⊢
        have : e < (oddl R).length := (Nat.pow_lt_pow_iff_right (by decide)).mp q1
        have : 2 ^ (e + 1) ≤ 2 ^ (oddl R).length := Nat.pow_le_pow_right (by decide) this
        rw [Nat.pow_succ] at this
        omega
      have hnew : nArr (s.1, d1) 0 (nI (2 ^ (oddl R).length)) = some (push (s.1, d1) 0 (2 ^ (oddl R).length) (2 ^ (oddl R).length)) := by
        unfold nArr
        rw [nI_clamp (by omega), if_pos ⟨nI_pos (by omega), by omega⟩]
      refine rn_eq hnew ?_
      have hz := hK.2.1
      have hz1 := hK.1
      have hes := push_es (s := (s.1, d1)) (t := 0) (n := 2 ^ (oddl R).length) (m := 2 ^ (oddl R).length) (X := IX z ow 201 220) (ow := ow) (q := 16 * 201 + 1)
      have hK1 : KS (push (s.1, d1) 0 (2 ^ (oddl R).length) (2 ^ (oddl R).length)).1 z := KS.es (s := (s.1, d1)) hK hes
      have hN9 := push_N (s := (s.1, d1)) (t := 0) (n := 2 ^ (oddl R).length) (m := 2 ^ (oddl R).length) (by show s.1.1.1 ≤ s.1.1.2.1; omega)
      unfold f_X4_fillTable_98
      refine r_pQ hK1 (i := 201) (c := 4) rfl ?_
      have hwP : OWS (va_up ow s.1.1.2.1 (16 * 201 + 1)) z := OWS.es (s := (s.1, d1)) hw hK hes
      have hes1 : ES (IX z ow 201 220) s ow (push (s.1, d1) 0 (2 ^ (oddl R).length) (2 ^ (oddl R).length)) (va_up ow s.1.1.2.1 (16 * 201 + 1)) := he1.tr hes (fun x _ hx => hx)
      have o201 := hwP 201 (by decide) (by decide)
      have hes2 : ES (IX z ow 201 220) s ow ((push (s.1, d1) 0 (2 ^ (oddl R).length) (2 ^ (oddl R).length)).1, wQ (push (s.1, d1) 0 (2 ^ (oddl R).length) (2 ^ (oddl R).length)).2 (z + 201) 6 s.1.1.2.1) (va_up ow s.1.1.2.1 (16 * 201 + 1)) := es_fd hes1 (fun x hx => by
        have x1 : x ≠ z + 201 := fun e => hx (by rw [e]; unfold IX; rw [onr_s o201 (by decide)]; omega)
        exact ⟨rfl, rfl, rfl, up2_n x1⟩)
      have rP : ∀ i, i < 264 → (push (s.1, d1) 0 (2 ^ (oddl R).length) (2 ^ (oddl R).length)).2.1 (z + i) = d1.1 (z + i) ∧ (push (s.1, d1) 0 (2 ^ (oddl R).length) (2 ^ (oddl R).length)).2.2.2.2 (z + i) = d1.2.2.2 (z + i) := fun i hi => ⟨va_up_n (by show z + i ≠ s.1.1.2.1; omega), va_up_n (by show z + i ≠ s.1.1.2.1; omega)⟩
      refine ft_101 (a := s.1.1.2.1) (Lt' := 2 ^ (oddl R).length) hN1 h hl hO hm hes2 ⟨?_, va_up_s, hN9.1, hN9.2, ⟨_, rfl⟩, by omega⟩ (Nat.le_refl _) ?_ ?_ (fun i j hij hj => ?_) (fun i hi => ?_) hc ?_ ?_
      · show up2 _ (z + 201) 6 (some s.1.1.2.1) (z + 201) 6 = _
        rw [up2_s, va_up_s]
      · show (push (s.1, d1) 0 (2 ^ (oddl R).length) (2 ^ (oddl R).length)).2.1 (z + 201) = _
        rw [(rP 201 (by decide)).1]
        exact r1 201 (by omega)
      · show up2 _ (z + 201) 6 (some s.1.1.2.1) (z + 203) = _
        rw [up2_n (by omega), (rP 203 (by decide)).2, g1.1]
      · show (push (s.1, d1) 0 (2 ^ (oddl R).length) (2 ^ (oddl R).length)).2.1 (z + (204 + i)) j = _
        rw [(rP (204 + i) (by omega)).1]
        exact g2 i j hij hj
      · show (push (s.1, d1) 0 (2 ^ (oddl R).length) (2 ^ (oddl R).length)).2.1 (z + i) = _
        rw [(rP i (by omega)).1]
        exact r1 i (by omega)
      · show s.1.1.2.2 + 2 ^ (oddl R).length + 2 * y.2.2.2.1 ≤ s.1.1.2.2 + 2 * 2 ^ (oddl R).length
        omega
      · show s.1.1.2.1 + 1 + y.2.2.2.1 ≤ s.1.1.2.1 + 2 ^ (oddl R).length
        omega
  · refine rn_t (by rw [q.1]; decide) ?_
    exact rn_some ⟨ow, y.2.2.2.1, ES.rf, h, RFR.rf, q.1, ⟨q.2, b11.2 q.1⟩, fun _ _ => rfl, fun _ _ => rfl⟩
end TK3
