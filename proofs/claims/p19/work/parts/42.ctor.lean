section CT
variable {β : Type} {Q : β → Prop} {s : AS} {z k w : Nat} {ps : List (Nat × Nat × Nat)} {rs : List (Nat × Nat)} {qs : List (Nat × Nat × Nat)} {fi : Nat → Nat → Int32}
theorem cb_nx (h : CB s z k w ps rs qs fi) : s.1.1.2.1 = z + k := by rw [h.1]
theorem cb_fill {N : Nat} {v : Int32} {g : Dt → Option β} (i n : Nat) (h : CB s z k w ps rs qs fi) (hc : (Nat.blt i k && (Nat.beq (cTl.getD i 99) 0 && Nat.beq (cLl.getD i 0) n)) = true) (hn : n < 2 ^ 31) (hN : n < N) (kk : ∀ d', CB (s.1, d') z k w ps rs qs (va_up fi i (fun k => if k < n then v else fi i k)) → Rn (g d') Q) : Rn ((f_J7_fill_53178 N s.1 (z + i) v s.2).bind g) Q := by
  refine rn_eq (fill_eq (cb_a i 0 n h hc) hn hN) (kk _ ?_)
  rw [Bool.and_eq_true] at hc
  have hi : i < k := Nat.le_of_ble_eq_true hc.1
  have e := (h.2.2.2.2.2.1 i hi).1
  rw [e]
  exact cb_ints i h hi
theorem cb_sP {g : Dt → Option β} {x : Int32} (i n j v : Nat) (h : CB s z k w ps rs qs fi) (hc : (Nat.blt i k && (Nat.beq (cTl.getD i 99) 6 && Nat.beq (cLl.getD i 0) n)) = true) (hj : j < n ∧ n < 2 ^ 31) (hx : x = nI j) (hv : (Nat.blt v k && Nat.beq (cTl.getD v 99) (10 + 6)) = true) (hr : (rs.all (fun r => !(Nat.beq r.1 i)) && qs.all (fun q => !(Nat.beq q.1 i && Nat.beq q.2.1 j))) = true) (kk : ∀ d', CB (s.1, d') z k w ps rs ((i, j, v) :: qs) fi → Rn (g d') Q) : Rn ((sP s.1 s.2 (z + i) x (z + v)).bind g) Q := by
  have ha := cb_a i 6 n h hc
  have ho := cb_o v 6 h hv
  rw [Bool.and_eq_true] at hr
  obtain ⟨hr, hq⟩ := hr
  obtain ⟨e1, e2⟩ := in_of hx hj.1 hj.2
  refine rn_eq (v := wQ s.2 (z + i) j (z + v)) (by unfold sP; rw [ha.2, if_pos ⟨ha.1, e1, ho⟩, e2]; rfl) (kk _ ?_)
  rw [Bool.and_eq_true] at hc
  have hi : i < k := Nat.le_of_ble_eq_true hc.1
  obtain ⟨h1, h2, h3, h4, h5, h6, h7⟩ := h
  refine ⟨h1, h2, h3, fun r hr9 => ?_, fun q hq9 => ?_, h6, h7⟩
  · have q1 := h4 r hr9
    refine ⟨q1.1, fun c9 hc9 => ?_⟩
    have q2 := List.all_eq_true.mp hr r hr9
    show up2 s.2.2.2.2 (z + i) j (some (z + v)) (z + r.1) c9 = _
    rw [up2_n]
    · exact q1.2 c9 hc9
    · intro e
      have e : r.1 = i := by omega
      simp [e] at q2
  · show q.1 < k ∧ up2 s.2.2.2.2 (z + i) j (some (z + v)) (z + q.1) q.2.1 = _
    rcases List.mem_cons.mp hq9 with rfl | hq9
    · refine ⟨hi, ?_⟩
      show up2 s.2.2.2.2 (z + i) j (some (z + v)) (z + i) j = some (z + v)
      rw [up2_s]
      exact va_up_s
    · have q1 := h5 q hq9
      refine ⟨q1.1, ?_⟩
      have q2 := List.all_eq_true.mp hq q hq9
      by_cases e : q.1 = i
      · rw [e, up2_s, va_up_n, ← e]
        · exact q1.2
        · intro e2
          simp [e, e2] at q2
      · rw [up2_n (by omega)]
        exact q1.2
theorem u172 {N n l0 l1 : Nat} {l2 : Int32} {s : AS} : f_X11_init_172 N (n + 1) l0 l1 l2 s = g_X11_init_172 N (f_X11_init_172 N n) l0 l1 l2 s := rfl
/-- the row as it stands, written as a choice -/
theorem cb_zero {f : Nat → Int32} {i : Nat} (h : CB s z k w ps rs qs fi) (hf : fi i = f) : CB s z k w ps rs qs (va_up fi i f) := by
  have e : va_up fi i f = fi := by
    funext j
    by_cases ej : j = i
    · subst ej
      rw [va_up_s, hf]
    · exact va_up_n ej
  rw [e]
  exact h
theorem cb_partner {N : Nat} (hp : (242, 0, 243) ∈ ps) (hk : k = 264) : ∀ (m i fu : Nat) (s : AS), i + m = 60 → m < fu → CB s z k w ps rs qs (va_up fi 243 (fun k => if 9582 ≤ k ∧ k < 9582 + i then (-1) else 0)) → Rn (f_X12_init_184 N fu (z + 242) (nI i) s) (fun s => CB s z k w ps rs qs (va_up fi 243 (fun k => if 9582 ≤ k ∧ k < 9642 then (-1) else 0)))
  | 0, i, fu, s, hi, hf, hc => by
    obtain ⟨fu, rfl⟩ : ∃ q, fu = q + 1 := ⟨fu - 1, by omega⟩
    show Rn (g_X12_init_184 N (f_X12_init_184 N fu) (z + 242) (nI i) s) _
    unfold g_X12_init_184
    have e : i = 60 := by omega
    subst e
    refine rn_t (by decide) ?_
    exact rn_some hc
  | m + 1, i, fu, s, hi, hf, hc => by
    obtain ⟨fu, rfl⟩ : ∃ q, fu = q + 1 := ⟨fu - 1, by omega⟩
    show Rn (g_X12_init_184 N (f_X12_init_184 N fu) (z + 242) (nI i) s) _
    unfold g_X12_init_184
    refine rn_f (nI_ge (a := i) (b := 60) (by omega) (by decide)) ?_
    refine cb_gP 242 12 0 243 hc (by subst hk; rfl) hp ?_
    refine rn_eq (q_sI (cb_a 243 0 15642 hc (by subst hk; rfl)) (9582 + i) (nI_add 9582 i) (by omega) (by decide)) ?_
    rw [nI_1]
    refine cb_partner hp hk m (i + 1) fu _ (by omega) (by omega) ?_
    have e := (hc.2.2.2.2.2.1 243 (by omega)).1
    have h9 := cb_ints (f := va_up (s.2.1 (z + 243)) (9582 + i) (-1)) 243 hc (by omega)
    have e2 : va_up (va_up fi 243 (fun k => if 9582 ≤ k ∧ k < 9582 + i then (-1) else 0)) 243 (va_up (s.2.1 (z + 243)) (9582 + i) (-1)) = va_up fi 243 (fun k => if 9582 ≤ k ∧ k < 9582 + (i + 1) then (-1) else 0) := by
      funext j
      by_cases ej : j = 243
      · subst ej
        rw [va_up_s, va_up_s, e, va_up_s]
        funext x
        unfold va_up
        by_cases ex : x = 9582 + i
        · rw [if_pos ex, if_pos (by omega)]
        · rw [if_neg ex]
          show (if 9582 ≤ x ∧ x < 9582 + i then (-1 : Int32) else 0) = _
          by_cases h1 : 9582 ≤ x ∧ x < 9582 + i
          · rw [if_pos h1, if_pos (by omega)]
          · rw [if_neg h1, if_neg (by omega)]
      · rw [va_up_n ej, va_up_n ej, va_up_n ej]
    rw [e2] at h9
    exact h9
end CT
set_option maxRecDepth 20000 in
theorem ct_X2_init_0 {M z : Nat} {s : AS} (hc : CB s z 2 18 [] [] [] (fun _ _ => 0)) : Rn (f_X2_init (M + 200) (z + 1) (s.1, s.2)) (fun s => CB s z 3 23 [(1, 0, 2)] [] [] (fun _ _ => 0)) := by
  unfold f_X2_init
  refine rn_t (cb_o 1 2 hc rfl) ?_
  rw [cb_nx hc]
  refine cb_arr 5 hc rfl rfl (fun s1 hc => ?_)
  unfold f_X2_init_8
  refine cb_pP 1 2 0 2 hc rfl (by decide) (fun s2 hc => ?_)
  unfold f_X2_init_11
  refine cb_pI0 1 2 1 hc rfl rfl (fun d3 hc => ?_)
  refine cb_pI0 1 2 2 hc rfl rfl (fun d4 hc => ?_)
  refine cb_pI0 1 2 3 hc rfl rfl (fun d5 hc => ?_)
  exact rn_some hc
set_option maxRecDepth 20000 in
theorem ct_X8_init_0 {M z : Nat} {s : AS} (hc : CB s z 5 33 [(0, 0, 1), (1, 0, 2)] [] [] (fun _ _ => 0)) : Rn (f_X8_init (M + 200) (z + 4) (9 : Int32) (16 : Int32) (s.1, s.2)) (fun s => CB s z 15 186 [(4, 0, 5), (0, 0, 1), (1, 0, 2)] [(5, 9)] [] (fun _ _ => 0)) := by
  unfold f_X8_init
  refine rn_t (cb_o 4 8 hc rfl) ?_
  refine cb_pI0 4 8 1 hc rfl rfl (fun d1 hc => ?_)
  rw [cb_nx hc]
  refine cb_mul 9 16 hc rfl rfl (by decide) (fun s2 hc => ?_)
  unfold f_X8_init_16
  refine cb_pP 4 8 0 5 hc rfl (by decide) (fun s3 hc => ?_)
  unfold f_X8_init_19
  exact rn_some hc
set_option maxRecDepth 20000 in
theorem ct_X8_init_1 {M z : Nat} {s : AS} (hc : CB s z 16 188 [(3, 1, 4), (4, 0, 5), (0, 0, 1), (1, 0, 2)] [(5, 9)] [] (fun _ _ => 0)) : Rn (f_X8_init (M + 200) (z + 15) (3 : Int32) (4 : Int32) (s.1, s.2)) (fun s => CB s z 20 203 [(15, 0, 16), (3, 1, 4), (4, 0, 5), (0, 0, 1), (1, 0, 2)] [(16, 3), (5, 9)] [] (fun _ _ => 0)) := by
  unfold f_X8_init
  refine rn_t (cb_o 15 8 hc rfl) ?_
  refine cb_pI0 15 8 1 hc rfl rfl (fun d1 hc => ?_)
  rw [cb_nx hc]
  refine cb_mul 3 4 hc rfl rfl (by decide) (fun s2 hc => ?_)
  unfold f_X8_init_16
  refine cb_pP 15 8 0 16 hc rfl (by decide) (fun s3 hc => ?_)
  unfold f_X8_init_19
  exact rn_some hc
set_option maxRecDepth 20000 in
theorem ct_X8_init_2 {M z : Nat} {s : AS} (hc : CB s z 21 205 [(3, 2, 15), (15, 0, 16), (3, 1, 4), (4, 0, 5), (0, 0, 1), (1, 0, 2)] [(16, 3), (5, 9)] [] (fun _ _ => 0)) : Rn (f_X8_init (M + 200) (z + 20) (9 : Int32) (4 : Int32) (s.1, s.2)) (fun s => CB s z 31 250 [(20, 0, 21), (3, 2, 15), (15, 0, 16), (3, 1, 4), (4, 0, 5), (0, 0, 1), (1, 0, 2)] [(21, 9), (16, 3), (5, 9)] [] (fun _ _ => 0)) := by
  unfold f_X8_init
  refine rn_t (cb_o 20 8 hc rfl) ?_
  refine cb_pI0 20 8 1 hc rfl rfl (fun d1 hc => ?_)
  rw [cb_nx hc]
  refine cb_mul 9 4 hc rfl rfl (by decide) (fun s2 hc => ?_)
  unfold f_X8_init_16
  refine cb_pP 20 8 0 21 hc rfl (by decide) (fun s3 hc => ?_)
  unfold f_X8_init_19
  exact rn_some hc
set_option maxRecDepth 20000 in
theorem ct_X8_init_3 {M z : Nat} {s : AS} (hc : CB s z 32 252 [(3, 3, 20), (20, 0, 21), (3, 2, 15), (15, 0, 16), (3, 1, 4), (4, 0, 5), (0, 0, 1), (1, 0, 2)] [(21, 9), (16, 3), (5, 9)] [] (fun _ _ => 0)) : Rn (f_X8_init (M + 200) (z + 31) (4 : Int32) (16 : Int32) (s.1, s.2)) (fun s => CB s z 37 320 [(31, 0, 32), (3, 3, 20), (20, 0, 21), (3, 2, 15), (15, 0, 16), (3, 1, 4), (4, 0, 5), (0, 0, 1), (1, 0, 2)] [(32, 4), (21, 9), (16, 3), (5, 9)] [] (fun _ _ => 0)) := by
  unfold f_X8_init
  refine rn_t (cb_o 31 8 hc rfl) ?_
  refine cb_pI0 31 8 1 hc rfl rfl (fun d1 hc => ?_)
  rw [cb_nx hc]
  refine cb_mul 4 16 hc rfl rfl (by decide) (fun s2 hc => ?_)
  unfold f_X8_init_16
  refine cb_pP 31 8 0 32 hc rfl (by decide) (fun s3 hc => ?_)
  unfold f_X8_init_19
  exact rn_some hc
set_option maxRecDepth 20000 in
theorem ct_X1_init_0 {M z : Nat} {s : AS} (hc : CB s z 4 31 [(0, 0, 1), (1, 0, 2)] [] [] (fun _ _ => 0)) : Rn (f_X1_init (M + 200) (z + 3) (s.1, s.2)) (fun s => CB s z 40 387 [(3, 6, 38), (3, 5, 37), (3, 4, 31), (31, 0, 32), (3, 3, 20), (20, 0, 21), (3, 2, 15), (15, 0, 16), (3, 1, 4), (4, 0, 5), (0, 0, 1), (1, 0, 2)] [(32, 4), (21, 9), (16, 3), (5, 9)] [(3, 7, 39)] (va_up (fun _ _ => 0) 38 (fun k => if k < 60 then (-1) else (fun _ _ => 0) 38 k))) := by
  unfold f_X1_init
  refine rn_t (cb_o 3 1 hc rfl) ?_
  refine cb_pI0 3 1 0 hc rfl rfl (fun d1 hc => ?_)
  rw [cb_nx hc]
  have hc := cb_obj 8 hc rfl
  unfold f_X1_init_13
  refine rn_bind (ct_X8_init_0 hc) (fun s2 hc => ?_)
  unfold f_X1_init_21
  refine cb_pP 3 1 1 4 hc rfl (by decide) (fun s3 hc => ?_)
  unfold f_X1_init_24
  rw [cb_nx hc]
  have hc := cb_obj 8 hc rfl
  unfold f_X1_init_28
  refine rn_bind (ct_X8_init_1 hc) (fun s4 hc => ?_)
  unfold f_X1_init_34
  refine cb_pP 3 1 2 15 hc rfl (by decide) (fun s5 hc => ?_)
  unfold f_X1_init_37
  rw [cb_nx hc]
  have hc := cb_obj 8 hc rfl
  unfold f_X1_init_41
  refine rn_bind (ct_X8_init_2 hc) (fun s6 hc => ?_)
  unfold f_X1_init_48
  refine cb_pP 3 1 3 20 hc rfl (by decide) (fun s7 hc => ?_)
  unfold f_X1_init_51
  rw [cb_nx hc]
  have hc := cb_obj 8 hc rfl
  unfold f_X1_init_55
  refine rn_bind (ct_X8_init_3 hc) (fun s8 hc => ?_)
  unfold f_X1_init_62
  refine cb_pP 3 1 4 31 hc rfl (by decide) (fun s9 hc => ?_)
  unfold f_X1_init_65
  rw [cb_nx hc]
  refine cb_arr 7 hc rfl rfl (fun s10 hc => ?_)
  unfold f_X1_init_70
  refine cb_pP 3 1 5 37 hc rfl (by decide) (fun s11 hc => ?_)
  unfold f_X1_init_73
  rw [cb_nx hc]
  refine cb_arr 60 hc rfl rfl (fun s12 hc => ?_)
  unfold f_X1_init_78
  refine cb_pP 3 1 6 38 hc rfl (by decide) (fun s13 hc => ?_)
  unfold f_X1_init_81
  rw [cb_nx hc]
  refine cb_arr 0 hc rfl rfl (fun s14 hc => ?_)
  unfold f_X1_init_85
  refine cb_pQ 3 1 7 39 hc rfl (by decide) (by decide) (fun d15 hc => ?_)
  refine cb_gP 3 1 6 38 hc rfl (by decide) ?_
  refine cb_fill 38 60 hc rfl (by decide) (by omega) (fun d16 hc => ?_)
  exact rn_some hc
set_option maxRecDepth 20000 in
theorem ct_X8_init_4 {M z : Nat} {s : AS} (hc : CB s z 42 397 [(0, 1, 3), (3, 6, 38), (3, 5, 37), (3, 4, 31), (31, 0, 32), (3, 3, 20), (20, 0, 21), (3, 2, 15), (15, 0, 16), (3, 1, 4), (4, 0, 5), (0, 0, 1), (1, 0, 2)] [(32, 4), (21, 9), (16, 3), (5, 9)] [(3, 7, 39)] (va_up (fun _ _ => 0) 38 (fun k => if k < 60 then (-1) else (fun _ _ => 0) 38 k))) : Rn (f_X8_init (M + 200) (z + 41) (9 : Int32) (16 : Int32) (s.1, s.2)) (fun s => CB s z 52 550 [(41, 0, 42), (0, 1, 3), (3, 6, 38), (3, 5, 37), (3, 4, 31), (31, 0, 32), (3, 3, 20), (20, 0, 21), (3, 2, 15), (15, 0, 16), (3, 1, 4), (4, 0, 5), (0, 0, 1), (1, 0, 2)] [(42, 9), (32, 4), (21, 9), (16, 3), (5, 9)] [(3, 7, 39)] (va_up (fun _ _ => 0) 38 (fun k => if k < 60 then (-1) else (fun _ _ => 0) 38 k))) := by
  unfold f_X8_init
  refine rn_t (cb_o 41 8 hc rfl) ?_
  refine cb_pI0 41 8 1 hc rfl rfl (fun d1 hc => ?_)
  rw [cb_nx hc]
  refine cb_mul 9 16 hc rfl rfl (by decide) (fun s2 hc => ?_)
  unfold f_X8_init_16
  refine cb_pP 41 8 0 42 hc rfl (by decide) (fun s3 hc => ?_)
  unfold f_X8_init_19
  exact rn_some hc
set_option maxRecDepth 20000 in
theorem ct_X8_init_5 {M z : Nat} {s : AS} (hc : CB s z 53 552 [(40, 1, 41), (41, 0, 42), (0, 1, 3), (3, 6, 38), (3, 5, 37), (3, 4, 31), (31, 0, 32), (3, 3, 20), (20, 0, 21), (3, 2, 15), (15, 0, 16), (3, 1, 4), (4, 0, 5), (0, 0, 1), (1, 0, 2)] [(42, 9), (32, 4), (21, 9), (16, 3), (5, 9)] [(3, 7, 39)] (va_up (fun _ _ => 0) 38 (fun k => if k < 60 then (-1) else (fun _ _ => 0) 38 k))) : Rn (f_X8_init (M + 200) (z + 52) (3 : Int32) (4 : Int32) (s.1, s.2)) (fun s => CB s z 57 567 [(52, 0, 53), (40, 1, 41), (41, 0, 42), (0, 1, 3), (3, 6, 38), (3, 5, 37), (3, 4, 31), (31, 0, 32), (3, 3, 20), (20, 0, 21), (3, 2, 15), (15, 0, 16), (3, 1, 4), (4, 0, 5), (0, 0, 1), (1, 0, 2)] [(53, 3), (42, 9), (32, 4), (21, 9), (16, 3), (5, 9)] [(3, 7, 39)] (va_up (fun _ _ => 0) 38 (fun k => if k < 60 then (-1) else (fun _ _ => 0) 38 k))) := by
  unfold f_X8_init
  refine rn_t (cb_o 52 8 hc rfl) ?_
  refine cb_pI0 52 8 1 hc rfl rfl (fun d1 hc => ?_)
  rw [cb_nx hc]
  refine cb_mul 3 4 hc rfl rfl (by decide) (fun s2 hc => ?_)
  unfold f_X8_init_16
  refine cb_pP 52 8 0 53 hc rfl (by decide) (fun s3 hc => ?_)
  unfold f_X8_init_19
  exact rn_some hc
set_option maxRecDepth 20000 in
theorem ct_X8_init_6 {M z : Nat} {s : AS} (hc : CB s z 58 569 [(40, 2, 52), (52, 0, 53), (40, 1, 41), (41, 0, 42), (0, 1, 3), (3, 6, 38), (3, 5, 37), (3, 4, 31), (31, 0, 32), (3, 3, 20), (20, 0, 21), (3, 2, 15), (15, 0, 16), (3, 1, 4), (4, 0, 5), (0, 0, 1), (1, 0, 2)] [(53, 3), (42, 9), (32, 4), (21, 9), (16, 3), (5, 9)] [(3, 7, 39)] (va_up (fun _ _ => 0) 38 (fun k => if k < 60 then (-1) else (fun _ _ => 0) 38 k))) : Rn (f_X8_init (M + 200) (z + 57) (9 : Int32) (4 : Int32) (s.1, s.2)) (fun s => CB s z 68 614 [(57, 0, 58), (40, 2, 52), (52, 0, 53), (40, 1, 41), (41, 0, 42), (0, 1, 3), (3, 6, 38), (3, 5, 37), (3, 4, 31), (31, 0, 32), (3, 3, 20), (20, 0, 21), (3, 2, 15), (15, 0, 16), (3, 1, 4), (4, 0, 5), (0, 0, 1), (1, 0, 2)] [(58, 9), (53, 3), (42, 9), (32, 4), (21, 9), (16, 3), (5, 9)] [(3, 7, 39)] (va_up (fun _ _ => 0) 38 (fun k => if k < 60 then (-1) else (fun _ _ => 0) 38 k))) := by
  unfold f_X8_init
  refine rn_t (cb_o 57 8 hc rfl) ?_
  refine cb_pI0 57 8 1 hc rfl rfl (fun d1 hc => ?_)
  rw [cb_nx hc]
  refine cb_mul 9 4 hc rfl rfl (by decide) (fun s2 hc => ?_)
  unfold f_X8_init_16
  refine cb_pP 57 8 0 58 hc rfl (by decide) (fun s3 hc => ?_)
  unfold f_X8_init_19
  exact rn_some hc
set_option maxRecDepth 20000 in
theorem ct_X8_init_7 {M z : Nat} {s : AS} (hc : CB s z 69 616 [(40, 3, 57), (57, 0, 58), (40, 2, 52), (52, 0, 53), (40, 1, 41), (41, 0, 42), (0, 1, 3), (3, 6, 38), (3, 5, 37), (3, 4, 31), (31, 0, 32), (3, 3, 20), (20, 0, 21), (3, 2, 15), (15, 0, 16), (3, 1, 4), (4, 0, 5), (0, 0, 1), (1, 0, 2)] [(58, 9), (53, 3), (42, 9), (32, 4), (21, 9), (16, 3), (5, 9)] [(3, 7, 39)] (va_up (fun _ _ => 0) 38 (fun k => if k < 60 then (-1) else (fun _ _ => 0) 38 k))) : Rn (f_X8_init (M + 200) (z + 68) (4 : Int32) (16 : Int32) (s.1, s.2)) (fun s => CB s z 74 684 [(68, 0, 69), (40, 3, 57), (57, 0, 58), (40, 2, 52), (52, 0, 53), (40, 1, 41), (41, 0, 42), (0, 1, 3), (3, 6, 38), (3, 5, 37), (3, 4, 31), (31, 0, 32), (3, 3, 20), (20, 0, 21), (3, 2, 15), (15, 0, 16), (3, 1, 4), (4, 0, 5), (0, 0, 1), (1, 0, 2)] [(69, 4), (58, 9), (53, 3), (42, 9), (32, 4), (21, 9), (16, 3), (5, 9)] [(3, 7, 39)] (va_up (fun _ _ => 0) 38 (fun k => if k < 60 then (-1) else (fun _ _ => 0) 38 k))) := by
  unfold f_X8_init
  refine rn_t (cb_o 68 8 hc rfl) ?_
  refine cb_pI0 68 8 1 hc rfl rfl (fun d1 hc => ?_)
  rw [cb_nx hc]
  refine cb_mul 4 16 hc rfl rfl (by decide) (fun s2 hc => ?_)
  unfold f_X8_init_16
  refine cb_pP 68 8 0 69 hc rfl (by decide) (fun s3 hc => ?_)
  unfold f_X8_init_19
  exact rn_some hc
set_option maxRecDepth 20000 in
theorem ct_X1_init_1 {M z : Nat} {s : AS} (hc : CB s z 41 395 [(0, 1, 3), (3, 6, 38), (3, 5, 37), (3, 4, 31), (31, 0, 32), (3, 3, 20), (20, 0, 21), (3, 2, 15), (15, 0, 16), (3, 1, 4), (4, 0, 5), (0, 0, 1), (1, 0, 2)] [(32, 4), (21, 9), (16, 3), (5, 9)] [(3, 7, 39)] (va_up (fun _ _ => 0) 38 (fun k => if k < 60 then (-1) else (fun _ _ => 0) 38 k))) : Rn (f_X1_init (M + 200) (z + 40) (s.1, s.2)) (fun s => CB s z 77 751 [(40, 6, 75), (40, 5, 74), (40, 4, 68), (68, 0, 69), (40, 3, 57), (57, 0, 58), (40, 2, 52), (52, 0, 53), (40, 1, 41), (41, 0, 42), (0, 1, 3), (3, 6, 38), (3, 5, 37), (3, 4, 31), (31, 0, 32), (3, 3, 20), (20, 0, 21), (3, 2, 15), (15, 0, 16), (3, 1, 4), (4, 0, 5), (0, 0, 1), (1, 0, 2)] [(69, 4), (58, 9), (53, 3), (42, 9), (32, 4), (21, 9), (16, 3), (5, 9)] [(40, 7, 76), (3, 7, 39)] (va_up (va_up (fun _ _ => 0) 38 (fun k => if k < 60 then (-1) else (fun _ _ => 0) 38 k)) 75 (fun k => if k < 60 then (-1) else (va_up (fun _ _ => 0) 38 (fun k => if k < 60 then (-1) else (fun _ _ => 0) 38 k)) 75 k))) := by
  unfold f_X1_init
  refine rn_t (cb_o 40 1 hc rfl) ?_
  refine cb_pI0 40 1 0 hc rfl rfl (fun d1 hc => ?_)
  rw [cb_nx hc]
  have hc := cb_obj 8 hc rfl
  unfold f_X1_init_13
  refine rn_bind (ct_X8_init_4 hc) (fun s2 hc => ?_)
  unfold f_X1_init_21
  refine cb_pP 40 1 1 41 hc rfl (by decide) (fun s3 hc => ?_)
  unfold f_X1_init_24
  rw [cb_nx hc]
  have hc := cb_obj 8 hc rfl
  unfold f_X1_init_28
  refine rn_bind (ct_X8_init_5 hc) (fun s4 hc => ?_)
  unfold f_X1_init_34
  refine cb_pP 40 1 2 52 hc rfl (by decide) (fun s5 hc => ?_)
  unfold f_X1_init_37
  rw [cb_nx hc]
  have hc := cb_obj 8 hc rfl
  unfold f_X1_init_41
  refine rn_bind (ct_X8_init_6 hc) (fun s6 hc => ?_)
  unfold f_X1_init_48
  refine cb_pP 40 1 3 57 hc rfl (by decide) (fun s7 hc => ?_)
  unfold f_X1_init_51
  rw [cb_nx hc]
  have hc := cb_obj 8 hc rfl
  unfold f_X1_init_55
  refine rn_bind (ct_X8_init_7 hc) (fun s8 hc => ?_)
  unfold f_X1_init_62
  refine cb_pP 40 1 4 68 hc rfl (by decide) (fun s9 hc => ?_)
  unfold f_X1_init_65
  rw [cb_nx hc]
  refine cb_arr 7 hc rfl rfl (fun s10 hc => ?_)
  unfold f_X1_init_70
  refine cb_pP 40 1 5 74 hc rfl (by decide) (fun s11 hc => ?_)
  unfold f_X1_init_73
  rw [cb_nx hc]
  refine cb_arr 60 hc rfl rfl (fun s12 hc => ?_)
  unfold f_X1_init_78
  refine cb_pP 40 1 6 75 hc rfl (by decide) (fun s13 hc => ?_)
  unfold f_X1_init_81
  rw [cb_nx hc]
  refine cb_arr 0 hc rfl rfl (fun s14 hc => ?_)
  unfold f_X1_init_85
  refine cb_pQ 40 1 7 76 hc rfl (by decide) (by decide) (fun d15 hc => ?_)
  refine cb_gP 40 1 6 75 hc rfl (by decide) ?_
  refine cb_fill 75 60 hc rfl (by decide) (by omega) (fun d16 hc => ?_)
  exact rn_some hc
set_option maxRecDepth 20000 in
theorem ct_X10_init_0 {M z : Nat} {s : AS} (hc : CB s z 78 757 [(0, 2, 40), (40, 6, 75), (40, 5, 74), (40, 4, 68), (68, 0, 69), (40, 3, 57), (57, 0, 58), (40, 2, 52), (52, 0, 53), (40, 1, 41), (41, 0, 42), (0, 1, 3), (3, 6, 38), (3, 5, 37), (3, 4, 31), (31, 0, 32), (3, 3, 20), (20, 0, 21), (3, 2, 15), (15, 0, 16), (3, 1, 4), (4, 0, 5), (0, 0, 1), (1, 0, 2)] [(69, 4), (58, 9), (53, 3), (42, 9), (32, 4), (21, 9), (16, 3), (5, 9)] [(40, 7, 76), (3, 7, 39)] (va_up (va_up (fun _ _ => 0) 38 (fun k => if k < 60 then (-1) else (fun _ _ => 0) 38 k)) 75 (fun k => if k < 60 then (-1) else (va_up (fun _ _ => 0) 38 (fun k => if k < 60 then (-1) else (fun _ _ => 0) 38 k)) 75 k))) : Rn (f_X10_init (M + 200) (z + 77) (z + 3) (s.1, s.2)) (fun s => CB s z 201 8137 [(77, 0, 3), (77, 3, 140), (77, 2, 139), (77, 1, 78), (0, 2, 40), (40, 6, 75), (40, 5, 74), (40, 4, 68), (68, 0, 69), (40, 3, 57), (57, 0, 58), (40, 2, 52), (52, 0, 53), (40, 1, 41), (41, 0, 42), (0, 1, 3), (3, 6, 38), (3, 5, 37), (3, 4, 31), (31, 0, 32), (3, 3, 20), (20, 0, 21), (3, 2, 15), (15, 0, 16), (3, 1, 4), (4, 0, 5), (0, 0, 1), (1, 0, 2)] [(140, 60), (78, 60), (69, 4), (58, 9), (53, 3), (42, 9), (32, 4), (21, 9), (16, 3), (5, 9)] [(40, 7, 76), (3, 7, 39)] (va_up (va_up (fun _ _ => 0) 38 (fun k => if k < 60 then (-1) else (fun _ _ => 0) 38 k)) 75 (fun k => if k < 60 then (-1) else (va_up (fun _ _ => 0) 38 (fun k => if k < 60 then (-1) else (fun _ _ => 0) 38 k)) 75 k))) := by
  unfold f_X10_init
  refine rn_t (cb_o 77 10 hc rfl) ?_
  rw [cb_nx hc]
  refine cb_mul 60 60 hc rfl rfl (by decide) (fun s1 hc => ?_)
  unfold f_X10_init_13
  refine cb_pP 77 10 1 78 hc rfl (by decide) (fun s2 hc => ?_)
  unfold f_X10_init_16
  rw [cb_nx hc]
  refine cb_arr 60 hc rfl rfl (fun s3 hc => ?_)
  unfold f_X10_init_21
  refine cb_pP 77 10 2 139 hc rfl (by decide) (fun s4 hc => ?_)
  unfold f_X10_init_24
  rw [cb_nx hc]
  refine cb_mul 60 60 hc rfl rfl (by decide) (fun s5 hc => ?_)
  unfold f_X10_init_33
  refine cb_pP 77 10 3 140 hc rfl (by decide) (fun s6 hc => ?_)
  unfold f_X10_init_36
  refine cb_pJ0 77 10 4 hc rfl (fun d7 hc => ?_)
  refine cb_pI0 77 10 5 hc rfl rfl (fun d8 hc => ?_)
  refine cb_pP 77 10 0 3 hc rfl (by decide) (fun s9 hc => ?_)
  unfold f_X10_init_51
  exact rn_some hc
set_option maxRecDepth 20000 in
theorem ct_X4_init_0 {M z : Nat} {s : AS} (hc : CB s z 202 8149 [(0, 3, 77), (77, 0, 3), (77, 3, 140), (77, 2, 139), (77, 1, 78), (0, 2, 40), (40, 6, 75), (40, 5, 74), (40, 4, 68), (68, 0, 69), (40, 3, 57), (57, 0, 58), (40, 2, 52), (52, 0, 53), (40, 1, 41), (41, 0, 42), (0, 1, 3), (3, 6, 38), (3, 5, 37), (3, 4, 31), (31, 0, 32), (3, 3, 20), (20, 0, 21), (3, 2, 15), (15, 0, 16), (3, 1, 4), (4, 0, 5), (0, 0, 1), (1, 0, 2)] [(140, 60), (78, 60), (69, 4), (58, 9), (53, 3), (42, 9), (32, 4), (21, 9), (16, 3), (5, 9)] [(40, 7, 76), (3, 7, 39)] (va_up (va_up (fun _ _ => 0) 38 (fun k => if k < 60 then (-1) else (fun _ _ => 0) 38 k)) 75 (fun k => if k < 60 then (-1) else (va_up (fun _ _ => 0) 38 (fun k => if k < 60 then (-1) else (fun _ _ => 0) 38 k)) 75 k))) : Rn (f_X4_init (M + 200) (z + 201) (z + 3) (z + 77) (s.1, s.2)) (fun s => CB s z 221 8480 [(201, 1, 77), (201, 0, 3), (201, 9, 220), (201, 8, 219), (201, 5, 203), (201, 2, 202), (0, 3, 77), (77, 0, 3), (77, 3, 140), (77, 2, 139), (77, 1, 78), (0, 2, 40), (40, 6, 75), (40, 5, 74), (40, 4, 68), (68, 0, 69), (40, 3, 57), (57, 0, 58), (40, 2, 52), (52, 0, 53), (40, 1, 41), (41, 0, 42), (0, 1, 3), (3, 6, 38), (3, 5, 37), (3, 4, 31), (31, 0, 32), (3, 3, 20), (20, 0, 21), (3, 2, 15), (15, 0, 16), (3, 1, 4), (4, 0, 5), (0, 0, 1), (1, 0, 2)] [(203, 14), (140, 60), (78, 60), (69, 4), (58, 9), (53, 3), (42, 9), (32, 4), (21, 9), (16, 3), (5, 9)] [(201, 6, 218), (40, 7, 76), (3, 7, 39)] (va_up (va_up (fun _ _ => 0) 38 (fun k => if k < 60 then (-1) else (fun _ _ => 0) 38 k)) 75 (fun k => if k < 60 then (-1) else (va_up (fun _ _ => 0) 38 (fun k => if k < 60 then (-1) else (fun _ _ => 0) 38 k)) 75 k))) := by
  unfold f_X4_init
  refine rn_t (cb_o 201 4 hc rfl) ?_
  rw [cb_nx hc]
  refine cb_arr 60 hc rfl rfl (fun s1 hc => ?_)
  unfold f_X4_init_9
  refine cb_pP 201 4 2 202 hc rfl (by decide) (fun s2 hc => ?_)
  unfold f_X4_init_12
  refine cb_pI0 201 4 3 hc rfl rfl (fun d3 hc => ?_)
  refine cb_pI0 201 4 4 hc rfl rfl (fun d4 hc => ?_)
  rw [cb_nx hc]
  refine cb_mul 14 14 hc rfl rfl (by decide) (fun s5 hc => ?_)
  unfold f_X4_init_31
  refine cb_pP 201 4 5 203 hc rfl (by decide) (fun s6 hc => ?_)
  unfold f_X4_init_34
  rw [cb_nx hc]
  refine cb_arr 1 hc rfl rfl (fun s7 hc => ?_)
  unfold f_X4_init_38
  refine cb_pQ 201 4 6 218 hc rfl (by decide) (by decide) (fun d8 hc => ?_)
  refine cb_pI0 201 4 7 hc rfl rfl (fun d9 hc => ?_)
  rw [cb_nx hc]
  refine cb_arr 30 hc rfl rfl (fun s10 hc => ?_)
  unfold f_X4_init_51
  refine cb_pP 201 4 8 219 hc rfl (by decide) (fun s11 hc => ?_)
  unfold f_X4_init_54
  rw [cb_nx hc]
  refine cb_arr 30 hc rfl rfl (fun s12 hc => ?_)
  unfold f_X4_init_59
  refine cb_pP 201 4 9 220 hc rfl (by decide) (fun s13 hc => ?_)
  unfold f_X4_init_62
  refine cb_pI0 201 4 10 hc rfl rfl (fun d14 hc => ?_)
  refine cb_pI0 201 4 11 hc rfl rfl (fun d15 hc => ?_)
  refine cb_pP 201 4 0 3 hc rfl (by decide) (fun s16 hc => ?_)
  unfold f_X4_init_77
  refine cb_pP 201 4 1 77 hc rfl (by decide) (fun s17 hc => ?_)
  unfold f_X4_init_82
  exact rn_some hc
set_option maxRecDepth 20000 in
theorem ct_X8_init_8 {M z : Nat} {s : AS} (hc : CB s z 223 8495 [(0, 4, 201), (201, 1, 77), (201, 0, 3), (201, 9, 220), (201, 8, 219), (201, 5, 203), (201, 2, 202), (0, 3, 77), (77, 0, 3), (77, 3, 140), (77, 2, 139), (77, 1, 78), (0, 2, 40), (40, 6, 75), (40, 5, 74), (40, 4, 68), (68, 0, 69), (40, 3, 57), (57, 0, 58), (40, 2, 52), (52, 0, 53), (40, 1, 41), (41, 0, 42), (0, 1, 3), (3, 6, 38), (3, 5, 37), (3, 4, 31), (31, 0, 32), (3, 3, 20), (20, 0, 21), (3, 2, 15), (15, 0, 16), (3, 1, 4), (4, 0, 5), (0, 0, 1), (1, 0, 2)] [(203, 14), (140, 60), (78, 60), (69, 4), (58, 9), (53, 3), (42, 9), (32, 4), (21, 9), (16, 3), (5, 9)] [(201, 6, 218), (40, 7, 76), (3, 7, 39)] (va_up (va_up (fun _ _ => 0) 38 (fun k => if k < 60 then (-1) else (fun _ _ => 0) 38 k)) 75 (fun k => if k < 60 then (-1) else (va_up (fun _ _ => 0) 38 (fun k => if k < 60 then (-1) else (fun _ _ => 0) 38 k)) 75 k))) : Rn (f_X8_init (M + 200) (z + 222) (4 : Int32) (16 : Int32) (s.1, s.2)) (fun s => CB s z 228 8563 [(222, 0, 223), (0, 4, 201), (201, 1, 77), (201, 0, 3), (201, 9, 220), (201, 8, 219), (201, 5, 203), (201, 2, 202), (0, 3, 77), (77, 0, 3), (77, 3, 140), (77, 2, 139), (77, 1, 78), (0, 2, 40), (40, 6, 75), (40, 5, 74), (40, 4, 68), (68, 0, 69), (40, 3, 57), (57, 0, 58), (40, 2, 52), (52, 0, 53), (40, 1, 41), (41, 0, 42), (0, 1, 3), (3, 6, 38), (3, 5, 37), (3, 4, 31), (31, 0, 32), (3, 3, 20), (20, 0, 21), (3, 2, 15), (15, 0, 16), (3, 1, 4), (4, 0, 5), (0, 0, 1), (1, 0, 2)] [(223, 4), (203, 14), (140, 60), (78, 60), (69, 4), (58, 9), (53, 3), (42, 9), (32, 4), (21, 9), (16, 3), (5, 9)] [(201, 6, 218), (40, 7, 76), (3, 7, 39)] (va_up (va_up (fun _ _ => 0) 38 (fun k => if k < 60 then (-1) else (fun _ _ => 0) 38 k)) 75 (fun k => if k < 60 then (-1) else (va_up (fun _ _ => 0) 38 (fun k => if k < 60 then (-1) else (fun _ _ => 0) 38 k)) 75 k))) := by
  unfold f_X8_init
  refine rn_t (cb_o 222 8 hc rfl) ?_
  refine cb_pI0 222 8 1 hc rfl rfl (fun d1 hc => ?_)
  rw [cb_nx hc]
  refine cb_mul 4 16 hc rfl rfl (by decide) (fun s2 hc => ?_)
  unfold f_X8_init_16
  refine cb_pP 222 8 0 223 hc rfl (by decide) (fun s3 hc => ?_)
  unfold f_X8_init_19
  exact rn_some hc
set_option maxRecDepth 20000 in
theorem ct_X5_init_0 {M z : Nat} {s : AS} (hc : CB s z 222 8493 [(0, 4, 201), (201, 1, 77), (201, 0, 3), (201, 9, 220), (201, 8, 219), (201, 5, 203), (201, 2, 202), (0, 3, 77), (77, 0, 3), (77, 3, 140), (77, 2, 139), (77, 1, 78), (0, 2, 40), (40, 6, 75), (40, 5, 74), (40, 4, 68), (68, 0, 69), (40, 3, 57), (57, 0, 58), (40, 2, 52), (52, 0, 53), (40, 1, 41), (41, 0, 42), (0, 1, 3), (3, 6, 38), (3, 5, 37), (3, 4, 31), (31, 0, 32), (3, 3, 20), (20, 0, 21), (3, 2, 15), (15, 0, 16), (3, 1, 4), (4, 0, 5), (0, 0, 1), (1, 0, 2)] [(203, 14), (140, 60), (78, 60), (69, 4), (58, 9), (53, 3), (42, 9), (32, 4), (21, 9), (16, 3), (5, 9)] [(201, 6, 218), (40, 7, 76), (3, 7, 39)] (va_up (va_up (fun _ _ => 0) 38 (fun k => if k < 60 then (-1) else (fun _ _ => 0) 38 k)) 75 (fun k => if k < 60 then (-1) else (va_up (fun _ _ => 0) 38 (fun k => if k < 60 then (-1) else (fun _ _ => 0) 38 k)) 75 k))) : Rn (f_X5_init (M + 200) (z + 221) (z + 3) (z + 77) (z + 201) (s.1, s.2)) (fun s => CB s z 235 9290 [(221, 2, 201), (221, 1, 77), (221, 0, 3), (221, 11, 234), (221, 10, 233), (221, 9, 232), (221, 7, 231), (221, 6, 230), (221, 5, 229), (221, 4, 228), (221, 3, 222), (222, 0, 223), (0, 4, 201), (201, 1, 77), (201, 0, 3), (201, 9, 220), (201, 8, 219), (201, 5, 203), (201, 2, 202), (0, 3, 77), (77, 0, 3), (77, 3, 140), (77, 2, 139), (77, 1, 78), (0, 2, 40), (40, 6, 75), (40, 5, 74), (40, 4, 68), (68, 0, 69), (40, 3, 57), (57, 0, 58), (40, 2, 52), (52, 0, 53), (40, 1, 41), (41, 0, 42), (0, 1, 3), (3, 6, 38), (3, 5, 37), (3, 4, 31), (31, 0, 32), (3, 3, 20), (20, 0, 21), (3, 2, 15), (15, 0, 16), (3, 1, 4), (4, 0, 5), (0, 0, 1), (1, 0, 2)] [(223, 4), (203, 14), (140, 60), (78, 60), (69, 4), (58, 9), (53, 3), (42, 9), (32, 4), (21, 9), (16, 3), (5, 9)] [(201, 6, 218), (40, 7, 76), (3, 7, 39)] (va_up (va_up (fun _ _ => 0) 38 (fun k => if k < 60 then (-1) else (fun _ _ => 0) 38 k)) 75 (fun k => if k < 60 then (-1) else (va_up (fun _ _ => 0) 38 (fun k => if k < 60 then (-1) else (fun _ _ => 0) 38 k)) 75 k))) := by
  unfold f_X5_init
  refine rn_t (cb_o 221 5 hc rfl) ?_
  rw [cb_nx hc]
  have hc := cb_obj 8 hc rfl
  unfold f_X5_init_8
  refine rn_bind (ct_X8_init_8 hc) (fun s1 hc => ?_)
  unfold f_X5_init_15
  refine cb_pP 221 5 3 222 hc rfl (by decide) (fun s2 hc => ?_)
  unfold f_X5_init_18
  rw [cb_nx hc]
  refine cb_arr 7 hc rfl rfl (fun s3 hc => ?_)
  unfold f_X5_init_23
  refine cb_pP 221 5 4 228 hc rfl (by decide) (fun s4 hc => ?_)
  unfold f_X5_init_26
  rw [cb_nx hc]
  refine cb_arr 60 hc rfl rfl (fun s5 hc => ?_)
  unfold f_X5_init_31
  refine cb_pP 221 5 5 229 hc rfl (by decide) (fun s6 hc => ?_)
  unfold f_X5_init_34
  rw [cb_nx hc]
  refine cb_arr 150 hc rfl rfl (fun s7 hc => ?_)
  unfold f_X5_init_40
  refine cb_pP 221 5 6 230 hc rfl (by decide) (fun s8 hc => ?_)
  unfold f_X5_init_43
  rw [cb_nx hc]
  refine cb_arr 150 hc rfl rfl (fun s9 hc => ?_)
  unfold f_X5_init_49
  refine cb_pP 221 5 7 231 hc rfl (by decide) (fun s10 hc => ?_)
  unfold f_X5_init_52
  refine cb_pI0 221 5 8 hc rfl rfl (fun d11 hc => ?_)
  rw [cb_nx hc]
  refine cb_arr 150 hc rfl rfl (fun s12 hc => ?_)
  unfold f_X5_init_63
  refine cb_pP 221 5 9 232 hc rfl (by decide) (fun s13 hc => ?_)
  unfold f_X5_init_66
  rw [cb_nx hc]
  refine cb_arr 150 hc rfl rfl (fun s14 hc => ?_)
  unfold f_X5_init_72
  refine cb_pP 221 5 10 233 hc rfl (by decide) (fun s15 hc => ?_)
  unfold f_X5_init_75
  rw [cb_nx hc]
  refine cb_arr 60 hc rfl rfl (fun s16 hc => ?_)
  unfold f_X5_init_80
  refine cb_pP 221 5 11 234 hc rfl (by decide) (fun s17 hc => ?_)
  unfold f_X5_init_83
  refine cb_pI0 221 5 12 hc rfl rfl (fun d18 hc => ?_)
  refine cb_pP 221 5 0 3 hc rfl (by decide) (fun s19 hc => ?_)
  unfold f_X5_init_93
  refine cb_pP 221 5 1 77 hc rfl (by decide) (fun s20 hc => ?_)
  unfold f_X5_init_98
  refine cb_pP 221 5 2 201 hc rfl (by decide) (fun s21 hc => ?_)
  unfold f_X5_init_103
  exact rn_some hc
set_option maxRecDepth 20000 in
theorem ct_X6_init_0 {M z : Nat} {s : AS} (hc : CB s z 242 9377 [(0, 10, 239), (0, 9, 238), (0, 8, 237), (0, 7, 236), (0, 6, 235), (0, 5, 221), (221, 2, 201), (221, 1, 77), (221, 0, 3), (221, 11, 234), (221, 10, 233), (221, 9, 232), (221, 7, 231), (221, 6, 230), (221, 5, 229), (221, 4, 228), (221, 3, 222), (222, 0, 223), (0, 4, 201), (201, 1, 77), (201, 0, 3), (201, 9, 220), (201, 8, 219), (201, 5, 203), (201, 2, 202), (0, 3, 77), (77, 0, 3), (77, 3, 140), (77, 2, 139), (77, 1, 78), (0, 2, 40), (40, 6, 75), (40, 5, 74), (40, 4, 68), (68, 0, 69), (40, 3, 57), (57, 0, 58), (40, 2, 52), (52, 0, 53), (40, 1, 41), (41, 0, 42), (0, 1, 3), (3, 6, 38), (3, 5, 37), (3, 4, 31), (31, 0, 32), (3, 3, 20), (20, 0, 21), (3, 2, 15), (15, 0, 16), (3, 1, 4), (4, 0, 5), (0, 0, 1), (1, 0, 2)] [(223, 4), (203, 14), (140, 60), (78, 60), (69, 4), (58, 9), (53, 3), (42, 9), (32, 4), (21, 9), (16, 3), (5, 9)] [(0, 11, 240), (201, 6, 218), (40, 7, 76), (3, 7, 39)] (va_up (va_up (fun _ _ => 0) 38 (fun k => if k < 60 then (-1) else (fun _ _ => 0) 38 k)) 75 (fun k => if k < 60 then (-1) else (va_up (fun _ _ => 0) 38 (fun k => if k < 60 then (-1) else (fun _ _ => 0) 38 k)) 75 k))) : Rn (f_X6_init (M + 200) (z + 241) (z + 1) (50 : Int32) (200 : Int32) (s.1, s.2)) (fun s => CB s z 242 9377 [(241, 0, 1), (0, 10, 239), (0, 9, 238), (0, 8, 237), (0, 7, 236), (0, 6, 235), (0, 5, 221), (221, 2, 201), (221, 1, 77), (221, 0, 3), (221, 11, 234), (221, 10, 233), (221, 9, 232), (221, 7, 231), (221, 6, 230), (221, 5, 229), (221, 4, 228), (221, 3, 222), (222, 0, 223), (0, 4, 201), (201, 1, 77), (201, 0, 3), (201, 9, 220), (201, 8, 219), (201, 5, 203), (201, 2, 202), (0, 3, 77), (77, 0, 3), (77, 3, 140), (77, 2, 139), (77, 1, 78), (0, 2, 40), (40, 6, 75), (40, 5, 74), (40, 4, 68), (68, 0, 69), (40, 3, 57), (57, 0, 58), (40, 2, 52), (52, 0, 53), (40, 1, 41), (41, 0, 42), (0, 1, 3), (3, 6, 38), (3, 5, 37), (3, 4, 31), (31, 0, 32), (3, 3, 20), (20, 0, 21), (3, 2, 15), (15, 0, 16), (3, 1, 4), (4, 0, 5), (0, 0, 1), (1, 0, 2)] [(223, 4), (203, 14), (140, 60), (78, 60), (69, 4), (58, 9), (53, 3), (42, 9), (32, 4), (21, 9), (16, 3), (5, 9)] [(0, 11, 240), (201, 6, 218), (40, 7, 76), (3, 7, 39)] (va_up (va_up (va_up (va_up (fun _ _ => 0) 38 (fun k => if k < 60 then (-1) else (fun _ _ => 0) 38 k)) 75 (fun k => if k < 60 then (-1) else (va_up (fun _ _ => 0) 38 (fun k => if k < 60 then (-1) else (fun _ _ => 0) 38 k)) 75 k)) 241 (va_up ((va_up (va_up (fun _ _ => 0) 38 (fun k => if k < 60 then (-1) else (fun _ _ => 0) 38 k)) 75 (fun k => if k < 60 then (-1) else (va_up (fun _ _ => 0) 38 (fun k => if k < 60 then (-1) else (fun _ _ => 0) 38 k)) 75 k)) 241) 1 50)) 241 (va_up ((va_up (va_up (va_up (fun _ _ => 0) 38 (fun k => if k < 60 then (-1) else (fun _ _ => 0) 38 k)) 75 (fun k => if k < 60 then (-1) else (va_up (fun _ _ => 0) 38 (fun k => if k < 60 then (-1) else (fun _ _ => 0) 38 k)) 75 k)) 241 (va_up ((va_up (va_up (fun _ _ => 0) 38 (fun k => if k < 60 then (-1) else (fun _ _ => 0) 38 k)) 75 (fun k => if k < 60 then (-1) else (va_up (fun _ _ => 0) 38 (fun k => if k < 60 then (-1) else (fun _ _ => 0) 38 k)) 75 k)) 241) 1 50)) 241) 2 200))) := by
  unfold f_X6_init
  refine rn_t (cb_o 241 6 hc rfl) ?_
  refine cb_pP 241 6 0 1 hc rfl (by decide) (fun s1 hc => ?_)
  unfold f_X6_init_9
  refine cb_pI 241 6 1 hc rfl (fun d2 hc => ?_)
  refine cb_pI 241 6 2 hc rfl (fun d3 hc => ?_)
  exact rn_some hc
set_option maxRecDepth 20000 in
theorem ct_X11_init_0 {M z : Nat} {s : AS} (hc : CB s z 1 14 [] [] [] (fun _ _ => 0)) : Rn (f_X11_init (M + 200) (z + 0) (s.1, s.2)) (fun s => CB s z 242 9377 [(241, 0, 1), (0, 10, 239), (0, 9, 238), (0, 8, 237), (0, 7, 236), (0, 6, 235), (0, 5, 221), (221, 2, 201), (221, 1, 77), (221, 0, 3), (221, 11, 234), (221, 10, 233), (221, 9, 232), (221, 7, 231), (221, 6, 230), (221, 5, 229), (221, 4, 228), (221, 3, 222), (222, 0, 223), (0, 4, 201), (201, 1, 77), (201, 0, 3), (201, 9, 220), (201, 8, 219), (201, 5, 203), (201, 2, 202), (0, 3, 77), (77, 0, 3), (77, 3, 140), (77, 2, 139), (77, 1, 78), (0, 2, 40), (40, 6, 75), (40, 5, 74), (40, 4, 68), (68, 0, 69), (40, 3, 57), (57, 0, 58), (40, 2, 52), (52, 0, 53), (40, 1, 41), (41, 0, 42), (0, 1, 3), (3, 6, 38), (3, 5, 37), (3, 4, 31), (31, 0, 32), (3, 3, 20), (20, 0, 21), (3, 2, 15), (15, 0, 16), (3, 1, 4), (4, 0, 5), (0, 0, 1), (1, 0, 2)] [(223, 4), (203, 14), (140, 60), (78, 60), (69, 4), (58, 9), (53, 3), (42, 9), (32, 4), (21, 9), (16, 3), (5, 9)] [(235, 11, 241), (235, 10, 241), (235, 9, 241), (235, 8, 241), (235, 7, 241), (235, 6, 241), (235, 5, 241), (235, 4, 241), (235, 3, 241), (235, 2, 241), (235, 1, 241), (235, 0, 241), (0, 11, 240), (201, 6, 218), (40, 7, 76), (3, 7, 39)] (va_up (va_up (va_up (va_up (fun _ _ => 0) 38 (fun k => if k < 60 then (-1) else (fun _ _ => 0) 38 k)) 75 (fun k => if k < 60 then (-1) else (va_up (fun _ _ => 0) 38 (fun k => if k < 60 then (-1) else (fun _ _ => 0) 38 k)) 75 k)) 241 (va_up ((va_up (va_up (fun _ _ => 0) 38 (fun k => if k < 60 then (-1) else (fun _ _ => 0) 38 k)) 75 (fun k => if k < 60 then (-1) else (va_up (fun _ _ => 0) 38 (fun k => if k < 60 then (-1) else (fun _ _ => 0) 38 k)) 75 k)) 241) 1 50)) 241 (va_up ((va_up (va_up (va_up (fun _ _ => 0) 38 (fun k => if k < 60 then (-1) else (fun _ _ => 0) 38 k)) 75 (fun k => if k < 60 then (-1) else (va_up (fun _ _ => 0) 38 (fun k => if k < 60 then (-1) else (fun _ _ => 0) 38 k)) 75 k)) 241 (va_up ((va_up (va_up (fun _ _ => 0) 38 (fun k => if k < 60 then (-1) else (fun _ _ => 0) 38 k)) 75 (fun k => if k < 60 then (-1) else (va_up (fun _ _ => 0) 38 (fun k => if k < 60 then (-1) else (fun _ _ => 0) 38 k)) 75 k)) 241) 1 50)) 241) 2 200))) := by
  unfold f_X11_init
  refine rn_t (cb_o 0 11 hc rfl) ?_
  rw [cb_nx hc]
  have hc := cb_obj 2 hc rfl
  unfold f_X11_init_8
  refine rn_bind (ct_X2_init_0 hc) (fun s1 hc => ?_)
  unfold f_X11_init_12
  refine cb_pP 0 11 0 1 hc rfl (by decide) (fun s2 hc => ?_)
  unfold f_X11_init_15
  rw [cb_nx hc]
  have hc := cb_obj 1 hc rfl
  unfold f_X11_init_19
  refine rn_bind (ct_X1_init_0 hc) (fun s3 hc => ?_)
  unfold f_X11_init_23
  refine cb_pP 0 11 1 3 hc rfl (by decide) (fun s4 hc => ?_)
  unfold f_X11_init_26
  rw [cb_nx hc]
  have hc := cb_obj 1 hc rfl
  unfold f_X11_init_30
  refine rn_bind (ct_X1_init_1 hc) (fun s5 hc => ?_)
  unfold f_X11_init_34
  refine cb_pP 0 11 2 40 hc rfl (by decide) (fun s6 hc => ?_)
  unfold f_X11_init_37
  rw [cb_nx hc]
  have hc := cb_obj 10 hc rfl
  unfold f_X11_init_41
  refine cb_gP 0 11 1 3 hc rfl (by decide) ?_
  refine rn_bind (ct_X10_init_0 hc) (fun s7 hc => ?_)
  unfold f_X11_init_49
  refine cb_pP 0 11 3 77 hc rfl (by decide) (fun s8 hc => ?_)
  unfold f_X11_init_52
  rw [cb_nx hc]
  have hc := cb_obj 4 hc rfl
  unfold f_X11_init_56
  refine cb_gP 0 11 1 3 hc rfl (by decide) ?_
  refine cb_gP 0 11 3 77 hc rfl (by decide) ?_
  refine rn_bind (ct_X4_init_0 hc) (fun s9 hc => ?_)
  unfold f_X11_init_68
  refine cb_pP 0 11 4 201 hc rfl (by decide) (fun s10 hc => ?_)
  unfold f_X11_init_71
  rw [cb_nx hc]
  have hc := cb_obj 5 hc rfl
  unfold f_X11_init_75
  refine cb_gP 0 11 1 3 hc rfl (by decide) ?_
  refine cb_gP 0 11 3 77 hc rfl (by decide) ?_
  refine cb_gP 0 11 4 201 hc rfl (by decide) ?_
  refine rn_bind (ct_X5_init_0 hc) (fun s11 hc => ?_)
  unfold f_X11_init_91
  refine cb_pP 0 11 5 221 hc rfl (by decide) (fun s12 hc => ?_)
  unfold f_X11_init_94
  rw [cb_nx hc]
  refine cb_arr 12 hc rfl rfl (fun s13 hc => ?_)
  unfold f_X11_init_100
  refine cb_pP 0 11 6 235 hc rfl (by decide) (fun s14 hc => ?_)
  unfold f_X11_init_103
  rw [cb_nx hc]
  refine cb_arr 20 hc rfl rfl (fun s15 hc => ?_)
  unfold f_X11_init_108
  refine cb_pP 0 11 7 236 hc rfl (by decide) (fun s16 hc => ?_)
  unfold f_X11_init_111
  rw [cb_nx hc]
  refine cb_arr 12 hc rfl rfl (fun s17 hc => ?_)
  unfold f_X11_init_116
  refine cb_pP 0 11 8 237 hc rfl (by decide) (fun s18 hc => ?_)
  unfold f_X11_init_119
  rw [cb_nx hc]
  refine cb_arr 12 hc rfl rfl (fun s19 hc => ?_)
  unfold f_X11_init_124
  refine cb_pP 0 11 9 238 hc rfl (by decide) (fun s20 hc => ?_)
  unfold f_X11_init_127
  rw [cb_nx hc]
  refine cb_arr 12 hc rfl rfl (fun s21 hc => ?_)
  unfold f_X11_init_132
  refine cb_pP 0 11 10 239 hc rfl (by decide) (fun s22 hc => ?_)
  unfold f_X11_init_135
  rw [cb_nx hc]
  refine cb_arr 16 hc rfl rfl (fun s23 hc => ?_)
  unfold f_X11_init_140
  refine cb_pQ 0 11 11 240 hc rfl (by decide) (by decide) (fun d24 hc => ?_)
  refine cb_pI0 0 11 12 hc rfl rfl (fun d25 hc => ?_)
  refine cb_pI0 0 11 13 hc rfl rfl (fun d26 hc => ?_)
  rw [cb_nx hc]
  have hc := cb_obj 6 hc rfl
  unfold f_X11_init_156
  refine cb_gP 0 11 0 1 hc rfl (by decide) ?_
  refine rn_bind (ct_X6_init_0 hc) (fun s27 hc => ?_)
  unfold f_X11_init_169
  rw [u172]
  unfold g_X11_init_172
  refine rn_f (by decide) ?_
  refine cb_gP 0 11 6 235 hc rfl (by decide) ?_
  refine cb_sP 235 12 0 241 hc rfl (by decide) rfl (by decide) (by decide) (fun d28 hc => ?_)
  rw [u172]
  unfold g_X11_init_172
  refine rn_f (by decide) ?_
  refine cb_gP 0 11 6 235 hc rfl (by decide) ?_
  refine cb_sP 235 12 1 241 hc rfl (by decide) rfl (by decide) (by decide) (fun d29 hc => ?_)
  rw [u172]
  unfold g_X11_init_172
  refine rn_f (by decide) ?_
  refine cb_gP 0 11 6 235 hc rfl (by decide) ?_
  refine cb_sP 235 12 2 241 hc rfl (by decide) rfl (by decide) (by decide) (fun d30 hc => ?_)
  rw [u172]
  unfold g_X11_init_172
  refine rn_f (by decide) ?_
  refine cb_gP 0 11 6 235 hc rfl (by decide) ?_
  refine cb_sP 235 12 3 241 hc rfl (by decide) rfl (by decide) (by decide) (fun d31 hc => ?_)
  rw [u172]
  unfold g_X11_init_172
  refine rn_f (by decide) ?_
  refine cb_gP 0 11 6 235 hc rfl (by decide) ?_
  refine cb_sP 235 12 4 241 hc rfl (by decide) rfl (by decide) (by decide) (fun d32 hc => ?_)
  rw [u172]
  unfold g_X11_init_172
  refine rn_f (by decide) ?_
  refine cb_gP 0 11 6 235 hc rfl (by decide) ?_
  refine cb_sP 235 12 5 241 hc rfl (by decide) rfl (by decide) (by decide) (fun d33 hc => ?_)
  rw [u172]
  unfold g_X11_init_172
  refine rn_f (by decide) ?_
  refine cb_gP 0 11 6 235 hc rfl (by decide) ?_
  refine cb_sP 235 12 6 241 hc rfl (by decide) rfl (by decide) (by decide) (fun d34 hc => ?_)
  rw [u172]
  unfold g_X11_init_172
  refine rn_f (by decide) ?_
  refine cb_gP 0 11 6 235 hc rfl (by decide) ?_
  refine cb_sP 235 12 7 241 hc rfl (by decide) rfl (by decide) (by decide) (fun d35 hc => ?_)
  rw [u172]
  unfold g_X11_init_172
  refine rn_f (by decide) ?_
  refine cb_gP 0 11 6 235 hc rfl (by decide) ?_
  refine cb_sP 235 12 8 241 hc rfl (by decide) rfl (by decide) (by decide) (fun d36 hc => ?_)
  rw [u172]
  unfold g_X11_init_172
  refine rn_f (by decide) ?_
  refine cb_gP 0 11 6 235 hc rfl (by decide) ?_
  refine cb_sP 235 12 9 241 hc rfl (by decide) rfl (by decide) (by decide) (fun d37 hc => ?_)
  rw [u172]
  unfold g_X11_init_172
  refine rn_f (by decide) ?_
  refine cb_gP 0 11 6 235 hc rfl (by decide) ?_
  refine cb_sP 235 12 10 241 hc rfl (by decide) rfl (by decide) (by decide) (fun d38 hc => ?_)
  rw [u172]
  unfold g_X11_init_172
  refine rn_f (by decide) ?_
  refine cb_gP 0 11 6 235 hc rfl (by decide) ?_
  refine cb_sP 235 12 11 241 hc rfl (by decide) rfl (by decide) (by decide) (fun d39 hc => ?_)
  rw [u172]
  unfold g_X11_init_172
  refine rn_t (by decide) ?_
  exact rn_some hc
set_option maxRecDepth 20000 in
theorem ct_X12_init_0 {M z : Nat} {s : AS} (hc : CB s z 243 9409 [(241, 0, 1), (0, 10, 239), (0, 9, 238), (0, 8, 237), (0, 7, 236), (0, 6, 235), (0, 5, 221), (221, 2, 201), (221, 1, 77), (221, 0, 3), (221, 11, 234), (221, 10, 233), (221, 9, 232), (221, 7, 231), (221, 6, 230), (221, 5, 229), (221, 4, 228), (221, 3, 222), (222, 0, 223), (0, 4, 201), (201, 1, 77), (201, 0, 3), (201, 9, 220), (201, 8, 219), (201, 5, 203), (201, 2, 202), (0, 3, 77), (77, 0, 3), (77, 3, 140), (77, 2, 139), (77, 1, 78), (0, 2, 40), (40, 6, 75), (40, 5, 74), (40, 4, 68), (68, 0, 69), (40, 3, 57), (57, 0, 58), (40, 2, 52), (52, 0, 53), (40, 1, 41), (41, 0, 42), (0, 1, 3), (3, 6, 38), (3, 5, 37), (3, 4, 31), (31, 0, 32), (3, 3, 20), (20, 0, 21), (3, 2, 15), (15, 0, 16), (3, 1, 4), (4, 0, 5), (0, 0, 1), (1, 0, 2)] [(223, 4), (203, 14), (140, 60), (78, 60), (69, 4), (58, 9), (53, 3), (42, 9), (32, 4), (21, 9), (16, 3), (5, 9)] [(235, 11, 241), (235, 10, 241), (235, 9, 241), (235, 8, 241), (235, 7, 241), (235, 6, 241), (235, 5, 241), (235, 4, 241), (235, 3, 241), (235, 2, 241), (235, 1, 241), (235, 0, 241), (0, 11, 240), (201, 6, 218), (40, 7, 76), (3, 7, 39)] (va_up (va_up (va_up (va_up (fun _ _ => 0) 38 (fun k => if k < 60 then (-1) else (fun _ _ => 0) 38 k)) 75 (fun k => if k < 60 then (-1) else (va_up (fun _ _ => 0) 38 (fun k => if k < 60 then (-1) else (fun _ _ => 0) 38 k)) 75 k)) 241 (va_up ((va_up (va_up (fun _ _ => 0) 38 (fun k => if k < 60 then (-1) else (fun _ _ => 0) 38 k)) 75 (fun k => if k < 60 then (-1) else (va_up (fun _ _ => 0) 38 (fun k => if k < 60 then (-1) else (fun _ _ => 0) 38 k)) 75 k)) 241) 1 50)) 241 (va_up ((va_up (va_up (va_up (fun _ _ => 0) 38 (fun k => if k < 60 then (-1) else (fun _ _ => 0) 38 k)) 75 (fun k => if k < 60 then (-1) else (va_up (fun _ _ => 0) 38 (fun k => if k < 60 then (-1) else (fun _ _ => 0) 38 k)) 75 k)) 241 (va_up ((va_up (va_up (fun _ _ => 0) 38 (fun k => if k < 60 then (-1) else (fun _ _ => 0) 38 k)) 75 (fun k => if k < 60 then (-1) else (va_up (fun _ _ => 0) 38 (fun k => if k < 60 then (-1) else (fun _ _ => 0) 38 k)) 75 k)) 241) 1 50)) 241) 2 200))) : Rn (f_X12_init (M + 200) (z + 242) (s.1, s.2)) (fun s => CB s z 264 75638 [(242, 31, 263), (242, 30, 262), (242, 29, 261), (242, 28, 260), (242, 27, 259), (242, 26, 258), (242, 25, 257), (242, 23, 256), (242, 22, 255), (242, 18, 254), (242, 17, 253), (242, 15, 252), (242, 14, 251), (242, 13, 250), (242, 12, 249), (242, 11, 248), (242, 9, 247), (242, 7, 246), (242, 6, 245), (242, 1, 244), (242, 0, 243), (241, 0, 1), (0, 10, 239), (0, 9, 238), (0, 8, 237), (0, 7, 236), (0, 6, 235), (0, 5, 221), (221, 2, 201), (221, 1, 77), (221, 0, 3), (221, 11, 234), (221, 10, 233), (221, 9, 232), (221, 7, 231), (221, 6, 230), (221, 5, 229), (221, 4, 228), (221, 3, 222), (222, 0, 223), (0, 4, 201), (201, 1, 77), (201, 0, 3), (201, 9, 220), (201, 8, 219), (201, 5, 203), (201, 2, 202), (0, 3, 77), (77, 0, 3), (77, 3, 140), (77, 2, 139), (77, 1, 78), (0, 2, 40), (40, 6, 75), (40, 5, 74), (40, 4, 68), (68, 0, 69), (40, 3, 57), (57, 0, 58), (40, 2, 52), (52, 0, 53), (40, 1, 41), (41, 0, 42), (0, 1, 3), (3, 6, 38), (3, 5, 37), (3, 4, 31), (31, 0, 32), (3, 3, 20), (20, 0, 21), (3, 2, 15), (15, 0, 16), (3, 1, 4), (4, 0, 5), (0, 0, 1), (1, 0, 2)] [(223, 4), (203, 14), (140, 60), (78, 60), (69, 4), (58, 9), (53, 3), (42, 9), (32, 4), (21, 9), (16, 3), (5, 9)] [(235, 11, 241), (235, 10, 241), (235, 9, 241), (235, 8, 241), (235, 7, 241), (235, 6, 241), (235, 5, 241), (235, 4, 241), (235, 3, 241), (235, 2, 241), (235, 1, 241), (235, 0, 241), (0, 11, 240), (201, 6, 218), (40, 7, 76), (3, 7, 39)] (va_up (va_up (va_up (va_up (va_up (fun _ _ => 0) 38 (fun k => if k < 60 then (-1) else (fun _ _ => 0) 38 k)) 75 (fun k => if k < 60 then (-1) else (va_up (fun _ _ => 0) 38 (fun k => if k < 60 then (-1) else (fun _ _ => 0) 38 k)) 75 k)) 241 (va_up ((va_up (va_up (fun _ _ => 0) 38 (fun k => if k < 60 then (-1) else (fun _ _ => 0) 38 k)) 75 (fun k => if k < 60 then (-1) else (va_up (fun _ _ => 0) 38 (fun k => if k < 60 then (-1) else (fun _ _ => 0) 38 k)) 75 k)) 241) 1 50)) 241 (va_up ((va_up (va_up (va_up (fun _ _ => 0) 38 (fun k => if k < 60 then (-1) else (fun _ _ => 0) 38 k)) 75 (fun k => if k < 60 then (-1) else (va_up (fun _ _ => 0) 38 (fun k => if k < 60 then (-1) else (fun _ _ => 0) 38 k)) 75 k)) 241 (va_up ((va_up (va_up (fun _ _ => 0) 38 (fun k => if k < 60 then (-1) else (fun _ _ => 0) 38 k)) 75 (fun k => if k < 60 then (-1) else (va_up (fun _ _ => 0) 38 (fun k => if k < 60 then (-1) else (fun _ _ => 0) 38 k)) 75 k)) 241) 1 50)) 241) 2 200)) 243 (fun k => if 9582 ≤ k ∧ k < 9642 then (-1) else 0))) := by
  unfold f_X12_init
  refine rn_t (cb_o 242 12 hc rfl) ?_
  rw [cb_nx hc]
  refine cb_arr 15642 hc rfl rfl (fun s1 hc => ?_)
  unfold f_X12_init_10
  refine cb_pP 242 12 0 243 hc rfl (by decide) (fun s2 hc => ?_)
  unfold f_X12_init_13
  rw [cb_nx hc]
  refine cb_arr 15642 hc rfl rfl (fun s3 hc => ?_)
  unfold f_X12_init_19
  refine cb_pP 242 12 1 244 hc rfl (by decide) (fun s4 hc => ?_)
  unfold f_X12_init_22
  rw [cb_nx hc]
  refine cb_arr 5 hc rfl rfl (fun s5 hc => ?_)
  unfold f_X12_init_26
  refine cb_pP 242 12 6 245 hc rfl (by decide) (fun s6 hc => ?_)
  unfold f_X12_init_29
  rw [cb_nx hc]
  refine cb_arr 8000 hc rfl rfl (fun s7 hc => ?_)
  unfold f_X12_init_35
  refine cb_pP 242 12 7 246 hc rfl (by decide) (fun s8 hc => ?_)
  unfold f_X12_init_38
  rw [cb_nx hc]
  refine cb_arr 3600 hc rfl rfl (fun s9 hc => ?_)
  unfold f_X12_init_44
  refine cb_pP 242 12 9 247 hc rfl (by decide) (fun s10 hc => ?_)
  unfold f_X12_init_47
  rw [cb_nx hc]
  refine cb_arr 400 hc rfl rfl (fun s11 hc => ?_)
  unfold f_X12_init_53
  refine cb_pP 242 12 11 248 hc rfl (by decide) (fun s12 hc => ?_)
  unfold f_X12_init_56
  rw [cb_nx hc]
  refine cb_arr 20 hc rfl rfl (fun s13 hc => ?_)
  unfold f_X12_init_61
  refine cb_pP 242 12 12 249 hc rfl (by decide) (fun s14 hc => ?_)
  unfold f_X12_init_64
  rw [cb_nx hc]
  refine cb_arr 20 hc rfl rfl (fun s15 hc => ?_)
  unfold f_X12_init_69
  refine cb_pP 242 12 13 250 hc rfl (by decide) (fun s16 hc => ?_)
  unfold f_X12_init_72
  rw [cb_nx hc]
  refine cb_arr 150 hc rfl rfl (fun s17 hc => ?_)
  unfold f_X12_init_78
  refine cb_pP 242 12 14 251 hc rfl (by decide) (fun s18 hc => ?_)
  unfold f_X12_init_81
  rw [cb_nx hc]
  refine cb_arr 60 hc rfl rfl (fun s19 hc => ?_)
  unfold f_X12_init_86
  refine cb_pP 242 12 15 252 hc rfl (by decide) (fun s20 hc => ?_)
  unfold f_X12_init_89
  rw [cb_nx hc]
  refine cb_arr 60 hc rfl rfl (fun s21 hc => ?_)
  unfold f_X12_init_94
  refine cb_pP 242 12 17 253 hc rfl (by decide) (fun s22 hc => ?_)
  unfold f_X12_init_97
  rw [cb_nx hc]
  refine cb_arr 16384 hc rfl rfl (fun s23 hc => ?_)
  unfold f_X12_init_103
  refine cb_pP 242 12 18 254 hc rfl (by decide) (fun s24 hc => ?_)
  unfold f_X12_init_106
  rw [cb_nx hc]
  refine cb_arr 30 hc rfl rfl (fun s25 hc => ?_)
  unfold f_X12_init_111
  refine cb_pP 242 12 22 255 hc rfl (by decide) (fun s26 hc => ?_)
  unfold f_X12_init_114
  rw [cb_nx hc]
  refine cb_arr 30 hc rfl rfl (fun s27 hc => ?_)
  unfold f_X12_init_119
  refine cb_pP 242 12 23 256 hc rfl (by decide) (fun s28 hc => ?_)
  unfold f_X12_init_122
  rw [cb_nx hc]
  refine cb_arr 2000 hc rfl rfl (fun s29 hc => ?_)
  unfold f_X12_init_128
  refine cb_pP 242 12 25 257 hc rfl (by decide) (fun s30 hc => ?_)
  unfold f_X12_init_131
  rw [cb_nx hc]
  refine cb_arr 2000 hc rfl rfl (fun s31 hc => ?_)
  unfold f_X12_init_137
  refine cb_pP 242 12 26 258 hc rfl (by decide) (fun s32 hc => ?_)
  unfold f_X12_init_140
  rw [cb_nx hc]
  refine cb_arr 2000 hc rfl rfl (fun s33 hc => ?_)
  unfold f_X12_init_146
  refine cb_pP 242 12 27 259 hc rfl (by decide) (fun s34 hc => ?_)
  unfold f_X12_init_149
  rw [cb_nx hc]
  refine cb_arr 150 hc rfl rfl (fun s35 hc => ?_)
  unfold f_X12_init_155
  refine cb_pP 242 12 28 260 hc rfl (by decide) (fun s36 hc => ?_)
  unfold f_X12_init_158
  rw [cb_nx hc]
  refine cb_arr 12 hc rfl rfl (fun s37 hc => ?_)
  unfold f_X12_init_163
  refine cb_pP 242 12 29 261 hc rfl (by decide) (fun s38 hc => ?_)
  unfold f_X12_init_166
  rw [cb_nx hc]
  refine cb_arr 12 hc rfl rfl (fun s39 hc => ?_)
  unfold f_X12_init_171
  refine cb_pP 242 12 30 262 hc rfl (by decide) (fun s40 hc => ?_)
  unfold f_X12_init_174
  rw [cb_nx hc]
  refine cb_arr 12 hc rfl rfl (fun s41 hc => ?_)
  unfold f_X12_init_179
  refine cb_pP 242 12 31 263 hc rfl (by decide) (fun s42 hc => ?_)
  unfold f_X12_init_182
  refine cb_partner (by decide) rfl 60 0 _ _ rfl (by omega) ?_
  exact cb_zero hc (funext fun k => Eq.trans (b := (0 : Int32)) rfl (if_neg (by omega)).symm)
/-- the constructors have run: the start of the law's loop -/
def RS0 : List (Nat × Nat) := [(223, 4), (203, 14), (140, 60), (78, 60), (69, 4), (58, 9), (53, 3), (42, 9), (32, 4), (21, 9), (16, 3), (5, 9)]
def QS0 : List (Nat × Nat × Nat) := [(235, 11, 241), (235, 10, 241), (235, 9, 241), (235, 8, 241), (235, 7, 241), (235, 6, 241), (235, 5, 241), (235, 4, 241), (235, 3, 241), (235, 2, 241), (235, 1, 241), (235, 0, 241), (0, 11, 240), (201, 6, 218), (40, 7, 76), (3, 7, 39)]
def FI0 : Nat → Nat → Int32 := (va_up (va_up (va_up (va_up (va_up (fun _ _ => 0) 38 (fun k => if k < 60 then (-1) else (fun _ _ => 0) 38 k)) 75 (fun k => if k < 60 then (-1) else (va_up (fun _ _ => 0) 38 (fun k => if k < 60 then (-1) else (fun _ _ => 0) 38 k)) 75 k)) 241 (va_up ((va_up (va_up (fun _ _ => 0) 38 (fun k => if k < 60 then (-1) else (fun _ _ => 0) 38 k)) 75 (fun k => if k < 60 then (-1) else (va_up (fun _ _ => 0) 38 (fun k => if k < 60 then (-1) else (fun _ _ => 0) 38 k)) 75 k)) 241) 1 50)) 241 (va_up ((va_up (va_up (va_up (fun _ _ => 0) 38 (fun k => if k < 60 then (-1) else (fun _ _ => 0) 38 k)) 75 (fun k => if k < 60 then (-1) else (va_up (fun _ _ => 0) 38 (fun k => if k < 60 then (-1) else (fun _ _ => 0) 38 k)) 75 k)) 241 (va_up ((va_up (va_up (fun _ _ => 0) 38 (fun k => if k < 60 then (-1) else (fun _ _ => 0) 38 k)) 75 (fun k => if k < 60 then (-1) else (va_up (fun _ _ => 0) 38 (fun k => if k < 60 then (-1) else (fun _ _ => 0) 38 k)) 75 k)) 241) 1 50)) 241) 2 200)) 243 (fun k => if 9582 ≤ k ∧ k < 9642 then (-1) else 0))
theorem ct_all {M z : Nat} : Rn ((f_X11_init (M + 200) z (nObj (as0 z) 11)).bind fun s => (f_X12_init (M + 200) (z + 242) (nObj (s.1, s.2) 12))) (fun s => CB s z 264 75638 [(242, 31, 263), (242, 30, 262), (242, 29, 261), (242, 28, 260), (242, 27, 259), (242, 26, 258), (242, 25, 257), (242, 23, 256), (242, 22, 255), (242, 18, 254), (242, 17, 253), (242, 15, 252), (242, 14, 251), (242, 13, 250), (242, 12, 249), (242, 11, 248), (242, 9, 247), (242, 7, 246), (242, 6, 245), (242, 1, 244), (242, 0, 243), (241, 0, 1), (0, 10, 239), (0, 9, 238), (0, 8, 237), (0, 7, 236), (0, 6, 235), (0, 5, 221), (221, 2, 201), (221, 1, 77), (221, 0, 3), (221, 11, 234), (221, 10, 233), (221, 9, 232), (221, 7, 231), (221, 6, 230), (221, 5, 229), (221, 4, 228), (221, 3, 222), (222, 0, 223), (0, 4, 201), (201, 1, 77), (201, 0, 3), (201, 9, 220), (201, 8, 219), (201, 5, 203), (201, 2, 202), (0, 3, 77), (77, 0, 3), (77, 3, 140), (77, 2, 139), (77, 1, 78), (0, 2, 40), (40, 6, 75), (40, 5, 74), (40, 4, 68), (68, 0, 69), (40, 3, 57), (57, 0, 58), (40, 2, 52), (52, 0, 53), (40, 1, 41), (41, 0, 42), (0, 1, 3), (3, 6, 38), (3, 5, 37), (3, 4, 31), (31, 0, 32), (3, 3, 20), (20, 0, 21), (3, 2, 15), (15, 0, 16), (3, 1, 4), (4, 0, 5), (0, 0, 1), (1, 0, 2)] RS0 QS0 FI0) := by
  refine rn_bind (ct_X11_init_0 (cb_obj 11 cb_0 rfl)) (fun s hc => ?_)
  exact ct_X12_init_0 (cb_obj 12 hc rfl)
