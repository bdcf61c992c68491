/-! ODD CROSSINGS are even in number and joined; the reference's pairs, whole -/
section PPU
variable {sh : Sh} {d d0 d' : Dt} {z : Nat} {R : Nat → Int32} {N a b u v n m k i c p q x S : Nat} {T T' : Nat → Nat} {f g : Nat → Nat}
theorem adj_edge (hW : WS R) (hN : WN R) (hB : BW R) (hO : OPT R T) (h : adj R T u v) : ∃ s, edge R s u v := by
  obtain ⟨s, h1, h2, h3⟩ := h
  have o := hO s h1 h2
  have b := hB s h1 o
  obtain ⟨e7, -, e8, -, -⟩ := ws_e hW hN h1
  rcases h3 with ⟨q1, q2⟩ | ⟨q1, q2⟩
  · exact ⟨s, h1, o, Or.inl ⟨by rw [e7, q1], by rw [e8, q2]⟩⟩
  · exact ⟨s, h1, o, Or.inr ⟨b, by rw [e8, q2], by rw [e7, q1]⟩⟩
theorem rchN_wk (hW : WS R) (hN : WN R) (hB : BW R) (hO : OPT R T) : ∀ (k u v : Nat), rchN R T k u v → ∃ p, wk R p u v
  | 0, u, v, h => ⟨[], h⟩
  | k + 1, u, v, h => by
    obtain ⟨w, h1, h2⟩ := h
    obtain ⟨p, hp⟩ := rchN_wk hW hN hB hO k w v h2
    obtain ⟨s, hs⟩ := adj_edge hW hN hB hO h1
    exact ⟨s :: p, w, (adj_lt hW hN h1).2, hs, hp⟩
theorem wk_dst {p : List Nat} (h : wk R p u v) : ∃ n, dst R u v n := by
  obtain ⟨m, h1, h2⟩ := least_ex (P := fun n => ∃ p, wk R p u v ∧ wln R p = n) (wln R p) (wln R p) (Nat.le_refl _) ⟨p, h, rfl⟩
  exact ⟨m, h1, fun p' hp' => h2 _ ⟨p', hp', rfl⟩⟩
theorem rch_dst (hW : WS R) (hN : WN R) (hB : BW R) (hO : OPT R T) (h : rch R T u v) : ∃ n, dst R u v n := by
  obtain ⟨k, hk⟩ := h
  obtain ⟨p, hp⟩ := rchN_wk hW hN hB hO k u v hk
  exact wk_dst hp
theorem rk_le (hW : WS R) : ∀ (k u n : Nat), rk R b k u → dst R u b n → n ≤ 10000 * k
  | 0, u, n, h, hd => by
    have h : u = b := h
    subst h
    have := dst_fun hd dst_b
    omega
  | k + 1, u, n, h, hd => by
    rcases h with h | ⟨-, h1, h2⟩
    · subst h
      have := dst_fun hd dst_b
      omega
    · obtain ⟨⟨c1, c2, n1, m1, e1, e2, e3⟩, -⟩ := h1
      have e := dst_fun hd e1
      have ih := rk_le hW k _ m1 h2 e2
      have := (edge_sln hW c2).2
      omega
theorem dst_le6 (hW : WS R) (hN : WN R) (h : dst R u b n) : n ≤ 600000 := rk_le hW 60 u n (rk_60 hW hN h) h
theorem rch_sy (h : rch R T u v) : rch R T v u := rch_cl (P := fun x => rch R T x u) (fun a b ha hu => rch_tr (rch_step rch_rf (adj_sy ha)) hu) h rch_rf
theorem dg_pos : ∀ k, 0 < dgT R T c k → ∃ s, s < k ∧ (eA R s = c ∨ eB R s = c) ∧ 0 < T s
  | 0, h => absurd h (Nat.lt_irrefl 0)
  | k + 1, h => by
    have h : 0 < dgT R T c k + if eA R k = c ∨ eB R k = c then T k else 0 := h
    by_cases h1 : 0 < dgT R T c k
    · obtain ⟨s, q1, q2⟩ := dg_pos k h1
      exact ⟨s, by omega, q2⟩
    · by_cases h2 : eA R k = c ∨ eB R k = c
      · rw [if_pos h2] at h
        exact ⟨k, by omega, h2, by omega⟩
      · rw [if_neg h2] at h
        omega
theorem oddl_P (hW : WS R) (hN : WN R) : oddl R = oddP R (T0 R) (nn R 0) := by
  have n0 := hN.1.2
  unfold oddl oddP
  refine List.filter_congr (fun c hc => ?_)
  have hc := List.mem_range.mp hc
  rw [dg_T0 hW hN (by omega) _ (Nat.le_refl _)]
theorem inO_rch (hW : WS R) (hN : WN R) (hp : ∀ s, T s % 2 = T0 R s % 2) (hC : conn R T 0) (hx : inO R x) : rch R T 0 x := by
  obtain ⟨i, hi, rfl⟩ := hx
  have hm : oC R i ∈ oddl R := by
    unfold oC
    rw [List.getD_eq_getElem?_getD, List.getElem?_eq_getElem hi]
    exact List.getElem_mem hi
  rw [oddl_P hW hN, ← oddP_par hp] at hm
  have hodd := (List.mem_filter.mp hm).2
  have hodd : dgT R T (oC R i) (nn R 1) % 2 = 1 := of_decide_eq_true hodd
  obtain ⟨s, q1, q2, q3⟩ := dg_pos (nn R 1) (show 0 < dgT R T (oC R i) (nn R 1) by omega)
  have r := hC s q1 q3
  rcases q2 with e | e
  · rw [← e]
    exact r
  · rw [← e]
    exact rch_step r ⟨s, q1, q3, Or.inl ⟨rfl, rfl⟩⟩
theorem gf_of (hW : WS R) (hN : WN R) (hB : BW R) (hO : OPT R T) (hp : ∀ s, T s % 2 = T0 R s % 2) (hC : conn R T 0) : GF R := fun i j hi hj => by
  have r1 := inO_rch hW hN hp hC ⟨i, hi, rfl⟩
  have r2 := inO_rch hW hN hp hC ⟨j, hj, rfl⟩
  obtain ⟨n, hd⟩ := rch_dst hW hN hB hO (rch_tr (rch_sy r1) r2)
  show dd R (oC R i) (oC R j) ≤ 600000
  rw [dd_eq hd]
  exact dst_le6 hW hN hd
theorem inO_dst (hW : WS R) (hN : WN R) (hB : BW R) (hO : OPT R T) (hp : ∀ s, T s % 2 = T0 R s % 2) (hC : conn R T 0) (hx : inO R u) (hy : inO R v) : ∃ n, dst R u v n :=
  rch_dst hW hN hB hO (rch_tr (rch_sy (inO_rch hW hN hp hC hx)) (inO_rch hW hN hp hC hy))
/-! the handshake -/
theorem smN_add : ∀ n, smN (fun c => f c + g c) n = smN f n + smN g n
  | 0 => rfl
  | n + 1 => by
    show smN (fun c => f c + g c) n + (f n + g n) = smN f n + f n + (smN g n + g n)
    rw [smN_add n]
    omega
theorem smN_two {t : Nat} (h : a ≠ b) : ∀ n, smN (fun c => if a = c ∨ b = c then t else 0) n = (if a < n then t else 0) + if b < n then t else 0
  | 0 => by
    rw [if_neg (Nat.not_lt_zero a), if_neg (Nat.not_lt_zero b)]
    rfl
  | n + 1 => by
    show smN (fun c => if a = c ∨ b = c then t else 0) n + (if a = n ∨ b = n then t else 0) = _
    rw [smN_two h n]
    split <;> split <;> split <;> split <;> split <;> omega
theorem smN_0f : ∀ n, smN (fun _ => 0) n = 0
  | 0 => rfl
  | n + 1 => smN_0f n
theorem dg_sum (hW : WS R) (hN : WN R) : ∀ k, k ≤ nn R 1 → smN (fun c => dgT R T c k) (nn R 0) % 2 = 0
  | 0, _ => by
    show smN (fun _ => 0) (nn R 0) % 2 = 0
    rw [smN_0f]
  | k + 1, hk => by
    have ih := dg_sum hW hN k (by omega)
    obtain ⟨-, a2, -, b2, hne⟩ := ws_e hW hN (s := k) (by omega)
    show smN (fun c => dgT R T c k + if eA R k = c ∨ eB R k = c then T k else 0) (nn R 0) % 2 = 0
    rw [smN_add (f := fun c => dgT R T c k) (g := fun c => if eA R k = c ∨ eB R k = c then T k else 0), smN_two hne, if_pos a2, if_pos b2]
    omega
theorem odd_par : ∀ i, (oddP R T i).length % 2 = smN (fun c => dgT R T c (nn R 1)) i % 2
  | 0 => rfl
  | i + 1 => by
    have ih := odd_par i
    rw [oddP_s, List.length_append]
    show _ = (smN (fun c => dgT R T c (nn R 1)) i + dgT R T i (nn R 1)) % 2
    by_cases h : dgT R T i (nn R 1) % 2 = 1
    · rw [if_pos h]
      show ((oddP R T i).length + 1) % 2 = _
      omega
    · rw [if_neg h]
      show ((oddP R T i).length + 0) % 2 = _
      omega
theorem oddl_even (hW : WS R) (hN : WN R) : (oddl R).length % 2 = 0 := by
  rw [oddl_P hW hN, odd_par]
  exact dg_sum hW hN _ (Nat.le_refl _)
theorem pc_full : ∀ k, k ≤ m → pcN (2 ^ m - 1) k = k
  | 0, _ => rfl
  | k + 1, hk => by
    show pcN (2 ^ m - 1) k + (if (2 ^ m - 1).testBit k = true then 1 else 0) = k + 1
    rw [pc_full k (by omega), Nat.testBit_two_pow_sub_one, if_pos (by rw [decide_eq_true_iff]; omega)]
/-! all pairs -/
noncomputable def pairsL (R : Nat → Int32) : List (Nat × Nat) := if (oddl R).length ≤ 14 then prX R 7 (2 ^ (oddl R).length - 1) else (List.range ((oddl R).length / 2)).map (exN R ((oddl R).length / 2) 1000 (P0 R))
def PRo (d : Dt) (z : Nat) (R : Nat → Int32) : Prop := d.1 (z + 242) 21 = nI (pairsL R).length ∧ PA d (z + 255) (z + 256) (pairsL R)
theorem sub_full (hS : S < 2 ^ m) : subS S (2 ^ m - 1) := fun j hj => by
  rw [Nat.testBit_two_pow_sub_one, decide_eq_true_iff]
  rcases Nat.lt_or_ge j m with h | h
  · exact h
  · rw [Nat.testBit_lt_two_pow (Nat.lt_of_lt_of_le hS (Nat.pow_le_pow_right (by decide) h))] at hj
    exact absurd hj (by decide)
theorem m_pairsLeast (hN1 : 20000 ≤ N) (hK : KS sh z) (hN : WN R) (hW : WS R) (hR : RCx d z R) (hO : ODr d z R) (hm : (oddl R).length ≤ 14) (hG : GF R) (h21 : d.1 (z + 242) 21 = 0) : Rn (f_X12_pairsLeast N sh (z + 242) d) (fun d' => QF z d d' ∧ PRo d' z R) := by
  have hb : 2 ^ (oddl R).length ≤ 2 ^ 14 := Nat.pow_le_pow_right (by decide) hm
  have hp := Nat.two_pow_pos (oddl R).length
  unfold f_X12_pairsLeast
  refine rn_t (ks_o hK 242 12 rfl) ?_
  refine r_gI hK (i := 242) (c := 12) rfl ?_
  have e1 : ((1 : Int32) <<< (d.1 (z + 242) 16 &&& 31)) - 1 = nI (2 ^ (oddl R).length - 1) := by
    rw [hO.1, sb_pow (by omega), show nI (2 ^ (oddl R).length) = nI ((2 ^ (oddl R).length - 1) + 1) from congrArg nI (by omega), nI_pred]
  rw [e1]
  refine rn_bind (m_findLeast hN1 hK hN hW hR hO hm (by omega)) (fun d1 h1 => ?_)
  obtain ⟨k1, k2⟩ := h1
  refine rn_mono (pl_loop hN1 hK hN hW (k1.rc hR) (k1.od hO) hm hG 7 N (2 ^ (oddl R).length - 1) d1 [] (by omega) (by omega) ?_ ?_ (by decide) QF.rf (fun S' hS' => ?_) ?_ (fun k hk => absurd hk (Nat.not_lt_zero k))) (fun d2 h2 => ?_)
  · rw [pc_full _ (Nat.le_refl _)]
    exact oddl_even hW hN
  · rw [pc_full _ (Nat.le_refl _)]
    exact hm
  · exact k2 S' (by omega) (sub_full (by omega))
  · rw [k1.2 (z + 242) (by omega)]
    exact h21
  · obtain ⟨q1, q2, q3, q4⟩ := h2
    have e : pairsL R = [] ++ prX R 7 (2 ^ (oddl R).length - 1) := if_pos hm
    refine ⟨k1.qf.tr q1, ?_, ?_⟩
    · rw [e]
      exact q2
    · rw [e]
      exact q3
theorem m_pairsInOrder (hN1 : 2000 ≤ N) (hK : KS sh z) (hN : WN R) (hW : WS R) (hR : RCx d z R) (hO : ODr d z R) (hm : ¬ (oddl R).length ≤ 14) (hG : GF R) (h20 : d.1 (z + 242) 20 = 0) (h21 : d.1 (z + 242) 21 = 0) : Rn (f_X12_pairsInOrder N sh (z + 242) d) (fun d' => QF z d d' ∧ PRo d' z R) := by
  have hl := oddl_len hW hN
  have he := oddl_even hW hN
  have e : pairsL R = (List.range ((oddl R).length / 2)).map (exN R ((oddl R).length / 2) 1000 (P0 R)) := if_neg hm
  have el : (pairsL R).length = (oddl R).length / 2 := by rw [e, List.length_map, List.length_range]
  unfold f_X12_pairsInOrder
  refine rn_t (ks_o hK 242 12 rfl) ?_
  refine rn_mono (io_loop (n := (oddl R).length / 2) hN1 hK hN hW hG hR hO (by omega) (by omega) ((oddl R).length / 2) 0 N d (by omega) (by omega) QF.rf h20 ⟨h21, fun k hk => absurd hk (Nat.not_lt_zero k)⟩) (fun d2 h2 => ?_)
  obtain ⟨q1, q2, q3⟩ := h2
  refine ⟨q1, by rw [el]; exact q2, fun k hk => ?_⟩
  have hk2 : k < (oddl R).length / 2 := by rw [← el]; exact hk
  have eg : (pairsL R).getD k (0, 0) = exN R ((oddl R).length / 2) 1000 (P0 R) k := by
    rw [e, List.getD_eq_getElem?_getD, List.getElem?_map, List.getElem?_range hk2]
    rfl
  rw [eg]
  exact q3 k hk2
end PPU
