/-! 40.b0.lean.txt -/
/-! the pure part: what the functions do. The 264 cells that the two constructors make: kinds, lengths, final references -/
def cTl : List Nat := [21, 12, 0, 11, 18, 5, 0, 0, 0, 0, 0, 0, 0, 0, 0, 18, 5, 0, 0, 0, 18, 5, 0, 0, 0, 0, 0, 0, 0, 0, 0, 18, 5, 0, 0, 0, 0, 0, 0, 1, 11, 18, 5, 0, 0, 0, 0, 0, 0, 0, 0, 0, 18, 5, 0, 0, 0, 18, 5, 0, 0, 0, 0, 0, 0, 0, 0, 0, 18, 5, 0, 0, 0, 0, 0, 0, 1, 20, 5, 0, 0, 0, 0, 0, 0, 0, 0, 0, 0, 0, 0, 0, 0, 0, 0, 0, 0, 0, 0, 0, 0, 0, 0, 0, 0, 0, 0, 0, 0, 0, 0, 0, 0, 0, 0, 0, 0, 0, 0, 0, 0, 0, 0, 0, 0, 0, 0, 0, 0, 0, 0, 0, 0, 0, 0, 0, 0, 0, 0, 1, 5, 0, 0, 0, 0, 0, 0, 0, 0, 0, 0, 0, 0, 0, 0, 0, 0, 0, 0, 0, 0, 0, 0, 0, 0, 0, 0, 0, 0, 0, 0, 0, 0, 0, 0, 0, 0, 0, 0, 0, 0, 0, 0, 0, 0, 0, 0, 0, 0, 0, 0, 0, 0, 0, 0, 0, 0, 0, 0, 0, 0, 14, 0, 5, 0, 0, 0, 0, 0, 0, 0, 0, 0, 0, 0, 0, 0, 0, 0, 0, 0, 15, 18, 5, 0, 0, 0, 0, 0, 0, 0, 0, 0, 0, 1, 6, 2, 0, 0, 0, 3, 16, 22, 0, 0, 0, 3, 0, 0, 4, 2, 0, 0, 4, 0, 0, 0, 0, 0, 0, 0, 0, 0, 0]
def cLl : List Nat := [0, 0, 5, 0, 0, 9, 16, 16, 16, 16, 16, 16, 16, 16, 16, 0, 3, 4, 4, 4, 0, 9, 4, 4, 4, 4, 4, 4, 4, 4, 4, 0, 4, 16, 16, 16, 16, 7, 60, 0, 0, 0, 9, 16, 16, 16, 16, 16, 16, 16, 16, 16, 0, 3, 4, 4, 4, 0, 9, 4, 4, 4, 4, 4, 4, 4, 4, 4, 0, 4, 16, 16, 16, 16, 7, 60, 0, 0, 60, 60, 60, 60, 60, 60, 60, 60, 60, 60, 60, 60, 60, 60, 60, 60, 60, 60, 60, 60, 60, 60, 60, 60, 60, 60, 60, 60, 60, 60, 60, 60, 60, 60, 60, 60, 60, 60, 60, 60, 60, 60, 60, 60, 60, 60, 60, 60, 60, 60, 60, 60, 60, 60, 60, 60, 60, 60, 60, 60, 60, 60, 60, 60, 60, 60, 60, 60, 60, 60, 60, 60, 60, 60, 60, 60, 60, 60, 60, 60, 60, 60, 60, 60, 60, 60, 60, 60, 60, 60, 60, 60, 60, 60, 60, 60, 60, 60, 60, 60, 60, 60, 60, 60, 60, 60, 60, 60, 60, 60, 60, 60, 60, 60, 60, 60, 60, 60, 60, 60, 60, 60, 60, 0, 60, 14, 14, 14, 14, 14, 14, 14, 14, 14, 14, 14, 14, 14, 14, 14, 1, 30, 30, 0, 0, 4, 16, 16, 16, 16, 7, 60, 150, 150, 150, 150, 60, 12, 20, 12, 12, 12, 16, 0, 0, 15642, 15642, 5, 8000, 3600, 400, 20, 20, 150, 60, 60, 16384, 30, 30, 2000, 2000, 2000, 150, 12, 12, 12]
def cPt : List (Nat × Nat × Nat) := [(0, 0, 1), (0, 1, 3), (0, 2, 40), (0, 3, 77), (0, 4, 201), (0, 5, 221), (0, 6, 235), (0, 7, 236), (0, 8, 237), (0, 9, 238), (0, 10, 239), (1, 0, 2), (3, 1, 4), (3, 2, 15), (3, 3, 20), (3, 4, 31), (3, 5, 37), (3, 6, 38), (4, 0, 5), (15, 0, 16), (20, 0, 21), (31, 0, 32), (40, 1, 41), (40, 2, 52), (40, 3, 57), (40, 4, 68), (40, 5, 74), (40, 6, 75), (41, 0, 42), (52, 0, 53), (57, 0, 58), (68, 0, 69), (77, 0, 3), (77, 1, 78), (77, 2, 139), (77, 3, 140), (201, 0, 3), (201, 1, 77), (201, 2, 202), (201, 5, 203), (201, 8, 219), (201, 9, 220), (221, 0, 3), (221, 1, 77), (221, 2, 201), (221, 3, 222), (221, 4, 228), (221, 5, 229), (221, 6, 230), (221, 7, 231), (221, 9, 232), (221, 10, 233), (221, 11, 234), (222, 0, 223), (241, 0, 1), (242, 0, 243), (242, 1, 244), (242, 6, 245), (242, 7, 246), (242, 9, 247), (242, 11, 248), (242, 12, 249), (242, 13, 250), (242, 14, 251), (242, 15, 252), (242, 17, 253), (242, 18, 254), (242, 22, 255), (242, 23, 256), (242, 25, 257), (242, 26, 258), (242, 27, 259), (242, 28, 260), (242, 29, 261), (242, 30, 262), (242, 31, 263)]
/-- the static shape stands from z on -/
def KS (sh : Sh) (z : Nat) : Prop := sh.1.1 = z ∧ z + 264 ≤ sh.1.2.1 ∧ (∀ i, i < 264 → sh.2.1 (z + i) = cTl.getD i 99 ∧ sh.2.2.1 (z + i) = cLl.getD i 0) ∧ (∀ q ∈ cPt, sh.2.2.2 (z + q.1) q.2.1 = some (z + q.2.2))
/-- it runs, to an end with Q -/
def Rn {α : Type} (o : Option α) (Q : α → Prop) : Prop := ∃ r, o = some r ∧ Q r
section RN
variable {α β : Type} {Q : β → Prop} {g : α → Option β}
theorem rn_some {r : β} (h : Q r) : Rn (some r) Q := ⟨r, rfl, h⟩
theorem rn_bind {o : Option α} {P : α → Prop} (h : Rn o P) (k : ∀ v, P v → Rn (g v) Q) : Rn (o.bind g) Q := by
  obtain ⟨v, rfl, hv⟩ := h
  exact k v hv
theorem rn_eq {o : Option α} {v : α} (e : o = some v) (k : Rn (g v) Q) : Rn (o.bind g) Q := by
  rw [e]
  exact k
theorem rn_ite {c : Prop} {q : Decidable c} {a b : Option β} (h1 : c → Rn a Q) (h2 : ¬ c → Rn b Q) : Rn (@ite _ c q a b) Q := by
  by_cases hc : c
  · rw [if_pos hc]
    exact h1 hc
  · rw [if_neg hc]
    exact h2 hc
theorem rn_t {c : Prop} {q : Decidable c} {a b : Option β} (hc : c) (h : Rn a Q) : Rn (@ite _ c q a b) Q := by
  rw [if_pos hc]
  exact h
theorem rn_f {c : Prop} {q : Decidable c} {a b : Option β} (hc : ¬ c) (h : Rn b Q) : Rn (@ite _ c q a b) Q := by
  rw [if_neg hc]
  exact h
theorem rn_mono {o : Option β} {P : β → Prop} (h : Rn o P) (k : ∀ v, P v → Q v) : Rn o Q := by
  obtain ⟨v, e, hv⟩ := h
  exact ⟨v, e, k v hv⟩
end RN
def wI (d : Dt) (a k : Nat) (v : Int32) : Dt := (up2 d.1 a k v, d.2)
def wJ (d : Dt) (a k : Nat) (v : Int64) : Dt := (d.1, up2 d.2.1 a k v, d.2.2)
def wF (d : Dt) (a k : Nat) (v : UInt32) : Dt := (d.1, d.2.1, up2 d.2.2.1 a k v, d.2.2.2)
def wQ (d : Dt) (a k : Nat) (v : Nat) : Dt := (d.1, d.2.1, d.2.2.1, up2 d.2.2.2 a k (some v))
theorem wI_s {d : Dt} {a k : Nat} {v : Int32} : (wI d a k v).1 a = va_up (d.1 a) k v := up2_s
theorem wI_n {d : Dt} {a b k : Nat} {v : Int32} (h : b ≠ a) : (wI d a k v).1 b = d.1 b := up2_n h
theorem wI_r {d : Dt} {a k : Nat} {v : Int32} : (wI d a k v).2 = d.2 := rfl
section KS
variable {β : Type} {Q : β → Prop} {sh : Sh} {d : Dt} {z : Nat}
theorem ks_o (h : KS sh z) (i c : Nat) (hc : (Nat.blt i 264 && Nat.beq (cTl.getD i 99) (10 + c)) = true) : isO sh (z + i) c := by
  rw [Bool.and_eq_true] at hc
  have hi : i < 264 := Nat.le_of_ble_eq_true hc.1
  have hk := Nat.eq_of_beq_eq_true hc.2
  have := h.1
  have := h.2.1
  exact ⟨by omega, by omega, Or.inl (by rw [(h.2.2.1 i hi).1, hk])⟩
theorem ks_a (h : KS sh z) (i t n : Nat) (hc : (Nat.blt i 264 && (Nat.beq (cTl.getD i 99) t && Nat.beq (cLl.getD i 0) n)) = true) : isA sh (z + i) t ∧ sh.2.2.1 (z + i) = n := by
  rw [Bool.and_eq_true, Bool.and_eq_true] at hc
  have hi : i < 264 := Nat.le_of_ble_eq_true hc.1
  have hk := Nat.eq_of_beq_eq_true hc.2.1
  have hn := Nat.eq_of_beq_eq_true hc.2.2
  have := h.1
  have := h.2.1
  exact ⟨⟨by omega, by omega, by rw [(h.2.2.1 i hi).1, hk]⟩, by rw [(h.2.2.1 i hi).2, hn]⟩
theorem ks_gP (h : KS sh z) (i c k v : Nat) (hc : (Nat.blt i 264 && Nat.beq (cTl.getD i 99) (10 + c)) = true) (hq : (i, k, v) ∈ cPt) : gP sh (z + i) c k = some (z + v) := by
  unfold gP
  rw [if_pos (ks_o h i c hc)]
  exact h.2.2.2 (i, k, v) hq
theorem r_gP {g : Nat → Option β} (h : KS sh z) (i c k v : Nat) (hc : (Nat.blt i 264 && Nat.beq (cTl.getD i 99) (10 + c)) = true) (hq : (i, k, v) ∈ cPt) (kk : Rn (g (z + v)) Q) : Rn ((gP sh (z + i) c k).bind g) Q := rn_eq (ks_gP h i c k v hc hq) kk
theorem r_gI {g : Int32 → Option β} (h : KS sh z) {i c k : Nat} (hc : (Nat.blt i 264 && Nat.beq (cTl.getD i 99) (10 + c)) = true) (kk : Rn (g (d.1 (z + i) k)) Q) : Rn ((gI sh d (z + i) c k).bind g) Q := rn_eq (by unfold gI; rw [if_pos (ks_o h i c hc)]) kk
theorem r_gJ {g : Int64 → Option β} (h : KS sh z) {i c k : Nat} (hc : (Nat.blt i 264 && Nat.beq (cTl.getD i 99) (10 + c)) = true) (kk : Rn (g (d.2.1 (z + i) k)) Q) : Rn ((gJ sh d (z + i) c k).bind g) Q := rn_eq (by unfold gJ; rw [if_pos (ks_o h i c hc)]) kk
theorem r_gQ {g : Nat → Option β} (h : KS sh z) {i c k : Nat} (v : Nat) (hv : d.2.2.2 (z + i) k = some v) (hc : (Nat.blt i 264 && Nat.beq (cTl.getD i 99) (10 + c)) = true) (kk : Rn (g v) Q) : Rn ((gQ sh d (z + i) c k).bind g) Q := rn_eq (by unfold gQ; rw [if_pos (ks_o h i c hc), hv]) kk
theorem r_pI {g : Dt → Option β} (h : KS sh z) {i c k : Nat} {v : Int32} (hc : (Nat.blt i 264 && Nat.beq (cTl.getD i 99) (10 + c)) = true) (kk : Rn (g (wI d (z + i) k v)) Q) : Rn ((pI sh d (z + i) c k v).bind g) Q := rn_eq (by unfold pI; rw [if_pos (ks_o h i c hc)]; rfl) kk
theorem r_pJ {g : Dt → Option β} (h : KS sh z) {i c k : Nat} {v : Int64} (hc : (Nat.blt i 264 && Nat.beq (cTl.getD i 99) (10 + c)) = true) (kk : Rn (g (wJ d (z + i) k v)) Q) : Rn ((pJ sh d (z + i) c k v).bind g) Q := rn_eq (by unfold pJ; rw [if_pos (ks_o h i c hc)]; rfl) kk
theorem r_pQ {g : Dt → Option β} (h : KS sh z) {i c k v : Nat} (hc : (Nat.blt i 264 && Nat.beq (cTl.getD i 99) (10 + c)) = true) (kk : Rn (g (wQ d (z + i) k v)) Q) : Rn ((pQ sh d (z + i) c k v).bind g) Q := rn_eq (by unfold pQ; rw [if_pos (ks_o h i c hc)]; rfl) kk
end KS
section AR
variable {β : Type} {Q : β → Prop} {sh : Sh} {d : Dt} {a n : Nat}
theorem in_of {x : Int32} {j n : Nat} (hx : x = nI j) (hj : j < n) (hn : n < 2 ^ 31) : inA x n ∧ x.toNatClampNeg = j := by
  rw [hx]
  exact ⟨nI_in hj hn, nI_clamp (by omega)⟩
theorem q_aT {t : Nat} {x : Int32} (ha : isA sh a t ∧ sh.2.2.1 a = n) (j : Nat) (hx : x = nI j) (hj : j < n) (hn : n < 2 ^ 31) : aT t sh d a x = some (d.1 a j) := by
  obtain ⟨h1, h2⟩ := in_of hx hj hn
  unfold aT
  rw [ha.2, if_pos ⟨ha.1, h1⟩, h2]
theorem q_aJ {x : Int32} (ha : isA sh a 1 ∧ sh.2.2.1 a = n) (j : Nat) (hx : x = nI j) (hj : j < n) (hn : n < 2 ^ 31) : aJ sh d a x = some (d.2.1 a j) := by
  obtain ⟨h1, h2⟩ := in_of hx hj hn
  unfold aJ
  rw [ha.2, if_pos ⟨ha.1, h1⟩, h2]
theorem q_aF {x : Int32} (ha : isA sh a 2 ∧ sh.2.2.1 a = n) (j : Nat) (hx : x = nI j) (hj : j < n) (hn : n < 2 ^ 31) : aF sh d a x = some (d.2.2.1 a j) := by
  obtain ⟨h1, h2⟩ := in_of hx hj hn
  unfold aF
  rw [ha.2, if_pos ⟨ha.1, h1⟩, h2]
theorem q_aQ {t : Nat} {x : Int32} (ha : isA sh a t ∧ sh.2.2.1 a = n) (j v : Nat) (hx : x = nI j) (hj : j < n) (hn : n < 2 ^ 31) (hv : d.2.2.2 a j = some v) : aQ t sh d a x = some v := by
  obtain ⟨h1, h2⟩ := in_of hx hj hn
  unfold aQ
  rw [ha.2, if_pos ⟨ha.1, h1⟩, h2, hv]
theorem q_sI {x v : Int32} (ha : isA sh a 0 ∧ sh.2.2.1 a = n) (j : Nat) (hx : x = nI j) (hj : j < n) (hn : n < 2 ^ 31) : sI sh d a x v = some (wI d a j v) := by
  obtain ⟨h1, h2⟩ := in_of hx hj hn
  unfold sI
  rw [ha.2, if_pos ⟨ha.1, h1⟩, h2]
  rfl
theorem q_sC {x v : Int32} (ha : isA sh a 3 ∧ sh.2.2.1 a = n) (j : Nat) (hx : x = nI j) (hj : j < n) (hn : n < 2 ^ 31) : sC sh d a x v = some (wI d a j (vp_nar .char v)) := by
  obtain ⟨h1, h2⟩ := in_of hx hj hn
  unfold sC
  rw [ha.2, if_pos ⟨ha.1, h1⟩, h2]
  rfl
theorem q_sZ {x v : Int32} (ha : isA sh a 4 ∧ sh.2.2.1 a = n) (j : Nat) (hx : x = nI j) (hj : j < n) (hn : n < 2 ^ 31) : sZ sh d a x v = some (wI d a j (vp_nar .boolean v)) := by
  obtain ⟨h1, h2⟩ := in_of hx hj hn
  unfold sZ
  rw [ha.2, if_pos ⟨ha.1, h1⟩, h2]
  rfl
theorem q_sJ {x : Int32} {v : Int64} (ha : isA sh a 1 ∧ sh.2.2.1 a = n) (j : Nat) (hx : x = nI j) (hj : j < n) (hn : n < 2 ^ 31) : sJ sh d a x v = some (wJ d a j v) := by
  obtain ⟨h1, h2⟩ := in_of hx hj hn
  unfold sJ
  rw [ha.2, if_pos ⟨ha.1, h1⟩, h2]
  rfl
theorem q_sF {x : Int32} {v : UInt32} (ha : isA sh a 2 ∧ sh.2.2.1 a = n) (j : Nat) (hx : x = nI j) (hj : j < n) (hn : n < 2 ^ 31) : sF sh d a x v = some (wF d a j v) := by
  obtain ⟨h1, h2⟩ := in_of hx hj hn
  unfold sF
  rw [ha.2, if_pos ⟨ha.1, h1⟩, h2]
  rfl
theorem q_len {t : Nat} (ha : isA sh a t ∧ sh.2.2.1 a = n) (ht : t < 7) : aLen sh a = some (nI n) := by
  unfold aLen
  rw [if_pos ⟨ha.1.1, ha.1.2.1, by rw [ha.1.2.2]; exact ht⟩, ha.2]
  rfl
end AR
/-! 41.b1.lean.txt -/
/-! what stands while the constructors run: k cells made, w slots; ps: final references set, rs: spines of new grids, qs: other references, fi: the ints -/
def CB (s : AS) (z k w : Nat) (ps : List (Nat × Nat × Nat)) (rs : List (Nat × Nat)) (qs : List (Nat × Nat × Nat)) (fi : Nat → Nat → Int32) : Prop :=
  s.1.1 = (z, z + k, w) ∧ (∀ i, i < k → s.1.2.1 (z + i) = cTl.getD i 99 ∧ s.1.2.2.1 (z + i) = cLl.getD i 0) ∧ (∀ q ∈ ps, q.1 < k ∧ s.1.2.2.2 (z + q.1) q.2.1 = some (z + q.2.2)) ∧ (∀ r ∈ rs, r.1 < k ∧ ∀ c, c < r.2 → s.2.2.2.2 (z + r.1) c = some (z + (r.1 + 1 + c))) ∧ (∀ q ∈ qs, q.1 < k ∧ s.2.2.2.2 (z + q.1) q.2.1 = some (z + q.2.2)) ∧ (∀ i, i < k → s.2.1 (z + i) = fi i ∧ s.2.2.1 (z + i) = (fun _ => 0) ∧ s.2.2.2.1 (z + i) = fun _ => 0) ∧ (∀ i, k ≤ i → fi i = fun _ => 0)
section CBS
variable {β : Type} {Q : β → Prop} {s : AS} {z k w : Nat} {ps : List (Nat × Nat × Nat)} {rs : List (Nat × Nat)} {qs : List (Nat × Nat × Nat)} {fi : Nat → Nat → Int32}
theorem cb_0 : CB (as0 z) z 0 0 [] [] [] (fun _ _ => 0) := by
  refine ⟨rfl, fun i h => absurd h (Nat.not_lt_zero i), fun q h => absurd h List.not_mem_nil, fun q h => absurd h List.not_mem_nil, fun q h => absurd h List.not_mem_nil, fun i h => absurd h (Nat.not_lt_zero i), fun i _ => rfl⟩
/-- a new cell -/
theorem cb_push {t n m : Nat} (h : CB s z k w ps rs qs fi) (ht : cTl.getD k 99 = t) (hn : cLl.getD k 0 = n) : CB (push s t n m) z (k + 1) (w + m) ps rs qs fi := by
  obtain ⟨h1, h2, h3, h4, h5, h6, h7⟩ := h
  have e : s.1.1.2.1 = z + k := by rw [h1]
  have e1 : s.1.1.1 = z := by rw [h1]
  have e2 : s.1.1.2.2 = w := by rw [h1]
  have ne : ∀ i, i < k → z + i ≠ s.1.1.2.1 := fun i hi => by omega
  refine ⟨by show (s.1.1.1, s.1.1.2.1 + 1, s.1.1.2.2 + m) = _; rw [e1, e, e2]; rfl, fun i hi => ?_, fun q hq => ?_, fun r hr => ?_, fun q hq => ?_, fun i hi => ?_, fun i hi => h7 i (by omega)⟩
  · show va_up s.1.2.1 s.1.1.2.1 t (z + i) = _ ∧ va_up s.1.2.2.1 s.1.1.2.1 n (z + i) = _
    rcases Nat.lt_or_ge i k with q | q
    · rw [va_up_n (ne i q), va_up_n (ne i q)]
      exact h2 i q
    · have ei : i = k := by omega
      subst ei
      rw [← e, va_up_s, va_up_s, ht, hn]
      exact ⟨rfl, rfl⟩
  · have q1 := (h3 q hq).1
    refine ⟨by omega, ?_⟩
    show va_up s.1.2.2.2 s.1.1.2.1 _ (z + q.1) q.2.1 = _
    rw [va_up_n (ne _ q1)]
    exact (h3 q hq).2
  · have q1 := (h4 r hr).1
    refine ⟨by omega, fun c hc => ?_⟩
    show va_up s.2.2.2.2 s.1.1.2.1 _ (z + r.1) c = _
    rw [va_up_n (ne _ q1)]
    exact (h4 r hr).2 c hc
  · have q1 := (h5 q hq).1
    refine ⟨by omega, ?_⟩
    show va_up s.2.2.2.2 s.1.1.2.1 _ (z + q.1) q.2.1 = _
    rw [va_up_n (ne _ q1)]
    exact (h5 q hq).2
  · show va_up s.2.1 s.1.1.2.1 (fun _ => 0) (z + i) = _ ∧ va_up s.2.2.1 s.1.1.2.1 (fun _ => 0) (z + i) = _ ∧ va_up s.2.2.2.1 s.1.1.2.1 (fun _ => 0) (z + i) = _
    rcases Nat.lt_or_ge i k with q | q
    · rw [va_up_n (ne i q), va_up_n (ne i q), va_up_n (ne i q)]
      exact h6 i q
    · have ei : i = k := by omega
      subst ei
      rw [← e, va_up_s, va_up_s, va_up_s, h7 i (Nat.le_refl _)]
      exact ⟨rfl, rfl, rfl⟩
theorem cb_obj (c : Nat) (h : CB s z k w ps rs qs fi) (ht : (Nat.beq (cTl.getD k 99) (10 + c) && Nat.beq (cLl.getD k 0) 0) = true) : CB (nObj (s.1, s.2) c) z (k + 1) (w + (lay c).length) ps rs qs fi := by
  rw [Bool.and_eq_true] at ht
  exact cb_push h (Nat.eq_of_beq_eq_true ht.1) (Nat.eq_of_beq_eq_true ht.2)
theorem cb_arr {t : Nat} {n : Int32} {g : AS → Option β} (L : Nat) (h : CB s z k w ps rs qs fi) (hn : n = nI L) (ht : (Nat.beq (cTl.getD k 99) t && (Nat.beq (cLl.getD k 0) L && Nat.blt L (2 ^ 20))) = true) (kk : ∀ s', CB s' z (k + 1) (w + L) ps rs qs fi → Rn (g s') Q) : Rn ((nArr (s.1, s.2) t n).bind g) Q := by
  rw [Bool.and_eq_true, Bool.and_eq_true] at ht
  have hL : L < 2 ^ 20 := Nat.le_of_ble_eq_true ht.2.2
  subst hn
  refine rn_eq (v := push s t L L) ?_ (kk _ (cb_push h (Nat.eq_of_beq_eq_true ht.1) (Nat.eq_of_beq_eq_true ht.2.1)))
  unfold nArr
  rw [nI_clamp (by omega), if_pos ⟨nI_pos (by omega), hL⟩]
theorem cb_mul {n m : Int32} {g : AS → Option β} (N K : Nat) (h : CB s z k w ps rs qs fi) (hn : n = nI N) (hm : m = nI K) (ht : (Nat.beq (cTl.getD k 99) 5 && (Nat.beq (cLl.getD k 0) N && (Nat.blt N (2 ^ 20) && (Nat.blt K (2 ^ 20) && (List.range N).all (fun j => Nat.beq (cTl.getD (k + 1 + j) 99) 0 && Nat.beq (cLl.getD (k + 1 + j) 0) K))))) = true) (kk : ∀ s', CB s' z (k + 1 + N) (w + (N + N * K)) ps ((k, N) :: rs) qs fi → Rn (g s') Q) : Rn ((nMul (s.1, s.2) n m).bind g) Q := by
  rw [Bool.and_eq_true, Bool.and_eq_true, Bool.and_eq_true, Bool.and_eq_true] at ht
  have hN : N < 2 ^ 20 := Nat.le_of_ble_eq_true ht.2.2.1
  have hK : K < 2 ^ 20 := Nat.le_of_ble_eq_true ht.2.2.2.1
  have hall := List.all_eq_true.mp ht.2.2.2.2
  have hT := Nat.eq_of_beq_eq_true ht.1
  have hL := Nat.eq_of_beq_eq_true ht.2.1
  subst hn
  subst hm
  refine rn_eq (v := mul s N K) ?_ (kk _ ?_)
  · unfold nMul
    rw [nI_clamp (by omega), nI_clamp (by omega), if_pos ⟨nI_pos (by omega), nI_pos (by omega), hN, hK⟩]
  obtain ⟨h1, h2, h3, h4, h5, h6, h7⟩ := h
  have e : s.1.1.2.1 = z + k := by rw [h1]
  have e1 : s.1.1.1 = z := by rw [h1]
  have e2 : s.1.1.2.2 = w := by rw [h1]
  refine ⟨by show (s.1.1.1, s.1.1.2.1 + 1 + N, s.1.1.2.2 + (N + N * K)) = _; rw [e1, e, e2]; simp [Nat.add_assoc], fun i hi => ?_, fun q hq => ?_, fun r hr => ?_, fun q hq => ?_, fun i hi => ?_, fun i hi => h7 i (by omega)⟩
  · show (if z + i < s.1.1.2.1 then s.1.2.1 (z + i) else if z + i = s.1.1.2.1 then 5 else 0) = _ ∧ (if z + i < s.1.1.2.1 then s.1.2.2.1 (z + i) else if z + i = s.1.1.2.1 then N else K) = _
    rw [e]
    rcases Nat.lt_or_ge i k with q | q
    · rw [if_pos (by omega), if_pos (by omega)]
      exact h2 i q
    · have n1 : ¬ z + i < z + k := by omega
      simp only [if_neg n1]
      rcases Nat.lt_or_ge k i with q2 | q2
      · have n2 : ¬ z + i = z + k := by omega
        simp only [if_neg n2]
        have hj := hall (i - (k + 1)) (List.mem_range.mpr (by omega))
        rw [Bool.and_eq_true] at hj
        have ei : k + 1 + (i - (k + 1)) = i := by omega
        rw [ei] at hj
        exact ⟨(Nat.eq_of_beq_eq_true hj.1).symm, (Nat.eq_of_beq_eq_true hj.2).symm⟩
      · have ei : i = k := by omega
        subst ei
        rw [if_pos rfl, if_pos rfl]
        exact ⟨hT.symm, hL.symm⟩
  · have q1 := (h3 q hq).1
    refine ⟨by omega, ?_⟩
    show (if z + q.1 < s.1.1.2.1 then s.1.2.2.2 (z + q.1) else fun _ => none) q.2.1 = _
    rw [if_pos (by omega)]
    exact (h3 q hq).2
  · rcases List.mem_cons.mp hr with rfl | hr
    · refine ⟨by omega, fun c hc => ?_⟩
      show (if z + k < s.1.1.2.1 then s.2.2.2.2 (z + k) else if z + k = s.1.1.2.1 then fun i => if i < N then some (s.1.1.2.1 + 1 + i) else none else fun _ => none) c = _
      rw [e, if_neg (by omega), if_pos rfl]
      show (if c < N then some (z + k + 1 + c) else none) = _
      rw [if_pos hc]
      simp [Nat.add_assoc]
    · have q1 := (h4 r hr).1
      refine ⟨by omega, fun c hc => ?_⟩
      show (if z + r.1 < s.1.1.2.1 then s.2.2.2.2 (z + r.1) else _) c = _
      rw [if_pos (by omega)]
      exact (h4 r hr).2 c hc
  · have q1 := (h5 q hq).1
    refine ⟨by omega, ?_⟩
    show (if z + q.1 < s.1.1.2.1 then s.2.2.2.2 (z + q.1) else _) q.2.1 = _
    rw [if_pos (by omega)]
    exact (h5 q hq).2
  · show (if z + i < s.1.1.2.1 then s.2.1 (z + i) else fun _ => 0) = _ ∧ (if z + i < s.1.1.2.1 then s.2.2.1 (z + i) else fun _ => 0) = _ ∧ (if z + i < s.1.1.2.1 then s.2.2.2.1 (z + i) else fun _ => 0) = _
    rw [e]
    rcases Nat.lt_or_ge i k with q | q
    · rw [if_pos (by omega), if_pos (by omega), if_pos (by omega)]
      exact h6 i q
    · rw [if_neg (by omega), if_neg (by omega), if_neg (by omega), h7 i q]
      exact ⟨rfl, rfl, rfl⟩
theorem cb_o (i c : Nat) (h : CB s z k w ps rs qs fi) (hc : (Nat.blt i k && Nat.beq (cTl.getD i 99) (10 + c)) = true) : isO s.1 (z + i) c := by
  rw [Bool.and_eq_true] at hc
  have hi : i < k := Nat.le_of_ble_eq_true hc.1
  refine ⟨by rw [h.1]; show z ≤ z + i; omega, by rw [h.1]; show z + i < z + k; omega, Or.inl (by rw [(h.2.1 i hi).1, Nat.eq_of_beq_eq_true hc.2])⟩
theorem cb_a (i t n : Nat) (h : CB s z k w ps rs qs fi) (hc : (Nat.blt i k && (Nat.beq (cTl.getD i 99) t && Nat.beq (cLl.getD i 0) n)) = true) : isA s.1 (z + i) t ∧ s.1.2.2.1 (z + i) = n := by
  rw [Bool.and_eq_true, Bool.and_eq_true] at hc
  have hi : i < k := Nat.le_of_ble_eq_true hc.1
  exact ⟨⟨by rw [h.1]; show z ≤ z + i; omega, by rw [h.1]; show z + i < z + k; omega, by rw [(h.2.1 i hi).1, Nat.eq_of_beq_eq_true hc.2.1]⟩, by rw [(h.2.1 i hi).2, Nat.eq_of_beq_eq_true hc.2.2]⟩
theorem cb_gP {sh : Sh} {d : Dt} {g : Nat → Option β} (i c f v : Nat) (h : CB (sh, d) z k w ps rs qs fi) (hc : (Nat.blt i k && Nat.beq (cTl.getD i 99) (10 + c)) = true) (hq : (i, f, v) ∈ ps) (kk : Rn (g (z + v)) Q) : Rn ((gP sh (z + i) c f).bind g) Q := rn_eq (by unfold gP; rw [if_pos (cb_o i c h hc)]; exact (h.2.2.1 _ hq).2) kk
theorem cb_pP {g : AS → Option β} (i c f v : Nat) (h : CB s z k w ps rs qs fi) (hc : (Nat.blt i k && Nat.beq (cTl.getD i 99) (10 + c)) = true) (hq : ps.all (fun q => !(Nat.beq q.1 i && Nat.beq q.2.1 f)) = true) (kk : ∀ s', CB s' z k w ((i, f, v) :: ps) rs qs fi → Rn (g s') Q) : Rn ((pP (s.1, s.2) (z + i) c f (z + v)).bind g) Q := by
  refine rn_eq (v := ((s.1.1, s.1.2.1, s.1.2.2.1, up2 s.1.2.2.2 (z + i) f (some (z + v))), s.2)) (by unfold pP; rw [if_pos (cb_o i c h hc)]) (kk _ ?_)
  rw [Bool.and_eq_true] at hc
  have hi : i < k := Nat.le_of_ble_eq_true hc.1
  obtain ⟨h1, h2, h3, h4, h5, h6, h7⟩ := h
  refine ⟨h1, h2, fun q hq9 => ?_, h4, h5, h6, h7⟩
  show q.1 < k ∧ up2 s.1.2.2.2 (z + i) f (some (z + v)) (z + q.1) q.2.1 = _
  rcases List.mem_cons.mp hq9 with rfl | hq9
  · refine ⟨hi, ?_⟩
    show up2 s.1.2.2.2 (z + i) f (some (z + v)) (z + i) f = some (z + v)
    rw [up2_s]
    exact va_up_s
  · have q1 := h3 q hq9
    refine ⟨q1.1, ?_⟩
    have q2 := List.all_eq_true.mp hq q hq9
    by_cases e : q.1 = i
    · rw [e, up2_s, va_up_n, ← e]
      · exact q1.2
      · intro e2
        simp [e, e2] at q2
    · rw [up2_n (by omega)]
      exact q1.2
theorem cb_pQ {g : Dt → Option β} (i c f v : Nat) (h : CB s z k w ps rs qs fi) (hc : (Nat.blt i k && Nat.beq (cTl.getD i 99) (10 + c)) = true) (hr : rs.all (fun r => !(Nat.beq r.1 i)) = true) (hq : qs.all (fun q => !(Nat.beq q.1 i && Nat.beq q.2.1 f)) = true) (kk : ∀ d', CB (s.1, d') z k w ps rs ((i, f, v) :: qs) fi → Rn (g d') Q) : Rn ((pQ s.1 s.2 (z + i) c f (z + v)).bind g) Q := by
  refine rn_eq (v := wQ s.2 (z + i) f (z + v)) (by unfold pQ; rw [if_pos (cb_o i c h hc)]; rfl) (kk _ ?_)
  rw [Bool.and_eq_true] at hc
  have hi : i < k := Nat.le_of_ble_eq_true hc.1
  obtain ⟨h1, h2, h3, h4, h5, h6, h7⟩ := h
  refine ⟨h1, h2, h3, fun r hr9 => ?_, fun q hq9 => ?_, h6, h7⟩
  · have q1 := h4 r hr9
    refine ⟨q1.1, fun c9 hc9 => ?_⟩
    have q2 := List.all_eq_true.mp hr r hr9
    show up2 s.2.2.2.2 (z + i) f (some (z + v)) (z + r.1) c9 = _
    rw [up2_n]
    · exact q1.2 c9 hc9
    · intro e
      have e : r.1 = i := by omega
      simp [e] at q2
  · show q.1 < k ∧ up2 s.2.2.2.2 (z + i) f (some (z + v)) (z + q.1) q.2.1 = _
    rcases List.mem_cons.mp hq9 with rfl | hq9
    · refine ⟨hi, ?_⟩
      show up2 s.2.2.2.2 (z + i) f (some (z + v)) (z + i) f = some (z + v)
      rw [up2_s]
      exact va_up_s
    · have q1 := h5 q hq9
      refine ⟨q1.1, ?_⟩
      have q2 := List.all_eq_true.mp hq q hq9
      by_cases e : q.1 = i
      · rw [e, up2_s, va_up_n, ← e]
        · exact q1.2
        · intro e2
          simp [e, e2] at q2
      · rw [up2_n (by omega)]
        exact q1.2
/-- the ints of one cell change -/
theorem cb_ints {f : Nat → Int32} (i : Nat) (h : CB s z k w ps rs qs fi) (hi : i < k) : CB (s.1, (va_up s.2.1 (z + i) f, s.2.2)) z k w ps rs qs (va_up fi i f) := by
  obtain ⟨h1, h2, h3, h4, h5, h6, h7⟩ := h
  refine ⟨h1, h2, h3, h4, h5, fun j hj => ?_, fun j hj => ?_⟩
  · show va_up s.2.1 (z + i) f (z + j) = va_up fi i f j ∧ _
    by_cases e : j = i
    · subst e
      rw [va_up_s, va_up_s]
      exact ⟨rfl, (h6 j hj).2⟩
    · rw [va_up_n e, va_up_n (by omega)]
      exact h6 j hj
  · rw [va_up_n (by omega)]
    exact h7 j hj
theorem cb_pI {g : Dt → Option β} {v : Int32} (i c f : Nat) (h : CB s z k w ps rs qs fi) (hc : (Nat.blt i k && Nat.beq (cTl.getD i 99) (10 + c)) = true) (kk : ∀ d', CB (s.1, d') z k w ps rs qs (va_up fi i (va_up (fi i) f v)) → Rn (g d') Q) : Rn ((pI s.1 s.2 (z + i) c f v).bind g) Q := by
  refine rn_eq (v := wI s.2 (z + i) f v) (by unfold pI; rw [if_pos (cb_o i c h hc)]; rfl) (kk _ ?_)
  rw [Bool.and_eq_true] at hc
  have hi : i < k := Nat.le_of_ble_eq_true hc.1
  have e := (h.2.2.2.2.2.1 i hi).1
  have := cb_ints (f := va_up (fi i) f v) i h hi
  rw [← e] at this ⊢
  exact this
/-- a 0 where a 0 stood -/
theorem cb_pI0 {g : Dt → Option β} (i c f : Nat) (h : CB s z k w ps rs qs fi) (hc : (Nat.blt i k && Nat.beq (cTl.getD i 99) (10 + c)) = true) (h0 : fi i = fun _ => 0) (kk : ∀ d', CB (s.1, d') z k w ps rs qs fi → Rn (g d') Q) : Rn ((pI s.1 s.2 (z + i) c f 0).bind g) Q := by
  refine cb_pI i c f h hc (fun d' hd => kk d' ?_)
  have e : va_up fi i (va_up (fi i) f 0) = fi := by
    funext j
    by_cases ej : j = i
    · subst ej
      rw [va_up_s, h0]
      funext x
      unfold va_up
      split <;> rfl
    · exact va_up_n ej
  rw [e] at hd
  exact hd
theorem cb_pJ0 {g : Dt → Option β} (i c f : Nat) (h : CB s z k w ps rs qs fi) (hc : (Nat.blt i k && Nat.beq (cTl.getD i 99) (10 + c)) = true) (kk : ∀ d', CB (s.1, d') z k w ps rs qs fi → Rn (g d') Q) : Rn ((pJ s.1 s.2 (z + i) c f 0).bind g) Q := by
  refine rn_eq (v := wJ s.2 (z + i) f 0) (by unfold pJ; rw [if_pos (cb_o i c h hc)]; rfl) (kk _ ?_)
  rw [Bool.and_eq_true] at hc
  have hi : i < k := Nat.le_of_ble_eq_true hc.1
  obtain ⟨h1, h2, h3, h4, h5, h6, h7⟩ := h
  refine ⟨h1, h2, h3, h4, h5, fun j hj => ⟨(h6 j hj).1, ?_, (h6 j hj).2.2⟩, h7⟩
  show up2 s.2.2.1 (z + i) f 0 (z + j) = _
  by_cases e : j = i
  · subst e
    rw [up2_s, (h6 j hj).2.1]
    funext x
    unfold va_up
    split <;> rfl
  · rw [up2_n (by omega)]
    exact (h6 j hj).2.1
end CBS
/-- Arrays.fill of ints -/
theorem fill_loop {N : Nat} {sh : Sh} {a n : Nat} {v : Int32} (ha : isA sh a 0 ∧ sh.2.2.1 a = n) (hn : n < 2 ^ 31) : ∀ (m i fu : Nat) (d : Dt), i + m = n → m < fu → f_J7_fill_53178_5 N sh fu a v (nI i) (nI n) d = some (va_up d.1 a (fun k => if i ≤ k ∧ k < n then v else d.1 a k), d.2)
  | 0, i, fu, d, hi, hf => by
    obtain ⟨fu, rfl⟩ : ∃ q, fu = q + 1 := ⟨fu - 1, by omega⟩
    show g_J7_fill_53178_5 N sh (f_J7_fill_53178_5 N sh fu) a v (nI i) (nI n) d = _
    unfold g_J7_fill_53178_5
    rw [if_pos (nI_le (a := n) (b := i) (by omega) (by omega))]
    show some d = _
    congr 1
    refine Prod.ext ?_ rfl
    funext b
    by_cases e : b = a
    · subst e
      show d.1 b = va_up d.1 b _ b
      rw [va_up_s]
      funext k
      rw [if_neg (by omega)]
    · show d.1 b = va_up d.1 a _ b
      rw [va_up_n e]
  | m + 1, i, fu, d, hi, hf => by
    obtain ⟨fu, rfl⟩ : ∃ q, fu = q + 1 := ⟨fu - 1, by omega⟩
    show g_J7_fill_53178_5 N sh (f_J7_fill_53178_5 N sh fu) a v (nI i) (nI n) d = _
    unfold g_J7_fill_53178_5
    rw [if_neg (nI_ge (by omega) hn), q_sI ha i rfl (by omega) hn]
    show f_J7_fill_53178_5 N sh fu a v (nI i + 1) (nI n) (wI d a i v) = _
    rw [nI_1, fill_loop ha hn m (i + 1) fu (wI d a i v) (by omega) (by omega)]
    congr 1
    refine Prod.ext ?_ rfl
    funext b
    by_cases e : b = a
    · subst e
      show va_up (wI d b i v).1 b _ b = va_up d.1 b _ b
      rw [va_up_s, va_up_s, wI_s]
      funext k
      by_cases h1 : k = i
      · subst h1
        rw [if_neg (by omega), if_pos (by omega), va_up_s]
      · rw [va_up_n h1]
        by_cases h2 : i ≤ k ∧ k < n
        · rw [if_pos (by omega), if_pos h2]
        · rw [if_neg (by omega), if_neg h2]
    · show va_up (wI d a i v).1 a _ b = va_up d.1 a _ b
      rw [va_up_n e, va_up_n e, wI_n e]
theorem fill_eq {N : Nat} {sh : Sh} {d : Dt} {a n : Nat} {v : Int32} (ha : isA sh a 0 ∧ sh.2.2.1 a = n) (hn : n < 2 ^ 31) (hN : n < N) : f_J7_fill_53178 N sh a v d = some (va_up d.1 a (fun k => if k < n then v else d.1 a k), d.2) := by
  unfold f_J7_fill_53178
  rw [q_len ha (by decide)]
  show f_J7_fill_53178_5 N sh N a v (nI 0) (nI n) d = _
  rw [fill_loop ha hn n 0 N d (by omega) hN]
  simp
/-! 42.ctor.lean.txt -/
section CT
variable {β : Type} {Q : β → Prop} {s : AS} {z k w : Nat} {ps : List (Nat × Nat × Nat)} {rs : List (Nat × Nat)} {qs : List (Nat × Nat × Nat)} {fi : Nat → Nat → Int32}
theorem cb_nx (h : CB s z k w ps rs qs fi) : s.1.1.2.1 = z + k := by rw [h.1]
theorem cb_fill {N : Nat} {v : Int32} {g : Dt → Option β} (i n : Nat) (h : CB s z k w ps rs qs fi) (hc : (Nat.blt i k && (Nat.beq (cTl.getD i 99) 0 && Nat.beq (cLl.getD i 0) n)) = true) (hn : n < 2 ^ 31) (hN : n < N) (kk : ∀ d', CB (s.1, d') z k w ps rs qs (va_up fi i (fun k => if k < n then v else fi i k)) → Rn (g d') Q) : Rn ((f_J7_fill_53178 N s.1 (z + i) v s.2).bind g) Q := by
  refine rn_eq (fill_eq (cb_a i 0 n h hc) hn hN) (kk _ ?_)
  rw [Bool.and_eq_true] at hc
  have hi : i < k := Nat.le_of_ble_eq_true hc.1
  have e := (h.2.2.2.2.2.1 i hi).1
  rw [e]
  exact cb_ints i h hi
theorem cb_sP {g : Dt → Option β} {x : Int32} (i n j v : Nat) (h : CB s z k w ps rs qs fi) (hc : (Nat.blt i k && (Nat.beq (cTl.getD i 99) 6 && Nat.beq (cLl.getD i 0) n)) = true) (hj : j < n ∧ n < 2 ^ 31) (hx : x = nI j) (hv : (Nat.blt v k && Nat.beq (cTl.getD v 99) (10 + 6)) = true) (hr : (rs.all (fun r => !(Nat.beq r.1 i)) && qs.all (fun q => !(Nat.beq q.1 i && Nat.beq q.2.1 j))) = true) (kk : ∀ d', CB (s.1, d') z k w ps rs ((i, j, v) :: qs) fi → Rn (g d') Q) : Rn ((sP s.1 s.2 (z + i) x (z + v)).bind g) Q := by
  have ha := cb_a i 6 n h hc
  have ho := cb_o v 6 h hv
  rw [Bool.and_eq_true] at hr
  obtain ⟨hr, hq⟩ := hr
  obtain ⟨e1, e2⟩ := in_of hx hj.1 hj.2
  refine rn_eq (v := wQ s.2 (z + i) j (z + v)) (by unfold sP; rw [ha.2, if_pos ⟨ha.1, e1, ho⟩, e2]; rfl) (kk _ ?_)
  rw [Bool.and_eq_true] at hc
  have hi : i < k := Nat.le_of_ble_eq_true hc.1
  obtain ⟨h1, h2, h3, h4, h5, h6, h7⟩ := h
  refine ⟨h1, h2, h3, fun r hr9 => ?_, fun q hq9 => ?_, h6, h7⟩
  · have q1 := h4 r hr9
    refine ⟨q1.1, fun c9 hc9 => ?_⟩
    have q2 := List.all_eq_true.mp hr r hr9
    show up2 s.2.2.2.2 (z + i) j (some (z + v)) (z + r.1) c9 = _
    rw [up2_n]
    · exact q1.2 c9 hc9
    · intro e
      have e : r.1 = i := by omega
      simp [e] at q2
  · show q.1 < k ∧ up2 s.2.2.2.2 (z + i) j (some (z + v)) (z + q.1) q.2.1 = _
    rcases List.mem_cons.mp hq9 with rfl | hq9
    · refine ⟨hi, ?_⟩
      show up2 s.2.2.2.2 (z + i) j (some (z + v)) (z + i) j = some (z + v)
      rw [up2_s]
      exact va_up_s
    · have q1 := h5 q hq9
      refine ⟨q1.1, ?_⟩
      have q2 := List.all_eq_true.mp hq q hq9
      by_cases e : q.1 = i
      · rw [e, up2_s, va_up_n, ← e]
        · exact q1.2
        · intro e2
          simp [e, e2] at q2
      · rw [up2_n (by omega)]
        exact q1.2
theorem u172 {N n l0 l1 : Nat} {l2 : Int32} {s : AS} : f_X11_init_172 N (n + 1) l0 l1 l2 s = g_X11_init_172 N (f_X11_init_172 N n) l0 l1 l2 s := rfl
/-- the row as it stands, written as a choice -/
theorem cb_zero {f : Nat → Int32} {i : Nat} (h : CB s z k w ps rs qs fi) (hf : fi i = f) : CB s z k w ps rs qs (va_up fi i f) := by
  have e : va_up fi i f = fi := by
    funext j
    by_cases ej : j = i
    · subst ej
      rw [va_up_s, hf]
    · exact va_up_n ej
  rw [e]
  exact h
theorem cb_partner {N : Nat} (hp : (242, 0, 243) ∈ ps) (hk : k = 264) : ∀ (m i fu : Nat) (s : AS), i + m = 60 → m < fu → CB s z k w ps rs qs (va_up fi 243 (fun k => if 9582 ≤ k ∧ k < 9582 + i then (-1) else 0)) → Rn (f_X12_init_184 N fu (z + 242) (nI i) s) (fun s => CB s z k w ps rs qs (va_up fi 243 (fun k => if 9582 ≤ k ∧ k < 9642 then (-1) else 0)))
  | 0, i, fu, s, hi, hf, hc => by
    obtain ⟨fu, rfl⟩ : ∃ q, fu = q + 1 := ⟨fu - 1, by omega⟩
    show Rn (g_X12_init_184 N (f_X12_init_184 N fu) (z + 242) (nI i) s) _
    unfold g_X12_init_184
    have e : i = 60 := by omega
    subst e
    refine rn_t (by decide) ?_
    exact rn_some hc
  | m + 1, i, fu, s, hi, hf, hc => by
    obtain ⟨fu, rfl⟩ : ∃ q, fu = q + 1 := ⟨fu - 1, by omega⟩
    show Rn (g_X12_init_184 N (f_X12_init_184 N fu) (z + 242) (nI i) s) _
    unfold g_X12_init_184
    refine rn_f (nI_ge (a := i) (b := 60) (by omega) (by decide)) ?_
    refine cb_gP 242 12 0 243 hc (by subst hk; rfl) hp ?_
    refine rn_eq (q_sI (cb_a 243 0 15642 hc (by subst hk; rfl)) (9582 + i) (nI_add 9582 i) (by omega) (by decide)) ?_
    rw [nI_1]
    refine cb_partner hp hk m (i + 1) fu _ (by omega) (by omega) ?_
    have e := (hc.2.2.2.2.2.1 243 (by omega)).1
    have h9 := cb_ints (f := va_up (s.2.1 (z + 243)) (9582 + i) (-1)) 243 hc (by omega)
    have e2 : va_up (va_up fi 243 (fun k => if 9582 ≤ k ∧ k < 9582 + i then (-1) else 0)) 243 (va_up (s.2.1 (z + 243)) (9582 + i) (-1)) = va_up fi 243 (fun k => if 9582 ≤ k ∧ k < 9582 + (i + 1) then (-1) else 0) := by
      funext j
      by_cases ej : j = 243
      · subst ej
        rw [va_up_s, va_up_s, e, va_up_s]
        funext x
        unfold va_up
        by_cases ex : x = 9582 + i
        · rw [if_pos ex, if_pos (by omega)]
        · rw [if_neg ex]
          show (if 9582 ≤ x ∧ x < 9582 + i then (-1 : Int32) else 0) = _
          by_cases h1 : 9582 ≤ x ∧ x < 9582 + i
          · rw [if_pos h1, if_pos (by omega)]
          · rw [if_neg h1, if_neg (by omega)]
      · rw [va_up_n ej, va_up_n ej, va_up_n ej]
    rw [e2] at h9
    exact h9
end CT
set_option maxRecDepth 20000 in
theorem ct_X2_init_0 {M z : Nat} {s : AS} (hc : CB s z 2 18 [] [] [] (fun _ _ => 0)) : Rn (f_X2_init (M + 200) (z + 1) (s.1, s.2)) (fun s => CB s z 3 23 [(1, 0, 2)] [] [] (fun _ _ => 0)) := by
  unfold f_X2_init
  refine rn_t (cb_o 1 2 hc rfl) ?_
  rw [cb_nx hc]
  refine cb_arr 5 hc rfl rfl (fun s1 hc => ?_)
  unfold f_X2_init_8
  refine cb_pP 1 2 0 2 hc rfl (by decide) (fun s2 hc => ?_)
  unfold f_X2_init_11
  refine cb_pI0 1 2 1 hc rfl rfl (fun d3 hc => ?_)
  refine cb_pI0 1 2 2 hc rfl rfl (fun d4 hc => ?_)
  refine cb_pI0 1 2 3 hc rfl rfl (fun d5 hc => ?_)
  exact rn_some hc
set_option maxRecDepth 20000 in
theorem ct_X8_init_0 {M z : Nat} {s : AS} (hc : CB s z 5 33 [(0, 0, 1), (1, 0, 2)] [] [] (fun _ _ => 0)) : Rn (f_X8_init (M + 200) (z + 4) (9 : Int32) (16 : Int32) (s.1, s.2)) (fun s => CB s z 15 186 [(4, 0, 5), (0, 0, 1), (1, 0, 2)] [(5, 9)] [] (fun _ _ => 0)) := by
  unfold f_X8_init
  refine rn_t (cb_o 4 8 hc rfl) ?_
  refine cb_pI0 4 8 1 hc rfl rfl (fun d1 hc => ?_)
  rw [cb_nx hc]
  refine cb_mul 9 16 hc rfl rfl (by decide) (fun s2 hc => ?_)
  unfold f_X8_init_16
  refine cb_pP 4 8 0 5 hc rfl (by decide) (fun s3 hc => ?_)
  unfold f_X8_init_19
  exact rn_some hc
set_option maxRecDepth 20000 in
theorem ct_X8_init_1 {M z : Nat} {s : AS} (hc : CB s z 16 188 [(3, 1, 4), (4, 0, 5), (0, 0, 1), (1, 0, 2)] [(5, 9)] [] (fun _ _ => 0)) : Rn (f_X8_init (M + 200) (z + 15) (3 : Int32) (4 : Int32) (s.1, s.2)) (fun s => CB s z 20 203 [(15, 0, 16), (3, 1, 4), (4, 0, 5), (0, 0, 1), (1, 0, 2)] [(16, 3), (5, 9)] [] (fun _ _ => 0)) := by
  unfold f_X8_init
  refine rn_t (cb_o 15 8 hc rfl) ?_
  refine cb_pI0 15 8 1 hc rfl rfl (fun d1 hc => ?_)
  rw [cb_nx hc]
  refine cb_mul 3 4 hc rfl rfl (by decide) (fun s2 hc => ?_)
  unfold f_X8_init_16
  refine cb_pP 15 8 0 16 hc rfl (by decide) (fun s3 hc => ?_)
  unfold f_X8_init_19
  exact rn_some hc
set_option maxRecDepth 20000 in
theorem ct_X8_init_2 {M z : Nat} {s : AS} (hc : CB s z 21 205 [(3, 2, 15), (15, 0, 16), (3, 1, 4), (4, 0, 5), (0, 0, 1), (1, 0, 2)] [(16, 3), (5, 9)] [] (fun _ _ => 0)) : Rn (f_X8_init (M + 200) (z + 20) (9 : Int32) (4 : Int32) (s.1, s.2)) (fun s => CB s z 31 250 [(20, 0, 21), (3, 2, 15), (15, 0, 16), (3, 1, 4), (4, 0, 5), (0, 0, 1), (1, 0, 2)] [(21, 9), (16, 3), (5, 9)] [] (fun _ _ => 0)) := by
  unfold f_X8_init
  refine rn_t (cb_o 20 8 hc rfl) ?_
  refine cb_pI0 20 8 1 hc rfl rfl (fun d1 hc => ?_)
  rw [cb_nx hc]
  refine cb_mul 9 4 hc rfl rfl (by decide) (fun s2 hc => ?_)
  unfold f_X8_init_16
  refine cb_pP 20 8 0 21 hc rfl (by decide) (fun s3 hc => ?_)
  unfold f_X8_init_19
  exact rn_some hc
set_option maxRecDepth 20000 in
theorem ct_X8_init_3 {M z : Nat} {s : AS} (hc : CB s z 32 252 [(3, 3, 20), (20, 0, 21), (3, 2, 15), (15, 0, 16), (3, 1, 4), (4, 0, 5), (0, 0, 1), (1, 0, 2)] [(21, 9), (16, 3), (5, 9)] [] (fun _ _ => 0)) : Rn (f_X8_init (M + 200) (z + 31) (4 : Int32) (16 : Int32) (s.1, s.2)) (fun s => CB s z 37 320 [(31, 0, 32), (3, 3, 20), (20, 0, 21), (3, 2, 15), (15, 0, 16), (3, 1, 4), (4, 0, 5), (0, 0, 1), (1, 0, 2)] [(32, 4), (21, 9), (16, 3), (5, 9)] [] (fun _ _ => 0)) := by
  unfold f_X8_init
  refine rn_t (cb_o 31 8 hc rfl) ?_
  refine cb_pI0 31 8 1 hc rfl rfl (fun d1 hc => ?_)
  rw [cb_nx hc]
  refine cb_mul 4 16 hc rfl rfl (by decide) (fun s2 hc => ?_)
  unfold f_X8_init_16
  refine cb_pP 31 8 0 32 hc rfl (by decide) (fun s3 hc => ?_)
  unfold f_X8_init_19
  exact rn_some hc
set_option maxRecDepth 20000 in
theorem ct_X1_init_0 {M z : Nat} {s : AS} (hc : CB s z 4 31 [(0, 0, 1), (1, 0, 2)] [] [] (fun _ _ => 0)) : Rn (f_X1_init (M + 200) (z + 3) (s.1, s.2)) (fun s => CB s z 40 387 [(3, 6, 38), (3, 5, 37), (3, 4, 31), (31, 0, 32), (3, 3, 20), (20, 0, 21), (3, 2, 15), (15, 0, 16), (3, 1, 4), (4, 0, 5), (0, 0, 1), (1, 0, 2)] [(32, 4), (21, 9), (16, 3), (5, 9)] [(3, 7, 39)] (va_up (fun _ _ => 0) 38 (fun k => if k < 60 then (-1) else (fun _ _ => 0) 38 k))) := by
  unfold f_X1_init
  refine rn_t (cb_o 3 1 hc rfl) ?_
  refine cb_pI0 3 1 0 hc rfl rfl (fun d1 hc => ?_)
  rw [cb_nx hc]
  have hc := cb_obj 8 hc rfl
  unfold f_X1_init_13
  refine rn_bind (ct_X8_init_0 hc) (fun s2 hc => ?_)
  unfold f_X1_init_21
  refine cb_pP 3 1 1 4 hc rfl (by decide) (fun s3 hc => ?_)
  unfold f_X1_init_24
  rw [cb_nx hc]
  have hc := cb_obj 8 hc rfl
  unfold f_X1_init_28
  refine rn_bind (ct_X8_init_1 hc) (fun s4 hc => ?_)
  unfold f_X1_init_34
  refine cb_pP 3 1 2 15 hc rfl (by decide) (fun s5 hc => ?_)
  unfold f_X1_init_37
  rw [cb_nx hc]
  have hc := cb_obj 8 hc rfl
  unfold f_X1_init_41
  refine rn_bind (ct_X8_init_2 hc) (fun s6 hc => ?_)
  unfold f_X1_init_48
  refine cb_pP 3 1 3 20 hc rfl (by decide) (fun s7 hc => ?_)
  unfold f_X1_init_51
  rw [cb_nx hc]
  have hc := cb_obj 8 hc rfl
  unfold f_X1_init_55
  refine rn_bind (ct_X8_init_3 hc) (fun s8 hc => ?_)
  unfold f_X1_init_62
  refine cb_pP 3 1 4 31 hc rfl (by decide) (fun s9 hc => ?_)
  unfold f_X1_init_65
  rw [cb_nx hc]
  refine cb_arr 7 hc rfl rfl (fun s10 hc => ?_)
  unfold f_X1_init_70
  refine cb_pP 3 1 5 37 hc rfl (by decide) (fun s11 hc => ?_)
  unfold f_X1_init_73
  rw [cb_nx hc]
  refine cb_arr 60 hc rfl rfl (fun s12 hc => ?_)
  unfold f_X1_init_78
  refine cb_pP 3 1 6 38 hc rfl (by decide) (fun s13 hc => ?_)
  unfold f_X1_init_81
  rw [cb_nx hc]
  refine cb_arr 0 hc rfl rfl (fun s14 hc => ?_)
  unfold f_X1_init_85
  refine cb_pQ 3 1 7 39 hc rfl (by decide) (by decide) (fun d15 hc => ?_)
  refine cb_gP 3 1 6 38 hc rfl (by decide) ?_
  refine cb_fill 38 60 hc rfl (by decide) (by omega) (fun d16 hc => ?_)
  exact rn_some hc
set_option maxRecDepth 20000 in
theorem ct_X8_init_4 {M z : Nat} {s : AS} (hc : CB s z 42 397 [(0, 1, 3), (3, 6, 38), (3, 5, 37), (3, 4, 31), (31, 0, 32), (3, 3, 20), (20, 0, 21), (3, 2, 15), (15, 0, 16), (3, 1, 4), (4, 0, 5), (0, 0, 1), (1, 0, 2)] [(32, 4), (21, 9), (16, 3), (5, 9)] [(3, 7, 39)] (va_up (fun _ _ => 0) 38 (fun k => if k < 60 then (-1) else (fun _ _ => 0) 38 k))) : Rn (f_X8_init (M + 200) (z + 41) (9 : Int32) (16 : Int32) (s.1, s.2)) (fun s => CB s z 52 550 [(41, 0, 42), (0, 1, 3), (3, 6, 38), (3, 5, 37), (3, 4, 31), (31, 0, 32), (3, 3, 20), (20, 0, 21), (3, 2, 15), (15, 0, 16), (3, 1, 4), (4, 0, 5), (0, 0, 1), (1, 0, 2)] [(42, 9), (32, 4), (21, 9), (16, 3), (5, 9)] [(3, 7, 39)] (va_up (fun _ _ => 0) 38 (fun k => if k < 60 then (-1) else (fun _ _ => 0) 38 k))) := by
  unfold f_X8_init
  refine rn_t (cb_o 41 8 hc rfl) ?_
  refine cb_pI0 41 8 1 hc rfl rfl (fun d1 hc => ?_)
  rw [cb_nx hc]
  refine cb_mul 9 16 hc rfl rfl (by decide) (fun s2 hc => ?_)
  unfold f_X8_init_16
  refine cb_pP 41 8 0 42 hc rfl (by decide) (fun s3 hc => ?_)
  unfold f_X8_init_19
  exact rn_some hc
set_option maxRecDepth 20000 in
theorem ct_X8_init_5 {M z : Nat} {s : AS} (hc : CB s z 53 552 [(40, 1, 41), (41, 0, 42), (0, 1, 3), (3, 6, 38), (3, 5, 37), (3, 4, 31), (31, 0, 32), (3, 3, 20), (20, 0, 21), (3, 2, 15), (15, 0, 16), (3, 1, 4), (4, 0, 5), (0, 0, 1), (1, 0, 2)] [(42, 9), (32, 4), (21, 9), (16, 3), (5, 9)] [(3, 7, 39)] (va_up (fun _ _ => 0) 38 (fun k => if k < 60 then (-1) else (fun _ _ => 0) 38 k))) : Rn (f_X8_init (M + 200) (z + 52) (3 : Int32) (4 : Int32) (s.1, s.2)) (fun s => CB s z 57 567 [(52, 0, 53), (40, 1, 41), (41, 0, 42), (0, 1, 3), (3, 6, 38), (3, 5, 37), (3, 4, 31), (31, 0, 32), (3, 3, 20), (20, 0, 21), (3, 2, 15), (15, 0, 16), (3, 1, 4), (4, 0, 5), (0, 0, 1), (1, 0, 2)] [(53, 3), (42, 9), (32, 4), (21, 9), (16, 3), (5, 9)] [(3, 7, 39)] (va_up (fun _ _ => 0) 38 (fun k => if k < 60 then (-1) else (fun _ _ => 0) 38 k))) := by
  unfold f_X8_init
  refine rn_t (cb_o 52 8 hc rfl) ?_
  refine cb_pI0 52 8 1 hc rfl rfl (fun d1 hc => ?_)
  rw [cb_nx hc]
  refine cb_mul 3 4 hc rfl rfl (by decide) (fun s2 hc => ?_)
  unfold f_X8_init_16
  refine cb_pP 52 8 0 53 hc rfl (by decide) (fun s3 hc => ?_)
  unfold f_X8_init_19
  exact rn_some hc
set_option maxRecDepth 20000 in
theorem ct_X8_init_6 {M z : Nat} {s : AS} (hc : CB s z 58 569 [(40, 2, 52), (52, 0, 53), (40, 1, 41), (41, 0, 42), (0, 1, 3), (3, 6, 38), (3, 5, 37), (3, 4, 31), (31, 0, 32), (3, 3, 20), (20, 0, 21), (3, 2, 15), (15, 0, 16), (3, 1, 4), (4, 0, 5), (0, 0, 1), (1, 0, 2)] [(53, 3), (42, 9), (32, 4), (21, 9), (16, 3), (5, 9)] [(3, 7, 39)] (va_up (fun _ _ => 0) 38 (fun k => if k < 60 then (-1) else (fun _ _ => 0) 38 k))) : Rn (f_X8_init (M + 200) (z + 57) (9 : Int32) (4 : Int32) (s.1, s.2)) (fun s => CB s z 68 614 [(57, 0, 58), (40, 2, 52), (52, 0, 53), (40, 1, 41), (41, 0, 42), (0, 1, 3), (3, 6, 38), (3, 5, 37), (3, 4, 31), (31, 0, 32), (3, 3, 20), (20, 0, 21), (3, 2, 15), (15, 0, 16), (3, 1, 4), (4, 0, 5), (0, 0, 1), (1, 0, 2)] [(58, 9), (53, 3), (42, 9), (32, 4), (21, 9), (16, 3), (5, 9)] [(3, 7, 39)] (va_up (fun _ _ => 0) 38 (fun k => if k < 60 then (-1) else (fun _ _ => 0) 38 k))) := by
  unfold f_X8_init
  refine rn_t (cb_o 57 8 hc rfl) ?_
  refine cb_pI0 57 8 1 hc rfl rfl (fun d1 hc => ?_)
  rw [cb_nx hc]
  refine cb_mul 9 4 hc rfl rfl (by decide) (fun s2 hc => ?_)
  unfold f_X8_init_16
  refine cb_pP 57 8 0 58 hc rfl (by decide) (fun s3 hc => ?_)
  unfold f_X8_init_19
  exact rn_some hc
set_option maxRecDepth 20000 in
theorem ct_X8_init_7 {M z : Nat} {s : AS} (hc : CB s z 69 616 [(40, 3, 57), (57, 0, 58), (40, 2, 52), (52, 0, 53), (40, 1, 41), (41, 0, 42), (0, 1, 3), (3, 6, 38), (3, 5, 37), (3, 4, 31), (31, 0, 32), (3, 3, 20), (20, 0, 21), (3, 2, 15), (15, 0, 16), (3, 1, 4), (4, 0, 5), (0, 0, 1), (1, 0, 2)] [(58, 9), (53, 3), (42, 9), (32, 4), (21, 9), (16, 3), (5, 9)] [(3, 7, 39)] (va_up (fun _ _ => 0) 38 (fun k => if k < 60 then (-1) else (fun _ _ => 0) 38 k))) : Rn (f_X8_init (M + 200) (z + 68) (4 : Int32) (16 : Int32) (s.1, s.2)) (fun s => CB s z 74 684 [(68, 0, 69), (40, 3, 57), (57, 0, 58), (40, 2, 52), (52, 0, 53), (40, 1, 41), (41, 0, 42), (0, 1, 3), (3, 6, 38), (3, 5, 37), (3, 4, 31), (31, 0, 32), (3, 3, 20), (20, 0, 21), (3, 2, 15), (15, 0, 16), (3, 1, 4), (4, 0, 5), (0, 0, 1), (1, 0, 2)] [(69, 4), (58, 9), (53, 3), (42, 9), (32, 4), (21, 9), (16, 3), (5, 9)] [(3, 7, 39)] (va_up (fun _ _ => 0) 38 (fun k => if k < 60 then (-1) else (fun _ _ => 0) 38 k))) := by
  unfold f_X8_init
  refine rn_t (cb_o 68 8 hc rfl) ?_
  refine cb_pI0 68 8 1 hc rfl rfl (fun d1 hc => ?_)
  rw [cb_nx hc]
  refine cb_mul 4 16 hc rfl rfl (by decide) (fun s2 hc => ?_)
  unfold f_X8_init_16
  refine cb_pP 68 8 0 69 hc rfl (by decide) (fun s3 hc => ?_)
  unfold f_X8_init_19
  exact rn_some hc
set_option maxRecDepth 20000 in
theorem ct_X1_init_1 {M z : Nat} {s : AS} (hc : CB s z 41 395 [(0, 1, 3), (3, 6, 38), (3, 5, 37), (3, 4, 31), (31, 0, 32), (3, 3, 20), (20, 0, 21), (3, 2, 15), (15, 0, 16), (3, 1, 4), (4, 0, 5), (0, 0, 1), (1, 0, 2)] [(32, 4), (21, 9), (16, 3), (5, 9)] [(3, 7, 39)] (va_up (fun _ _ => 0) 38 (fun k => if k < 60 then (-1) else (fun _ _ => 0) 38 k))) : Rn (f_X1_init (M + 200) (z + 40) (s.1, s.2)) (fun s => CB s z 77 751 [(40, 6, 75), (40, 5, 74), (40, 4, 68), (68, 0, 69), (40, 3, 57), (57, 0, 58), (40, 2, 52), (52, 0, 53), (40, 1, 41), (41, 0, 42), (0, 1, 3), (3, 6, 38), (3, 5, 37), (3, 4, 31), (31, 0, 32), (3, 3, 20), (20, 0, 21), (3, 2, 15), (15, 0, 16), (3, 1, 4), (4, 0, 5), (0, 0, 1), (1, 0, 2)] [(69, 4), (58, 9), (53, 3), (42, 9), (32, 4), (21, 9), (16, 3), (5, 9)] [(40, 7, 76), (3, 7, 39)] (va_up (va_up (fun _ _ => 0) 38 (fun k => if k < 60 then (-1) else (fun _ _ => 0) 38 k)) 75 (fun k => if k < 60 then (-1) else (va_up (fun _ _ => 0) 38 (fun k => if k < 60 then (-1) else (fun _ _ => 0) 38 k)) 75 k))) := by
  unfold f_X1_init
  refine rn_t (cb_o 40 1 hc rfl) ?_
  refine cb_pI0 40 1 0 hc rfl rfl (fun d1 hc => ?_)
  rw [cb_nx hc]
  have hc := cb_obj 8 hc rfl
  unfold f_X1_init_13
  refine rn_bind (ct_X8_init_4 hc) (fun s2 hc => ?_)
  unfold f_X1_init_21
  refine cb_pP 40 1 1 41 hc rfl (by decide) (fun s3 hc => ?_)
  unfold f_X1_init_24
  rw [cb_nx hc]
  have hc := cb_obj 8 hc rfl
  unfold f_X1_init_28
  refine rn_bind (ct_X8_init_5 hc) (fun s4 hc => ?_)
  unfold f_X1_init_34
  refine cb_pP 40 1 2 52 hc rfl (by decide) (fun s5 hc => ?_)
  unfold f_X1_init_37
  rw [cb_nx hc]
  have hc := cb_obj 8 hc rfl
  unfold f_X1_init_41
  refine rn_bind (ct_X8_init_6 hc) (fun s6 hc => ?_)
  unfold f_X1_init_48
  refine cb_pP 40 1 3 57 hc rfl (by decide) (fun s7 hc => ?_)
  unfold f_X1_init_51
  rw [cb_nx hc]
  have hc := cb_obj 8 hc rfl
  unfold f_X1_init_55
  refine rn_bind (ct_X8_init_7 hc) (fun s8 hc => ?_)
  unfold f_X1_init_62
  refine cb_pP 40 1 4 68 hc rfl (by decide) (fun s9 hc => ?_)
  unfold f_X1_init_65
  rw [cb_nx hc]
  refine cb_arr 7 hc rfl rfl (fun s10 hc => ?_)
  unfold f_X1_init_70
  refine cb_pP 40 1 5 74 hc rfl (by decide) (fun s11 hc => ?_)
  unfold f_X1_init_73
  rw [cb_nx hc]
  refine cb_arr 60 hc rfl rfl (fun s12 hc => ?_)
  unfold f_X1_init_78
  refine cb_pP 40 1 6 75 hc rfl (by decide) (fun s13 hc => ?_)
  unfold f_X1_init_81
  rw [cb_nx hc]
  refine cb_arr 0 hc rfl rfl (fun s14 hc => ?_)
  unfold f_X1_init_85
  refine cb_pQ 40 1 7 76 hc rfl (by decide) (by decide) (fun d15 hc => ?_)
  refine cb_gP 40 1 6 75 hc rfl (by decide) ?_
  refine cb_fill 75 60 hc rfl (by decide) (by omega) (fun d16 hc => ?_)
  exact rn_some hc
set_option maxRecDepth 20000 in
theorem ct_X10_init_0 {M z : Nat} {s : AS} (hc : CB s z 78 757 [(0, 2, 40), (40, 6, 75), (40, 5, 74), (40, 4, 68), (68, 0, 69), (40, 3, 57), (57, 0, 58), (40, 2, 52), (52, 0, 53), (40, 1, 41), (41, 0, 42), (0, 1, 3), (3, 6, 38), (3, 5, 37), (3, 4, 31), (31, 0, 32), (3, 3, 20), (20, 0, 21), (3, 2, 15), (15, 0, 16), (3, 1, 4), (4, 0, 5), (0, 0, 1), (1, 0, 2)] [(69, 4), (58, 9), (53, 3), (42, 9), (32, 4), (21, 9), (16, 3), (5, 9)] [(40, 7, 76), (3, 7, 39)] (va_up (va_up (fun _ _ => 0) 38 (fun k => if k < 60 then (-1) else (fun _ _ => 0) 38 k)) 75 (fun k => if k < 60 then (-1) else (va_up (fun _ _ => 0) 38 (fun k => if k < 60 then (-1) else (fun _ _ => 0) 38 k)) 75 k))) : Rn (f_X10_init (M + 200) (z + 77) (z + 3) (s.1, s.2)) (fun s => CB s z 201 8137 [(77, 0, 3), (77, 3, 140), (77, 2, 139), (77, 1, 78), (0, 2, 40), (40, 6, 75), (40, 5, 74), (40, 4, 68), (68, 0, 69), (40, 3, 57), (57, 0, 58), (40, 2, 52), (52, 0, 53), (40, 1, 41), (41, 0, 42), (0, 1, 3), (3, 6, 38), (3, 5, 37), (3, 4, 31), (31, 0, 32), (3, 3, 20), (20, 0, 21), (3, 2, 15), (15, 0, 16), (3, 1, 4), (4, 0, 5), (0, 0, 1), (1, 0, 2)] [(140, 60), (78, 60), (69, 4), (58, 9), (53, 3), (42, 9), (32, 4), (21, 9), (16, 3), (5, 9)] [(40, 7, 76), (3, 7, 39)] (va_up (va_up (fun _ _ => 0) 38 (fun k => if k < 60 then (-1) else (fun _ _ => 0) 38 k)) 75 (fun k => if k < 60 then (-1) else (va_up (fun _ _ => 0) 38 (fun k => if k < 60 then (-1) else (fun _ _ => 0) 38 k)) 75 k))) := by
  unfold f_X10_init
  refine rn_t (cb_o 77 10 hc rfl) ?_
  rw [cb_nx hc]
  refine cb_mul 60 60 hc rfl rfl (by decide) (fun s1 hc => ?_)
  unfold f_X10_init_13
  refine cb_pP 77 10 1 78 hc rfl (by decide) (fun s2 hc => ?_)
  unfold f_X10_init_16
  rw [cb_nx hc]
  refine cb_arr 60 hc rfl rfl (fun s3 hc => ?_)
  unfold f_X10_init_21
  refine cb_pP 77 10 2 139 hc rfl (by decide) (fun s4 hc => ?_)
  unfold f_X10_init_24
  rw [cb_nx hc]
  refine cb_mul 60 60 hc rfl rfl (by decide) (fun s5 hc => ?_)
  unfold f_X10_init_33
  refine cb_pP 77 10 3 140 hc rfl (by decide) (fun s6 hc => ?_)
  unfold f_X10_init_36
  refine cb_pJ0 77 10 4 hc rfl (fun d7 hc => ?_)
  refine cb_pI0 77 10 5 hc rfl rfl (fun d8 hc => ?_)
  refine cb_pP 77 10 0 3 hc rfl (by decide) (fun s9 hc => ?_)
  unfold f_X10_init_51
  exact rn_some hc
set_option maxRecDepth 20000 in
theorem ct_X4_init_0 {M z : Nat} {s : AS} (hc : CB s z 202 8149 [(0, 3, 77), (77, 0, 3), (77, 3, 140), (77, 2, 139), (77, 1, 78), (0, 2, 40), (40, 6, 75), (40, 5, 74), (40, 4, 68), (68, 0, 69), (40, 3, 57), (57, 0, 58), (40, 2, 52), (52, 0, 53), (40, 1, 41), (41, 0, 42), (0, 1, 3), (3, 6, 38), (3, 5, 37), (3, 4, 31), (31, 0, 32), (3, 3, 20), (20, 0, 21), (3, 2, 15), (15, 0, 16), (3, 1, 4), (4, 0, 5), (0, 0, 1), (1, 0, 2)] [(140, 60), (78, 60), (69, 4), (58, 9), (53, 3), (42, 9), (32, 4), (21, 9), (16, 3), (5, 9)] [(40, 7, 76), (3, 7, 39)] (va_up (va_up (fun _ _ => 0) 38 (fun k => if k < 60 then (-1) else (fun _ _ => 0) 38 k)) 75 (fun k => if k < 60 then (-1) else (va_up (fun _ _ => 0) 38 (fun k => if k < 60 then (-1) else (fun _ _ => 0) 38 k)) 75 k))) : Rn (f_X4_init (M + 200) (z + 201) (z + 3) (z + 77) (s.1, s.2)) (fun s => CB s z 221 8480 [(201, 1, 77), (201, 0, 3), (201, 9, 220), (201, 8, 219), (201, 5, 203), (201, 2, 202), (0, 3, 77), (77, 0, 3), (77, 3, 140), (77, 2, 139), (77, 1, 78), (0, 2, 40), (40, 6, 75), (40, 5, 74), (40, 4, 68), (68, 0, 69), (40, 3, 57), (57, 0, 58), (40, 2, 52), (52, 0, 53), (40, 1, 41), (41, 0, 42), (0, 1, 3), (3, 6, 38), (3, 5, 37), (3, 4, 31), (31, 0, 32), (3, 3, 20), (20, 0, 21), (3, 2, 15), (15, 0, 16), (3, 1, 4), (4, 0, 5), (0, 0, 1), (1, 0, 2)] [(203, 14), (140, 60), (78, 60), (69, 4), (58, 9), (53, 3), (42, 9), (32, 4), (21, 9), (16, 3), (5, 9)] [(201, 6, 218), (40, 7, 76), (3, 7, 39)] (va_up (va_up (fun _ _ => 0) 38 (fun k => if k < 60 then (-1) else (fun _ _ => 0) 38 k)) 75 (fun k => if k < 60 then (-1) else (va_up (fun _ _ => 0) 38 (fun k => if k < 60 then (-1) else (fun _ _ => 0) 38 k)) 75 k))) := by
  unfold f_X4_init
  refine rn_t (cb_o 201 4 hc rfl) ?_
  rw [cb_nx hc]
  refine cb_arr 60 hc rfl rfl (fun s1 hc => ?_)
  unfold f_X4_init_9
  refine cb_pP 201 4 2 202 hc rfl (by decide) (fun s2 hc => ?_)
  unfold f_X4_init_12
  refine cb_pI0 201 4 3 hc rfl rfl (fun d3 hc => ?_)
  refine cb_pI0 201 4 4 hc rfl rfl (fun d4 hc => ?_)
  rw [cb_nx hc]
  refine cb_mul 14 14 hc rfl rfl (by decide) (fun s5 hc => ?_)
  unfold f_X4_init_31
  refine cb_pP 201 4 5 203 hc rfl (by decide) (fun s6 hc => ?_)
  unfold f_X4_init_34
  rw [cb_nx hc]
  refine cb_arr 1 hc rfl rfl (fun s7 hc => ?_)
  unfold f_X4_init_38
  refine cb_pQ 201 4 6 218 hc rfl (by decide) (by decide) (fun d8 hc => ?_)
  refine cb_pI0 201 4 7 hc rfl rfl (fun d9 hc => ?_)
  rw [cb_nx hc]
  refine cb_arr 30 hc rfl rfl (fun s10 hc => ?_)
  unfold f_X4_init_51
  refine cb_pP 201 4 8 219 hc rfl (by decide) (fun s11 hc => ?_)
  unfold f_X4_init_54
  rw [cb_nx hc]
  refine cb_arr 30 hc rfl rfl (fun s12 hc => ?_)
  unfold f_X4_init_59
  refine cb_pP 201 4 9 220 hc rfl (by decide) (fun s13 hc => ?_)
  unfold f_X4_init_62
  refine cb_pI0 201 4 10 hc rfl rfl (fun d14 hc => ?_)
  refine cb_pI0 201 4 11 hc rfl rfl (fun d15 hc => ?_)
  refine cb_pP 201 4 0 3 hc rfl (by decide) (fun s16 hc => ?_)
  unfold f_X4_init_77
  refine cb_pP 201 4 1 77 hc rfl (by decide) (fun s17 hc => ?_)
  unfold f_X4_init_82
  exact rn_some hc
set_option maxRecDepth 20000 in
theorem ct_X8_init_8 {M z : Nat} {s : AS} (hc : CB s z 223 8495 [(0, 4, 201), (201, 1, 77), (201, 0, 3), (201, 9, 220), (201, 8, 219), (201, 5, 203), (201, 2, 202), (0, 3, 77), (77, 0, 3), (77, 3, 140), (77, 2, 139), (77, 1, 78), (0, 2, 40), (40, 6, 75), (40, 5, 74), (40, 4, 68), (68, 0, 69), (40, 3, 57), (57, 0, 58), (40, 2, 52), (52, 0, 53), (40, 1, 41), (41, 0, 42), (0, 1, 3), (3, 6, 38), (3, 5, 37), (3, 4, 31), (31, 0, 32), (3, 3, 20), (20, 0, 21), (3, 2, 15), (15, 0, 16), (3, 1, 4), (4, 0, 5), (0, 0, 1), (1, 0, 2)] [(203, 14), (140, 60), (78, 60), (69, 4), (58, 9), (53, 3), (42, 9), (32, 4), (21, 9), (16, 3), (5, 9)] [(201, 6, 218), (40, 7, 76), (3, 7, 39)] (va_up (va_up (fun _ _ => 0) 38 (fun k => if k < 60 then (-1) else (fun _ _ => 0) 38 k)) 75 (fun k => if k < 60 then (-1) else (va_up (fun _ _ => 0) 38 (fun k => if k < 60 then (-1) else (fun _ _ => 0) 38 k)) 75 k))) : Rn (f_X8_init (M + 200) (z + 222) (4 : Int32) (16 : Int32) (s.1, s.2)) (fun s => CB s z 228 8563 [(222, 0, 223), (0, 4, 201), (201, 1, 77), (201, 0, 3), (201, 9, 220), (201, 8, 219), (201, 5, 203), (201, 2, 202), (0, 3, 77), (77, 0, 3), (77, 3, 140), (77, 2, 139), (77, 1, 78), (0, 2, 40), (40, 6, 75), (40, 5, 74), (40, 4, 68), (68, 0, 69), (40, 3, 57), (57, 0, 58), (40, 2, 52), (52, 0, 53), (40, 1, 41), (41, 0, 42), (0, 1, 3), (3, 6, 38), (3, 5, 37), (3, 4, 31), (31, 0, 32), (3, 3, 20), (20, 0, 21), (3, 2, 15), (15, 0, 16), (3, 1, 4), (4, 0, 5), (0, 0, 1), (1, 0, 2)] [(223, 4), (203, 14), (140, 60), (78, 60), (69, 4), (58, 9), (53, 3), (42, 9), (32, 4), (21, 9), (16, 3), (5, 9)] [(201, 6, 218), (40, 7, 76), (3, 7, 39)] (va_up (va_up (fun _ _ => 0) 38 (fun k => if k < 60 then (-1) else (fun _ _ => 0) 38 k)) 75 (fun k => if k < 60 then (-1) else (va_up (fun _ _ => 0) 38 (fun k => if k < 60 then (-1) else (fun _ _ => 0) 38 k)) 75 k))) := by
  unfold f_X8_init
  refine rn_t (cb_o 222 8 hc rfl) ?_
  refine cb_pI0 222 8 1 hc rfl rfl (fun d1 hc => ?_)
  rw [cb_nx hc]
  refine cb_mul 4 16 hc rfl rfl (by decide) (fun s2 hc => ?_)
  unfold f_X8_init_16
  refine cb_pP 222 8 0 223 hc rfl (by decide) (fun s3 hc => ?_)
  unfold f_X8_init_19
  exact rn_some hc
set_option maxRecDepth 20000 in
theorem ct_X5_init_0 {M z : Nat} {s : AS} (hc : CB s z 222 8493 [(0, 4, 201), (201, 1, 77), (201, 0, 3), (201, 9, 220), (201, 8, 219), (201, 5, 203), (201, 2, 202), (0, 3, 77), (77, 0, 3), (77, 3, 140), (77, 2, 139), (77, 1, 78), (0, 2, 40), (40, 6, 75), (40, 5, 74), (40, 4, 68), (68, 0, 69), (40, 3, 57), (57, 0, 58), (40, 2, 52), (52, 0, 53), (40, 1, 41), (41, 0, 42), (0, 1, 3), (3, 6, 38), (3, 5, 37), (3, 4, 31), (31, 0, 32), (3, 3, 20), (20, 0, 21), (3, 2, 15), (15, 0, 16), (3, 1, 4), (4, 0, 5), (0, 0, 1), (1, 0, 2)] [(203, 14), (140, 60), (78, 60), (69, 4), (58, 9), (53, 3), (42, 9), (32, 4), (21, 9), (16, 3), (5, 9)] [(201, 6, 218), (40, 7, 76), (3, 7, 39)] (va_up (va_up (fun _ _ => 0) 38 (fun k => if k < 60 then (-1) else (fun _ _ => 0) 38 k)) 75 (fun k => if k < 60 then (-1) else (va_up (fun _ _ => 0) 38 (fun k => if k < 60 then (-1) else (fun _ _ => 0) 38 k)) 75 k))) : Rn (f_X5_init (M + 200) (z + 221) (z + 3) (z + 77) (z + 201) (s.1, s.2)) (fun s => CB s z 235 9290 [(221, 2, 201), (221, 1, 77), (221, 0, 3), (221, 11, 234), (221, 10, 233), (221, 9, 232), (221, 7, 231), (221, 6, 230), (221, 5, 229), (221, 4, 228), (221, 3, 222), (222, 0, 223), (0, 4, 201), (201, 1, 77), (201, 0, 3), (201, 9, 220), (201, 8, 219), (201, 5, 203), (201, 2, 202), (0, 3, 77), (77, 0, 3), (77, 3, 140), (77, 2, 139), (77, 1, 78), (0, 2, 40), (40, 6, 75), (40, 5, 74), (40, 4, 68), (68, 0, 69), (40, 3, 57), (57, 0, 58), (40, 2, 52), (52, 0, 53), (40, 1, 41), (41, 0, 42), (0, 1, 3), (3, 6, 38), (3, 5, 37), (3, 4, 31), (31, 0, 32), (3, 3, 20), (20, 0, 21), (3, 2, 15), (15, 0, 16), (3, 1, 4), (4, 0, 5), (0, 0, 1), (1, 0, 2)] [(223, 4), (203, 14), (140, 60), (78, 60), (69, 4), (58, 9), (53, 3), (42, 9), (32, 4), (21, 9), (16, 3), (5, 9)] [(201, 6, 218), (40, 7, 76), (3, 7, 39)] (va_up (va_up (fun _ _ => 0) 38 (fun k => if k < 60 then (-1) else (fun _ _ => 0) 38 k)) 75 (fun k => if k < 60 then (-1) else (va_up (fun _ _ => 0) 38 (fun k => if k < 60 then (-1) else (fun _ _ => 0) 38 k)) 75 k))) := by
  unfold f_X5_init
  refine rn_t (cb_o 221 5 hc rfl) ?_
  rw [cb_nx hc]
  have hc := cb_obj 8 hc rfl
  unfold f_X5_init_8
  refine rn_bind (ct_X8_init_8 hc) (fun s1 hc => ?_)
  unfold f_X5_init_15
  refine cb_pP 221 5 3 222 hc rfl (by decide) (fun s2 hc => ?_)
  unfold f_X5_init_18
  rw [cb_nx hc]
  refine cb_arr 7 hc rfl rfl (fun s3 hc => ?_)
  unfold f_X5_init_23
  refine cb_pP 221 5 4 228 hc rfl (by decide) (fun s4 hc => ?_)
  unfold f_X5_init_26
  rw [cb_nx hc]
  refine cb_arr 60 hc rfl rfl (fun s5 hc => ?_)
  unfold f_X5_init_31
  refine cb_pP 221 5 5 229 hc rfl (by decide) (fun s6 hc => ?_)
  unfold f_X5_init_34
  rw [cb_nx hc]
  refine cb_arr 150 hc rfl rfl (fun s7 hc => ?_)
  unfold f_X5_init_40
  refine cb_pP 221 5 6 230 hc rfl (by decide) (fun s8 hc => ?_)
  unfold f_X5_init_43
  rw [cb_nx hc]
  refine cb_arr 150 hc rfl rfl (fun s9 hc => ?_)
  unfold f_X5_init_49
  refine cb_pP 221 5 7 231 hc rfl (by decide) (fun s10 hc => ?_)
  unfold f_X5_init_52
  refine cb_pI0 221 5 8 hc rfl rfl (fun d11 hc => ?_)
  rw [cb_nx hc]
  refine cb_arr 150 hc rfl rfl (fun s12 hc => ?_)
  unfold f_X5_init_63
  refine cb_pP 221 5 9 232 hc rfl (by decide) (fun s13 hc => ?_)
  unfold f_X5_init_66
  rw [cb_nx hc]
  refine cb_arr 150 hc rfl rfl (fun s14 hc => ?_)
  unfold f_X5_init_72
  refine cb_pP 221 5 10 233 hc rfl (by decide) (fun s15 hc => ?_)
  unfold f_X5_init_75
  rw [cb_nx hc]
  refine cb_arr 60 hc rfl rfl (fun s16 hc => ?_)
  unfold f_X5_init_80
  refine cb_pP 221 5 11 234 hc rfl (by decide) (fun s17 hc => ?_)
  unfold f_X5_init_83
  refine cb_pI0 221 5 12 hc rfl rfl (fun d18 hc => ?_)
  refine cb_pP 221 5 0 3 hc rfl (by decide) (fun s19 hc => ?_)
  unfold f_X5_init_93
  refine cb_pP 221 5 1 77 hc rfl (by decide) (fun s20 hc => ?_)
  unfold f_X5_init_98
  refine cb_pP 221 5 2 201 hc rfl (by decide) (fun s21 hc => ?_)
  unfold f_X5_init_103
  exact rn_some hc
set_option maxRecDepth 20000 in
theorem ct_X6_init_0 {M z : Nat} {s : AS} (hc : CB s z 242 9377 [(0, 10, 239), (0, 9, 238), (0, 8, 237), (0, 7, 236), (0, 6, 235), (0, 5, 221), (221, 2, 201), (221, 1, 77), (221, 0, 3), (221, 11, 234), (221, 10, 233), (221, 9, 232), (221, 7, 231), (221, 6, 230), (221, 5, 229), (221, 4, 228), (221, 3, 222), (222, 0, 223), (0, 4, 201), (201, 1, 77), (201, 0, 3), (201, 9, 220), (201, 8, 219), (201, 5, 203), (201, 2, 202), (0, 3, 77), (77, 0, 3), (77, 3, 140), (77, 2, 139), (77, 1, 78), (0, 2, 40), (40, 6, 75), (40, 5, 74), (40, 4, 68), (68, 0, 69), (40, 3, 57), (57, 0, 58), (40, 2, 52), (52, 0, 53), (40, 1, 41), (41, 0, 42), (0, 1, 3), (3, 6, 38), (3, 5, 37), (3, 4, 31), (31, 0, 32), (3, 3, 20), (20, 0, 21), (3, 2, 15), (15, 0, 16), (3, 1, 4), (4, 0, 5), (0, 0, 1), (1, 0, 2)] [(223, 4), (203, 14), (140, 60), (78, 60), (69, 4), (58, 9), (53, 3), (42, 9), (32, 4), (21, 9), (16, 3), (5, 9)] [(0, 11, 240), (201, 6, 218), (40, 7, 76), (3, 7, 39)] (va_up (va_up (fun _ _ => 0) 38 (fun k => if k < 60 then (-1) else (fun _ _ => 0) 38 k)) 75 (fun k => if k < 60 then (-1) else (va_up (fun _ _ => 0) 38 (fun k => if k < 60 then (-1) else (fun _ _ => 0) 38 k)) 75 k))) : Rn (f_X6_init (M + 200) (z + 241) (z + 1) (50 : Int32) (200 : Int32) (s.1, s.2)) (fun s => CB s z 242 9377 [(241, 0, 1), (0, 10, 239), (0, 9, 238), (0, 8, 237), (0, 7, 236), (0, 6, 235), (0, 5, 221), (221, 2, 201), (221, 1, 77), (221, 0, 3), (221, 11, 234), (221, 10, 233), (221, 9, 232), (221, 7, 231), (221, 6, 230), (221, 5, 229), (221, 4, 228), (221, 3, 222), (222, 0, 223), (0, 4, 201), (201, 1, 77), (201, 0, 3), (201, 9, 220), (201, 8, 219), (201, 5, 203), (201, 2, 202), (0, 3, 77), (77, 0, 3), (77, 3, 140), (77, 2, 139), (77, 1, 78), (0, 2, 40), (40, 6, 75), (40, 5, 74), (40, 4, 68), (68, 0, 69), (40, 3, 57), (57, 0, 58), (40, 2, 52), (52, 0, 53), (40, 1, 41), (41, 0, 42), (0, 1, 3), (3, 6, 38), (3, 5, 37), (3, 4, 31), (31, 0, 32), (3, 3, 20), (20, 0, 21), (3, 2, 15), (15, 0, 16), (3, 1, 4), (4, 0, 5), (0, 0, 1), (1, 0, 2)] [(223, 4), (203, 14), (140, 60), (78, 60), (69, 4), (58, 9), (53, 3), (42, 9), (32, 4), (21, 9), (16, 3), (5, 9)] [(0, 11, 240), (201, 6, 218), (40, 7, 76), (3, 7, 39)] (va_up (va_up (va_up (va_up (fun _ _ => 0) 38 (fun k => if k < 60 then (-1) else (fun _ _ => 0) 38 k)) 75 (fun k => if k < 60 then (-1) else (va_up (fun _ _ => 0) 38 (fun k => if k < 60 then (-1) else (fun _ _ => 0) 38 k)) 75 k)) 241 (va_up ((va_up (va_up (fun _ _ => 0) 38 (fun k => if k < 60 then (-1) else (fun _ _ => 0) 38 k)) 75 (fun k => if k < 60 then (-1) else (va_up (fun _ _ => 0) 38 (fun k => if k < 60 then (-1) else (fun _ _ => 0) 38 k)) 75 k)) 241) 1 50)) 241 (va_up ((va_up (va_up (va_up (fun _ _ => 0) 38 (fun k => if k < 60 then (-1) else (fun _ _ => 0) 38 k)) 75 (fun k => if k < 60 then (-1) else (va_up (fun _ _ => 0) 38 (fun k => if k < 60 then (-1) else (fun _ _ => 0) 38 k)) 75 k)) 241 (va_up ((va_up (va_up (fun _ _ => 0) 38 (fun k => if k < 60 then (-1) else (fun _ _ => 0) 38 k)) 75 (fun k => if k < 60 then (-1) else (va_up (fun _ _ => 0) 38 (fun k => if k < 60 then (-1) else (fun _ _ => 0) 38 k)) 75 k)) 241) 1 50)) 241) 2 200))) := by
  unfold f_X6_init
  refine rn_t (cb_o 241 6 hc rfl) ?_
  refine cb_pP 241 6 0 1 hc rfl (by decide) (fun s1 hc => ?_)
  unfold f_X6_init_9
  refine cb_pI 241 6 1 hc rfl (fun d2 hc => ?_)
  refine cb_pI 241 6 2 hc rfl (fun d3 hc => ?_)
  exact rn_some hc
set_option maxRecDepth 20000 in
theorem ct_X11_init_0 {M z : Nat} {s : AS} (hc : CB s z 1 14 [] [] [] (fun _ _ => 0)) : Rn (f_X11_init (M + 200) (z + 0) (s.1, s.2)) (fun s => CB s z 242 9377 [(241, 0, 1), (0, 10, 239), (0, 9, 238), (0, 8, 237), (0, 7, 236), (0, 6, 235), (0, 5, 221), (221, 2, 201), (221, 1, 77), (221, 0, 3), (221, 11, 234), (221, 10, 233), (221, 9, 232), (221, 7, 231), (221, 6, 230), (221, 5, 229), (221, 4, 228), (221, 3, 222), (222, 0, 223), (0, 4, 201), (201, 1, 77), (201, 0, 3), (201, 9, 220), (201, 8, 219), (201, 5, 203), (201, 2, 202), (0, 3, 77), (77, 0, 3), (77, 3, 140), (77, 2, 139), (77, 1, 78), (0, 2, 40), (40, 6, 75), (40, 5, 74), (40, 4, 68), (68, 0, 69), (40, 3, 57), (57, 0, 58), (40, 2, 52), (52, 0, 53), (40, 1, 41), (41, 0, 42), (0, 1, 3), (3, 6, 38), (3, 5, 37), (3, 4, 31), (31, 0, 32), (3, 3, 20), (20, 0, 21), (3, 2, 15), (15, 0, 16), (3, 1, 4), (4, 0, 5), (0, 0, 1), (1, 0, 2)] [(223, 4), (203, 14), (140, 60), (78, 60), (69, 4), (58, 9), (53, 3), (42, 9), (32, 4), (21, 9), (16, 3), (5, 9)] [(235, 11, 241), (235, 10, 241), (235, 9, 241), (235, 8, 241), (235, 7, 241), (235, 6, 241), (235, 5, 241), (235, 4, 241), (235, 3, 241), (235, 2, 241), (235, 1, 241), (235, 0, 241), (0, 11, 240), (201, 6, 218), (40, 7, 76), (3, 7, 39)] (va_up (va_up (va_up (va_up (fun _ _ => 0) 38 (fun k => if k < 60 then (-1) else (fun _ _ => 0) 38 k)) 75 (fun k => if k < 60 then (-1) else (va_up (fun _ _ => 0) 38 (fun k => if k < 60 then (-1) else (fun _ _ => 0) 38 k)) 75 k)) 241 (va_up ((va_up (va_up (fun _ _ => 0) 38 (fun k => if k < 60 then (-1) else (fun _ _ => 0) 38 k)) 75 (fun k => if k < 60 then (-1) else (va_up (fun _ _ => 0) 38 (fun k => if k < 60 then (-1) else (fun _ _ => 0) 38 k)) 75 k)) 241) 1 50)) 241 (va_up ((va_up (va_up (va_up (fun _ _ => 0) 38 (fun k => if k < 60 then (-1) else (fun _ _ => 0) 38 k)) 75 (fun k => if k < 60 then (-1) else (va_up (fun _ _ => 0) 38 (fun k => if k < 60 then (-1) else (fun _ _ => 0) 38 k)) 75 k)) 241 (va_up ((va_up (va_up (fun _ _ => 0) 38 (fun k => if k < 60 then (-1) else (fun _ _ => 0) 38 k)) 75 (fun k => if k < 60 then (-1) else (va_up (fun _ _ => 0) 38 (fun k => if k < 60 then (-1) else (fun _ _ => 0) 38 k)) 75 k)) 241) 1 50)) 241) 2 200))) := by
  unfold f_X11_init
  refine rn_t (cb_o 0 11 hc rfl) ?_
  rw [cb_nx hc]
  have hc := cb_obj 2 hc rfl
  unfold f_X11_init_8
  refine rn_bind (ct_X2_init_0 hc) (fun s1 hc => ?_)
  unfold f_X11_init_12
  refine cb_pP 0 11 0 1 hc rfl (by decide) (fun s2 hc => ?_)
  unfold f_X11_init_15
  rw [cb_nx hc]
  have hc := cb_obj 1 hc rfl
  unfold f_X11_init_19
  refine rn_bind (ct_X1_init_0 hc) (fun s3 hc => ?_)
  unfold f_X11_init_23
  refine cb_pP 0 11 1 3 hc rfl (by decide) (fun s4 hc => ?_)
  unfold f_X11_init_26
  rw [cb_nx hc]
  have hc := cb_obj 1 hc rfl
  unfold f_X11_init_30
  refine rn_bind (ct_X1_init_1 hc) (fun s5 hc => ?_)
  unfold f_X11_init_34
  refine cb_pP 0 11 2 40 hc rfl (by decide) (fun s6 hc => ?_)
  unfold f_X11_init_37
  rw [cb_nx hc]
  have hc := cb_obj 10 hc rfl
  unfold f_X11_init_41
  refine cb_gP 0 11 1 3 hc rfl (by decide) ?_
  refine rn_bind (ct_X10_init_0 hc) (fun s7 hc => ?_)
  unfold f_X11_init_49
  refine cb_pP 0 11 3 77 hc rfl (by decide) (fun s8 hc => ?_)
  unfold f_X11_init_52
  rw [cb_nx hc]
  have hc := cb_obj 4 hc rfl
  unfold f_X11_init_56
  refine cb_gP 0 11 1 3 hc rfl (by decide) ?_
  refine cb_gP 0 11 3 77 hc rfl (by decide) ?_
  refine rn_bind (ct_X4_init_0 hc) (fun s9 hc => ?_)
  unfold f_X11_init_68
  refine cb_pP 0 11 4 201 hc rfl (by decide) (fun s10 hc => ?_)
  unfold f_X11_init_71
  rw [cb_nx hc]
  have hc := cb_obj 5 hc rfl
  unfold f_X11_init_75
  refine cb_gP 0 11 1 3 hc rfl (by decide) ?_
  refine cb_gP 0 11 3 77 hc rfl (by decide) ?_
  refine cb_gP 0 11 4 201 hc rfl (by decide) ?_
  refine rn_bind (ct_X5_init_0 hc) (fun s11 hc => ?_)
  unfold f_X11_init_91
  refine cb_pP 0 11 5 221 hc rfl (by decide) (fun s12 hc => ?_)
  unfold f_X11_init_94
  rw [cb_nx hc]
  refine cb_arr 12 hc rfl rfl (fun s13 hc => ?_)
  unfold f_X11_init_100
  refine cb_pP 0 11 6 235 hc rfl (by decide) (fun s14 hc => ?_)
  unfold f_X11_init_103
  rw [cb_nx hc]
  refine cb_arr 20 hc rfl rfl (fun s15 hc => ?_)
  unfold f_X11_init_108
  refine cb_pP 0 11 7 236 hc rfl (by decide) (fun s16 hc => ?_)
  unfold f_X11_init_111
  rw [cb_nx hc]
  refine cb_arr 12 hc rfl rfl (fun s17 hc => ?_)
  unfold f_X11_init_116
  refine cb_pP 0 11 8 237 hc rfl (by decide) (fun s18 hc => ?_)
  unfold f_X11_init_119
  rw [cb_nx hc]
  refine cb_arr 12 hc rfl rfl (fun s19 hc => ?_)
  unfold f_X11_init_124
  refine cb_pP 0 11 9 238 hc rfl (by decide) (fun s20 hc => ?_)
  unfold f_X11_init_127
  rw [cb_nx hc]
  refine cb_arr 12 hc rfl rfl (fun s21 hc => ?_)
  unfold f_X11_init_132
  refine cb_pP 0 11 10 239 hc rfl (by decide) (fun s22 hc => ?_)
  unfold f_X11_init_135
  rw [cb_nx hc]
  refine cb_arr 16 hc rfl rfl (fun s23 hc => ?_)
  unfold f_X11_init_140
  refine cb_pQ 0 11 11 240 hc rfl (by decide) (by decide) (fun d24 hc => ?_)
  refine cb_pI0 0 11 12 hc rfl rfl (fun d25 hc => ?_)
  refine cb_pI0 0 11 13 hc rfl rfl (fun d26 hc => ?_)
  rw [cb_nx hc]
  have hc := cb_obj 6 hc rfl
  unfold f_X11_init_156
  refine cb_gP 0 11 0 1 hc rfl (by decide) ?_
  refine rn_bind (ct_X6_init_0 hc) (fun s27 hc => ?_)
  unfold f_X11_init_169
  rw [u172]
  unfold g_X11_init_172
  refine rn_f (by decide) ?_
  refine cb_gP 0 11 6 235 hc rfl (by decide) ?_
  refine cb_sP 235 12 0 241 hc rfl (by decide) rfl (by decide) (by decide) (fun d28 hc => ?_)
  rw [u172]
  unfold g_X11_init_172
  refine rn_f (by decide) ?_
  refine cb_gP 0 11 6 235 hc rfl (by decide) ?_
  refine cb_sP 235 12 1 241 hc rfl (by decide) rfl (by decide) (by decide) (fun d29 hc => ?_)
  rw [u172]
  unfold g_X11_init_172
  refine rn_f (by decide) ?_
  refine cb_gP 0 11 6 235 hc rfl (by decide) ?_
  refine cb_sP 235 12 2 241 hc rfl (by decide) rfl (by decide) (by decide) (fun d30 hc => ?_)
  rw [u172]
  unfold g_X11_init_172
  refine rn_f (by decide) ?_
  refine cb_gP 0 11 6 235 hc rfl (by decide) ?_
  refine cb_sP 235 12 3 241 hc rfl (by decide) rfl (by decide) (by decide) (fun d31 hc => ?_)
  rw [u172]
  unfold g_X11_init_172
  refine rn_f (by decide) ?_
  refine cb_gP 0 11 6 235 hc rfl (by decide) ?_
  refine cb_sP 235 12 4 241 hc rfl (by decide) rfl (by decide) (by decide) (fun d32 hc => ?_)
  rw [u172]
  unfold g_X11_init_172
  refine rn_f (by decide) ?_
  refine cb_gP 0 11 6 235 hc rfl (by decide) ?_
  refine cb_sP 235 12 5 241 hc rfl (by decide) rfl (by decide) (by decide) (fun d33 hc => ?_)
  rw [u172]
  unfold g_X11_init_172
  refine rn_f (by decide) ?_
  refine cb_gP 0 11 6 235 hc rfl (by decide) ?_
  refine cb_sP 235 12 6 241 hc rfl (by decide) rfl (by decide) (by decide) (fun d34 hc => ?_)
  rw [u172]
  unfold g_X11_init_172
  refine rn_f (by decide) ?_
  refine cb_gP 0 11 6 235 hc rfl (by decide) ?_
  refine cb_sP 235 12 7 241 hc rfl (by decide) rfl (by decide) (by decide) (fun d35 hc => ?_)
  rw [u172]
  unfold g_X11_init_172
  refine rn_f (by decide) ?_
  refine cb_gP 0 11 6 235 hc rfl (by decide) ?_
  refine cb_sP 235 12 8 241 hc rfl (by decide) rfl (by decide) (by decide) (fun d36 hc => ?_)
  rw [u172]
  unfold g_X11_init_172
  refine rn_f (by decide) ?_
  refine cb_gP 0 11 6 235 hc rfl (by decide) ?_
  refine cb_sP 235 12 9 241 hc rfl (by decide) rfl (by decide) (by decide) (fun d37 hc => ?_)
  rw [u172]
  unfold g_X11_init_172
  refine rn_f (by decide) ?_
  refine cb_gP 0 11 6 235 hc rfl (by decide) ?_
  refine cb_sP 235 12 10 241 hc rfl (by decide) rfl (by decide) (by decide) (fun d38 hc => ?_)
  rw [u172]
  unfold g_X11_init_172
  refine rn_f (by decide) ?_
  refine cb_gP 0 11 6 235 hc rfl (by decide) ?_
  refine cb_sP 235 12 11 241 hc rfl (by decide) rfl (by decide) (by decide) (fun d39 hc => ?_)
  rw [u172]
  unfold g_X11_init_172
  refine rn_t (by decide) ?_
  exact rn_some hc
set_option maxRecDepth 20000 in
theorem ct_X12_init_0 {M z : Nat} {s : AS} (hc : CB s z 243 9409 [(241, 0, 1), (0, 10, 239), (0, 9, 238), (0, 8, 237), (0, 7, 236), (0, 6, 235), (0, 5, 221), (221, 2, 201), (221, 1, 77), (221, 0, 3), (221, 11, 234), (221, 10, 233), (221, 9, 232), (221, 7, 231), (221, 6, 230), (221, 5, 229), (221, 4, 228), (221, 3, 222), (222, 0, 223), (0, 4, 201), (201, 1, 77), (201, 0, 3), (201, 9, 220), (201, 8, 219), (201, 5, 203), (201, 2, 202), (0, 3, 77), (77, 0, 3), (77, 3, 140), (77, 2, 139), (77, 1, 78), (0, 2, 40), (40, 6, 75), (40, 5, 74), (40, 4, 68), (68, 0, 69), (40, 3, 57), (57, 0, 58), (40, 2, 52), (52, 0, 53), (40, 1, 41), (41, 0, 42), (0, 1, 3), (3, 6, 38), (3, 5, 37), (3, 4, 31), (31, 0, 32), (3, 3, 20), (20, 0, 21), (3, 2, 15), (15, 0, 16), (3, 1, 4), (4, 0, 5), (0, 0, 1), (1, 0, 2)] [(223, 4), (203, 14), (140, 60), (78, 60), (69, 4), (58, 9), (53, 3), (42, 9), (32, 4), (21, 9), (16, 3), (5, 9)] [(235, 11, 241), (235, 10, 241), (235, 9, 241), (235, 8, 241), (235, 7, 241), (235, 6, 241), (235, 5, 241), (235, 4, 241), (235, 3, 241), (235, 2, 241), (235, 1, 241), (235, 0, 241), (0, 11, 240), (201, 6, 218), (40, 7, 76), (3, 7, 39)] (va_up (va_up (va_up (va_up (fun _ _ => 0) 38 (fun k => if k < 60 then (-1) else (fun _ _ => 0) 38 k)) 75 (fun k => if k < 60 then (-1) else (va_up (fun _ _ => 0) 38 (fun k => if k < 60 then (-1) else (fun _ _ => 0) 38 k)) 75 k)) 241 (va_up ((va_up (va_up (fun _ _ => 0) 38 (fun k => if k < 60 then (-1) else (fun _ _ => 0) 38 k)) 75 (fun k => if k < 60 then (-1) else (va_up (fun _ _ => 0) 38 (fun k => if k < 60 then (-1) else (fun _ _ => 0) 38 k)) 75 k)) 241) 1 50)) 241 (va_up ((va_up (va_up (va_up (fun _ _ => 0) 38 (fun k => if k < 60 then (-1) else (fun _ _ => 0) 38 k)) 75 (fun k => if k < 60 then (-1) else (va_up (fun _ _ => 0) 38 (fun k => if k < 60 then (-1) else (fun _ _ => 0) 38 k)) 75 k)) 241 (va_up ((va_up (va_up (fun _ _ => 0) 38 (fun k => if k < 60 then (-1) else (fun _ _ => 0) 38 k)) 75 (fun k => if k < 60 then (-1) else (va_up (fun _ _ => 0) 38 (fun k => if k < 60 then (-1) else (fun _ _ => 0) 38 k)) 75 k)) 241) 1 50)) 241) 2 200))) : Rn (f_X12_init (M + 200) (z + 242) (s.1, s.2)) (fun s => CB s z 264 75638 [(242, 31, 263), (242, 30, 262), (242, 29, 261), (242, 28, 260), (242, 27, 259), (242, 26, 258), (242, 25, 257), (242, 23, 256), (242, 22, 255), (242, 18, 254), (242, 17, 253), (242, 15, 252), (242, 14, 251), (242, 13, 250), (242, 12, 249), (242, 11, 248), (242, 9, 247), (242, 7, 246), (242, 6, 245), (242, 1, 244), (242, 0, 243), (241, 0, 1), (0, 10, 239), (0, 9, 238), (0, 8, 237), (0, 7, 236), (0, 6, 235), (0, 5, 221), (221, 2, 201), (221, 1, 77), (221, 0, 3), (221, 11, 234), (221, 10, 233), (221, 9, 232), (221, 7, 231), (221, 6, 230), (221, 5, 229), (221, 4, 228), (221, 3, 222), (222, 0, 223), (0, 4, 201), (201, 1, 77), (201, 0, 3), (201, 9, 220), (201, 8, 219), (201, 5, 203), (201, 2, 202), (0, 3, 77), (77, 0, 3), (77, 3, 140), (77, 2, 139), (77, 1, 78), (0, 2, 40), (40, 6, 75), (40, 5, 74), (40, 4, 68), (68, 0, 69), (40, 3, 57), (57, 0, 58), (40, 2, 52), (52, 0, 53), (40, 1, 41), (41, 0, 42), (0, 1, 3), (3, 6, 38), (3, 5, 37), (3, 4, 31), (31, 0, 32), (3, 3, 20), (20, 0, 21), (3, 2, 15), (15, 0, 16), (3, 1, 4), (4, 0, 5), (0, 0, 1), (1, 0, 2)] [(223, 4), (203, 14), (140, 60), (78, 60), (69, 4), (58, 9), (53, 3), (42, 9), (32, 4), (21, 9), (16, 3), (5, 9)] [(235, 11, 241), (235, 10, 241), (235, 9, 241), (235, 8, 241), (235, 7, 241), (235, 6, 241), (235, 5, 241), (235, 4, 241), (235, 3, 241), (235, 2, 241), (235, 1, 241), (235, 0, 241), (0, 11, 240), (201, 6, 218), (40, 7, 76), (3, 7, 39)] (va_up (va_up (va_up (va_up (va_up (fun _ _ => 0) 38 (fun k => if k < 60 then (-1) else (fun _ _ => 0) 38 k)) 75 (fun k => if k < 60 then (-1) else (va_up (fun _ _ => 0) 38 (fun k => if k < 60 then (-1) else (fun _ _ => 0) 38 k)) 75 k)) 241 (va_up ((va_up (va_up (fun _ _ => 0) 38 (fun k => if k < 60 then (-1) else (fun _ _ => 0) 38 k)) 75 (fun k => if k < 60 then (-1) else (va_up (fun _ _ => 0) 38 (fun k => if k < 60 then (-1) else (fun _ _ => 0) 38 k)) 75 k)) 241) 1 50)) 241 (va_up ((va_up (va_up (va_up (fun _ _ => 0) 38 (fun k => if k < 60 then (-1) else (fun _ _ => 0) 38 k)) 75 (fun k => if k < 60 then (-1) else (va_up (fun _ _ => 0) 38 (fun k => if k < 60 then (-1) else (fun _ _ => 0) 38 k)) 75 k)) 241 (va_up ((va_up (va_up (fun _ _ => 0) 38 (fun k => if k < 60 then (-1) else (fun _ _ => 0) 38 k)) 75 (fun k => if k < 60 then (-1) else (va_up (fun _ _ => 0) 38 (fun k => if k < 60 then (-1) else (fun _ _ => 0) 38 k)) 75 k)) 241) 1 50)) 241) 2 200)) 243 (fun k => if 9582 ≤ k ∧ k < 9642 then (-1) else 0))) := by
  unfold f_X12_init
  refine rn_t (cb_o 242 12 hc rfl) ?_
  rw [cb_nx hc]
  refine cb_arr 15642 hc rfl rfl (fun s1 hc => ?_)
  unfold f_X12_init_10
  refine cb_pP 242 12 0 243 hc rfl (by decide) (fun s2 hc => ?_)
  unfold f_X12_init_13
  rw [cb_nx hc]
  refine cb_arr 15642 hc rfl rfl (fun s3 hc => ?_)
  unfold f_X12_init_19
  refine cb_pP 242 12 1 244 hc rfl (by decide) (fun s4 hc => ?_)
  unfold f_X12_init_22
  rw [cb_nx hc]
  refine cb_arr 5 hc rfl rfl (fun s5 hc => ?_)
  unfold f_X12_init_26
  refine cb_pP 242 12 6 245 hc rfl (by decide) (fun s6 hc => ?_)
  unfold f_X12_init_29
  rw [cb_nx hc]
  refine cb_arr 8000 hc rfl rfl (fun s7 hc => ?_)
  unfold f_X12_init_35
  refine cb_pP 242 12 7 246 hc rfl (by decide) (fun s8 hc => ?_)
  unfold f_X12_init_38
  rw [cb_nx hc]
  refine cb_arr 3600 hc rfl rfl (fun s9 hc => ?_)
  unfold f_X12_init_44
  refine cb_pP 242 12 9 247 hc rfl (by decide) (fun s10 hc => ?_)
  unfold f_X12_init_47
  rw [cb_nx hc]
  refine cb_arr 400 hc rfl rfl (fun s11 hc => ?_)
  unfold f_X12_init_53
  refine cb_pP 242 12 11 248 hc rfl (by decide) (fun s12 hc => ?_)
  unfold f_X12_init_56
  rw [cb_nx hc]
  refine cb_arr 20 hc rfl rfl (fun s13 hc => ?_)
  unfold f_X12_init_61
  refine cb_pP 242 12 12 249 hc rfl (by decide) (fun s14 hc => ?_)
  unfold f_X12_init_64
  rw [cb_nx hc]
  refine cb_arr 20 hc rfl rfl (fun s15 hc => ?_)
  unfold f_X12_init_69
  refine cb_pP 242 12 13 250 hc rfl (by decide) (fun s16 hc => ?_)
  unfold f_X12_init_72
  rw [cb_nx hc]
  refine cb_arr 150 hc rfl rfl (fun s17 hc => ?_)
  unfold f_X12_init_78
  refine cb_pP 242 12 14 251 hc rfl (by decide) (fun s18 hc => ?_)
  unfold f_X12_init_81
  rw [cb_nx hc]
  refine cb_arr 60 hc rfl rfl (fun s19 hc => ?_)
  unfold f_X12_init_86
  refine cb_pP 242 12 15 252 hc rfl (by decide) (fun s20 hc => ?_)
  unfold f_X12_init_89
  rw [cb_nx hc]
  refine cb_arr 60 hc rfl rfl (fun s21 hc => ?_)
  unfold f_X12_init_94
  refine cb_pP 242 12 17 253 hc rfl (by decide) (fun s22 hc => ?_)
  unfold f_X12_init_97
  rw [cb_nx hc]
  refine cb_arr 16384 hc rfl rfl (fun s23 hc => ?_)
  unfold f_X12_init_103
  refine cb_pP 242 12 18 254 hc rfl (by decide) (fun s24 hc => ?_)
  unfold f_X12_init_106
  rw [cb_nx hc]
  refine cb_arr 30 hc rfl rfl (fun s25 hc => ?_)
  unfold f_X12_init_111
  refine cb_pP 242 12 22 255 hc rfl (by decide) (fun s26 hc => ?_)
  unfold f_X12_init_114
  rw [cb_nx hc]
  refine cb_arr 30 hc rfl rfl (fun s27 hc => ?_)
  unfold f_X12_init_119
  refine cb_pP 242 12 23 256 hc rfl (by decide) (fun s28 hc => ?_)
  unfold f_X12_init_122
  rw [cb_nx hc]
  refine cb_arr 2000 hc rfl rfl (fun s29 hc => ?_)
  unfold f_X12_init_128
  refine cb_pP 242 12 25 257 hc rfl (by decide) (fun s30 hc => ?_)
  unfold f_X12_init_131
  rw [cb_nx hc]
  refine cb_arr 2000 hc rfl rfl (fun s31 hc => ?_)
  unfold f_X12_init_137
  refine cb_pP 242 12 26 258 hc rfl (by decide) (fun s32 hc => ?_)
  unfold f_X12_init_140
  rw [cb_nx hc]
  refine cb_arr 2000 hc rfl rfl (fun s33 hc => ?_)
  unfold f_X12_init_146
  refine cb_pP 242 12 27 259 hc rfl (by decide) (fun s34 hc => ?_)
  unfold f_X12_init_149
  rw [cb_nx hc]
  refine cb_arr 150 hc rfl rfl (fun s35 hc => ?_)
  unfold f_X12_init_155
  refine cb_pP 242 12 28 260 hc rfl (by decide) (fun s36 hc => ?_)
  unfold f_X12_init_158
  rw [cb_nx hc]
  refine cb_arr 12 hc rfl rfl (fun s37 hc => ?_)
  unfold f_X12_init_163
  refine cb_pP 242 12 29 261 hc rfl (by decide) (fun s38 hc => ?_)
  unfold f_X12_init_166
  rw [cb_nx hc]
  refine cb_arr 12 hc rfl rfl (fun s39 hc => ?_)
  unfold f_X12_init_171
  refine cb_pP 242 12 30 262 hc rfl (by decide) (fun s40 hc => ?_)
  unfold f_X12_init_174
  rw [cb_nx hc]
  refine cb_arr 12 hc rfl rfl (fun s41 hc => ?_)
  unfold f_X12_init_179
  refine cb_pP 242 12 31 263 hc rfl (by decide) (fun s42 hc => ?_)
  unfold f_X12_init_182
  refine cb_partner (by decide) rfl 60 0 _ _ rfl (by omega) ?_
  exact cb_zero hc (funext fun k => Eq.trans (b := (0 : Int32)) rfl (if_neg (by omega)).symm)
/-- the constructors have run: the start of the law's loop -/
def RS0 : List (Nat × Nat) := [(223, 4), (203, 14), (140, 60), (78, 60), (69, 4), (58, 9), (53, 3), (42, 9), (32, 4), (21, 9), (16, 3), (5, 9)]
def QS0 : List (Nat × Nat × Nat) := [(235, 11, 241), (235, 10, 241), (235, 9, 241), (235, 8, 241), (235, 7, 241), (235, 6, 241), (235, 5, 241), (235, 4, 241), (235, 3, 241), (235, 2, 241), (235, 1, 241), (235, 0, 241), (0, 11, 240), (201, 6, 218), (40, 7, 76), (3, 7, 39)]
def FI0 : Nat → Nat → Int32 := (va_up (va_up (va_up (va_up (va_up (fun _ _ => 0) 38 (fun k => if k < 60 then (-1) else (fun _ _ => 0) 38 k)) 75 (fun k => if k < 60 then (-1) else (va_up (fun _ _ => 0) 38 (fun k => if k < 60 then (-1) else (fun _ _ => 0) 38 k)) 75 k)) 241 (va_up ((va_up (va_up (fun _ _ => 0) 38 (fun k => if k < 60 then (-1) else (fun _ _ => 0) 38 k)) 75 (fun k => if k < 60 then (-1) else (va_up (fun _ _ => 0) 38 (fun k => if k < 60 then (-1) else (fun _ _ => 0) 38 k)) 75 k)) 241) 1 50)) 241 (va_up ((va_up (va_up (va_up (fun _ _ => 0) 38 (fun k => if k < 60 then (-1) else (fun _ _ => 0) 38 k)) 75 (fun k => if k < 60 then (-1) else (va_up (fun _ _ => 0) 38 (fun k => if k < 60 then (-1) else (fun _ _ => 0) 38 k)) 75 k)) 241 (va_up ((va_up (va_up (fun _ _ => 0) 38 (fun k => if k < 60 then (-1) else (fun _ _ => 0) 38 k)) 75 (fun k => if k < 60 then (-1) else (va_up (fun _ _ => 0) 38 (fun k => if k < 60 then (-1) else (fun _ _ => 0) 38 k)) 75 k)) 241) 1 50)) 241) 2 200)) 243 (fun k => if 9582 ≤ k ∧ k < 9642 then (-1) else 0))
theorem ct_all {M z : Nat} : Rn ((f_X11_init (M + 200) z (nObj (as0 z) 11)).bind fun s => (f_X12_init (M + 200) (z + 242) (nObj (s.1, s.2) 12))) (fun s => CB s z 264 75638 [(242, 31, 263), (242, 30, 262), (242, 29, 261), (242, 28, 260), (242, 27, 259), (242, 26, 258), (242, 25, 257), (242, 23, 256), (242, 22, 255), (242, 18, 254), (242, 17, 253), (242, 15, 252), (242, 14, 251), (242, 13, 250), (242, 12, 249), (242, 11, 248), (242, 9, 247), (242, 7, 246), (242, 6, 245), (242, 1, 244), (242, 0, 243), (241, 0, 1), (0, 10, 239), (0, 9, 238), (0, 8, 237), (0, 7, 236), (0, 6, 235), (0, 5, 221), (221, 2, 201), (221, 1, 77), (221, 0, 3), (221, 11, 234), (221, 10, 233), (221, 9, 232), (221, 7, 231), (221, 6, 230), (221, 5, 229), (221, 4, 228), (221, 3, 222), (222, 0, 223), (0, 4, 201), (201, 1, 77), (201, 0, 3), (201, 9, 220), (201, 8, 219), (201, 5, 203), (201, 2, 202), (0, 3, 77), (77, 0, 3), (77, 3, 140), (77, 2, 139), (77, 1, 78), (0, 2, 40), (40, 6, 75), (40, 5, 74), (40, 4, 68), (68, 0, 69), (40, 3, 57), (57, 0, 58), (40, 2, 52), (52, 0, 53), (40, 1, 41), (41, 0, 42), (0, 1, 3), (3, 6, 38), (3, 5, 37), (3, 4, 31), (31, 0, 32), (3, 3, 20), (20, 0, 21), (3, 2, 15), (15, 0, 16), (3, 1, 4), (4, 0, 5), (0, 0, 1), (1, 0, 2)] RS0 QS0 FI0) := by
  refine rn_bind (ct_X11_init_0 (cb_obj 11 cb_0 rfl)) (fun s hc => ?_)
  exact ct_X12_init_0 (cb_obj 12 hc rfl)
/-! 43.tab.lean.txt -/
/-! tables. A ghost ow says of each cell whose row it is: 16 o + c + 1 for column c of the table at z + o, 0 for what is no row -/
def cOl : List Nat := [0, 0, 0, 0, 0, 0, 65, 66, 67, 68, 69, 70, 71, 72, 73, 0, 0, 241, 242, 243, 0, 0, 321, 322, 323, 324, 325, 326, 327, 328, 329, 0, 0, 497, 498, 499, 500, 0, 0, 49, 0, 0, 0, 657, 658, 659, 660, 661, 662, 663, 664, 665, 0, 0, 833, 834, 835, 0, 0, 913, 914, 915, 916, 917, 918, 919, 920, 921, 0, 0, 1089, 1090, 1091, 1092, 0, 0, 641, 0, 0, 0, 0, 0, 0, 0, 0, 0, 0, 0, 0, 0, 0, 0, 0, 0, 0, 0, 0, 0, 0, 0, 0, 0, 0, 0, 0, 0, 0, 0, 0, 0, 0, 0, 0, 0, 0, 0, 0, 0, 0, 0, 0, 0, 0, 0, 0, 0, 0, 0, 0, 0, 0, 0, 0, 0, 0, 0, 0, 0, 0, 0, 0, 0, 0, 0, 0, 0, 0, 0, 0, 0, 0, 0, 0, 0, 0, 0, 0, 0, 0, 0, 0, 0, 0, 0, 0, 0, 0, 0, 0, 0, 0, 0, 0, 0, 0, 0, 0, 0, 0, 0, 0, 0, 0, 0, 0, 0, 0, 0, 0, 0, 0, 0, 0, 0, 0, 0, 0, 0, 0, 0, 0, 0, 0, 0, 0, 0, 0, 0, 0, 0, 0, 0, 0, 0, 0, 0, 0, 0, 3217, 0, 0, 0, 0, 0, 3553, 3554, 3555, 3556, 0, 0, 0, 0, 0, 0, 0, 0, 0, 0, 0, 0, 1, 0, 0, 0, 0, 0, 0, 0, 0, 0, 0, 0, 0, 0, 0, 0, 0, 0, 0, 0, 0, 0, 0, 0]
def tck (o nc : Nat) : Bool := Nat.blt (o + 1) 264 && (Nat.beq (cTl.getD o 99) 18 && (Nat.beq (cTl.getD (o + 1) 99) 5 && (Nat.beq (cLl.getD (o + 1) 0) nc && (Nat.beq (cOl.getD o 1) 0 && (Nat.beq (cOl.getD (o + 1) 1) 0 && (Nat.ble nc 15 && cPt.contains (o, 0, o + 1)))))))
def OWS (ow : Nat → Nat) (z : Nat) : Prop := ∀ i, i < 264 → cOl.getD i 1 = 0 → ow (z + i) = 0
/-- the table at z + o has S rows with the values V; its columns have room L -/
def TB (sh : Sh) (d : Dt) (z : Nat) (ow : Nat → Nat) (o nc S : Nat) (V : Nat → Nat → Int32) (L : Nat → Nat) : Prop :=
  d.1 (z + o) 1 = nI S ∧ ∀ c, c < nc → ∃ a, d.2.2.2 (z + (o + 1)) c = some a ∧ ow a = 16 * o + c + 1 ∧ isA sh a 0 ∧ sh.2.2.1 a = L c ∧ S ≤ L c ∧ (4 ≤ L c ∧ L c < 2 ^ 20) ∧ ∀ i, i < S → d.1 a i = V c i
/-- what a change of the table at z + o may touch -/
def TX (z : Nat) (ow : Nat → Nat) (o : Nat) : Nat → Prop := fun a => a = z + o ∨ a = z + (o + 1) ∨ (1 ≤ ow a ∧ (ow a - 1) / 16 = o)
def FD (X : Nat → Prop) (d d' : Dt) : Prop := ∀ a, ¬ X a → d'.1 a = d.1 a ∧ d'.2.1 a = d.2.1 a ∧ d'.2.2.1 a = d.2.2.1 a ∧ d'.2.2.2 a = d.2.2.2 a
/-- from s to s' cells may be new, and of the old ones only those of X have other contents -/
def ES (X : Nat → Prop) (s : AS) (ow : Nat → Nat) (s' : AS) (ow' : Nat → Nat) : Prop := s'.1.1.1 = s.1.1.1 ∧ s.1.1.2.1 ≤ s'.1.1.2.1 ∧ ∀ a, a < s.1.1.2.1 → s'.1.2.1 a = s.1.2.1 a ∧ s'.1.2.2.1 a = s.1.2.2.1 a ∧ s'.1.2.2.2 a = s.1.2.2.2 a ∧ ow' a = ow a ∧ (¬ X a → s'.2.1 a = s.2.1 a ∧ s'.2.2.1 a = s.2.2.1 a ∧ s'.2.2.2.1 a = s.2.2.2.1 a ∧ s'.2.2.2.2 a = s.2.2.2.2 a)
theorem ES.rf {X : Nat → Prop} {s : AS} {ow : Nat → Nat} : ES X s ow s ow := ⟨rfl, Nat.le_refl _, fun _ _ => ⟨rfl, rfl, rfl, rfl, fun _ => ⟨rfl, rfl, rfl, rfl⟩⟩⟩
theorem ES.tr {X Y : Nat → Prop} {s s1 s2 : AS} {ow ow1 ow2 : Nat → Nat} (h1 : ES X s ow s1 ow1) (h2 : ES Y s1 ow1 s2 ow2) (hXY : ∀ a, a < s.1.1.2.1 → Y a → X a) : ES X s ow s2 ow2 := by
  refine ⟨h2.1.trans h1.1, Nat.le_trans h1.2.1 h2.2.1, fun a ha => ?_⟩
  have q1 := h1.2.2 a ha
  have q2 := h2.2.2 a (Nat.lt_of_lt_of_le ha h1.2.1)
  refine ⟨q2.1.trans q1.1, q2.2.1.trans q1.2.1, q2.2.2.1.trans q1.2.2.1, q2.2.2.2.1.trans q1.2.2.2.1, fun hX => ?_⟩
  have r1 := q1.2.2.2.2 hX
  have r2 := q2.2.2.2.2 (fun hy => hX (hXY a ha hy))
  exact ⟨r2.1.trans r1.1, r2.2.1.trans r1.2.1, r2.2.2.1.trans r1.2.2.1, r2.2.2.2.trans r1.2.2.2⟩
theorem ES.mono {X Y : Nat → Prop} {s s' : AS} {ow ow' : Nat → Nat} (h : ES X s ow s' ow') (hXY : ∀ a, a < s.1.1.2.1 → X a → Y a) : ES Y s ow s' ow' := ⟨h.1, h.2.1, fun a ha => ⟨(h.2.2 a ha).1, (h.2.2 a ha).2.1, (h.2.2 a ha).2.2.1, (h.2.2 a ha).2.2.2.1, fun hY => (h.2.2 a ha).2.2.2.2 (fun hX => hY (hXY a ha hX))⟩⟩
theorem FD.es {X : Nat → Prop} {sh : Sh} {d d' : Dt} {ow : Nat → Nat} (h : FD X d d') : ES X (sh, d) ow (sh, d') ow := ⟨rfl, Nat.le_refl _, fun a _ => ⟨rfl, rfl, rfl, rfl, h a⟩⟩
theorem FD.rf {X : Nat → Prop} {d : Dt} : FD X d d := fun _ _ => ⟨rfl, rfl, rfl, rfl⟩
theorem FD.tr {X : Nat → Prop} {d d1 d2 : Dt} (h1 : FD X d d1) (h2 : FD X d1 d2) : FD X d d2 := fun a ha => ⟨(h2 a ha).1.trans (h1 a ha).1, (h2 a ha).2.1.trans (h1 a ha).2.1, (h2 a ha).2.2.1.trans (h1 a ha).2.2.1, (h2 a ha).2.2.2.trans (h1 a ha).2.2.2⟩
theorem FD.mono {X Y : Nat → Prop} {d d' : Dt} (h : FD X d d') (k : ∀ a, X a → Y a) : FD Y d d' := fun a ha => h a (fun q => ha (k a q))
theorem FD.wI {X : Nat → Prop} {d : Dt} {a k : Nat} {v : Int32} (h : X a) : FD X d (wI d a k v) := fun b hb => ⟨wI_n (fun e => hb (e ▸ h)), rfl, rfl, rfl⟩
theorem rn_val {α : Type} {o : Option α} {v : α} (h : Rn o (fun r => r = v)) : o = some v := by
  obtain ⟨r, e, rfl⟩ := h
  exact e
theorem KS.es {X : Nat → Prop} {s s' : AS} {ow ow' : Nat → Nat} {z : Nat} (h : KS s.1 z) (e : ES X s ow s' ow') : KS s'.1 z := by
  obtain ⟨h1, h2, h3, h4⟩ := h
  have e2 := e.2.1
  refine ⟨e.1.trans h1, by omega, fun i hi => ?_, fun q hq => ?_⟩
  · have q := e.2.2 (z + i) (by omega)
    rw [q.1, q.2.1]
    exact h3 i hi
  · have hb : q.1 < 264 := by
      have := List.all_eq_true.mp (show cPt.all (fun q => Nat.blt q.1 264) = true by decide) q hq
      exact Nat.le_of_ble_eq_true this
    rw [(e.2.2 (z + q.1) (by omega)).2.2.1]
    exact h4 q hq
theorem OWS.es {X : Nat → Prop} {s s' : AS} {ow ow' : Nat → Nat} {z : Nat} (h : OWS ow z) (hk : KS s.1 z) (e : ES X s ow s' ow') : OWS ow' z := fun i hi hc => by
  have := hk.2.1
  rw [(e.2.2 (z + i) (by omega)).2.2.2.1]
  exact h i hi hc
section TBS
variable {β : Type} {Q : β → Prop} {sh : Sh} {d : Dt} {z : Nat} {ow : Nat → Nat} {o nc S : Nat} {V : Nat → Nat → Int32} {L : Nat → Nat} {N : Nat}
theorem tck_1 (h : tck o nc = true) : (Nat.blt o 264 && Nat.beq (cTl.getD o 99) (10 + 8)) = true := by
  simp only [tck, Bool.and_eq_true] at h
  rw [Bool.and_eq_true]
  exact ⟨Nat.ble_eq_true_of_le (by have := Nat.le_of_ble_eq_true h.1; omega), h.2.1⟩
theorem tck_2 (h : tck o nc = true) : (Nat.blt (o + 1) 264 && (Nat.beq (cTl.getD (o + 1) 99) 5 && Nat.beq (cLl.getD (o + 1) 0) nc)) = true := by
  simp only [tck, Bool.and_eq_true] at h
  rw [Bool.and_eq_true, Bool.and_eq_true]
  exact ⟨h.1, h.2.2.1, h.2.2.2.1⟩
theorem tck_3 (h : tck o nc = true) : (o, 0, o + 1) ∈ cPt := by
  simp only [tck, Bool.and_eq_true] at h
  exact List.contains_iff_mem.mp h.2.2.2.2.2.2.2
theorem tck_n (h : tck o nc = true) : nc ≤ 15 ∧ o + 1 < 264 := by
  simp only [tck, Bool.and_eq_true] at h
  exact ⟨Nat.le_of_ble_eq_true h.2.2.2.2.2.2.1, Nat.le_of_ble_eq_true h.1⟩
theorem tck_o (h : tck o nc = true) (hw : OWS ow z) : ow (z + o) = 0 ∧ ow (z + (o + 1)) = 0 := by
  have hn := tck_n h
  simp only [tck, Bool.and_eq_true] at h
  exact ⟨hw o (by omega) (Nat.eq_of_beq_eq_true h.2.2.2.2.1), hw (o + 1) (by omega) (Nat.eq_of_beq_eq_true h.2.2.2.2.2.1)⟩
theorem tb_size (ht : TB sh d z ow o nc S V L) (h0 : 0 < nc) : S < 2 ^ 20 := by
  obtain ⟨a, -, -, -, -, h1, h2, -⟩ := ht.2 0 h0
  omega
theorem tb_get {row col : Int32} {i c : Nat} (h : KS sh z) (hk : tck o nc = true) (ht : TB sh d z ow o nc S V L) (hr : row = nI i) (hi : i < S) (hl : col = nI c) (hc : c < nc) : f_X8_get N sh (z + o) row col d = some (V c i) := by
  subst hr
  subst hl
  obtain ⟨hS, ht⟩ := ht
  obtain ⟨a, ha, hw, hA, hL, hSL, hLb, hV⟩ := ht c hc
  have hn := tck_n hk
  refine rn_val ?_
  unfold f_X8_get
  refine rn_t (ks_o h o 8 (tck_1 hk)) ?_
  refine rn_f (nI_pos (by omega)) ?_
  refine r_gI h (tck_1 hk) ?_
  rw [hS]
  refine rn_f (nI_ge hi (by omega)) ?_
  refine rn_f (nI_pos (by omega)) ?_
  refine r_gP h o 8 0 (o + 1) (tck_1 hk) (tck_3 hk) ?_
  refine rn_eq (q_len (ks_a h (o + 1) 5 nc (tck_2 hk)) (by decide)) ?_
  refine rn_f (nI_ge hc (by omega)) ?_
  refine r_gP h o 8 0 (o + 1) (tck_1 hk) (tck_3 hk) ?_
  refine rn_eq (q_aQ (ks_a h (o + 1) 5 nc (tck_2 hk)) c a rfl hc (by omega) ha) ?_
  refine rn_eq (q_aT ⟨hA, hL⟩ i rfl (by omega) (by omega)) ?_
  exact rn_some (hV i hi)
theorem tb_get_no {row col : Int32} (h : KS sh z) (hk : tck o nc = true) (ht : TB sh d z ow o nc S V L) (hr : row < 0 ∨ nI S ≤ row) : f_X8_get N sh (z + o) row col d = some (-1) := by
  refine rn_val ?_
  unfold f_X8_get
  refine rn_t (ks_o h o 8 (tck_1 hk)) ?_
  refine rn_ite (fun _ => rn_some rfl) (fun h0 => ?_)
  refine r_gI h (tck_1 hk) ?_
  rw [ht.1]
  exact rn_t (hr.resolve_left h0) (rn_some rfl)
theorem tb_has {row : Int32} (h : KS sh z) (hk : tck o nc = true) (ht : TB sh d z ow o nc S V L) : f_X8_has N sh (z + o) row d = some (if row < 0 ∨ nI S ≤ row then 0 else 1) := by
  refine rn_val ?_
  unfold f_X8_has
  refine rn_t (ks_o h o 8 (tck_1 hk)) ?_
  refine rn_ite (fun h0 => ?_) (fun h0 => ?_)
  · rw [if_pos (Or.inl h0)]
    exact ⟨0, rfl, rfl⟩
  · refine r_gI h (tck_1 hk) ?_
    rw [ht.1]
    refine rn_ite (fun h1 => ?_) (fun h1 => ?_)
    · rw [if_pos (Or.inr h1)]
      exact ⟨0, rfl, rfl⟩
    · rw [if_neg (fun q => q.elim h0 h1)]
      exact ⟨1, rfl, rfl⟩
/-- a row's cell is no static one -/
theorem row_ne {a c i : Nat} (hw : OWS ow z) (ha : ow a = 16 * o + c + 1) (hi : i < 264) (hc : cOl.getD i 1 = 0) : z + i ≠ a := fun e => by
  have := hw i hi hc
  rw [e, ha] at this
  omega
theorem tb_wI {a i c : Nat} {v : Int32} (hw : OWS ow z) (hk : tck o nc = true) (ht : TB sh d z ow o nc S V L) (hc : c < nc) (ha : d.2.2.2 (z + (o + 1)) c = some a) (hi : i < S) : TB sh (wI d a i v) z ow o nc S (fun c' i' => if c' = c ∧ i' = i then v else V c' i') L ∧ FD (TX z ow o) d (wI d a i v) := by
  have hn := tck_n hk
  have ho := tck_o hk hw
  obtain ⟨hS, ht⟩ := ht
  obtain ⟨a', ha', hwa, hA, hL, hSL, hLb, hV⟩ := ht c hc
  rw [ha] at ha'
  cases ha'
  refine ⟨⟨?_, fun c' hc' => ?_⟩, FD.wI (Or.inr (Or.inr ⟨by omega, by omega⟩))⟩
  · rw [wI_n]
    · exact hS
    · intro e
      rw [e] at ho
      omega
  · obtain ⟨b, hb, hwb, hAb, hLb2, hSb, hLb3, hVb⟩ := ht c' hc'
    refine ⟨b, hb, hwb, hAb, hLb2, hSb, hLb3, fun i' hi' => ?_⟩
    show (wI d a i v).1 b i' = (if c' = c ∧ i' = i then v else V c' i')
    by_cases e : c' = c
    · subst e
      rw [ha] at hb
      cases hb
      rw [wI_s]
      by_cases e2 : i' = i
      · subst e2
        rw [va_up_s, if_pos ⟨rfl, rfl⟩]
      · rw [va_up_n e2, if_neg (fun q => e2 q.2)]
        exact hVb i' hi'
    · rw [wI_n, if_neg (fun q => e q.1)]
      · exact hVb i' hi'
      · intro e3
        rw [e3] at hwb
        omega
theorem tb_put {row col v : Int32} {i c : Nat} (h : KS sh z) (hw : OWS ow z) (hk : tck o nc = true) (ht : TB sh d z ow o nc S V L) (hr : row = nI i) (hi : i < S) (hl : col = nI c) (hc : c < nc) : Rn (f_X8_put N sh (z + o) row col v d) (fun d' => TB sh d' z ow o nc S (fun c' i' => if c' = c ∧ i' = i then v else V c' i') L ∧ FD (TX z ow o) d d') := by
  subst hr
  subst hl
  have ht0 := ht
  obtain ⟨hS, ht⟩ := ht
  obtain ⟨a, ha, hwa, hA, hL, hSL, hLb, hV⟩ := ht c hc
  have hn := tck_n hk
  unfold f_X8_put
  refine rn_t (ks_o h o 8 (tck_1 hk)) ?_
  refine rn_f (nI_pos (by omega)) ?_
  refine r_gI h (tck_1 hk) ?_
  rw [hS]
  refine rn_f (nI_ge hi (by omega)) ?_
  refine rn_f (nI_pos (by omega)) ?_
  refine r_gP h o 8 0 (o + 1) (tck_1 hk) (tck_3 hk) ?_
  refine rn_eq (q_len (ks_a h (o + 1) 5 nc (tck_2 hk)) (by decide)) ?_
  refine rn_f (nI_ge hc (by omega)) ?_
  refine r_gP h o 8 0 (o + 1) (tck_1 hk) (tck_3 hk) ?_
  refine rn_eq (q_aQ (ks_a h (o + 1) 5 nc (tck_2 hk)) c a rfl hc (by omega) ha) ?_
  refine rn_eq (q_sI ⟨hA, hL⟩ i rfl (by omega) (by omega)) ?_
  exact rn_some (tb_wI hw hk ht0 hc ha hi)
/-- a put outside changes nothing -/
theorem tb_put_no {row col v : Int32} (h : KS sh z) (hk : tck o nc = true) (ht : TB sh d z ow o nc S V L) (hr : row < 0 ∨ nI S ≤ row) : f_X8_put N sh (z + o) row col v d = some d := by
  refine rn_val ?_
  unfold f_X8_put
  refine rn_t (ks_o h o 8 (tck_1 hk)) ?_
  refine rn_ite (fun _ => rn_some rfl) (fun h0 => ?_)
  refine r_gI h (tck_1 hk) ?_
  rw [ht.1]
  exact rn_t (hr.resolve_left h0) (rn_some rfl)
theorem tb_raise {row col v : Int32} {i c : Nat} (h : KS sh z) (hw : OWS ow z) (hk : tck o nc = true) (ht : TB sh d z ow o nc S V L) (hr : row = nI i) (hi : i < S) (hl : col = nI c) (hc : c < nc) : Rn (f_X8_raise N sh (z + o) row col v d) (fun d' => TB sh d' z ow o nc S (fun c' i' => if c' = c ∧ i' = i then V c i + v else V c' i') L ∧ FD (TX z ow o) d d') := by
  unfold f_X8_raise
  refine rn_t (ks_o h o 8 (tck_1 hk)) ?_
  refine rn_eq (tb_get h hk ht hr hi hl hc) ?_
  refine rn_bind (tb_put h hw hk ht hr hi hl hc) (fun d' hd => ?_)
  exact rn_some hd
/-- another table is left -/
theorem tb_fr {d' : Dt} {o2 nc2 S2 : Nat} {V2 : Nat → Nat → Int32} {L2 : Nat → Nat} (hw : OWS ow z) (hk : tck o nc = true) (hk2 : tck o2 nc2 = true) (hne : o + 1 < o2 ∨ o2 + 1 < o) (ht : TB sh d z ow o2 nc2 S2 V2 L2) (hf : FD (TX z ow o) d d') : TB sh d' z ow o2 nc2 S2 V2 L2 := by
  have h1 := tck_o hk2 hw
  have h2 := tck_n hk2
  obtain ⟨hS, ht⟩ := ht
  refine ⟨?_, fun c hc => ?_⟩
  · rw [(hf (z + o2) (fun q => ?_)).1]
    · exact hS
    · rcases q with q | q | q <;> omega
  · obtain ⟨a, ha, hwa, hA, hL, hSL, hLb, hV⟩ := ht c hc
    refine ⟨a, ?_, hwa, hA, hL, hSL, hLb, fun i hi => ?_⟩
    · rw [(hf (z + (o2 + 1)) (fun q => ?_)).2.2.2]
      · exact ha
      · rcases q with q | q | q <;> omega
    · rw [(hf a (fun q => ?_)).1]
      · exact hV i hi
      · have h3 := tck_o hk hw
        rcases q with q | q | q
        · rw [q] at hwa
          omega
        · rw [q] at hwa
          omega
        · omega
end TBS
/-! 44.widen.lean.txt -/
def smN (f : Nat → Nat) : Nat → Nat
  | 0 => 0
  | n + 1 => smN f n + f n
theorem smN_out {f : Nat → Nat} {c v : Nat} : ∀ n, n ≤ c → smN (va_up f c v) n = smN f n
  | 0, _ => rfl
  | n + 1, h => by
    show smN (va_up f c v) n + va_up f c v n = smN f n + f n
    rw [smN_out n (by omega), va_up_n (by omega)]
theorem smN_up {f : Nat → Nat} {c v : Nat} : ∀ n, c < n → smN (va_up f c v) n + f c = smN f n + v
  | 0, h => absurd h (Nat.not_lt_zero c)
  | n + 1, h => by
    show smN (va_up f c v) n + va_up f c v n + f c = smN f n + f n + v
    rcases Nat.lt_or_ge c n with q | q
    · have := smN_up (f := f) (v := v) n q
      rw [va_up_n (by omega)]
      omega
    · have e : c = n := by omega
      subst e
      rw [smN_out c (Nat.le_refl _), va_up_s]
      omega
theorem smN_le {f g : Nat → Nat} : ∀ n, (∀ k, k < n → f k ≤ g k) → smN f n ≤ smN g n
  | 0, _ => Nat.le_refl _
  | n + 1, h => Nat.add_le_add (smN_le n (fun k hk => h k (by omega))) (h n (by omega))
theorem smN_const {c : Nat} : ∀ n, smN (fun _ => c) n = n * c
  | 0 => by rw [Nat.zero_mul]; rfl
  | n + 1 => by
    show smN (fun _ => c) n + c = (n + 1) * c
    rw [smN_const n, Nat.succ_mul]
theorem o_min_nI {a b : Nat} (ha : a < 2 ^ 31) (hb : b < 2 ^ 31) : o_min (nI a) (nI b) = nI (min a b) := by
  unfold o_min
  by_cases h : b < a
  · rw [if_pos (nI_lt h ha), Nat.min_eq_right (by omega)]
  · rw [if_neg (nI_nlt (by omega) hb), Nat.min_eq_left (by omega)]
theorem o_max_nI {a b : Nat} (ha : a < 2 ^ 31) (hb : b < 2 ^ 31) : o_max (nI a) (nI b) = nI (max a b) := by
  unfold o_max
  by_cases h : a < b
  · rw [if_pos (nI_lt h hb), Nat.max_eq_right (by omega)]
  · rw [if_neg (nI_nlt (by omega) ha), Nat.max_eq_left (by omega)]
section PU
variable {s : AS} {t n m a : Nat}
theorem push_A {t2 l : Nat} (h : isA s.1 a t2 ∧ s.1.2.2.1 a = l) : isA (push s t n m).1 a t2 ∧ (push s t n m).1.2.2.1 a = l := by
  obtain ⟨⟨h1, h2, h3⟩, h4⟩ := h
  have ne : a ≠ s.1.1.2.1 := by omega
  refine ⟨⟨h1, Nat.lt_succ_of_lt h2, ?_⟩, ?_⟩
  · show va_up s.1.2.1 s.1.1.2.1 t a = t2
    rw [va_up_n ne]
    exact h3
  · show va_up s.1.2.2.1 s.1.1.2.1 n a = l
    rw [va_up_n ne]
    exact h4
theorem push_N (h : s.1.1.1 ≤ s.1.1.2.1) : isA (push s t n m).1 s.1.1.2.1 t ∧ (push s t n m).1.2.2.1 s.1.1.2.1 = n := ⟨⟨h, Nat.lt_succ_self _, va_up_s⟩, va_up_s⟩
theorem push_es {X : Nat → Prop} {ow : Nat → Nat} {q : Nat} : ES X s ow (push s t n m) (va_up ow s.1.1.2.1 q) := by
  refine ⟨rfl, Nat.le_succ _, fun a ha => ?_⟩
  have ne : a ≠ s.1.1.2.1 := by omega
  exact ⟨va_up_n ne, va_up_n ne, va_up_n ne, va_up_n ne, fun _ => ⟨va_up_n ne, va_up_n ne, va_up_n ne, va_up_n ne⟩⟩
end PU
/-- Arrays.copyOf of ints, to another length -/
theorem copyOf_eq {N : Nat} {s : AS} {a l m : Nat} (ha : isA s.1 a 0 ∧ s.1.2.2.1 a = l) (hne : l ≠ m) (hl : l < 2 ^ 20) (hm : m < 2 ^ 20) : f_J7_copyOf_59c91 N a (nI m) s = some (s.1.1.2.1, ((push s 0 m m).1, (va_up (push s 0 m m).2.1 s.1.1.2.1 (fun k => if k < min l m then s.2.1 a k else 0), (push s 0 m m).2.2))) := by
  have hz : s.1.1.1 ≤ s.1.1.2.1 := by have := ha.1.1; have := ha.1.2.1; omega
  have hlt : a < s.1.1.2.1 := ha.1.2.1
  have hA := push_A (t := 0) (n := m) (m := m) ha
  have hB := push_N (s := s) (t := 0) (n := m) (m := m) hz
  refine rn_val ?_
  unfold f_J7_copyOf_59c91
  refine rn_eq (q_len ha (by decide)) ?_
  refine rn_t (fun e => hne ((nI_eq (by omega) (by omega)).mp e).symm) ?_
  refine rn_eq (v := push s 0 m m) ?_ ?_
  · unfold nArr
    rw [nI_clamp (by omega), if_pos ⟨nI_pos (by omega), hm⟩]
  unfold f_J7_copyOf_59c91_17
  refine rn_eq (q_len hA (by decide)) ?_
  rw [o_min_nI (by omega) (by omega)]
  refine rn_eq (v := (va_up (push s 0 m m).2.1 s.1.1.2.1 (fun k => if k < min l m then s.2.1 a k else 0), (push s 0 m m).2.2)) ?_ (rn_some rfl)
  unfold cpy
  rw [if_neg (by rw [hA.1.2.2]; decide), if_neg (by rw [hA.1.2.2]; decide)]
  unfold cpI
  rw [hA.2, hB.2]
  have e0 : (0 : Int32).toNatClampNeg = 0 := by decide
  rw [e0, nI_clamp (by omega), if_pos ⟨hA.1, hB.1, by decide, by decide, nI_pos (by omega), by omega, by omega⟩]
  congr 2
  have e1 : (push s 0 m m).2.1 a = s.2.1 a := va_up_n (by omega)
  have e2 : (push s 0 m m).2.1 s.1.1.2.1 = fun _ => 0 := va_up_s
  rw [e1, e2]
  congr 1
  funext k
  show (if 0 ≤ k ∧ k < 0 + min l m then s.2.1 a (0 + (k - 0)) else 0) = _
  by_cases h : k < min l m
  · rw [if_pos (by omega), if_pos h, Nat.sub_zero, Nat.zero_add]
  · rw [if_neg (by omega), if_neg h]
theorem widen_loop {N z o nc S rows : Nat} {V : Nat → Nat → Int32} (hk : tck o nc = true) (hrow : rows < 2 ^ 19) : ∀ (m c fu : Nat) (s : AS) (ow L : Nat → Nat), c + m = nc → m < fu → KS s.1 z → OWS ow z → TB s.1 s.2 z ow o nc S V L → (∀ j, j < c → rows ≤ L j) →
    Rn (f_X8_widen_2 N fu (z + o) (nI rows) (nI c) s) (fun s' => ∃ ow' L', ES (TX z ow o) s ow s' ow' ∧ TB s'.1 s'.2 z ow' o nc S V L' ∧ (∀ j, j < nc → rows ≤ L' j ∧ L j ≤ L' j ∧ L' j ≤ max (L j) (2 * rows)) ∧ s'.1.1.2.2 + 2 * smN L nc ≤ s.1.1.2.2 + 2 * smN L' nc ∧ 4 * s'.1.1.2.1 + smN L nc ≤ 4 * s.1.1.2.1 + smN L' nc)
  | 0, c, fu, s, ow, L, hc, hf, hK, hw, ht, hj => by
    obtain ⟨fu, rfl⟩ : ∃ q, fu = q + 1 := ⟨fu - 1, by omega⟩
    show Rn (g_X8_widen_2 N (f_X8_widen_2 N fu) (z + o) (nI rows) (nI c) s) _
    unfold g_X8_widen_2
    have hn := tck_n hk
    refine r_gP hK o 8 0 (o + 1) (tck_1 hk) (tck_3 hk) ?_
    refine rn_eq (q_len (ks_a hK (o + 1) 5 nc (tck_2 hk)) (by decide)) ?_
    refine rn_t (nI_le (by omega) (by omega)) ?_
    exact rn_some ⟨ow, L, ES.rf, ht, fun j hj9 => ⟨hj j (by omega), Nat.le_refl _, Nat.le_max_left _ _⟩, Nat.le_refl _, Nat.le_refl _⟩
  | m + 1, c, fu, s, ow, L, hc, hf, hK, hw, ht, hj => by
    obtain ⟨fu, rfl⟩ : ∃ q, fu = q + 1 := ⟨fu - 1, by omega⟩
    show Rn (g_X8_widen_2 N (f_X8_widen_2 N fu) (z + o) (nI rows) (nI c) s) _
    unfold g_X8_widen_2
    have hn := tck_n hk
    have hz := hK.2.1
    have hcn : c < nc := by omega
    obtain ⟨hS, ht9⟩ := id ht
    obtain ⟨a, ha, hwa, hA, hL, hSL, hLb, hV⟩ := ht9 c hcn
    have hlt : a < s.1.1.2.1 := hA.2.1
    refine r_gP hK o 8 0 (o + 1) (tck_1 hk) (tck_3 hk) ?_
    refine rn_eq (q_len (ks_a hK (o + 1) 5 nc (tck_2 hk)) (by decide)) ?_
    refine rn_f (nI_ge hcn (by omega)) ?_
    refine r_gP hK o 8 0 (o + 1) (tck_1 hk) (tck_3 hk) ?_
    refine rn_eq (q_aQ (ks_a hK (o + 1) 5 nc (tck_2 hk)) c a rfl hcn (by omega) ha) ?_
    refine rn_eq (q_len ⟨hA, hL⟩ (by decide)) ?_
    by_cases hle : rows ≤ L c
    · refine rn_t (nI_le hle (by omega)) ?_
      unfold f_X8_widen_50
      rw [nI_1]
      exact widen_loop hk hrow m (c + 1) fu s ow L (by omega) (by omega) hK hw ht (fun j hj9 => by
        rcases Nat.lt_or_ge j c with q | q
        · exact hj j q
        · have e : j = c := by omega
          rw [e]
          exact hle)
    · refine rn_f (nI_ge (by omega) (by omega)) ?_
      refine r_gP hK o 8 0 (o + 1) (tck_1 hk) (tck_3 hk) ?_
      refine r_gP hK o 8 0 (o + 1) (tck_1 hk) (tck_3 hk) ?_
      refine rn_eq (q_aQ (ks_a hK (o + 1) 5 nc (tck_2 hk)) c a rfl hcn (by omega) ha) ?_
      refine r_gP hK o 8 0 (o + 1) (tck_1 hk) (tck_3 hk) ?_
      refine rn_eq (q_aQ (ks_a hK (o + 1) 5 nc (tck_2 hk)) c a rfl hcn (by omega) ha) ?_
      refine rn_eq (q_len ⟨hA, hL⟩ (by decide)) ?_
      have e2 : o_max (nI rows) ((2 : Int32) * nI (L c)) = nI (max rows (2 * L c)) := by
        rw [show (2 : Int32) = nI 2 from rfl, pk_mul, o_max_nI (by omega) (by omega)]
      rw [e2]
      have hm1 : max rows (2 * L c) < 2 ^ 20 := by omega
      have hm2 : L c + 4 ≤ max rows (2 * L c) := by omega
      refine rn_eq (copyOf_eq (s := s) ⟨hA, hL⟩ (by omega) (by omega) hm1) ?_
      generalize hmm : max rows (2 * L c) = mm at hm1 hm2 ⊢
      have hes := push_es (s := s) (t := 0) (n := mm) (m := mm) (X := TX z ow o) (ow := ow) (q := 16 * o + c + 1)
      have hK1 : KS (push s 0 mm mm).1 z := KS.es hK hes
      have hN1 := push_N (s := s) (t := 0) (n := mm) (m := mm) (by have := hK.1; omega)
      unfold f_X8_widen_49
      refine rn_eq (v := wQ (va_up (push s 0 mm mm).2.1 s.1.1.2.1 (fun k => if k < min (L c) mm then s.2.1 a k else 0), (push s 0 mm mm).2.2) (z + (o + 1)) c s.1.1.2.1) ?_ ?_
      · have hsp := ks_a hK1 (o + 1) 5 nc (tck_2 hk)
        obtain ⟨q1, q2⟩ := in_of (x := nI c) rfl hcn (by omega : nc < 2 ^ 31)
        unfold sR
        show (if isA (push s 0 mm mm).1 (z + (o + 1)) 5 ∧ inA (nI c) ((push s 0 mm mm).1.2.2.1 (z + (o + 1))) ∧ isA (push s 0 mm mm).1 s.1.1.2.1 0 then _ else _) = _
        rw [hsp.2, if_pos ⟨hsp.1, q1, hN1.1⟩, q2]
        rfl
      unfold f_X8_widen_50
      rw [nI_1]
      -- the state behind this column
      have hes2 : ES (TX z ow o) s ow ((push s 0 mm mm).1, wQ (va_up (push s 0 mm mm).2.1 s.1.1.2.1 (fun k => if k < min (L c) mm then s.2.1 a k else 0), (push s 0 mm mm).2.2) (z + (o + 1)) c s.1.1.2.1) (va_up ow s.1.1.2.1 (16 * o + c + 1)) := by
        refine ⟨hes.1, hes.2.1, fun b hb => ?_⟩
        have r := hes.2.2 b hb
        refine ⟨r.1, r.2.1, r.2.2.1, r.2.2.2.1, fun hX => ?_⟩
        have r2 := r.2.2.2.2 hX
        refine ⟨?_, r2.2.1, r2.2.2.1, ?_⟩
        · show va_up (push s 0 mm mm).2.1 s.1.1.2.1 _ b = _
          rw [va_up_n (by omega)]
          exact r2.1
        · show up2 (push s 0 mm mm).2.2.2.2 (z + (o + 1)) c _ b = _
          rw [up2_n (fun e => hX (Or.inr (Or.inl e)))]
          exact r2.2.2.2
      have hK2 := KS.es hK hes2
      have hw2 := OWS.es hw hK hes2
      have ht2 : TB (push s 0 mm mm).1 (wQ (va_up (push s 0 mm mm).2.1 s.1.1.2.1 (fun k => if k < min (L c) mm then s.2.1 a k else 0), (push s 0 mm mm).2.2) (z + (o + 1)) c s.1.1.2.1) z (va_up ow s.1.1.2.1 (16 * o + c + 1)) o nc S V (va_up L c mm) := by
        refine ⟨?_, fun j hj9 => ?_⟩
        · show va_up (va_up s.2.1 s.1.1.2.1 (fun _ => 0)) s.1.1.2.1 _ (z + o) 1 = nI S
          rw [va_up_n (by omega), va_up_n (by omega)]
          exact hS
        · by_cases e : j = c
          · subst e
            refine ⟨s.1.1.2.1, ?_, va_up_s, hN1.1, ?_, ?_, ?_, fun i hi => ?_⟩
            · show up2 _ (z + (o + 1)) j (some s.1.1.2.1) (z + (o + 1)) j = _
              rw [up2_s]
              exact va_up_s
            · rw [hN1.2, va_up_s]
            · rw [va_up_s]
              omega
            · rw [va_up_s]
              exact ⟨by omega, hm1⟩
            · show va_up (push s 0 mm mm).2.1 s.1.1.2.1 _ s.1.1.2.1 i = _
              rw [va_up_s, if_pos (by omega)]
              exact hV i hi
          · obtain ⟨b, hb, hwb, hAb, hLb2, hSb, hLb3, hVb⟩ := ht9 j hj9
            have hbl : b < s.1.1.2.1 := hAb.2.1
            have hp := push_A (s := s) (t := 0) (n := mm) (m := mm) ⟨hAb, hLb2⟩
            rw [va_up_n e]
            refine ⟨b, ?_, ?_, hp.1, hp.2, hSb, hLb3, fun i hi => ?_⟩
            · show up2 (va_up s.2.2.2.2 s.1.1.2.1 (fun _ => none)) (z + (o + 1)) c (some s.1.1.2.1) (z + (o + 1)) j = _
              rw [up2_s, va_up_n e, va_up_n (by omega)]
              exact hb
            · rw [va_up_n (by omega)]
              exact hwb
            · show va_up (va_up s.2.1 s.1.1.2.1 (fun _ => 0)) s.1.1.2.1 _ b i = _
              rw [va_up_n (by omega), va_up_n (by omega)]
              exact hVb i hi
      refine rn_mono (widen_loop hk hrow m (c + 1) fu _ (va_up ow s.1.1.2.1 (16 * o + c + 1)) (va_up L c mm) (by omega) (by omega) hK2 hw2 ht2 (fun j hj9 => ?_)) (fun s' hs => ?_)
      · by_cases e : j = c
        · rw [e, va_up_s]
          omega
        · rw [va_up_n e]
          exact hj j (by omega)
      · obtain ⟨ow', L', h1, h2, h3, h4, h5⟩ := hs
        have hsm := smN_up (f := L) (c := c) (v := mm) nc hcn
        refine ⟨ow', L', hes2.tr h1 (fun b hb hX => ?_), h2, fun j hj9 => ?_, ?_, ?_⟩
        · have r : va_up ow s.1.1.2.1 (16 * o + c + 1) b = ow b := va_up_n (by omega)
          rcases hX with hX | hX | hX
          · exact Or.inl hX
          · exact Or.inr (Or.inl hX)
          · rw [r] at hX
            exact Or.inr (Or.inr hX)
        · have r := h3 j hj9
          by_cases e : j = c
          · subst e
            rw [va_up_s] at r
            omega
          · rw [va_up_n e] at r
            exact r
        · have r : (push s 0 mm mm).1.1.2.2 = s.1.1.2.2 + mm := rfl
          rw [r] at h4
          omega
        · have r : (push s 0 mm mm).1.1.2.1 = s.1.1.2.1 + 1 := rfl
          rw [r] at h5
          omega
/-! 45.grow.lean.txt -/
/-- the columns' rows stand, whatever they hold -/
def TR (sh : Sh) (d : Dt) (z : Nat) (ow : Nat → Nat) (o nc : Nat) (L : Nat → Nat) : Prop := ∀ c, c < nc → ∃ a, d.2.2.2 (z + (o + 1)) c = some a ∧ ow a = 16 * o + c + 1 ∧ isA sh a 0 ∧ sh.2.2.1 a = L c ∧ (4 ≤ L c ∧ L c < 2 ^ 20)
def TV (d : Dt) (z o c S : Nat) (V : Nat → Nat → Int32) : Prop := ∀ a, d.2.2.2 (z + (o + 1)) c = some a → ∀ i, i < S → d.1 a i = V c i
section GR
variable {sh : Sh} {d : Dt} {z : Nat} {ow : Nat → Nat} {o nc S : Nat} {V : Nat → Nat → Int32} {L : Nat → Nat} {N : Nat}
theorem TB.tr (h : TB sh d z ow o nc S V L) : TR sh d z ow o nc L := fun c hc => by
  obtain ⟨a, h1, h2, h3, h4, h5, h6, h7⟩ := h.2 c hc
  exact ⟨a, h1, h2, h3, h4, h6⟩
theorem TB.tv (h : TB sh d z ow o nc S V L) {c : Nat} (hc : c < nc) : TV d z o c S V := fun a ha => by
  obtain ⟨b, h1, h2, h3, h4, h5, h6, h7⟩ := h.2 c hc
  rw [ha] at h1
  cases h1
  exact h7
theorem tb_mk (h0 : d.1 (z + o) 1 = nI S) (h : TR sh d z ow o nc L) (hS : ∀ c, c < nc → S ≤ L c) (hV : ∀ c, c < nc → TV d z o c S V) : TB sh d z ow o nc S V L := ⟨h0, fun c hc => by
  obtain ⟨a, h1, h2, h3, h4, h5⟩ := h c hc
  exact ⟨a, h1, h2, h3, h4, hS c hc, h5, hV c hc a h1⟩⟩
/-- ints of one of the table's rows change -/
theorem tr_row {a c : Nat} {f : Nat → Int32} (hk : tck o nc = true) (hcn : c < nc) (h : TR sh d z ow o nc L) (ha : ow a = 16 * o + c + 1) : TR sh (va_up d.1 a f, d.2) z ow o nc L ∧ FD (TX z ow o) d (va_up d.1 a f, d.2) ∧ (∀ j, j < nc → j ≠ c → ∀ S V, TV d z o j S V → TV (va_up d.1 a f, d.2) z o j S V) := by
  have hn := tck_n hk
  refine ⟨h, fun b hb => ⟨va_up_n (fun e => hb (Or.inr (Or.inr (by rw [e, ha]; exact ⟨by omega, by omega⟩)))), rfl, rfl, rfl⟩, fun j hj hne S V hv b hb i hi => ?_⟩
  obtain ⟨b', h1, h2, -, -, -⟩ := h j hj
  have hb2 : d.2.2.2 (z + (o + 1)) j = some b := hb
  rw [hb2] at h1
  cases h1
  show va_up d.1 a f b i = _
  rw [va_up_n (fun e => by rw [e] at h2; omega)]
  exact hv b hb i hi
theorem cpy_I {src dst ls ld sp dp n : Nat} (h1 : isA sh src 0 ∧ sh.2.2.1 src = ls) (h2 : isA sh dst 0 ∧ sh.2.2.1 dst = ld) (b1 : sp + n ≤ ls) (b2 : dp + n ≤ ld) (b3 : ls < 2 ^ 31) (b4 : ld < 2 ^ 31) : cpy sh d src (nI sp) dst (nI dp) (nI n) = some (va_up d.1 dst (va_cpy (d.1 src) (d.1 dst) sp dp n), d.2) := by
  unfold cpy
  rw [if_neg (by rw [h1.1.2.2]; decide), if_neg (by rw [h1.1.2.2]; decide)]
  unfold cpI
  rw [h1.2, h2.2, nI_clamp (by omega), nI_clamp (by omega), nI_clamp (by omega), if_pos ⟨h1.1, h2.1, nI_pos (by omega), nI_pos (by omega), nI_pos (by omega), b1, b2⟩]
theorem tb_widen {rows : Nat} {s : AS} (hN : 16 ≤ N) (hk : tck o nc = true) (hrow : rows < 2 ^ 19) (hK : KS s.1 z) (hw : OWS ow z) (ht : TB s.1 s.2 z ow o nc S V L) : Rn (f_X8_widen N (z + o) (nI rows) s) (fun s' => ∃ ow' L', ES (TX z ow o) s ow s' ow' ∧ TB s'.1 s'.2 z ow' o nc S V L' ∧ (∀ j, j < nc → rows ≤ L' j ∧ L j ≤ L' j ∧ L' j ≤ max (L j) (2 * rows)) ∧ s'.1.1.2.2 + 2 * smN L nc ≤ s.1.1.2.2 + 2 * smN L' nc ∧ 4 * s'.1.1.2.1 + smN L nc ≤ 4 * s.1.1.2.1 + smN L' nc) := by
  have hn := tck_n hk
  unfold f_X8_widen
  refine rn_t (ks_o hK o 8 (tck_1 hk)) ?_
  exact widen_loop hk hrow nc 0 N s ow L (by omega) (by omega) hK hw ht (fun j hj => absurd hj (Nat.not_lt_zero j))
theorem add_loop (hk : tck o nc = true) (hK : KS sh z) (hw : OWS ow z) (hS : ∀ c, c < nc → S + 1 ≤ L c) : ∀ (m c fu : Nat) (d : Dt), c + m = nc → m < fu → TB sh d z ow o nc S V L → (∀ j, j < c → TV d z o j (S + 1) (fun c i => if i = S then 0 else V c i)) →
    Rn (f_X8_add_12 N fu (z + o) (nI c) (sh, d)) (fun r => r.1 = nI S ∧ r.2.1 = sh ∧ TB sh r.2.2 z ow o nc (S + 1) (fun c i => if i = S then 0 else V c i) L ∧ FD (TX z ow o) d r.2.2)
  | 0, c, fu, d, hc, hf, ht, hv => by
    obtain ⟨fu, rfl⟩ : ∃ q, fu = q + 1 := ⟨fu - 1, by omega⟩
    show Rn (g_X8_add_12 N (f_X8_add_12 N fu) (z + o) (nI c) (sh, d)) _
    unfold g_X8_add_12
    have hn := tck_n hk
    refine r_gP hK o 8 0 (o + 1) (tck_1 hk) (tck_3 hk) ?_
    refine rn_eq (q_len (ks_a hK (o + 1) 5 nc (tck_2 hk)) (by decide)) ?_
    refine rn_t (nI_le (by omega) (by omega)) ?_
    unfold f_X8_add_39
    refine r_gI hK (tck_1 hk) ?_
    refine r_pI hK (tck_1 hk) ?_
    refine r_gI hK (tck_1 hk) ?_
    have hS0 : d.1 (z + o) 1 = nI S := ht.1
    refine rn_some ⟨?_, rfl, ?_, FD.wI (Or.inl rfl)⟩
    · show (wI d (z + o) 1 (d.1 (z + o) 1 + 1)).1 (z + o) 1 - 1 = nI S
      rw [wI_s, va_up_s, hS0, nI_1, nI_pred]
    · refine tb_mk ?_ ht.tr hS (fun j hj a ha i hi => ?_)
      · show (wI d (z + o) 1 (d.1 (z + o) 1 + 1)).1 (z + o) 1 = _
        rw [wI_s, va_up_s, hS0, nI_1]
      · obtain ⟨b, h1, h2, -⟩ := ht.tr j hj
        have ha : d.2.2.2 (z + (o + 1)) j = some a := ha
        have h9 := ha
        rw [h1] at h9
        cases h9
        show (wI d (z + o) 1 (d.1 (z + o) 1 + 1)).1 a i = _
        rw [wI_n (fun e => by have := (tck_o hk hw).1; rw [← e] at this; omega)]
        exact hv j (by omega) a ha i hi
  | m + 1, c, fu, d, hc, hf, ht, hv => by
    obtain ⟨fu, rfl⟩ : ∃ q, fu = q + 1 := ⟨fu - 1, by omega⟩
    show Rn (g_X8_add_12 N (f_X8_add_12 N fu) (z + o) (nI c) (sh, d)) _
    unfold g_X8_add_12
    have hn := tck_n hk
    have hcn : c < nc := by omega
    obtain ⟨a, ha, hwa, hA, hL, hLb⟩ := ht.tr c hcn
    have hS1 := hS c hcn
    refine r_gP hK o 8 0 (o + 1) (tck_1 hk) (tck_3 hk) ?_
    refine rn_eq (q_len (ks_a hK (o + 1) 5 nc (tck_2 hk)) (by decide)) ?_
    refine rn_f (nI_ge hcn (by omega)) ?_
    refine r_gP hK o 8 0 (o + 1) (tck_1 hk) (tck_3 hk) ?_
    refine rn_eq (q_aQ (ks_a hK (o + 1) 5 nc (tck_2 hk)) c a rfl hcn (by omega) ha) ?_
    refine r_gI hK (tck_1 hk) ?_
    rw [show (sh, d).2 = d from rfl, ht.1]
    refine rn_eq (q_sI ⟨hA, hL⟩ S rfl (by omega) (by omega)) ?_
    rw [nI_1]
    have hrow := tr_row (f := va_up (d.1 a) S 0) hk hcn ht.tr hwa
    have ht2 : TB sh (wI d a S 0) z ow o nc S V L := by
      refine tb_mk ?_ hrow.1 (fun j hj => by have := hS j hj; omega) (fun j hj => ?_)
      · rw [wI_n (fun e => by have := (tck_o hk hw).1; rw [e] at this; omega)]
        exact ht.1
      · by_cases e : j = c
        · subst e
          intro b hb i hi
          have hb : d.2.2.2 (z + (o + 1)) j = some b := hb
          rw [ha] at hb
          cases hb
          rw [wI_s, va_up_n (by omega)]
          exact ht.tv hj a ha i hi
        · exact hrow.2.2 j hj e S V (ht.tv hj)
    refine rn_mono (add_loop hk hK hw hS m (c + 1) fu (wI d a S 0) (by omega) (by omega) ht2 (fun j hj => ?_)) (fun r hr => ⟨hr.1, hr.2.1, hr.2.2.1, hrow.2.1.tr hr.2.2.2⟩)
    by_cases e : j = c
    · subst e
      intro b hb i hi
      have hb : d.2.2.2 (z + (o + 1)) j = some b := hb
      have hb0 := hb
      rw [ha] at hb
      cases hb
      rw [wI_s]
      show va_up (d.1 a) S 0 i = (if i = S then 0 else V j i)
      by_cases e2 : i = S
      · rw [e2, va_up_s, if_pos rfl]
      · rw [va_up_n e2, if_neg e2]
        exact ht.tv hcn a ha i (by omega)
    · exact hrow.2.2 j (by omega) e _ _ (hv j (by omega))
theorem tb_add {s : AS} (hN : 16 ≤ N) (hk : tck o nc = true) (hS : S < 2 ^ 18) (hK : KS s.1 z) (hw : OWS ow z) (ht : TB s.1 s.2 z ow o nc S V L) : Rn (f_X8_add N (z + o) s) (fun r => r.1 = nI S ∧ ∃ ow' L', ES (TX z ow o) s ow r.2 ow' ∧ TB r.2.1 r.2.2 z ow' o nc (S + 1) (fun c i => if i = S then 0 else V c i) L' ∧ (∀ j, j < nc → L j ≤ L' j ∧ L' j ≤ max (L j) (2 * (S + 1))) ∧ r.2.1.1.2.2 + 2 * smN L nc ≤ s.1.1.2.2 + 2 * smN L' nc ∧ 4 * r.2.1.1.2.1 + smN L nc ≤ 4 * s.1.1.2.1 + smN L' nc) := by
  have hn := tck_n hk
  unfold f_X8_add
  refine rn_t (ks_o hK o 8 (tck_1 hk)) ?_
  refine r_gI hK (tck_1 hk) ?_
  rw [ht.1, nI_1]
  refine rn_bind (tb_widen hN hk (by omega) hK hw ht) (fun s1 hs => ?_)
  obtain ⟨ow1, L1, h1, h2, h3, h4, h5⟩ := hs
  have hK1 := KS.es hK h1
  have hw1 := OWS.es hw hK h1
  unfold f_X8_add_10
  refine rn_mono (add_loop hk hK1 hw1 (fun c hc => (h3 c hc).1) nc 0 N s1.2 (by omega) (by omega) h2 (fun j hj => absurd hj (Nat.not_lt_zero j))) (fun r hr => ?_)
  obtain ⟨r1, r2, r3, r4⟩ := hr
  refine ⟨r1, ow1, L1, h1.tr (s1 := s1) (Y := TX z ow1 o) ?_ (fun b hb hX => ?_), ?_, fun j hj => (h3 j hj).2, ?_, ?_⟩
  · have := FD.es (sh := s1.1) (ow := ow1) r4
    rw [← r2] at this
    have e : r.2 = (r.2.1, r.2.2) := rfl
    rw [e]
    rw [r2] at this ⊢
    exact this
  · have q := (h1.2.2 b hb).2.2.2.1
    rcases hX with hX | hX | hX
    · exact Or.inl hX
    · exact Or.inr (Or.inl hX)
    · rw [q] at hX
      exact Or.inr (Or.inr hX)
  · rw [r2]
    exact r3
  · rw [r2]
    exact h4
  · rw [r2]
    exact h5
theorem become_loop {o2 S2 : Nat} {V2 : Nat → Nat → Int32} {L2 : Nat → Nat} (hk : tck o nc = true) (hk2 : tck o2 nc = true) (hne : o + 1 < o2 ∨ o2 + 1 < o) (hK : KS sh z) (hw : OWS ow z) (hS : ∀ c, c < nc → S2 ≤ L c) : ∀ (m c fu : Nat) (d : Dt), c + m = nc → m < fu → TR sh d z ow o nc L → TB sh d z ow o2 nc S2 V2 L2 → (∀ j, j < c → TV d z o j S2 V2) →
    Rn (f_X8_become_10 N fu (z + o) (z + o2) (nI c) (sh, d)) (fun s' => s'.1 = sh ∧ TB sh s'.2 z ow o nc S2 V2 L ∧ FD (TX z ow o) d s'.2)
  | 0, c, fu, d, hc, hf, hr, ht, hv => by
    obtain ⟨fu, rfl⟩ : ∃ q, fu = q + 1 := ⟨fu - 1, by omega⟩
    show Rn (g_X8_become_10 N (f_X8_become_10 N fu) (z + o) (z + o2) (nI c) (sh, d)) _
    unfold g_X8_become_10
    have hn := tck_n hk
    refine r_gP hK o 8 0 (o + 1) (tck_1 hk) (tck_3 hk) ?_
    refine rn_eq (q_len (ks_a hK (o + 1) 5 nc (tck_2 hk)) (by decide)) ?_
    refine rn_t (nI_le (by omega) (by omega)) ?_
    unfold f_X8_become_55
    refine r_gI hK (tck_1 hk2) ?_
    refine r_pI hK (tck_1 hk) ?_
    have hS0 : d.1 (z + o2) 1 = nI S2 := ht.1
    refine rn_some ⟨rfl, ?_, FD.wI (Or.inl rfl)⟩
    refine tb_mk ?_ hr hS (fun j hj a ha i hi => ?_)
    · show (wI d (z + o) 1 (d.1 (z + o2) 1)).1 (z + o) 1 = _
      rw [wI_s, va_up_s, hS0]
    · obtain ⟨b, h1, h2, -⟩ := hr j hj
      have ha : d.2.2.2 (z + (o + 1)) j = some a := ha
      have h9 := ha
      rw [h1] at h9
      cases h9
      show (wI d (z + o) 1 (d.1 (z + o2) 1)).1 a i = _
      rw [wI_n (fun e => by have := (tck_o hk hw).1; rw [← e] at this; omega)]
      exact hv j (by omega) a ha i hi
  | m + 1, c, fu, d, hc, hf, hr, ht, hv => by
    obtain ⟨fu, rfl⟩ : ∃ q, fu = q + 1 := ⟨fu - 1, by omega⟩
    show Rn (g_X8_become_10 N (f_X8_become_10 N fu) (z + o) (z + o2) (nI c) (sh, d)) _
    unfold g_X8_become_10
    have hn := tck_n hk
    have hcn : c < nc := by omega
    obtain ⟨a, ha, hwa, hA, hL, hLb⟩ := hr c hcn
    obtain ⟨a2, ha2, hwa2, hA2, hL2, hSL2, hLb2, hV2⟩ := ht.2 c hcn
    have hS1 := hS c hcn
    have hsz : d.1 (z + o2) 1 = nI S2 := ht.1
    refine r_gP hK o 8 0 (o + 1) (tck_1 hk) (tck_3 hk) ?_
    refine rn_eq (q_len (ks_a hK (o + 1) 5 nc (tck_2 hk)) (by decide)) ?_
    refine rn_f (nI_ge hcn (by omega)) ?_
    refine r_gP hK o2 8 0 (o2 + 1) (tck_1 hk2) (tck_3 hk2) ?_
    refine rn_eq (q_len (ks_a hK (o2 + 1) 5 nc (tck_2 hk2)) (by decide)) ?_
    refine rn_f (nI_ge hcn (by omega)) ?_
    refine r_gP hK o2 8 0 (o2 + 1) (tck_1 hk2) (tck_3 hk2) ?_
    refine rn_eq (q_aQ (ks_a hK (o2 + 1) 5 nc (tck_2 hk2)) c a2 rfl hcn (by omega) ha2) ?_
    refine r_gP hK o 8 0 (o + 1) (tck_1 hk) (tck_3 hk) ?_
    refine rn_eq (q_aQ (ks_a hK (o + 1) 5 nc (tck_2 hk)) c a rfl hcn (by omega) ha) ?_
    refine r_gI hK (tck_1 hk2) ?_
    rw [show (sh, d).2 = d from rfl, hsz]
    refine rn_eq (cpy_I (sp := 0) (dp := 0) ⟨hA2, hL2⟩ ⟨hA, hL⟩ (by omega) (by omega) (by omega) (by omega)) ?_
    rw [nI_1]
    have hrow := tr_row (f := va_cpy (d.1 a2) (d.1 a) 0 0 S2) hk hcn hr hwa
    refine rn_mono (become_loop hk hk2 hne hK hw hS m (c + 1) fu _ (by omega) (by omega) hrow.1 (tb_fr hw hk hk2 hne ht hrow.2.1) (fun j hj => ?_)) (fun s' hs => ⟨hs.1, hs.2.1, hrow.2.1.tr hs.2.2⟩)
    by_cases e : j = c
    · subst e
      intro b hb i hi
      have hb : d.2.2.2 (z + (o + 1)) j = some b := hb
      rw [ha] at hb
      cases hb
      show va_up d.1 a (va_cpy (d.1 a2) (d.1 a) 0 0 S2) a i = _
      rw [va_up_s]
      show (if 0 ≤ i ∧ i < 0 + S2 then d.1 a2 (0 + (i - 0)) else d.1 a i) = _
      rw [if_pos (by omega), Nat.sub_zero, Nat.zero_add]
      exact hV2 i hi
    · exact hrow.2.2 j (by omega) e _ _ (hv j (by omega))
end GR
/-! 46.books.lean.txt -/
section BE
variable {sh : Sh} {d : Dt} {z : Nat} {ow : Nat → Nat} {o nc S : Nat} {V : Nat → Nat → Int32} {L : Nat → Nat} {N : Nat}
/-- another table is left, and so is what is new -/
theorem tb_es {s s' : AS} {X : Nat → Prop} {ow' : Nat → Nat} (h : TB s.1 s.2 z ow o nc S V L) (hK : KS s.1 z) (hk : tck o nc = true) (he : ES X s ow s' ow') (h0 : ¬ X (z + o)) (h1 : ¬ X (z + (o + 1))) (h2 : ∀ a, 1 ≤ ow a → (ow a - 1) / 16 = o → ¬ X a) : TB s'.1 s'.2 z ow' o nc S V L := by
  have hz := hK.2.1
  have hn := tck_n hk
  obtain ⟨hS, ht⟩ := h
  refine ⟨?_, fun c hc => ?_⟩
  · rw [((he.2.2 (z + o) (by omega)).2.2.2.2 h0).1]
    exact hS
  · obtain ⟨a, ha, hwa, hA, hL, hSL, hLb, hV⟩ := ht c hc
    have hlt : a < s.1.1.2.1 := hA.2.1
    have q := he.2.2 a hlt
    have hX : ¬ X a := h2 a (by omega) (by rw [hwa]; omega)
    have e1 := he.1
    have e2 := he.2.1
    refine ⟨a, ?_, by rw [q.2.2.2.1]; exact hwa, ⟨by rw [e1]; exact hA.1, by omega, by rw [q.1]; exact hA.2.2⟩, by rw [q.2.1]; exact hL, hSL, hLb, fun i hi => ?_⟩
    · rw [((he.2.2 (z + (o + 1)) (by omega)).2.2.2.2 h1).2.2.2]
      exact ha
    · rw [(q.2.2.2.2 hX).1]
      exact hV i hi
theorem tx_old {s s' : AS} {X : Nat → Prop} {ow' : Nat → Nat} {a : Nat} (he : ES X s ow s' ow') (ha : a < s.1.1.2.1) (h : TX z ow' o a) : TX z ow o a := by
  have q := (he.2.2 a ha).2.2.2.1
  rcases h with h | h | h
  · exact Or.inl h
  · exact Or.inr (Or.inl h)
  · rw [q] at h
    exact Or.inr (Or.inr h)
theorem tb_become {s : AS} {o2 S2 : Nat} {V2 : Nat → Nat → Int32} {L2 : Nat → Nat} (hN : 16 ≤ N) (hk : tck o nc = true) (hk2 : tck o2 nc = true) (hne : o + 1 < o2 ∨ o2 + 1 < o) (hS2 : S2 < 2 ^ 19) (hK : KS s.1 z) (hw : OWS ow z) (ht : TB s.1 s.2 z ow o nc S V L) (ht2 : TB s.1 s.2 z ow o2 nc S2 V2 L2) : Rn (f_X8_become N (z + o) (z + o2) s) (fun s' => ∃ ow' L', ES (TX z ow o) s ow s' ow' ∧ TB s'.1 s'.2 z ow' o nc S2 V2 L' ∧ (∀ j, j < nc → L j ≤ L' j ∧ L' j ≤ max (L j) (2 * S2)) ∧ s'.1.1.2.2 + 2 * smN L nc ≤ s.1.1.2.2 + 2 * smN L' nc ∧ 4 * s'.1.1.2.1 + smN L nc ≤ 4 * s.1.1.2.1 + smN L' nc) := by
  have hn := tck_n hk
  have ho := tck_o hk hw
  have ho2 := tck_o hk2 hw
  unfold f_X8_become
  refine rn_t (ks_o hK o 8 (tck_1 hk)) ?_
  refine r_gI hK (tck_1 hk2) ?_
  rw [ht2.1]
  refine rn_bind (tb_widen hN hk hS2 hK hw ht) (fun s1 hs => ?_)
  obtain ⟨ow1, L1, h1, h2, h3, h4, h5⟩ := hs
  have hK1 := KS.es hK h1
  have hw1 := OWS.es hw hK h1
  have ht21 : TB s1.1 s1.2 z ow1 o2 nc S2 V2 L2 := by
    refine tb_es ht2 hK hk2 h1 (fun q => ?_) (fun q => ?_) (fun a ha hb q => ?_)
    · rcases q with q | q | q <;> omega
    · rcases q with q | q | q <;> omega
    · rcases q with q | q | q
      · rw [q] at ha
        omega
      · rw [q] at ha
        omega
      · omega
  unfold f_X8_become_8
  refine rn_mono (become_loop hk hk2 hne hK1 hw1 (fun c hc => (h3 c hc).1) nc 0 N s1.2 (by omega) (by omega) h2.tr ht21 (fun j hj => absurd hj (Nat.not_lt_zero j))) (fun s' hr => ?_)
  obtain ⟨r2, r3, r4⟩ := hr
  have e : s' = (s1.1, s'.2) := Prod.ext r2 rfl
  rw [e]
  exact ⟨ow1, L1, h1.tr (FD.es (sh := s1.1) (ow := ow1) r4) (fun b hb hX => tx_old h1 hb hX), r3, fun j hj => (h3 j hj).2, h4, h5⟩
end BE
/-- Arrays.copyOf of longs, to another length -/
theorem copyOfJ_eq {N : Nat} {s : AS} {a l m : Nat} (ha : isA s.1 a 1 ∧ s.1.2.2.1 a = l) (hne : l ≠ m) (hl : l < 2 ^ 20) (hm : m < 2 ^ 20) : f_J7_copyOf_c38d5 N a (nI m) s = some (s.1.1.2.1, ((push s 1 m m).1, ((push s 1 m m).2.1, va_up (push s 1 m m).2.2.1 s.1.1.2.1 (fun k => if k < min l m then s.2.2.1 a k else 0), (push s 1 m m).2.2.2))) := by
  have hz : s.1.1.1 ≤ s.1.1.2.1 := by have := ha.1.1; have := ha.1.2.1; omega
  have hlt : a < s.1.1.2.1 := ha.1.2.1
  have hA := push_A (t := 1) (n := m) (m := m) ha
  have hB := push_N (s := s) (t := 1) (n := m) (m := m) hz
  refine rn_val ?_
  unfold f_J7_copyOf_c38d5
  refine rn_eq (q_len ha (by decide)) ?_
  refine rn_t (fun e => hne ((nI_eq (by omega) (by omega)).mp e).symm) ?_
  refine rn_eq (v := push s 1 m m) ?_ ?_
  · unfold nArr
    rw [nI_clamp (by omega), if_pos ⟨nI_pos (by omega), hm⟩]
  unfold f_J7_copyOf_c38d5_17
  refine rn_eq (q_len hA (by decide)) ?_
  rw [o_min_nI (by omega) (by omega)]
  refine rn_eq (v := ((push s 1 m m).2.1, va_up (push s 1 m m).2.2.1 s.1.1.2.1 (fun k => if k < min l m then s.2.2.1 a k else 0), (push s 1 m m).2.2.2)) ?_ (rn_some rfl)
  unfold cpy
  rw [if_pos hA.1.2.2]
  unfold cpJ
  rw [hA.2, hB.2]
  have e0 : (0 : Int32).toNatClampNeg = 0 := by decide
  rw [e0, nI_clamp (by omega), if_pos ⟨hA.1, hB.1, by decide, by decide, nI_pos (by omega), by omega, by omega⟩]
  have e1 : (push s 1 m m).2.2.1 a = s.2.2.1 a := va_up_n (by omega)
  have e2 : (push s 1 m m).2.2.1 s.1.1.2.1 = fun _ => 0 := va_up_s
  rw [e1, e2]
  congr 4
  funext k
  show (if 0 ≤ k ∧ k < 0 + min l m then s.2.2.1 a (0 + (k - 0)) else 0) = _
  by_cases h : k < min l m
  · rw [if_pos (by omega), if_pos h, Nat.sub_zero, Nat.zero_add]
  · rw [if_neg (by omega), if_neg h]
/-- the cells of readings of the books at z + b: room Lc, values W for k below n -/
def CE (sh : Sh) (d : Dt) (z : Nat) (ow : Nat → Nat) (b Lc : Nat) (P : Nat → Prop) (W : Nat → Int64) : Prop := ∃ a, d.2.2.2 (z + b) 7 = some a ∧ ow a = 16 * b + 1 ∧ isA sh a 1 ∧ sh.2.2.1 a = Lc ∧ Lc < 2 ^ 20 ∧ ∀ k, P k → k < Lc ∧ d.2.1 a k = W k
