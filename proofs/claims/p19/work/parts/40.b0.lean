/-! the pure part: what the functions do. The 264 cells that the two constructors make: kinds, lengths, final references -/
def cTl : List Nat := [21, 12, 0, 11, 18, 5, 0, 0, 0, 0, 0, 0, 0, 0, 0, 18, 5, 0, 0, 0, 18, 5, 0, 0, 0, 0, 0, 0, 0, 0, 0, 18, 5, 0, 0, 0, 0, 0, 0, 1, 11, 18, 5, 0, 0, 0, 0, 0, 0, 0, 0, 0, 18, 5, 0, 0, 0, 18, 5, 0, 0, 0, 0, 0, 0, 0, 0, 0, 18, 5, 0, 0, 0, 0, 0, 0, 1, 20, 5, 0, 0, 0, 0, 0, 0, 0, 0, 0, 0, 0, 0, 0, 0, 0, 0, 0, 0, 0, 0, 0, 0, 0, 0, 0, 0, 0, 0, 0, 0, 0, 0, 0, 0, 0, 0, 0, 0, 0, 0, 0, 0, 0, 0, 0, 0, 0, 0, 0, 0, 0, 0, 0, 0, 0, 0, 0, 0, 0, 0, 1, 5, 0, 0, 0, 0, 0, 0, 0, 0, 0, 0, 0, 0, 0, 0, 0, 0, 0, 0, 0, 0, 0, 0, 0, 0, 0, 0, 0, 0, 0, 0, 0, 0, 0, 0, 0, 0, 0, 0, 0, 0, 0, 0, 0, 0, 0, 0, 0, 0, 0, 0, 0, 0, 0, 0, 0, 0, 0, 0, 0, 0, 14, 0, 5, 0, 0, 0, 0, 0, 0, 0, 0, 0, 0, 0, 0, 0, 0, 0, 0, 0, 15, 18, 5, 0, 0, 0, 0, 0, 0, 0, 0, 0, 0, 1, 6, 2, 0, 0, 0, 3, 16, 22, 0, 0, 0, 3, 0, 0, 4, 2, 0, 0, 4, 0, 0, 0, 0, 0, 0, 0, 0, 0, 0]
def cLl : List Nat := [0, 0, 5, 0, 0, 9, 16, 16, 16, 16, 16, 16, 16, 16, 16, 0, 3, 4, 4, 4, 0, 9, 4, 4, 4, 4, 4, 4, 4, 4, 4, 0, 4, 16, 16, 16, 16, 7, 60, 0, 0, 0, 9, 16, 16, 16, 16, 16, 16, 16, 16, 16, 0, 3, 4, 4, 4, 0, 9, 4, 4, 4, 4, 4, 4, 4, 4, 4, 0, 4, 16, 16, 16, 16, 7, 60, 0, 0, 60, 60, 60, 60, 60, 60, 60, 60, 60, 60, 60, 60, 60, 60, 60, 60, 60, 60, 60, 60, 60, 60, 60, 60, 60, 60, 60, 60, 60, 60, 60, 60, 60, 60, 60, 60, 60, 60, 60, 60, 60, 60, 60, 60, 60, 60, 60, 60, 60, 60, 60, 60, 60, 60, 60, 60, 60, 60, 60, 60, 60, 60, 60, 60, 60, 60, 60, 60, 60, 60, 60, 60, 60, 60, 60, 60, 60, 60, 60, 60, 60, 60, 60, 60, 60, 60, 60, 60, 60, 60, 60, 60, 60, 60, 60, 60, 60, 60, 60, 60, 60, 60, 60, 60, 60, 60, 60, 60, 60, 60, 60, 60, 60, 60, 60, 60, 60, 60, 60, 60, 60, 60, 60, 0, 60, 14, 14, 14, 14, 14, 14, 14, 14, 14, 14, 14, 14, 14, 14, 14, 1, 30, 30, 0, 0, 4, 16, 16, 16, 16, 7, 60, 150, 150, 150, 150, 60, 12, 20, 12, 12, 12, 16, 0, 0, 15642, 15642, 5, 8000, 3600, 400, 20, 20, 150, 60, 60, 16384, 30, 30, 2000, 2000, 2000, 150, 12, 12, 12]
def cPt : List (Nat × Nat × Nat) := [(0, 0, 1), (0, 1, 3), (0, 2, 40), (0, 3, 77), (0, 4, 201), (0, 5, 221), (0, 6, 235), (0, 7, 236), (0, 8, 237), (0, 9, 238), (0, 10, 239), (1, 0, 2), (3, 1, 4), (3, 2, 15), (3, 3, 20), (3, 4, 31), (3, 5, 37), (3, 6, 38), (4, 0, 5), (15, 0, 16), (20, 0, 21), (31, 0, 32), (40, 1, 41), (40, 2, 52), (40, 3, 57), (40, 4, 68), (40, 5, 74), (40, 6, 75), (41, 0, 42), (52, 0, 53), (57, 0, 58), (68, 0, 69), (77, 0, 3), (77, 1, 78), (77, 2, 139), (77, 3, 140), (201, 0, 3), (201, 1, 77), (201, 2, 202), (201, 5, 203), (201, 8, 219), (201, 9, 220), (221, 0, 3), (221, 1, 77), (221, 2, 201), (221, 3, 222), (221, 4, 228), (221, 5, 229), (221, 6, 230), (221, 7, 231), (221, 9, 232), (221, 10, 233), (221, 11, 234), (222, 0, 223), (241, 0, 1), (242, 0, 243), (242, 1, 244), (242, 6, 245), (242, 7, 246), (242, 9, 247), (242, 11, 248), (242, 12, 249), (242, 13, 250), (242, 14, 251), (242, 15, 252), (242, 17, 253), (242, 18, 254), (242, 22, 255), (242, 23, 256), (242, 25, 257), (242, 26, 258), (242, 27, 259), (242, 28, 260), (242, 29, 261), (242, 30, 262), (242, 31, 263)]
/-- the static shape stands from z on -/
def KS (sh : Sh) (z : Nat) : Prop := sh.1.1 = z ∧ z + 264 ≤ sh.1.2.1 ∧ (∀ i, i < 264 → sh.2.1 (z + i) = cTl.getD i 99 ∧ sh.2.2.1 (z + i) = cLl.getD i 0) ∧ (∀ q ∈ cPt, sh.2.2.2 (z + q.1) q.2.1 = some (z + q.2.2))
/-- it runs, to an end with Q -/
def Rn {α : Type} (o : Option α) (Q : α → Prop) : Prop := ∃ r, o = some r ∧ Q r
section RN
variable {α β : Type} {Q : β → Prop} {g : α → Option β}
theorem rn_some {r : β} (h : Q r) : Rn (some r) Q := ⟨r, rfl, h⟩
theorem rn_bind {o : Option α} {P : α → Prop} (h : Rn o P) (k : ∀ v, P v → Rn (g v) Q) : Rn (o.bind g) Q := by
  obtain ⟨v, rfl, hv⟩ := h
  exact k v hv
theorem rn_eq {o : Option α} {v : α} (e : o = some v) (k : Rn (g v) Q) : Rn (o.bind g) Q := by
  rw [e]
  exact k
theorem rn_ite {c : Prop} {q : Decidable c} {a b : Option β} (h1 : c → Rn a Q) (h2 : ¬ c → Rn b Q) : Rn (@ite _ c q a b) Q := by
  by_cases hc : c
  · rw [if_pos hc]
    exact h1 hc
  · rw [if_neg hc]
    exact h2 hc
theorem rn_t {c : Prop} {q : Decidable c} {a b : Option β} (hc : c) (h : Rn a Q) : Rn (@ite _ c q a b) Q := by
  rw [if_pos hc]
  exact h
theorem rn_f {c : Prop} {q : Decidable c} {a b : Option β} (hc : ¬ c) (h : Rn b Q) : Rn (@ite _ c q a b) Q := by
  rw [if_neg hc]
  exact h
theorem rn_mono {o : Option β} {P : β → Prop} (h : Rn o P) (k : ∀ v, P v → Q v) : Rn o Q := by
  obtain ⟨v, e, hv⟩ := h
  exact ⟨v, e, k v hv⟩
end RN
def wI (d : Dt) (a k : Nat) (v : Int32) : Dt := (up2 d.1 a k v, d.2)
def wJ (d : Dt) (a k : Nat) (v : Int64) : Dt := (d.1, up2 d.2.1 a k v, d.2.2)
def wF (d : Dt) (a k : Nat) (v : UInt32) : Dt := (d.1, d.2.1, up2 d.2.2.1 a k v, d.2.2.2)
def wQ (d : Dt) (a k : Nat) (v : Nat) : Dt := (d.1, d.2.1, d.2.2.1, up2 d.2.2.2 a k (some v))
theorem wI_s {d : Dt} {a k : Nat} {v : Int32} : (wI d a k v).1 a = va_up (d.1 a) k v := up2_s
theorem wI_n {d : Dt} {a b k : Nat} {v : Int32} (h : b ≠ a) : (wI d a k v).1 b = d.1 b := up2_n h
theorem wI_r {d : Dt} {a k : Nat} {v : Int32} : (wI d a k v).2 = d.2 := rfl
section KS
variable {β : Type} {Q : β → Prop} {sh : Sh} {d : Dt} {z : Nat}
theorem ks_o (h : KS sh z) (i c : Nat) (hc : (Nat.blt i 264 && Nat.beq (cTl.getD i 99) (10 + c)) = true) : isO sh (z + i) c := by
  rw [Bool.and_eq_true] at hc
  have hi : i < 264 := Nat.le_of_ble_eq_true hc.1
  have hk := Nat.eq_of_beq_eq_true hc.2
  have := h.1
  have := h.2.1
  exact ⟨by omega, by omega, Or.inl (by rw [(h.2.2.1 i hi).1, hk])⟩
theorem ks_a (h : KS sh z) (i t n : Nat) (hc : (Nat.blt i 264 && (Nat.beq (cTl.getD i 99) t && Nat.beq (cLl.getD i 0) n)) = true) : isA sh (z + i) t ∧ sh.2.2.1 (z + i) = n := by
  rw [Bool.and_eq_true, Bool.and_eq_true] at hc
  have hi : i < 264 := Nat.le_of_ble_eq_true hc.1
  have hk := Nat.eq_of_beq_eq_true hc.2.1
  have hn := Nat.eq_of_beq_eq_true hc.2.2
  have := h.1
  have := h.2.1
  exact ⟨⟨by omega, by omega, by rw [(h.2.2.1 i hi).1, hk]⟩, by rw [(h.2.2.1 i hi).2, hn]⟩
theorem ks_gP (h : KS sh z) (i c k v : Nat) (hc : (Nat.blt i 264 && Nat.beq (cTl.getD i 99) (10 + c)) = true) (hq : (i, k, v) ∈ cPt) : gP sh (z + i) c k = some (z + v) := by
  unfold gP
  rw [if_pos (ks_o h i c hc)]
  exact h.2.2.2 (i, k, v) hq
theorem r_gP {g : Nat → Option β} (h : KS sh z) (i c k v : Nat) (hc : (Nat.blt i 264 && Nat.beq (cTl.getD i 99) (10 + c)) = true) (hq : (i, k, v) ∈ cPt) (kk : Rn (g (z + v)) Q) : Rn ((gP sh (z + i) c k).bind g) Q := rn_eq (ks_gP h i c k v hc hq) kk
theorem r_gI {g : Int32 → Option β} (h : KS sh z) {i c k : Nat} (hc : (Nat.blt i 264 && Nat.beq (cTl.getD i 99) (10 + c)) = true) (kk : Rn (g (d.1 (z + i) k)) Q) : Rn ((gI sh d (z + i) c k).bind g) Q := rn_eq (by unfold gI; rw [if_pos (ks_o h i c hc)]) kk
theorem r_gJ {g : Int64 → Option β} (h : KS sh z) {i c k : Nat} (hc : (Nat.blt i 264 && Nat.beq (cTl.getD i 99) (10 + c)) = true) (kk : Rn (g (d.2.1 (z + i) k)) Q) : Rn ((gJ sh d (z + i) c k).bind g) Q := rn_eq (by unfold gJ; rw [if_pos (ks_o h i c hc)]) kk
theorem r_gQ {g : Nat → Option β} (h : KS sh z) {i c k : Nat} (v : Nat) (hv : d.2.2.2 (z + i) k = some v) (hc : (Nat.blt i 264 && Nat.beq (cTl.getD i 99) (10 + c)) = true) (kk : Rn (g v) Q) : Rn ((gQ sh d (z + i) c k).bind g) Q := rn_eq (by unfold gQ; rw [if_pos (ks_o h i c hc), hv]) kk
theorem r_pI {g : Dt → Option β} (h : KS sh z) {i c k : Nat} {v : Int32} (hc : (Nat.blt i 264 && Nat.beq (cTl.getD i 99) (10 + c)) = true) (kk : Rn (g (wI d (z + i) k v)) Q) : Rn ((pI sh d (z + i) c k v).bind g) Q := rn_eq (by unfold pI; rw [if_pos (ks_o h i c hc)]; rfl) kk
theorem r_pJ {g : Dt → Option β} (h : KS sh z) {i c k : Nat} {v : Int64} (hc : (Nat.blt i 264 && Nat.beq (cTl.getD i 99) (10 + c)) = true) (kk : Rn (g (wJ d (z + i) k v)) Q) : Rn ((pJ sh d (z + i) c k v).bind g) Q := rn_eq (by unfold pJ; rw [if_pos (ks_o h i c hc)]; rfl) kk
theorem r_pQ {g : Dt → Option β} (h : KS sh z) {i c k v : Nat} (hc : (Nat.blt i 264 && Nat.beq (cTl.getD i 99) (10 + c)) = true) (kk : Rn (g (wQ d (z + i) k v)) Q) : Rn ((pQ sh d (z + i) c k v).bind g) Q := rn_eq (by unfold pQ; rw [if_pos (ks_o h i c hc)]; rfl) kk
end KS
section AR
variable {β : Type} {Q : β → Prop} {sh : Sh} {d : Dt} {a n : Nat}
theorem in_of {x : Int32} {j n : Nat} (hx : x = nI j) (hj : j < n) (hn : n < 2 ^ 31) : inA x n ∧ x.toNatClampNeg = j := by
  rw [hx]
  exact ⟨nI_in hj hn, nI_clamp (by omega)⟩
theorem q_aT {t : Nat} {x : Int32} (ha : isA sh a t ∧ sh.2.2.1 a = n) (j : Nat) (hx : x = nI j) (hj : j < n) (hn : n < 2 ^ 31) : aT t sh d a x = some (d.1 a j) := by
  obtain ⟨h1, h2⟩ := in_of hx hj hn
  unfold aT
  rw [ha.2, if_pos ⟨ha.1, h1⟩, h2]
theorem q_aJ {x : Int32} (ha : isA sh a 1 ∧ sh.2.2.1 a = n) (j : Nat) (hx : x = nI j) (hj : j < n) (hn : n < 2 ^ 31) : aJ sh d a x = some (d.2.1 a j) := by
  obtain ⟨h1, h2⟩ := in_of hx hj hn
  unfold aJ
  rw [ha.2, if_pos ⟨ha.1, h1⟩, h2]
theorem q_aF {x : Int32} (ha : isA sh a 2 ∧ sh.2.2.1 a = n) (j : Nat) (hx : x = nI j) (hj : j < n) (hn : n < 2 ^ 31) : aF sh d a x = some (d.2.2.1 a j) := by
  obtain ⟨h1, h2⟩ := in_of hx hj hn
  unfold aF
  rw [ha.2, if_pos ⟨ha.1, h1⟩, h2]
theorem q_aQ {t : Nat} {x : Int32} (ha : isA sh a t ∧ sh.2.2.1 a = n) (j v : Nat) (hx : x = nI j) (hj : j < n) (hn : n < 2 ^ 31) (hv : d.2.2.2 a j = some v) : aQ t sh d a x = some v := by
  obtain ⟨h1, h2⟩ := in_of hx hj hn
  unfold aQ
  rw [ha.2, if_pos ⟨ha.1, h1⟩, h2, hv]
theorem q_sI {x v : Int32} (ha : isA sh a 0 ∧ sh.2.2.1 a = n) (j : Nat) (hx : x = nI j) (hj : j < n) (hn : n < 2 ^ 31) : sI sh d a x v = some (wI d a j v) := by
  obtain ⟨h1, h2⟩ := in_of hx hj hn
  unfold sI
  rw [ha.2, if_pos ⟨ha.1, h1⟩, h2]
  rfl
theorem q_sC {x v : Int32} (ha : isA sh a 3 ∧ sh.2.2.1 a = n) (j : Nat) (hx : x = nI j) (hj : j < n) (hn : n < 2 ^ 31) : sC sh d a x v = some (wI d a j (vp_nar .char v)) := by
  obtain ⟨h1, h2⟩ := in_of hx hj hn
  unfold sC
  rw [ha.2, if_pos ⟨ha.1, h1⟩, h2]
  rfl
theorem q_sZ {x v : Int32} (ha : isA sh a 4 ∧ sh.2.2.1 a = n) (j : Nat) (hx : x = nI j) (hj : j < n) (hn : n < 2 ^ 31) : sZ sh d a x v = some (wI d a j (vp_nar .boolean v)) := by
  obtain ⟨h1, h2⟩ := in_of hx hj hn
  unfold sZ
  rw [ha.2, if_pos ⟨ha.1, h1⟩, h2]
  rfl
theorem q_sJ {x : Int32} {v : Int64} (ha : isA sh a 1 ∧ sh.2.2.1 a = n) (j : Nat) (hx : x = nI j) (hj : j < n) (hn : n < 2 ^ 31) : sJ sh d a x v = some (wJ d a j v) := by
  obtain ⟨h1, h2⟩ := in_of hx hj hn
  unfold sJ
  rw [ha.2, if_pos ⟨ha.1, h1⟩, h2]
  rfl
theorem q_sF {x : Int32} {v : UInt32} (ha : isA sh a 2 ∧ sh.2.2.1 a = n) (j : Nat) (hx : x = nI j) (hj : j < n) (hn : n < 2 ^ 31) : sF sh d a x v = some (wF d a j v) := by
  obtain ⟨h1, h2⟩ := in_of hx hj hn
  unfold sF
  rw [ha.2, if_pos ⟨ha.1, h1⟩, h2]
  rfl
theorem q_len {t : Nat} (ha : isA sh a t ∧ sh.2.2.1 a = n) (ht : t < 7) : aLen sh a = some (nI n) := by
  unfold aLen
  rw [if_pos ⟨ha.1.1, ha.1.2.1, by rw [ha.1.2.2]; exact ht⟩, ha.2]
  rfl
end AR
