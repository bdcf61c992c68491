/-! 9zs.start.lean.txt -/
/-! the start: what stands behind both constructors -/
def ow0 (z a : Nat) : Nat := if z ≤ a ∧ a < z + 264 then cOl.getD (a - z) 1 else 0
def RZ : Nat → Int32 := fun k => if 9582 ≤ k ∧ k < 9642 then -1 else 0
def qz : BL := (fun _ => 16, fun _ => 4, fun _ => 4, fun _ => 16, 0)
def yz : YL := (qz, qz, fun _ => 16, 1, 16)
def tk0 (o nc L : Nat) : Bool := RS0.contains (o + 1, nc) && (Nat.ble (o + 1 + 1 + nc) 264 && ((Nat.ble 4 L && Nat.blt L (2 ^ 20)) && (List.range nc).all (fun c => Nat.beq (cTl.getD (o + 1 + 1 + c) 99) 0 && (Nat.beq (cLl.getD (o + 1 + 1 + c) 0) L && Nat.beq (cOl.getD (o + 1 + 1 + c) 1) (16 * o + c + 1)))))
def qk0 (b f a t n w : Nat) : Bool := QS0.contains (b, f, a) && (Nat.blt a 264 && (Nat.beq (cTl.getD a 99) t && (Nat.beq (cLl.getD a 0) n && Nat.beq (cOl.getD a 1) w)))
section START
variable {s : AS} {z w : Nat} {ps : List (Nat × Nat × Nat)} {V : Nat → Nat → Int32}
theorem ow0_at {i : Nat} (h : i < 264) : ow0 z (z + i) = cOl.getD i 1 := by
  unfold ow0
  rw [if_pos ⟨by omega, by omega⟩, Nat.add_sub_cancel_left]
theorem cb_tb (h : CB s z 264 w ps RS0 QS0 FI0) (o nc L : Nat) (hck : tk0 o nc L = true) (hf : FI0 o 1 = 0) : TB s.1 s.2 z (ow0 z) o nc 0 V (fun _ => L) := by
  unfold tk0 at hck
  rw [Bool.and_eq_true, Bool.and_eq_true, Bool.and_eq_true] at hck
  obtain ⟨k1, k2, k3, k4⟩ := hck
  have k1 := List.contains_iff_mem.mp k1
  have k2 := Nat.le_of_ble_eq_true k2
  rw [Bool.and_eq_true] at k3
  have k3 : 4 ≤ L ∧ L < 2 ^ 20 := ⟨Nat.le_of_ble_eq_true k3.1, Nat.le_of_ble_eq_true k3.2⟩
  have k4 := List.all_eq_true.mp k4
  obtain ⟨h1, h2, h3, h4, h5, h6, h7⟩ := h
  have e1 : s.1.1.1 = z := by rw [h1]
  have e2 : s.1.1.2.1 = z + 264 := by rw [h1]
  refine ⟨?_, fun c hc => ?_⟩
  · rw [(h6 o (by omega)).1, hf]
    rfl
  · have q := k4 c (List.mem_range.mpr hc)
    rw [Bool.and_eq_true, Bool.and_eq_true] at q
    refine ⟨z + (o + 1 + 1 + c), (h4 (o + 1, nc) k1).2 c hc, ?_, ⟨?_, ?_, ?_⟩, ?_, Nat.zero_le _, k3, fun i hi => absurd hi (Nat.not_lt_zero i)⟩
    · rw [ow0_at (by omega)]
      exact Nat.eq_of_beq_eq_true q.2.2
    · omega
    · omega
    · rw [(h2 (o + 1 + 1 + c) (by omega)).1]
      exact Nat.eq_of_beq_eq_true q.1
    · rw [(h2 (o + 1 + 1 + c) (by omega)).2]
      exact Nat.eq_of_beq_eq_true q.2.1
theorem cb_q (h : CB s z 264 w ps RS0 QS0 FI0) (b f a t n v : Nat) (hck : qk0 b f a t n v = true) : s.2.2.2.2 (z + b) f = some (z + a) ∧ ow0 z (z + a) = v ∧ isA s.1 (z + a) t ∧ s.1.2.2.1 (z + a) = n := by
  unfold qk0 at hck
  rw [Bool.and_eq_true, Bool.and_eq_true, Bool.and_eq_true, Bool.and_eq_true] at hck
  obtain ⟨k1, k2, k3, k4, k5⟩ := hck
  have k1 := List.contains_iff_mem.mp k1
  have k2 : a < 264 := Nat.le_of_ble_eq_true k2
  obtain ⟨h1, h2, h3, h4, h5, h6, h7⟩ := h
  have e1 : s.1.1.1 = z := by rw [h1]
  have e2 : s.1.1.2.1 = z + 264 := by rw [h1]
  refine ⟨(h5 (b, f, a) k1).2, ?_, ⟨?_, ?_, ?_⟩, ?_⟩
  · rw [ow0_at k2]
    exact Nat.eq_of_beq_eq_true k5
  · omega
  · omega
  · rw [(h2 a k2).1]
    exact Nat.eq_of_beq_eq_true k3
  · rw [(h2 a k2).2]
    exact Nat.eq_of_beq_eq_true k4
theorem nz {k : Nat} (h : k < 9582) : nn RZ k = 0 := by
  unfold nn RZ
  rw [if_neg (by omega)]
  rfl
theorem rz {k : Nat} (h : k < 9582) : RZ k = nI (nn RZ k) := by
  rw [nz h]
  unfold RZ
  rw [if_neg (by omega)]
  rfl
theorem bk_0 {b a : Nat} (h : CB s z 264 w ps RS0 QS0 FI0) (c1 : tk0 (b + 1) 9 16 = true) (c2 : tk0 (b + 12) 3 4 = true) (c3 : tk0 (b + 17) 9 4 = true) (c4 : tk0 (b + 28) 4 16 = true) (c5 : qk0 b 7 a 1 0 (16 * b + 1) = true) (f0 : FI0 b 0 = 0) (f1 : FI0 (b + 1) 1 = 0) (f2 : FI0 (b + 12) 1 = 0) (f3 : FI0 (b + 17) 1 = 0) (f4 : FI0 (b + 28) 1 = 0) (hb : b < 264) : BK s.1 s.2 z (ow0 z) b RZ qz := by
  have q := cb_q h b 7 a 1 0 (16 * b + 1) c5
  unfold BK
  rw [nz (k := 1) (by decide), nz (k := 2) (by decide), nz (k := 3) (by decide), nz (k := 4) (by decide)]
  refine ⟨?_, cb_tb h _ _ _ c1 f1, cb_tb h _ _ _ c2 f2, cb_tb h _ _ _ c3 f3, cb_tb h _ _ _ c4 f4, ⟨z + a, q.1, q.2.1, q.2.2.1, q.2.2.2, by decide, fun k hk => ?_⟩, by decide, ⟨fun c _ => ?_, fun c _ => ?_, fun c _ => ?_, fun c _ => ?_, ?_⟩⟩
  · rw [(h.2.2.2.2.2.1 b hb).1, f0, rz (by decide), nz (by decide)]
    rfl
  · obtain ⟨g, hh, h1, -⟩ := hk
    rw [nz (by decide)] at h1
    exact absurd h1 (Nat.not_lt_zero g)
  · show 16 ≤ 300
    decide
  · show 4 ≤ 40
    decide
  · show 4 ≤ 24
    decide
  · show 16 ≤ 4000
    decide
  · show 0 ≤ 8000
    decide
set_option maxRecDepth 20000 in
theorem ci_0 (h : CB s z 264 75638 ps RS0 QS0 FI0) (hp : ∀ q ∈ cPt, q ∈ ps) : CI s z (ow0 z) RZ RZ false yz 0 := by
  have hb3 : BK s.1 s.2 z (ow0 z) 3 RZ qz := bk_0 (a := 39) h (by decide) (by decide) (by decide) (by decide) (by decide) (by decide) (by decide) (by decide) (by decide) (by decide) (by decide)
  have hb4 : BK s.1 s.2 z (ow0 z) 40 RZ qz := bk_0 (a := 76) h (by decide) (by decide) (by decide) (by decide) (by decide) (by decide) (by decide) (by decide) (by decide) (by decide) (by decide)
  have t222 : TB s.1 s.2 z (ow0 z) 222 4 0 (fun _ _ => 0) (fun _ => 16) := cb_tb h 222 4 16 (by decide) (by decide)
  have q1 := cb_q h 201 6 218 0 1 (16 * 201 + 1) (by decide)
  have q2 := cb_q h 0 11 240 3 16 1 (by decide)
  obtain ⟨h1, h2, h3, h4, h5, h6, h7⟩ := h
  have e1 : s.1.1.1 = z := by rw [h1]
  have e2 : s.1.1.2.1 = z + 264 := by rw [h1]
  have e3 : s.1.1.2.2 = 75638 := by rw [h1]
  have hpb : PB s.1 s.2 z (ow0 z) RZ := fun p hp => by
    rw [nz (by decide)] at hp
    exact absurd hp (Nat.not_lt_zero p)
  have f77 : s.2.1 (z + 77) 5 = 0 := by
    rw [(h6 77 (by decide)).1]
    decide
  have f201 : s.2.1 (z + 201) 4 = 0 := by
    rw [(h6 201 (by decide)).1]
    decide
  have f201' : s.2.1 (z + 201) 7 = 0 := by
    rw [(h6 201 (by decide)).1]
    decide
  refine ⟨⟨e1, by omega, fun i hi => h2 i hi, fun q hq => (h3 q (hp q hq)).2⟩, fun i hi hc => (ow0_at hi).trans hc, hb3, hb4, ⟨⟨fun c hc => (h4 (78, 60) (by decide)).2 c hc, fun c hc => (h4 (140, 60) (by decide)).2 c hc, fun c hc => (h4 (203, 14) (by decide)).2 c hc⟩, ⟨⟨0, fun _ _ => 0, t222, by decide⟩, fun c _ => ?_⟩, ⟨z + 218, q1.1, q1.2.1, q1.2.2.1, q1.2.2.2, ⟨0, rfl⟩, ?_⟩, z + 240, 0, q2.1, q2.2.1, q2.2.2.1, q2.2.2.2, ?_, ?_, ?_, Nat.zero_le _, fun i hi => absurd hi (Nat.not_lt_zero i)⟩, hpb, hpb, Or.inl f77, Or.inl f201, Or.inl f201', ?_, ?_, ?_, tln_0 f201'⟩
  · show 16 ≤ 4000
    decide
  · show 1 ≤ 16384
    decide
  · show 16 ≤ 16
    decide
  · show 16 ≤ 16000
    decide
  · rw [(h6 0 (by decide)).1]
    decide
  · rw [(h6 0 (by decide)).1]
    decide
  · rw [e3]
    show 75638 ≤ 75638 + 2 * _ + 5 * 0
    omega
  · rw [e2]
    show 4 * (z + 264) ≤ 4 * (z + 264) + _ + 4 * 0
    omega
theorem ri_0 (h : CB s z 264 w ps RS0 QS0 FI0) : RI s.2 z RZ RZ false := by
  have h6 := h.2.2.2.2.2.1
  refine ⟨fun k hk => ?_, fun q => absurd q (by decide), ?_, ⟨0, Nat.zero_le _, ?_⟩, Or.inl ?_⟩
  · rw [(h6 243 (by decide)).1]
    rfl
  · rw [(h6 242 (by decide)).1]
    decide
  · rw [(h6 242 (by decide)).1]
    decide
  · rw [(h6 242 (by decide)).1]
    decide
theorem wk_0 : WK RZ := by
  have no : ∀ {k i : Nat}, k < 9582 → ¬ i < nn RZ k := fun hk hi => by
    rw [nz hk] at hi
    exact Nat.not_lt_zero _ hi
  refine ⟨⟨⟨⟨rz (by decide), by rw [nz (by decide)]; decide⟩, ⟨rz (by decide), by rw [nz (by decide)]; decide⟩, ⟨rz (by decide), by rw [nz (by decide)]; decide⟩, ⟨rz (by decide), by rw [nz (by decide)]; decide⟩, ⟨rz (by decide), by rw [nz (by decide)]; decide⟩⟩, fun g hg => absurd hg (no (by decide)), fun g hg => absurd hg (no (by decide)), ⟨fun g hg => absurd hg (no (by decide)), fun k hk => ?_⟩, fun g hg => absurd hg (no (by decide)), fun g hg => absurd hg (no (by decide))⟩, fun p hp => absurd hp (no (by decide))⟩
  obtain ⟨g, hh, h1, -⟩ := hk
  exact absurd h1 (no (by decide))
end START
/-! 9zt.lawa.lean.txt -/
/-! the law's loop: what holds between two calls -/
def LI (z c : Nat) (s : AS) : Prop := ∃ ow R K u y c', c' ≤ c ∧ CI s z ow R K u y c' ∧ RI s.2 z R K u ∧ WK R ∧ WK K
section LAWA
variable {s s1 : AS} {d : Dt} {z c c' p L N : Nat} {ow : Nat → Nat} {R K : Nat → Int32} {u : Bool} {y : YL} {xs : Nat → Int32}
theorem sld_ok (hL : L ≤ 3072) (hp : p + 6 ≤ L) (j : Nat) {x : Int32} (hx : x = nI j) (hj : j < 6) : sld L xs (nI p + x) = some (xs (p + j)) := by
  obtain ⟨q1, q2⟩ := in_of (x := nI p + x) (j := p + j) (n := L) (by rw [hx, nI_add]) (by omega) (by omega)
  unfold sld
  rw [if_pos q1, q2]
theorem sld_ok0 (hL : L ≤ 3072) (hp : p + 6 ≤ L) : sld L xs (nI p) = some (xs p) := by
  obtain ⟨q1, q2⟩ := in_of (x := nI p) (j := p) (n := L) rfl (by omega) (by omega)
  unfold sld
  rw [if_pos q1, q2]
theorem li_mono (h : LI z c s) : LI z (c + 1) s := by
  obtain ⟨ow, R, K, u, y, c', hc, q⟩ := h
  exact ⟨ow, R, K, u, y, c', by omega, q⟩
theorem li_k {o : Int32 × Option (Nat → Int32)} {r : Int32 × AS} (hI : RI s.2 z R K u) (h : KO z R K u c o s r) : ∃ ow' y', CI r.2 z ow' (o.2.getD R) (if o.2.isSome then R else K) (o.2.isSome || u) y' c ∧ RI r.2.2 z R K u := by
  obtain ⟨-, f, ow', y', h⟩ := h
  exact ⟨ow', y', h, ri_rfr hI f⟩
theorem li_m {o : Int32 × Option (Nat → Int32)} {r : Int32 × Dt} (hC : CI s1 z ow (o.2.getD R) (if o.2.isSome then R else K) (o.2.isSome || u) y c') (hr : RO z R K u o s1.2 r) (hw : WKo o) (hR : WK R) (hK : WK K) (hc : c' ≤ c) : LI z c (s1.1, r.2) := by
  refine ⟨ow, _, _, _, y, c', hc, ci_mfr hC hr.2.1, hr.2.2, ?_, ?_⟩
  · obtain ⟨v, o⟩ := o
    cases o with
    | none => exact hR
    | some R' => exact hw R' rfl
  · obtain ⟨v, o⟩ := o
    cases o with
    | none => exact hK
    | some R' => exact hR
theorem smN_b {f : Nat → Nat} {B : Nat} : ∀ n, (∀ c, c < n → f c ≤ B) → smN f n ≤ n * B
  | 0, _ => Nat.zero_le _
  | n + 1, h => by
    have h1 := smN_b n (fun c hc => h c (by omega))
    have h2 := h n (by omega)
    show smN f n + f n ≤ (n + 1) * B
    rw [Nat.succ_mul]
    omega
theorem pot_b {q : BL} (h : QB q) : pot q ≤ 27036 := by
  obtain ⟨h1, h2, h3, h4, h5⟩ := h
  have b1 := smN_b 9 h1
  have b2 := smN_b 3 h2
  have b3 := smN_b 9 h3
  have b4 := smN_b 4 h4
  unfold pot
  omega
theorem li_room (h : LI z c s) (hc : c ≤ 1024) : s.1.1.2.1 ≤ z + 45000 ∧ s.1.1.2.2 ≤ 290000 := by
  obtain ⟨ow, R, K, u, y, c', hc2, ⟨-, -, h3, h4, ⟨-, ⟨-, l1⟩, ⟨a, -, -, -, -, -, l2⟩, b, g, -, -, -, -, -, l3, -⟩, -, -, -, -, -, -, hw, hn, -⟩, -⟩ := h
  have p1 := pot_b h3.2.2.2.2.2.2.2
  have p2 := pot_b h4.2.2.2.2.2.2.2
  have p3 := smN_b 4 l1
  omega
end LAWA
