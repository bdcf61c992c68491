/-! the law's loop: what holds between two calls -/
def LI (z c : Nat) (s : AS) : Prop := ∃ ow R K u y c', c' ≤ c ∧ CI s z ow R K u y c' ∧ RI s.2 z R K u ∧ WK R ∧ WK K
section LAWA
variable {s s1 : AS} {d : Dt} {z c c' p L N : Nat} {ow : Nat → Nat} {R K : Nat → Int32} {u : Bool} {y : YL} {xs : Nat → Int32}
theorem sld_ok (hL : L ≤ 3072) (hp : p + 6 ≤ L) (j : Nat) {x : Int32} (hx : x = nI j) (hj : j < 6) : sld L xs (nI p + x) = some (xs (p + j)) := by
  obtain ⟨q1, q2⟩ := in_of (x := nI p + x) (j := p + j) (n := L) (by rw [hx, nI_add]) (by omega) (by omega)
  unfold sld
  rw [if_pos q1, q2]
theorem sld_ok0 (hL : L ≤ 3072) (hp : p + 6 ≤ L) : sld L xs (nI p) = some (xs p) := by
  obtain ⟨q1, q2⟩ := in_of (x := nI p) (j := p) (n := L) rfl (by omega) (by omega)
  unfold sld
  rw [if_pos q1, q2]
theorem li_mono (h : LI z c s) : LI z (c + 1) s := by
  obtain ⟨ow, R, K, u, y, c', hc, q⟩ := h
  exact ⟨ow, R, K, u, y, c', by omega, q⟩
theorem li_k {o : Int32 × Option (Nat → Int32)} {r : Int32 × AS} (hI : RI s.2 z R K u) (h : KO z R K u c o s r) : ∃ ow' y', CI r.2 z ow' (o.2.getD R) (if o.2.isSome then R else K) (o.2.isSome || u) y' c ∧ RI r.2.2 z R K u := by
  obtain ⟨-, f, ow', y', h⟩ := h
  exact ⟨ow', y', h, ri_rfr hI f⟩
theorem li_m {o : Int32 × Option (Nat → Int32)} {r : Int32 × Dt} (hC : CI s1 z ow (o.2.getD R) (if o.2.isSome then R else K) (o.2.isSome || u) y c') (hr : RO z R K u o s1.2 r) (hw : WKo o) (hR : WK R) (hK : WK K) (hc : c' ≤ c) : LI z c (s1.1, r.2) := by
  refine ⟨ow, _, _, _, y, c', hc, ci_mfr hC hr.2.1, hr.2.2, ?_, ?_⟩
  · obtain ⟨v, o⟩ := o
    cases o with
    | none => exact hR
    | some R' => exact hw R' rfl
  · obtain ⟨v, o⟩ := o
    cases o with
    | none => exact hK
    | some R' => exact hR
theorem smN_b {f : Nat → Nat} {B : Nat} : ∀ n, (∀ c, c < n → f c ≤ B) → smN f n ≤ n * B
  | 0, _ => Nat.zero_le _
  | n + 1, h => by
    have h1 := smN_b n (fun c hc => h c (by omega))
    have h2 := h n (by omega)
    show smN f n + f n ≤ (n + 1) * B
    rw [Nat.succ_mul]
    omega
theorem pot_b {q : BL} (h : QB q) : pot q ≤ 27036 := by
  obtain ⟨h1, h2, h3, h4, h5⟩ := h
  have b1 := smN_b 9 h1
  have b2 := smN_b 3 h2
  have b3 := smN_b 9 h3
  have b4 := smN_b 4 h4
  unfold pot
  omega
theorem li_room (h : LI z c s) (hc : c ≤ 1024) : s.1.1.2.1 ≤ z + 110000 ∧ s.1.1.2.2 ≤ 290000 := by
  obtain ⟨ow, R, K, u, y, c', hc2, ⟨-, -, h3, h4, ⟨-, ⟨-, l1⟩, ⟨a, -, -, -, -, -, l2⟩, b, g, -, -, -, -, -, l3, -⟩, -, -, -, -, -, -, hw, hn, -⟩, -⟩ := h
  have p1 := pot_b h3.2.2.2.2.2.2.2
  have p2 := pot_b h4.2.2.2.2.2.2.2
  have p3 := smN_b 4 l1
  omega
end LAWA
