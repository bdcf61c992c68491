/-! the map of R: streets that lead, walks, least lengths -/
def edge (R : Nat → Int32) (s u v : Nat) : Prop := s < nn R 1 ∧ R (16 + 9 * s + 4) = 0 ∧ ((R (16 + 9 * s + 7) = nI u ∧ R (16 + 9 * s + 8) = nI v) ∨ (R (16 + 9 * s + 5) = 0 ∧ R (16 + 9 * s + 8) = nI u ∧ R (16 + 9 * s + 7) = nI v))
def sln (R : Nat → Int32) (s : Nat) : Nat := nn R (16 + 9 * s + 6)
def wk (R : Nat → Int32) : List Nat → Nat → Nat → Prop
  | [], u, v => u = v
  | s :: p, u, v => ∃ c, c < nn R 0 ∧ edge R s u c ∧ wk R p c v
def wln (R : Nat → Int32) : List Nat → Nat
  | [] => 0
  | s :: p => sln R s + wln R p
def dst (R : Nat → Int32) (u v n : Nat) : Prop := (∃ p, wk R p u v ∧ wln R p = n) ∧ ∀ p, wk R p u v → n ≤ wln R p
def dOK (R : Nat → Int32) (far u v : Nat) (x : Int32) : Prop := (∃ n, dst R u v n ∧ n < 2 ^ 28 ∧ x = nI n) ∨ ((∀ p, ¬ wk R p u v) ∧ x = nI far)
def bit (x : Int64) (u : Nat) : Bool := x.toBitVec.getLsbD u
/-! what is well formed -/
def WS (R : Nat → Int32) : Prop := ∀ s, s < nn R 1 → (∃ a b, a < nn R 0 ∧ b < nn R 0 ∧ a ≠ b ∧ R (16 + 9 * s + 7) = nI a ∧ R (16 + 9 * s + 8) = nI b) ∧ (R (16 + 9 * s + 6) = nI (sln R s) ∧ 1 ≤ sln R s ∧ sln R s ≤ 10000) ∧ (R (16 + 9 * s + 5) = 0 ∨ R (16 + 9 * s + 5) = 1) ∧ (R (16 + 9 * s + 4) = 0 ∨ R (16 + 9 * s + 4) = 1) ∧ (R (16 + 9 * s + 3) = nI (nn R (16 + 9 * s + 3)) ∧ nn R (16 + 9 * s + 3) ≤ 2)
def WC (R : Nat → Int32) : Prop := (∀ g, g < nn R 2 → (∃ c, c < nn R 0 ∧ R (1366 + 3 * g) = nI c) ∧ (R (1366 + 3 * g + 1) = 0 ∨ R (1366 + 3 * g + 1) = 1)) ∧ ∀ k, inC R k → R (5426 + k) = 0 ∨ R (5426 + k) = 1 ∨ R (5426 + k) = 2
def WP (R : Nat → Int32) : Prop := ∀ p, p < nn R 3 → (R (9426 + 13 * p) = nI (nn R (9426 + 13 * p)) ∧ nn R (9426 + 13 * p) ≤ 4) ∧ (nn R (9426 + 13 * p) = 4 → ∃ a b, a < nn R 3 ∧ b < nn R 3 ∧ R (9426 + 13 * p + 3) = nI a ∧ R (9426 + 13 * p + 4) = nI b ∧ nn R (9426 + 13 * a) ≤ 3 ∧ nn R (9426 + 13 * b) ≤ 3) ∧ (R (9426 + 13 * p + 1) = nI (nn R (9426 + 13 * p + 1)) ∧ nn R (9426 + 13 * p + 1) ≤ 10000) ∧ (R (9426 + 13 * p + 2) = 0 ∨ R (9426 + 13 * p + 2) = 1) ∧ (∃ f m e, R (9426 + 13 * p + 6) = nI f ∧ R (9426 + 13 * p + 7) = nI m ∧ R (9426 + 13 * p + 8) = nI e ∧ e ≤ m ∧ f + m ≤ nn R 4)
def WD (R : Nat → Int32) : Prop := ∀ i, i < nn R 4 → ∃ s c, s < nn R 1 ∧ R (9642 + 3 * i) = nI s ∧ R (9642 + 3 * i + 1) = nI c ∧ (R (16 + 9 * s + 7) = nI c ∨ R (16 + 9 * s + 8) = nI c) ∧ (R (9642 + 3 * i + 2) = 0 ∨ R (9642 + 3 * i + 2) = 1)
def WF (R : Nat → Int32) : Prop := WN R ∧ WG R ∧ WS R ∧ WC R ∧ WP R ∧ WD R
/-! the class: its ways and its pairing, as far as they are kept -/
def HopOK (d : Dt) (z : Nat) (R : Nat → Int32) : Prop := (∀ u v, u < 60 → v < 60 → ((d.1 (z + (79 + u)) v = -1 ∧ ∀ s, ¬ edge R s u v) ∨ ∃ s, d.1 (z + (79 + u)) v = nI s ∧ edge R s u v ∧ ∀ s', edge R s' u v → sln R s < sln R s' ∨ (sln R s = sln R s' ∧ s ≤ s')) ∧ (bit (d.2.1 (z + 139) v) u = true ↔ ∃ s, edge R s u v)) ∧ ∀ u v, v < 60 → 60 ≤ u → bit (d.2.1 (z + 139) v) u = false
def GapOK (d : Dt) (z : Nat) (R : Nat → Int32) : Prop := ∀ v, v < 60 → bit (d.2.1 (z + 77) 4) v = true → ∀ u, u < 60 → dOK R 1000000000 u v (d.1 (z + (141 + v)) u)
def WY (d : Dt) (z : Nat) (R : Nat → Int32) : Prop := d.1 (z + 77) 5 = 0 ∨ (d.1 (z + 77) 5 = 1 ∧ HopOK d z R ∧ GapOK d z R)
/-- the ODD CROSSINGS of R, in order -/
def dgr (R : Nat → Int32) (c : Nat) : Nat → Nat
  | 0 => 0
  | s + 1 => dgr R c s + if R (16 + 9 * s + 4) = 0 ∧ (R (16 + 9 * s + 7) = nI c ∨ R (16 + 9 * s + 8) = nI c) then nn R (16 + 9 * s + 3) else 0
def oddl (R : Nat → Int32) : List Nat := (List.range (nn R 0)).filter (fun c => dgr R c (nn R 1) % 2 = 1)
def PRl (d : Dt) (z : Nat) (R : Nat → Int32) : Prop := d.1 (z + 201) 4 = 0 ∨ (d.1 (z + 201) 4 = 1 ∧ d.1 (z + 201) 3 = nI (oddl R).length ∧ ∀ i, i < (oddl R).length → d.1 (z + 202) i = nI ((oddl R).getD i 0))
noncomputable def ddB (R : Nat → Int32) (B a b : Nat) : Nat := @ite _ (∃ n, dst R a b n) (Classical.propDecidable _) (Classical.epsilon (fun n => dst R a b n)) B
noncomputable def dd (R : Nat → Int32) (a b : Nat) : Nat := ddB R (10 ^ 12) a b
/-- the least f j of those j below n with P j -/
def mnJ (P : Nat → Bool) (f : Nat → Nat) : Nat → Nat
  | 0 => 10 ^ 12
  | j + 1 => if P j = true then min (mnJ P f j) (f j) else mnJ P f j
noncomputable def lowB (S : Nat) : Nat := Classical.epsilon (fun i => S.testBit i = true ∧ ∀ j, j < i → S.testBit j = false)
/-- S without i and j -/
def rm2 (S i j : Nat) : Nat := S ^^^ 2 ^ i ^^^ 2 ^ j
noncomputable def lsF (g : Nat → Nat → Nat) (m : Nat) : Nat → Nat → Nat
  | 0, _ => 0
  | k + 1, S => if S = 0 then 0 else mnJ (fun j => decide (lowB S < j) && S.testBit j) (fun j => g (lowB S) j + lsF g m k (rm2 S (lowB S) j)) m
noncomputable def gO (R : Nat → Int32) (i j : Nat) : Nat := dd R ((oddl R).getD i 0) ((oddl R).getD j 0)
noncomputable def LSx (R : Nat → Int32) (S : Nat) : Nat := lsF (gO R) (oddl R).length (oddl R).length S
/-- LEAST's table, if it is kept -/
def TabOK (d : Dt) (z : Nat) (R : Nat → Int32) : Prop := (oddl R).length ≤ 14 ∧ (∀ i j, i < j → j < (oddl R).length → d.1 (z + (204 + i)) j = nI (min (gO R i j) 1000000000)) ∧ ∃ a, d.2.2.2 (z + 201) 6 = some a ∧ ∀ S, S < 2 ^ (oddl R).length → d.1 a S = nI (min (LSx R S) 1000000000)
def PRt (d : Dt) (z : Nat) (R : Nat → Int32) : Prop := d.1 (z + 201) 7 = 0 ∨ (d.1 (z + 201) 7 = 1 ∧ TabOK d z R)
/-- the other static things of the class: spines of grids, the planner's table, LEAST's table, the text -/
def CS (sh : Sh) (d : Dt) (z : Nat) (ow : Nat → Nat) (Lp : Nat → Nat) (Lt Lg : Nat) : Prop :=
  ((∀ c, c < 60 → d.2.2.2 (z + 78) c = some (z + (79 + c))) ∧ (∀ c, c < 60 → d.2.2.2 (z + 140) c = some (z + (141 + c))) ∧ (∀ c, c < 14 → d.2.2.2 (z + 203) c = some (z + (204 + c)))) ∧
  ((∃ S V, TB sh d z ow 222 4 S V Lp ∧ S ≤ 2000) ∧ ∀ c, c < 4 → Lp c ≤ 4000) ∧
  (∃ a, d.2.2.2 (z + 201) 6 = some a ∧ ow a = 16 * 201 + 1 ∧ isA sh a 0 ∧ sh.2.2.1 a = Lt ∧ (∃ e, Lt = 2 ^ e) ∧ Lt ≤ 16384) ∧
  ∃ a g, d.2.2.2 (z + 0) 11 = some a ∧ ow a = 1 ∧ isA sh a 3 ∧ sh.2.2.1 a = Lg ∧ 16 ≤ Lg ∧ Lg ≤ 16000 ∧ d.1 (z + 0) 12 = nI g ∧ g ≤ Lg ∧ ∀ i, i < g → fits .char (.int (d.1 a i)) = true
/-- a body of a KIND that is no PAIR -/
def kcl (k : Nat) : Nat := if k = 1 then 10 else if k = 2 then 17 else if k = 3 then 19 else 16
def ksp (k : Nat) : Nat := if k = 1 then 30 else if k = 2 then 45 else if k = 3 then 20 else 50
def krc (k : Nat) : Nat := if k = 1 then 600 else if k = 3 then 400 else 200
def BO (sh : Sh) (d : Dt) (z : Nat) (ow : Nat → Nat) (a k : Nat) : Prop := sh.1.1 ≤ a ∧ a < sh.1.2.1 ∧ sh.2.1 a = kcl k ∧ sh.2.2.2 a 0 = some (z + 1) ∧ d.1 a 1 = nI (ksp k) ∧ d.1 a 2 = nI (krc k) ∧ ow a = 0 ∧ z + 264 ≤ a
def BP (sh : Sh) (d : Dt) (z : Nat) (ow : Nat → Nat) (a k1 k2 : Nat) : Prop := sh.1.1 ≤ a ∧ a < sh.1.2.1 ∧ sh.2.1 a = 13 ∧ sh.2.2.2 a 0 = some (z + 1) ∧ d.1 a 1 = nI (min (ksp k1) (ksp k2)) ∧ d.1 a 2 = nI (krc k1 + krc k2) ∧ ow a = 0 ∧ z + 264 ≤ a ∧ ∃ a1 a2, sh.2.2.2 a 3 = some a1 ∧ sh.2.2.2 a 4 = some a2 ∧ BO sh d z ow a1 k1 ∧ BO sh d z ow a2 k2
def PB (sh : Sh) (d : Dt) (z : Nat) (ow : Nat → Nat) (R : Nat → Int32) : Prop := ∀ p, p < nn R 3 → ∃ a, d.2.2.2 (z + 235) p = some a ∧ ((nn R (9426 + 13 * p) ≤ 3 ∧ BO sh d z ow a (nn R (9426 + 13 * p))) ∨ (nn R (9426 + 13 * p) = 4 ∧ BP sh d z ow a (nn R (9426 + 13 * nn R (9426 + 13 * p + 3))) (nn R (9426 + 13 * nn R (9426 + 13 * p + 4)))))
/-- the class holds R, and K ahead of the latest CHANGE; c: calls so far -/
abbrev YL : Type := BL × BL × (Nat → Nat) × Nat × Nat
/-- a table of LEAST is long enough -/
def TLN (d : Dt) (z : Nat) (R : Nat → Int32) (Lt : Nat) : Prop := d.1 (z + 201) 7 = 1 → 2 ^ (oddl R).length ≤ Lt
theorem tln_0 {d : Dt} {z : Nat} {R : Nat → Int32} {Lt : Nat} (h : d.1 (z + 201) 7 = 0) : TLN d z R Lt := fun q => absurd (h.symm.trans q) (by decide)
theorem tln_eq {d d' : Dt} {z : Nat} {R : Nat → Int32} {Lt : Nat} (h : TLN d z R Lt) (e : d'.1 (z + 201) 7 = d.1 (z + 201) 7) : TLN d' z R Lt := fun q => h (e.symm.trans q)
def CI (s : AS) (z : Nat) (ow : Nat → Nat) (R K : Nat → Int32) (u : Bool) (y : YL) (c : Nat) : Prop :=
  KS s.1 z ∧ OWS ow z ∧ BK s.1 s.2 z ow 3 R y.1 ∧ BK s.1 s.2 z ow 40 K y.2.1 ∧ CS s.1 s.2 z ow y.2.2.1 y.2.2.2.1 y.2.2.2.2 ∧ PB s.1 s.2 z ow R ∧ PB s.1 s.2 z ow K ∧ WY s.2 z R ∧ PRl s.2 z R ∧ PRt s.2 z R ∧ s.2.1 (z + 0) 13 = (if u then 1 else 0) ∧ s.1.1.2.2 ≤ 75638 + 2 * (pot y.1 + pot y.2.1 + smN y.2.2.1 4 + y.2.2.2.1 + y.2.2.2.2) + 5 * c ∧ s.1.1.2.1 ≤ z + 264 + (pot y.1 + pot y.2.1 + smN y.2.2.1 4 + y.2.2.2.1 + y.2.2.2.2) + c ∧ TLN s.2 z R y.2.2.2.1
section IXS
variable {s s' : AS} {z : Nat} {ow ow' : Nat → Nat} {R : Nat → Int32} {lo hi : Nat}
theorem es_row {i : Nat} (hK : KS s.1 z) (hw : OWS ow z) (he : ES (IX z ow lo hi) s ow s' ow') (hc : (Nat.blt i 264 && Nat.beq (cOl.getD i 1) 0) = true) (hx : hi < i ∨ i < lo) : s'.2.1 (z + i) = s.2.1 (z + i) ∧ s'.2.2.1 (z + i) = s.2.2.1 (z + i) ∧ s'.2.2.2.1 (z + i) = s.2.2.2.1 (z + i) ∧ s'.2.2.2.2 (z + i) = s.2.2.2.2 (z + i) := by
  rw [Bool.and_eq_true] at hc
  have hi9 : i < 264 := Nat.le_of_ble_eq_true hc.1
  have h0 := hw i hi9 (Nat.eq_of_beq_eq_true hc.2)
  exact (he.2.2 (z + i) (by have := hK.2.1; omega)).2.2.2.2 (nix h0 hi9 hx)
set_option maxRecDepth 20000 in
theorem cO_ways {i : Nat} (h : 77 ≤ i) (h2 : i ≤ 217) : (Nat.blt i 264 && Nat.beq (cOl.getD i 1) 0) = true := by
  have := List.all_eq_true.mp (show (List.range' 77 141).all (fun i => Nat.blt i 264 && Nat.beq (cOl.getD i 1) 0) = true by decide +kernel) i (List.mem_range'_1.mpr ⟨by omega, by omega⟩)
  exact this
theorem wy_ix (h : WY s.2 z R) (hK : KS s.1 z) (hw : OWS ow z) (he : ES (IX z ow lo hi) s ow s' ow') (hx : hi < 77 ∨ 200 < lo) : WY s'.2 z R := by
  have e77 := es_row hK hw he (i := 77) (by decide) (by omega)
  have e139 := es_row hK hw he (i := 139) (by decide) (by omega)
  rcases h with h | ⟨h1, h2, h3⟩
  · left
    rw [e77.1]
    exact h
  · right
    refine ⟨by rw [e77.1]; exact h1, ⟨fun u v hu hv => ?_, fun u v hv hu => by rw [e139.2.1]; exact h2.2 u v hv hu⟩, fun v hv hb u hu => ?_⟩
    · have e := es_row hK hw he (i := 79 + u) (cO_ways (by omega) (by omega)) (by omega)
      rw [e.1, e139.2.1]
      exact h2.1 u v hu hv
    · rw [e77.2.1] at hb
      have q := h3 v hv hb u hu
      have e := es_row hK hw he (i := 141 + v) (cO_ways (by omega) (by omega)) (by omega)
      rw [e.1]
      exact q
theorem prl_ix (h : PRl s.2 z R) (hK : KS s.1 z) (hw : OWS ow z) (he : ES (IX z ow lo hi) s ow s' ow') (hx : hi < 201 ∨ 202 < lo) : PRl s'.2 z R := by
  have e1 := es_row hK hw he (i := 201) (by decide) (by omega)
  have e2 := es_row hK hw he (i := 202) (by decide) (by omega)
  unfold PRl
  rw [e1.1, e2.1]
  exact h
theorem prt_ix {Lp : Nat → Nat} {Lt Lg : Nat} (h : PRt s.2 z R) (hc : CS s.1 s.2 z ow Lp Lt Lg) (hK : KS s.1 z) (hw : OWS ow z) (he : ES (IX z ow lo hi) s ow s' ow') (hx : hi < 201 ∨ 220 < lo) : PRt s'.2 z R := by
  have e1 := es_row hK hw he (i := 201) (by decide) (by omega)
  rcases h with h | ⟨h, h1, h2, a, h3, h4⟩
  · left
    rw [e1.1]
    exact h
  · right
    obtain ⟨-, -, ⟨a', t1, t2, t3, t4, t5, t6⟩, -⟩ := hc
    have ea : a' = a := by
      rw [h3] at t1
      exact (Option.some.inj t1).symm
    subst ea
    have hX : ¬ IX z ow lo hi a' := fun q => by
      unfold IX at q
      rw [onr_r (o := 201) (k := 0) t2 (by omega)] at q
      omega
    have ra := (he.2.2 a' t3.2.1).2.2.2.2 hX
    refine ⟨by rw [e1.1]; exact h, h1, fun i j hij hj => ?_, a', by rw [e1.2.2.2]; exact h3, fun S hS => by rw [ra.1]; exact h4 S hS⟩
    have e := es_row hK hw he (i := 204 + i) (cO_ways (by omega) (by omega)) (by omega)
    rw [e.1]
    exact h2 i j hij hj
theorem bo_ix {a k : Nat} (h : BO s.1 s.2 z ow a k) (he : ES (IX z ow lo hi) s ow s' ow') (hx : hi < 1000) : BO s'.1 s'.2 z ow' a k := by
  obtain ⟨h1, h2, h3, h4, h5, h6, h7, h8⟩ := h
  have q := he.2.2 a h2
  have hX : ¬ IX z ow lo hi a := fun q => by
    unfold IX onr at q
    rw [h7, if_neg (by decide), if_neg (by omega)] at q
    omega
  have r := q.2.2.2.2 hX
  have e1 := he.1
  have e2 := he.2.1
  exact ⟨by rw [e1]; exact h1, by omega, by rw [q.1]; exact h3, by rw [q.2.2.1]; exact h4, by rw [r.1]; exact h5, by rw [r.1]; exact h6, by rw [q.2.2.2.1]; exact h7, h8⟩
theorem bp_ix {a k1 k2 : Nat} (h : BP s.1 s.2 z ow a k1 k2) (he : ES (IX z ow lo hi) s ow s' ow') (hx : hi < 1000) : BP s'.1 s'.2 z ow' a k1 k2 := by
  obtain ⟨h1, h2, h3, h4, h5, h6, h7, h8, a1, a2, h9, h10, h11, h12⟩ := h
  have q := he.2.2 a h2
  have hX : ¬ IX z ow lo hi a := fun q => by
    unfold IX onr at q
    rw [h7, if_neg (by decide), if_neg (by omega)] at q
    omega
  have r := q.2.2.2.2 hX
  have e1 := he.1
  have e2 := he.2.1
  exact ⟨by rw [e1]; exact h1, by omega, by rw [q.1]; exact h3, by rw [q.2.2.1]; exact h4, by rw [r.1]; exact h5, by rw [r.1]; exact h6, by rw [q.2.2.2.1]; exact h7, h8, a1, a2, by rw [q.2.2.1]; exact h9, by rw [q.2.2.1]; exact h10, bo_ix h11 he hx, bo_ix h12 he hx⟩
theorem pb_ix (h : PB s.1 s.2 z ow R) (hK : KS s.1 z) (hw : OWS ow z) (he : ES (IX z ow lo hi) s ow s' ow') (hx : hi < 235 ∨ 235 < lo) (hx2 : hi < 1000) : PB s'.1 s'.2 z ow' R := fun p hp => by
  obtain ⟨a, h1, h2⟩ := h p hp
  have e := es_row hK hw he (i := 235) (by decide) (by omega)
  refine ⟨a, by rw [e.2.2.2]; exact h1, ?_⟩
  rcases h2 with h2 | h2
  · exact Or.inl ⟨h2.1, bo_ix h2.2 he hx2⟩
  · exact Or.inr ⟨h2.1, bp_ix h2.2 he hx2⟩
theorem cs_ix {Lp : Nat → Nat} {Lt Lg : Nat} (h : CS s.1 s.2 z ow Lp Lt Lg) (hK : KS s.1 z) (hw : OWS ow z) (he : ES (IX z ow lo hi) s ow s' ow') (hx : (1 ≤ lo ∧ hi < 77) ∨ (236 ≤ lo)) : CS s'.1 s'.2 z ow' Lp Lt Lg := by
  obtain ⟨⟨h1, h2, h3⟩, ⟨⟨S, V, h4, h5⟩, h6⟩, ⟨a, t1, t2, t3, t4, t5, t6⟩, b, g, g1, g2, g3, g4, g5, g6, g7, g8, g9⟩ := h
  have e1 := he.1
  have e2 := he.2.1
  have qa := he.2.2 a t3.2.1
  have qb := he.2.2 b g3.2.1
  have Xb : ¬ IX z ow lo hi b := fun q => by
    unfold IX at q
    rw [onr_r (o := 0) (k := 0) g2 (by omega)] at q
    omega
  have rb := qb.2.2.2.2 Xb
  have r78 := es_row hK hw he (i := 78) (by decide) (by omega)
  have r140 := es_row hK hw he (i := 140) (by decide) (by omega)
  have r203 := es_row hK hw he (i := 203) (by decide) (by omega)
  have r201 := es_row hK hw he (i := 201) (by decide) (by omega)
  have r0 := es_row hK hw he (i := 0) (by decide) (by omega)
  have l1 := t3.2.1
  have l2 := g3.2.1
  refine ⟨⟨fun c hc => by rw [r78.2.2.2]; exact h1 c hc, fun c hc => by rw [r140.2.2.2]; exact h2 c hc, fun c hc => by rw [r203.2.2.2]; exact h3 c hc⟩, ⟨⟨S, V, tb_ix h4 hK hw (by decide) he (by omega), h5⟩, h6⟩, ⟨a, by rw [r201.2.2.2]; exact t1, by rw [qa.2.2.2.1]; exact t2, ⟨by rw [e1]; exact t3.1, by omega, by rw [qa.1]; exact t3.2.2⟩, by rw [qa.2.1]; exact t4, t5, t6⟩, b, g, by rw [r0.2.2.2]; exact g1, by rw [qb.2.2.2.1]; exact g2, ⟨by rw [e1]; exact g3.1, by omega, by rw [qb.1]; exact g3.2.2⟩, by rw [qb.2.1]; exact g4, g5, g6, by rw [r0.1]; exact g7, g8, fun i hi9 => by rw [rb.1]; exact g9 i hi9⟩
end IXS
