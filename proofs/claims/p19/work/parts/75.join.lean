/-! JOINING -/
def addL (n : Nat) : (Nat → Nat) → List Nat → (Nat → Nat)
  | T, [] => T
  | T, s :: l => addL n (va_up T s (T s + n)) l
def cand (R : Nat → Int32) (T : Nat → Nat) (x y n : Nat) : Prop := rch R T 0 x ∧ x < nn R 0 ∧ lost R T 0 y ∧ y < nn R 0 ∧ dst R x y n
def jb (R : Nat → Int32) (T : Nat → Nat) (p q : Nat) : Prop := ∃ n, cand R T p q n ∧ ∀ x y n', cand R T x y n' → n < n' ∨ (n = n' ∧ (p < x ∨ (p = x ∧ q ≤ y)))
noncomputable def jnP (R : Nat → Int32) (T : Nat → Nat) : Nat × Nat := Classical.epsilon (fun q : Nat × Nat => jb R T q.1 q.2)
noncomputable def jn1 (R : Nat → Int32) (T : Nat → Nat) : Nat → Nat := addL 2 T (wayL R (jnP R T).2 60 (jnP R T).1)
noncomputable def joinF (R : Nat → Int32) : Nat → (Nat → Nat) → Option (Nat → Nat)
  | 0, _ => none
  | k + 1, T => @ite _ (conn R T 0) (Classical.propDecidable _) (some T) (@ite _ (∃ p q, jb R T p q) (Classical.propDecidable _) (joinF R k (jn1 R T)) none)
/-- TIMES stand at OPEN STREETS alone -/
def OPT (R : Nat → Int32) (T : Nat → Nat) : Prop := ∀ s, s < nn R 1 → 0 < T s → R (16 + 9 * s + 4) = 0
/-- no OPEN STREET is ONE WAY -/
def BW (R : Nat → Int32) : Prop := ∀ s, s < nn R 1 → R (16 + 9 * s + 4) = 0 → R (16 + 9 * s + 5) = 0
section JN
variable {R : Nat → Int32} {T T' : Nat → Nat} {n b u p q : Nat}
theorem addL_ge : ∀ (l : List Nat) (T : Nat → Nat) (s : Nat), T s ≤ addL n T l s
  | [], T, s => Nat.le_refl _
  | t :: l, T, s => by
    refine Nat.le_trans ?_ (addL_ge l (va_up T t (T t + n)) s)
    by_cases e : s = t
    · rw [e, va_up_s]
      omega
    · rw [va_up_n e]
      exact Nat.le_refl _
theorem addL_le : ∀ (l : List Nat) (T : Nat → Nat) (s : Nat), addL n T l s ≤ T s + n * l.length
  | [], T, s => by
    show T s ≤ _
    omega
  | t :: l, T, s => by
    refine Nat.le_trans (addL_le l (va_up T t (T t + n)) s) ?_
    have e1 : n * (t :: l).length = n * l.length + n := by
      rw [List.length_cons, Nat.mul_add, Nat.mul_one]
    by_cases e : s = t
    · rw [e, va_up_s]
      omega
    · rw [va_up_n e]
      omega
theorem addL_out : ∀ (l : List Nat) (T : Nat → Nat) (s : Nat), ¬ s ∈ l → addL n T l s = T s
  | [], T, s, h => rfl
  | t :: l, T, s, h => by
    show addL n (va_up T t (T t + n)) l s = T s
    rw [addL_out l _ s (fun q => h (List.mem_cons_of_mem _ q))]
    refine va_up_n (fun e => h ?_)
    rw [e]
    exact List.mem_cons_self ..
theorem addL_in : ∀ (l : List Nat) (T : Nat → Nat) (s : Nat), s ∈ l → T s + n ≤ addL n T l s
  | [], T, s, h => absurd h (by simp)
  | t :: l, T, s, h => by
    show T s + n ≤ addL n (va_up T t (T t + n)) l s
    rcases List.mem_cons.mp h with e | e
    · subst e
      have := addL_ge (n := n) l (va_up T s (T s + n)) s
      rw [va_up_s] at this
      exact this
    · have := addL_in l (va_up T t (T t + n)) s e
      by_cases e2 : s = t
      · rw [e2, va_up_s] at this
        rw [e2]
        omega
      · rw [va_up_n e2] at this
        exact this
theorem addL_par : ∀ (l : List Nat) (T : Nat → Nat) (s : Nat), addL 2 T l s % 2 = T s % 2
  | [], T, s => rfl
  | t :: l, T, s => by
    show addL 2 (va_up T t (T t + 2)) l s % 2 = _
    rw [addL_par l _ s]
    by_cases e : s = t
    · rw [e, va_up_s]
      omega
    · rw [va_up_n e]
theorem wayL_len : ∀ (k u : Nat), (wayL R b k u).length ≤ k
  | 0, u => Nat.le_refl _
  | k + 1, u => by
    show (if u = b then [] else (nxt R b u).1 :: wayL R b k (nxt R b u).2).length ≤ k + 1
    split
    · exact Nat.zero_le _
    · have := wayL_len k (nxt R b u).2
      rw [List.length_cons]
      omega
/-- every STREET of THE WAY is OPEN -/
theorem wayL_open : ∀ (k u : Nat), rk R b k u → ∀ s, s ∈ wayL R b k u → s < nn R 1 ∧ R (16 + 9 * s + 4) = 0
  | 0, u, h, s, hs => absurd hs (by simp [wayL])
  | k + 1, u, h, s, hs => by
    unfold wayL at hs
    by_cases e : u = b
    · rw [if_pos e] at hs
      exact absurd hs (by simp)
    · rw [if_neg e] at hs
      obtain ⟨_, hq, hr⟩ := h.resolve_left e
      rcases List.mem_cons.mp hs with r | r
      · rw [r]
        exact ⟨hq.1.2.1.1, hq.1.2.1.2.1⟩
      · exact wayL_open k _ hr s r
theorem edge_e {s c : Nat} (hW : WS R) (hN : WN R) (hu : u < nn R 0) (hc : c < nn R 0) (he : edge R s u c) : (eA R s = u ∧ eB R s = c) ∨ (eA R s = c ∧ eB R s = u) := by
  have n0 := hN.1.2
  obtain ⟨e7, a2, e8, b2, hne⟩ := ws_e hW hN he.1
  rcases (edge_iff (x := u) (y := c) he.1 he.2.1 e7 e8 (by omega) (by omega) (by omega) (by omega)).mp he with ⟨r1, r2⟩ | ⟨_, r1, r2⟩
  · exact Or.inl ⟨r1.symm, r2.symm⟩
  · exact Or.inr ⟨r2.symm, r1.symm⟩
/-- THE WAY is driven: all its CROSSINGS can be come to -/
theorem way_in {c0 : Nat} (hW : WS R) (hN : WN R) : ∀ (k u : Nat), rk R b k u → u < nn R 0 → (∀ s, s ∈ wayL R b k u → 0 < T s) → rch R T c0 u → (∀ s, s ∈ wayL R b k u → rch R T c0 (eA R s) ∧ rch R T c0 (eB R s)) ∧ rch R T c0 b
  | 0, u, h, hu, hp, hr => ⟨fun s hs => absurd hs (by simp [wayL]), by
    have h : u = b := h
    rw [← h]
    exact hr⟩
  | k + 1, u, h, hu, hp, hr => by
    unfold wayL at hp ⊢
    by_cases e : u = b
    · rw [if_pos e]
      exact ⟨fun s hs => absurd hs (by simp), by rw [← e]; exact hr⟩
    · rw [if_neg e] at hp ⊢
      obtain ⟨_, hq, hrk⟩ := h.resolve_left e
      have he := edge_e hW hN hu hq.1.1 hq.1.2.1
      have hs1 := hq.1.2.1.1
      have hp1 := hp _ (List.mem_cons_self ..)
      have ad : adj R T u (nxt R b u).2 := ⟨(nxt R b u).1, hs1, hp1, he⟩
      have hr2 := rch_step hr ad
      have ih := way_in hW hN k (nxt R b u).2 hrk hq.1.1 (fun s hs => hp s (List.mem_cons_of_mem _ hs)) hr2
      refine ⟨fun s hs => ?_, ih.2⟩
      rcases List.mem_cons.mp hs with r | r
      · rw [r]
        rcases he with ⟨r1, r2⟩ | ⟨r1, r2⟩
        · rw [r1, r2]
          exact ⟨hr, hr2⟩
        · rw [r1, r2]
          exact ⟨hr2, hr⟩
      · exact ih.1 s r
theorem jb_fun {p' q' : Nat} (h1 : jb R T p q) (h2 : jb R T p' q') : p = p' ∧ q = q' := by
  obtain ⟨n, a1, a2⟩ := h1
  obtain ⟨n', b1, b2⟩ := h2
  have x1 := a2 _ _ _ b1
  have x2 := b2 _ _ _ a1
  omega
theorem jnP_eq (h : jb R T p q) : jnP R T = (p, q) := by
  have r := Classical.epsilon_spec (p := fun q : Nat × Nat => jb R T q.1 q.2) ⟨(p, q), h⟩
  have e := jb_fun r h
  exact Prod.ext e.1 e.2
/-- how many are lost -/
noncomputable def lc (R : Nat → Int32) (T : Nat → Nat) : Nat := smN (fun y => @ite _ (lost R T 0 y) (Classical.propDecidable _) 1 0) (nn R 0)
theorem ite_p {p : Prop} {i : Decidable p} {α : Type} {a b : α} (h : p) : @ite _ p i a b = a := if_pos h
theorem ite_n {p : Prop} {i : Decidable p} {α : Type} {a b : α} (h : ¬ p) : @ite _ p i a b = b := if_neg h
theorem jn1_props (hW : WS R) (hN : WN R) (hj : jb R T p q) : (∀ s, T s ≤ jn1 R T s) ∧ (∀ s, jn1 R T s ≤ T s + 120) ∧ (∀ s, jn1 R T s % 2 = T s % 2) ∧ (OPT R T → OPT R (jn1 R T)) ∧ lc R (jn1 R T) + 1 ≤ lc R T := by
  obtain ⟨n, ⟨c1, c2, c3, c4, c5⟩, -⟩ := id hj
  have hrk := rk_60 hW hN c5
  have e : jn1 R T = addL 2 T (wayL R q 60 p) := by
    unfold jn1
    rw [jnP_eq hj]
  rw [e]
  have hge := fun s => addL_ge (n := 2) (wayL R q 60 p) T s
  have hlen := wayL_len (R := R) (b := q) 60 p
  have hpos : ∀ s, s ∈ wayL R q 60 p → 0 < addL 2 T (wayL R q 60 p) s := fun s hs => by
    have := addL_in (n := 2) (wayL R q 60 p) T s hs
    omega
  have hm : ∀ v, rch R T 0 v → rch R (addL 2 T (wayL R q 60 p)) 0 v := fun v hv => rch_mono (fun s _ h => by have := hge s; omega) hv
  have hin := way_in (T := addL 2 T (wayL R q 60 p)) (c0 := 0) hW hN 60 p hrk c2 hpos (hm p c1)
  refine ⟨hge, fun s => ?_, fun s => addL_par _ _ _, fun ho s hs hp => ?_, ?_⟩
  · have := addL_le (n := 2) (wayL R q 60 p) T s
    omega
  · by_cases hs2 : s ∈ wayL R q 60 p
    · exact (wayL_open 60 p hrk s hs2).2
    · rw [addL_out _ _ _ hs2] at hp
      exact ho s hs hp
  · have key : ∀ y, lost R (addL 2 T (wayL R q 60 p)) 0 y → lost R T 0 y ∧ y ≠ q := fun y hy => by
      obtain ⟨h1, s, h2, h3, h4⟩ := hy
      have hsn : ¬ s ∈ wayL R q 60 p := fun r => by
        have := hin.1 s r
        rcases h4 with h4 | h4
        · rw [h4] at this
          exact h1 this.1
        · rw [h4] at this
          exact h1 this.2
      rw [addL_out _ _ _ hsn] at h3
      exact ⟨⟨fun r => h1 (hm y r), s, h2, h3, h4⟩, fun r => h1 (by rw [r]; exact hin.2)⟩
    unfold lc
    have s1 := smN_up (f := fun y => @ite _ (lost R (addL 2 T (wayL R q 60 p)) 0 y) (Classical.propDecidable _) 1 0) (c := q) (v := 1) (nn R 0) c4
    rw [ite_n (fun r => (key q r).2 rfl)] at s1
    have s2 := smN_le (f := va_up (fun y => @ite _ (lost R (addL 2 T (wayL R q 60 p)) 0 y) (Classical.propDecidable _) 1 0) q 1) (g := fun y => @ite _ (lost R T 0 y) (Classical.propDecidable _) 1 0) (nn R 0) (fun y _ => by
      by_cases ey : y = q
      · subst ey
        show va_up _ y 1 y ≤ _
        rw [va_up_s, ite_p c3]
        exact Nat.le_refl _
      · rw [va_up_n ey]
        by_cases r : lost R (addL 2 T (wayL R q 60 p)) 0 y
        · rw [ite_p r, ite_p (key y r).1]
          exact Nat.le_refl _
        · rw [ite_n r]
          exact Nat.zero_le _)
    omega
theorem lc_59 (hN : WN R) : lc R T < 60 := by
  have n0 := hN.1.2
  unfold lc
  rcases Nat.eq_zero_or_pos (nn R 0) with h | h
  · rw [h]
    show 0 < 60
    omega
  · have s1 := smN_up (f := fun y => @ite _ (lost R T 0 y) (Classical.propDecidable _) 1 0) (c := 0) (v := 1) (nn R 0) h
    rw [ite_n (fun r => r.1 rch_rf)] at s1
    have s2 := smN_le (f := va_up (fun y => @ite _ (lost R T 0 y) (Classical.propDecidable _) 1 0) 0 1) (g := fun _ => 1) (nn R 0) (fun y _ => by
      unfold va_up
      split
      · exact Nat.le_refl _
      · show @ite _ (lost R T 0 y) (Classical.propDecidable _) 1 0 ≤ 1
        by_cases r : lost R T 0 y
        · rw [ite_p r]
          exact Nat.le_refl _
        · rw [ite_n r]
          exact Nat.zero_le _)
    rw [smN_const] at s2
    omega
theorem joinF_props (hW : WS R) (hN : WN R) : ∀ (k : Nat) (T T' : Nat → Nat), joinF R k T = some T' → (∀ s, s < nn R 1 → T s + 120 * k ≤ 8000) → OPT R T → (∀ s, s < nn R 1 → T' s ≤ 8000) ∧ (∀ s, T' s % 2 = T s % 2) ∧ (∀ s, T s ≤ T' s) ∧ OPT R T' ∧ conn R T' 0
  | 0, T, T', h, hb, ho => by cases h
  | k + 1, T, T', h, hb, ho => by
    unfold joinF at h
    by_cases hc : conn R T 0
    · rw [ite_p hc] at h
      cases h
      exact ⟨fun s hs => by have := hb s hs; omega, fun _ => rfl, fun _ => Nat.le_refl _, ho, hc⟩
    · rw [ite_n hc] at h
      by_cases hj : ∃ p q, jb R T p q
      · rw [ite_p hj] at h
        obtain ⟨p, q, hj⟩ := hj
        obtain ⟨a1, a2, a3, a4, a5⟩ := jn1_props hW hN hj
        obtain ⟨b1, b2, b3, b4, b5⟩ := joinF_props hW hN k _ T' h (fun s hs => by have := hb s hs; have := a2 s; omega) (a4 ho)
        exact ⟨b1, fun s => (b2 s).trans (a3 s), fun s => Nat.le_trans (a1 s) (b3 s), b4, b5⟩
      · rw [ite_n hj] at h
        cases h
end JN
