section NSP
variable {p : Program} {l : Launch} {e : Env} {R : Room} {s : State} {m : MethodId} {args : Array Value} {below : List Frame} {meth : Method} {c : Code} {H : Heap} {locs : List Loc} {cells slots : Nat} {Q : State → Prop}
variable {cc : ByteArray} {pc : Nat} {ls : Array Slot} {rest : List Value} {G : GG} {A : Nat → Prop} {a : Nat} {X : va_W} {L : List Nat} {f : Nat → va_E} {H0 : Heap}
/-- a pooled row, by its place -/
theorem ns_pl (hRo : Ro G L f) (ha : a ∈ L) : ∃ (k n : Nat) (r : Nat → Int32), (X ++ va_pl L f)[k]? = some (a, f a) ∧ f a = .inl (G.2 0, n, .inl r) ∧ (X ++ va_pl L f)[k]? = some (a, .inl (G.2 0, n, .inl r)) ∧ 4 ≤ n ∧ n < 2 ^ 20 := by
  obtain ⟨k, hk⟩ := va_pl_get (X := X) (f := f) ha
  obtain ⟨n, r, h1, h2, h3⟩ := hRo a ha
  exact ⟨k, n, r, hk, h1, by rw [hk, h1], h2, h3⟩
/-- the length of a pooled row -/
theorem ns_plen (hexec : p.tables.exec = Jvm.exec) (hb : c.code = cc) (hK : KK G s) (hRo : Ro G L f) (ha : a ∈ L) (hP : va_P G.1 vwCl (X ++ va_pl L f) H) (hdg : decode cc pc = .ok (.arraylength, 1))
    (kk : ∀ n : Nat, 4 ≤ n → n < 2 ^ 20 → W p l e R s m args below meth c H locs cells slots Q (F0 m (pc + 1) ls (.int (nI n) :: rest))) : W p l e R s m args below meth c H locs cells slots Q (F0 m pc ls (.ref a :: rest)) := by
  obtain ⟨k, n, r, -, -, hk, h4, hn⟩ := ns_pl (X := X) hRo ha
  exact va_alen hexec hb hK.1 hP k 0 hk rfl rfl hdg (kk n h4 hn)
/-- a pooled row is written -/
theorem ns_past (hexec : p.tables.exec = Jvm.exec) (hb : c.code = cc) (hK : KK G s) (hRo : Ro G L f) (ha : a ∈ L) (hP : va_P G.1 vwCl (X ++ va_pl L f) H) (hD : va_D A (X ++ va_pl L f)) (hS : va_S A H0 H locs) {i x : Int32} (hin : ∀ n, 4 ≤ n → vp_in i n) (hdg : decode cc pc = .ok (.iastore, 1))
    (kk : ∀ (f1 : Nat → va_E) (H1 : Heap) (locs1 : List Loc), Ro G L f1 → va_P G.1 vwCl (X ++ va_pl L f1) H1 → va_D A (X ++ va_pl L f1) → va_S A H0 H1 locs1 → W p l e R s m args below meth c H1 locs1 cells slots Q (F0 m (pc + 1) ls rest)) : W p l e R s m args below meth c H locs cells slots Q (F0 m pc ls (.int x :: .int i :: .ref a :: rest)) := by
  obtain ⟨k, n, r, hk0, -, hk, h4, hn⟩ := ns_pl (X := X) hRo ha
  refine va_iast hexec hb hK.1 hP hD hS k 0 hk rfl (hin n h4) hdg (fun H1 locs1 hP1 hD1 hS1 => ?_)
  rw [va_pl_set hD ha hk0] at hP1 hD1
  exact kk _ H1 locs1 (hRo.up h4 hn) hP1 hD1 hS1
/-- nothing is copied from a pooled row to a pooled row -/
theorem ns_pcopy {b : Nat} (hexec : p.tables.exec = Jvm.exec) (hb : c.code = cc) (hml : c.maxLocals = ls.size) {own : String} {index : Nat} (hown : s.vm.findClass own = some m.cls) (hlink : (Cond.methodLink own index arraycopyName).before args s = true) (hnat : (Cond.native arraycopyName).before args s = true) (hstat : (Cond.static arraycopyName).before args s = true) (hini : (Cond.initialized "java/lang/System").before args s = true)
    (hK : KK G s) (hRo : Ro G L f) (ha : a ∈ L) (hb9 : b ∈ L) (hP : va_P G.1 vwCl (X ++ va_pl L f) H) (hD : va_D A (X ++ va_pl L f)) (hS : va_S A H0 H locs) (hframes : 1 ≤ R.frames) (hlocals : (rest.map fun v => v.category).sum + (nativeFrameWords "java/lang/System" "arraycopy" 5 + 11) ≤ R.locals) (hdg : decode cc pc = .ok (.invokestatic index, 3))
    (kk : ∀ (f1 : Nat → va_E) (H1 : Heap) (locs1 : List Loc), Ro G L f1 → va_P G.1 vwCl (X ++ va_pl L f1) H1 → va_D A (X ++ va_pl L f1) → va_S A H0 H1 locs1 → W p l e R s m args below meth c H1 locs1 cells slots Q (F0 m (pc + 3) ls rest)) : W p l e R s m args below meth c H locs cells slots Q (F0 m pc ls (.int 0 :: .int 0 :: .ref a :: .int 0 :: .ref b :: rest)) := by
  obtain ⟨k, n, r, hk0, -, hk, h4, hn⟩ := ns_pl (X := X) hRo ha
  obtain ⟨k1, n1, r1, -, -, hk1, h41, hn1⟩ := ns_pl (X := X) hRo hb9
  refine va_copyi hexec hb hml hown hlink hnat hstat hini hK.1 hP hD hS k1 k 0 0 hk1 hk rfl rfl rfl (by decide) (by decide) (by decide) (Nat.zero_le _) (Nat.zero_le _) (fun i hi => absurd hi (Nat.not_lt_zero _)) hframes hlocals hdg (fun H1 locs1 hP1 hD1 hS1 => ?_)
  rw [va_pl_set hD ha hk0] at hP1 hD1
  exact kk _ H1 locs1 (hRo.up h4 hn) hP1 hD1 hS1
/-- a call that has one pooled row alone -/
theorem ns_pcall {n : Nat} {r : Nat → Int32} {st0 : List Value} {av : Array Value} (hRo : Ro G L f) (ha : a ∈ L) (hfa : f a = .inl (G.2 0, n, .inl r)) (h4 : 4 ≤ n) (hn : n < 2 ^ 20) (hP : va_P G.1 vwCl (X ++ va_pl L f) H) (hD : va_D A (X ++ va_pl L f)) (hS : va_S A H0 H locs) (hA : ∀ q, H0.size ≤ q → A q)
    (hr : va_Run p l e R s m args below meth c H locs cells slots 0 0 (F0 m pc ls st0) rest (va_Qv (S := Nat → Int32) (fun _ => True) (fun u t => c0_B G (va_A ([(a, .inl (G.2 0, n, .inl r))]) H.size) ([(a, .inl (G.2 0, n, .inl u))]) t) (va_A ([(a, .inl (G.2 0, n, .inl r))]) H.size) av) (va_A ([(a, .inl (G.2 0, n, .inl r))]) H.size))
    (kk : ∀ (f1 : Nat → va_E) (H1 : Heap) (locs1 : List Loc), Ro G L f1 → va_P G.1 vwCl (X ++ va_pl L f1) H1 → va_D A (X ++ va_pl L f1) → va_S A H0 H1 locs1 → W p l e R s m args below meth c H1 locs1 (cells + 0) (slots + 0) Q (F0 m (pc + 3) ls rest)) : W p l e R s m args below meth c H locs cells slots Q (F0 m pc ls st0) := by
  obtain ⟨k, hk⟩ := va_pl_get (X := X) (f := f) ha
  have haA : A a := hD.2 k _ hk
  have hF : ∀ q, va_A ([(a, .inl (G.2 0, n, .inl r))]) H.size q → A q := fun q h => by
    rcases h with ⟨j, e9, h⟩ | h
    · have hj : j < 1 := (List.getElem?_eq_some_iff.mp h).1
      rw [show j = 0 by omega] at h
      cases h
      exact haA
    · exact hA q (Nat.le_trans hS.1 h)
  refine va_callv hr hS (fun q _ h => hF q h) hF (fun u t H1 locs1 ht hvm _ hB hz hk1 hS1 => ?_)
  obtain ⟨hP1, hD1⟩ := hB
  rw [ht] at hP1
  have ea := va_pl_set (e := .inl (G.2 0, n, .inl u)) hD ha hk
  have hD2 := hD.set (e := .inl (G.2 0, n, .inl u)) hk
  rw [ea] at hD2
  refine kk (va_up f a (.inl (G.2 0, n, .inl u))) H1 locs1 (hRo.up h4 hn) ?_ hD2 hS1
  rw [← ea]
  intro j q hj
  by_cases e9 : j = k
  · subst e9
    rw [List.getElem?_set_self (List.getElem?_eq_some_iff.mp hk).1] at hj
    cases hj
    exact hP1 0 _ rfl
  · rw [List.getElem?_set_ne (Ne.symm e9)] at hj
    have hne : q.1 ≠ a := fun h => e9 (hD.1 j k q (a, f a) hj hk h)
    refine (hP j q hj).kept (hk1 q.1 ((hP j q hj).lt) (fun h => ?_))
    rcases h with ⟨j2, e8, h⟩ | h
    · have hj2 : j2 < 1 := (List.getElem?_eq_some_iff.mp h).1
      rw [show j2 = 0 by omega] at h
      exact hne (congrArg Prod.fst (Option.some.inj h)).symm
    · have := (hP j q hj).lt
      omega
end NSP
