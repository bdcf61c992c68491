/-! tables. A ghost ow says of each cell whose row it is: 16 o + c + 1 for column c of the table at z + o, 0 for what is no row -/
def cOl : List Nat := [0, 0, 0, 0, 0, 0, 65, 66, 67, 68, 69, 70, 71, 72, 73, 0, 0, 241, 242, 243, 0, 0, 321, 322, 323, 324, 325, 326, 327, 328, 329, 0, 0, 497, 498, 499, 500, 0, 0, 49, 0, 0, 0, 657, 658, 659, 660, 661, 662, 663, 664, 665, 0, 0, 833, 834, 835, 0, 0, 913, 914, 915, 916, 917, 918, 919, 920, 921, 0, 0, 1089, 1090, 1091, 1092, 0, 0, 641, 0, 0, 0, 0, 0, 0, 0, 0, 0, 0, 0, 0, 0, 0, 0, 0, 0, 0, 0, 0, 0, 0, 0, 0, 0, 0, 0, 0, 0, 0, 0, 0, 0, 0, 0, 0, 0, 0, 0, 0, 0, 0, 0, 0, 0, 0, 0, 0, 0, 0, 0, 0, 0, 0, 0, 0, 0, 0, 0, 0, 0, 0, 0, 0, 0, 0, 0, 0, 0, 0, 0, 0, 0, 0, 0, 0, 0, 0, 0, 0, 0, 0, 0, 0, 0, 0, 0, 0, 0, 0, 0, 0, 0, 0, 0, 0, 0, 0, 0, 0, 0, 0, 0, 0, 0, 0, 0, 0, 0, 0, 0, 0, 0, 0, 0, 0, 0, 0, 0, 0, 0, 0, 0, 0, 0, 0, 0, 0, 0, 0, 0, 0, 0, 0, 0, 0, 0, 0, 0, 0, 0, 3217, 0, 0, 0, 0, 0, 3553, 3554, 3555, 3556, 0, 0, 0, 0, 0, 0, 0, 0, 0, 0, 0, 0, 1, 0, 0, 0, 0, 0, 0, 0, 0, 0, 0, 0, 0, 0, 0, 0, 0, 0, 0, 0, 0, 0, 0, 0]
def tck (o nc : Nat) : Bool := Nat.blt (o + 1) 264 && (Nat.beq (cTl.getD o 99) 18 && (Nat.beq (cTl.getD (o + 1) 99) 5 && (Nat.beq (cLl.getD (o + 1) 0) nc && (Nat.beq (cOl.getD o 1) 0 && (Nat.beq (cOl.getD (o + 1) 1) 0 && (Nat.ble nc 15 && cPt.contains (o, 0, o + 1)))))))
def OWS (ow : Nat → Nat) (z : Nat) : Prop := ∀ i, i < 264 → cOl.getD i 1 = 0 → ow (z + i) = 0
/-- the table at z + o has S rows with the values V; its columns have room L -/
def TB (sh : Sh) (d : Dt) (z : Nat) (ow : Nat → Nat) (o nc S : Nat) (V : Nat → Nat → Int32) (L : Nat → Nat) : Prop :=
  d.1 (z + o) 1 = nI S ∧ ∀ c, c < nc → ∃ a, d.2.2.2 (z + (o + 1)) c = some a ∧ ow a = 16 * o + c + 1 ∧ isA sh a 0 ∧ sh.2.2.1 a = L c ∧ S ≤ L c ∧ L c < 2 ^ 20 ∧ ∀ i, i < S → d.1 a i = V c i
/-- what a change of the table at z + o may touch -/
def TX (z : Nat) (ow : Nat → Nat) (o : Nat) : Nat → Prop := fun a => a = z + o ∨ a = z + (o + 1) ∨ (1 ≤ ow a ∧ (ow a - 1) / 16 = o)
def FD (X : Nat → Prop) (d d' : Dt) : Prop := ∀ a, ¬ X a → d'.1 a = d.1 a ∧ d'.2.1 a = d.2.1 a ∧ d'.2.2.1 a = d.2.2.1 a ∧ d'.2.2.2 a = d.2.2.2 a
/-- from s to s' cells may be new, and of the old ones only those of X have other contents -/
def ES (X : Nat → Prop) (s : AS) (ow : Nat → Nat) (s' : AS) (ow' : Nat → Nat) : Prop := s'.1.1.1 = s.1.1.1 ∧ s.1.1.2.1 ≤ s'.1.1.2.1 ∧ ∀ a, a < s.1.1.2.1 → s'.1.2.1 a = s.1.2.1 a ∧ s'.1.2.2.1 a = s.1.2.2.1 a ∧ s'.1.2.2.2 a = s.1.2.2.2 a ∧ ow' a = ow a ∧ (¬ X a → s'.2.1 a = s.2.1 a ∧ s'.2.2.1 a = s.2.2.1 a ∧ s'.2.2.2.1 a = s.2.2.2.1 a ∧ s'.2.2.2.2 a = s.2.2.2.2 a)
theorem ES.rf {X : Nat → Prop} {s : AS} {ow : Nat → Nat} : ES X s ow s ow := ⟨rfl, Nat.le_refl _, fun _ _ => ⟨rfl, rfl, rfl, rfl, fun _ => ⟨rfl, rfl, rfl, rfl⟩⟩⟩
theorem ES.tr {X Y : Nat → Prop} {s s1 s2 : AS} {ow ow1 ow2 : Nat → Nat} (h1 : ES X s ow s1 ow1) (h2 : ES Y s1 ow1 s2 ow2) (hXY : ∀ a, a < s.1.1.2.1 → Y a → X a) : ES X s ow s2 ow2 := by
  refine ⟨h2.1.trans h1.1, Nat.le_trans h1.2.1 h2.2.1, fun a ha => ?_⟩
  have q1 := h1.2.2 a ha
  have q2 := h2.2.2 a (Nat.lt_of_lt_of_le ha h1.2.1)
  refine ⟨q2.1.trans q1.1, q2.2.1.trans q1.2.1, q2.2.2.1.trans q1.2.2.1, q2.2.2.2.1.trans q1.2.2.2.1, fun hX => ?_⟩
  have r1 := q1.2.2.2.2 hX
  have r2 := q2.2.2.2.2 (fun hy => hX (hXY a ha hy))
  exact ⟨r2.1.trans r1.1, r2.2.1.trans r1.2.1, r2.2.2.1.trans r1.2.2.1, r2.2.2.2.trans r1.2.2.2⟩
theorem ES.mono {X Y : Nat → Prop} {s s' : AS} {ow ow' : Nat → Nat} (h : ES X s ow s' ow') (hXY : ∀ a, a < s.1.1.2.1 → X a → Y a) : ES Y s ow s' ow' := ⟨h.1, h.2.1, fun a ha => ⟨(h.2.2 a ha).1, (h.2.2 a ha).2.1, (h.2.2 a ha).2.2.1, (h.2.2 a ha).2.2.2.1, fun hY => (h.2.2 a ha).2.2.2.2 (fun hX => hY (hXY a ha hX))⟩⟩
theorem FD.es {X : Nat → Prop} {sh : Sh} {d d' : Dt} {ow : Nat → Nat} (h : FD X d d') : ES X (sh, d) ow (sh, d') ow := ⟨rfl, Nat.le_refl _, fun a _ => ⟨rfl, rfl, rfl, rfl, h a⟩⟩
theorem FD.rf {X : Nat → Prop} {d : Dt} : FD X d d := fun _ _ => ⟨rfl, rfl, rfl, rfl⟩
theorem FD.tr {X : Nat → Prop} {d d1 d2 : Dt} (h1 : FD X d d1) (h2 : FD X d1 d2) : FD X d d2 := fun a ha => ⟨(h2 a ha).1.trans (h1 a ha).1, (h2 a ha).2.1.trans (h1 a ha).2.1, (h2 a ha).2.2.1.trans (h1 a ha).2.2.1, (h2 a ha).2.2.2.trans (h1 a ha).2.2.2⟩
theorem FD.mono {X Y : Nat → Prop} {d d' : Dt} (h : FD X d d') (k : ∀ a, X a → Y a) : FD Y d d' := fun a ha => h a (fun q => ha (k a q))
theorem FD.wI {X : Nat → Prop} {d : Dt} {a k : Nat} {v : Int32} (h : X a) : FD X d (wI d a k v) := fun b hb => ⟨wI_n (fun e => hb (e ▸ h)), rfl, rfl, rfl⟩
theorem rn_val {α : Type} {o : Option α} {v : α} (h : Rn o (fun r => r = v)) : o = some v := by
  obtain ⟨r, e, rfl⟩ := h
  exact e
theorem KS.es {X : Nat → Prop} {s s' : AS} {ow ow' : Nat → Nat} {z : Nat} (h : KS s.1 z) (e : ES X s ow s' ow') : KS s'.1 z := by
  obtain ⟨h1, h2, h3, h4⟩ := h
  have e2 := e.2.1
  refine ⟨e.1.trans h1, by omega, fun i hi => ?_, fun q hq => ?_⟩
  · have q := e.2.2 (z + i) (by omega)
    rw [q.1, q.2.1]
    exact h3 i hi
  · have hb : q.1 < 264 := by
      have := List.all_eq_true.mp (show cPt.all (fun q => Nat.blt q.1 264) = true by decide) q hq
      exact Nat.le_of_ble_eq_true this
    rw [(e.2.2 (z + q.1) (by omega)).2.2.1]
    exact h4 q hq
theorem OWS.es {X : Nat → Prop} {s s' : AS} {ow ow' : Nat → Nat} {z : Nat} (h : OWS ow z) (hk : KS s.1 z) (e : ES X s ow s' ow') : OWS ow' z := fun i hi hc => by
  have := hk.2.1
  rw [(e.2.2 (z + i) (by omega)).2.2.2.1]
  exact h i hi hc
section TBS
variable {β : Type} {Q : β → Prop} {sh : Sh} {d : Dt} {z : Nat} {ow : Nat → Nat} {o nc S : Nat} {V : Nat → Nat → Int32} {L : Nat → Nat} {N : Nat}
theorem tck_1 (h : tck o nc = true) : (Nat.blt o 264 && Nat.beq (cTl.getD o 99) (10 + 8)) = true := by
  simp only [tck, Bool.and_eq_true] at h
  rw [Bool.and_eq_true]
  exact ⟨Nat.ble_eq_true_of_le (by have := Nat.le_of_ble_eq_true h.1; omega), h.2.1⟩
theorem tck_2 (h : tck o nc = true) : (Nat.blt (o + 1) 264 && (Nat.beq (cTl.getD (o + 1) 99) 5 && Nat.beq (cLl.getD (o + 1) 0) nc)) = true := by
  simp only [tck, Bool.and_eq_true] at h
  rw [Bool.and_eq_true, Bool.and_eq_true]
  exact ⟨h.1, h.2.2.1, h.2.2.2.1⟩
theorem tck_3 (h : tck o nc = true) : (o, 0, o + 1) ∈ cPt := by
  simp only [tck, Bool.and_eq_true] at h
  exact List.contains_iff_mem.mp h.2.2.2.2.2.2.2
theorem tck_n (h : tck o nc = true) : nc ≤ 15 ∧ o + 1 < 264 := by
  simp only [tck, Bool.and_eq_true] at h
  exact ⟨Nat.le_of_ble_eq_true h.2.2.2.2.2.2.1, Nat.le_of_ble_eq_true h.1⟩
theorem tck_o (h : tck o nc = true) (hw : OWS ow z) : ow (z + o) = 0 ∧ ow (z + (o + 1)) = 0 := by
  have hn := tck_n h
  simp only [tck, Bool.and_eq_true] at h
  exact ⟨hw o (by omega) (Nat.eq_of_beq_eq_true h.2.2.2.2.1), hw (o + 1) (by omega) (Nat.eq_of_beq_eq_true h.2.2.2.2.2.1)⟩
theorem tb_size (ht : TB sh d z ow o nc S V L) (h0 : 0 < nc) : S < 2 ^ 20 := by
  obtain ⟨a, -, -, -, -, h1, h2, -⟩ := ht.2 0 h0
  omega
theorem tb_get {row col : Int32} {i c : Nat} (h : KS sh z) (hk : tck o nc = true) (ht : TB sh d z ow o nc S V L) (hr : row = nI i) (hi : i < S) (hl : col = nI c) (hc : c < nc) : f_X8_get N sh (z + o) row col d = some (V c i) := by
  subst hr
  subst hl
  obtain ⟨hS, ht⟩ := ht
  obtain ⟨a, ha, hw, hA, hL, hSL, hLb, hV⟩ := ht c hc
  have hn := tck_n hk
  refine rn_val ?_
  unfold f_X8_get
  refine rn_t (ks_o h o 8 (tck_1 hk)) ?_
  refine rn_f (nI_pos (by omega)) ?_
  refine r_gI h (tck_1 hk) ?_
  rw [hS]
  refine rn_f (nI_ge hi (by omega)) ?_
  refine rn_f (nI_pos (by omega)) ?_
  refine r_gP h o 8 0 (o + 1) (tck_1 hk) (tck_3 hk) ?_
  refine rn_eq (q_len (ks_a h (o + 1) 5 nc (tck_2 hk)) (by decide)) ?_
  refine rn_f (nI_ge hc (by omega)) ?_
  refine r_gP h o 8 0 (o + 1) (tck_1 hk) (tck_3 hk) ?_
  refine rn_eq (q_aQ (ks_a h (o + 1) 5 nc (tck_2 hk)) c a rfl hc (by omega) ha) ?_
  refine rn_eq (q_aT ⟨hA, hL⟩ i rfl (by omega) (by omega)) ?_
  exact rn_some (hV i hi)
theorem tb_get_no {row col : Int32} (h : KS sh z) (hk : tck o nc = true) (ht : TB sh d z ow o nc S V L) (hr : row < 0 ∨ nI S ≤ row) : f_X8_get N sh (z + o) row col d = some (-1) := by
  refine rn_val ?_
  unfold f_X8_get
  refine rn_t (ks_o h o 8 (tck_1 hk)) ?_
  refine rn_ite (fun _ => rn_some rfl) (fun h0 => ?_)
  refine r_gI h (tck_1 hk) ?_
  rw [ht.1]
  exact rn_t (hr.resolve_left h0) (rn_some rfl)
theorem tb_has {row : Int32} (h : KS sh z) (hk : tck o nc = true) (ht : TB sh d z ow o nc S V L) : f_X8_has N sh (z + o) row d = some (if row < 0 ∨ nI S ≤ row then 0 else 1) := by
  refine rn_val ?_
  unfold f_X8_has
  refine rn_t (ks_o h o 8 (tck_1 hk)) ?_
  refine rn_ite (fun h0 => ?_) (fun h0 => ?_)
  · rw [if_pos (Or.inl h0)]
    exact ⟨0, rfl, rfl⟩
  · refine r_gI h (tck_1 hk) ?_
    rw [ht.1]
    refine rn_ite (fun h1 => ?_) (fun h1 => ?_)
    · rw [if_pos (Or.inr h1)]
      exact ⟨0, rfl, rfl⟩
    · rw [if_neg (fun q => q.elim h0 h1)]
      exact ⟨1, rfl, rfl⟩
/-- a row's cell is no static one -/
theorem row_ne {a c i : Nat} (hw : OWS ow z) (ha : ow a = 16 * o + c + 1) (hi : i < 264) (hc : cOl.getD i 1 = 0) : z + i ≠ a := fun e => by
  have := hw i hi hc
  rw [e, ha] at this
  omega
theorem tb_wI {a i c : Nat} {v : Int32} (hw : OWS ow z) (hk : tck o nc = true) (ht : TB sh d z ow o nc S V L) (hc : c < nc) (ha : d.2.2.2 (z + (o + 1)) c = some a) (hi : i < S) : TB sh (wI d a i v) z ow o nc S (fun c' i' => if c' = c ∧ i' = i then v else V c' i') L ∧ FD (TX z ow o) d (wI d a i v) := by
  have hn := tck_n hk
  have ho := tck_o hk hw
  obtain ⟨hS, ht⟩ := ht
  obtain ⟨a', ha', hwa, hA, hL, hSL, hLb, hV⟩ := ht c hc
  rw [ha] at ha'
  cases ha'
  refine ⟨⟨?_, fun c' hc' => ?_⟩, FD.wI (Or.inr (Or.inr ⟨by omega, by omega⟩))⟩
  · rw [wI_n]
    · exact hS
    · intro e
      rw [e] at ho
      omega
  · obtain ⟨b, hb, hwb, hAb, hLb2, hSb, hLb3, hVb⟩ := ht c' hc'
    refine ⟨b, hb, hwb, hAb, hLb2, hSb, hLb3, fun i' hi' => ?_⟩
    show (wI d a i v).1 b i' = (if c' = c ∧ i' = i then v else V c' i')
    by_cases e : c' = c
    · subst e
      rw [ha] at hb
      cases hb
      rw [wI_s]
      by_cases e2 : i' = i
      · subst e2
        rw [va_up_s, if_pos ⟨rfl, rfl⟩]
      · rw [va_up_n e2, if_neg (fun q => e2 q.2)]
        exact hVb i' hi'
    · rw [wI_n, if_neg (fun q => e q.1)]
      · exact hVb i' hi'
      · intro e3
        rw [e3] at hwb
        omega
theorem tb_put {row col v : Int32} {i c : Nat} (h : KS sh z) (hw : OWS ow z) (hk : tck o nc = true) (ht : TB sh d z ow o nc S V L) (hr : row = nI i) (hi : i < S) (hl : col = nI c) (hc : c < nc) : Rn (f_X8_put N sh (z + o) row col v d) (fun d' => TB sh d' z ow o nc S (fun c' i' => if c' = c ∧ i' = i then v else V c' i') L ∧ FD (TX z ow o) d d') := by
  subst hr
  subst hl
  have ht0 := ht
  obtain ⟨hS, ht⟩ := ht
  obtain ⟨a, ha, hwa, hA, hL, hSL, hLb, hV⟩ := ht c hc
  have hn := tck_n hk
  unfold f_X8_put
  refine rn_t (ks_o h o 8 (tck_1 hk)) ?_
  refine rn_f (nI_pos (by omega)) ?_
  refine r_gI h (tck_1 hk) ?_
  rw [hS]
  refine rn_f (nI_ge hi (by omega)) ?_
  refine rn_f (nI_pos (by omega)) ?_
  refine r_gP h o 8 0 (o + 1) (tck_1 hk) (tck_3 hk) ?_
  refine rn_eq (q_len (ks_a h (o + 1) 5 nc (tck_2 hk)) (by decide)) ?_
  refine rn_f (nI_ge hc (by omega)) ?_
  refine r_gP h o 8 0 (o + 1) (tck_1 hk) (tck_3 hk) ?_
  refine rn_eq (q_aQ (ks_a h (o + 1) 5 nc (tck_2 hk)) c a rfl hc (by omega) ha) ?_
  refine rn_eq (q_sI ⟨hA, hL⟩ i rfl (by omega) (by omega)) ?_
  exact rn_some (tb_wI hw hk ht0 hc ha hi)
/-- a put outside changes nothing -/
theorem tb_put_no {row col v : Int32} (h : KS sh z) (hk : tck o nc = true) (ht : TB sh d z ow o nc S V L) (hr : row < 0 ∨ nI S ≤ row) : f_X8_put N sh (z + o) row col v d = some d := by
  refine rn_val ?_
  unfold f_X8_put
  refine rn_t (ks_o h o 8 (tck_1 hk)) ?_
  refine rn_ite (fun _ => rn_some rfl) (fun h0 => ?_)
  refine r_gI h (tck_1 hk) ?_
  rw [ht.1]
  exact rn_t (hr.resolve_left h0) (rn_some rfl)
theorem tb_raise {row col v : Int32} {i c : Nat} (h : KS sh z) (hw : OWS ow z) (hk : tck o nc = true) (ht : TB sh d z ow o nc S V L) (hr : row = nI i) (hi : i < S) (hl : col = nI c) (hc : c < nc) : Rn (f_X8_raise N sh (z + o) row col v d) (fun d' => TB sh d' z ow o nc S (fun c' i' => if c' = c ∧ i' = i then V c i + v else V c' i') L ∧ FD (TX z ow o) d d') := by
  unfold f_X8_raise
  refine rn_t (ks_o h o 8 (tck_1 hk)) ?_
  refine rn_eq (tb_get h hk ht hr hi hl hc) ?_
  refine rn_bind (tb_put h hw hk ht hr hi hl hc) (fun d' hd => ?_)
  exact rn_some hd
/-- another table is left -/
theorem tb_fr {d' : Dt} {o2 nc2 S2 : Nat} {V2 : Nat → Nat → Int32} {L2 : Nat → Nat} (hw : OWS ow z) (hk : tck o nc = true) (hk2 : tck o2 nc2 = true) (hne : o + 1 < o2 ∨ o2 + 1 < o) (ht : TB sh d z ow o2 nc2 S2 V2 L2) (hf : FD (TX z ow o) d d') : TB sh d' z ow o2 nc2 S2 V2 L2 := by
  have h1 := tck_o hk2 hw
  have h2 := tck_n hk2
  obtain ⟨hS, ht⟩ := ht
  refine ⟨?_, fun c hc => ?_⟩
  · rw [(hf (z + o2) (fun q => ?_)).1]
    · exact hS
    · rcases q with q | q | q <;> omega
  · obtain ⟨a, ha, hwa, hA, hL, hSL, hLb, hV⟩ := ht c hc
    refine ⟨a, ?_, hwa, hA, hL, hSL, hLb, fun i hi => ?_⟩
    · rw [(hf (z + (o2 + 1)) (fun q => ?_)).2.2.2]
      · exact ha
      · rcases q with q | q | q <;> omega
    · rw [(hf a (fun q => ?_)).1]
      · exact hV i hi
      · have h3 := tck_o hk hw
        rcases q with q | q | q
        · rw [q] at hwa
          omega
        · rw [q] at hwa
          omega
        · omega
end TBS
