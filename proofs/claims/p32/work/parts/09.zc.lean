section ZC
variable {E : EV} {y : MethodName} {cc : ByteArray} {nL : Nat} {ret : Option FieldType} {lev : Nat} {h : AS} {pc : Nat} {lv : List (Nat × Value)} {rest : List Value} {sh : Sh} {d : Dt} {ρ : Type} {r : ρ} {a : Nat}
theorem z_cpI {t : Nat} {sp dp n : Int32} {dst index : Nat} {g : Dt → Option ρ} (ht03 : t = 0 ∨ t = 3) (hfit : ∀ i, i < n.toNatClampNeg → t = 3 → fits .char (.int (d.1 a (sp.toNatClampNeg + i))) = true) (hf : (cpI t sh d a sp dst dp n).bind g = some r) (hlink : Cond.methodLink y.cls index arraycopyName ∈ TT) (hw1 : Cond.native arraycopyName ∈ TT) (hw2 : Cond.static arraycopyName ∈ TT) (hw3 : Cond.initialized "java/lang/System" ∈ TT) (hlev : 1 ≤ lev) (hloc : (rest.map fun v => v.category).sum + (nativeFrameWords "java/lang/System" "arraycopy" 5 + 11) ≤ 100 * lev) (hdg : decode cc pc = .ok (.invokestatic index, 3))
    (kk : ∀ d1, g d1 = some r → Z E y cc nL ret lev (sh, d1) (pc + 3) lv rest) : Z E y cc nL ret lev (sh, d) pc lv (.int n :: .int dp :: .ref dst :: .int sp :: .ref a :: rest) := by
  obtain ⟨v9, ev, hf⟩ := ob hf
  unfold cpI at ev
  split at ev
  · rename_i q
    cases ev
    have kk := kk _ hf
    obtain ⟨⟨p, l, e, R, s, m, args, below, meth, c, Q⟩, G, z, w0, rv, hfin⟩ := E
    intro cx b1 b2 H locs cells slots ls hh h1 h2 hl
    have ht := fun (w : Cond) (hw : w ∈ TT) => cx.2.2.2.1 w (List.mem_cons_of_mem _ hw)
    obtain ⟨q0, hq⟩ := wl_pos (G := G) (d := d) q.1.1 q.1.2.1
    obtain ⟨q1, hq1⟩ := wl_pos (G := G) (d := d) q.2.1.1 q.2.1.2.1
    have hq10 := hq1
    have ht10 : t < 10 := by omega
    have hkd : ∀ (d' : Dt) (b : Nat), kd t d' b = .inl (d'.1 b) := fun d' b => kd_i (by omega) (by omega) (by omega)
    rw [em_a q.1.2.2 ht10, hkd] at hq
    rw [em_a q.2.1.2.2 ht10, hkd] at hq1
    have hty : ∃ ty, (tyG G)[t]? = some (G.2 t, ty) ∧ refKind ty = false ∧ ∀ i, i < n.toNatClampNeg → fits ty (.int (d.1 a (sp.toNatClampNeg + i))) = true := by
      rcases ht03 with rfl | rfl
      · exact ⟨.int, rfl, rfl, fun _ _ => rfl⟩
      · exact ⟨.char, rfl, rfl, fun i hi => hfit i hi rfl⟩
    obtain ⟨ty, e1, e2, e3⟩ := hty
    refine va_copyi cx.1 cx.2.1 (by rw [cx.2.2.1]; exact hl.1.symm) cx.2.2.2.2.1 (ht _ hlink) (ht _ hw1) (ht _ hw2) (ht _ hw3) cx.2.2.2.2.2.2.2.2.1.1 hh.1.2.2.2 (wl_D hh.1.1) hh.2 q0 q1 t t hq hq1 e1 e1 e2 q.2.2.1 q.2.2.2.1 q.2.2.2.2.1 q.2.2.2.2.2.1 q.2.2.2.2.2.2 e3 (Nat.le_trans hlev cx.2.2.2.2.2.2.2.2.2.1) (Nat.le_trans hloc cx.2.2.2.2.2.2.2.2.2.2.1) hdg (fun H1 locs1 hP1 hD1 hS1 => hp_sz (fun hle => kk cx b1 b2 H1 locs1 cells slots ls (hp_back (sh' := sh) (d' := (va_up d.1 dst (va_cpy (d.1 a) (d.1 dst) sp.toNatClampNeg dp.toNatClampNeg n.toNatClampNeg), d.2)) hh q.2.1.1 q.2.1.2.1 hq10 h1 rfl (fun b hb => em_row (sh := sh) (d := d) rfl rfl rfl (va_up_n hb) rfl rfl rfl) ?_ hS1 hle) h1 h2 hl))
    rw [em_a (sh := sh) q.2.1.2.2 ht10, hkd]
    show va_P G.1 vwCl ((wl G sh d).set q1 (dst, .inl (G.2 t, sh.2.2.1 dst, .inl (va_up d.1 dst (va_cpy (d.1 a) (d.1 dst) sp.toNatClampNeg dp.toNatClampNeg n.toNatClampNeg) dst)))) H1
    rw [va_up_s]
    exact hP1
  · cases ev
theorem z_cpJ {sp dp n : Int32} {dst index : Nat} {g : Dt → Option ρ} (hf : (cpJ sh d a sp dst dp n).bind g = some r) (hlink : Cond.methodLink y.cls index arraycopyName ∈ TT) (hw1 : Cond.native arraycopyName ∈ TT) (hw2 : Cond.static arraycopyName ∈ TT) (hw3 : Cond.initialized "java/lang/System" ∈ TT) (hlev : 1 ≤ lev) (hloc : (rest.map fun v => v.category).sum + (nativeFrameWords "java/lang/System" "arraycopy" 5 + 11) ≤ 100 * lev) (hdg : decode cc pc = .ok (.invokestatic index, 3))
    (kk : ∀ d1, g d1 = some r → Z E y cc nL ret lev (sh, d1) (pc + 3) lv rest) : Z E y cc nL ret lev (sh, d) pc lv (.int n :: .int dp :: .ref dst :: .int sp :: .ref a :: rest) := by
  obtain ⟨v9, ev, hf⟩ := ob hf
  unfold cpJ at ev
  split at ev
  · rename_i q
    cases ev
    have kk := kk _ hf
    obtain ⟨⟨p, l, e, R, s, m, args, below, meth, c, Q⟩, G, z, w0, rv, hfin⟩ := E
    intro cx b1 b2 H locs cells slots ls hh h1 h2 hl
    have ht := fun (w : Cond) (hw : w ∈ TT) => cx.2.2.2.1 w (List.mem_cons_of_mem _ hw)
    obtain ⟨q0, hq⟩ := wl_pos (G := G) (d := d) q.1.1 q.1.2.1
    obtain ⟨q1, hq1⟩ := wl_pos (G := G) (d := d) q.2.1.1 q.2.1.2.1
    have hq10 := hq1
    rw [em_a q.1.2.2 (by decide), kd_j] at hq
    rw [em_a q.2.1.2.2 (by decide), kd_j] at hq1
    refine va_copyl cx.1 cx.2.1 (by rw [cx.2.2.1]; exact hl.1.symm) cx.2.2.2.2.1 (ht _ hlink) (ht _ hw1) (ht _ hw2) (ht _ hw3) cx.2.2.2.2.2.2.2.2.1.1 hh.1.2.2.2 (wl_D hh.1.1) hh.2 q0 q1 1 1 hq hq1 rfl rfl rfl q.2.2.1 q.2.2.2.1 q.2.2.2.2.1 q.2.2.2.2.2.1 q.2.2.2.2.2.2 (fun _ _ => rfl) (Nat.le_trans hlev cx.2.2.2.2.2.2.2.2.2.1) (Nat.le_trans hloc cx.2.2.2.2.2.2.2.2.2.2.1) hdg (fun H1 locs1 hP1 hD1 hS1 => hp_sz (fun hle => kk cx b1 b2 H1 locs1 cells slots ls (hp_back (sh' := sh) (d' := (d.1, va_up d.2.1 dst (va_cpy (d.2.1 a) (d.2.1 dst) sp.toNatClampNeg dp.toNatClampNeg n.toNatClampNeg), d.2.2)) hh q.2.1.1 q.2.1.2.1 hq10 h1 rfl (fun b hb => em_row (sh := sh) (d := d) rfl rfl rfl rfl (va_up_n hb) rfl rfl) ?_ hS1 hle) h1 h2 hl))
    rw [em_a (sh := sh) q.2.1.2.2 (by decide), kd_j]
    show va_P G.1 vwCl ((wl G sh d).set q1 (dst, .inl (G.2 1, sh.2.2.1 dst, .inr (.inl (va_up d.2.1 dst (va_cpy (d.2.1 a) (d.2.1 dst) sp.toNatClampNeg dp.toNatClampNeg n.toNatClampNeg) dst))))) H1
    rw [va_up_s]
    exact hP1
  · cases ev
theorem z_cpy {sp dp n : Int32} {dst index : Nat} {g : Dt → Option ρ} (hf : (cpy sh d a sp dst dp n).bind g = some r) (hlink : Cond.methodLink y.cls index arraycopyName ∈ TT) (hw1 : Cond.native arraycopyName ∈ TT) (hw2 : Cond.static arraycopyName ∈ TT) (hw3 : Cond.initialized "java/lang/System" ∈ TT) (hlev : 1 ≤ lev) (hloc : (rest.map fun v => v.category).sum + (nativeFrameWords "java/lang/System" "arraycopy" 5 + 11) ≤ 100 * lev) (hdg : decode cc pc = .ok (.invokestatic index, 3))
    (kk : ∀ d1, g d1 = some r → Z E y cc nL ret lev (sh, d1) (pc + 3) lv rest) : Z E y cc nL ret lev (sh, d) pc lv (.int n :: .int dp :: .ref dst :: .int sp :: .ref a :: rest) := by
  unfold cpy cpC at hf
  split at hf
  · exact z_cpJ hf hlink hw1 hw2 hw3 hlev hloc hdg kk
  · split at hf
    · split at hf
      · rename_i q
        exact z_cpI (Or.inr rfl) (fun i hi _ => q i hi) hf hlink hw1 hw2 hw3 hlev hloc hdg kk
      · cases hf
    · exact z_cpI (Or.inl rfl) (fun i hi h9 => by cases h9) hf hlink hw1 hw2 hw3 hlev hloc hdg kk
theorem z_min {x y9 : Int32} {index : Nat} (hw0 : Cond.methodLink y.cls index Lib.Math.min.name ∈ TT) (hw1 : Cond.static Lib.Math.min.name ∈ TT) (hw2 : Cond.initialized "java/lang/Math" ∈ TT) (hw3 : Cond.code Lib.Math.min.name Lib.Math.min.code 2 (some .int) ∈ TT) (hlev : 1 ≤ lev) (hloc : (rest.map fun v => v.category).sum + 13 ≤ 100 * lev) (hdg : decode cc pc = .ok (.invokestatic index, 3)) (kk : Z E y cc nL ret lev h (pc + 3) lv (.int (o_min x y9) :: rest)) : Z E y cc nL ret lev h pc lv (.int y9 :: .int x :: rest) := by
  obtain ⟨⟨p, l, e, R, s, m, args, below, meth, c, Q⟩, G, z, w0, rv, hfin⟩ := E
  intro cx b1 b2 H locs cells slots ls hh h1 h2 hl
  have ht := fun (w : Cond) (hw : w ∈ TT) => cx.2.2.2.1 w (List.mem_cons_of_mem _ hw)
  have b1 : h.1.1.2.1 ≤ hfin.1.1.2.1 := b1
  have b2 : h.1.1.2.2 ≤ hfin.1.1.2.2 := b2
  have r1 := cx.2.2.2.2.2.2.2.2.2.2.2.1
  have r2 := cx.2.2.2.2.2.2.2.2.2.2.2.2.1
  exact va_mmin cx.1 cx.2.1 (by rw [cx.2.2.1]; exact hl.1.symm) cx.2.2.2.2.1 (ht _ hw0) (ht _ hw1) (ht _ hw2) (ht _ hw3) (Nat.le_trans hlev cx.2.2.2.2.2.2.2.2.2.1) (Nat.le_trans hloc cx.2.2.2.2.2.2.2.2.2.2.1) (by omega) (by omega) hdg (kk cx b1 b2 H locs cells slots ls hh h1 h2 hl)
theorem z_max {x y9 : Int32} {index : Nat} (hw0 : Cond.methodLink y.cls index Lib.Math.max.name ∈ TT) (hw1 : Cond.static Lib.Math.max.name ∈ TT) (hw2 : Cond.initialized "java/lang/Math" ∈ TT) (hw3 : Cond.code Lib.Math.max.name Lib.Math.max.code 2 (some .int) ∈ TT) (hlev : 1 ≤ lev) (hloc : (rest.map fun v => v.category).sum + 13 ≤ 100 * lev) (hdg : decode cc pc = .ok (.invokestatic index, 3)) (kk : Z E y cc nL ret lev h (pc + 3) lv (.int (o_max x y9) :: rest)) : Z E y cc nL ret lev h pc lv (.int y9 :: .int x :: rest) := by
  obtain ⟨⟨p, l, e, R, s, m, args, below, meth, c, Q⟩, G, z, w0, rv, hfin⟩ := E
  intro cx b1 b2 H locs cells slots ls hh h1 h2 hl
  have ht := fun (w : Cond) (hw : w ∈ TT) => cx.2.2.2.1 w (List.mem_cons_of_mem _ hw)
  have b1 : h.1.1.2.1 ≤ hfin.1.1.2.1 := b1
  have b2 : h.1.1.2.2 ≤ hfin.1.1.2.2 := b2
  have r1 := cx.2.2.2.2.2.2.2.2.2.2.2.1
  have r2 := cx.2.2.2.2.2.2.2.2.2.2.2.2.1
  exact va_mmax cx.1 cx.2.1 (by rw [cx.2.2.1]; exact hl.1.symm) cx.2.2.2.2.1 (ht _ hw0) (ht _ hw1) (ht _ hw2) (ht _ hw3) (Nat.le_trans hlev cx.2.2.2.2.2.2.2.2.2.1) (Nat.le_trans hloc cx.2.2.2.2.2.2.2.2.2.2.1) (by omega) (by omega) hdg (kk cx b1 b2 H locs cells slots ls hh h1 h2 hl)
theorem z_objInit {index : Nat} (hw0 : Cond.methodLink y.cls index Lib.objectInit ∈ TT) (hw1 : Cond.instanceMethod Lib.objectInit ∈ TT) (hw2 : Cond.code Lib.objectInit ⟨#[0xb1]⟩ 1 none ∈ TT) (hlev : 1 ≤ lev) (hloc : (rest.map fun v => v.category).sum + 12 ≤ 100 * lev) (hdg : decode cc pc = .ok (.invokespecial index, 3)) (kk : Z E y cc nL ret lev h (pc + 3) lv rest) : Z E y cc nL ret lev h pc lv (.ref a :: rest) := by
  obtain ⟨⟨p, l, e, R, s, m, args, below, meth, c, Q⟩, G, z, w0, rv, hfin⟩ := E
  intro cx b1 b2 H locs cells slots ls hh h1 h2 hl
  have ht := fun (w : Cond) (hw : w ∈ TT) => cx.2.2.2.1 w (List.mem_cons_of_mem _ hw)
  refine W.objInit cx.1 cx.2.1 cx.2.2.2.2.1 (ht _ hw0) (ht _ hw1) (ht _ hw2) (g := F0 m pc ls (.ref a :: rest)) rfl (by rw [cx.2.2.1]; exact hl.1) rfl hdg (Nat.le_trans hlev cx.2.2.2.2.2.2.2.2.2.1) (by show 2 * 0 + _ + 12 ≤ _; rw [Nat.mul_zero, Nat.zero_add]; exact Nat.le_trans hloc cx.2.2.2.2.2.2.2.2.2.2.1) ?_
  exact kk cx b1 b2 H locs cells slots ls hh h1 h2 hl
/-! the end of a method -/
theorem z_ireturn {x : Int32} (hE : TG E (some (.int x)) h) (hr9 : ret = some .int) (hdg : decode cc pc = .ok (.ireturn, 1)) : Z E y cc nL ret lev h pc lv [.int x] := by
  obtain ⟨⟨p, l, e, R, s, m, args, below, meth, c, Q⟩, G, z, w0, rv, hfin⟩ := E
  obtain ⟨rfl, rfl, rfl⟩ := hE
  intro cx b1 b2 H locs cells slots ls hh h1 h2 hl
  subst hr9
  have e1 : hfin.1.1.2.1 - s.heap.size = cells := by omega
  have e2 : hfin.1.1.2.2 - w0 = slots := by omega
  rw [e1, e2]
  exact W.iret cx.1 cx.2.1 cx.2.2.2.2.2.1 (fun t ht hW => ⟨⟨x, (), rfl, rfl, by subst ht; exact hh.1⟩, hh.2.F ht⟩) hh.2.2.2 hdg cx.2.2.2.2.2.2.1
theorem z_zreturn {x : Int32} (hE : TG E (some (.int x)) h) (hr9 : ret = some .boolean) (hb : x = 0 ∨ x = 1) (hdg : decode cc pc = .ok (.ireturn, 1)) : Z E y cc nL ret lev h pc lv [.int x] := by
  obtain ⟨⟨p, l, e, R, s, m, args, below, meth, c, Q⟩, G, z, w0, rv, hfin⟩ := E
  obtain ⟨rfl, rfl, rfl⟩ := hE
  intro cx b1 b2 H locs cells slots ls hh h1 h2 hl
  subst hr9
  have e1 : hfin.1.1.2.1 - s.heap.size = cells := by omega
  have e2 : hfin.1.1.2.2 - w0 = slots := by omega
  rw [e1, e2]
  exact W.zret cx.1 cx.2.1 cx.2.2.2.2.2.1 (by rcases hb with rfl | rfl <;> rfl) (fun t ht hW => ⟨⟨x, (), rfl, rfl, by subst ht; exact hh.1⟩, hh.2.F ht⟩) hh.2.2.2 hdg cx.2.2.2.2.2.2.1
theorem z_lreturn {x : Int64} (hE : TG E (some (.long x)) h) (hr9 : ret = some .long) (hdg : decode cc pc = .ok (.lreturn, 1)) : Z E y cc nL ret lev h pc lv [.long x] := by
  obtain ⟨⟨p, l, e, R, s, m, args, below, meth, c, Q⟩, G, z, w0, rv, hfin⟩ := E
  obtain ⟨rfl, rfl, rfl⟩ := hE
  intro cx b1 b2 H locs cells slots ls hh h1 h2 hl
  subst hr9
  have e1 : hfin.1.1.2.1 - s.heap.size = cells := by omega
  have e2 : hfin.1.1.2.2 - w0 = slots := by omega
  rw [e1, e2]
  exact W.lret cx.1 cx.2.1 cx.2.2.2.2.2.1 (fun t ht hW => ⟨⟨x, (), rfl, rfl, by subst ht; exact hh.1⟩, hh.2.F ht⟩) hh.2.2.2 hdg cx.2.2.2.2.2.2.1
theorem z_freturn {x : UInt32} (hE : TG E (some (.float x)) h) (hr9 : ret = some .float) (hdg : decode cc pc = .ok (.freturn, 1)) : Z E y cc nL ret lev h pc lv [.float x] := by
  obtain ⟨⟨p, l, e, R, s, m, args, below, meth, c, Q⟩, G, z, w0, rv, hfin⟩ := E
  obtain ⟨rfl, rfl, rfl⟩ := hE
  intro cx b1 b2 H locs cells slots ls hh h1 h2 hl
  subst hr9
  have e1 : hfin.1.1.2.1 - s.heap.size = cells := by omega
  have e2 : hfin.1.1.2.2 - w0 = slots := by omega
  rw [e1, e2]
  exact W.fret cx.1 cx.2.1 cx.2.2.2.2.2.1 (fun t ht hW => ⟨⟨x, (), rfl, rfl, by subst ht; exact hh.1⟩, hh.2.F ht⟩) hh.2.2.2 hdg cx.2.2.2.2.2.2.1
theorem z_areturn {x : Nat} {rt : FieldType} (hE : TG E (some (.ref x)) h) (hr9 : ret = some rt) (hrt : (∃ n, rt = .object n) ∨ ∃ t, rt = .array t) (hdg : decode cc pc = .ok (.areturn, 1)) : Z E y cc nL ret lev h pc lv [.ref x] := by
  obtain ⟨⟨p, l, e, R, s, m, args, below, meth, c, Q⟩, G, z, w0, rv, hfin⟩ := E
  obtain ⟨rfl, rfl, rfl⟩ := hE
  intro cx b1 b2 H locs cells slots ls hh h1 h2 hl
  subst hr9
  have e1 : hfin.1.1.2.1 - s.heap.size = cells := by omega
  have e2 : hfin.1.1.2.2 - w0 = slots := by omega
  rw [e1, e2]
  exact W.aret cx.1 cx.2.1 cx.2.2.2.2.2.1 hrt (Or.inr ⟨_, rfl⟩) (fun t ht hW => ⟨⟨(), x, rfl, trivial, rfl, by subst ht; exact hh.1⟩, hh.2.F ht⟩) hh.2.2.2 hdg cx.2.2.2.2.2.2.1
theorem z_return (hE : TG E none h) (hr9 : ret = none) (hdg : decode cc pc = .ok (.return_, 1)) : Z E y cc nL ret lev h pc lv [] := by
  obtain ⟨⟨p, l, e, R, s, m, args, below, meth, c, Q⟩, G, z, w0, rv, hfin⟩ := E
  obtain ⟨rfl, rfl, rfl⟩ := hE
  intro cx b1 b2 H locs cells slots ls hh h1 h2 hl
  subst hr9
  have e1 : hfin.1.1.2.1 - s.heap.size = cells := by omega
  have e2 : hfin.1.1.2.2 - w0 = slots := by omega
  rw [e1, e2]
  exact W.vret cx.1 cx.2.1 cx.2.2.2.2.2.1 (fun t ht hW => ⟨⟨(), rfl, trivial, by subst ht; exact hh.1⟩, hh.2.F ht⟩) hh.2.2.2 hdg cx.2.2.2.2.2.2.1
end ZC
