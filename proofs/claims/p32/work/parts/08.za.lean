section ZK
variable {E : EV} {y : MethodName} {cc : ByteArray} {nL : Nat} {ret : Option FieldType} {lev : Nat} {h : AS} {pc : Nat} {lv : List (Nat × Value)} {rest : List Value} {sh : Sh} {d : Dt} {ρ : Type} {r : ρ} {a : Nat}
theorem kd_i {t : Nat} (h1 : ¬ t = 1) (h2 : ¬ t = 2) (h3 : ¬ (t = 5 ∨ t = 6)) : kd t d a = .inl (d.1 a) := by
  unfold kd
  rw [if_neg h1, if_neg h2, if_neg h3]
theorem kd_j : kd 1 d a = .inr (.inl (d.2.1 a)) := by
  unfold kd
  rw [if_pos rfl]
theorem kd_f : kd 2 d a = .inr (.inr (.inl (d.2.2.1 a))) := by
  unfold kd
  rw [if_neg (by decide), if_pos rfl]
theorem kd_q {t : Nat} (h : t = 5 ∨ t = 6) : kd t d a = .inr (.inr (.inr (.inr (d.2.2.2 a)))) := by
  unfold kd
  rw [if_neg (by omega), if_neg (by omega), if_pos h]
theorem z_aI {i : Int32} {g : Int32 → Option ρ} (hf : (aT 0 sh d a i).bind g = some r) (hdg : decode cc pc = .ok (.iaload, 1)) (kk : ∀ v, g v = some r → Z E y cc nL ret lev (sh, d) (pc + 1) lv (.int v :: rest)) : Z E y cc nL ret lev (sh, d) pc lv (.int i :: .ref a :: rest) := by
  obtain ⟨v, ev, hf⟩ := ob hf
  unfold aT at ev
  split at ev
  · rename_i q
    cases ev
    refine z_read (fun p l e R s m args below meth c Q G z H locs cells slots ls hx hb ho ht hmn hK hh k9 => ?_) (kk _ hf)
    obtain ⟨q0, hq⟩ := wl_pos (G := G) (d := d) q.1.1 q.1.2.1
    rw [em_a q.1.2.2 (by decide), kd_i (by decide) (by decide) (by decide)] at hq
    exact va_iald hx hb hK.1 hh.2.2.2 q0 0 hq rfl q.2 hdg k9
  · cases ev
theorem z_aC {i : Int32} {g : Int32 → Option ρ} (hf : (aT 3 sh d a i).bind g = some r) (hdg : decode cc pc = .ok (.caload, 1)) (kk : ∀ v, g v = some r → Z E y cc nL ret lev (sh, d) (pc + 1) lv (.int v :: rest)) : Z E y cc nL ret lev (sh, d) pc lv (.int i :: .ref a :: rest) := by
  obtain ⟨v, ev, hf⟩ := ob hf
  unfold aT at ev
  split at ev
  · rename_i q
    cases ev
    refine z_read (fun p l e R s m args below meth c Q G z H locs cells slots ls hx hb ho ht hmn hK hh k9 => ?_) (kk _ hf)
    obtain ⟨q0, hq⟩ := wl_pos (G := G) (d := d) q.1.1 q.1.2.1
    rw [em_a q.1.2.2 (by decide), kd_i (by decide) (by decide) (by decide)] at hq
    exact va_cald hx hb hK.1 hh.2.2.2 q0 3 hq rfl q.2 hdg k9
  · cases ev
theorem z_aZ {i : Int32} {g : Int32 → Option ρ} (hf : (aT 4 sh d a i).bind g = some r) (hdg : decode cc pc = .ok (.baload, 1)) (kk : ∀ v, g v = some r → Z E y cc nL ret lev (sh, d) (pc + 1) lv (.int v :: rest)) : Z E y cc nL ret lev (sh, d) pc lv (.int i :: .ref a :: rest) := by
  obtain ⟨v, ev, hf⟩ := ob hf
  unfold aT at ev
  split at ev
  · rename_i q
    cases ev
    refine z_read (fun p l e R s m args below meth c Q G z H locs cells slots ls hx hb ho ht hmn hK hh k9 => ?_) (kk _ hf)
    obtain ⟨q0, hq⟩ := wl_pos (G := G) (d := d) q.1.1 q.1.2.1
    rw [em_a q.1.2.2 (by decide), kd_i (by decide) (by decide) (by decide)] at hq
    exact va_zald hx hb hK.1 hh.2.2.2 q0 4 hq rfl q.2 hdg k9
  · cases ev
theorem z_aJ {i : Int32} {g : Int64 → Option ρ} (hf : (aJ sh d a i).bind g = some r) (hdg : decode cc pc = .ok (.laload, 1)) (kk : ∀ v, g v = some r → Z E y cc nL ret lev (sh, d) (pc + 1) lv (.long v :: rest)) : Z E y cc nL ret lev (sh, d) pc lv (.int i :: .ref a :: rest) := by
  obtain ⟨v, ev, hf⟩ := ob hf
  unfold aJ at ev
  split at ev
  · rename_i q
    cases ev
    refine z_read (fun p l e R s m args below meth c Q G z H locs cells slots ls hx hb ho ht hmn hK hh k9 => ?_) (kk _ hf)
    obtain ⟨q0, hq⟩ := wl_pos (G := G) (d := d) q.1.1 q.1.2.1
    rw [em_a q.1.2.2 (by decide), kd_j] at hq
    exact va_lald hx hb hK.1 hh.2.2.2 q0 1 hq rfl q.2 hdg k9
  · cases ev
theorem z_aF {i : Int32} {g : UInt32 → Option ρ} (hf : (aF sh d a i).bind g = some r) (hdg : decode cc pc = .ok (.faload, 1)) (kk : ∀ v, g v = some r → Z E y cc nL ret lev (sh, d) (pc + 1) lv (.float v :: rest)) : Z E y cc nL ret lev (sh, d) pc lv (.int i :: .ref a :: rest) := by
  obtain ⟨v, ev, hf⟩ := ob hf
  unfold aF at ev
  split at ev
  · rename_i q
    cases ev
    refine z_read (fun p l e R s m args below meth c Q G z H locs cells slots ls hx hb ho ht hmn hK hh k9 => ?_) (kk _ hf)
    obtain ⟨q0, hq⟩ := wl_pos (G := G) (d := d) q.1.1 q.1.2.1
    rw [em_a q.1.2.2 (by decide), kd_f] at hq
    exact va_fald hx hb hK.1 hh.2.2.2 q0 2 hq rfl q.2 hdg k9
  · cases ev
theorem z_aR {i : Int32} {g : Nat → Option ρ} (hf : (aQ 5 sh d a i).bind g = some r) (hdg : decode cc pc = .ok (.aaload, 1)) (kk : ∀ v, g v = some r → Z E y cc nL ret lev (sh, d) (pc + 1) lv (.ref v :: rest)) : Z E y cc nL ret lev (sh, d) pc lv (.int i :: .ref a :: rest) := by
  obtain ⟨v, ev, hf⟩ := ob hf
  unfold aQ at ev
  split at ev
  · rename_i q
    refine z_read (fun p l e R s m args below meth c Q G z H locs cells slots ls hx hb ho ht hmn hK hh k9 => ?_) (kk _ hf)
    obtain ⟨q0, hq⟩ := wl_pos (G := G) (d := d) q.1.1 q.1.2.1
    rw [em_a q.1.2.2 (by decide), kd_q (by decide)] at hq
    exact ns_row hx hb hK hh.2.2.2 q0 hq q.2 ev hdg k9
  · cases ev
theorem z_aP {i : Int32} {g : Nat → Option ρ} (hf : (aQ 6 sh d a i).bind g = some r) (hdg : decode cc pc = .ok (.aaload, 1)) (kk : ∀ v, g v = some r → Z E y cc nL ret lev (sh, d) (pc + 1) lv (.ref v :: rest)) : Z E y cc nL ret lev (sh, d) pc lv (.int i :: .ref a :: rest) := by
  obtain ⟨v, ev, hf⟩ := ob hf
  unfold aQ at ev
  split at ev
  · rename_i q
    refine z_read (fun p l e R s m args below meth c Q G z H locs cells slots ls hx hb ho ht hmn hK hh k9 => ?_) (kk _ hf)
    obtain ⟨q0, hq⟩ := wl_pos (G := G) (d := d) q.1.1 q.1.2.1
    rw [em_a q.1.2.2 (by decide), kd_q (by decide)] at hq
    refine va_aldq hx hb hK.1 hh.2.2.2 q0 6 hq rfl q.2 hdg ?_
    rw [ev]
    exact k9
  · cases ev
theorem z_sI {i : Int32} {v : Int32} {g : Dt → Option ρ} (hf : (sI sh d a i v).bind g = some r) (hdg : decode cc pc = .ok (.iastore, 1)) (kk : ∀ d1, g d1 = some r → Z E y cc nL ret lev (sh, d1) (pc + 1) lv rest) : Z E y cc nL ret lev (sh, d) pc lv (.int v :: .int i :: .ref a :: rest) := by
  obtain ⟨v9, ev, hf⟩ := ob hf
  unfold sI at ev
  split at ev
  · rename_i q
    cases ev
    refine z_write sh (up2 d.1 a i.toNatClampNeg v, d.2) rfl (fun p l e R s m args below meth c Q G z H locs cells slots ls hx hb ho ht hmn hK hh hS hsz k9 => ?_) (kk _ hf)
    obtain ⟨q0, hq⟩ := wl_pos (G := G) (d := d) q.1.1 q.1.2.1
    have hq0 := hq
    rw [em_a q.1.2.2 (by decide), kd_i (by decide) (by decide) (by decide)] at hq
    refine va_iast hx hb hK.1 hh.2.2.2 (wl_D hh.1) hS q0 0 hq rfl q.2 hdg (fun H1 locs1 hP1 hD1 hS1 => hp_sz (fun hle => k9 H1 locs1 (hp_back (sh' := sh) (d' := (up2 d.1 a i.toNatClampNeg v, d.2)) ⟨hh, hS⟩ q.1.1 q.1.2.1 hq0 hsz rfl (fun b hb => em_row (sh := sh) (d := d) rfl rfl rfl (up2_n hb) rfl rfl rfl) ?_ hS1 hle)))
    rw [em_a (sh := sh) q.1.2.2 (by decide), kd_i (by decide) (by decide) (by decide)]
    show va_P G.1 vwCl ((wl G sh d).set q0 (a, .inl (G.2 0, sh.2.2.1 a, .inl (up2 d.1 a i.toNatClampNeg v a)))) H1
    rw [up2_s]
    exact hP1
  · cases ev
theorem z_sC {i : Int32} {v : Int32} {g : Dt → Option ρ} (hf : (sC sh d a i v).bind g = some r) (hdg : decode cc pc = .ok (.castore, 1)) (kk : ∀ d1, g d1 = some r → Z E y cc nL ret lev (sh, d1) (pc + 1) lv rest) : Z E y cc nL ret lev (sh, d) pc lv (.int v :: .int i :: .ref a :: rest) := by
  obtain ⟨v9, ev, hf⟩ := ob hf
  unfold sC at ev
  split at ev
  · rename_i q
    cases ev
    refine z_write sh (up2 d.1 a i.toNatClampNeg (vp_nar .char v), d.2) rfl (fun p l e R s m args below meth c Q G z H locs cells slots ls hx hb ho ht hmn hK hh hS hsz k9 => ?_) (kk _ hf)
    obtain ⟨q0, hq⟩ := wl_pos (G := G) (d := d) q.1.1 q.1.2.1
    have hq0 := hq
    rw [em_a q.1.2.2 (by decide), kd_i (by decide) (by decide) (by decide)] at hq
    refine va_cast hx hb hK.1 hh.2.2.2 (wl_D hh.1) hS q0 3 hq rfl q.2 hdg (fun H1 locs1 hP1 hD1 hS1 => hp_sz (fun hle => k9 H1 locs1 (hp_back (sh' := sh) (d' := (up2 d.1 a i.toNatClampNeg (vp_nar .char v), d.2)) ⟨hh, hS⟩ q.1.1 q.1.2.1 hq0 hsz rfl (fun b hb => em_row (sh := sh) (d := d) rfl rfl rfl (up2_n hb) rfl rfl rfl) ?_ hS1 hle)))
    rw [em_a (sh := sh) q.1.2.2 (by decide), kd_i (by decide) (by decide) (by decide)]
    show va_P G.1 vwCl ((wl G sh d).set q0 (a, .inl (G.2 3, sh.2.2.1 a, .inl (up2 d.1 a i.toNatClampNeg (vp_nar .char v) a)))) H1
    rw [up2_s]
    exact hP1
  · cases ev
theorem z_sZ {i : Int32} {v : Int32} {g : Dt → Option ρ} (hf : (sZ sh d a i v).bind g = some r) (hdg : decode cc pc = .ok (.bastore, 1)) (kk : ∀ d1, g d1 = some r → Z E y cc nL ret lev (sh, d1) (pc + 1) lv rest) : Z E y cc nL ret lev (sh, d) pc lv (.int v :: .int i :: .ref a :: rest) := by
  obtain ⟨v9, ev, hf⟩ := ob hf
  unfold sZ at ev
  split at ev
  · rename_i q
    cases ev
    refine z_write sh (up2 d.1 a i.toNatClampNeg (vp_nar .boolean v), d.2) rfl (fun p l e R s m args below meth c Q G z H locs cells slots ls hx hb ho ht hmn hK hh hS hsz k9 => ?_) (kk _ hf)
    obtain ⟨q0, hq⟩ := wl_pos (G := G) (d := d) q.1.1 q.1.2.1
    have hq0 := hq
    rw [em_a q.1.2.2 (by decide), kd_i (by decide) (by decide) (by decide)] at hq
    refine va_zast hx hb hK.1 hh.2.2.2 (wl_D hh.1) hS q0 4 hq rfl q.2 hdg (fun H1 locs1 hP1 hD1 hS1 => hp_sz (fun hle => k9 H1 locs1 (hp_back (sh' := sh) (d' := (up2 d.1 a i.toNatClampNeg (vp_nar .boolean v), d.2)) ⟨hh, hS⟩ q.1.1 q.1.2.1 hq0 hsz rfl (fun b hb => em_row (sh := sh) (d := d) rfl rfl rfl (up2_n hb) rfl rfl rfl) ?_ hS1 hle)))
    rw [em_a (sh := sh) q.1.2.2 (by decide), kd_i (by decide) (by decide) (by decide)]
    show va_P G.1 vwCl ((wl G sh d).set q0 (a, .inl (G.2 4, sh.2.2.1 a, .inl (up2 d.1 a i.toNatClampNeg (vp_nar .boolean v) a)))) H1
    rw [up2_s]
    exact hP1
  · cases ev
theorem z_sJ {i : Int32} {v : Int64} {g : Dt → Option ρ} (hf : (sJ sh d a i v).bind g = some r) (hdg : decode cc pc = .ok (.lastore, 1)) (kk : ∀ d1, g d1 = some r → Z E y cc nL ret lev (sh, d1) (pc + 1) lv rest) : Z E y cc nL ret lev (sh, d) pc lv (.long v :: .int i :: .ref a :: rest) := by
  obtain ⟨v9, ev, hf⟩ := ob hf
  unfold sJ at ev
  split at ev
  · rename_i q
    cases ev
    refine z_write sh (d.1, up2 d.2.1 a i.toNatClampNeg v, d.2.2) rfl (fun p l e R s m args below meth c Q G z H locs cells slots ls hx hb ho ht hmn hK hh hS hsz k9 => ?_) (kk _ hf)
    obtain ⟨q0, hq⟩ := wl_pos (G := G) (d := d) q.1.1 q.1.2.1
    have hq0 := hq
    rw [em_a q.1.2.2 (by decide), kd_j] at hq
    refine va_last hx hb hK.1 hh.2.2.2 (wl_D hh.1) hS q0 1 hq rfl q.2 hdg (fun H1 locs1 hP1 hD1 hS1 => hp_sz (fun hle => k9 H1 locs1 (hp_back (sh' := sh) (d' := (d.1, up2 d.2.1 a i.toNatClampNeg v, d.2.2)) ⟨hh, hS⟩ q.1.1 q.1.2.1 hq0 hsz rfl (fun b hb => em_row (sh := sh) (d := d) rfl rfl rfl rfl (up2_n hb) rfl rfl) ?_ hS1 hle)))
    rw [em_a (sh := sh) q.1.2.2 (by decide), kd_j]
    show va_P G.1 vwCl ((wl G sh d).set q0 (a, .inl (G.2 1, sh.2.2.1 a, .inr (.inl (up2 d.2.1 a i.toNatClampNeg v a))))) H1
    rw [up2_s]
    exact hP1
  · cases ev
theorem z_sF {i : Int32} {v : UInt32} {g : Dt → Option ρ} (hf : (sF sh d a i v).bind g = some r) (hdg : decode cc pc = .ok (.fastore, 1)) (kk : ∀ d1, g d1 = some r → Z E y cc nL ret lev (sh, d1) (pc + 1) lv rest) : Z E y cc nL ret lev (sh, d) pc lv (.float v :: .int i :: .ref a :: rest) := by
  obtain ⟨v9, ev, hf⟩ := ob hf
  unfold sF at ev
  split at ev
  · rename_i q
    cases ev
    refine z_write sh (d.1, d.2.1, up2 d.2.2.1 a i.toNatClampNeg v, d.2.2.2) rfl (fun p l e R s m args below meth c Q G z H locs cells slots ls hx hb ho ht hmn hK hh hS hsz k9 => ?_) (kk _ hf)
    obtain ⟨q0, hq⟩ := wl_pos (G := G) (d := d) q.1.1 q.1.2.1
    have hq0 := hq
    rw [em_a q.1.2.2 (by decide), kd_f] at hq
    refine va_fast hx hb hK.1 hh.2.2.2 (wl_D hh.1) hS q0 2 hq rfl q.2 hdg (fun H1 locs1 hP1 hD1 hS1 => hp_sz (fun hle => k9 H1 locs1 (hp_back (sh' := sh) (d' := (d.1, d.2.1, up2 d.2.2.1 a i.toNatClampNeg v, d.2.2.2)) ⟨hh, hS⟩ q.1.1 q.1.2.1 hq0 hsz rfl (fun b hb => em_row (sh := sh) (d := d) rfl rfl rfl rfl rfl (up2_n hb) rfl) ?_ hS1 hle)))
    rw [em_a (sh := sh) q.1.2.2 (by decide), kd_f]
    show va_P G.1 vwCl ((wl G sh d).set q0 (a, .inl (G.2 2, sh.2.2.1 a, .inr (.inr (.inl (up2 d.2.2.1 a i.toNatClampNeg v a)))))) H1
    rw [up2_s]
    exact hP1
  · cases ev
theorem z_sP {i : Int32} {v : Nat} {g : Dt → Option ρ} (hf : (sP sh d a i v).bind g = some r) (hdg : decode cc pc = .ok (.aastore, 1)) (kk : ∀ d1, g d1 = some r → Z E y cc nL ret lev (sh, d1) (pc + 1) lv rest) : Z E y cc nL ret lev (sh, d) pc lv (.ref v :: .int i :: .ref a :: rest) := by
  obtain ⟨v9, ev, hf⟩ := ob hf
  unfold sP at ev
  split at ev
  · rename_i q
    cases ev
    refine z_write sh (d.1, d.2.1, d.2.2.1, up2 d.2.2.2 a i.toNatClampNeg (some v)) rfl (fun p l e R s m args below meth c Q G z H locs cells slots ls hx hb ho ht hmn hK hh hS hsz k9 => ?_) (kk _ hf)
    obtain ⟨q0, hq⟩ := wl_pos (G := G) (d := d) q.1.1 q.1.2.1
    have hq0 := hq
    rw [em_a q.1.2.2 (by decide), kd_q (by decide)] at hq
    have ea : ∀ {H1 : Heap}, va_P G.1 vwCl ((wl G sh d).set q0 (a, .inl (G.2 6, sh.2.2.1 a, .inr (.inr (.inr (.inr (va_up (d.2.2.2 a) i.toNatClampNeg (some v)))))))) H1 → va_P G.1 vwCl ((wl G sh d).set q0 (a, em G sh (d.1, d.2.1, d.2.2.1, up2 d.2.2.2 a i.toNatClampNeg (some v)) a)) H1 := fun {H1} h9 => by
      rw [em_a (sh := sh) q.1.2.2 (by decide), kd_q (by decide)]
      show va_P G.1 vwCl ((wl G sh d).set q0 (a, .inl (G.2 6, sh.2.2.1 a, .inr (.inr (.inr (.inr (up2 d.2.2.2 a i.toNatClampNeg (some v) a))))))) H1
      rw [up2_s]
      exact h9
    obtain ⟨qk, hqk⟩ := wl_pos (G := G) (d := d) q.2.2.1 q.2.2.2.1
    rcases q.2.2.2.2 with h3 | ⟨-, h3 | h3 | h3 | h3⟩
    · rw [em_o (c := 6) h3] at hqk
      exact va_astq hx hb hK.1 hh.2.2.2 (wl_D hh.1) hS q0 6 qk 6 (r := (RX6, TX6, 3)) hq rfl hqk rfl q.2.1 hdg (fun H1 locs1 hP1 hD1 hS1 => hp_sz (fun hle => k9 H1 locs1 (hp_back (sh' := sh) (d' := (d.1, d.2.1, d.2.2.1, up2 d.2.2.2 a i.toNatClampNeg (some v))) ⟨hh, hS⟩ q.1.1 q.1.2.1 hq0 hsz rfl (fun b hb => em_row (sh := sh) (d := d) rfl rfl rfl rfl rfl rfl (up2_n hb)) (ea hP1) hS1 hle)))
    · rw [em_o (c := 0) h3] at hqk
      exact va_astqO hx hb hK.1 hh.2.2.2 (wl_D hh.1) hS q0 6 qk 0 (E := "PloughDepot$Plough") (r := (RX0, TX0, 3)) hq rfl hK.2.2.2.2.2.2.2.1 hqk rfl q.2.1 hdg (fun H1 locs1 hP1 hD1 hS1 => hp_sz (fun hle => k9 H1 locs1 (hp_back (sh' := sh) (d' := (d.1, d.2.1, d.2.2.1, up2 d.2.2.2 a i.toNatClampNeg (some v))) ⟨hh, hS⟩ q.1.1 q.1.2.1 hq0 hsz rfl (fun b hb => em_row (sh := sh) (d := d) rfl rfl rfl rfl rfl rfl (up2_n hb)) (ea hP1) hS1 hle)))
    · rw [em_o (c := 3) h3] at hqk
      exact va_astqO hx hb hK.1 hh.2.2.2 (wl_D hh.1) hS q0 6 qk 3 (E := "PloughDepot$Plough") (r := (RX3, TX3, 5)) hq rfl hK.2.2.2.2.2.2.2.2.2.2.1 hqk rfl q.2.1 hdg (fun H1 locs1 hP1 hD1 hS1 => hp_sz (fun hle => k9 H1 locs1 (hp_back (sh' := sh) (d' := (d.1, d.2.1, d.2.2.1, up2 d.2.2.2 a i.toNatClampNeg (some v))) ⟨hh, hS⟩ q.1.1 q.1.2.1 hq0 hsz rfl (fun b hb => em_row (sh := sh) (d := d) rfl rfl rfl rfl rfl rfl (up2_n hb)) (ea hP1) hS1 hle)))
    · rw [em_o (c := 7) h3] at hqk
      exact va_astqO hx hb hK.1 hh.2.2.2 (wl_D hh.1) hS q0 6 qk 7 (E := "PloughDepot$Plough") (r := (RX7, TX7, 3)) hq rfl hK.2.2.2.2.2.2.2.2.1 hqk rfl q.2.1 hdg (fun H1 locs1 hP1 hD1 hS1 => hp_sz (fun hle => k9 H1 locs1 (hp_back (sh' := sh) (d' := (d.1, d.2.1, d.2.2.1, up2 d.2.2.2 a i.toNatClampNeg (some v))) ⟨hh, hS⟩ q.1.1 q.1.2.1 hq0 hsz rfl (fun b hb => em_row (sh := sh) (d := d) rfl rfl rfl rfl rfl rfl (up2_n hb)) (ea hP1) hS1 hle)))
    · rw [em_o (c := 9) h3] at hqk
      exact va_astqO hx hb hK.1 hh.2.2.2 (wl_D hh.1) hS q0 6 qk 9 (E := "PloughDepot$Plough") (r := (RX9, TX9, 3)) hq rfl hK.2.2.2.2.2.2.2.2.2.1 hqk rfl q.2.1 hdg (fun H1 locs1 hP1 hD1 hS1 => hp_sz (fun hle => k9 H1 locs1 (hp_back (sh' := sh) (d' := (d.1, d.2.1, d.2.2.1, up2 d.2.2.2 a i.toNatClampNeg (some v))) ⟨hh, hS⟩ q.1.1 q.1.2.1 hq0 hsz rfl (fun b hb => em_row (sh := sh) (d := d) rfl rfl rfl rfl rfl rfl (up2_n hb)) (ea hP1) hS1 hle)))
  · cases ev
theorem z_aLen {g : Int32 → Option ρ} (hf : (aLen sh a).bind g = some r) (hdg : decode cc pc = .ok (.arraylength, 1)) (kk : ∀ v, g v = some r → Z E y cc nL ret lev (sh, d) (pc + 1) lv (.int v :: rest)) : Z E y cc nL ret lev (sh, d) pc lv (.ref a :: rest) := by
  obtain ⟨v, ev, hf⟩ := ob hf
  unfold aLen at ev
  split at ev
  · rename_i q
    cases ev
    refine z_read (fun p l e R s m args below meth c Q G z H locs cells slots ls hx hb ho ht hmn hK hh k9 => ?_) (kk _ hf)
    obtain ⟨q0, hq⟩ := wl_pos (G := G) (d := d) q.1 q.2.1
    rw [em_a rfl (by omega)] at hq
    have h7 : ∃ ty, (tyG G)[sh.2.1 a]? = some (G.2 (sh.2.1 a), ty) := by
      generalize sh.2.1 a = t at q
      rcases (show t = 0 ∨ t = 1 ∨ t = 2 ∨ t = 3 ∨ t = 4 ∨ t = 5 ∨ t = 6 by omega) with rfl | rfl | rfl | rfl | rfl | rfl | rfl <;> exact ⟨_, rfl⟩
    obtain ⟨ty, h9⟩ := h7
    exact va_alen hx hb hK.1 hh.2.2.2 q0 (sh.2.1 a) hq h9 rfl hdg k9
  · cases ev
theorem z_iOf7 {index : Nat} {g : Int32 → Option ρ} (hf : (iOf sh a 7).bind g = some r) (hlink : Cond.classLink y.cls index "PloughDepot$Salter" ∈ TT) (hdg : decode cc pc = .ok (.instanceof index, 3)) (kk : ∀ v, g v = some r → Z E y cc nL ret lev (sh, d) (pc + 3) lv (.int v :: rest)) : Z E y cc nL ret lev (sh, d) pc lv (.ref a :: rest) := by
  obtain ⟨v, ev, hf⟩ := ob hf
  unfold iOf at ev
  split at ev
  · rename_i q
    cases ev
    refine z_read (fun p l e R s m args below meth c Q G z H locs cells slots ls hx hb ho ht hmn hK hh k9 => ?_) (kk _ hf)
    obtain ⟨qk, hqk⟩ := wl_pos (G := G) (d := d) q.1 q.2.1
    rcases q.2.2 with h3 | ⟨-, h3 | h3 | h3 | h3⟩
    · rw [em_o (c := 6) h3] at hqk
      rw [if_neg (by omega)] at k9
      exact va_instNo hx hb ho (ht _ hlink) hK.2.2.2.2.2.2.2.2.2.2.2.1 (va_recv hK.1 hh.2.2.2 (q := (RX6, TX6, 3)) rfl hqk) hdg k9
    · rw [em_o (c := 0) h3] at hqk
      rw [if_neg (by omega)] at k9
      exact va_instNo hx hb ho (ht _ hlink) hK.2.2.2.2.2.2.2.2.2.2.2.2.1 (va_recv hK.1 hh.2.2.2 (q := (RX0, TX0, 3)) rfl hqk) hdg k9
    · rw [em_o (c := 3) h3] at hqk
      rw [if_neg (by omega)] at k9
      exact va_instNo hx hb ho (ht _ hlink) hK.2.2.2.2.2.2.2.2.2.2.2.2.2.2.1 (va_recv hK.1 hh.2.2.2 (q := (RX3, TX3, 5)) rfl hqk) hdg k9
    · rw [em_o (c := 7) h3] at hqk
      rw [if_pos h3] at k9
      exact va_instS hx hb ho (ht _ hlink) (hK.1.1 7 (RX7, TX7, 3) rfl).2 (va_recv hK.1 hh.2.2.2 (q := (RX7, TX7, 3)) rfl hqk) hdg k9
    · rw [em_o (c := 9) h3] at hqk
      rw [if_neg (by omega)] at k9
      exact va_instNo hx hb ho (ht _ hlink) hK.2.2.2.2.2.2.2.2.2.2.2.2.2.1 (va_recv hK.1 hh.2.2.2 (q := (RX9, TX9, 3)) rfl hqk) hdg k9
  · cases ev
theorem z_iOf3 {index : Nat} {g : Int32 → Option ρ} (hf : (iOf sh a 3).bind g = some r) (hlink : Cond.classLink y.cls index "PloughDepot$Pair" ∈ TT) (hdg : decode cc pc = .ok (.instanceof index, 3)) (kk : ∀ v, g v = some r → Z E y cc nL ret lev (sh, d) (pc + 3) lv (.int v :: rest)) : Z E y cc nL ret lev (sh, d) pc lv (.ref a :: rest) := by
  obtain ⟨v, ev, hf⟩ := ob hf
  unfold iOf at ev
  split at ev
  · rename_i q
    cases ev
    refine z_read (fun p l e R s m args below meth c Q G z H locs cells slots ls hx hb ho ht hmn hK hh k9 => ?_) (kk _ hf)
    obtain ⟨qk, hqk⟩ := wl_pos (G := G) (d := d) q.1 q.2.1
    rcases q.2.2 with h3 | ⟨-, h3 | h3 | h3 | h3⟩
    · rw [em_o (c := 6) h3] at hqk
      rw [if_neg (by omega)] at k9
      exact va_instNo hx hb ho (ht _ hlink) hK.2.2.2.2.2.2.2.2.2.2.2.2.2.2.2.1 (va_recv hK.1 hh.2.2.2 (q := (RX6, TX6, 3)) rfl hqk) hdg k9
    · rw [em_o (c := 0) h3] at hqk
      rw [if_neg (by omega)] at k9
      exact va_instNo hx hb ho (ht _ hlink) hK.2.2.2.2.2.2.2.2.2.2.2.2.2.2.2.2.1 (va_recv hK.1 hh.2.2.2 (q := (RX0, TX0, 3)) rfl hqk) hdg k9
    · rw [em_o (c := 3) h3] at hqk
      rw [if_pos h3] at k9
      exact va_instS hx hb ho (ht _ hlink) (hK.1.1 3 (RX3, TX3, 5) rfl).2 (va_recv hK.1 hh.2.2.2 (q := (RX3, TX3, 5)) rfl hqk) hdg k9
    · rw [em_o (c := 7) h3] at hqk
      rw [if_neg (by omega)] at k9
      exact va_instNo hx hb ho (ht _ hlink) hK.2.2.2.2.2.2.2.2.2.2.2.2.2.2.2.2.2.1 (va_recv hK.1 hh.2.2.2 (q := (RX7, TX7, 3)) rfl hqk) hdg k9
    · rw [em_o (c := 9) h3] at hqk
      rw [if_neg (by omega)] at k9
      exact va_instNo hx hb ho (ht _ hlink) hK.2.2.2.2.2.2.2.2.2.2.2.2.2.2.2.2.2.2 (va_recv hK.1 hh.2.2.2 (q := (RX9, TX9, 3)) rfl hqk) hdg k9
  · cases ev
end ZK
