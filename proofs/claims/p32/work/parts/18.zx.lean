section ZW
variable {p : Program} {l : Launch} {e : Env} {R : Room} {s : State} {m : MethodId} {args : Array Value} {below : List Frame} {meth : Method} {c : Code} {H : Heap} {locs : List Loc} {cells slots : Nat} {Q : State → Prop} {cc : ByteArray} {pc : Nat} {ls : Array Slot} {rest : List Value}
theorem ns_ldcwf (hexec : p.tables.exec = Jvm.exec) (hb : c.code = cc) {own : String} {index : Nat} {v : UInt32} (hown : s.vm.findClass own = some m.cls) (hconst : (Cond.constantFloat own index v).before args s = true) (hdg : decode cc pc = .ok (.ldc_w index, 3)) (k : W p l e R s m args below meth c H locs cells slots Q (F0 m (pc + 3) ls (.float v :: rest))) : W p l e R s m args below meth c H locs cells slots Q (F0 m pc ls rest) := by
  intro T hT X
  obtain ⟨t, a, b⟩ := k T hT X
  obtain ⟨kc, cf, hk, hcf, hcp⟩ := Cond.constantFloat_spec hown hconst
  obtain ⟨k', hk', he⟩ := X.warmed.alike.2.2 _ _ hk
  refine ⟨t, ?_, b⟩
  jvm_step X.here [hexec, hb, hdg, ldc_w.wp_float (s := T) (f := F0 m pc ls rest) X.here.top hk' (by rw [he]; exact hcf) hcp]
  exact a
end ZW
theorem tg_le {E : EV} {rv : Option Value} {h s : AS} (hE : TG E rv h) (k : Le s h) : Le s E.2.2.2.2.2 := by
  obtain ⟨⟨p, l, e, R, U, m, args, below, meth, c, Q⟩, G, z, w0, rv9, hf⟩ := E
  obtain ⟨rfl, rfl, rfl⟩ := hE
  exact k
theorem df_0 : ∀ j, j < 3 → defaultValue (tyX0 j) = vp_V ((lay 0).map dv) j
  | 0, _ => rfl
  | 1, _ => rfl
  | 2, _ => rfl
  | n + 3, h => absurd h (by omega)
theorem df_1 : ∀ j, j < 8 → defaultValue (tyX1 j) = vp_V ((lay 1).map dv) j
  | 0, _ => rfl
  | 1, _ => rfl
  | 2, _ => rfl
  | 3, _ => rfl
  | 4, _ => rfl
  | 5, _ => rfl
  | 6, _ => rfl
  | 7, _ => rfl
  | n + 8, h => absurd h (by omega)
theorem df_2 : ∀ j, j < 4 → defaultValue (tyX2 j) = vp_V ((lay 2).map dv) j
  | 0, _ => rfl
  | 1, _ => rfl
  | 2, _ => rfl
  | 3, _ => rfl
  | n + 4, h => absurd h (by omega)
theorem df_3 : ∀ j, j < 5 → defaultValue (tyX3 j) = vp_V ((lay 3).map dv) j
  | 0, _ => rfl
  | 1, _ => rfl
  | 2, _ => rfl
  | 3, _ => rfl
  | 4, _ => rfl
  | n + 5, h => absurd h (by omega)
theorem df_4 : ∀ j, j < 12 → defaultValue (tyX4 j) = vp_V ((lay 4).map dv) j
  | 0, _ => rfl
  | 1, _ => rfl
  | 2, _ => rfl
  | 3, _ => rfl
  | 4, _ => rfl
  | 5, _ => rfl
  | 6, _ => rfl
  | 7, _ => rfl
  | 8, _ => rfl
  | 9, _ => rfl
  | 10, _ => rfl
  | 11, _ => rfl
  | n + 12, h => absurd h (by omega)
theorem df_5 : ∀ j, j < 13 → defaultValue (tyX5 j) = vp_V ((lay 5).map dv) j
  | 0, _ => rfl
  | 1, _ => rfl
  | 2, _ => rfl
  | 3, _ => rfl
  | 4, _ => rfl
  | 5, _ => rfl
  | 6, _ => rfl
  | 7, _ => rfl
  | 8, _ => rfl
  | 9, _ => rfl
  | 10, _ => rfl
  | 11, _ => rfl
  | 12, _ => rfl
  | n + 13, h => absurd h (by omega)
theorem df_6 : ∀ j, j < 3 → defaultValue (tyX6 j) = vp_V ((lay 6).map dv) j
  | 0, _ => rfl
  | 1, _ => rfl
  | 2, _ => rfl
  | n + 3, h => absurd h (by omega)
theorem df_7 : ∀ j, j < 3 → defaultValue (tyX7 j) = vp_V ((lay 7).map dv) j
  | 0, _ => rfl
  | 1, _ => rfl
  | 2, _ => rfl
  | n + 3, h => absurd h (by omega)
theorem df_8 : ∀ j, j < 2 → defaultValue (tyX8 j) = vp_V ((lay 8).map dv) j
  | 0, _ => rfl
  | 1, _ => rfl
  | n + 2, h => absurd h (by omega)
theorem df_9 : ∀ j, j < 3 → defaultValue (tyX9 j) = vp_V ((lay 9).map dv) j
  | 0, _ => rfl
  | 1, _ => rfl
  | 2, _ => rfl
  | n + 3, h => absurd h (by omega)
theorem df_10 : ∀ j, j < 6 → defaultValue (tyX10 j) = vp_V ((lay 10).map dv) j
  | 0, _ => rfl
  | 1, _ => rfl
  | 2, _ => rfl
  | 3, _ => rfl
  | 4, _ => rfl
  | 5, _ => rfl
  | n + 6, h => absurd h (by omega)
theorem df_11 : ∀ j, j < 14 → defaultValue (tyX11 j) = vp_V ((lay 11).map dv) j
  | 0, _ => rfl
  | 1, _ => rfl
  | 2, _ => rfl
  | 3, _ => rfl
  | 4, _ => rfl
  | 5, _ => rfl
  | 6, _ => rfl
  | 7, _ => rfl
  | 8, _ => rfl
  | 9, _ => rfl
  | 10, _ => rfl
  | 11, _ => rfl
  | 12, _ => rfl
  | 13, _ => rfl
  | n + 14, h => absurd h (by omega)
theorem df_12 : ∀ j, j < 32 → defaultValue (tyX12 j) = vp_V ((lay 12).map dv) j
  | 0, _ => rfl
  | 1, _ => rfl
  | 2, _ => rfl
  | 3, _ => rfl
  | 4, _ => rfl
  | 5, _ => rfl
  | 6, _ => rfl
  | 7, _ => rfl
  | 8, _ => rfl
  | 9, _ => rfl
  | 10, _ => rfl
  | 11, _ => rfl
  | 12, _ => rfl
  | 13, _ => rfl
  | 14, _ => rfl
  | 15, _ => rfl
  | 16, _ => rfl
  | 17, _ => rfl
  | 18, _ => rfl
  | 19, _ => rfl
  | 20, _ => rfl
  | 21, _ => rfl
  | 22, _ => rfl
  | 23, _ => rfl
  | 24, _ => rfl
  | 25, _ => rfl
  | 26, _ => rfl
  | 27, _ => rfl
  | 28, _ => rfl
  | 29, _ => rfl
  | 30, _ => rfl
  | 31, _ => rfl
  | n + 32, h => absurd h (by omega)
section ZX
variable {E : EV} {y : MethodName} {cc : ByteArray} {nL : Nat} {ret : Option FieldType} {lev : Nat} {pc : Nat} {lv : List (Nat × Value)} {rest : List Value} {ρ : Type} {r : ρ} {sh : Sh} {d : Dt} {a : Nat} {s : AS}
theorem z_ldcwf {index : Nat} {v : UInt32} {h : AS} (hw : Cond.constantFloat y.cls index v ∈ TT) (hdg : decode cc pc = .ok (.ldc_w index, 3)) (kk : Z E y cc nL ret lev h (pc + 3) lv (.float v :: rest)) : Z E y cc nL ret lev h pc lv rest := z_pass (fun _ _ _ _ _ _ _ _ _ _ _ _ _ _ _ _ hx hb ho ht hl k => ns_ldcwf hx hb ho (ht _ hw) hdg (k _ hl)) kk
theorem z_na0 {n : Int32} {g : AS → Option ρ} (hf : (nArr s 0 n).bind g = some r) (hle9 : ∀ s1, g s1 = some r → Le s1 E.2.2.2.2.2) (hw : Cond.arrayClass .int ∈ TT) (hdg : decode cc pc = .ok (.newarray .int, 2)) (kk : ∀ s1, g s1 = some r → Z E y cc nL ret lev s1 (pc + 2) lv (.ref s.1.1.2.1 :: rest)) : Z E y cc nL ret lev s pc lv (.int n :: rest) :=
  z_newa (t := 0) (atype := .int) (ty := .int) hf hle9 hw rfl (fun _ => rfl) (by decide) (fun _ _ h => h) (fun N => (N, .inl (fun _ => 0))) (fun _ _ => rfl) (by decide) (fun m => by
    rw [kd_i (by decide) (by decide) (by decide)]
    show (m, Sum.inl (va_up s.2.1 s.1.1.2.1 (fun _ => 0) s.1.1.2.1)) = _
    rw [va_up_s]) hdg kk
theorem z_na3 {n : Int32} {g : AS → Option ρ} (hf : (nArr s 3 n).bind g = some r) (hle9 : ∀ s1, g s1 = some r → Le s1 E.2.2.2.2.2) (hw : Cond.arrayClass .char ∈ TT) (hdg : decode cc pc = .ok (.newarray .char, 2)) (kk : ∀ s1, g s1 = some r → Z E y cc nL ret lev s1 (pc + 2) lv (.ref s.1.1.2.1 :: rest)) : Z E y cc nL ret lev s pc lv (.int n :: rest) :=
  z_newa (t := 3) (atype := .char) (ty := .char) hf hle9 hw rfl (fun _ => rfl) (by decide) (fun _ _ h => h) (fun N => (N, .inl (fun _ => 0))) (fun _ _ => rfl) (by decide) (fun m => by
    rw [kd_i (by decide) (by decide) (by decide)]
    show (m, Sum.inl (va_up s.2.1 s.1.1.2.1 (fun _ => 0) s.1.1.2.1)) = _
    rw [va_up_s]) hdg kk
theorem z_na4 {n : Int32} {g : AS → Option ρ} (hf : (nArr s 4 n).bind g = some r) (hle9 : ∀ s1, g s1 = some r → Le s1 E.2.2.2.2.2) (hw : Cond.arrayClass .boolean ∈ TT) (hdg : decode cc pc = .ok (.newarray .boolean, 2)) (kk : ∀ s1, g s1 = some r → Z E y cc nL ret lev s1 (pc + 2) lv (.ref s.1.1.2.1 :: rest)) : Z E y cc nL ret lev s pc lv (.int n :: rest) :=
  z_newa (t := 4) (atype := .boolean) (ty := .boolean) hf hle9 hw rfl (fun _ => rfl) (by decide) (fun _ _ h => h) (fun N => (N, .inl (fun _ => 0))) (fun _ _ => rfl) (by decide) (fun m => by
    rw [kd_i (by decide) (by decide) (by decide)]
    show (m, Sum.inl (va_up s.2.1 s.1.1.2.1 (fun _ => 0) s.1.1.2.1)) = _
    rw [va_up_s]) hdg kk
theorem z_na1 {n : Int32} {g : AS → Option ρ} (hf : (nArr s 1 n).bind g = some r) (hle9 : ∀ s1, g s1 = some r → Le s1 E.2.2.2.2.2) (hw : Cond.arrayClass .long ∈ TT) (hdg : decode cc pc = .ok (.newarray .long, 2)) (kk : ∀ s1, g s1 = some r → Z E y cc nL ret lev s1 (pc + 2) lv (.ref s.1.1.2.1 :: rest)) : Z E y cc nL ret lev s pc lv (.int n :: rest) :=
  z_newa (t := 1) (atype := .long) (ty := .long) hf hle9 hw rfl (fun _ => rfl) (by decide) (fun _ _ h => h) (fun N => (N, .inr (.inl (fun _ => 0)))) (fun _ _ => rfl) (by decide) (fun m => by
    rw [kd_j]
    show (m, Sum.inr (Sum.inl (va_up s.2.2.1 s.1.1.2.1 (fun _ => 0) s.1.1.2.1))) = _
    rw [va_up_s]) hdg kk
theorem z_na2 {n : Int32} {g : AS → Option ρ} (hf : (nArr s 2 n).bind g = some r) (hle9 : ∀ s1, g s1 = some r → Le s1 E.2.2.2.2.2) (hw : Cond.arrayClass .float ∈ TT) (hdg : decode cc pc = .ok (.newarray .float, 2)) (kk : ∀ s1, g s1 = some r → Z E y cc nL ret lev s1 (pc + 2) lv (.ref s.1.1.2.1 :: rest)) : Z E y cc nL ret lev s pc lv (.int n :: rest) :=
  z_newa (t := 2) (atype := .float) (ty := .float) hf hle9 hw rfl (fun _ => rfl) (by decide) (fun _ _ h => h) (fun N => (N, .inr (.inr (.inl (fun _ => 0))))) (fun _ _ => rfl) (by decide) (fun m => by
    rw [kd_f]
    show (m, Sum.inr (Sum.inr (Sum.inl (va_up s.2.2.2.1 s.1.1.2.1 (fun _ => 0) s.1.1.2.1)))) = _
    rw [va_up_s]) hdg kk
end ZX
section ZY
variable {E : EV} {nL : Nat} {ret : Option FieldType} {lev : Nat} {cc : ByteArray} {pc : Nat} {lv : List (Nat × Value)} {rest : List Value} {ρ : Type} {r : ρ} {sh : Sh} {d : Dt} {a : Nat}
theorem z_pI6_1 {index : Nat} {v : Int32} {g : Dt → Option ρ} (hf : (pI sh d a 6 1 v).bind g = some r) (hlink : Cond.fieldLink RX6 index "PloughDepot$Plough" "speed" "I" ∈ TT) (hdg : decode cc pc = .ok (.putfield index, 3)) (kk : ∀ d1, g d1 = some r → Z E yX6_init cc nL ret lev (sh, d1) (pc + 3) lv rest) : Z E yX6_init cc nL ret lev (sh, d) pc lv (.int v :: .ref a :: rest) := by
  obtain ⟨v9, ev, hf⟩ := ob hf
  unfold pI at ev
  split at ev
  · rename_i q
    cases ev
    have hv : fv sh (up2 d.1 a 1 v, d.2) a 1 0 = .int v := by
      show Value.int (up2 d.1 a 1 v a 1) = _
      rw [up2_s, va_up_s]
    rcases q with ⟨h1, h2, h3 | ⟨-, h3 | h3 | h3 | h3⟩⟩
    · exact z_putF (sh := sh) (d := d) (ci := 6) (k := 1) (C := RX6) (T := TX6) (N := 3) rfl inlX6 (by decide) hlink (fun _ _ _ _ h9 => h9) tyX6 tyX6_ok nmX6 rfl rfl rfl 0 sh (up2 d.1 a 1 v, d.2) rfl rfl (fun G b hb => em_row (sh := sh) (d := d) rfl rfl rfl (up2_n hb) rfl rfl rfl) fvm_I fvn_I rfl h1 h2 h3 hv rfl rfl hdg (kk _ hf)
    · exact z_putF (sh := sh) (d := d) (ci := 0) (k := 1) (C := RX0) (T := TX0) (N := 3) rfl inlX0 (by decide) hlink (fun _ _ _ _ h9 => h9) tyX0 tyX0_ok nmX0 rfl rfl rfl 0 sh (up2 d.1 a 1 v, d.2) rfl rfl (fun G b hb => em_row (sh := sh) (d := d) rfl rfl rfl (up2_n hb) rfl rfl rfl) fvm_I fvn_I rfl h1 h2 h3 hv rfl rfl hdg (kk _ hf)
    · exact z_putF (sh := sh) (d := d) (ci := 3) (k := 1) (C := RX3) (T := TX3) (N := 5) rfl inlX3 (by decide) hlink (fun _ _ _ _ h9 => h9) tyX3 tyX3_ok nmX3 rfl rfl rfl 0 sh (up2 d.1 a 1 v, d.2) rfl rfl (fun G b hb => em_row (sh := sh) (d := d) rfl rfl rfl (up2_n hb) rfl rfl rfl) fvm_I fvn_I rfl h1 h2 h3 hv rfl rfl hdg (kk _ hf)
    · exact z_putF (sh := sh) (d := d) (ci := 7) (k := 1) (C := RX7) (T := TX7) (N := 3) rfl inlX7 (by decide) hlink (fun _ _ _ _ h9 => h9) tyX7 tyX7_ok nmX7 rfl rfl rfl 0 sh (up2 d.1 a 1 v, d.2) rfl rfl (fun G b hb => em_row (sh := sh) (d := d) rfl rfl rfl (up2_n hb) rfl rfl rfl) fvm_I fvn_I rfl h1 h2 h3 hv rfl rfl hdg (kk _ hf)
    · exact z_putF (sh := sh) (d := d) (ci := 9) (k := 1) (C := RX9) (T := TX9) (N := 3) rfl inlX9 (by decide) hlink (fun _ _ _ _ h9 => h9) tyX9 tyX9_ok nmX9 rfl rfl rfl 0 sh (up2 d.1 a 1 v, d.2) rfl rfl (fun G b hb => em_row (sh := sh) (d := d) rfl rfl rfl (up2_n hb) rfl rfl rfl) fvm_I fvn_I rfl h1 h2 h3 hv rfl rfl hdg (kk _ hf)
  · cases ev
theorem z_pI6_2 {index : Nat} {v : Int32} {g : Dt → Option ρ} (hf : (pI sh d a 6 2 v).bind g = some r) (hlink : Cond.fieldLink RX6 index "PloughDepot$Plough" "reach" "I" ∈ TT) (hdg : decode cc pc = .ok (.putfield index, 3)) (kk : ∀ d1, g d1 = some r → Z E yX6_init cc nL ret lev (sh, d1) (pc + 3) lv rest) : Z E yX6_init cc nL ret lev (sh, d) pc lv (.int v :: .ref a :: rest) := by
  obtain ⟨v9, ev, hf⟩ := ob hf
  unfold pI at ev
  split at ev
  · rename_i q
    cases ev
    have hv : fv sh (up2 d.1 a 2 v, d.2) a 2 0 = .int v := by
      show Value.int (up2 d.1 a 2 v a 2) = _
      rw [up2_s, va_up_s]
    rcases q with ⟨h1, h2, h3 | ⟨-, h3 | h3 | h3 | h3⟩⟩
    · exact z_putF (sh := sh) (d := d) (ci := 6) (k := 2) (C := RX6) (T := TX6) (N := 3) rfl inlX6 (by decide) hlink (fun _ _ _ _ h9 => h9) tyX6 tyX6_ok nmX6 rfl rfl rfl 0 sh (up2 d.1 a 2 v, d.2) rfl rfl (fun G b hb => em_row (sh := sh) (d := d) rfl rfl rfl (up2_n hb) rfl rfl rfl) fvm_I fvn_I rfl h1 h2 h3 hv rfl rfl hdg (kk _ hf)
    · exact z_putF (sh := sh) (d := d) (ci := 0) (k := 2) (C := RX0) (T := TX0) (N := 3) rfl inlX0 (by decide) hlink (fun _ _ _ _ h9 => h9) tyX0 tyX0_ok nmX0 rfl rfl rfl 0 sh (up2 d.1 a 2 v, d.2) rfl rfl (fun G b hb => em_row (sh := sh) (d := d) rfl rfl rfl (up2_n hb) rfl rfl rfl) fvm_I fvn_I rfl h1 h2 h3 hv rfl rfl hdg (kk _ hf)
    · exact z_putF (sh := sh) (d := d) (ci := 3) (k := 2) (C := RX3) (T := TX3) (N := 5) rfl inlX3 (by decide) hlink (fun _ _ _ _ h9 => h9) tyX3 tyX3_ok nmX3 rfl rfl rfl 0 sh (up2 d.1 a 2 v, d.2) rfl rfl (fun G b hb => em_row (sh := sh) (d := d) rfl rfl rfl (up2_n hb) rfl rfl rfl) fvm_I fvn_I rfl h1 h2 h3 hv rfl rfl hdg (kk _ hf)
    · exact z_putF (sh := sh) (d := d) (ci := 7) (k := 2) (C := RX7) (T := TX7) (N := 3) rfl inlX7 (by decide) hlink (fun _ _ _ _ h9 => h9) tyX7 tyX7_ok nmX7 rfl rfl rfl 0 sh (up2 d.1 a 2 v, d.2) rfl rfl (fun G b hb => em_row (sh := sh) (d := d) rfl rfl rfl (up2_n hb) rfl rfl rfl) fvm_I fvn_I rfl h1 h2 h3 hv rfl rfl hdg (kk _ hf)
    · exact z_putF (sh := sh) (d := d) (ci := 9) (k := 2) (C := RX9) (T := TX9) (N := 3) rfl inlX9 (by decide) hlink (fun _ _ _ _ h9 => h9) tyX9 tyX9_ok nmX9 rfl rfl rfl 0 sh (up2 d.1 a 2 v, d.2) rfl rfl (fun G b hb => em_row (sh := sh) (d := d) rfl rfl rfl (up2_n hb) rfl rfl rfl) fvm_I fvn_I rfl h1 h2 h3 hv rfl rfl hdg (kk _ hf)
  · cases ev
theorem z_pP6_0 {index v : Nat} {g : AS → Option ρ} (hf : (pP (sh, d) a 6 0 v).bind g = some r) (hlink : Cond.fieldLink RX6 index "PloughDepot$Plough" "log" "LPloughDepot$Log;" ∈ TT) (hdg : decode cc pc = .ok (.putfield index, 3)) (kk : ∀ s1 : AS, s1.1.1 = sh.1 → g s1 = some r → Z E yX6_init cc nL ret lev s1 (pc + 3) lv rest) : Z E yX6_init cc nL ret lev (sh, d) pc lv (.ref v :: .ref a :: rest) := by
  obtain ⟨v9, ev, hf⟩ := ob hf
  unfold pP at ev
  split at ev
  · rename_i q
    cases ev
    have hv : fv (sh.1, sh.2.1, sh.2.2.1, up2 sh.2.2.2 a 0 (some v)) d a 0 2 = .ref v := by
      show va_rf (up2 sh.2.2.2 a 0 (some v) a 0) = _
      rw [up2_s, va_up_s]
      rfl
    rcases q with ⟨h1, h2, h3 | ⟨-, h3 | h3 | h3 | h3⟩⟩
    · exact z_putF (sh := sh) (d := d) (ci := 6) (k := 0) (C := RX6) (T := TX6) (N := 3) rfl inlX6 (by decide) hlink (fun _ _ _ _ h9 => h9) tyX6 tyX6_ok nmX6 rfl rfl rfl 2 (sh.1, sh.2.1, sh.2.2.1, up2 sh.2.2.2 a 0 (some v)) d rfl rfl (fun G b hb => em_row (sh := sh) (d := d) rfl rfl (up2_n hb) rfl rfl rfl rfl) fvm_P fvn_P rfl h1 h2 h3 hv rfl rfl hdg (kk _ rfl hf)
    · exact z_putF (sh := sh) (d := d) (ci := 0) (k := 0) (C := RX0) (T := TX0) (N := 3) rfl inlX0 (by decide) hlink (fun _ _ _ _ h9 => h9) tyX0 tyX0_ok nmX0 rfl rfl rfl 2 (sh.1, sh.2.1, sh.2.2.1, up2 sh.2.2.2 a 0 (some v)) d rfl rfl (fun G b hb => em_row (sh := sh) (d := d) rfl rfl (up2_n hb) rfl rfl rfl rfl) fvm_P fvn_P rfl h1 h2 h3 hv rfl rfl hdg (kk _ rfl hf)
    · exact z_putF (sh := sh) (d := d) (ci := 3) (k := 0) (C := RX3) (T := TX3) (N := 5) rfl inlX3 (by decide) hlink (fun _ _ _ _ h9 => h9) tyX3 tyX3_ok nmX3 rfl rfl rfl 2 (sh.1, sh.2.1, sh.2.2.1, up2 sh.2.2.2 a 0 (some v)) d rfl rfl (fun G b hb => em_row (sh := sh) (d := d) rfl rfl (up2_n hb) rfl rfl rfl rfl) fvm_P fvn_P rfl h1 h2 h3 hv rfl rfl hdg (kk _ rfl hf)
    · exact z_putF (sh := sh) (d := d) (ci := 7) (k := 0) (C := RX7) (T := TX7) (N := 3) rfl inlX7 (by decide) hlink (fun _ _ _ _ h9 => h9) tyX7 tyX7_ok nmX7 rfl rfl rfl 2 (sh.1, sh.2.1, sh.2.2.1, up2 sh.2.2.2 a 0 (some v)) d rfl rfl (fun G b hb => em_row (sh := sh) (d := d) rfl rfl (up2_n hb) rfl rfl rfl rfl) fvm_P fvn_P rfl h1 h2 h3 hv rfl rfl hdg (kk _ rfl hf)
    · exact z_putF (sh := sh) (d := d) (ci := 9) (k := 0) (C := RX9) (T := TX9) (N := 3) rfl inlX9 (by decide) hlink (fun _ _ _ _ h9 => h9) tyX9 tyX9_ok nmX9 rfl rfl rfl 2 (sh.1, sh.2.1, sh.2.2.1, up2 sh.2.2.2 a 0 (some v)) d rfl rfl (fun G b hb => em_row (sh := sh) (d := d) rfl rfl (up2_n hb) rfl rfl rfl rfl) fvm_P fvn_P rfl h1 h2 h3 hv rfl rfl hdg (kk _ rfl hf)
  · cases ev
end ZY
