section ZT
variable {E : EV} {y : MethodName} {cc : ByteArray} {nL : Nat} {ret : Option FieldType} {lev : Nat} {pc : Nat} {lv : List (Nat × Value)} {rest : List Value} {sh : Sh} {d : Dt} {ρ : Type} {r : ρ} {a : Nat}
/-- a row into an int[][] -/
theorem z_sR {i : Int32} {v : Nat} {g : Dt → Option ρ} (hf : (sR sh d a i v).bind g = some r) (hdg : decode cc pc = .ok (.aastore, 1)) (kk : ∀ d1, g d1 = some r → Z E y cc nL ret lev (sh, d1) (pc + 1) lv rest) : Z E y cc nL ret lev (sh, d) pc lv (.ref v :: .int i :: .ref a :: rest) := by
  obtain ⟨v9, ev, hf⟩ := ob hf
  unfold sR at ev
  split at ev
  · rename_i q
    cases ev
    refine z_write sh (d.1, d.2.1, d.2.2.1, up2 d.2.2.2 a i.toNatClampNeg (some v)) rfl (fun p l e R s m args below meth c Q G z H locs cells slots ls hx hb ho ht hmn hK hh hS hsz k9 => ?_) (kk _ hf)
    obtain ⟨q0, hq⟩ := wl_pos (G := G) (d := d) q.1.1 q.1.2.1
    have hq0 := hq
    rw [em_a q.1.2.2 (by decide), kd_q (by decide)] at hq
    obtain ⟨qk, hqk⟩ := wl_pos (G := G) (d := d) q.2.2.1 q.2.2.2.1
    rw [em_a q.2.2.2.2 (by decide), kd_i (by decide) (by decide) (by decide)] at hqk
    obtain ⟨comp, c9, k8, e1, -, e2, e3, e4⟩ := arrayOverA_spec (va_AOA.use (A := args) hK.2.1)
    have hcy : s.vm.findClass (FieldType.array .int).toString = some (G.2 0) := (hK.1.2 0 _ rfl).2
    have h5 : s.vm.findClass ("[" ++ (FieldType.array .int).toString) = some (G.2 5) := (hK.1.2 5 _ rfl).2
    obtain rfl : comp = G.2 0 := Option.some.inj (e1.symm.trans hcy)
    obtain rfl : c9 = G.2 5 := Option.some.inj (e4.symm.trans h5)
    obtain ⟨-, k0, hk0, cm0, hkk0⟩ := (hK.1.2 0 _ rfl).1 (sh.2.2.1 v) (fun j => .int (d.1 v j))
    have hin : vp_in i (sh.2.2.1 a) := q.2.1
    have hlt : i.toNatClampNeg < sh.2.2.1 a := Nat.not_le.mp fun q => hin (Or.inr q)
    have h0 : ¬ i < 0 := fun q => hin (Or.inl q)
    refine W.aast hx hb (hh.2.2.2 q0 _ hq) (fun q h => by cases h) (fun h => by cases h) e2 e3 rfl hk0 ⟨h0, by show _ < (arrV _ _ _).slots.size; rw [arrV_size]; exact hlt⟩ (hh.2.2.2 qk _ hqk) (fun q h => by cases h) hk0 (by show s.vm.assignableAux (255 + 1) (G.2 0) (G.2 0) = true; rw [Vm.assignableAux]; simp) rfl rfl hdg fun H1 e z8 oq => ?_
    refine k9 H1 _ (hp_back (sh' := sh) (d' := (d.1, d.2.1, d.2.2.1, up2 d.2.2.2 a i.toNatClampNeg (some v))) ⟨hh, hS⟩ q.1.1 q.1.2.1 hq0 hsz rfl (fun b hb => em_row (sh := sh) (d := d) rfl rfl rfl rfl rfl rfl (up2_n hb)) (hh.2.2.2.set (wl_D hh.1) hq0 ?_ oq) (hS.put z8 oq (by have h9 : sh.1.1 = z := hh.1; have := q.1.1; show z ≤ a; omega)) ?_)
    · rw [em_a (sh := sh) q.1.2.2 (by decide), kd_q (by decide)]
      show H1[a]? = some (vp_cell _ _)
      rw [e]
      show some ((vp_cell (G.2 5) (sh.2.2.1 a, .inr (.inr (.inr (.inr (d.2.2.2 a)))))).setSlot i.toNatClampNeg (.ref v)) = some (vp_cell (G.2 5) (sh.2.2.1 a, .inr (.inr (.inr (.inr (up2 d.2.2.2 a i.toNatClampNeg (some v) a))))))
      rw [up2_s, vp_cell_q, vp_cell_q, arrV_store]
      congr 2
      funext q
      by_cases hq : q = i.toNatClampNeg
      · subst hq
        simp [updV, va_up, va_rf]
      · simp [updV, va_up, hq]
    · have := hh.2.1
      have : H.size = sh.1.2.1 := this
      omega
  · cases ev
theorem o_bool_spec {x v : Int32} (h : o_bool x = some v) : v = x ∧ (x = 0 ∨ x = 1) := by
  unfold o_bool at h
  split at h
  · cases h
    exact ⟨rfl, by assumption⟩
  · cases h
theorem tab_out {x : Int32} {v : Int32} (n : Int) (hv : v.toInt = n) (h : ¬ x = v) : x.toInt ≠ n := fun q => h (Int32.toInt_inj.mp (q.trans hv.symm))
theorem Le.of {s t u : AS} (h : s.1 = t.1) (k : Le t u) : Le s u := by
  unfold Le at k ⊢
  rw [h]
  exact k
end ZT
