/-! contracts and calls -/
theorem pc_blind {G : GG} {z : Nat} {av : List Value} {h : AS} : FrameBlind (PC G z av h) := fun a U g mk q => by
  obtain ⟨q0, q1, q2⟩ := q
  exact ⟨q0, q1, q2.calling⟩
theorem pc_pre {G : GG} {z : Nat} {As : List Value} {h : AS} {s : State} {H : Heap} (hh : HPt G z h H) (hK : KK G s) : PreS s H (PC G z As h) As := ⟨pc_blind, fun U hU hW => ⟨rfl, by rw [hU]; exact hh, hK.warm hW⟩⟩
theorem pc_preV {G : GG} {z b ci : Nat} {As : List Value} {h : AS} {s : State} {H : Heap} {q : vw_C} (hh : HPt G z h H) (hK : KK G s) (hc : vwCl[ci]? = some q) (h1 : h.1.1.1 ≤ b) (h2 : b < h.1.1.2.1) (h3 : h.1.2.1 b = 10 + ci) : PreV s H q.1 b (PC G z (.ref b :: As) h) As := by
  obtain ⟨k, hk⟩ := wl_pos (G := G) (d := h.2) h1 h2
  rw [em_o h3] at hk
  exact ⟨pc_blind, va_recv hK.1 hh.2.2.2 hc hk, (pc_pre hh hK).2⟩
theorem mt_of {l : Launch} {G : GG} {y : MethodName} {cc : ByteArray} {nL : Nat} {ret : Option FieldType} {lev : Nat} {av : List Value} {h : AS} {rv : Option Value} {h' : AS} (hy : plainName y.cls = true ∨ plainFor y = true) (hlen : (lg_sl av).length ≤ nL) (hle : Le h h') (hZ : ∀ E : EV, TG E rv h' → Z E y cc nL ret lev h 0 (lv_args 0 av) []) : Mt l G y cc nL ret lev av h rv h' := by
  have body : ∀ p e s m args below meth c s₁, BodyLoose p l y (headSpec (Cond.code y cc nL ret :: TT) { frames := lev, cells := h'.1.1.2.1 - h.1.1.2.1, slots := h'.1.1.2.2 - h.1.1.2.2, locals := 100 * lev }) cc nL ret e s m args below meth c s₁ → c.maxLocals = nL → PC G h.1.1.1 av h args s →
      W p l e (headSpec (Cond.code y cc nL ret :: TT) { frames := lev, cells := h'.1.1.2.1 - h.1.1.2.1, slots := h'.1.1.2.2 - h.1.1.2.2, locals := 100 * lev }).room s m args below meth c s.heap [] 0 0 (MQ below (QC G h.1.1.1 h' rv) args s (h'.1.1.2.1 - h.1.1.2.1) (h'.1.1.2.2 - h.1.1.2.2) (fun q => h.1.1.1 ≤ q)) (entryFrame m args nL) := by
    intro p e s m args below meth c s₁ B hml hv
    obtain ⟨rfl, hh, hK⟩ := hv
    have hsz : s.heap.size = h.1.1.2.1 := hh.2.1
    have hzn : h.1.1.1 ≤ h.1.1.2.1 := hh.2.2.1
    have hz := hZ ((p, l, e, (headSpec (Cond.code y cc nL ret :: TT) { frames := lev, cells := h'.1.1.2.1 - h.1.1.2.1, slots := h'.1.1.2.2 - h.1.1.2.2, locals := 100 * lev }).room, s, m, av.toArray, below, meth, c, MQ below (QC G h.1.1.1 h' rv) av.toArray s (h'.1.1.2.1 - s.heap.size) (h'.1.1.2.2 - h.1.1.2.2) (fun q => h.1.1.1 ≤ q)), G, h.1.1.1, h.1.1.2.2, rv, h') ⟨rfl, rfl, rfl⟩
    have hts := atoms_spec (ws := Cond.code y cc nL ret :: TT) B.pre
    have hl := lv_entry av (n := nL) hlen
    have l1 := hle.1
    have l2 := hle.2
    have hz := hz ⟨B.exec, B.bytes, hml, hts, findClass_of_methodNamed B.named, B.returns, B.notSynchronized, (name_of_methodNamed B.named B.method).1, hK, Nat.le_refl _, Nat.le_refl _, (by show h'.1.1.2.1 ≤ s.heap.size + (h'.1.1.2.1 - h.1.1.2.1); omega), (by show h'.1.1.2.2 ≤ h.1.1.2.2 + (h'.1.1.2.2 - h.1.1.2.2); omega), (by omega)⟩ hle.1 hle.2 s.heap [] 0 0 _ ⟨hh, va_S.rf⟩ (by omega) (by omega) hl
    rw [lg_entry_eq]
    rw [hsz] at hz
    exact hz
  refine ⟨hle.2, hle.1, ?_⟩
  rcases hy with hy | hy
  · exact Met.ofW (cc := cc) (maxL := nL) (ret := ret) hy rfl body
  · exact va_MetF (cc := cc) (maxL := nL) (ret := ret) hy rfl body
section ZQ
variable {E : EV} {y : MethodName} {cc : ByteArray} {nL : Nat} {ret : Option FieldType} {lev : Nat} {pc : Nat} {lv : List (Nat × Value)} {rest : List Value} {h h1 : AS} {rv : Option Value}
variable {y' : MethodName} {cc' : ByteArray} {nL' : Nat} {ret' : Option FieldType} {lev' : Nat} {As : List Value} {b n' index : Nat}
theorem w_after {p : Program} {l : Launch} {e : Env} {R : Room} {s : State} {m : MethodId} {args : Array Value} {below : List Frame} {meth : Method} {c : Code} {H : Heap} {locs : List Loc} {cells slots : Nat} {Q : State → Prop} {ls : Array Slot} {G : GG} {z mc ms : Nat} {av : Array Value} {st0 : List Value} (hr : va_Run p l e R s m args below meth c H locs cells slots mc ms (F0 m pc ls st0) rest (QC G z h1 rv av) (fun q => z ≤ q)) (hS : va_S (fun q => z ≤ q) s.heap H locs) (kk : ∀ (H1 : Heap) (locs1 : List Loc), H.size ≤ H1.size → hp G z s.heap h1 H1 locs1 → W p l e R s m args below meth c H1 locs1 (cells + mc) (slots + ms) Q (F0 m (pc + 3) ls (rv.toList ++ rest))) : W p l e R s m args below meth c H locs cells slots Q (F0 m pc ls st0) := by
  rcases rv with _ | v
  · exact va_callv (a := av) hr hS (fun q _ h => h) (fun q h => h) (fun u t H1 locs1 ht hv hq hB hz hk hS1 => kk H1 locs1 hz ⟨by rw [← ht]; exact hB, hS1⟩)
  · cases v with
    | int v => exact va_calli (a := av) hr hS (fun q _ h => h) (fun q h => h) (fun r u t H1 locs1 ht hv hq hB hz hk hS1 => by
        cases hq
        exact kk H1 locs1 hz ⟨by rw [← ht]; exact hB, hS1⟩)
    | long v => exact va_calll (a := av) hr hS (fun q _ h => h) (fun q h => h) (fun r u t H1 locs1 ht hv hq hB hz hk hS1 => by
        cases hq
        exact kk H1 locs1 hz ⟨by rw [← ht]; exact hB, hS1⟩)
    | float v => exact va_callf (a := av) hr hS (fun q _ h => h) (fun q h => h) (fun r u t H1 locs1 ht hv hq hB hz hk hS1 => by
        cases hq
        exact kk H1 locs1 hz ⟨by rw [← ht]; exact hB, hS1⟩)
    | ref v => exact va_callr (a := av) hr hS (fun q _ h => h) (fun q h => h) (fun u r t H1 locs1 ht hv hq hB hz hk hS1 => by
        obtain ⟨e1, hB⟩ := hB
        cases e1
        exact kk H1 locs1 hz ⟨by rw [← ht]; exact hB, hS1⟩)
    | _ =>
      intro T hT X
      obtain ⟨v9, st9, t9, T9, L9, -, -, -, -, -, hq, -⟩ := hr T hT X
      exact hq.elim
/-- a call of any kind, once its run is had -/
theorem z_call {st : List Value} (hM : ∀ (l : Launch) (G : GG), Mt l G y' cc' nL' ret' lev' As h rv h1) (hle9 : h1.1 = h.1 ∨ Le h1 E.2.2.2.2.2)
    (run : ∀ (p : Program) (l : Launch) (e : Env) (R : Room) (s : State) (m : MethodId) (args : Array Value) (below : List Frame) (meth : Method) (c : Code) (G : GG) (z : Nat) (H : Heap) (locs : List Loc) (cells slots : Nat) (ls : Array Slot), CallFix p m c cc nL s args (Cond.code y cc nL ret :: TT) y.cls → KK G s → HPt G z h H → lev ≤ R.frames → 100 * lev ≤ R.locals → ls.size = nL → Met l y' (Cond.code y' cc' nL' ret' :: TT) { frames := lev', cells := h1.1.1.2.1 - h.1.1.2.1, slots := h1.1.1.2.2 - h.1.1.2.2, locals := 100 * lev' } (PC G z As h) (QC G z h1 rv) (h1.1.1.2.1 - h.1.1.2.1) (h1.1.1.2.2 - h.1.1.2.2) (fun q => z ≤ q) → cells + (h1.1.1.2.1 - h.1.1.2.1) ≤ R.cells ∧ slots + (h1.1.1.2.2 - h.1.1.2.2) ≤ R.slots →
      ∃ av : Array Value, va_Run p l e R s m args below meth c H locs cells slots (h1.1.1.2.1 - h.1.1.2.1) (h1.1.1.2.2 - h.1.1.2.2) (F0 m pc ls st) rest (QC G z h1 rv av) (fun q => z ≤ q))
    (kk : Z E y cc nL ret lev h1 (pc + 3) lv (rv.toList ++ rest)) : Z E y cc nL ret lev h pc lv st := by
  obtain ⟨⟨p, l, e, R, s, m, args, below, meth, c, Q⟩, G, z, w0, rv9, hfin⟩ := E
  intro cx b1 b2 H locs cells slots ls hh h9 h2 hl
  have r1 := cx.2.2.2.2.2.2.2.2.2.2.2.1
  have r2 := cx.2.2.2.2.2.2.2.2.2.2.2.2.1
  have hle9 : Le h1 hfin := hle9.elim (fun q => ⟨by rw [q]; exact b1, by rw [q]; exact b2⟩) id
  have n1 : h1.1.1.2.1 ≤ hfin.1.1.2.1 := hle9.1
  have n2 : h1.1.1.2.2 ≤ hfin.1.1.2.2 := hle9.2
  have hz : h.1.1.1 = z := hh.1.1
  obtain ⟨m1, m2, m3⟩ := hM l G
  rw [hz] at m3
  obtain ⟨av, hr⟩ := run p l e R s m args below meth c G z H locs cells slots ls ⟨cx.1, cx.2.1, cx.2.2.1, cx.2.2.2.2.1, cx.2.2.2.1⟩ cx.2.2.2.2.2.2.2.2.1 hh.1 cx.2.2.2.2.2.2.2.2.2.1 cx.2.2.2.2.2.2.2.2.2.2.1 hl.1 m3 ⟨by omega, by omega⟩
  exact w_after hr hh.2 (fun H1 locs1 hs hh1 => kk cx hle9.1 hle9.2 H1 locs1 _ _ ls hh1 (by omega) (by omega) hl)
end ZQ
