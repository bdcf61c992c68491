set_option maxHeartbeats 4000000 in
set_option maxRecDepth 100000 in
theorem law_sw {x0 : Int32} {p : Program} {l : Launch} {e : Env} {s : State} {m : MethodId} {below : List Frame} {meth : Method} {c : Code} {Z : State → Prop} {b : Nat} {xs : Nat → Int32} {G : GG} {A : Nat → Prop} {H : Heap} {locs : List Loc} {ls : Array Slot} {dp : Nat} {lg : Nat} {nw : Nat} {bf : Nat} {wy : Nat} {pg : Nat} {pn : Nat} {bd : Nat} {hgt : Nat} {sta : Nat} {edn : Nat} {fnd : Nat} {sgn : Nat} {fi : Nat} {nts : Nat} {ntg : Nat} {ntp : Nat} {ntd : Nat} {nfa : Nat} {npa : Nat} {nce : Nat} {ntso : Nat} {ntsg : Nat → Option Nat} {ntgo : Nat} {ntgg : Nat → Option Nat} {ntpo : Nat} {ntpg : Nat → Option Nat} {ntdo : Nat} {ntdg : Nat → Option Nat} {npf : Nat → Int32} {bts : Nat} {btg : Nat} {btp : Nat} {btd : Nat} {bfa : Nat} {bpa : Nat} {bce : Nat} {btso : Nat} {btsg : Nat → Option Nat} {btgo : Nat} {btgg : Nat → Option Nat} {btpo : Nat} {btpg : Nat → Option Nat} {btdo : Nat} {btdg : Nat → Option Nat} {bpf : Nat → Int32} {hp : Nat} {it : Nat} {gp : Nat} {hpg : Nat → Option Nat} {od : Nat} {gs : Nat} {tq : Nat} {on : Nat} {ot : Nat} {pd : Nat} {pfa : Nat} {ppa : Nat} {ea : Nat} {eb : Nat} {lf : Nat} {du : Nat} {nr : Nat} {pdo : Nat} {pdg : Nat → Option Nat} {bdf : Nat → Option Nat} {mo : Nat} {zw : Nat} {zk : Nat} {zf : Nat} {z_tx : Nat} {z_fr : Nat} {z_sm : Nat} {z_to9 : Nat} {z_rd9 : Nat} {z_ti : Nat} {z_od9 : Nat} {zc : Nat} {zl : Nat} {z_o1 : Nat} {z_o2 : Nat} {z_s1 : Nat} {z_s2 : Nat} {z_s3 : Nat} {zd : Nat} {z_b1 : Nat} {z_b2 : Nat} {z_b3 : Nat} {znf : Nat → Int32} {L : List Nat} {fp : Nat → va_E} (hx : p.tables.exec = Jvm.exec) (hb : c.code = code) (hml : c.maxLocals = 4) (hown : s.vm.findClass RL = some m.cls) (hts : ∀ w ∈ (Cond.classLink RL 7 RX11 :: TT), w.before #[Value.ref b] s = true) (hX : va_X b 6 xs s s.heap) (hbl : b < s.heap.size) (hbA : ¬ A b) (hK : KK G s) (hA : ∀ q, s.heap.size ≤ q → A q) (hRo : Ro G L fp) (hgntsg : Gr L ntsg 9) (hgntgg : Gr L ntgg 3) (hgntpg : Gr L ntpg 9) (hgntdg : Gr L ntdg 4) (hgbtsg : Gr L btsg 9) (hgbtgg : Gr L btgg 3) (hgbtpg : Gr L btpg 9) (hgbtdg : Gr L btdg 4) (hghpg : Gr L hpg 60) (hgpdg : Gr L pdg 4) (hz : ∀ j, j < 16 → znf j = 0) (hP : va_P G.1 vwCl ([(dp, .inr (11, [.ref lg, .ref nw, .ref bf, .ref wy, .ref pg, .ref pn, .ref bd, .ref hgt, .ref sta, .ref edn, .ref fnd, .ref sgn, .int 0, .int 0])), (lg, .inr (2, [.ref fi, .int 0, .int 0, .int 0])), (fi, .inl (G.2 0, 5, .inl (fun _ => 0))), (nw, .inr (1, [.int 0, .ref nts, .ref ntg, .ref ntp, .ref ntd, .ref nfa, .ref npa, .ref nce])), (nts, .inr (8, [.ref ntso, .int 0])), (ntso, .inl (G.2 5, 9, .inr (.inr (.inr (.inr ntsg))))), (ntg, .inr (8, [.ref ntgo, .int 0])), (ntgo, .inl (G.2 5, 3, .inr (.inr (.inr (.inr ntgg))))), (ntp, .inr (8, [.ref ntpo, .int 0])), (ntpo, .inl (G.2 5, 9, .inr (.inr (.inr (.inr ntpg))))), (ntd, .inr (8, [.ref ntdo, .int 0])), (ntdo, .inl (G.2 5, 4, .inr (.inr (.inr (.inr ntdg))))), (nfa, .inl (G.2 0, 7, .inl (fun _ => 0))), (npa, .inl (G.2 0, 60, .inl npf)), (nce, .inl (G.2 1, 0, .inr (.inl (fun _ => 0)))), (bf, .inr (1, [.int 0, .ref bts, .ref btg, .ref btp, .ref btd, .ref bfa, .ref bpa, .ref bce])), (bts, .inr (8, [.ref btso, .int 0])), (btso, .inl (G.2 5, 9, .inr (.inr (.inr (.inr btsg))))), (btg, .inr (8, [.ref btgo, .int 0])), (btgo, .inl (G.2 5, 3, .inr (.inr (.inr (.inr btgg))))), (btp, .inr (8, [.ref btpo, .int 0])), (btpo, .inl (G.2 5, 9, .inr (.inr (.inr (.inr btpg))))), (btd, .inr (8, [.ref btdo, .int 0])), (btdo, .inl (G.2 5, 4, .inr (.inr (.inr (.inr btdg))))), (bfa, .inl (G.2 0, 7, .inl (fun _ => 0))), (bpa, .inl (G.2 0, 60, .inl bpf)), (bce, .inl (G.2 1, 0, .inr (.inl (fun _ => 0)))), (wy, .inr (10, [.ref nw, .ref hp, .ref it, .ref gp, .long 0, .int 0])), (hp, .inl (G.2 5, 60, .inr (.inr (.inr (.inr hpg))))), (it, .inl (G.2 1, 60, .inr (.inl (fun _ => 0)))), (pg, .inr (4, [.ref nw, .ref wy, .ref od, .int 0, .int 0, .ref gs, .ref tq, .int 0, .ref on, .ref ot, .int 0, .int 0])), (tq, .inl (G.2 0, 1, .inl (fun _ => 0))), (pn, .inr (5, [.ref nw, .ref wy, .ref pg, .ref pd, .ref pfa, .ref ppa, .ref ea, .ref eb, .int 0, .ref lf, .ref du, .ref nr, .int 0])), (pd, .inr (8, [.ref pdo, .int 0])), (pdo, .inl (G.2 5, 4, .inr (.inr (.inr (.inr pdg))))), (pfa, .inl (G.2 0, 7, .inl (fun _ => 0))), (ppa, .inl (G.2 0, 60, .inl (fun _ => 0))), (nr, .inl (G.2 1, 60, .inr (.inl (fun _ => 0)))), (bd, .inl (G.2 6, 12, .inr (.inr (.inr (.inr bdf))))), (mo, .inr (12, [.ref zw, .ref zk, .int 0, .int 0, .int 0, .int 0, .ref zf, .ref z_tx, .int 0, .ref z_fr, .int 0, .ref z_sm, .ref z_to9, .ref z_rd9, .ref z_ti, .ref z_od9, .int 0, .ref zc, .ref zl, .int 0, .int 0, .int 0, .ref z_o1, .ref z_o2, .int 0, .ref z_s1, .ref z_s2, .ref z_s3, .ref zd, .ref z_b1, .ref z_b2, .ref z_b3])), (zw, .inl (G.2 0, 15642, .inl znf)), (zk, .inl (G.2 0, 15642, .inl (fun _ => 0))), (zf, .inl (G.2 0, 5, .inl (fun _ => 0))), (zc, .inl (G.2 4, 60, .inl (fun _ => 0))), (zl, .inl (G.2 0, 16384, .inl (fun _ => 0))), (zd, .inl (G.2 0, 150, .inl (fun _ => 0)))] ++ va_pl L fp) H) (hD : va_D A ([(dp, .inr (11, [.ref lg, .ref nw, .ref bf, .ref wy, .ref pg, .ref pn, .ref bd, .ref hgt, .ref sta, .ref edn, .ref fnd, .ref sgn, .int 0, .int 0])), (lg, .inr (2, [.ref fi, .int 0, .int 0, .int 0])), (fi, .inl (G.2 0, 5, .inl (fun _ => 0))), (nw, .inr (1, [.int 0, .ref nts, .ref ntg, .ref ntp, .ref ntd, .ref nfa, .ref npa, .ref nce])), (nts, .inr (8, [.ref ntso, .int 0])), (ntso, .inl (G.2 5, 9, .inr (.inr (.inr (.inr ntsg))))), (ntg, .inr (8, [.ref ntgo, .int 0])), (ntgo, .inl (G.2 5, 3, .inr (.inr (.inr (.inr ntgg))))), (ntp, .inr (8, [.ref ntpo, .int 0])), (ntpo, .inl (G.2 5, 9, .inr (.inr (.inr (.inr ntpg))))), (ntd, .inr (8, [.ref ntdo, .int 0])), (ntdo, .inl (G.2 5, 4, .inr (.inr (.inr (.inr ntdg))))), (nfa, .inl (G.2 0, 7, .inl (fun _ => 0))), (npa, .inl (G.2 0, 60, .inl npf)), (nce, .inl (G.2 1, 0, .inr (.inl (fun _ => 0)))), (bf, .inr (1, [.int 0, .ref bts, .ref btg, .ref btp, .ref btd, .ref bfa, .ref bpa, .ref bce])), (bts, .inr (8, [.ref btso, .int 0])), (btso, .inl (G.2 5, 9, .inr (.inr (.inr (.inr btsg))))), (btg, .inr (8, [.ref btgo, .int 0])), (btgo, .inl (G.2 5, 3, .inr (.inr (.inr (.inr btgg))))), (btp, .inr (8, [.ref btpo, .int 0])), (btpo, .inl (G.2 5, 9, .inr (.inr (.inr (.inr btpg))))), (btd, .inr (8, [.ref btdo, .int 0])), (btdo, .inl (G.2 5, 4, .inr (.inr (.inr (.inr btdg))))), (bfa, .inl (G.2 0, 7, .inl (fun _ => 0))), (bpa, .inl (G.2 0, 60, .inl bpf)), (bce, .inl (G.2 1, 0, .inr (.inl (fun _ => 0)))), (wy, .inr (10, [.ref nw, .ref hp, .ref it, .ref gp, .long 0, .int 0])), (hp, .inl (G.2 5, 60, .inr (.inr (.inr (.inr hpg))))), (it, .inl (G.2 1, 60, .inr (.inl (fun _ => 0)))), (pg, .inr (4, [.ref nw, .ref wy, .ref od, .int 0, .int 0, .ref gs, .ref tq, .int 0, .ref on, .ref ot, .int 0, .int 0])), (tq, .inl (G.2 0, 1, .inl (fun _ => 0))), (pn, .inr (5, [.ref nw, .ref wy, .ref pg, .ref pd, .ref pfa, .ref ppa, .ref ea, .ref eb, .int 0, .ref lf, .ref du, .ref nr, .int 0])), (pd, .inr (8, [.ref pdo, .int 0])), (pdo, .inl (G.2 5, 4, .inr (.inr (.inr (.inr pdg))))), (pfa, .inl (G.2 0, 7, .inl (fun _ => 0))), (ppa, .inl (G.2 0, 60, .inl (fun _ => 0))), (nr, .inl (G.2 1, 60, .inr (.inl (fun _ => 0)))), (bd, .inl (G.2 6, 12, .inr (.inr (.inr (.inr bdf))))), (mo, .inr (12, [.ref zw, .ref zk, .int 0, .int 0, .int 0, .int 0, .ref zf, .ref z_tx, .int 0, .ref z_fr, .int 0, .ref z_sm, .ref z_to9, .ref z_rd9, .ref z_ti, .ref z_od9, .int 0, .ref zc, .ref zl, .int 0, .int 0, .int 0, .ref z_o1, .ref z_o2, .int 0, .ref z_s1, .ref z_s2, .ref z_s3, .ref zd, .ref z_b1, .ref z_b2, .ref z_b3])), (zw, .inl (G.2 0, 15642, .inl znf)), (zk, .inl (G.2 0, 15642, .inl (fun _ => 0))), (zf, .inl (G.2 0, 5, .inl (fun _ => 0))), (zc, .inl (G.2 4, 60, .inl (fun _ => 0))), (zl, .inl (G.2 0, 16384, .inl (fun _ => 0))), (zd, .inl (G.2 0, 150, .inl (fun _ => 0)))] ++ va_pl L fp)) (hS : va_S A s.heap H locs) (hl : lv_has ls 4 [(3, .int 0), (2, .ref mo), (1, .ref dp), (0, .ref b)]) (hend : ∀ (H : Heap) (locs : List Loc) (ls : Array Slot), va_S A s.heap H locs → lv_has ls 4 [(3, .int 0), (2, .ref mo), (1, .ref dp), (0, .ref b)] → W p l e room_1 s m #[Value.ref b] below meth c H locs 1000 100000 Z (F0 m 1469 ls [])) : W p l e room_1 s m #[Value.ref b] below meth c H locs 264 75638 Z (F0 m 33 ls [.int (x0 &&& 63)]) := by
  obtain ⟨j, hj, ej⟩ := pk_andE x0 (m := 63) 6 (by decide)
  rw [ej]
  clear ej
  rcases Nat.lt_or_ge j 41 with hj41 | hj41
  · match j, hj41 with
    | 0, _ =>
      refine lv_tableIn (tgt := 212) (off := 179) hx hb dL_law_33 (by decide) (by decide) (by decide) (by decide) ?_
      exact lc_0 hx hb hml hown hts hX hbl hbA hK hA hRo hgntsg hgntgg hgntpg hgntdg hgbtsg hgbtgg hgbtpg hgbtdg hghpg hgpdg hz hP hD hS hl hend
    | 1, _ =>
      refine lv_tableIn (tgt := 235) (off := 202) hx hb dL_law_33 (by decide) (by decide) (by decide) (by decide) ?_
      exact lc_1 hx hb hml hown hts hX hbl hbA hK hA hRo hgntsg hgntgg hgntpg hgntdg hgbtsg hgbtgg hgbtpg hgbtdg hghpg hgpdg hz hP hD hS hl hend
    | 2, _ =>
      refine lv_tableIn (tgt := 304) (off := 271) hx hb dL_law_33 (by decide) (by decide) (by decide) (by decide) ?_
      exact lc_2 hx hb hml hown hts hX hbl hbA hK hA hRo hgntsg hgntgg hgntpg hgntdg hgbtsg hgbtgg hgbtpg hgbtdg hghpg hgpdg hz hP hD hS hl hend
    | 3, _ =>
      refine lv_tableIn (tgt := 353) (off := 320) hx hb dL_law_33 (by decide) (by decide) (by decide) (by decide) ?_
      exact lc_3 hx hb hml hown hts hX hbl hbA hK hA hRo hgntsg hgntgg hgntpg hgntdg hgbtsg hgbtgg hgbtpg hgbtdg hghpg hgpdg hz hP hD hS hl hend
    | 4, _ =>
      refine lv_tableIn (tgt := 402) (off := 369) hx hb dL_law_33 (by decide) (by decide) (by decide) (by decide) ?_
      exact lc_4 hx hb hml hown hts hX hbl hbA hK hA hRo hgntsg hgntgg hgntpg hgntdg hgbtsg hgbtgg hgbtpg hgbtdg hghpg hgpdg hz hP hD hS hl hend
    | 5, _ =>
      refine lv_tableIn (tgt := 435) (off := 402) hx hb dL_law_33 (by decide) (by decide) (by decide) (by decide) ?_
      exact lc_5 hx hb hml hown hts hX hbl hbA hK hA hRo hgntsg hgntgg hgntpg hgntdg hgbtsg hgbtgg hgbtpg hgbtdg hghpg hgpdg hz hP hD hS hl hend
    | 6, _ =>
      refine lv_tableIn (tgt := 468) (off := 435) hx hb dL_law_33 (by decide) (by decide) (by decide) (by decide) ?_
      exact lc_6 hx hb hml hown hts hX hbl hbA hK hA hRo hgntsg hgntgg hgntpg hgntdg hgbtsg hgbtgg hgbtpg hgbtdg hghpg hgpdg hz hP hD hS hl hend
    | 7, _ =>
      refine lv_tableIn (tgt := 501) (off := 468) hx hb dL_law_33 (by decide) (by decide) (by decide) (by decide) ?_
      exact lc_7 hx hb hml hown hts hX hbl hbA hK hA hRo hgntsg hgntgg hgntpg hgntdg hgbtsg hgbtgg hgbtpg hgbtdg hghpg hgpdg hz hP hD hS hl hend
    | 8, _ =>
      refine lv_tableIn (tgt := 544) (off := 511) hx hb dL_law_33 (by decide) (by decide) (by decide) (by decide) ?_
      exact lc_8 hx hb hml hown hts hX hbl hbA hK hA hRo hgntsg hgntgg hgntpg hgntdg hgbtsg hgbtgg hgbtpg hgbtdg hghpg hgpdg hz hP hD hS hl hend
    | 9, _ =>
      refine lv_tableIn (tgt := 593) (off := 560) hx hb dL_law_33 (by decide) (by decide) (by decide) (by decide) ?_
      exact lc_9 hx hb hml hown hts hX hbl hbA hK hA hRo hgntsg hgntgg hgntpg hgntdg hgbtsg hgbtgg hgbtpg hgbtdg hghpg hgpdg hz hP hD hS hl hend
    | 10, _ =>
      refine lv_tableIn (tgt := 626) (off := 593) hx hb dL_law_33 (by decide) (by decide) (by decide) (by decide) ?_
      exact lc_10 hx hb hml hown hts hX hbl hbA hK hA hRo hgntsg hgntgg hgntpg hgntdg hgbtsg hgbtgg hgbtpg hgbtdg hghpg hgpdg hz hP hD hS hl hend
    | 11, _ =>
      refine lv_tableIn (tgt := 649) (off := 616) hx hb dL_law_33 (by decide) (by decide) (by decide) (by decide) ?_
      exact lc_11 hx hb hml hown hts hX hbl hbA hK hA hRo hgntsg hgntgg hgntpg hgntdg hgbtsg hgbtgg hgbtpg hgbtdg hghpg hgpdg hz hP hD hS hl hend
    | 12, _ =>
      refine lv_tableIn (tgt := 692) (off := 659) hx hb dL_law_33 (by decide) (by decide) (by decide) (by decide) ?_
      exact lc_12 hx hb hml hown hts hX hbl hbA hK hA hRo hgntsg hgntgg hgntpg hgntdg hgbtsg hgbtgg hgbtpg hgbtdg hghpg hgpdg hz hP hD hS hl hend
    | 13, _ =>
      refine lv_tableIn (tgt := 735) (off := 702) hx hb dL_law_33 (by decide) (by decide) (by decide) (by decide) ?_
      exact lc_13 hx hb hml hown hts hX hbl hbA hK hA hRo hgntsg hgntgg hgntpg hgntdg hgbtsg hgbtgg hgbtpg hgbtdg hghpg hgpdg hz hP hD hS hl hend
    | 14, _ =>
      refine lv_tableIn (tgt := 768) (off := 735) hx hb dL_law_33 (by decide) (by decide) (by decide) (by decide) ?_
      exact lc_14 hx hb hml hown hts hX hbl hbA hK hA hRo hgntsg hgntgg hgntpg hgntdg hgbtsg hgbtgg hgbtpg hgbtdg hghpg hgpdg hz hP hD hS hl hend
    | 15, _ =>
      refine lv_tableIn (tgt := 831) (off := 798) hx hb dL_law_33 (by decide) (by decide) (by decide) (by decide) ?_
      exact lc_15 hx hb hml hown hts hX hbl hbA hK hA hRo hgntsg hgntgg hgntpg hgntdg hgbtsg hgbtgg hgbtpg hgbtdg hghpg hgpdg hz hP hD hS hl hend
    | 16, _ =>
      refine lv_tableIn (tgt := 874) (off := 841) hx hb dL_law_33 (by decide) (by decide) (by decide) (by decide) ?_
      exact lc_16 hx hb hml hown hts hX hbl hbA hK hA hRo hgntsg hgntgg hgntpg hgntdg hgbtsg hgbtgg hgbtpg hgbtdg hghpg hgpdg hz hP hD hS hl hend
    | 17, _ =>
      refine lv_tableIn (tgt := 897) (off := 864) hx hb dL_law_33 (by decide) (by decide) (by decide) (by decide) ?_
      exact lc_17 hx hb hml hown hts hX hbl hbA hK hA hRo hgntsg hgntgg hgntpg hgntdg hgbtsg hgbtgg hgbtpg hgbtdg hghpg hgpdg hz hP hD hS hl hend
    | 18, _ =>
      refine lv_tableIn (tgt := 930) (off := 897) hx hb dL_law_33 (by decide) (by decide) (by decide) (by decide) ?_
      exact lc_18 hx hb hml hown hts hX hbl hbA hK hA hRo hgntsg hgntgg hgntpg hgntdg hgbtsg hgbtgg hgbtpg hgbtdg hghpg hgpdg hz hP hD hS hl hend
    | 19, _ =>
      refine lv_tableIn (tgt := 963) (off := 930) hx hb dL_law_33 (by decide) (by decide) (by decide) (by decide) ?_
      exact lc_19 hx hb hml hown hts hX hbl hbA hK hA hRo hgntsg hgntgg hgntpg hgntdg hgbtsg hgbtgg hgbtpg hgbtdg hghpg hgpdg hz hP hD hS hl hend
    | 20, _ =>
      refine lv_tableIn (tgt := 1006) (off := 973) hx hb dL_law_33 (by decide) (by decide) (by decide) (by decide) ?_
      exact lc_20 hx hb hml hown hts hX hbl hbA hK hA hRo hgntsg hgntgg hgntpg hgntdg hgbtsg hgbtgg hgbtpg hgbtdg hghpg hgpdg hz hP hD hS hl hend
    | 21, _ =>
      refine lv_tableIn (tgt := 1029) (off := 996) hx hb dL_law_33 (by decide) (by decide) (by decide) (by decide) ?_
      exact lc_21 hx hb hml hown hts hX hbl hbA hK hA hRo hgntsg hgntgg hgntpg hgntdg hgbtsg hgbtgg hgbtpg hgbtdg hghpg hgpdg hz hP hD hS hl hend
    | 22, _ =>
      refine lv_tableIn (tgt := 1072) (off := 1039) hx hb dL_law_33 (by decide) (by decide) (by decide) (by decide) ?_
      exact lc_22 hx hb hml hown hts hX hbl hbA hK hA hRo hgntsg hgntgg hgntpg hgntdg hgbtsg hgbtgg hgbtpg hgbtdg hghpg hgpdg hz hP hD hS hl hend
    | 23, _ =>
      refine lv_tableIn (tgt := 1105) (off := 1072) hx hb dL_law_33 (by decide) (by decide) (by decide) (by decide) ?_
      exact lc_23 hx hb hml hown hts hX hbl hbA hK hA hRo hgntsg hgntgg hgntpg hgntdg hgbtsg hgbtgg hgbtpg hgbtdg hghpg hgpdg hz hP hD hS hl hend
    | 24, _ =>
      refine lv_tableIn (tgt := 1128) (off := 1095) hx hb dL_law_33 (by decide) (by decide) (by decide) (by decide) ?_
      exact lc_24 hx hb hml hown hts hX hbl hbA hK hA hRo hgntsg hgntgg hgntpg hgntdg hgbtsg hgbtgg hgbtpg hgbtdg hghpg hgpdg hz hP hD hS hl hend
    | 25, _ =>
      refine lv_tableIn (tgt := 1151) (off := 1118) hx hb dL_law_33 (by decide) (by decide) (by decide) (by decide) ?_
      exact lc_25 hx hb hml hown hts hX hbl hbA hK hA hRo hgntsg hgntgg hgntpg hgntdg hgbtsg hgbtgg hgbtpg hgbtdg hghpg hgpdg hz hP hD hS hl hend
    | 26, _ =>
      refine lv_tableIn (tgt := 1164) (off := 1131) hx hb dL_law_33 (by decide) (by decide) (by decide) (by decide) ?_
      exact lc_26 hx hb hml hown hts hX hbl hbA hK hA hRo hgntsg hgntgg hgntpg hgntdg hgbtsg hgbtgg hgbtpg hgbtdg hghpg hgpdg hz hP hD hS hl hend
    | 27, _ =>
      refine lv_tableIn (tgt := 1197) (off := 1164) hx hb dL_law_33 (by decide) (by decide) (by decide) (by decide) ?_
      exact lc_27 hx hb hml hown hts hX hbl hbA hK hA hRo hgntsg hgntgg hgntpg hgntdg hgbtsg hgbtgg hgbtpg hgbtdg hghpg hgpdg hz hP hD hS hl hend
    | 28, _ =>
      refine lv_tableIn (tgt := 1220) (off := 1187) hx hb dL_law_33 (by decide) (by decide) (by decide) (by decide) ?_
      exact lc_28 hx hb hml hown hts hX hbl hbA hK hA hRo hgntsg hgntgg hgntpg hgntdg hgbtsg hgbtgg hgbtpg hgbtdg hghpg hgpdg hz hP hD hS hl hend
    | 29, _ =>
      refine lv_tableIn (tgt := 1243) (off := 1210) hx hb dL_law_33 (by decide) (by decide) (by decide) (by decide) ?_
      exact lc_29 hx hb hml hown hts hX hbl hbA hK hA hRo hgntsg hgntgg hgntpg hgntdg hgbtsg hgbtgg hgbtpg hgbtdg hghpg hgpdg hz hP hD hS hl hend
    | 30, _ =>
      refine lv_tableIn (tgt := 1256) (off := 1223) hx hb dL_law_33 (by decide) (by decide) (by decide) (by decide) ?_
      exact lc_30 hx hb hml hown hts hX hbl hbA hK hA hRo hgntsg hgntgg hgntpg hgntdg hgbtsg hgbtgg hgbtpg hgbtdg hghpg hgpdg hz hP hD hS hl hend
    | 31, _ =>
      refine lv_tableIn (tgt := 1289) (off := 1256) hx hb dL_law_33 (by decide) (by decide) (by decide) (by decide) ?_
      exact lc_31 hx hb hml hown hts hX hbl hbA hK hA hRo hgntsg hgntgg hgntpg hgntdg hgbtsg hgbtgg hgbtpg hgbtdg hghpg hgpdg hz hP hD hS hl hend
    | 32, _ =>
      refine lv_tableIn (tgt := 1322) (off := 1289) hx hb dL_law_33 (by decide) (by decide) (by decide) (by decide) ?_
      exact lc_32 hx hb hml hown hts hX hbl hbA hK hA hRo hgntsg hgntgg hgntpg hgntdg hgbtsg hgbtgg hgbtpg hgbtdg hghpg hgpdg hz hP hD hS hl hend
    | 33, _ =>
      refine lv_tableIn (tgt := 1335) (off := 1302) hx hb dL_law_33 (by decide) (by decide) (by decide) (by decide) ?_
      exact lc_33 hx hb hml hown hts hX hbl hbA hK hA hRo hgntsg hgntgg hgntpg hgntdg hgbtsg hgbtgg hgbtpg hgbtdg hghpg hgpdg hz hP hD hS hl hend
    | 34, _ =>
      refine lv_tableIn (tgt := 1348) (off := 1315) hx hb dL_law_33 (by decide) (by decide) (by decide) (by decide) ?_
      exact lc_34 hx hb hml hown hts hX hbl hbA hK hA hRo hgntsg hgntgg hgntpg hgntdg hgbtsg hgbtgg hgbtpg hgbtdg hghpg hgpdg hz hP hD hS hl hend
    | 35, _ =>
      refine lv_tableIn (tgt := 1371) (off := 1338) hx hb dL_law_33 (by decide) (by decide) (by decide) (by decide) ?_
      exact lc_35 hx hb hml hown hts hX hbl hbA hK hA hRo hgntsg hgntgg hgntpg hgntdg hgbtsg hgbtgg hgbtpg hgbtdg hghpg hgpdg hz hP hD hS hl hend
    | 36, _ =>
      refine lv_tableIn (tgt := 1384) (off := 1351) hx hb dL_law_33 (by decide) (by decide) (by decide) (by decide) ?_
      exact lc_36 hx hb hml hown hts hX hbl hbA hK hA hRo hgntsg hgntgg hgntpg hgntdg hgbtsg hgbtgg hgbtpg hgbtdg hghpg hgpdg hz hP hD hS hl hend
    | 37, _ =>
      refine lv_tableIn (tgt := 1397) (off := 1364) hx hb dL_law_33 (by decide) (by decide) (by decide) (by decide) ?_
      exact lc_37 hx hb hml hown hts hX hbl hbA hK hA hRo hgntsg hgntgg hgntpg hgntdg hgbtsg hgbtgg hgbtpg hgbtdg hghpg hgpdg hz hP hD hS hl hend
    | 38, _ =>
      refine lv_tableIn (tgt := 1420) (off := 1387) hx hb dL_law_33 (by decide) (by decide) (by decide) (by decide) ?_
      exact lc_38 hx hb hml hown hts hX hbl hbA hK hA hRo hgntsg hgntgg hgntpg hgntdg hgbtsg hgbtgg hgbtpg hgbtdg hghpg hgpdg hz hP hD hS hl hend
    | 39, _ =>
      refine lv_tableIn (tgt := 1433) (off := 1400) hx hb dL_law_33 (by decide) (by decide) (by decide) (by decide) ?_
      exact lc_39 hx hb hml hown hts hX hbl hbA hK hA hRo hgntsg hgntgg hgntpg hgntdg hgbtsg hgbtgg hgbtpg hgbtdg hghpg hgpdg hz hP hD hS hl hend
    | 40, _ =>
      refine lv_tableIn (tgt := 1446) (off := 1413) hx hb dL_law_33 (by decide) (by decide) (by decide) (by decide) ?_
      exact lc_40 hx hb hml hown hts hX hbl hbA hK hA hRo hgntsg hgntgg hgntpg hgntdg hgbtsg hgbtgg hgbtpg hgbtdg hghpg hgpdg hz hP hD hS hl hend
    | n + 41, h => exact absurd h (by omega)
  · refine lv_tableOut (tgt := 1469) hx hb dL_law_33 (Or.inr (by rw [nI_toInt (by omega)]; omega)) (by decide) ?_
    refine W.widen (k := 1000) (n := 100000) (by omega) (by omega) ?_
    exact hend _ _ _ hS hl
