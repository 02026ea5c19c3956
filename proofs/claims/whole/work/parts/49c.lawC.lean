/-! the law, call by call -/
section LC
variable {p : Program} {l : Launch} {e : Env} {s : State} {m : MethodId} {below : List Frame} {meth : Method} {c : Code} {b L : Nat} {xs : Nat → Int32} {Z : State → Prop} {G : GD} {h0 : Nat} {a : Nat → Nat} {k : Nat}
set_option maxRecDepth 100000 in
set_option maxHeartbeats 4000000 in
theorem law_worst (hE : LE p s m meth c b L xs G) (hk : 6 * k + 6 ≤ L) (hn : Nxt p l e s m below meth c b Z G h0 a 912 k) : Nxt p l e s m below meth c b Z G h0 a 648 k := by
  intro tx nw tr un kp wy rm pl dr vt vn vr adu hvu nu adk hvk nk vy vm vp vd v q H locs ls hP hD hS hl hR
  obtain ⟨hx, hb, hml, hown, hts, hXs, hbl, hX, hL⟩ := hE
  have hbA : ¬ (fun q : Nat => s.heap.size ≤ q) b := Nat.not_le.mpr hbl
  obtain ⟨pd0, pd8, pl0, pl4, pr0, pr6, pen, pto, pat, pln0, pu0, pu8, ⟨hun, hnu8⟩, ⟨hkn, hnk2⟩, ⟨htn, ht2, ht6⟩, ⟨hln, hl1, hl4⟩⟩ := hR.pre
  obtain ⟨cp1, cp2, cp3⟩ := hR.cpre
  obtain ⟨len, hlen, h300⟩ := hR.len
  refine lv_aload_n hx hb dL_law_648 rfl (lv_at hl 2 rfl) ?_
  refine lv_aload_n hx hb dL_law_649 rfl (lv_at hl 3 rfl) ?_
  refine lv_iload_n hx hb dL_law_650 rfl (lv_at hl 0 rfl) ?_
  refine lv_iconst (v := 1) hx hb dL_law_651 (by decide) ?_
  refine lv_iadd hx hb dL_law_652 ?_
  refine va_sld hx hb hXs hbl hbA hS (show vp_in (nI (6 * k) + 1) L from ixs hL hk (j := 1) (by decide)) dL_law_653 ?_
  refine lv_aload_n hx hb dL_law_654 rfl (lv_at hl 3 rfl) ?_
  refine lv_iload_n hx hb dL_law_655 rfl (lv_at hl 0 rfl) ?_
  refine lv_iconst (v := 2) hx hb dL_law_656 (by decide) ?_
  refine lv_iadd hx hb dL_law_657 ?_
  refine va_sld hx hb hXs hbl hbA hS (show vp_in (nI (6 * k) + 2) L from ixs hL hk (j := 2) (by decide)) dL_law_658 ?_
  refine kcV_s hx hb hml hown hts hX hP hD hS (c_X6_worst l G h0 tx nw tr un kp wy rm pl dr (xs (nI (6 * k) + 1).toNatClampNeg) (xs (nI (6 * k) + 2).toNatClampNeg) vp vn vr) gL_law_X6_worst 2 rfl rfl rfl hd_X6_worst ⟨Nat.le_of_ble_eq_true rfl, Nat.le_of_ble_eq_true rfl⟩ [0, 8, 2, 3] (by decide) rfl 0 rfl rfl rfl hl.1 rfl rfl (Nat.le_of_ble_eq_true rfl) dL_law_659 ⟨Nat.le_of_ble_eq_true rfl, Nat.le_of_ble_eq_true rfl⟩ (fun r_ bc_ hq_ H locs hP hD hS => ?_)
  obtain ⟨rfl, rfl⟩ := hq_
  have hP : PP G [bX6 h0 (tx 0) (nw 0) (tr 0) (un 0) (kp 0) (wy 0) (rm 0) (pl 0) (dr 0), bX4 tx G vt, bX0 nw G vn, bX0 tr G (cnd (okWorst vp (xs (nI (6 * k) + 1).toNatClampNeg) (xs (nI (6 * k) + 2).toNatClampNeg)) (f_beh vp vn vr (xs (nI (6 * k) + 1).toNatClampNeg) (xs (nI (6 * k) + 2).toNatClampNeg)) vr), bX1 un G 8 adu hvu nu, bX1 kp G 2 adk hvk nk, bX5 wy G vy, bX3 rm G vm, bX2 pl G vp, bX2 dr G vd, bX7 a G v] H := hP
  have hD : DD (fun q : Nat => s.heap.size ≤ q) [bX6 h0 (tx 0) (nw 0) (tr 0) (un 0) (kp 0) (wy 0) (rm 0) (pl 0) (dr 0), bX4 tx G vt, bX0 nw G vn, bX0 tr G (cnd (okWorst vp (xs (nI (6 * k) + 1).toNatClampNeg) (xs (nI (6 * k) + 2).toNatClampNeg)) (f_beh vp vn vr (xs (nI (6 * k) + 1).toNatClampNeg) (xs (nI (6 * k) + 2).toNatClampNeg)) vr), bX1 un G 8 adu hvu nu, bX1 kp G 2 adk hvk nk, bX5 wy G vy, bX3 rm G vm, bX2 pl G vp, bX2 dr G vd, bX7 a G v] := hD
  refine lv_aload_n hx hb dL_law_662 rfl (lv_at hl 1 rfl) ?_
  refine lv_aload_n hx hb dL_law_663 rfl (lv_at hl 3 rfl) ?_
  refine lv_iload_n hx hb dL_law_664 rfl (lv_at hl 0 rfl) ?_
  refine lv_iconst (v := 1) hx hb dL_law_665 (by decide) ?_
  refine lv_iadd hx hb dL_law_666 ?_
  refine va_sld hx hb hXs hbl hbA hS (show vp_in (nI (6 * k) + 1) L from ixs hL hk (j := 1) (by decide)) dL_law_667 ?_
  refine lv_aload_n hx hb dL_law_668 rfl (lv_at hl 3 rfl) ?_
  refine lv_iload_n hx hb dL_law_669 rfl (lv_at hl 0 rfl) ?_
  refine lv_iconst (v := 2) hx hb dL_law_670 (by decide) ?_
  refine lv_iadd hx hb dL_law_671 ?_
  refine va_sld hx hb hXs hbl hbA hS (show vp_in (nI (6 * k) + 2) L from ixs hL hk (j := 2) (by decide)) dL_law_672 ?_
  refine kcV_s hx hb hml hown hts hX hP hD hS (c_X7_worst l G a v (xs (nI (6 * k) + 1).toNatClampNeg) (xs (nI (6 * k) + 2).toNatClampNeg) pd0 pd8 pl0 pl4 pto) gL_law_X7_worst 2 rfl rfl rfl hd_X7_worst ⟨Nat.le_of_ble_eq_true rfl, Nat.le_of_ble_eq_true rfl⟩ [10] (by decide) rfl 10 rfl rfl rfl hl.1 rfl rfl (Nat.le_of_ble_eq_true rfl) dL_law_673 ⟨Nat.le_of_ble_eq_true rfl, Nat.le_of_ble_eq_true rfl⟩ (fun r_ bc_ hq_ H locs hP hD hS => ?_)
  obtain ⟨rfl, rfl⟩ := hq_
  have hP : PP G [bX6 h0 (tx 0) (nw 0) (tr 0) (un 0) (kp 0) (wy 0) (rm 0) (pl 0) (dr 0), bX4 tx G vt, bX0 nw G vn, bX0 tr G (cnd (okWorst vp (xs (nI (6 * k) + 1).toNatClampNeg) (xs (nI (6 * k) + 2).toNatClampNeg)) (f_beh vp vn vr (xs (nI (6 * k) + 1).toNatClampNeg) (xs (nI (6 * k) + 2).toNatClampNeg)) vr), bX1 un G 8 adu hvu nu, bX1 kp G 2 adk hvk nk, bX5 wy G vy, bX3 rm G vm, bX2 pl G vp, bX2 dr G vd, bX7 a G (g_worstV v (xs (nI (6 * k) + 1).toNatClampNeg) (xs (nI (6 * k) + 2).toNatClampNeg))] H := hP
  have hD : DD (fun q : Nat => s.heap.size ≤ q) [bX6 h0 (tx 0) (nw 0) (tr 0) (un 0) (kp 0) (wy 0) (rm 0) (pl 0) (dr 0), bX4 tx G vt, bX0 nw G vn, bX0 tr G (cnd (okWorst vp (xs (nI (6 * k) + 1).toNatClampNeg) (xs (nI (6 * k) + 2).toNatClampNeg)) (f_beh vp vn vr (xs (nI (6 * k) + 1).toNatClampNeg) (xs (nI (6 * k) + 2).toNatClampNeg)) vr), bX1 un G 8 adu hvu nu, bX1 kp G 2 adk hvk nk, bX5 wy G vy, bX3 rm G vm, bX2 pl G vp, bX2 dr G vd, bX7 a G (g_worstV v (xs (nI (6 * k) + 1).toNatClampNeg) (xs (nI (6 * k) + 2).toNatClampNeg))] := hD
  refine lv_icmp_eq (tgt := 912) hx hb dL_law_676 (by decide) (fun _ => ?_) (fun c_ => absurd ?_ c_)
  · exact hn tx nw tr un kp wy rm pl dr vt vn (cnd (okWorst vp (xs (nI (6 * k) + 1).toNatClampNeg) (xs (nI (6 * k) + 2).toNatClampNeg)) (f_beh vp vn vr (xs (nI (6 * k) + 1).toNatClampNeg) (xs (nI (6 * k) + 2).toNatClampNeg)) vr) adu hvu nu adk hvk nk vy vm vp vd (g_worstV v (xs (nI (6 * k) + 1).toNatClampNeg) (xs (nI (6 * k) + 2).toNatClampNeg)) q H locs ls hP hD hS hl (hR.worst (xs (nI (6 * k) + 1).toNatClampNeg) (xs (nI (6 * k) + 2).toNatClampNeg))
  · exact a_worst hR vr (xs (nI (6 * k) + 1).toNatClampNeg) (xs (nI (6 * k) + 2).toNatClampNeg)
set_option maxRecDepth 100000 in
set_option maxHeartbeats 4000000 in
theorem law_stop (hE : LE p s m meth c b L xs G) (hk : 6 * k + 6 ≤ L) (hn : Nxt p l e s m below meth c b Z G h0 a 912 k) : Nxt p l e s m below meth c b Z G h0 a 681 k := by
  intro tx nw tr un kp wy rm pl dr vt vn vr adu hvu nu adk hvk nk vy vm vp vd v q H locs ls hP hD hS hl hR
  obtain ⟨hx, hb, hml, hown, hts, hXs, hbl, hX, hL⟩ := hE
  have hbA : ¬ (fun q : Nat => s.heap.size ≤ q) b := Nat.not_le.mpr hbl
  obtain ⟨pd0, pd8, pl0, pl4, pr0, pr6, pen, pto, pat, pln0, pu0, pu8, ⟨hun, hnu8⟩, ⟨hkn, hnk2⟩, ⟨htn, ht2, ht6⟩, ⟨hln, hl1, hl4⟩⟩ := hR.pre
  obtain ⟨cp1, cp2, cp3⟩ := hR.cpre
  obtain ⟨len, hlen, h300⟩ := hR.len
  refine lv_aload_n hx hb dL_law_681 rfl (lv_at hl 2 rfl) ?_
  refine lv_aload_n hx hb dL_law_682 rfl (lv_at hl 3 rfl) ?_
  refine lv_iload_n hx hb dL_law_683 rfl (lv_at hl 0 rfl) ?_
  refine lv_iconst (v := 1) hx hb dL_law_684 (by decide) ?_
  refine lv_iadd hx hb dL_law_685 ?_
  refine va_sld hx hb hXs hbl hbA hS (show vp_in (nI (6 * k) + 1) L from ixs hL hk (j := 1) (by decide)) dL_law_686 ?_
  refine lv_aload_n hx hb dL_law_687 rfl (lv_at hl 3 rfl) ?_
  refine lv_iload_n hx hb dL_law_688 rfl (lv_at hl 0 rfl) ?_
  refine lv_iconst (v := 2) hx hb dL_law_689 (by decide) ?_
  refine lv_iadd hx hb dL_law_690 ?_
  refine va_sld hx hb hXs hbl hbA hS (show vp_in (nI (6 * k) + 2) L from ixs hL hk (j := 2) (by decide)) dL_law_691 ?_
  refine lv_aload_n hx hb dL_law_692 rfl (lv_at hl 3 rfl) ?_
  refine lv_iload_n hx hb dL_law_693 rfl (lv_at hl 0 rfl) ?_
  refine lv_iconst (v := 3) hx hb dL_law_694 (by decide) ?_
  refine lv_iadd hx hb dL_law_695 ?_
  refine va_sld hx hb hXs hbl hbA hS (show vp_in (nI (6 * k) + 3) L from ixs hL hk (j := 3) (by decide)) dL_law_696 ?_
  refine lv_aload_n hx hb dL_law_697 rfl (lv_at hl 3 rfl) ?_
  refine lv_iload_n hx hb dL_law_698 rfl (lv_at hl 0 rfl) ?_
  refine lv_iconst (v := 4) hx hb dL_law_699 (by decide) ?_
  refine lv_iadd hx hb dL_law_700 ?_
  refine va_sld hx hb hXs hbl hbA hS (show vp_in (nI (6 * k) + 4) L from ixs hL hk (j := 4) (by decide)) dL_law_701 ?_
  refine kcV_s hx hb hml hown hts hX hP hD hS (c_X6_stop l G h0 tx nw tr un kp wy rm pl dr (xs (nI (6 * k) + 1).toNatClampNeg) (xs (nI (6 * k) + 2).toNatClampNeg) (xs (nI (6 * k) + 3).toNatClampNeg) (xs (nI (6 * k) + 4).toNatClampNeg) vp vn vr) gL_law_X6_stop 4 rfl rfl rfl hd_X6_stop ⟨Nat.le_of_ble_eq_true rfl, Nat.le_of_ble_eq_true rfl⟩ [0, 8, 2, 3] (by decide) rfl 0 rfl rfl rfl hl.1 rfl rfl (Nat.le_of_ble_eq_true rfl) dL_law_702 ⟨Nat.le_of_ble_eq_true rfl, Nat.le_of_ble_eq_true rfl⟩ (fun r_ bc_ hq_ H locs hP hD hS => ?_)
  obtain ⟨rfl, rfl⟩ := hq_
  have hP : PP G [bX6 h0 (tx 0) (nw 0) (tr 0) (un 0) (kp 0) (wy 0) (rm 0) (pl 0) (dr 0), bX4 tx G vt, bX0 nw G vn, bX0 tr G (cnd (okStop vp (xs (nI (6 * k) + 1).toNatClampNeg) (xs (nI (6 * k) + 2).toNatClampNeg) (xs (nI (6 * k) + 3).toNatClampNeg) (xs (nI (6 * k) + 4).toNatClampNeg)) (f_stop vp vn vr (xs (nI (6 * k) + 1).toNatClampNeg) (xs (nI (6 * k) + 2).toNatClampNeg) (xs (nI (6 * k) + 3).toNatClampNeg) (xs (nI (6 * k) + 4).toNatClampNeg)).2 vr), bX1 un G 8 adu hvu nu, bX1 kp G 2 adk hvk nk, bX5 wy G vy, bX3 rm G vm, bX2 pl G vp, bX2 dr G vd, bX7 a G v] H := hP
  have hD : DD (fun q : Nat => s.heap.size ≤ q) [bX6 h0 (tx 0) (nw 0) (tr 0) (un 0) (kp 0) (wy 0) (rm 0) (pl 0) (dr 0), bX4 tx G vt, bX0 nw G vn, bX0 tr G (cnd (okStop vp (xs (nI (6 * k) + 1).toNatClampNeg) (xs (nI (6 * k) + 2).toNatClampNeg) (xs (nI (6 * k) + 3).toNatClampNeg) (xs (nI (6 * k) + 4).toNatClampNeg)) (f_stop vp vn vr (xs (nI (6 * k) + 1).toNatClampNeg) (xs (nI (6 * k) + 2).toNatClampNeg) (xs (nI (6 * k) + 3).toNatClampNeg) (xs (nI (6 * k) + 4).toNatClampNeg)).2 vr), bX1 un G 8 adu hvu nu, bX1 kp G 2 adk hvk nk, bX5 wy G vy, bX3 rm G vm, bX2 pl G vp, bX2 dr G vd, bX7 a G v] := hD
  refine lv_aload_n hx hb dL_law_705 rfl (lv_at hl 1 rfl) ?_
  refine lv_aload_n hx hb dL_law_706 rfl (lv_at hl 3 rfl) ?_
  refine lv_iload_n hx hb dL_law_707 rfl (lv_at hl 0 rfl) ?_
  refine lv_iconst (v := 1) hx hb dL_law_708 (by decide) ?_
  refine lv_iadd hx hb dL_law_709 ?_
  refine va_sld hx hb hXs hbl hbA hS (show vp_in (nI (6 * k) + 1) L from ixs hL hk (j := 1) (by decide)) dL_law_710 ?_
  refine lv_aload_n hx hb dL_law_711 rfl (lv_at hl 3 rfl) ?_
  refine lv_iload_n hx hb dL_law_712 rfl (lv_at hl 0 rfl) ?_
  refine lv_iconst (v := 2) hx hb dL_law_713 (by decide) ?_
  refine lv_iadd hx hb dL_law_714 ?_
  refine va_sld hx hb hXs hbl hbA hS (show vp_in (nI (6 * k) + 2) L from ixs hL hk (j := 2) (by decide)) dL_law_715 ?_
  refine lv_aload_n hx hb dL_law_716 rfl (lv_at hl 3 rfl) ?_
  refine lv_iload_n hx hb dL_law_717 rfl (lv_at hl 0 rfl) ?_
  refine lv_iconst (v := 3) hx hb dL_law_718 (by decide) ?_
  refine lv_iadd hx hb dL_law_719 ?_
  refine va_sld hx hb hXs hbl hbA hS (show vp_in (nI (6 * k) + 3) L from ixs hL hk (j := 3) (by decide)) dL_law_720 ?_
  refine lv_aload_n hx hb dL_law_721 rfl (lv_at hl 3 rfl) ?_
  refine lv_iload_n hx hb dL_law_722 rfl (lv_at hl 0 rfl) ?_
  refine lv_iconst (v := 4) hx hb dL_law_723 (by decide) ?_
  refine lv_iadd hx hb dL_law_724 ?_
  refine va_sld hx hb hXs hbl hbA hS (show vp_in (nI (6 * k) + 4) L from ixs hL hk (j := 4) (by decide)) dL_law_725 ?_
  refine kcV_s hx hb hml hown hts hX hP hD hS (c_X7_stop l G a v (xs (nI (6 * k) + 1).toNatClampNeg) (xs (nI (6 * k) + 2).toNatClampNeg) (xs (nI (6 * k) + 3).toNatClampNeg) (xs (nI (6 * k) + 4).toNatClampNeg) pd0 pd8 pl0 pl4 pto) gL_law_X7_stop 4 rfl rfl rfl hd_X7_stop ⟨Nat.le_of_ble_eq_true rfl, Nat.le_of_ble_eq_true rfl⟩ [10] (by decide) rfl 10 rfl rfl rfl hl.1 rfl rfl (Nat.le_of_ble_eq_true rfl) dL_law_726 ⟨Nat.le_of_ble_eq_true rfl, Nat.le_of_ble_eq_true rfl⟩ (fun r_ bc_ hq_ H locs hP hD hS => ?_)
  obtain ⟨rfl, rfl⟩ := hq_
  have hP : PP G [bX6 h0 (tx 0) (nw 0) (tr 0) (un 0) (kp 0) (wy 0) (rm 0) (pl 0) (dr 0), bX4 tx G vt, bX0 nw G vn, bX0 tr G (cnd (okStop vp (xs (nI (6 * k) + 1).toNatClampNeg) (xs (nI (6 * k) + 2).toNatClampNeg) (xs (nI (6 * k) + 3).toNatClampNeg) (xs (nI (6 * k) + 4).toNatClampNeg)) (f_stop vp vn vr (xs (nI (6 * k) + 1).toNatClampNeg) (xs (nI (6 * k) + 2).toNatClampNeg) (xs (nI (6 * k) + 3).toNatClampNeg) (xs (nI (6 * k) + 4).toNatClampNeg)).2 vr), bX1 un G 8 adu hvu nu, bX1 kp G 2 adk hvk nk, bX5 wy G vy, bX3 rm G vm, bX2 pl G vp, bX2 dr G vd, bX7 a G (g_stopV v (xs (nI (6 * k) + 1).toNatClampNeg) (xs (nI (6 * k) + 2).toNatClampNeg) (xs (nI (6 * k) + 3).toNatClampNeg) (xs (nI (6 * k) + 4).toNatClampNeg))] H := hP
  have hD : DD (fun q : Nat => s.heap.size ≤ q) [bX6 h0 (tx 0) (nw 0) (tr 0) (un 0) (kp 0) (wy 0) (rm 0) (pl 0) (dr 0), bX4 tx G vt, bX0 nw G vn, bX0 tr G (cnd (okStop vp (xs (nI (6 * k) + 1).toNatClampNeg) (xs (nI (6 * k) + 2).toNatClampNeg) (xs (nI (6 * k) + 3).toNatClampNeg) (xs (nI (6 * k) + 4).toNatClampNeg)) (f_stop vp vn vr (xs (nI (6 * k) + 1).toNatClampNeg) (xs (nI (6 * k) + 2).toNatClampNeg) (xs (nI (6 * k) + 3).toNatClampNeg) (xs (nI (6 * k) + 4).toNatClampNeg)).2 vr), bX1 un G 8 adu hvu nu, bX1 kp G 2 adk hvk nk, bX5 wy G vy, bX3 rm G vm, bX2 pl G vp, bX2 dr G vd, bX7 a G (g_stopV v (xs (nI (6 * k) + 1).toNatClampNeg) (xs (nI (6 * k) + 2).toNatClampNeg) (xs (nI (6 * k) + 3).toNatClampNeg) (xs (nI (6 * k) + 4).toNatClampNeg))] := hD
  refine lv_icmp_eq (tgt := 912) hx hb dL_law_729 (by decide) (fun _ => ?_) (fun c_ => absurd ?_ c_)
  · exact hn tx nw tr un kp wy rm pl dr vt vn (cnd (okStop vp (xs (nI (6 * k) + 1).toNatClampNeg) (xs (nI (6 * k) + 2).toNatClampNeg) (xs (nI (6 * k) + 3).toNatClampNeg) (xs (nI (6 * k) + 4).toNatClampNeg)) (f_stop vp vn vr (xs (nI (6 * k) + 1).toNatClampNeg) (xs (nI (6 * k) + 2).toNatClampNeg) (xs (nI (6 * k) + 3).toNatClampNeg) (xs (nI (6 * k) + 4).toNatClampNeg)).2 vr) adu hvu nu adk hvk nk vy vm vp vd (g_stopV v (xs (nI (6 * k) + 1).toNatClampNeg) (xs (nI (6 * k) + 2).toNatClampNeg) (xs (nI (6 * k) + 3).toNatClampNeg) (xs (nI (6 * k) + 4).toNatClampNeg)) q H locs ls hP hD hS hl (hR.stop (xs (nI (6 * k) + 1).toNatClampNeg) (xs (nI (6 * k) + 2).toNatClampNeg) (xs (nI (6 * k) + 3).toNatClampNeg) (xs (nI (6 * k) + 4).toNatClampNeg))
  · exact a_stop hR vr (xs (nI (6 * k) + 1).toNatClampNeg) (xs (nI (6 * k) + 2).toNatClampNeg) (xs (nI (6 * k) + 3).toNatClampNeg) (xs (nI (6 * k) + 4).toNatClampNeg)
set_option maxRecDepth 100000 in
set_option maxHeartbeats 4000000 in
theorem law_how (hE : LE p s m meth c b L xs G) (hk : 6 * k + 6 ≤ L) (hn : Nxt p l e s m below meth c b Z G h0 a 912 k) : Nxt p l e s m below meth c b Z G h0 a 734 k := by
  intro tx nw tr un kp wy rm pl dr vt vn vr adu hvu nu adk hvk nk vy vm vp vd v q H locs ls hP hD hS hl hR
  obtain ⟨hx, hb, hml, hown, hts, hXs, hbl, hX, hL⟩ := hE
  have hbA : ¬ (fun q : Nat => s.heap.size ≤ q) b := Nat.not_le.mpr hbl
  obtain ⟨pd0, pd8, pl0, pl4, pr0, pr6, pen, pto, pat, pln0, pu0, pu8, ⟨hun, hnu8⟩, ⟨hkn, hnk2⟩, ⟨htn, ht2, ht6⟩, ⟨hln, hl1, hl4⟩⟩ := hR.pre
  obtain ⟨cp1, cp2, cp3⟩ := hR.cpre
  obtain ⟨len, hlen, h300⟩ := hR.len
  refine lv_aload_n hx hb dL_law_734 rfl (lv_at hl 2 rfl) ?_
  refine lv_aload_n hx hb dL_law_735 rfl (lv_at hl 3 rfl) ?_
  refine lv_iload_n hx hb dL_law_736 rfl (lv_at hl 0 rfl) ?_
  refine lv_iconst (v := 1) hx hb dL_law_737 (by decide) ?_
  refine lv_iadd hx hb dL_law_738 ?_
  refine va_sld hx hb hXs hbl hbA hS (show vp_in (nI (6 * k) + 1) L from ixs hL hk (j := 1) (by decide)) dL_law_739 ?_
  refine lv_aload_n hx hb dL_law_740 rfl (lv_at hl 3 rfl) ?_
  refine lv_iload_n hx hb dL_law_741 rfl (lv_at hl 0 rfl) ?_
  refine lv_iconst (v := 2) hx hb dL_law_742 (by decide) ?_
  refine lv_iadd hx hb dL_law_743 ?_
  refine va_sld hx hb hXs hbl hbA hS (show vp_in (nI (6 * k) + 2) L from ixs hL hk (j := 2) (by decide)) dL_law_744 ?_
  refine lv_aload_n hx hb dL_law_745 rfl (lv_at hl 3 rfl) ?_
  refine lv_iload_n hx hb dL_law_746 rfl (lv_at hl 0 rfl) ?_
  refine lv_iconst (v := 3) hx hb dL_law_747 (by decide) ?_
  refine lv_iadd hx hb dL_law_748 ?_
  refine va_sld hx hb hXs hbl hbA hS (show vp_in (nI (6 * k) + 3) L from ixs hL hk (j := 3) (by decide)) dL_law_749 ?_
  refine lv_aload_n hx hb dL_law_750 rfl (lv_at hl 3 rfl) ?_
  refine lv_iload_n hx hb dL_law_751 rfl (lv_at hl 0 rfl) ?_
  refine lv_iconst (v := 4) hx hb dL_law_752 (by decide) ?_
  refine lv_iadd hx hb dL_law_753 ?_
  refine va_sld hx hb hXs hbl hbA hS (show vp_in (nI (6 * k) + 4) L from ixs hL hk (j := 4) (by decide)) dL_law_754 ?_
  refine lv_aload_n hx hb dL_law_755 rfl (lv_at hl 3 rfl) ?_
  refine lv_iload_n hx hb dL_law_756 rfl (lv_at hl 0 rfl) ?_
  refine lv_iconst (v := 5) hx hb dL_law_757 (by decide) ?_
  refine lv_iadd hx hb dL_law_758 ?_
  refine va_sld hx hb hXs hbl hbA hS (show vp_in (nI (6 * k) + 5) L from ixs hL hk (j := 5) (by decide)) dL_law_759 ?_
  refine kcV_p hx hb hml hown hts hX hP (c_X6_how l G h0 tx nw tr un kp wy rm pl dr (xs (nI (6 * k) + 1).toNatClampNeg) (xs (nI (6 * k) + 2).toNatClampNeg) (xs (nI (6 * k) + 3).toNatClampNeg) (xs (nI (6 * k) + 4).toNatClampNeg) (xs (nI (6 * k) + 5).toNatClampNeg) vp) gL_law_X6_how 5 rfl rfl rfl hd_X6_how ⟨Nat.le_of_ble_eq_true rfl, Nat.le_of_ble_eq_true rfl⟩ [0, 8] rfl 0 rfl rfl rfl hl.1 rfl rfl (Nat.le_of_ble_eq_true rfl) dL_law_760 ⟨Nat.le_of_ble_eq_true rfl, Nat.le_of_ble_eq_true rfl⟩ ?_
  refine lv_aload_n hx hb dL_law_763 rfl (lv_at hl 1 rfl) ?_
  refine lv_aload_n hx hb dL_law_764 rfl (lv_at hl 3 rfl) ?_
  refine lv_iload_n hx hb dL_law_765 rfl (lv_at hl 0 rfl) ?_
  refine lv_iconst (v := 1) hx hb dL_law_766 (by decide) ?_
  refine lv_iadd hx hb dL_law_767 ?_
  refine va_sld hx hb hXs hbl hbA hS (show vp_in (nI (6 * k) + 1) L from ixs hL hk (j := 1) (by decide)) dL_law_768 ?_
  refine lv_aload_n hx hb dL_law_769 rfl (lv_at hl 3 rfl) ?_
  refine lv_iload_n hx hb dL_law_770 rfl (lv_at hl 0 rfl) ?_
  refine lv_iconst (v := 2) hx hb dL_law_771 (by decide) ?_
  refine lv_iadd hx hb dL_law_772 ?_
  refine va_sld hx hb hXs hbl hbA hS (show vp_in (nI (6 * k) + 2) L from ixs hL hk (j := 2) (by decide)) dL_law_773 ?_
  refine lv_aload_n hx hb dL_law_774 rfl (lv_at hl 3 rfl) ?_
  refine lv_iload_n hx hb dL_law_775 rfl (lv_at hl 0 rfl) ?_
  refine lv_iconst (v := 3) hx hb dL_law_776 (by decide) ?_
  refine lv_iadd hx hb dL_law_777 ?_
  refine va_sld hx hb hXs hbl hbA hS (show vp_in (nI (6 * k) + 3) L from ixs hL hk (j := 3) (by decide)) dL_law_778 ?_
  refine lv_aload_n hx hb dL_law_779 rfl (lv_at hl 3 rfl) ?_
  refine lv_iload_n hx hb dL_law_780 rfl (lv_at hl 0 rfl) ?_
  refine lv_iconst (v := 4) hx hb dL_law_781 (by decide) ?_
  refine lv_iadd hx hb dL_law_782 ?_
  refine va_sld hx hb hXs hbl hbA hS (show vp_in (nI (6 * k) + 4) L from ixs hL hk (j := 4) (by decide)) dL_law_783 ?_
  refine lv_aload_n hx hb dL_law_784 rfl (lv_at hl 3 rfl) ?_
  refine lv_iload_n hx hb dL_law_785 rfl (lv_at hl 0 rfl) ?_
  refine lv_iconst (v := 5) hx hb dL_law_786 (by decide) ?_
  refine lv_iadd hx hb dL_law_787 ?_
  refine va_sld hx hb hXs hbl hbA hS (show vp_in (nI (6 * k) + 5) L from ixs hL hk (j := 5) (by decide)) dL_law_788 ?_
  refine kcV_p hx hb hml hown hts hX hP (c_X7_how l G a v (xs (nI (6 * k) + 1).toNatClampNeg) (xs (nI (6 * k) + 2).toNatClampNeg) (xs (nI (6 * k) + 3).toNatClampNeg) (xs (nI (6 * k) + 4).toNatClampNeg) (xs (nI (6 * k) + 5).toNatClampNeg) pd0 pd8 pl0 pl4) gL_law_X7_how 5 rfl rfl rfl hd_X7_how ⟨Nat.le_of_ble_eq_true rfl, Nat.le_of_ble_eq_true rfl⟩ [10] rfl 10 rfl rfl rfl hl.1 rfl rfl (Nat.le_of_ble_eq_true rfl) dL_law_789 ⟨Nat.le_of_ble_eq_true rfl, Nat.le_of_ble_eq_true rfl⟩ ?_
  refine lv_icmp_eq (tgt := 912) hx hb dL_law_792 (by decide) (fun _ => ?_) (fun c_ => absurd ?_ c_)
  · exact hn tx nw tr un kp wy rm pl dr vt vn vr adu hvu nu adk hvk nk vy vm vp vd v q H locs ls hP hD hS hl hR
  · exact a_how hR (xs (nI (6 * k) + 1).toNatClampNeg) (xs (nI (6 * k) + 2).toNatClampNeg) (xs (nI (6 * k) + 3).toNatClampNeg) (xs (nI (6 * k) + 4).toNatClampNeg) (xs (nI (6 * k) + 5).toNatClampNeg)
set_option maxRecDepth 100000 in
set_option maxHeartbeats 4000000 in
theorem law_fresh (hE : LE p s m meth c b L xs G) (hk : 6 * k + 6 ≤ L) (hn : Nxt p l e s m below meth c b Z G h0 a 912 k) : Nxt p l e s m below meth c b Z G h0 a 797 k := by
  intro tx nw tr un kp wy rm pl dr vt vn vr adu hvu nu adk hvk nk vy vm vp vd v q H locs ls hP hD hS hl hR
  obtain ⟨hx, hb, hml, hown, hts, hXs, hbl, hX, hL⟩ := hE
  have hbA : ¬ (fun q : Nat => s.heap.size ≤ q) b := Nat.not_le.mpr hbl
  obtain ⟨pd0, pd8, pl0, pl4, pr0, pr6, pen, pto, pat, pln0, pu0, pu8, ⟨hun, hnu8⟩, ⟨hkn, hnk2⟩, ⟨htn, ht2, ht6⟩, ⟨hln, hl1, hl4⟩⟩ := hR.pre
  obtain ⟨cp1, cp2, cp3⟩ := hR.cpre
  obtain ⟨len, hlen, h300⟩ := hR.len
  refine lv_aload_n hx hb dL_law_797 rfl (lv_at hl 2 rfl) ?_
  refine lv_aload_n hx hb dL_law_798 rfl (lv_at hl 3 rfl) ?_
  refine lv_iload_n hx hb dL_law_799 rfl (lv_at hl 0 rfl) ?_
  refine lv_iconst (v := 1) hx hb dL_law_800 (by decide) ?_
  refine lv_iadd hx hb dL_law_801 ?_
  refine va_sld hx hb hXs hbl hbA hS (show vp_in (nI (6 * k) + 1) L from ixs hL hk (j := 1) (by decide)) dL_law_802 ?_
  refine kcV_p hx hb hml hown hts hX hP (c_X6_fresh l G h0 tx nw tr un kp wy rm pl dr (xs (nI (6 * k) + 1).toNatClampNeg) vp vn) gL_law_X6_fresh 1 rfl rfl rfl hd_X6_fresh ⟨Nat.le_of_ble_eq_true rfl, Nat.le_of_ble_eq_true rfl⟩ [0, 8, 2] rfl 0 rfl rfl rfl hl.1 rfl rfl (Nat.le_of_ble_eq_true rfl) dL_law_803 ⟨Nat.le_of_ble_eq_true rfl, Nat.le_of_ble_eq_true rfl⟩ ?_
  refine lv_aload_n hx hb dL_law_806 rfl (lv_at hl 1 rfl) ?_
  refine lv_aload_n hx hb dL_law_807 rfl (lv_at hl 3 rfl) ?_
  refine lv_iload_n hx hb dL_law_808 rfl (lv_at hl 0 rfl) ?_
  refine lv_iconst (v := 1) hx hb dL_law_809 (by decide) ?_
  refine lv_iadd hx hb dL_law_810 ?_
  refine va_sld hx hb hXs hbl hbA hS (show vp_in (nI (6 * k) + 1) L from ixs hL hk (j := 1) (by decide)) dL_law_811 ?_
  refine kcV_p hx hb hml hown hts hX hP (c_X7_fresh l G a v (xs (nI (6 * k) + 1).toNatClampNeg) pd0 pd8 pl4 pln0) gL_law_X7_fresh 1 rfl rfl rfl hd_X7_fresh ⟨Nat.le_of_ble_eq_true rfl, Nat.le_of_ble_eq_true rfl⟩ [10] rfl 10 rfl rfl rfl hl.1 rfl rfl (Nat.le_of_ble_eq_true rfl) dL_law_812 ⟨Nat.le_of_ble_eq_true rfl, Nat.le_of_ble_eq_true rfl⟩ ?_
  refine lv_icmp_eq (tgt := 912) hx hb dL_law_815 (by decide) (fun _ => ?_) (fun c_ => absurd ?_ c_)
  · exact hn tx nw tr un kp wy rm pl dr vt vn vr adu hvu nu adk hvk nk vy vm vp vd v q H locs ls hP hD hS hl hR
  · exact a_fresh hR (xs (nI (6 * k) + 1).toNatClampNeg)
set_option maxRecDepth 100000 in
set_option maxHeartbeats 4000000 in
theorem law_week (hE : LE p s m meth c b L xs G) (hk : 6 * k + 6 ≤ L) (hn : Nxt p l e s m below meth c b Z G h0 a 912 k) : Nxt p l e s m below meth c b Z G h0 a 820 k := by
  intro tx nw tr un kp wy rm pl dr vt vn vr adu hvu nu adk hvk nk vy vm vp vd v q H locs ls hP hD hS hl hR
  obtain ⟨hx, hb, hml, hown, hts, hXs, hbl, hX, hL⟩ := hE
  have hbA : ¬ (fun q : Nat => s.heap.size ≤ q) b := Nat.not_le.mpr hbl
  obtain ⟨pd0, pd8, pl0, pl4, pr0, pr6, pen, pto, pat, pln0, pu0, pu8, ⟨hun, hnu8⟩, ⟨hkn, hnk2⟩, ⟨htn, ht2, ht6⟩, ⟨hln, hl1, hl4⟩⟩ := hR.pre
  obtain ⟨cp1, cp2, cp3⟩ := hR.cpre
  obtain ⟨len, hlen, h300⟩ := hR.len
  have hday := hR.day (xs (nI (6 * k) + 1).toNatClampNeg).toNatClampNeg (xs (nI (6 * k) + 2).toNatClampNeg).toNatClampNeg
  refine lv_aload_n hx hb dL_law_820 rfl (lv_at hl 2 rfl) ?_
  refine lv_aload_n hx hb dL_law_821 rfl (lv_at hl 3 rfl) ?_
  refine lv_iload_n hx hb dL_law_822 rfl (lv_at hl 0 rfl) ?_
  refine lv_iconst (v := 1) hx hb dL_law_823 (by decide) ?_
  refine lv_iadd hx hb dL_law_824 ?_
  refine va_sld hx hb hXs hbl hbA hS (show vp_in (nI (6 * k) + 1) L from ixs hL hk (j := 1) (by decide)) dL_law_825 ?_
  refine lv_aload_n hx hb dL_law_826 rfl (lv_at hl 3 rfl) ?_
  refine lv_iload_n hx hb dL_law_827 rfl (lv_at hl 0 rfl) ?_
  refine lv_iconst (v := 2) hx hb dL_law_828 (by decide) ?_
  refine lv_iadd hx hb dL_law_829 ?_
  refine va_sld hx hb hXs hbl hbA hS (show vp_in (nI (6 * k) + 2) L from ixs hL hk (j := 2) (by decide)) dL_law_830 ?_
  refine lv_aload_n hx hb dL_law_831 rfl (lv_at hl 3 rfl) ?_
  refine lv_iload_n hx hb dL_law_832 rfl (lv_at hl 0 rfl) ?_
  refine lv_iconst (v := 3) hx hb dL_law_833 (by decide) ?_
  refine lv_iadd hx hb dL_law_834 ?_
  refine va_sld hx hb hXs hbl hbA hS (show vp_in (nI (6 * k) + 3) L from ixs hL hk (j := 3) (by decide)) dL_law_835 ?_
  refine kcV_s hx hb hml hown hts hX hP hD hS (c_X6_week l G h0 tx nw tr un kp wy rm pl dr (xs (nI (6 * k) + 1).toNatClampNeg) (xs (nI (6 * k) + 2).toNatClampNeg) (xs (nI (6 * k) + 3).toNatClampNeg) vp vn vr vy) gL_law_X6_week 3 rfl rfl rfl hd_X6_week ⟨Nat.le_of_ble_eq_true rfl, Nat.le_of_ble_eq_true rfl⟩ [0, 8, 2, 3, 6] (by decide) rfl 0 rfl rfl rfl hl.1 rfl rfl (Nat.le_of_ble_eq_true rfl) dL_law_836 ⟨Nat.le_of_ble_eq_true rfl, Nat.le_of_ble_eq_true rfl⟩ (fun r_ bc_ hq_ H locs hP hD hS => ?_)
  obtain ⟨rfl, rfl⟩ := hq_
  have hP : PP G [bX6 h0 (tx 0) (nw 0) (tr 0) (un 0) (kp 0) (wy 0) (rm 0) (pl 0) (dr 0), bX4 tx G vt, bX0 nw G vn, bX0 tr G (cnd (okWeek (xs (nI (6 * k) + 1).toNatClampNeg) (xs (nI (6 * k) + 2).toNatClampNeg) (xs (nI (6 * k) + 3).toNatClampNeg)) (f_week vp vn vr vy (xs (nI (6 * k) + 1).toNatClampNeg) (xs (nI (6 * k) + 2).toNatClampNeg).toNatClampNeg).1 vr), bX1 un G 8 adu hvu nu, bX1 kp G 2 adk hvk nk, bX5 wy G (cnd (okWeek (xs (nI (6 * k) + 1).toNatClampNeg) (xs (nI (6 * k) + 2).toNatClampNeg) (xs (nI (6 * k) + 3).toNatClampNeg)) (f_week vp vn vr vy (xs (nI (6 * k) + 1).toNatClampNeg) (xs (nI (6 * k) + 2).toNatClampNeg).toNatClampNeg).2 vy), bX3 rm G vm, bX2 pl G vp, bX2 dr G vd, bX7 a G v] H := hP
  have hD : DD (fun q : Nat => s.heap.size ≤ q) [bX6 h0 (tx 0) (nw 0) (tr 0) (un 0) (kp 0) (wy 0) (rm 0) (pl 0) (dr 0), bX4 tx G vt, bX0 nw G vn, bX0 tr G (cnd (okWeek (xs (nI (6 * k) + 1).toNatClampNeg) (xs (nI (6 * k) + 2).toNatClampNeg) (xs (nI (6 * k) + 3).toNatClampNeg)) (f_week vp vn vr vy (xs (nI (6 * k) + 1).toNatClampNeg) (xs (nI (6 * k) + 2).toNatClampNeg).toNatClampNeg).1 vr), bX1 un G 8 adu hvu nu, bX1 kp G 2 adk hvk nk, bX5 wy G (cnd (okWeek (xs (nI (6 * k) + 1).toNatClampNeg) (xs (nI (6 * k) + 2).toNatClampNeg) (xs (nI (6 * k) + 3).toNatClampNeg)) (f_week vp vn vr vy (xs (nI (6 * k) + 1).toNatClampNeg) (xs (nI (6 * k) + 2).toNatClampNeg).toNatClampNeg).2 vy), bX3 rm G vm, bX2 pl G vp, bX2 dr G vd, bX7 a G v] := hD
  refine lv_aload_n hx hb dL_law_839 rfl (lv_at hl 1 rfl) ?_
  refine lv_aload_n hx hb dL_law_840 rfl (lv_at hl 3 rfl) ?_
  refine lv_iload_n hx hb dL_law_841 rfl (lv_at hl 0 rfl) ?_
  refine lv_iconst (v := 1) hx hb dL_law_842 (by decide) ?_
  refine lv_iadd hx hb dL_law_843 ?_
  refine va_sld hx hb hXs hbl hbA hS (show vp_in (nI (6 * k) + 1) L from ixs hL hk (j := 1) (by decide)) dL_law_844 ?_
  refine lv_aload_n hx hb dL_law_845 rfl (lv_at hl 3 rfl) ?_
  refine lv_iload_n hx hb dL_law_846 rfl (lv_at hl 0 rfl) ?_
  refine lv_iconst (v := 2) hx hb dL_law_847 (by decide) ?_
  refine lv_iadd hx hb dL_law_848 ?_
  refine va_sld hx hb hXs hbl hbA hS (show vp_in (nI (6 * k) + 2) L from ixs hL hk (j := 2) (by decide)) dL_law_849 ?_
  refine lv_aload_n hx hb dL_law_850 rfl (lv_at hl 3 rfl) ?_
  refine lv_iload_n hx hb dL_law_851 rfl (lv_at hl 0 rfl) ?_
  refine lv_iconst (v := 3) hx hb dL_law_852 (by decide) ?_
  refine lv_iadd hx hb dL_law_853 ?_
  refine va_sld hx hb hXs hbl hbA hS (show vp_in (nI (6 * k) + 3) L from ixs hL hk (j := 3) (by decide)) dL_law_854 ?_
  refine kcV_s hx hb hml hown hts hX hP hD hS (c_X7_week l G a v (xs (nI (6 * k) + 1).toNatClampNeg) (xs (nI (6 * k) + 2).toNatClampNeg) (xs (nI (6 * k) + 3).toNatClampNeg) (q.2 10) hln hl1 hl4 pd8 pen pto hday) gL_law_X7_week 3 rfl rfl rfl hd_X7_week ⟨Nat.le_of_ble_eq_true rfl, Nat.le_of_ble_eq_true rfl⟩ [10] (by decide) rfl 10 rfl rfl rfl hl.1 rfl rfl (Nat.le_of_ble_eq_true rfl) dL_law_855 ⟨Nat.le_of_ble_eq_true rfl, Nat.le_of_ble_eq_true rfl⟩ (fun r_ bc_ hq_ H locs hP hD hS => ?_)
  obtain ⟨rfl, rfl⟩ := hq_
  have hP : PP G [bX6 h0 (tx 0) (nw 0) (tr 0) (un 0) (kp 0) (wy 0) (rm 0) (pl 0) (dr 0), bX4 tx G vt, bX0 nw G vn, bX0 tr G (cnd (okWeek (xs (nI (6 * k) + 1).toNatClampNeg) (xs (nI (6 * k) + 2).toNatClampNeg) (xs (nI (6 * k) + 3).toNatClampNeg)) (f_week vp vn vr vy (xs (nI (6 * k) + 1).toNatClampNeg) (xs (nI (6 * k) + 2).toNatClampNeg).toNatClampNeg).1 vr), bX1 un G 8 adu hvu nu, bX1 kp G 2 adk hvk nk, bX5 wy G (cnd (okWeek (xs (nI (6 * k) + 1).toNatClampNeg) (xs (nI (6 * k) + 2).toNatClampNeg) (xs (nI (6 * k) + 3).toNatClampNeg)) (f_week vp vn vr vy (xs (nI (6 * k) + 1).toNatClampNeg) (xs (nI (6 * k) + 2).toNatClampNeg).toNatClampNeg).2 vy), bX3 rm G vm, bX2 pl G vp, bX2 dr G vd, bX7 a G (g_weekV v (q.2 10) (xs (nI (6 * k) + 1).toNatClampNeg) (xs (nI (6 * k) + 2).toNatClampNeg) (xs (nI (6 * k) + 3).toNatClampNeg))] H := hP
  have hD : DD (fun q : Nat => s.heap.size ≤ q) [bX6 h0 (tx 0) (nw 0) (tr 0) (un 0) (kp 0) (wy 0) (rm 0) (pl 0) (dr 0), bX4 tx G vt, bX0 nw G vn, bX0 tr G (cnd (okWeek (xs (nI (6 * k) + 1).toNatClampNeg) (xs (nI (6 * k) + 2).toNatClampNeg) (xs (nI (6 * k) + 3).toNatClampNeg)) (f_week vp vn vr vy (xs (nI (6 * k) + 1).toNatClampNeg) (xs (nI (6 * k) + 2).toNatClampNeg).toNatClampNeg).1 vr), bX1 un G 8 adu hvu nu, bX1 kp G 2 adk hvk nk, bX5 wy G (cnd (okWeek (xs (nI (6 * k) + 1).toNatClampNeg) (xs (nI (6 * k) + 2).toNatClampNeg) (xs (nI (6 * k) + 3).toNatClampNeg)) (f_week vp vn vr vy (xs (nI (6 * k) + 1).toNatClampNeg) (xs (nI (6 * k) + 2).toNatClampNeg).toNatClampNeg).2 vy), bX3 rm G vm, bX2 pl G vp, bX2 dr G vd, bX7 a G (g_weekV v (q.2 10) (xs (nI (6 * k) + 1).toNatClampNeg) (xs (nI (6 * k) + 2).toNatClampNeg) (xs (nI (6 * k) + 3).toNatClampNeg))] := hD
  refine lv_icmp_eq (tgt := 912) hx hb dL_law_858 (by decide) (fun _ => ?_) (fun c_ => absurd ?_ c_)
  · exact hn tx nw tr un kp wy rm pl dr vt vn (cnd (okWeek (xs (nI (6 * k) + 1).toNatClampNeg) (xs (nI (6 * k) + 2).toNatClampNeg) (xs (nI (6 * k) + 3).toNatClampNeg)) (f_week vp vn vr vy (xs (nI (6 * k) + 1).toNatClampNeg) (xs (nI (6 * k) + 2).toNatClampNeg).toNatClampNeg).1 vr) adu hvu nu adk hvk nk (cnd (okWeek (xs (nI (6 * k) + 1).toNatClampNeg) (xs (nI (6 * k) + 2).toNatClampNeg) (xs (nI (6 * k) + 3).toNatClampNeg)) (f_week vp vn vr vy (xs (nI (6 * k) + 1).toNatClampNeg) (xs (nI (6 * k) + 2).toNatClampNeg).toNatClampNeg).2 vy) vm vp vd (g_weekV v (q.2 10) (xs (nI (6 * k) + 1).toNatClampNeg) (xs (nI (6 * k) + 2).toNatClampNeg) (xs (nI (6 * k) + 3).toNatClampNeg)) q H locs ls hP hD hS hl (hR.week (xs (nI (6 * k) + 1).toNatClampNeg) (xs (nI (6 * k) + 2).toNatClampNeg) (xs (nI (6 * k) + 3).toNatClampNeg))
  · exact a_week hR vr vy (xs (nI (6 * k) + 1).toNatClampNeg) (xs (nI (6 * k) + 2).toNatClampNeg) (xs (nI (6 * k) + 3).toNatClampNeg)
set_option maxRecDepth 100000 in
set_option maxHeartbeats 4000000 in
theorem law_keep (hE : LE p s m meth c b L xs G) (hk : 6 * k + 6 ≤ L) (hn : Nxt p l e s m below meth c b Z G h0 a 912 k) : Nxt p l e s m below meth c b Z G h0 a 863 k := by
  intro tx nw tr un kp wy rm pl dr vt vn vr adu hvu nu adk hvk nk vy vm vp vd v q H locs ls hP hD hS hl hR
  obtain ⟨hx, hb, hml, hown, hts, hXs, hbl, hX, hL⟩ := hE
  have hbA : ¬ (fun q : Nat => s.heap.size ≤ q) b := Nat.not_le.mpr hbl
  obtain ⟨pd0, pd8, pl0, pl4, pr0, pr6, pen, pto, pat, pln0, pu0, pu8, ⟨hun, hnu8⟩, ⟨hkn, hnk2⟩, ⟨htn, ht2, ht6⟩, ⟨hln, hl1, hl4⟩⟩ := hR.pre
  obtain ⟨cp1, cp2, cp3⟩ := hR.cpre
  obtain ⟨len, hlen, h300⟩ := hR.len
  refine lv_aload_n hx hb dL_law_863 rfl (lv_at hl 2 rfl) ?_
  refine kcV_s hx hb hml hown hts hX hP hD hS (c_X6_keep l G h0 tx nw tr un kp wy rm pl dr vn adk hvk nk hnk2) gL_law_X6_keep 0 rfl rfl rfl hd_X6_keep ⟨Nat.le_of_ble_eq_true rfl, Nat.le_of_ble_eq_true rfl⟩ [0, 2, 5] (by decide) rfl 0 rfl rfl rfl hl.1 rfl rfl (Nat.le_of_ble_eq_true rfl) dL_law_864 ⟨Nat.le_of_ble_eq_true rfl, Nat.le_of_ble_eq_true rfl⟩ (fun r_ bc_ hq_ H locs hP hD hS => ?_)
  obtain ⟨rfl, rfl⟩ := hq_
  have hP : PP G [bX6 h0 (tx 0) (nw 0) (tr 0) (un 0) (kp 0) (wy 0) (rm 0) (pl 0) (dr 0), bX4 tx G vt, bX0 nw G vn, bX0 tr G vr, bX1 un G 8 adu hvu nu, bX1 kp G 2 (cnd (okKeep nk) (pushA 2 nk adk) adk) (cnd (okKeep nk) (pushH 2 nk hvk vn) hvk) (cnd (okKeep nk) (pushN 2 nk) nk), bX5 wy G vy, bX3 rm G vm, bX2 pl G vp, bX2 dr G vd, bX7 a G v] H := hP
  have hD : DD (fun q : Nat => s.heap.size ≤ q) [bX6 h0 (tx 0) (nw 0) (tr 0) (un 0) (kp 0) (wy 0) (rm 0) (pl 0) (dr 0), bX4 tx G vt, bX0 nw G vn, bX0 tr G vr, bX1 un G 8 adu hvu nu, bX1 kp G 2 (cnd (okKeep nk) (pushA 2 nk adk) adk) (cnd (okKeep nk) (pushH 2 nk hvk vn) hvk) (cnd (okKeep nk) (pushN 2 nk) nk), bX5 wy G vy, bX3 rm G vm, bX2 pl G vp, bX2 dr G vd, bX7 a G v] := hD
  refine lv_aload_n hx hb dL_law_867 rfl (lv_at hl 1 rfl) ?_
  refine kcV_s hx hb hml hown hts hX hP hD hS (c_X7_keep l G a v nk hkn hnk2) gL_law_X7_keep 0 rfl rfl rfl hd_X7_keep ⟨Nat.le_of_ble_eq_true rfl, Nat.le_of_ble_eq_true rfl⟩ [10] (by decide) rfl 10 rfl rfl rfl hl.1 rfl rfl (Nat.le_of_ble_eq_true rfl) dL_law_868 ⟨Nat.le_of_ble_eq_true rfl, Nat.le_of_ble_eq_true rfl⟩ (fun r_ bc_ hq_ H locs hP hD hS => ?_)
  obtain ⟨rfl, rfl⟩ := hq_
  have hP : PP G [bX6 h0 (tx 0) (nw 0) (tr 0) (un 0) (kp 0) (wy 0) (rm 0) (pl 0) (dr 0), bX4 tx G vt, bX0 nw G vn, bX0 tr G vr, bX1 un G 8 adu hvu nu, bX1 kp G 2 (cnd (okKeep nk) (pushA 2 nk adk) adk) (cnd (okKeep nk) (pushH 2 nk hvk vn) hvk) (cnd (okKeep nk) (pushN 2 nk) nk), bX5 wy G vy, bX3 rm G vm, bX2 pl G vp, bX2 dr G vd, bX7 a G (g_keepV v nk)] H := hP
  have hD : DD (fun q : Nat => s.heap.size ≤ q) [bX6 h0 (tx 0) (nw 0) (tr 0) (un 0) (kp 0) (wy 0) (rm 0) (pl 0) (dr 0), bX4 tx G vt, bX0 nw G vn, bX0 tr G vr, bX1 un G 8 adu hvu nu, bX1 kp G 2 (cnd (okKeep nk) (pushA 2 nk adk) adk) (cnd (okKeep nk) (pushH 2 nk hvk vn) hvk) (cnd (okKeep nk) (pushN 2 nk) nk), bX5 wy G vy, bX3 rm G vm, bX2 pl G vp, bX2 dr G vd, bX7 a G (g_keepV v nk)] := hD
  refine lv_icmp_eq (tgt := 912) hx hb dL_law_871 (by decide) (fun _ => ?_) (fun c_ => absurd ?_ c_)
  · exact hn tx nw tr un kp wy rm pl dr vt vn vr adu hvu nu (cnd (okKeep nk) (pushA 2 nk adk) adk) (cnd (okKeep nk) (pushH 2 nk hvk vn) hvk) (cnd (okKeep nk) (pushN 2 nk) nk) vy vm vp vd (g_keepV v nk) q H locs ls hP hD hS hl (a_keep hR).2
  · exact (a_keep hR).1
set_option maxRecDepth 100000 in
set_option maxHeartbeats 4000000 in
theorem law_back (hE : LE p s m meth c b L xs G) (hk : 6 * k + 6 ≤ L) (hn : Nxt p l e s m below meth c b Z G h0 a 912 k) : Nxt p l e s m below meth c b Z G h0 a 876 k := by
  intro tx nw tr un kp wy rm pl dr vt vn vr adu hvu nu adk hvk nk vy vm vp vd v q H locs ls hP hD hS hl hR
  obtain ⟨hx, hb, hml, hown, hts, hXs, hbl, hX, hL⟩ := hE
  have hbA : ¬ (fun q : Nat => s.heap.size ≤ q) b := Nat.not_le.mpr hbl
  obtain ⟨pd0, pd8, pl0, pl4, pr0, pr6, pen, pto, pat, pln0, pu0, pu8, ⟨hun, hnu8⟩, ⟨hkn, hnk2⟩, ⟨htn, ht2, ht6⟩, ⟨hln, hl1, hl4⟩⟩ := hR.pre
  obtain ⟨cp1, cp2, cp3⟩ := hR.cpre
  obtain ⟨len, hlen, h300⟩ := hR.len
  refine lv_aload_n hx hb dL_law_876 rfl (lv_at hl 2 rfl) ?_
  refine kcV_s hx hb hml hown hts hX hP hD hS (c_X6_back l G h0 tx nw tr un kp wy rm pl dr vn adu hvu nu adk hvk nk hnk2) gL_law_X6_back 0 rfl rfl rfl hd_X6_back ⟨Nat.le_of_ble_eq_true rfl, Nat.le_of_ble_eq_true rfl⟩ [0, 2, 4, 5] (by decide) rfl 0 rfl rfl rfl hl.1 rfl rfl (Nat.le_of_ble_eq_true rfl) dL_law_877 ⟨Nat.le_of_ble_eq_true rfl, Nat.le_of_ble_eq_true rfl⟩ (fun r_ bc_ hq_ H locs hP hD hS => ?_)
  obtain ⟨rfl, rfl⟩ := hq_
  have hP : PP G [bX6 h0 (tx 0) (nw 0) (tr 0) (un 0) (kp 0) (wy 0) (rm 0) (pl 0) (dr 0), bX4 tx G vt, bX0 nw G (popV nk hvk vn), bX0 tr G vr, bX1 un G 8 adu hvu (f_backU nk nu), bX1 kp G 2 adk hvk (nk - 1), bX5 wy G vy, bX3 rm G vm, bX2 pl G vp, bX2 dr G vd, bX7 a G v] H := hP
  have hD : DD (fun q : Nat => s.heap.size ≤ q) [bX6 h0 (tx 0) (nw 0) (tr 0) (un 0) (kp 0) (wy 0) (rm 0) (pl 0) (dr 0), bX4 tx G vt, bX0 nw G (popV nk hvk vn), bX0 tr G vr, bX1 un G 8 adu hvu (f_backU nk nu), bX1 kp G 2 adk hvk (nk - 1), bX5 wy G vy, bX3 rm G vm, bX2 pl G vp, bX2 dr G vd, bX7 a G v] := hD
  refine lv_aload_n hx hb dL_law_880 rfl (lv_at hl 1 rfl) ?_
  refine kcV_s hx hb hml hown hts hX hP hD hS (c_X7_back l G a v nk hkn hnk2) gL_law_X7_back 0 rfl rfl rfl hd_X7_back ⟨Nat.le_of_ble_eq_true rfl, Nat.le_of_ble_eq_true rfl⟩ [10] (by decide) rfl 10 rfl rfl rfl hl.1 rfl rfl (Nat.le_of_ble_eq_true rfl) dL_law_881 ⟨Nat.le_of_ble_eq_true rfl, Nat.le_of_ble_eq_true rfl⟩ (fun r_ bc_ hq_ H locs hP hD hS => ?_)
  obtain ⟨rfl, rfl⟩ := hq_
  have hP : PP G [bX6 h0 (tx 0) (nw 0) (tr 0) (un 0) (kp 0) (wy 0) (rm 0) (pl 0) (dr 0), bX4 tx G vt, bX0 nw G (popV nk hvk vn), bX0 tr G vr, bX1 un G 8 adu hvu (f_backU nk nu), bX1 kp G 2 adk hvk (nk - 1), bX5 wy G vy, bX3 rm G vm, bX2 pl G vp, bX2 dr G vd, bX7 a G (g_backV v nk)] H := hP
  have hD : DD (fun q : Nat => s.heap.size ≤ q) [bX6 h0 (tx 0) (nw 0) (tr 0) (un 0) (kp 0) (wy 0) (rm 0) (pl 0) (dr 0), bX4 tx G vt, bX0 nw G (popV nk hvk vn), bX0 tr G vr, bX1 un G 8 adu hvu (f_backU nk nu), bX1 kp G 2 adk hvk (nk - 1), bX5 wy G vy, bX3 rm G vm, bX2 pl G vp, bX2 dr G vd, bX7 a G (g_backV v nk)] := hD
  refine lv_icmp_eq (tgt := 912) hx hb dL_law_884 (by decide) (fun _ => ?_) (fun c_ => absurd ?_ c_)
  · exact hn tx nw tr un kp wy rm pl dr vt (popV nk hvk vn) vr adu hvu (f_backU nk nu) adk hvk (nk - 1) vy vm vp vd (g_backV v nk) q H locs ls hP hD hS hl (a_back hR).2
  · exact (a_back hR).1
set_option maxRecDepth 100000 in
set_option maxHeartbeats 4000000 in
theorem law_count (hE : LE p s m meth c b L xs G) (hk : 6 * k + 6 ≤ L) (hn : Nxt p l e s m below meth c b Z G h0 a 912 k) : Nxt p l e s m below meth c b Z G h0 a 889 k := by
  intro tx nw tr un kp wy rm pl dr vt vn vr adu hvu nu adk hvk nk vy vm vp vd v q H locs ls hP hD hS hl hR
  obtain ⟨hx, hb, hml, hown, hts, hXs, hbl, hX, hL⟩ := hE
  have hbA : ¬ (fun q : Nat => s.heap.size ≤ q) b := Nat.not_le.mpr hbl
  obtain ⟨pd0, pd8, pl0, pl4, pr0, pr6, pen, pto, pat, pln0, pu0, pu8, ⟨hun, hnu8⟩, ⟨hkn, hnk2⟩, ⟨htn, ht2, ht6⟩, ⟨hln, hl1, hl4⟩⟩ := hR.pre
  obtain ⟨cp1, cp2, cp3⟩ := hR.cpre
  obtain ⟨len, hlen, h300⟩ := hR.len
  refine lv_aload_n hx hb dL_law_889 rfl (lv_at hl 2 rfl) ?_
  refine lv_aload_n hx hb dL_law_890 rfl (lv_at hl 3 rfl) ?_
  refine lv_iload_n hx hb dL_law_891 rfl (lv_at hl 0 rfl) ?_
  refine lv_iconst (v := 1) hx hb dL_law_892 (by decide) ?_
  refine lv_iadd hx hb dL_law_893 ?_
  refine va_sld hx hb hXs hbl hbA hS (show vp_in (nI (6 * k) + 1) L from ixs hL hk (j := 1) (by decide)) dL_law_894 ?_
  refine kcV_p hx hb hml hown hts hX hP (c_X6_count l G h0 tx nw tr un kp wy rm pl dr (xs (nI (6 * k) + 1).toNatClampNeg) vp vn adu hvu nu adk hvk nk vt) gL_law_X6_count 1 rfl rfl rfl hd_X6_count ⟨Nat.le_of_ble_eq_true rfl, Nat.le_of_ble_eq_true rfl⟩ [0, 8, 2, 4, 5, 1] rfl 0 rfl rfl rfl hl.1 rfl rfl (Nat.le_of_ble_eq_true rfl) dL_law_895 ⟨Nat.le_of_ble_eq_true rfl, Nat.le_of_ble_eq_true rfl⟩ ?_
  refine lv_aload_n hx hb dL_law_898 rfl (lv_at hl 1 rfl) ?_
  refine lv_aload_n hx hb dL_law_899 rfl (lv_at hl 3 rfl) ?_
  refine lv_iload_n hx hb dL_law_900 rfl (lv_at hl 0 rfl) ?_
  refine lv_iconst (v := 1) hx hb dL_law_901 (by decide) ?_
  refine lv_iadd hx hb dL_law_902 ?_
  refine va_sld hx hb hXs hbl hbA hS (show vp_in (nI (6 * k) + 1) L from ixs hL hk (j := 1) (by decide)) dL_law_903 ?_
  refine kcV_p hx hb hml hown hts hX hP (c_X7_count l G a v (xs (nI (6 * k) + 1).toNatClampNeg)) gL_law_X7_count 1 rfl rfl rfl hd_X7_count ⟨Nat.le_of_ble_eq_true rfl, Nat.le_of_ble_eq_true rfl⟩ [10] rfl 10 rfl rfl rfl hl.1 rfl rfl (Nat.le_of_ble_eq_true rfl) dL_law_904 ⟨Nat.le_of_ble_eq_true rfl, Nat.le_of_ble_eq_true rfl⟩ ?_
  refine lv_icmp_eq (tgt := 912) hx hb dL_law_907 (by decide) (fun _ => ?_) (fun c_ => absurd ?_ c_)
  · exact hn tx nw tr un kp wy rm pl dr vt vn vr adu hvu nu adk hvk nk vy vm vp vd v q H locs ls hP hD hS hl hR
  · exact a_count hR (xs (nI (6 * k) + 1).toNatClampNeg)
end LC
