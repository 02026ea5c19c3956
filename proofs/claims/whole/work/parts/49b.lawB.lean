/-! the law, call by call -/
section LC
variable {p : Program} {l : Launch} {e : Env} {s : State} {m : MethodId} {below : List Frame} {meth : Method} {c : Code} {b L : Nat} {xs : Nat → Int32} {Z : State → Prop} {G : GD} {h0 : Nat} {a : Nat → Nat} {k : Nat}
set_option maxRecDepth 100000 in
set_option maxHeartbeats 4000000 in
theorem law_oil (hE : LE p s m meth c b L xs G) (hk : 6 * k + 6 ≤ L) (hn : Nxt p l e s m below meth c b Z G h0 a 912 k) : Nxt p l e s m below meth c b Z G h0 a 404 k := by
  intro tx nw tr un kp wy rm pl dr vt vn vr adu hvu nu adk hvk nk vy vm vp vd v q H locs ls hP hD hS hl hR
  obtain ⟨hx, hb, hml, hown, hts, hXs, hbl, hX, hL⟩ := hE
  have hbA : ¬ (fun q : Nat => s.heap.size ≤ q) b := Nat.not_le.mpr hbl
  obtain ⟨pd0, pd8, pl0, pl4, pr0, pr6, pen, pto, pat, pln0, pu0, pu8, ⟨hun, hnu8⟩, ⟨hkn, hnk2⟩, ⟨htn, ht2, ht6⟩, ⟨hln, hl1, hl4⟩⟩ := hR.pre
  obtain ⟨cp1, cp2, cp3⟩ := hR.cpre
  obtain ⟨len, hlen, h300⟩ := hR.len
  refine lv_aload_n hx hb dL_law_404 rfl (lv_at hl 2 rfl) ?_
  refine lv_aload_n hx hb dL_law_405 rfl (lv_at hl 3 rfl) ?_
  refine lv_iload_n hx hb dL_law_406 rfl (lv_at hl 0 rfl) ?_
  refine lv_iconst (v := 1) hx hb dL_law_407 (by decide) ?_
  refine lv_iadd hx hb dL_law_408 ?_
  refine va_sld hx hb hXs hbl hbA hS (show vp_in (nI (6 * k) + 1) L from ixs hL hk (j := 1) (by decide)) dL_law_409 ?_
  refine kcV_s hx hb hml hown hts hX hP hD hS (c_X6_oil l G h0 tx nw tr un kp wy rm pl dr (xs (nI (6 * k) + 1).toNatClampNeg) vp vn adu hvu nu hnu8) gL_law_X6_oil 1 rfl rfl rfl hd_X6_oil ⟨Nat.le_of_ble_eq_true rfl, Nat.le_of_ble_eq_true rfl⟩ [0, 8, 2, 4] (by decide) rfl 0 rfl rfl rfl hl.1 rfl rfl (Nat.le_of_ble_eq_true rfl) dL_law_410 ⟨Nat.le_of_ble_eq_true rfl, Nat.le_of_ble_eq_true rfl⟩ (fun r_ bc_ hq_ H locs hP hD hS => ?_)
  obtain ⟨rfl, rfl⟩ := hq_
  have hP : PP G [bX6 h0 (tx 0) (nw 0) (tr 0) (un 0) (kp 0) (wy 0) (rm 0) (pl 0) (dr 0), bX4 tx G vt, bX0 nw G (cnd (fIn (xs (nI (6 * k) + 1).toNatClampNeg) (vp.2 9)) (f_oilN vp vn (xs (nI (6 * k) + 1).toNatClampNeg)) vn), bX0 tr G vr, bX1 un G 8 (cnd (fIn (xs (nI (6 * k) + 1).toNatClampNeg) (vp.2 9)) (pushA 8 nu adu) adu) (cnd (fIn (xs (nI (6 * k) + 1).toNatClampNeg) (vp.2 9)) (pushH 8 nu hvu vn) hvu) (cnd (fIn (xs (nI (6 * k) + 1).toNatClampNeg) (vp.2 9)) (pushN 8 nu) nu), bX1 kp G 2 adk hvk nk, bX5 wy G vy, bX3 rm G vm, bX2 pl G vp, bX2 dr G vd, bX7 a G v] H := hP
  have hD : DD (fun q : Nat => s.heap.size ≤ q) [bX6 h0 (tx 0) (nw 0) (tr 0) (un 0) (kp 0) (wy 0) (rm 0) (pl 0) (dr 0), bX4 tx G vt, bX0 nw G (cnd (fIn (xs (nI (6 * k) + 1).toNatClampNeg) (vp.2 9)) (f_oilN vp vn (xs (nI (6 * k) + 1).toNatClampNeg)) vn), bX0 tr G vr, bX1 un G 8 (cnd (fIn (xs (nI (6 * k) + 1).toNatClampNeg) (vp.2 9)) (pushA 8 nu adu) adu) (cnd (fIn (xs (nI (6 * k) + 1).toNatClampNeg) (vp.2 9)) (pushH 8 nu hvu vn) hvu) (cnd (fIn (xs (nI (6 * k) + 1).toNatClampNeg) (vp.2 9)) (pushN 8 nu) nu), bX1 kp G 2 adk hvk nk, bX5 wy G vy, bX3 rm G vm, bX2 pl G vp, bX2 dr G vd, bX7 a G v] := hD
  refine lv_aload_n hx hb dL_law_413 rfl (lv_at hl 1 rfl) ?_
  refine lv_aload_n hx hb dL_law_414 rfl (lv_at hl 3 rfl) ?_
  refine lv_iload_n hx hb dL_law_415 rfl (lv_at hl 0 rfl) ?_
  refine lv_iconst (v := 1) hx hb dL_law_416 (by decide) ?_
  refine lv_iadd hx hb dL_law_417 ?_
  refine va_sld hx hb hXs hbl hbA hS (show vp_in (nI (6 * k) + 1) L from ixs hL hk (j := 1) (by decide)) dL_law_418 ?_
  refine kcV_s hx hb hml hown hts hX hP hD hS (c_X7_oil l G a v (xs (nI (6 * k) + 1).toNatClampNeg) pd0 pd8 pu0 pu8) gL_law_X7_oil 1 rfl rfl rfl hd_X7_oil ⟨Nat.le_of_ble_eq_true rfl, Nat.le_of_ble_eq_true rfl⟩ [10] (by decide) rfl 10 rfl rfl rfl hl.1 rfl rfl (Nat.le_of_ble_eq_true rfl) dL_law_419 ⟨Nat.le_of_ble_eq_true rfl, Nat.le_of_ble_eq_true rfl⟩ (fun r_ bc_ hq_ H locs hP hD hS => ?_)
  obtain ⟨rfl, rfl⟩ := hq_
  have hP : PP G [bX6 h0 (tx 0) (nw 0) (tr 0) (un 0) (kp 0) (wy 0) (rm 0) (pl 0) (dr 0), bX4 tx G vt, bX0 nw G (cnd (fIn (xs (nI (6 * k) + 1).toNatClampNeg) (vp.2 9)) (f_oilN vp vn (xs (nI (6 * k) + 1).toNatClampNeg)) vn), bX0 tr G vr, bX1 un G 8 (cnd (fIn (xs (nI (6 * k) + 1).toNatClampNeg) (vp.2 9)) (pushA 8 nu adu) adu) (cnd (fIn (xs (nI (6 * k) + 1).toNatClampNeg) (vp.2 9)) (pushH 8 nu hvu vn) hvu) (cnd (fIn (xs (nI (6 * k) + 1).toNatClampNeg) (vp.2 9)) (pushN 8 nu) nu), bX1 kp G 2 adk hvk nk, bX5 wy G vy, bX3 rm G vm, bX2 pl G vp, bX2 dr G vd, bX7 a G (g_oilV v (xs (nI (6 * k) + 1).toNatClampNeg))] H := hP
  have hD : DD (fun q : Nat => s.heap.size ≤ q) [bX6 h0 (tx 0) (nw 0) (tr 0) (un 0) (kp 0) (wy 0) (rm 0) (pl 0) (dr 0), bX4 tx G vt, bX0 nw G (cnd (fIn (xs (nI (6 * k) + 1).toNatClampNeg) (vp.2 9)) (f_oilN vp vn (xs (nI (6 * k) + 1).toNatClampNeg)) vn), bX0 tr G vr, bX1 un G 8 (cnd (fIn (xs (nI (6 * k) + 1).toNatClampNeg) (vp.2 9)) (pushA 8 nu adu) adu) (cnd (fIn (xs (nI (6 * k) + 1).toNatClampNeg) (vp.2 9)) (pushH 8 nu hvu vn) hvu) (cnd (fIn (xs (nI (6 * k) + 1).toNatClampNeg) (vp.2 9)) (pushN 8 nu) nu), bX1 kp G 2 adk hvk nk, bX5 wy G vy, bX3 rm G vm, bX2 pl G vp, bX2 dr G vd, bX7 a G (g_oilV v (xs (nI (6 * k) + 1).toNatClampNeg))] := hD
  refine lv_icmp_eq (tgt := 912) hx hb dL_law_422 (by decide) (fun _ => ?_) (fun c_ => absurd ?_ c_)
  · exact hn tx nw tr un kp wy rm pl dr vt (cnd (fIn (xs (nI (6 * k) + 1).toNatClampNeg) (vp.2 9)) (f_oilN vp vn (xs (nI (6 * k) + 1).toNatClampNeg)) vn) vr (cnd (fIn (xs (nI (6 * k) + 1).toNatClampNeg) (vp.2 9)) (pushA 8 nu adu) adu) (cnd (fIn (xs (nI (6 * k) + 1).toNatClampNeg) (vp.2 9)) (pushH 8 nu hvu vn) hvu) (cnd (fIn (xs (nI (6 * k) + 1).toNatClampNeg) (vp.2 9)) (pushN 8 nu) nu) adk hvk nk vy vm vp vd (g_oilV v (xs (nI (6 * k) + 1).toNatClampNeg)) q H locs ls hP hD hS hl (a_oil hR (xs (nI (6 * k) + 1).toNatClampNeg)).2
  · exact (a_oil hR (xs (nI (6 * k) + 1).toNatClampNeg)).1
set_option maxRecDepth 100000 in
set_option maxHeartbeats 4000000 in
theorem law_night (hE : LE p s m meth c b L xs G) (hk : 6 * k + 6 ≤ L) (hn : Nxt p l e s m below meth c b Z G h0 a 912 k) : Nxt p l e s m below meth c b Z G h0 a 427 k := by
  intro tx nw tr un kp wy rm pl dr vt vn vr adu hvu nu adk hvk nk vy vm vp vd v q H locs ls hP hD hS hl hR
  obtain ⟨hx, hb, hml, hown, hts, hXs, hbl, hX, hL⟩ := hE
  have hbA : ¬ (fun q : Nat => s.heap.size ≤ q) b := Nat.not_le.mpr hbl
  obtain ⟨pd0, pd8, pl0, pl4, pr0, pr6, pen, pto, pat, pln0, pu0, pu8, ⟨hun, hnu8⟩, ⟨hkn, hnk2⟩, ⟨htn, ht2, ht6⟩, ⟨hln, hl1, hl4⟩⟩ := hR.pre
  obtain ⟨cp1, cp2, cp3⟩ := hR.cpre
  obtain ⟨len, hlen, h300⟩ := hR.len
  refine lv_aload_n hx hb dL_law_427 rfl (lv_at hl 2 rfl) ?_
  refine lv_aload_n hx hb dL_law_428 rfl (lv_at hl 3 rfl) ?_
  refine lv_iload_n hx hb dL_law_429 rfl (lv_at hl 0 rfl) ?_
  refine lv_iconst (v := 1) hx hb dL_law_430 (by decide) ?_
  refine lv_iadd hx hb dL_law_431 ?_
  refine va_sld hx hb hXs hbl hbA hS (show vp_in (nI (6 * k) + 1) L from ixs hL hk (j := 1) (by decide)) dL_law_432 ?_
  refine kcV_s hx hb hml hown hts hX hP hD hS (c_X6_night l G h0 tx nw tr un kp wy rm pl dr (xs (nI (6 * k) + 1).toNatClampNeg) vp vn adu hvu nu hnu8) gL_law_X6_night 1 rfl rfl rfl hd_X6_night ⟨Nat.le_of_ble_eq_true rfl, Nat.le_of_ble_eq_true rfl⟩ [0, 8, 2, 4] (by decide) rfl 0 rfl rfl rfl hl.1 rfl rfl (Nat.le_of_ble_eq_true rfl) dL_law_433 ⟨Nat.le_of_ble_eq_true rfl, Nat.le_of_ble_eq_true rfl⟩ (fun r_ bc_ hq_ H locs hP hD hS => ?_)
  obtain ⟨rfl, rfl⟩ := hq_
  have hP : PP G [bX6 h0 (tx 0) (nw 0) (tr 0) (un 0) (kp 0) (wy 0) (rm 0) (pl 0) (dr 0), bX4 tx G vt, bX0 nw G (cnd (okNight vn (xs (nI (6 * k) + 1).toNatClampNeg)) (f_sleeps vp vn (xs (nI (6 * k) + 1).toNatClampNeg).toNatClampNeg) vn), bX0 tr G vr, bX1 un G 8 (cnd (okNight vn (xs (nI (6 * k) + 1).toNatClampNeg)) (pushA 8 nu adu) adu) (cnd (okNight vn (xs (nI (6 * k) + 1).toNatClampNeg)) (pushH 8 nu hvu vn) hvu) (cnd (okNight vn (xs (nI (6 * k) + 1).toNatClampNeg)) (pushN 8 nu) nu), bX1 kp G 2 adk hvk nk, bX5 wy G vy, bX3 rm G vm, bX2 pl G vp, bX2 dr G vd, bX7 a G v] H := hP
  have hD : DD (fun q : Nat => s.heap.size ≤ q) [bX6 h0 (tx 0) (nw 0) (tr 0) (un 0) (kp 0) (wy 0) (rm 0) (pl 0) (dr 0), bX4 tx G vt, bX0 nw G (cnd (okNight vn (xs (nI (6 * k) + 1).toNatClampNeg)) (f_sleeps vp vn (xs (nI (6 * k) + 1).toNatClampNeg).toNatClampNeg) vn), bX0 tr G vr, bX1 un G 8 (cnd (okNight vn (xs (nI (6 * k) + 1).toNatClampNeg)) (pushA 8 nu adu) adu) (cnd (okNight vn (xs (nI (6 * k) + 1).toNatClampNeg)) (pushH 8 nu hvu vn) hvu) (cnd (okNight vn (xs (nI (6 * k) + 1).toNatClampNeg)) (pushN 8 nu) nu), bX1 kp G 2 adk hvk nk, bX5 wy G vy, bX3 rm G vm, bX2 pl G vp, bX2 dr G vd, bX7 a G v] := hD
  refine lv_aload_n hx hb dL_law_436 rfl (lv_at hl 1 rfl) ?_
  refine lv_aload_n hx hb dL_law_437 rfl (lv_at hl 3 rfl) ?_
  refine lv_iload_n hx hb dL_law_438 rfl (lv_at hl 0 rfl) ?_
  refine lv_iconst (v := 1) hx hb dL_law_439 (by decide) ?_
  refine lv_iadd hx hb dL_law_440 ?_
  refine va_sld hx hb hXs hbl hbA hS (show vp_in (nI (6 * k) + 1) L from ixs hL hk (j := 1) (by decide)) dL_law_441 ?_
  refine kcV_s hx hb hml hown hts hX hP hD hS (c_X7_night l G a v (xs (nI (6 * k) + 1).toNatClampNeg) pu0 pu8 pd8 pl4 pto) gL_law_X7_night 1 rfl rfl rfl hd_X7_night ⟨Nat.le_of_ble_eq_true rfl, Nat.le_of_ble_eq_true rfl⟩ [10] (by decide) rfl 10 rfl rfl rfl hl.1 rfl rfl (Nat.le_of_ble_eq_true rfl) dL_law_442 ⟨Nat.le_of_ble_eq_true rfl, Nat.le_of_ble_eq_true rfl⟩ (fun r_ bc_ hq_ H locs hP hD hS => ?_)
  obtain ⟨rfl, rfl⟩ := hq_
  have hP : PP G [bX6 h0 (tx 0) (nw 0) (tr 0) (un 0) (kp 0) (wy 0) (rm 0) (pl 0) (dr 0), bX4 tx G vt, bX0 nw G (cnd (okNight vn (xs (nI (6 * k) + 1).toNatClampNeg)) (f_sleeps vp vn (xs (nI (6 * k) + 1).toNatClampNeg).toNatClampNeg) vn), bX0 tr G vr, bX1 un G 8 (cnd (okNight vn (xs (nI (6 * k) + 1).toNatClampNeg)) (pushA 8 nu adu) adu) (cnd (okNight vn (xs (nI (6 * k) + 1).toNatClampNeg)) (pushH 8 nu hvu vn) hvu) (cnd (okNight vn (xs (nI (6 * k) + 1).toNatClampNeg)) (pushN 8 nu) nu), bX1 kp G 2 adk hvk nk, bX5 wy G vy, bX3 rm G vm, bX2 pl G vp, bX2 dr G vd, bX7 a G (g_nightV v (xs (nI (6 * k) + 1).toNatClampNeg))] H := hP
  have hD : DD (fun q : Nat => s.heap.size ≤ q) [bX6 h0 (tx 0) (nw 0) (tr 0) (un 0) (kp 0) (wy 0) (rm 0) (pl 0) (dr 0), bX4 tx G vt, bX0 nw G (cnd (okNight vn (xs (nI (6 * k) + 1).toNatClampNeg)) (f_sleeps vp vn (xs (nI (6 * k) + 1).toNatClampNeg).toNatClampNeg) vn), bX0 tr G vr, bX1 un G 8 (cnd (okNight vn (xs (nI (6 * k) + 1).toNatClampNeg)) (pushA 8 nu adu) adu) (cnd (okNight vn (xs (nI (6 * k) + 1).toNatClampNeg)) (pushH 8 nu hvu vn) hvu) (cnd (okNight vn (xs (nI (6 * k) + 1).toNatClampNeg)) (pushN 8 nu) nu), bX1 kp G 2 adk hvk nk, bX5 wy G vy, bX3 rm G vm, bX2 pl G vp, bX2 dr G vd, bX7 a G (g_nightV v (xs (nI (6 * k) + 1).toNatClampNeg))] := hD
  refine lv_icmp_eq (tgt := 912) hx hb dL_law_445 (by decide) (fun _ => ?_) (fun c_ => absurd ?_ c_)
  · exact hn tx nw tr un kp wy rm pl dr vt (cnd (okNight vn (xs (nI (6 * k) + 1).toNatClampNeg)) (f_sleeps vp vn (xs (nI (6 * k) + 1).toNatClampNeg).toNatClampNeg) vn) vr (cnd (okNight vn (xs (nI (6 * k) + 1).toNatClampNeg)) (pushA 8 nu adu) adu) (cnd (okNight vn (xs (nI (6 * k) + 1).toNatClampNeg)) (pushH 8 nu hvu vn) hvu) (cnd (okNight vn (xs (nI (6 * k) + 1).toNatClampNeg)) (pushN 8 nu) nu) adk hvk nk vy vm vp vd (g_nightV v (xs (nI (6 * k) + 1).toNatClampNeg)) q H locs ls hP hD hS hl (a_night hR (xs (nI (6 * k) + 1).toNatClampNeg)).2
  · exact (a_night hR (xs (nI (6 * k) + 1).toNatClampNeg)).1
set_option maxRecDepth 100000 in
set_option maxHeartbeats 4000000 in
theorem law_undo (hE : LE p s m meth c b L xs G) (hk : 6 * k + 6 ≤ L) (hn : Nxt p l e s m below meth c b Z G h0 a 912 k) : Nxt p l e s m below meth c b Z G h0 a 450 k := by
  intro tx nw tr un kp wy rm pl dr vt vn vr adu hvu nu adk hvk nk vy vm vp vd v q H locs ls hP hD hS hl hR
  obtain ⟨hx, hb, hml, hown, hts, hXs, hbl, hX, hL⟩ := hE
  have hbA : ¬ (fun q : Nat => s.heap.size ≤ q) b := Nat.not_le.mpr hbl
  obtain ⟨pd0, pd8, pl0, pl4, pr0, pr6, pen, pto, pat, pln0, pu0, pu8, ⟨hun, hnu8⟩, ⟨hkn, hnk2⟩, ⟨htn, ht2, ht6⟩, ⟨hln, hl1, hl4⟩⟩ := hR.pre
  obtain ⟨cp1, cp2, cp3⟩ := hR.cpre
  obtain ⟨len, hlen, h300⟩ := hR.len
  refine lv_aload_n hx hb dL_law_450 rfl (lv_at hl 2 rfl) ?_
  refine kcV_s hx hb hml hown hts hX hP hD hS (c_X6_undo l G h0 tx nw tr un kp wy rm pl dr vn adu hvu nu hnu8) gL_law_X6_undo 0 rfl rfl rfl hd_X6_undo ⟨Nat.le_of_ble_eq_true rfl, Nat.le_of_ble_eq_true rfl⟩ [0, 2, 4] (by decide) rfl 0 rfl rfl rfl hl.1 rfl rfl (Nat.le_of_ble_eq_true rfl) dL_law_451 ⟨Nat.le_of_ble_eq_true rfl, Nat.le_of_ble_eq_true rfl⟩ (fun r_ bc_ hq_ H locs hP hD hS => ?_)
  obtain ⟨rfl, rfl⟩ := hq_
  have hP : PP G [bX6 h0 (tx 0) (nw 0) (tr 0) (un 0) (kp 0) (wy 0) (rm 0) (pl 0) (dr 0), bX4 tx G vt, bX0 nw G (popV nu hvu vn), bX0 tr G vr, bX1 un G 8 adu hvu (nu - 1), bX1 kp G 2 adk hvk nk, bX5 wy G vy, bX3 rm G vm, bX2 pl G vp, bX2 dr G vd, bX7 a G v] H := hP
  have hD : DD (fun q : Nat => s.heap.size ≤ q) [bX6 h0 (tx 0) (nw 0) (tr 0) (un 0) (kp 0) (wy 0) (rm 0) (pl 0) (dr 0), bX4 tx G vt, bX0 nw G (popV nu hvu vn), bX0 tr G vr, bX1 un G 8 adu hvu (nu - 1), bX1 kp G 2 adk hvk nk, bX5 wy G vy, bX3 rm G vm, bX2 pl G vp, bX2 dr G vd, bX7 a G v] := hD
  refine lv_aload_n hx hb dL_law_454 rfl (lv_at hl 1 rfl) ?_
  refine kcV_s hx hb hml hown hts hX hP hD hS (c_X7_undo l G a v nu hun hnu8) gL_law_X7_undo 0 rfl rfl rfl hd_X7_undo ⟨Nat.le_of_ble_eq_true rfl, Nat.le_of_ble_eq_true rfl⟩ [10] (by decide) rfl 10 rfl rfl rfl hl.1 rfl rfl (Nat.le_of_ble_eq_true rfl) dL_law_455 ⟨Nat.le_of_ble_eq_true rfl, Nat.le_of_ble_eq_true rfl⟩ (fun r_ bc_ hq_ H locs hP hD hS => ?_)
  obtain ⟨rfl, rfl⟩ := hq_
  have hP : PP G [bX6 h0 (tx 0) (nw 0) (tr 0) (un 0) (kp 0) (wy 0) (rm 0) (pl 0) (dr 0), bX4 tx G vt, bX0 nw G (popV nu hvu vn), bX0 tr G vr, bX1 un G 8 adu hvu (nu - 1), bX1 kp G 2 adk hvk nk, bX5 wy G vy, bX3 rm G vm, bX2 pl G vp, bX2 dr G vd, bX7 a G (g_undoV v nu)] H := hP
  have hD : DD (fun q : Nat => s.heap.size ≤ q) [bX6 h0 (tx 0) (nw 0) (tr 0) (un 0) (kp 0) (wy 0) (rm 0) (pl 0) (dr 0), bX4 tx G vt, bX0 nw G (popV nu hvu vn), bX0 tr G vr, bX1 un G 8 adu hvu (nu - 1), bX1 kp G 2 adk hvk nk, bX5 wy G vy, bX3 rm G vm, bX2 pl G vp, bX2 dr G vd, bX7 a G (g_undoV v nu)] := hD
  refine lv_icmp_eq (tgt := 912) hx hb dL_law_458 (by decide) (fun _ => ?_) (fun c_ => absurd ?_ c_)
  · exact hn tx nw tr un kp wy rm pl dr vt (popV nu hvu vn) vr adu hvu (nu - 1) adk hvk nk vy vm vp vd (g_undoV v nu) q H locs ls hP hD hS hl (a_undo hR).2
  · exact (a_undo hR).1
set_option maxRecDepth 100000 in
set_option maxHeartbeats 4000000 in
theorem law_way (hE : LE p s m meth c b L xs G) (hk : 6 * k + 6 ≤ L) (hn : Nxt p l e s m below meth c b Z G h0 a 912 k) : Nxt p l e s m below meth c b Z G h0 a 463 k := by
  intro tx nw tr un kp wy rm pl dr vt vn vr adu hvu nu adk hvk nk vy vm vp vd v q H locs ls hP hD hS hl hR
  obtain ⟨hx, hb, hml, hown, hts, hXs, hbl, hX, hL⟩ := hE
  have hbA : ¬ (fun q : Nat => s.heap.size ≤ q) b := Nat.not_le.mpr hbl
  obtain ⟨pd0, pd8, pl0, pl4, pr0, pr6, pen, pto, pat, pln0, pu0, pu8, ⟨hun, hnu8⟩, ⟨hkn, hnk2⟩, ⟨htn, ht2, ht6⟩, ⟨hln, hl1, hl4⟩⟩ := hR.pre
  obtain ⟨cp1, cp2, cp3⟩ := hR.cpre
  obtain ⟨len, hlen, h300⟩ := hR.len
  refine lv_aload_n hx hb dL_law_463 rfl (lv_at hl 2 rfl) ?_
  refine lv_aload_n hx hb dL_law_464 rfl (lv_at hl 3 rfl) ?_
  refine lv_iload_n hx hb dL_law_465 rfl (lv_at hl 0 rfl) ?_
  refine lv_iconst (v := 1) hx hb dL_law_466 (by decide) ?_
  refine lv_iadd hx hb dL_law_467 ?_
  refine va_sld hx hb hXs hbl hbA hS (show vp_in (nI (6 * k) + 1) L from ixs hL hk (j := 1) (by decide)) dL_law_468 ?_
  refine lv_aload_n hx hb dL_law_469 rfl (lv_at hl 3 rfl) ?_
  refine lv_iload_n hx hb dL_law_470 rfl (lv_at hl 0 rfl) ?_
  refine lv_iconst (v := 2) hx hb dL_law_471 (by decide) ?_
  refine lv_iadd hx hb dL_law_472 ?_
  refine va_sld hx hb hXs hbl hbA hS (show vp_in (nI (6 * k) + 2) L from ixs hL hk (j := 2) (by decide)) dL_law_473 ?_
  refine lv_aload_n hx hb dL_law_474 rfl (lv_at hl 3 rfl) ?_
  refine lv_iload_n hx hb dL_law_475 rfl (lv_at hl 0 rfl) ?_
  refine lv_iconst (v := 3) hx hb dL_law_476 (by decide) ?_
  refine lv_iadd hx hb dL_law_477 ?_
  refine va_sld hx hb hXs hbl hbA hS (show vp_in (nI (6 * k) + 3) L from ixs hL hk (j := 3) (by decide)) dL_law_478 ?_
  refine kcV_s hx hb hml hown hts hX hP hD hS (c_X6_way l G h0 tx nw tr un kp wy rm pl dr (xs (nI (6 * k) + 1).toNatClampNeg) (xs (nI (6 * k) + 2).toNatClampNeg) (xs (nI (6 * k) + 3).toNatClampNeg) vp vn vy) gL_law_X6_way 3 rfl rfl rfl hd_X6_way ⟨Nat.le_of_ble_eq_true rfl, Nat.le_of_ble_eq_true rfl⟩ [0, 8, 2, 6] (by decide) rfl 0 rfl rfl rfl hl.1 rfl rfl (Nat.le_of_ble_eq_true rfl) dL_law_479 ⟨Nat.le_of_ble_eq_true rfl, Nat.le_of_ble_eq_true rfl⟩ (fun r_ bc_ hq_ H locs hP hD hS => ?_)
  obtain ⟨rfl, rfl⟩ := hq_
  have hP : PP G [bX6 h0 (tx 0) (nw 0) (tr 0) (un 0) (kp 0) (wy 0) (rm 0) (pl 0) (dr 0), bX4 tx G vt, bX0 nw G vn, bX0 tr G vr, bX1 un G 8 adu hvu nu, bX1 kp G 2 adk hvk nk, bX5 wy G (cnd (okWay vp (xs (nI (6 * k) + 1).toNatClampNeg) (xs (nI (6 * k) + 2).toNatClampNeg) (xs (nI (6 * k) + 3).toNatClampNeg)) (f_X5_measure vy vp vn (xs (nI (6 * k) + 1).toNatClampNeg) (xs (nI (6 * k) + 3).toNatClampNeg) 0) vy), bX3 rm G vm, bX2 pl G vp, bX2 dr G vd, bX7 a G v] H := hP
  have hD : DD (fun q : Nat => s.heap.size ≤ q) [bX6 h0 (tx 0) (nw 0) (tr 0) (un 0) (kp 0) (wy 0) (rm 0) (pl 0) (dr 0), bX4 tx G vt, bX0 nw G vn, bX0 tr G vr, bX1 un G 8 adu hvu nu, bX1 kp G 2 adk hvk nk, bX5 wy G (cnd (okWay vp (xs (nI (6 * k) + 1).toNatClampNeg) (xs (nI (6 * k) + 2).toNatClampNeg) (xs (nI (6 * k) + 3).toNatClampNeg)) (f_X5_measure vy vp vn (xs (nI (6 * k) + 1).toNatClampNeg) (xs (nI (6 * k) + 3).toNatClampNeg) 0) vy), bX3 rm G vm, bX2 pl G vp, bX2 dr G vd, bX7 a G v] := hD
  refine lv_aload_n hx hb dL_law_482 rfl (lv_at hl 1 rfl) ?_
  refine lv_aload_n hx hb dL_law_483 rfl (lv_at hl 3 rfl) ?_
  refine lv_iload_n hx hb dL_law_484 rfl (lv_at hl 0 rfl) ?_
  refine lv_iconst (v := 1) hx hb dL_law_485 (by decide) ?_
  refine lv_iadd hx hb dL_law_486 ?_
  refine va_sld hx hb hXs hbl hbA hS (show vp_in (nI (6 * k) + 1) L from ixs hL hk (j := 1) (by decide)) dL_law_487 ?_
  refine lv_aload_n hx hb dL_law_488 rfl (lv_at hl 3 rfl) ?_
  refine lv_iload_n hx hb dL_law_489 rfl (lv_at hl 0 rfl) ?_
  refine lv_iconst (v := 2) hx hb dL_law_490 (by decide) ?_
  refine lv_iadd hx hb dL_law_491 ?_
  refine va_sld hx hb hXs hbl hbA hS (show vp_in (nI (6 * k) + 2) L from ixs hL hk (j := 2) (by decide)) dL_law_492 ?_
  refine lv_aload_n hx hb dL_law_493 rfl (lv_at hl 3 rfl) ?_
  refine lv_iload_n hx hb dL_law_494 rfl (lv_at hl 0 rfl) ?_
  refine lv_iconst (v := 3) hx hb dL_law_495 (by decide) ?_
  refine lv_iadd hx hb dL_law_496 ?_
  refine va_sld hx hb hXs hbl hbA hS (show vp_in (nI (6 * k) + 3) L from ixs hL hk (j := 3) (by decide)) dL_law_497 ?_
  refine kcV_s hx hb hml hown hts hX hP hD hS (c_X7_way l G a v (xs (nI (6 * k) + 1).toNatClampNeg) (xs (nI (6 * k) + 2).toNatClampNeg) (xs (nI (6 * k) + 3).toNatClampNeg) pd0 pd8 pl0 pl4 pr0 pr6 pen) gL_law_X7_way 3 rfl rfl rfl hd_X7_way ⟨Nat.le_of_ble_eq_true rfl, Nat.le_of_ble_eq_true rfl⟩ [10] (by decide) rfl 10 rfl rfl rfl hl.1 rfl rfl (Nat.le_of_ble_eq_true rfl) dL_law_498 ⟨Nat.le_of_ble_eq_true rfl, Nat.le_of_ble_eq_true rfl⟩ (fun r_ bc_ hq_ H locs hP hD hS => ?_)
  obtain ⟨rfl, rfl⟩ := hq_
  have hP : PP G [bX6 h0 (tx 0) (nw 0) (tr 0) (un 0) (kp 0) (wy 0) (rm 0) (pl 0) (dr 0), bX4 tx G vt, bX0 nw G vn, bX0 tr G vr, bX1 un G 8 adu hvu nu, bX1 kp G 2 adk hvk nk, bX5 wy G (cnd (okWay vp (xs (nI (6 * k) + 1).toNatClampNeg) (xs (nI (6 * k) + 2).toNatClampNeg) (xs (nI (6 * k) + 3).toNatClampNeg)) (f_X5_measure vy vp vn (xs (nI (6 * k) + 1).toNatClampNeg) (xs (nI (6 * k) + 3).toNatClampNeg) 0) vy), bX3 rm G vm, bX2 pl G vp, bX2 dr G vd, bX7 a G (g_wayV v (xs (nI (6 * k) + 1).toNatClampNeg) (xs (nI (6 * k) + 2).toNatClampNeg) (xs (nI (6 * k) + 3).toNatClampNeg))] H := hP
  have hD : DD (fun q : Nat => s.heap.size ≤ q) [bX6 h0 (tx 0) (nw 0) (tr 0) (un 0) (kp 0) (wy 0) (rm 0) (pl 0) (dr 0), bX4 tx G vt, bX0 nw G vn, bX0 tr G vr, bX1 un G 8 adu hvu nu, bX1 kp G 2 adk hvk nk, bX5 wy G (cnd (okWay vp (xs (nI (6 * k) + 1).toNatClampNeg) (xs (nI (6 * k) + 2).toNatClampNeg) (xs (nI (6 * k) + 3).toNatClampNeg)) (f_X5_measure vy vp vn (xs (nI (6 * k) + 1).toNatClampNeg) (xs (nI (6 * k) + 3).toNatClampNeg) 0) vy), bX3 rm G vm, bX2 pl G vp, bX2 dr G vd, bX7 a G (g_wayV v (xs (nI (6 * k) + 1).toNatClampNeg) (xs (nI (6 * k) + 2).toNatClampNeg) (xs (nI (6 * k) + 3).toNatClampNeg))] := hD
  refine lv_icmp_eq (tgt := 912) hx hb dL_law_501 (by decide) (fun _ => ?_) (fun c_ => absurd ?_ c_)
  · exact hn tx nw tr un kp wy rm pl dr vt vn vr adu hvu nu adk hvk nk (cnd (okWay vp (xs (nI (6 * k) + 1).toNatClampNeg) (xs (nI (6 * k) + 2).toNatClampNeg) (xs (nI (6 * k) + 3).toNatClampNeg)) (f_X5_measure vy vp vn (xs (nI (6 * k) + 1).toNatClampNeg) (xs (nI (6 * k) + 3).toNatClampNeg) 0) vy) vm vp vd (g_wayV v (xs (nI (6 * k) + 1).toNatClampNeg) (xs (nI (6 * k) + 2).toNatClampNeg) (xs (nI (6 * k) + 3).toNatClampNeg)) q H locs ls hP hD hS hl (hR.way (xs (nI (6 * k) + 1).toNatClampNeg) (xs (nI (6 * k) + 2).toNatClampNeg) (xs (nI (6 * k) + 3).toNatClampNeg))
  · exact a_way hR vy (xs (nI (6 * k) + 1).toNatClampNeg) (xs (nI (6 * k) + 2).toNatClampNeg) (xs (nI (6 * k) + 3).toNatClampNeg)
set_option maxRecDepth 100000 in
set_option maxHeartbeats 4000000 in
theorem law_first (hE : LE p s m meth c b L xs G) (hk : 6 * k + 6 ≤ L) (hn : Nxt p l e s m below meth c b Z G h0 a 912 k) : Nxt p l e s m below meth c b Z G h0 a 506 k := by
  intro tx nw tr un kp wy rm pl dr vt vn vr adu hvu nu adk hvk nk vy vm vp vd v q H locs ls hP hD hS hl hR
  obtain ⟨hx, hb, hml, hown, hts, hXs, hbl, hX, hL⟩ := hE
  have hbA : ¬ (fun q : Nat => s.heap.size ≤ q) b := Nat.not_le.mpr hbl
  obtain ⟨pd0, pd8, pl0, pl4, pr0, pr6, pen, pto, pat, pln0, pu0, pu8, ⟨hun, hnu8⟩, ⟨hkn, hnk2⟩, ⟨htn, ht2, ht6⟩, ⟨hln, hl1, hl4⟩⟩ := hR.pre
  obtain ⟨cp1, cp2, cp3⟩ := hR.cpre
  obtain ⟨len, hlen, h300⟩ := hR.len
  refine lv_aload_n hx hb dL_law_506 rfl (lv_at hl 2 rfl) ?_
  refine lv_aload_n hx hb dL_law_507 rfl (lv_at hl 3 rfl) ?_
  refine lv_iload_n hx hb dL_law_508 rfl (lv_at hl 0 rfl) ?_
  refine lv_iconst (v := 1) hx hb dL_law_509 (by decide) ?_
  refine lv_iadd hx hb dL_law_510 ?_
  refine va_sld hx hb hXs hbl hbA hS (show vp_in (nI (6 * k) + 1) L from ixs hL hk (j := 1) (by decide)) dL_law_511 ?_
  refine lv_aload_n hx hb dL_law_512 rfl (lv_at hl 3 rfl) ?_
  refine lv_iload_n hx hb dL_law_513 rfl (lv_at hl 0 rfl) ?_
  refine lv_iconst (v := 2) hx hb dL_law_514 (by decide) ?_
  refine lv_iadd hx hb dL_law_515 ?_
  refine va_sld hx hb hXs hbl hbA hS (show vp_in (nI (6 * k) + 2) L from ixs hL hk (j := 2) (by decide)) dL_law_516 ?_
  refine lv_aload_n hx hb dL_law_517 rfl (lv_at hl 3 rfl) ?_
  refine lv_iload_n hx hb dL_law_518 rfl (lv_at hl 0 rfl) ?_
  refine lv_iconst (v := 3) hx hb dL_law_519 (by decide) ?_
  refine lv_iadd hx hb dL_law_520 ?_
  refine va_sld hx hb hXs hbl hbA hS (show vp_in (nI (6 * k) + 3) L from ixs hL hk (j := 3) (by decide)) dL_law_521 ?_
  refine kcV_s hx hb hml hown hts hX hP hD hS (c_X6_first l G h0 tx nw tr un kp wy rm pl dr (xs (nI (6 * k) + 1).toNatClampNeg) (xs (nI (6 * k) + 2).toNatClampNeg) (xs (nI (6 * k) + 3).toNatClampNeg) vp vn vy) gL_law_X6_first 3 rfl rfl rfl hd_X6_first ⟨Nat.le_of_ble_eq_true rfl, Nat.le_of_ble_eq_true rfl⟩ [0, 8, 2, 6] (by decide) rfl 0 rfl rfl rfl hl.1 rfl rfl (Nat.le_of_ble_eq_true rfl) dL_law_522 ⟨Nat.le_of_ble_eq_true rfl, Nat.le_of_ble_eq_true rfl⟩ (fun r_ bc_ hq_ H locs hP hD hS => ?_)
  obtain ⟨rfl, rfl⟩ := hq_
  have hP : PP G [bX6 h0 (tx 0) (nw 0) (tr 0) (un 0) (kp 0) (wy 0) (rm 0) (pl 0) (dr 0), bX4 tx G vt, bX0 nw G vn, bX0 tr G vr, bX1 un G 8 adu hvu nu, bX1 kp G 2 adk hvk nk, bX5 wy G (cnd (okWay vp (xs (nI (6 * k) + 1).toNatClampNeg) (xs (nI (6 * k) + 2).toNatClampNeg) (xs (nI (6 * k) + 3).toNatClampNeg)) (f_X5_measure vy vp vn (xs (nI (6 * k) + 1).toNatClampNeg) (xs (nI (6 * k) + 3).toNatClampNeg) 0) vy), bX3 rm G vm, bX2 pl G vp, bX2 dr G vd, bX7 a G v] H := hP
  have hD : DD (fun q : Nat => s.heap.size ≤ q) [bX6 h0 (tx 0) (nw 0) (tr 0) (un 0) (kp 0) (wy 0) (rm 0) (pl 0) (dr 0), bX4 tx G vt, bX0 nw G vn, bX0 tr G vr, bX1 un G 8 adu hvu nu, bX1 kp G 2 adk hvk nk, bX5 wy G (cnd (okWay vp (xs (nI (6 * k) + 1).toNatClampNeg) (xs (nI (6 * k) + 2).toNatClampNeg) (xs (nI (6 * k) + 3).toNatClampNeg)) (f_X5_measure vy vp vn (xs (nI (6 * k) + 1).toNatClampNeg) (xs (nI (6 * k) + 3).toNatClampNeg) 0) vy), bX3 rm G vm, bX2 pl G vp, bX2 dr G vd, bX7 a G v] := hD
  refine lv_aload_n hx hb dL_law_525 rfl (lv_at hl 1 rfl) ?_
  refine lv_aload_n hx hb dL_law_526 rfl (lv_at hl 3 rfl) ?_
  refine lv_iload_n hx hb dL_law_527 rfl (lv_at hl 0 rfl) ?_
  refine lv_iconst (v := 1) hx hb dL_law_528 (by decide) ?_
  refine lv_iadd hx hb dL_law_529 ?_
  refine va_sld hx hb hXs hbl hbA hS (show vp_in (nI (6 * k) + 1) L from ixs hL hk (j := 1) (by decide)) dL_law_530 ?_
  refine lv_aload_n hx hb dL_law_531 rfl (lv_at hl 3 rfl) ?_
  refine lv_iload_n hx hb dL_law_532 rfl (lv_at hl 0 rfl) ?_
  refine lv_iconst (v := 2) hx hb dL_law_533 (by decide) ?_
  refine lv_iadd hx hb dL_law_534 ?_
  refine va_sld hx hb hXs hbl hbA hS (show vp_in (nI (6 * k) + 2) L from ixs hL hk (j := 2) (by decide)) dL_law_535 ?_
  refine lv_aload_n hx hb dL_law_536 rfl (lv_at hl 3 rfl) ?_
  refine lv_iload_n hx hb dL_law_537 rfl (lv_at hl 0 rfl) ?_
  refine lv_iconst (v := 3) hx hb dL_law_538 (by decide) ?_
  refine lv_iadd hx hb dL_law_539 ?_
  refine va_sld hx hb hXs hbl hbA hS (show vp_in (nI (6 * k) + 3) L from ixs hL hk (j := 3) (by decide)) dL_law_540 ?_
  refine kcV_s hx hb hml hown hts hX hP hD hS (c_X7_first l G a v (xs (nI (6 * k) + 1).toNatClampNeg) (xs (nI (6 * k) + 2).toNatClampNeg) (xs (nI (6 * k) + 3).toNatClampNeg) pd0 pd8 pl0 pl4 pr0 pr6 pen) gL_law_X7_first 3 rfl rfl rfl hd_X7_first ⟨Nat.le_of_ble_eq_true rfl, Nat.le_of_ble_eq_true rfl⟩ [10] (by decide) rfl 10 rfl rfl rfl hl.1 rfl rfl (Nat.le_of_ble_eq_true rfl) dL_law_541 ⟨Nat.le_of_ble_eq_true rfl, Nat.le_of_ble_eq_true rfl⟩ (fun r_ bc_ hq_ H locs hP hD hS => ?_)
  obtain ⟨rfl, rfl⟩ := hq_
  have hP : PP G [bX6 h0 (tx 0) (nw 0) (tr 0) (un 0) (kp 0) (wy 0) (rm 0) (pl 0) (dr 0), bX4 tx G vt, bX0 nw G vn, bX0 tr G vr, bX1 un G 8 adu hvu nu, bX1 kp G 2 adk hvk nk, bX5 wy G (cnd (okWay vp (xs (nI (6 * k) + 1).toNatClampNeg) (xs (nI (6 * k) + 2).toNatClampNeg) (xs (nI (6 * k) + 3).toNatClampNeg)) (f_X5_measure vy vp vn (xs (nI (6 * k) + 1).toNatClampNeg) (xs (nI (6 * k) + 3).toNatClampNeg) 0) vy), bX3 rm G vm, bX2 pl G vp, bX2 dr G vd, bX7 a G (g_wayV v (xs (nI (6 * k) + 1).toNatClampNeg) (xs (nI (6 * k) + 2).toNatClampNeg) (xs (nI (6 * k) + 3).toNatClampNeg))] H := hP
  have hD : DD (fun q : Nat => s.heap.size ≤ q) [bX6 h0 (tx 0) (nw 0) (tr 0) (un 0) (kp 0) (wy 0) (rm 0) (pl 0) (dr 0), bX4 tx G vt, bX0 nw G vn, bX0 tr G vr, bX1 un G 8 adu hvu nu, bX1 kp G 2 adk hvk nk, bX5 wy G (cnd (okWay vp (xs (nI (6 * k) + 1).toNatClampNeg) (xs (nI (6 * k) + 2).toNatClampNeg) (xs (nI (6 * k) + 3).toNatClampNeg)) (f_X5_measure vy vp vn (xs (nI (6 * k) + 1).toNatClampNeg) (xs (nI (6 * k) + 3).toNatClampNeg) 0) vy), bX3 rm G vm, bX2 pl G vp, bX2 dr G vd, bX7 a G (g_wayV v (xs (nI (6 * k) + 1).toNatClampNeg) (xs (nI (6 * k) + 2).toNatClampNeg) (xs (nI (6 * k) + 3).toNatClampNeg))] := hD
  refine lv_icmp_eq (tgt := 912) hx hb dL_law_544 (by decide) (fun _ => ?_) (fun c_ => absurd ?_ c_)
  · exact hn tx nw tr un kp wy rm pl dr vt vn vr adu hvu nu adk hvk nk (cnd (okWay vp (xs (nI (6 * k) + 1).toNatClampNeg) (xs (nI (6 * k) + 2).toNatClampNeg) (xs (nI (6 * k) + 3).toNatClampNeg)) (f_X5_measure vy vp vn (xs (nI (6 * k) + 1).toNatClampNeg) (xs (nI (6 * k) + 3).toNatClampNeg) 0) vy) vm vp vd (g_wayV v (xs (nI (6 * k) + 1).toNatClampNeg) (xs (nI (6 * k) + 2).toNatClampNeg) (xs (nI (6 * k) + 3).toNatClampNeg)) q H locs ls hP hD hS hl (hR.way (xs (nI (6 * k) + 1).toNatClampNeg) (xs (nI (6 * k) + 2).toNatClampNeg) (xs (nI (6 * k) + 3).toNatClampNeg))
  · exact a_first hR vy (xs (nI (6 * k) + 1).toNatClampNeg) (xs (nI (6 * k) + 2).toNatClampNeg) (xs (nI (6 * k) + 3).toNatClampNeg)
set_option maxRecDepth 100000 in
set_option maxHeartbeats 4000000 in
theorem law_inTime (hE : LE p s m meth c b L xs G) (hk : 6 * k + 6 ≤ L) (hn : Nxt p l e s m below meth c b Z G h0 a 912 k) : Nxt p l e s m below meth c b Z G h0 a 549 k := by
  intro tx nw tr un kp wy rm pl dr vt vn vr adu hvu nu adk hvk nk vy vm vp vd v q H locs ls hP hD hS hl hR
  obtain ⟨hx, hb, hml, hown, hts, hXs, hbl, hX, hL⟩ := hE
  have hbA : ¬ (fun q : Nat => s.heap.size ≤ q) b := Nat.not_le.mpr hbl
  obtain ⟨pd0, pd8, pl0, pl4, pr0, pr6, pen, pto, pat, pln0, pu0, pu8, ⟨hun, hnu8⟩, ⟨hkn, hnk2⟩, ⟨htn, ht2, ht6⟩, ⟨hln, hl1, hl4⟩⟩ := hR.pre
  obtain ⟨cp1, cp2, cp3⟩ := hR.cpre
  obtain ⟨len, hlen, h300⟩ := hR.len
  refine lv_aload_n hx hb dL_law_549 rfl (lv_at hl 2 rfl) ?_
  refine lv_aload_n hx hb dL_law_550 rfl (lv_at hl 3 rfl) ?_
  refine lv_iload_n hx hb dL_law_551 rfl (lv_at hl 0 rfl) ?_
  refine lv_iconst (v := 1) hx hb dL_law_552 (by decide) ?_
  refine lv_iadd hx hb dL_law_553 ?_
  refine va_sld hx hb hXs hbl hbA hS (show vp_in (nI (6 * k) + 1) L from ixs hL hk (j := 1) (by decide)) dL_law_554 ?_
  refine lv_aload_n hx hb dL_law_555 rfl (lv_at hl 3 rfl) ?_
  refine lv_iload_n hx hb dL_law_556 rfl (lv_at hl 0 rfl) ?_
  refine lv_iconst (v := 2) hx hb dL_law_557 (by decide) ?_
  refine lv_iadd hx hb dL_law_558 ?_
  refine va_sld hx hb hXs hbl hbA hS (show vp_in (nI (6 * k) + 2) L from ixs hL hk (j := 2) (by decide)) dL_law_559 ?_
  refine kcV_s hx hb hml hown hts hX hP hD hS (c_X6_inTime l G h0 tx nw tr un kp wy rm pl dr (xs (nI (6 * k) + 1).toNatClampNeg) (xs (nI (6 * k) + 2).toNatClampNeg) vp vn vy cp1 cp2) gL_law_X6_inTime 2 rfl rfl rfl hd_X6_inTime ⟨Nat.le_of_ble_eq_true rfl, Nat.le_of_ble_eq_true rfl⟩ [0, 8, 2, 6] (by decide) rfl 0 rfl rfl rfl hl.1 rfl rfl (Nat.le_of_ble_eq_true rfl) dL_law_560 ⟨Nat.le_of_ble_eq_true rfl, Nat.le_of_ble_eq_true rfl⟩ (fun r_ bc_ hq_ H locs hP hD hS => ?_)
  obtain ⟨rfl, rfl⟩ := hq_
  have hP : PP G [bX6 h0 (tx 0) (nw 0) (tr 0) (un 0) (kp 0) (wy 0) (rm 0) (pl 0) (dr 0), bX4 tx G vt, bX0 nw G vn, bX0 tr G vr, bX1 un G 8 adu hvu nu, bX1 kp G 2 adk hvk nk, bX5 wy G (cnd (okInT vp (xs (nI (6 * k) + 1).toNatClampNeg) (xs (nI (6 * k) + 2).toNatClampNeg)) (f_inT vp vn vy (xs (nI (6 * k) + 1).toNatClampNeg) (xs (nI (6 * k) + 2).toNatClampNeg)).2 vy), bX3 rm G vm, bX2 pl G vp, bX2 dr G vd, bX7 a G v] H := hP
  have hD : DD (fun q : Nat => s.heap.size ≤ q) [bX6 h0 (tx 0) (nw 0) (tr 0) (un 0) (kp 0) (wy 0) (rm 0) (pl 0) (dr 0), bX4 tx G vt, bX0 nw G vn, bX0 tr G vr, bX1 un G 8 adu hvu nu, bX1 kp G 2 adk hvk nk, bX5 wy G (cnd (okInT vp (xs (nI (6 * k) + 1).toNatClampNeg) (xs (nI (6 * k) + 2).toNatClampNeg)) (f_inT vp vn vy (xs (nI (6 * k) + 1).toNatClampNeg) (xs (nI (6 * k) + 2).toNatClampNeg)).2 vy), bX3 rm G vm, bX2 pl G vp, bX2 dr G vd, bX7 a G v] := hD
  refine lv_aload_n hx hb dL_law_563 rfl (lv_at hl 1 rfl) ?_
  refine lv_aload_n hx hb dL_law_564 rfl (lv_at hl 3 rfl) ?_
  refine lv_iload_n hx hb dL_law_565 rfl (lv_at hl 0 rfl) ?_
  refine lv_iconst (v := 1) hx hb dL_law_566 (by decide) ?_
  refine lv_iadd hx hb dL_law_567 ?_
  refine va_sld hx hb hXs hbl hbA hS (show vp_in (nI (6 * k) + 1) L from ixs hL hk (j := 1) (by decide)) dL_law_568 ?_
  refine lv_aload_n hx hb dL_law_569 rfl (lv_at hl 3 rfl) ?_
  refine lv_iload_n hx hb dL_law_570 rfl (lv_at hl 0 rfl) ?_
  refine lv_iconst (v := 2) hx hb dL_law_571 (by decide) ?_
  refine lv_iadd hx hb dL_law_572 ?_
  refine va_sld hx hb hXs hbl hbA hS (show vp_in (nI (6 * k) + 2) L from ixs hL hk (j := 2) (by decide)) dL_law_573 ?_
  refine kcV_s hx hb hml hown hts hX hP hD hS (c_X7_inTime l G a v (xs (nI (6 * k) + 1).toNatClampNeg) (xs (nI (6 * k) + 2).toNatClampNeg) pd0 pd8 pl0 pl4 pen pat) gL_law_X7_inTime 2 rfl rfl rfl hd_X7_inTime ⟨Nat.le_of_ble_eq_true rfl, Nat.le_of_ble_eq_true rfl⟩ [10] (by decide) rfl 10 rfl rfl rfl hl.1 rfl rfl (Nat.le_of_ble_eq_true rfl) dL_law_574 ⟨Nat.le_of_ble_eq_true rfl, Nat.le_of_ble_eq_true rfl⟩ (fun r_ bc_ hq_ H locs hP hD hS => ?_)
  obtain ⟨rfl, rfl⟩ := hq_
  have hP : PP G [bX6 h0 (tx 0) (nw 0) (tr 0) (un 0) (kp 0) (wy 0) (rm 0) (pl 0) (dr 0), bX4 tx G vt, bX0 nw G vn, bX0 tr G vr, bX1 un G 8 adu hvu nu, bX1 kp G 2 adk hvk nk, bX5 wy G (cnd (okInT vp (xs (nI (6 * k) + 1).toNatClampNeg) (xs (nI (6 * k) + 2).toNatClampNeg)) (f_inT vp vn vy (xs (nI (6 * k) + 1).toNatClampNeg) (xs (nI (6 * k) + 2).toNatClampNeg)).2 vy), bX3 rm G vm, bX2 pl G vp, bX2 dr G vd, bX7 a G (g_inTimeV v (xs (nI (6 * k) + 1).toNatClampNeg) (xs (nI (6 * k) + 2).toNatClampNeg))] H := hP
  have hD : DD (fun q : Nat => s.heap.size ≤ q) [bX6 h0 (tx 0) (nw 0) (tr 0) (un 0) (kp 0) (wy 0) (rm 0) (pl 0) (dr 0), bX4 tx G vt, bX0 nw G vn, bX0 tr G vr, bX1 un G 8 adu hvu nu, bX1 kp G 2 adk hvk nk, bX5 wy G (cnd (okInT vp (xs (nI (6 * k) + 1).toNatClampNeg) (xs (nI (6 * k) + 2).toNatClampNeg)) (f_inT vp vn vy (xs (nI (6 * k) + 1).toNatClampNeg) (xs (nI (6 * k) + 2).toNatClampNeg)).2 vy), bX3 rm G vm, bX2 pl G vp, bX2 dr G vd, bX7 a G (g_inTimeV v (xs (nI (6 * k) + 1).toNatClampNeg) (xs (nI (6 * k) + 2).toNatClampNeg))] := hD
  refine lv_icmp_eq (tgt := 912) hx hb dL_law_577 (by decide) (fun _ => ?_) (fun c_ => absurd ?_ c_)
  · exact hn tx nw tr un kp wy rm pl dr vt vn vr adu hvu nu adk hvk nk (cnd (okInT vp (xs (nI (6 * k) + 1).toNatClampNeg) (xs (nI (6 * k) + 2).toNatClampNeg)) (f_inT vp vn vy (xs (nI (6 * k) + 1).toNatClampNeg) (xs (nI (6 * k) + 2).toNatClampNeg)).2 vy) vm vp vd (g_inTimeV v (xs (nI (6 * k) + 1).toNatClampNeg) (xs (nI (6 * k) + 2).toNatClampNeg)) q H locs ls hP hD hS hl (hR.inTime (xs (nI (6 * k) + 1).toNatClampNeg) (xs (nI (6 * k) + 2).toNatClampNeg))
  · exact a_inTime hR vy (xs (nI (6 * k) + 1).toNatClampNeg) (xs (nI (6 * k) + 2).toNatClampNeg)
set_option maxRecDepth 100000 in
set_option maxHeartbeats 4000000 in
theorem law_rooms (hE : LE p s m meth c b L xs G) (hk : 6 * k + 6 ≤ L) (hn : Nxt p l e s m below meth c b Z G h0 a 912 k) : Nxt p l e s m below meth c b Z G h0 a 582 k := by
  intro tx nw tr un kp wy rm pl dr vt vn vr adu hvu nu adk hvk nk vy vm vp vd v q H locs ls hP hD hS hl hR
  obtain ⟨hx, hb, hml, hown, hts, hXs, hbl, hX, hL⟩ := hE
  have hbA : ¬ (fun q : Nat => s.heap.size ≤ q) b := Nat.not_le.mpr hbl
  obtain ⟨pd0, pd8, pl0, pl4, pr0, pr6, pen, pto, pat, pln0, pu0, pu8, ⟨hun, hnu8⟩, ⟨hkn, hnk2⟩, ⟨htn, ht2, ht6⟩, ⟨hln, hl1, hl4⟩⟩ := hR.pre
  obtain ⟨cp1, cp2, cp3⟩ := hR.cpre
  obtain ⟨len, hlen, h300⟩ := hR.len
  refine lv_aload_n hx hb dL_law_582 rfl (lv_at hl 2 rfl) ?_
  refine lv_aload_n hx hb dL_law_583 rfl (lv_at hl 3 rfl) ?_
  refine lv_iload_n hx hb dL_law_584 rfl (lv_at hl 0 rfl) ?_
  refine lv_iconst (v := 1) hx hb dL_law_585 (by decide) ?_
  refine lv_iadd hx hb dL_law_586 ?_
  refine va_sld hx hb hXs hbl hbA hS (show vp_in (nI (6 * k) + 1) L from ixs hL hk (j := 1) (by decide)) dL_law_587 ?_
  refine kcV_s hx hb hml hown hts hX hP hD hS (c_X6_rooms l G h0 tx nw tr un kp wy rm pl dr (xs (nI (6 * k) + 1).toNatClampNeg) vp vn vy vm cp3) gL_law_X6_rooms 1 rfl rfl rfl hd_X6_rooms ⟨Nat.le_of_ble_eq_true rfl, Nat.le_of_ble_eq_true rfl⟩ [0, 8, 2, 6, 7] (by decide) rfl 0 rfl rfl rfl hl.1 rfl rfl (Nat.le_of_ble_eq_true rfl) dL_law_588 ⟨Nat.le_of_ble_eq_true rfl, Nat.le_of_ble_eq_true rfl⟩ (fun r_ bc_ hq_ H locs hP hD hS => ?_)
  obtain ⟨rfl, rfl⟩ := hq_
  have hP : PP G [bX6 h0 (tx 0) (nw 0) (tr 0) (un 0) (kp 0) (wy 0) (rm 0) (pl 0) (dr 0), bX4 tx G vt, bX0 nw G vn, bX0 tr G vr, bX1 un G 8 adu hvu nu, bX1 kp G 2 adk hvk nk, bX5 wy G (cnd (okRooms vp (xs (nI (6 * k) + 1).toNatClampNeg)) (f_rm vm vp vn vy).2 vy), bX3 rm G (cnd (okRooms vp (xs (nI (6 * k) + 1).toNatClampNeg)) (f_X3_measure vm vp vn vy) vm), bX2 pl G vp, bX2 dr G vd, bX7 a G v] H := hP
  have hD : DD (fun q : Nat => s.heap.size ≤ q) [bX6 h0 (tx 0) (nw 0) (tr 0) (un 0) (kp 0) (wy 0) (rm 0) (pl 0) (dr 0), bX4 tx G vt, bX0 nw G vn, bX0 tr G vr, bX1 un G 8 adu hvu nu, bX1 kp G 2 adk hvk nk, bX5 wy G (cnd (okRooms vp (xs (nI (6 * k) + 1).toNatClampNeg)) (f_rm vm vp vn vy).2 vy), bX3 rm G (cnd (okRooms vp (xs (nI (6 * k) + 1).toNatClampNeg)) (f_X3_measure vm vp vn vy) vm), bX2 pl G vp, bX2 dr G vd, bX7 a G v] := hD
  refine lv_aload_n hx hb dL_law_591 rfl (lv_at hl 1 rfl) ?_
  refine lv_aload_n hx hb dL_law_592 rfl (lv_at hl 3 rfl) ?_
  refine lv_iload_n hx hb dL_law_593 rfl (lv_at hl 0 rfl) ?_
  refine lv_iconst (v := 1) hx hb dL_law_594 (by decide) ?_
  refine lv_iadd hx hb dL_law_595 ?_
  refine va_sld hx hb hXs hbl hbA hS (show vp_in (nI (6 * k) + 1) L from ixs hL hk (j := 1) (by decide)) dL_law_596 ?_
  refine kcV_s hx hb hml hown hts hX hP hD hS (c_X7_rooms l G a v (xs (nI (6 * k) + 1).toNatClampNeg) (q.2 8) (q.2 10) htn ht2 ht6 hln hl4 pd8 pen) gL_law_X7_rooms 1 rfl rfl rfl hd_X7_rooms ⟨Nat.le_of_ble_eq_true rfl, Nat.le_of_ble_eq_true rfl⟩ [10] (by decide) rfl 10 rfl rfl rfl hl.1 rfl rfl (Nat.le_of_ble_eq_true rfl) dL_law_597 ⟨Nat.le_of_ble_eq_true rfl, Nat.le_of_ble_eq_true rfl⟩ (fun r_ bc_ hq_ H locs hP hD hS => ?_)
  obtain ⟨rfl, rfl⟩ := hq_
  have hP : PP G [bX6 h0 (tx 0) (nw 0) (tr 0) (un 0) (kp 0) (wy 0) (rm 0) (pl 0) (dr 0), bX4 tx G vt, bX0 nw G vn, bX0 tr G vr, bX1 un G 8 adu hvu nu, bX1 kp G 2 adk hvk nk, bX5 wy G (cnd (okRooms vp (xs (nI (6 * k) + 1).toNatClampNeg)) (f_rm vm vp vn vy).2 vy), bX3 rm G (cnd (okRooms vp (xs (nI (6 * k) + 1).toNatClampNeg)) (f_X3_measure vm vp vn vy) vm), bX2 pl G vp, bX2 dr G vd, bX7 a G (g_roomsV v (q.2 8) (q.2 10) (xs (nI (6 * k) + 1).toNatClampNeg))] H := hP
  have hD : DD (fun q : Nat => s.heap.size ≤ q) [bX6 h0 (tx 0) (nw 0) (tr 0) (un 0) (kp 0) (wy 0) (rm 0) (pl 0) (dr 0), bX4 tx G vt, bX0 nw G vn, bX0 tr G vr, bX1 un G 8 adu hvu nu, bX1 kp G 2 adk hvk nk, bX5 wy G (cnd (okRooms vp (xs (nI (6 * k) + 1).toNatClampNeg)) (f_rm vm vp vn vy).2 vy), bX3 rm G (cnd (okRooms vp (xs (nI (6 * k) + 1).toNatClampNeg)) (f_X3_measure vm vp vn vy) vm), bX2 pl G vp, bX2 dr G vd, bX7 a G (g_roomsV v (q.2 8) (q.2 10) (xs (nI (6 * k) + 1).toNatClampNeg))] := hD
  refine lv_icmp_eq (tgt := 912) hx hb dL_law_600 (by decide) (fun _ => ?_) (fun c_ => absurd ?_ c_)
  · exact hn tx nw tr un kp wy rm pl dr vt vn vr adu hvu nu adk hvk nk (cnd (okRooms vp (xs (nI (6 * k) + 1).toNatClampNeg)) (f_rm vm vp vn vy).2 vy) (cnd (okRooms vp (xs (nI (6 * k) + 1).toNatClampNeg)) (f_X3_measure vm vp vn vy) vm) vp vd (g_roomsV v (q.2 8) (q.2 10) (xs (nI (6 * k) + 1).toNatClampNeg)) q H locs ls hP hD hS hl (hR.rooms (xs (nI (6 * k) + 1).toNatClampNeg))
  · exact a_rooms hR vy vm (xs (nI (6 * k) + 1).toNatClampNeg)
set_option maxRecDepth 100000 in
set_option maxHeartbeats 4000000 in
theorem law_behind (hE : LE p s m meth c b L xs G) (hk : 6 * k + 6 ≤ L) (hn : Nxt p l e s m below meth c b Z G h0 a 912 k) : Nxt p l e s m below meth c b Z G h0 a 605 k := by
  intro tx nw tr un kp wy rm pl dr vt vn vr adu hvu nu adk hvk nk vy vm vp vd v q H locs ls hP hD hS hl hR
  obtain ⟨hx, hb, hml, hown, hts, hXs, hbl, hX, hL⟩ := hE
  have hbA : ¬ (fun q : Nat => s.heap.size ≤ q) b := Nat.not_le.mpr hbl
  obtain ⟨pd0, pd8, pl0, pl4, pr0, pr6, pen, pto, pat, pln0, pu0, pu8, ⟨hun, hnu8⟩, ⟨hkn, hnk2⟩, ⟨htn, ht2, ht6⟩, ⟨hln, hl1, hl4⟩⟩ := hR.pre
  obtain ⟨cp1, cp2, cp3⟩ := hR.cpre
  obtain ⟨len, hlen, h300⟩ := hR.len
  refine lv_aload_n hx hb dL_law_605 rfl (lv_at hl 2 rfl) ?_
  refine lv_aload_n hx hb dL_law_606 rfl (lv_at hl 3 rfl) ?_
  refine lv_iload_n hx hb dL_law_607 rfl (lv_at hl 0 rfl) ?_
  refine lv_iconst (v := 1) hx hb dL_law_608 (by decide) ?_
  refine lv_iadd hx hb dL_law_609 ?_
  refine va_sld hx hb hXs hbl hbA hS (show vp_in (nI (6 * k) + 1) L from ixs hL hk (j := 1) (by decide)) dL_law_610 ?_
  refine lv_aload_n hx hb dL_law_611 rfl (lv_at hl 3 rfl) ?_
  refine lv_iload_n hx hb dL_law_612 rfl (lv_at hl 0 rfl) ?_
  refine lv_iconst (v := 2) hx hb dL_law_613 (by decide) ?_
  refine lv_iadd hx hb dL_law_614 ?_
  refine va_sld hx hb hXs hbl hbA hS (show vp_in (nI (6 * k) + 2) L from ixs hL hk (j := 2) (by decide)) dL_law_615 ?_
  refine lv_aload_n hx hb dL_law_616 rfl (lv_at hl 3 rfl) ?_
  refine lv_iload_n hx hb dL_law_617 rfl (lv_at hl 0 rfl) ?_
  refine lv_iconst (v := 3) hx hb dL_law_618 (by decide) ?_
  refine lv_iadd hx hb dL_law_619 ?_
  refine va_sld hx hb hXs hbl hbA hS (show vp_in (nI (6 * k) + 3) L from ixs hL hk (j := 3) (by decide)) dL_law_620 ?_
  refine kcV_s hx hb hml hown hts hX hP hD hS (c_X6_behind l G h0 tx nw tr un kp wy rm pl dr (xs (nI (6 * k) + 1).toNatClampNeg) (xs (nI (6 * k) + 2).toNatClampNeg) (xs (nI (6 * k) + 3).toNatClampNeg) vp vn vr) gL_law_X6_behind 3 rfl rfl rfl hd_X6_behind ⟨Nat.le_of_ble_eq_true rfl, Nat.le_of_ble_eq_true rfl⟩ [0, 8, 2, 3] (by decide) rfl 0 rfl rfl rfl hl.1 rfl rfl (Nat.le_of_ble_eq_true rfl) dL_law_621 ⟨Nat.le_of_ble_eq_true rfl, Nat.le_of_ble_eq_true rfl⟩ (fun r_ bc_ hq_ H locs hP hD hS => ?_)
  obtain ⟨rfl, rfl⟩ := hq_
  have hP : PP G [bX6 h0 (tx 0) (nw 0) (tr 0) (un 0) (kp 0) (wy 0) (rm 0) (pl 0) (dr 0), bX4 tx G vt, bX0 nw G vn, bX0 tr G (cnd (okBeh vp (xs (nI (6 * k) + 1).toNatClampNeg) (xs (nI (6 * k) + 2).toNatClampNeg) (xs (nI (6 * k) + 3).toNatClampNeg)) (f_beh vp vn vr (xs (nI (6 * k) + 1).toNatClampNeg) (xs (nI (6 * k) + 3).toNatClampNeg)) vr), bX1 un G 8 adu hvu nu, bX1 kp G 2 adk hvk nk, bX5 wy G vy, bX3 rm G vm, bX2 pl G vp, bX2 dr G vd, bX7 a G v] H := hP
  have hD : DD (fun q : Nat => s.heap.size ≤ q) [bX6 h0 (tx 0) (nw 0) (tr 0) (un 0) (kp 0) (wy 0) (rm 0) (pl 0) (dr 0), bX4 tx G vt, bX0 nw G vn, bX0 tr G (cnd (okBeh vp (xs (nI (6 * k) + 1).toNatClampNeg) (xs (nI (6 * k) + 2).toNatClampNeg) (xs (nI (6 * k) + 3).toNatClampNeg)) (f_beh vp vn vr (xs (nI (6 * k) + 1).toNatClampNeg) (xs (nI (6 * k) + 3).toNatClampNeg)) vr), bX1 un G 8 adu hvu nu, bX1 kp G 2 adk hvk nk, bX5 wy G vy, bX3 rm G vm, bX2 pl G vp, bX2 dr G vd, bX7 a G v] := hD
  refine lv_aload_n hx hb dL_law_624 rfl (lv_at hl 1 rfl) ?_
  refine lv_aload_n hx hb dL_law_625 rfl (lv_at hl 3 rfl) ?_
  refine lv_iload_n hx hb dL_law_626 rfl (lv_at hl 0 rfl) ?_
  refine lv_iconst (v := 1) hx hb dL_law_627 (by decide) ?_
  refine lv_iadd hx hb dL_law_628 ?_
  refine va_sld hx hb hXs hbl hbA hS (show vp_in (nI (6 * k) + 1) L from ixs hL hk (j := 1) (by decide)) dL_law_629 ?_
  refine lv_aload_n hx hb dL_law_630 rfl (lv_at hl 3 rfl) ?_
  refine lv_iload_n hx hb dL_law_631 rfl (lv_at hl 0 rfl) ?_
  refine lv_iconst (v := 2) hx hb dL_law_632 (by decide) ?_
  refine lv_iadd hx hb dL_law_633 ?_
  refine va_sld hx hb hXs hbl hbA hS (show vp_in (nI (6 * k) + 2) L from ixs hL hk (j := 2) (by decide)) dL_law_634 ?_
  refine lv_aload_n hx hb dL_law_635 rfl (lv_at hl 3 rfl) ?_
  refine lv_iload_n hx hb dL_law_636 rfl (lv_at hl 0 rfl) ?_
  refine lv_iconst (v := 3) hx hb dL_law_637 (by decide) ?_
  refine lv_iadd hx hb dL_law_638 ?_
  refine va_sld hx hb hXs hbl hbA hS (show vp_in (nI (6 * k) + 3) L from ixs hL hk (j := 3) (by decide)) dL_law_639 ?_
  refine kcV_s hx hb hml hown hts hX hP hD hS (c_X7_behind l G a v (xs (nI (6 * k) + 1).toNatClampNeg) (xs (nI (6 * k) + 2).toNatClampNeg) (xs (nI (6 * k) + 3).toNatClampNeg) pd0 pd8 pl0 pl4 pto) gL_law_X7_behind 3 rfl rfl rfl hd_X7_behind ⟨Nat.le_of_ble_eq_true rfl, Nat.le_of_ble_eq_true rfl⟩ [10] (by decide) rfl 10 rfl rfl rfl hl.1 rfl rfl (Nat.le_of_ble_eq_true rfl) dL_law_640 ⟨Nat.le_of_ble_eq_true rfl, Nat.le_of_ble_eq_true rfl⟩ (fun r_ bc_ hq_ H locs hP hD hS => ?_)
  obtain ⟨rfl, rfl⟩ := hq_
  have hP : PP G [bX6 h0 (tx 0) (nw 0) (tr 0) (un 0) (kp 0) (wy 0) (rm 0) (pl 0) (dr 0), bX4 tx G vt, bX0 nw G vn, bX0 tr G (cnd (okBeh vp (xs (nI (6 * k) + 1).toNatClampNeg) (xs (nI (6 * k) + 2).toNatClampNeg) (xs (nI (6 * k) + 3).toNatClampNeg)) (f_beh vp vn vr (xs (nI (6 * k) + 1).toNatClampNeg) (xs (nI (6 * k) + 3).toNatClampNeg)) vr), bX1 un G 8 adu hvu nu, bX1 kp G 2 adk hvk nk, bX5 wy G vy, bX3 rm G vm, bX2 pl G vp, bX2 dr G vd, bX7 a G (g_behindV v (xs (nI (6 * k) + 1).toNatClampNeg) (xs (nI (6 * k) + 2).toNatClampNeg) (xs (nI (6 * k) + 3).toNatClampNeg))] H := hP
  have hD : DD (fun q : Nat => s.heap.size ≤ q) [bX6 h0 (tx 0) (nw 0) (tr 0) (un 0) (kp 0) (wy 0) (rm 0) (pl 0) (dr 0), bX4 tx G vt, bX0 nw G vn, bX0 tr G (cnd (okBeh vp (xs (nI (6 * k) + 1).toNatClampNeg) (xs (nI (6 * k) + 2).toNatClampNeg) (xs (nI (6 * k) + 3).toNatClampNeg)) (f_beh vp vn vr (xs (nI (6 * k) + 1).toNatClampNeg) (xs (nI (6 * k) + 3).toNatClampNeg)) vr), bX1 un G 8 adu hvu nu, bX1 kp G 2 adk hvk nk, bX5 wy G vy, bX3 rm G vm, bX2 pl G vp, bX2 dr G vd, bX7 a G (g_behindV v (xs (nI (6 * k) + 1).toNatClampNeg) (xs (nI (6 * k) + 2).toNatClampNeg) (xs (nI (6 * k) + 3).toNatClampNeg))] := hD
  refine lv_icmp_eq (tgt := 912) hx hb dL_law_643 (by decide) (fun _ => ?_) (fun c_ => absurd ?_ c_)
  · exact hn tx nw tr un kp wy rm pl dr vt vn (cnd (okBeh vp (xs (nI (6 * k) + 1).toNatClampNeg) (xs (nI (6 * k) + 2).toNatClampNeg) (xs (nI (6 * k) + 3).toNatClampNeg)) (f_beh vp vn vr (xs (nI (6 * k) + 1).toNatClampNeg) (xs (nI (6 * k) + 3).toNatClampNeg)) vr) adu hvu nu adk hvk nk vy vm vp vd (g_behindV v (xs (nI (6 * k) + 1).toNatClampNeg) (xs (nI (6 * k) + 2).toNatClampNeg) (xs (nI (6 * k) + 3).toNatClampNeg)) q H locs ls hP hD hS hl (hR.behind (xs (nI (6 * k) + 1).toNatClampNeg) (xs (nI (6 * k) + 2).toNatClampNeg) (xs (nI (6 * k) + 3).toNatClampNeg))
  · exact a_behind hR vr (xs (nI (6 * k) + 1).toNatClampNeg) (xs (nI (6 * k) + 2).toNatClampNeg) (xs (nI (6 * k) + 3).toNatClampNeg)
end LC
