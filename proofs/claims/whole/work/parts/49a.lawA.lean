/-! the law, call by call -/
section LC
variable {p : Program} {l : Launch} {e : Env} {s : State} {m : MethodId} {below : List Frame} {meth : Method} {c : Code} {b L : Nat} {xs : Nat → Int32} {Z : State → Prop} {G : GD} {h0 : Nat} {a : Nat → Nat} {k : Nat}
set_option maxRecDepth 100000 in
set_option maxHeartbeats 4000000 in
theorem law_write (hE : LE p s m meth c b L xs G) (hk : 6 * k + 6 ≤ L) (hn : Nxt p l e s m below meth c b Z G h0 a 912 k) : Nxt p l e s m below meth c b Z G h0 a 144 k := by
  intro tx nw tr un kp wy rm pl dr vt vn vr adu hvu nu adk hvk nk vy vm vp vd v q H locs ls hP hD hS hl hR
  obtain ⟨hx, hb, hml, hown, hts, hXs, hbl, hX, hL⟩ := hE
  have hbA : ¬ (fun q : Nat => s.heap.size ≤ q) b := Nat.not_le.mpr hbl
  obtain ⟨pd0, pd8, pl0, pl4, pr0, pr6, pen, pto, pat, pln0, pu0, pu8, ⟨hun, hnu8⟩, ⟨hkn, hnk2⟩, ⟨htn, ht2, ht6⟩, ⟨hln, hl1, hl4⟩⟩ := hR.pre
  obtain ⟨cp1, cp2, cp3⟩ := hR.cpre
  obtain ⟨len, hlen, h300⟩ := hR.len
  refine lv_aload_n hx hb dL_law_144 rfl (lv_at hl 2 rfl) ?_
  refine lv_aload_n hx hb dL_law_145 rfl (lv_at hl 3 rfl) ?_
  refine lv_iload_n hx hb dL_law_146 rfl (lv_at hl 0 rfl) ?_
  refine lv_iconst (v := 1) hx hb dL_law_147 (by decide) ?_
  refine lv_iadd hx hb dL_law_148 ?_
  refine va_sld hx hb hXs hbl hbA hS (show vp_in (nI (6 * k) + 1) L from ixs hL hk (j := 1) (by decide)) dL_law_149 ?_
  refine lv_aload_n hx hb dL_law_150 rfl (lv_at hl 3 rfl) ?_
  refine lv_iload_n hx hb dL_law_151 rfl (lv_at hl 0 rfl) ?_
  refine lv_iconst (v := 2) hx hb dL_law_152 (by decide) ?_
  refine lv_iadd hx hb dL_law_153 ?_
  refine va_sld hx hb hXs hbl hbA hS (show vp_in (nI (6 * k) + 2) L from ixs hL hk (j := 2) (by decide)) dL_law_154 ?_
  refine lv_i2l (v := ((xs (nI (6 * k) + 2).toNatClampNeg) : Int32).toInt64) hx hb dL_law_155 rfl ?_
  refine lv_bipush (v := 32) hx hb dL_law_156 (by decide) ?_
  refine lv_lshl hx hb dL_law_158 rfl ?_
  refine lv_aload_n hx hb dL_law_159 rfl (lv_at hl 3 rfl) ?_
  refine lv_iload_n hx hb dL_law_160 rfl (lv_at hl 0 rfl) ?_
  refine lv_iconst (v := 3) hx hb dL_law_161 (by decide) ?_
  refine lv_iadd hx hb dL_law_162 ?_
  refine va_sld hx hb hXs hbl hbA hS (show vp_in (nI (6 * k) + 3) L from ixs hL hk (j := 3) (by decide)) dL_law_163 ?_
  refine lv_i2l (v := ((xs (nI (6 * k) + 3).toNatClampNeg) : Int32).toInt64) hx hb dL_law_164 rfl ?_
  refine lv_ldc2 (own := RL) (v := 4294967295) hx hb hown (hts (.constantLong RL 13 4294967295) (by decide +kernel)) dL_law_165 ?_
  refine lv_land hx hb dL_law_168 ?_
  refine lv_lor hx hb dL_law_169 ?_
  refine kcV_s hx hb hml hown hts hX hP hD hS (c_X6_write l G h0 tx nw tr un kp wy rm pl dr (xs (nI (6 * k) + 1).toNatClampNeg) ((((xs (nI (6 * k) + 2).toNatClampNeg) : Int32).toInt64 <<< ((32 : Int32).toInt64 &&& 63)) ||| (((xs (nI (6 * k) + 3).toNatClampNeg) : Int32).toInt64 &&& 4294967295)) vt) gL_law_X6_write 2 rfl rfl rfl hd_X6_write ⟨Nat.le_of_ble_eq_true rfl, Nat.le_of_ble_eq_true rfl⟩ [0, 1] (by decide) rfl 0 rfl rfl rfl hl.1 rfl rfl (Nat.le_of_ble_eq_true rfl) dL_law_170 ⟨Nat.le_of_ble_eq_true rfl, Nat.le_of_ble_eq_true rfl⟩ (fun r_ bc_ hq_ H locs hP hD hS => ?_)
  obtain ⟨rfl, rfl⟩ := hq_
  have hP : PP G [bX6 h0 (tx 0) (nw 0) (tr 0) (un 0) (kp 0) (wy 0) (rm 0) (pl 0) (dr 0), bX4 tx G (cnd (okWr vt (xs (nI (6 * k) + 1).toNatClampNeg)) (wr2Go ((((xs (nI (6 * k) + 2).toNatClampNeg) : Int32).toInt64 <<< ((32 : Int32).toInt64 &&& 63)) ||| (((xs (nI (6 * k) + 3).toNatClampNeg) : Int32).toInt64 &&& 4294967295)) (xs (nI (6 * k) + 1).toNatClampNeg).toNatClampNeg vt) vt), bX0 nw G vn, bX0 tr G vr, bX1 un G 8 adu hvu nu, bX1 kp G 2 adk hvk nk, bX5 wy G vy, bX3 rm G vm, bX2 pl G vp, bX2 dr G vd, bX7 a G v] H := hP
  have hD : DD (fun q : Nat => s.heap.size ≤ q) [bX6 h0 (tx 0) (nw 0) (tr 0) (un 0) (kp 0) (wy 0) (rm 0) (pl 0) (dr 0), bX4 tx G (cnd (okWr vt (xs (nI (6 * k) + 1).toNatClampNeg)) (wr2Go ((((xs (nI (6 * k) + 2).toNatClampNeg) : Int32).toInt64 <<< ((32 : Int32).toInt64 &&& 63)) ||| (((xs (nI (6 * k) + 3).toNatClampNeg) : Int32).toInt64 &&& 4294967295)) (xs (nI (6 * k) + 1).toNatClampNeg).toNatClampNeg vt) vt), bX0 nw G vn, bX0 tr G vr, bX1 un G 8 adu hvu nu, bX1 kp G 2 adk hvk nk, bX5 wy G vy, bX3 rm G vm, bX2 pl G vp, bX2 dr G vd, bX7 a G v] := hD
  refine lv_aload_n hx hb dL_law_173 rfl (lv_at hl 1 rfl) ?_
  refine lv_aload_n hx hb dL_law_174 rfl (lv_at hl 3 rfl) ?_
  refine lv_iload_n hx hb dL_law_175 rfl (lv_at hl 0 rfl) ?_
  refine lv_iconst (v := 1) hx hb dL_law_176 (by decide) ?_
  refine lv_iadd hx hb dL_law_177 ?_
  refine va_sld hx hb hXs hbl hbA hS (show vp_in (nI (6 * k) + 1) L from ixs hL hk (j := 1) (by decide)) dL_law_178 ?_
  refine lv_aload_n hx hb dL_law_179 rfl (lv_at hl 3 rfl) ?_
  refine lv_iload_n hx hb dL_law_180 rfl (lv_at hl 0 rfl) ?_
  refine lv_iconst (v := 2) hx hb dL_law_181 (by decide) ?_
  refine lv_iadd hx hb dL_law_182 ?_
  refine va_sld hx hb hXs hbl hbA hS (show vp_in (nI (6 * k) + 2) L from ixs hL hk (j := 2) (by decide)) dL_law_183 ?_
  refine lv_i2l (v := ((xs (nI (6 * k) + 2).toNatClampNeg) : Int32).toInt64) hx hb dL_law_184 rfl ?_
  refine lv_bipush (v := 32) hx hb dL_law_185 (by decide) ?_
  refine lv_lshl hx hb dL_law_187 rfl ?_
  refine lv_aload_n hx hb dL_law_188 rfl (lv_at hl 3 rfl) ?_
  refine lv_iload_n hx hb dL_law_189 rfl (lv_at hl 0 rfl) ?_
  refine lv_iconst (v := 3) hx hb dL_law_190 (by decide) ?_
  refine lv_iadd hx hb dL_law_191 ?_
  refine va_sld hx hb hXs hbl hbA hS (show vp_in (nI (6 * k) + 3) L from ixs hL hk (j := 3) (by decide)) dL_law_192 ?_
  refine lv_i2l (v := ((xs (nI (6 * k) + 3).toNatClampNeg) : Int32).toInt64) hx hb dL_law_193 rfl ?_
  refine lv_ldc2 (own := RL) (v := 4294967295) hx hb hown (hts (.constantLong RL 13 4294967295) (by decide +kernel)) dL_law_194 ?_
  refine lv_land hx hb dL_law_197 ?_
  refine lv_lor hx hb dL_law_198 ?_
  refine kcV_s hx hb hml hown hts hX hP hD hS (c_X7_write l G a v (xs (nI (6 * k) + 1).toNatClampNeg) ((((xs (nI (6 * k) + 2).toNatClampNeg) : Int32).toInt64 <<< ((32 : Int32).toInt64 &&& 63)) ||| (((xs (nI (6 * k) + 3).toNatClampNeg) : Int32).toInt64 &&& 4294967295)) len hlen h300) gL_law_X7_write 2 rfl rfl rfl hd_X7_write ⟨Nat.le_of_ble_eq_true rfl, Nat.le_of_ble_eq_true rfl⟩ [10] (by decide) rfl 10 rfl rfl rfl hl.1 rfl rfl (Nat.le_of_ble_eq_true rfl) dL_law_199 ⟨Nat.le_of_ble_eq_true rfl, Nat.le_of_ble_eq_true rfl⟩ (fun r_ bc_ hq_ H locs hP hD hS => ?_)
  obtain ⟨rfl, rfl⟩ := hq_
  have hP : PP G [bX6 h0 (tx 0) (nw 0) (tr 0) (un 0) (kp 0) (wy 0) (rm 0) (pl 0) (dr 0), bX4 tx G (cnd (okWr vt (xs (nI (6 * k) + 1).toNatClampNeg)) (wr2Go ((((xs (nI (6 * k) + 2).toNatClampNeg) : Int32).toInt64 <<< ((32 : Int32).toInt64 &&& 63)) ||| (((xs (nI (6 * k) + 3).toNatClampNeg) : Int32).toInt64 &&& 4294967295)) (xs (nI (6 * k) + 1).toNatClampNeg).toNatClampNeg vt) vt), bX0 nw G vn, bX0 tr G vr, bX1 un G 8 adu hvu nu, bX1 kp G 2 adk hvk nk, bX5 wy G vy, bX3 rm G vm, bX2 pl G vp, bX2 dr G vd, bX7 a G (g_writeV v len (xs (nI (6 * k) + 1).toNatClampNeg) ((((xs (nI (6 * k) + 2).toNatClampNeg) : Int32).toInt64 <<< ((32 : Int32).toInt64 &&& 63)) ||| (((xs (nI (6 * k) + 3).toNatClampNeg) : Int32).toInt64 &&& 4294967295)))] H := hP
  have hD : DD (fun q : Nat => s.heap.size ≤ q) [bX6 h0 (tx 0) (nw 0) (tr 0) (un 0) (kp 0) (wy 0) (rm 0) (pl 0) (dr 0), bX4 tx G (cnd (okWr vt (xs (nI (6 * k) + 1).toNatClampNeg)) (wr2Go ((((xs (nI (6 * k) + 2).toNatClampNeg) : Int32).toInt64 <<< ((32 : Int32).toInt64 &&& 63)) ||| (((xs (nI (6 * k) + 3).toNatClampNeg) : Int32).toInt64 &&& 4294967295)) (xs (nI (6 * k) + 1).toNatClampNeg).toNatClampNeg vt) vt), bX0 nw G vn, bX0 tr G vr, bX1 un G 8 adu hvu nu, bX1 kp G 2 adk hvk nk, bX5 wy G vy, bX3 rm G vm, bX2 pl G vp, bX2 dr G vd, bX7 a G (g_writeV v len (xs (nI (6 * k) + 1).toNatClampNeg) ((((xs (nI (6 * k) + 2).toNatClampNeg) : Int32).toInt64 <<< ((32 : Int32).toInt64 &&& 63)) ||| (((xs (nI (6 * k) + 3).toNatClampNeg) : Int32).toInt64 &&& 4294967295)))] := hD
  refine lv_icmp_eq (tgt := 912) hx hb dL_law_202 (by decide) (fun _ => ?_) (fun c_ => absurd ?_ c_)
  · exact hn tx nw tr un kp wy rm pl dr (cnd (okWr vt (xs (nI (6 * k) + 1).toNatClampNeg)) (wr2Go ((((xs (nI (6 * k) + 2).toNatClampNeg) : Int32).toInt64 <<< ((32 : Int32).toInt64 &&& 63)) ||| (((xs (nI (6 * k) + 3).toNatClampNeg) : Int32).toInt64 &&& 4294967295)) (xs (nI (6 * k) + 1).toNatClampNeg).toNatClampNeg vt) vt) vn vr adu hvu nu adk hvk nk vy vm vp vd (g_writeV v len (xs (nI (6 * k) + 1).toNatClampNeg) ((((xs (nI (6 * k) + 2).toNatClampNeg) : Int32).toInt64 <<< ((32 : Int32).toInt64 &&& 63)) ||| (((xs (nI (6 * k) + 3).toNatClampNeg) : Int32).toInt64 &&& 4294967295))) q H locs ls hP hD hS hl (a_write hR hlen h300 (xs (nI (6 * k) + 1).toNatClampNeg) ((((xs (nI (6 * k) + 2).toNatClampNeg) : Int32).toInt64 <<< ((32 : Int32).toInt64 &&& 63)) ||| (((xs (nI (6 * k) + 3).toNatClampNeg) : Int32).toInt64 &&& 4294967295))).2
  · exact (a_write hR hlen h300 (xs (nI (6 * k) + 1).toNatClampNeg) ((((xs (nI (6 * k) + 2).toNatClampNeg) : Int32).toInt64 <<< ((32 : Int32).toInt64 &&& 63)) ||| (((xs (nI (6 * k) + 3).toNatClampNeg) : Int32).toInt64 &&& 4294967295))).1
set_option maxRecDepth 100000 in
set_option maxHeartbeats 4000000 in
theorem law_wipe (hE : LE p s m meth c b L xs G) (hk : 6 * k + 6 ≤ L) (hn : Nxt p l e s m below meth c b Z G h0 a 912 k) : Nxt p l e s m below meth c b Z G h0 a 207 k := by
  intro tx nw tr un kp wy rm pl dr vt vn vr adu hvu nu adk hvk nk vy vm vp vd v q H locs ls hP hD hS hl hR
  obtain ⟨hx, hb, hml, hown, hts, hXs, hbl, hX, hL⟩ := hE
  have hbA : ¬ (fun q : Nat => s.heap.size ≤ q) b := Nat.not_le.mpr hbl
  obtain ⟨pd0, pd8, pl0, pl4, pr0, pr6, pen, pto, pat, pln0, pu0, pu8, ⟨hun, hnu8⟩, ⟨hkn, hnk2⟩, ⟨htn, ht2, ht6⟩, ⟨hln, hl1, hl4⟩⟩ := hR.pre
  obtain ⟨cp1, cp2, cp3⟩ := hR.cpre
  obtain ⟨len, hlen, h300⟩ := hR.len
  refine lv_aload_n hx hb dL_law_207 rfl (lv_at hl 2 rfl) ?_
  refine kcV_s hx hb hml hown hts hX hP hD hS (c_X6_wipe l G h0 tx nw tr un kp wy rm pl dr vt) gL_law_X6_wipe 0 rfl rfl rfl hd_X6_wipe ⟨Nat.le_of_ble_eq_true rfl, Nat.le_of_ble_eq_true rfl⟩ [0, 1] (by decide) rfl 0 rfl rfl rfl hl.1 rfl rfl (Nat.le_of_ble_eq_true rfl) dL_law_208 ⟨Nat.le_of_ble_eq_true rfl, Nat.le_of_ble_eq_true rfl⟩ (fun r_ bc_ hq_ H locs hP hD hS => ?_)
  obtain ⟨rfl, rfl⟩ := hq_
  have hP : PP G [bX6 h0 (tx 0) (nw 0) (tr 0) (un 0) (kp 0) (wy 0) (rm 0) (pl 0) (dr 0), bX4 tx G (setI vt 3 0), bX0 nw G vn, bX0 tr G vr, bX1 un G 8 adu hvu nu, bX1 kp G 2 adk hvk nk, bX5 wy G vy, bX3 rm G vm, bX2 pl G vp, bX2 dr G vd, bX7 a G v] H := hP
  have hD : DD (fun q : Nat => s.heap.size ≤ q) [bX6 h0 (tx 0) (nw 0) (tr 0) (un 0) (kp 0) (wy 0) (rm 0) (pl 0) (dr 0), bX4 tx G (setI vt 3 0), bX0 nw G vn, bX0 tr G vr, bX1 un G 8 adu hvu nu, bX1 kp G 2 adk hvk nk, bX5 wy G vy, bX3 rm G vm, bX2 pl G vp, bX2 dr G vd, bX7 a G v] := hD
  refine lv_aload_n hx hb dL_law_211 rfl (lv_at hl 1 rfl) ?_
  refine kcV_s hx hb hml hown hts hX hP hD hS (c_X7_wipe l G a v) gL_law_X7_wipe 0 rfl rfl rfl hd_X7_wipe ⟨Nat.le_of_ble_eq_true rfl, Nat.le_of_ble_eq_true rfl⟩ [10] (by decide) rfl 10 rfl rfl rfl hl.1 rfl rfl (Nat.le_of_ble_eq_true rfl) dL_law_212 ⟨Nat.le_of_ble_eq_true rfl, Nat.le_of_ble_eq_true rfl⟩ (fun r_ bc_ hq_ H locs hP hD hS => ?_)
  obtain ⟨rfl, rfl⟩ := hq_
  have hP : PP G [bX6 h0 (tx 0) (nw 0) (tr 0) (un 0) (kp 0) (wy 0) (rm 0) (pl 0) (dr 0), bX4 tx G (setI vt 3 0), bX0 nw G vn, bX0 tr G vr, bX1 un G 8 adu hvu nu, bX1 kp G 2 adk hvk nk, bX5 wy G vy, bX3 rm G vm, bX2 pl G vp, bX2 dr G vd, bX7 a G (setI v 0 0)] H := hP
  have hD : DD (fun q : Nat => s.heap.size ≤ q) [bX6 h0 (tx 0) (nw 0) (tr 0) (un 0) (kp 0) (wy 0) (rm 0) (pl 0) (dr 0), bX4 tx G (setI vt 3 0), bX0 nw G vn, bX0 tr G vr, bX1 un G 8 adu hvu nu, bX1 kp G 2 adk hvk nk, bX5 wy G vy, bX3 rm G vm, bX2 pl G vp, bX2 dr G vd, bX7 a G (setI v 0 0)] := hD
  refine lv_icmp_eq (tgt := 912) hx hb dL_law_215 (by decide) (fun _ => ?_) (fun c_ => absurd ?_ c_)
  · exact hn tx nw tr un kp wy rm pl dr (setI vt 3 0) vn vr adu hvu nu adk hvk nk vy vm vp vd (setI v 0 0) q H locs ls hP hD hS hl (a_wipe hR).2
  · exact (a_wipe hR).1
set_option maxRecDepth 100000 in
set_option maxHeartbeats 4000000 in
theorem law_fault (hE : LE p s m meth c b L xs G) (hk : 6 * k + 6 ≤ L) (hn : Nxt p l e s m below meth c b Z G h0 a 912 k) : Nxt p l e s m below meth c b Z G h0 a 220 k := by
  intro tx nw tr un kp wy rm pl dr vt vn vr adu hvu nu adk hvk nk vy vm vp vd v q H locs ls hP hD hS hl hR
  obtain ⟨hx, hb, hml, hown, hts, hXs, hbl, hX, hL⟩ := hE
  have hbA : ¬ (fun q : Nat => s.heap.size ≤ q) b := Nat.not_le.mpr hbl
  obtain ⟨pd0, pd8, pl0, pl4, pr0, pr6, pen, pto, pat, pln0, pu0, pu8, ⟨hun, hnu8⟩, ⟨hkn, hnk2⟩, ⟨htn, ht2, ht6⟩, ⟨hln, hl1, hl4⟩⟩ := hR.pre
  obtain ⟨cp1, cp2, cp3⟩ := hR.cpre
  obtain ⟨len, hlen, h300⟩ := hR.len
  refine lv_aload_n hx hb dL_law_220 rfl (lv_at hl 2 rfl) ?_
  refine kcV_s hx hb hml hown hts hX hP hD hS (c_X6_fault l G h0 tx nw tr un kp wy rm pl dr vt vd) gL_law_X6_fault 0 rfl rfl rfl hd_X6_fault ⟨Nat.le_of_ble_eq_true rfl, Nat.le_of_ble_eq_true rfl⟩ [0, 1, 9] (by decide) rfl 0 rfl rfl rfl hl.1 rfl rfl (Nat.le_of_ble_eq_true rfl) dL_law_221 ⟨Nat.le_of_ble_eq_true rfl, Nat.le_of_ble_eq_true rfl⟩ (fun r_ bc_ hq_ H locs hP hD hS => ?_)
  obtain ⟨rfl, rfl⟩ := hq_
  have hP : PP G [bX6 h0 (tx 0) (nw 0) (tr 0) (un 0) (kp 0) (wy 0) (rm 0) (pl 0) (dr 0), bX4 tx G ((f_X4_read vt vd).2.1), bX0 nw G vn, bX0 tr G vr, bX1 un G 8 adu hvu nu, bX1 kp G 2 adk hvk nk, bX5 wy G vy, bX3 rm G vm, bX2 pl G vp, bX2 dr G ((f_X4_read vt vd).2.2), bX7 a G v] H := hP
  have hD : DD (fun q : Nat => s.heap.size ≤ q) [bX6 h0 (tx 0) (nw 0) (tr 0) (un 0) (kp 0) (wy 0) (rm 0) (pl 0) (dr 0), bX4 tx G ((f_X4_read vt vd).2.1), bX0 nw G vn, bX0 tr G vr, bX1 un G 8 adu hvu nu, bX1 kp G 2 adk hvk nk, bX5 wy G vy, bX3 rm G vm, bX2 pl G vp, bX2 dr G ((f_X4_read vt vd).2.2), bX7 a G v] := hD
  refine lv_aload_n hx hb dL_law_224 rfl (lv_at hl 1 rfl) ?_
  refine kcV_s hx hb hml hown hts hX hP hD hS (c_X7_fault l G a v len hlen h300) gL_law_X7_fault 0 rfl rfl rfl hd_X7_fault ⟨Nat.le_of_ble_eq_true rfl, Nat.le_of_ble_eq_true rfl⟩ [10] (by decide) rfl 10 rfl rfl rfl hl.1 rfl rfl (Nat.le_of_ble_eq_true rfl) dL_law_225 ⟨Nat.le_of_ble_eq_true rfl, Nat.le_of_ble_eq_true rfl⟩ (fun r_ bc_ hq_ H locs hP hD hS => ?_)
  obtain ⟨rfl, rfl⟩ := hq_
  have hP : PP G [bX6 h0 (tx 0) (nw 0) (tr 0) (un 0) (kp 0) (wy 0) (rm 0) (pl 0) (dr 0), bX4 tx G ((f_X4_read vt vd).2.1), bX0 nw G vn, bX0 tr G vr, bX1 un G 8 adu hvu nu, bX1 kp G 2 adk hvk nk, bX5 wy G vy, bX3 rm G vm, bX2 pl G vp, bX2 dr G ((f_X4_read vt vd).2.2), bX7 a G ((g_fault v len).2)] H := hP
  have hD : DD (fun q : Nat => s.heap.size ≤ q) [bX6 h0 (tx 0) (nw 0) (tr 0) (un 0) (kp 0) (wy 0) (rm 0) (pl 0) (dr 0), bX4 tx G ((f_X4_read vt vd).2.1), bX0 nw G vn, bX0 tr G vr, bX1 un G 8 adu hvu nu, bX1 kp G 2 adk hvk nk, bX5 wy G vy, bX3 rm G vm, bX2 pl G vp, bX2 dr G ((f_X4_read vt vd).2.2), bX7 a G ((g_fault v len).2)] := hD
  refine lv_icmp_eq (tgt := 912) hx hb dL_law_228 (by decide) (fun _ => ?_) (fun c_ => absurd ?_ c_)
  · exact hn tx nw tr un kp wy rm pl dr ((f_X4_read vt vd).2.1) vn vr adu hvu nu adk hvk nk vy vm vp ((f_X4_read vt vd).2.2) ((g_fault v len).2) q H locs ls hP hD hS hl (a_fault hR hlen h300 vd).2
  · exact (a_fault hR hlen h300 vd).1
set_option maxRecDepth 100000 in
set_option maxHeartbeats 4000000 in
theorem law_lay (hE : LE p s m meth c b L xs G) (hk : 6 * k + 6 ≤ L) (hn : Nxt p l e s m below meth c b Z G h0 a 912 k) : Nxt p l e s m below meth c b Z G h0 a 233 k := by
  intro tx nw tr un kp wy rm pl dr vt vn vr adu hvu nu adk hvk nk vy vm vp vd v q H locs ls hP hD hS hl hR
  obtain ⟨hx, hb, hml, hown, hts, hXs, hbl, hX, hL⟩ := hE
  have hbA : ¬ (fun q : Nat => s.heap.size ≤ q) b := Nat.not_le.mpr hbl
  obtain ⟨pd0, pd8, pl0, pl4, pr0, pr6, pen, pto, pat, pln0, pu0, pu8, ⟨hun, hnu8⟩, ⟨hkn, hnk2⟩, ⟨htn, ht2, ht6⟩, ⟨hln, hl1, hl4⟩⟩ := hR.pre
  obtain ⟨cp1, cp2, cp3⟩ := hR.cpre
  obtain ⟨len, hlen, h300⟩ := hR.len
  refine lv_aload_n hx hb dL_law_233 rfl (lv_at hl 2 rfl) ?_
  refine kcV_s hx hb hml hown hts hX hP hD hS (c_X6_lay l G h0 tx nw tr un kp wy rm pl dr vt vd vp vn adu hvu nu adk hvk nk) gL_law_X6_lay 0 rfl rfl rfl hd_X6_lay ⟨Nat.le_of_ble_eq_true rfl, Nat.le_of_ble_eq_true rfl⟩ [0, 1, 9, 8, 2, 4, 5] (by decide) rfl 0 rfl rfl rfl hl.1 rfl rfl (Nat.le_of_ble_eq_true rfl) dL_law_234 ⟨Nat.le_of_ble_eq_true rfl, Nat.le_of_ble_eq_true rfl⟩ (fun r_ bc_ hq_ H locs hP hD hS => ?_)
  obtain ⟨rfl, rfl⟩ := hq_
  have hP : PP G [bX6 h0 (tx 0) (nw 0) (tr 0) (un 0) (kp 0) (wy 0) (rm 0) (cnd (okLay vt vd) (dr 0) (pl 0)) (cnd (okLay vt vd) (pl 0) (dr 0)), bX4 tx G ((f_X4_read vt vd).2.1), bX0 nw G (cnd (okLay vt vd) (f_X0_beginAs vn (f_X4_read vt vd).2.2) vn), bX0 tr G vr, bX1 un G 8 adu hvu (cnd (okLay vt vd) 0 nu), bX1 kp G 2 adk hvk (cnd (okLay vt vd) 0 nk), bX5 wy G vy, bX3 rm G vm, bX2 pl G vp, bX2 dr G ((f_X4_read vt vd).2.2), bX7 a G v] H := hP
  have hD : DD (fun q : Nat => s.heap.size ≤ q) [bX6 h0 (tx 0) (nw 0) (tr 0) (un 0) (kp 0) (wy 0) (rm 0) (cnd (okLay vt vd) (dr 0) (pl 0)) (cnd (okLay vt vd) (pl 0) (dr 0)), bX4 tx G ((f_X4_read vt vd).2.1), bX0 nw G (cnd (okLay vt vd) (f_X0_beginAs vn (f_X4_read vt vd).2.2) vn), bX0 tr G vr, bX1 un G 8 adu hvu (cnd (okLay vt vd) 0 nu), bX1 kp G 2 adk hvk (cnd (okLay vt vd) 0 nk), bX5 wy G vy, bX3 rm G vm, bX2 pl G vp, bX2 dr G ((f_X4_read vt vd).2.2), bX7 a G v] := hD
  refine lv_aload_n hx hb dL_law_237 rfl (lv_at hl 1 rfl) ?_
  refine kcV_s hx hb hml hown hts hX hP hD hS (c_X7_lay l G a v len hlen h300) gL_law_X7_lay 0 rfl rfl rfl hd_X7_lay ⟨Nat.le_of_ble_eq_true rfl, Nat.le_of_ble_eq_true rfl⟩ [10] (by decide) rfl 10 rfl rfl rfl hl.1 rfl rfl (Nat.le_of_ble_eq_true rfl) dL_law_238 ⟨Nat.le_of_ble_eq_true rfl, Nat.le_of_ble_eq_true rfl⟩ (fun r_ bc_ hq_ H locs hP hD hS => ?_)
  obtain ⟨rfl, rfl⟩ := hq_
  have hP : PP G [bX6 h0 (tx 0) (nw 0) (tr 0) (un 0) (kp 0) (wy 0) (rm 0) (cnd (okLay vt vd) (dr 0) (pl 0)) (cnd (okLay vt vd) (pl 0) (dr 0)), bX4 tx G ((f_X4_read vt vd).2.1), bX0 nw G (cnd (okLay vt vd) (f_X0_beginAs vn (f_X4_read vt vd).2.2) vn), bX0 tr G vr, bX1 un G 8 adu hvu (cnd (okLay vt vd) 0 nu), bX1 kp G 2 adk hvk (cnd (okLay vt vd) 0 nk), bX5 wy G vy, bX3 rm G vm, bX2 pl G vp, bX2 dr G ((f_X4_read vt vd).2.2), bX7 a G (g_layV v len)] H := hP
  have hD : DD (fun q : Nat => s.heap.size ≤ q) [bX6 h0 (tx 0) (nw 0) (tr 0) (un 0) (kp 0) (wy 0) (rm 0) (cnd (okLay vt vd) (dr 0) (pl 0)) (cnd (okLay vt vd) (pl 0) (dr 0)), bX4 tx G ((f_X4_read vt vd).2.1), bX0 nw G (cnd (okLay vt vd) (f_X0_beginAs vn (f_X4_read vt vd).2.2) vn), bX0 tr G vr, bX1 un G 8 adu hvu (cnd (okLay vt vd) 0 nu), bX1 kp G 2 adk hvk (cnd (okLay vt vd) 0 nk), bX5 wy G vy, bX3 rm G vm, bX2 pl G vp, bX2 dr G ((f_X4_read vt vd).2.2), bX7 a G (g_layV v len)] := hD
  refine lv_icmp_eq (tgt := 912) hx hb dL_law_241 (by decide) (fun _ => ?_) (fun c_ => absurd ?_ c_)
  · obtain ⟨-, q1, hR1⟩ := a_lay hR hlen h300 vd
    cases eo : okLay vt vd with
    | false =>
      rw [eo] at hP hD hR1
      exact hn tx nw tr un kp wy rm pl dr ((f_X4_read vt vd).2.1) (cnd false (f_X0_beginAs vn (f_X4_read vt vd).2.2) vn) vr adu hvu (cnd false 0 nu) adk hvk (cnd false 0 nk) vy vm vp ((f_X4_read vt vd).2.2) (g_layV v len) q1 H locs ls hP hD hS hl hR1
    | true =>
      rw [eo] at hP hD hR1
      exact hn tx nw tr un kp wy rm dr pl ((f_X4_read vt vd).2.1) (cnd true (f_X0_beginAs vn (f_X4_read vt vd).2.2) vn) vr adu hvu (cnd true 0 nu) adk hvk (cnd true 0 nk) vy vm ((f_X4_read vt vd).2.2) vp (g_layV v len) q1 H locs ls (PP_sw (f := [_, _, _, _, _, _, _, _]) hP) (DD_sw (f := [_, _, _, _, _, _, _, _]) hD) hS hl hR1
  · exact (a_lay hR hlen h300 vd).1
set_option maxRecDepth 100000 in
set_option maxHeartbeats 4000000 in
theorem law_door (hE : LE p s m meth c b L xs G) (hk : 6 * k + 6 ≤ L) (hn : Nxt p l e s m below meth c b Z G h0 a 912 k) : Nxt p l e s m below meth c b Z G h0 a 246 k := by
  intro tx nw tr un kp wy rm pl dr vt vn vr adu hvu nu adk hvk nk vy vm vp vd v q H locs ls hP hD hS hl hR
  obtain ⟨hx, hb, hml, hown, hts, hXs, hbl, hX, hL⟩ := hE
  have hbA : ¬ (fun q : Nat => s.heap.size ≤ q) b := Nat.not_le.mpr hbl
  obtain ⟨pd0, pd8, pl0, pl4, pr0, pr6, pen, pto, pat, pln0, pu0, pu8, ⟨hun, hnu8⟩, ⟨hkn, hnk2⟩, ⟨htn, ht2, ht6⟩, ⟨hln, hl1, hl4⟩⟩ := hR.pre
  obtain ⟨cp1, cp2, cp3⟩ := hR.cpre
  obtain ⟨len, hlen, h300⟩ := hR.len
  refine lv_aload_n hx hb dL_law_246 rfl (lv_at hl 2 rfl) ?_
  refine lv_aload_n hx hb dL_law_247 rfl (lv_at hl 3 rfl) ?_
  refine lv_iload_n hx hb dL_law_248 rfl (lv_at hl 0 rfl) ?_
  refine lv_iconst (v := 1) hx hb dL_law_249 (by decide) ?_
  refine lv_iadd hx hb dL_law_250 ?_
  refine va_sld hx hb hXs hbl hbA hS (show vp_in (nI (6 * k) + 1) L from ixs hL hk (j := 1) (by decide)) dL_law_251 ?_
  refine lv_aload_n hx hb dL_law_252 rfl (lv_at hl 3 rfl) ?_
  refine lv_iload_n hx hb dL_law_253 rfl (lv_at hl 0 rfl) ?_
  refine lv_iconst (v := 2) hx hb dL_law_254 (by decide) ?_
  refine lv_iadd hx hb dL_law_255 ?_
  refine va_sld hx hb hXs hbl hbA hS (show vp_in (nI (6 * k) + 2) L from ixs hL hk (j := 2) (by decide)) dL_law_256 ?_
  refine kcV_p hx hb hml hown hts hX hP (c_X6_door l G h0 tx nw tr un kp wy rm pl dr (xs (nI (6 * k) + 1).toNatClampNeg) (xs (nI (6 * k) + 2).toNatClampNeg) vp vn) gL_law_X6_door 2 rfl rfl rfl hd_X6_door ⟨Nat.le_of_ble_eq_true rfl, Nat.le_of_ble_eq_true rfl⟩ [0, 8, 2] rfl 0 rfl rfl rfl hl.1 rfl rfl (Nat.le_of_ble_eq_true rfl) dL_law_257 ⟨Nat.le_of_ble_eq_true rfl, Nat.le_of_ble_eq_true rfl⟩ ?_
  refine lv_aload_n hx hb dL_law_260 rfl (lv_at hl 1 rfl) ?_
  refine lv_aload_n hx hb dL_law_261 rfl (lv_at hl 3 rfl) ?_
  refine lv_iload_n hx hb dL_law_262 rfl (lv_at hl 0 rfl) ?_
  refine lv_iconst (v := 1) hx hb dL_law_263 (by decide) ?_
  refine lv_iadd hx hb dL_law_264 ?_
  refine va_sld hx hb hXs hbl hbA hS (show vp_in (nI (6 * k) + 1) L from ixs hL hk (j := 1) (by decide)) dL_law_265 ?_
  refine lv_aload_n hx hb dL_law_266 rfl (lv_at hl 3 rfl) ?_
  refine lv_iload_n hx hb dL_law_267 rfl (lv_at hl 0 rfl) ?_
  refine lv_iconst (v := 2) hx hb dL_law_268 (by decide) ?_
  refine lv_iadd hx hb dL_law_269 ?_
  refine va_sld hx hb hXs hbl hbA hS (show vp_in (nI (6 * k) + 2) L from ixs hL hk (j := 2) (by decide)) dL_law_270 ?_
  refine kcV_p hx hb hml hown hts hX hP (c_X7_door l G a v (xs (nI (6 * k) + 1).toNatClampNeg) (xs (nI (6 * k) + 2).toNatClampNeg) pd0 pd8) gL_law_X7_door 2 rfl rfl rfl hd_X7_door ⟨Nat.le_of_ble_eq_true rfl, Nat.le_of_ble_eq_true rfl⟩ [10] rfl 10 rfl rfl rfl hl.1 rfl rfl (Nat.le_of_ble_eq_true rfl) dL_law_271 ⟨Nat.le_of_ble_eq_true rfl, Nat.le_of_ble_eq_true rfl⟩ ?_
  refine lv_icmp_eq (tgt := 912) hx hb dL_law_274 (by decide) (fun _ => ?_) (fun c_ => absurd ?_ c_)
  · exact hn tx nw tr un kp wy rm pl dr vt vn vr adu hvu nu adk hvk nk vy vm vp vd v q H locs ls hP hD hS hl hR
  · exact a_door hR (xs (nI (6 * k) + 1).toNatClampNeg) (xs (nI (6 * k) + 2).toNatClampNeg)
set_option maxRecDepth 100000 in
set_option maxHeartbeats 4000000 in
theorem law_lodger (hE : LE p s m meth c b L xs G) (hk : 6 * k + 6 ≤ L) (hn : Nxt p l e s m below meth c b Z G h0 a 912 k) : Nxt p l e s m below meth c b Z G h0 a 279 k := by
  intro tx nw tr un kp wy rm pl dr vt vn vr adu hvu nu adk hvk nk vy vm vp vd v q H locs ls hP hD hS hl hR
  obtain ⟨hx, hb, hml, hown, hts, hXs, hbl, hX, hL⟩ := hE
  have hbA : ¬ (fun q : Nat => s.heap.size ≤ q) b := Nat.not_le.mpr hbl
  obtain ⟨pd0, pd8, pl0, pl4, pr0, pr6, pen, pto, pat, pln0, pu0, pu8, ⟨hun, hnu8⟩, ⟨hkn, hnk2⟩, ⟨htn, ht2, ht6⟩, ⟨hln, hl1, hl4⟩⟩ := hR.pre
  obtain ⟨cp1, cp2, cp3⟩ := hR.cpre
  obtain ⟨len, hlen, h300⟩ := hR.len
  refine lv_aload_n hx hb dL_law_279 rfl (lv_at hl 2 rfl) ?_
  refine lv_aload_n hx hb dL_law_280 rfl (lv_at hl 3 rfl) ?_
  refine lv_iload_n hx hb dL_law_281 rfl (lv_at hl 0 rfl) ?_
  refine lv_iconst (v := 1) hx hb dL_law_282 (by decide) ?_
  refine lv_iadd hx hb dL_law_283 ?_
  refine va_sld hx hb hXs hbl hbA hS (show vp_in (nI (6 * k) + 1) L from ixs hL hk (j := 1) (by decide)) dL_law_284 ?_
  refine lv_aload_n hx hb dL_law_285 rfl (lv_at hl 3 rfl) ?_
  refine lv_iload_n hx hb dL_law_286 rfl (lv_at hl 0 rfl) ?_
  refine lv_iconst (v := 2) hx hb dL_law_287 (by decide) ?_
  refine lv_iadd hx hb dL_law_288 ?_
  refine va_sld hx hb hXs hbl hbA hS (show vp_in (nI (6 * k) + 2) L from ixs hL hk (j := 2) (by decide)) dL_law_289 ?_
  refine kcV_p hx hb hml hown hts hX hP (c_X6_lodger l G h0 tx nw tr un kp wy rm pl dr (xs (nI (6 * k) + 1).toNatClampNeg) (xs (nI (6 * k) + 2).toNatClampNeg) vp vn) gL_law_X6_lodger 2 rfl rfl rfl hd_X6_lodger ⟨Nat.le_of_ble_eq_true rfl, Nat.le_of_ble_eq_true rfl⟩ [0, 8, 2] rfl 0 rfl rfl rfl hl.1 rfl rfl (Nat.le_of_ble_eq_true rfl) dL_law_290 ⟨Nat.le_of_ble_eq_true rfl, Nat.le_of_ble_eq_true rfl⟩ ?_
  refine lv_aload_n hx hb dL_law_293 rfl (lv_at hl 1 rfl) ?_
  refine lv_aload_n hx hb dL_law_294 rfl (lv_at hl 3 rfl) ?_
  refine lv_iload_n hx hb dL_law_295 rfl (lv_at hl 0 rfl) ?_
  refine lv_iconst (v := 1) hx hb dL_law_296 (by decide) ?_
  refine lv_iadd hx hb dL_law_297 ?_
  refine va_sld hx hb hXs hbl hbA hS (show vp_in (nI (6 * k) + 1) L from ixs hL hk (j := 1) (by decide)) dL_law_298 ?_
  refine lv_aload_n hx hb dL_law_299 rfl (lv_at hl 3 rfl) ?_
  refine lv_iload_n hx hb dL_law_300 rfl (lv_at hl 0 rfl) ?_
  refine lv_iconst (v := 2) hx hb dL_law_301 (by decide) ?_
  refine lv_iadd hx hb dL_law_302 ?_
  refine va_sld hx hb hXs hbl hbA hS (show vp_in (nI (6 * k) + 2) L from ixs hL hk (j := 2) (by decide)) dL_law_303 ?_
  refine kcV_p hx hb hml hown hts hX hP (c_X7_lodger l G a v (xs (nI (6 * k) + 1).toNatClampNeg) (xs (nI (6 * k) + 2).toNatClampNeg) pl0 pl4) gL_law_X7_lodger 2 rfl rfl rfl hd_X7_lodger ⟨Nat.le_of_ble_eq_true rfl, Nat.le_of_ble_eq_true rfl⟩ [10] rfl 10 rfl rfl rfl hl.1 rfl rfl (Nat.le_of_ble_eq_true rfl) dL_law_304 ⟨Nat.le_of_ble_eq_true rfl, Nat.le_of_ble_eq_true rfl⟩ ?_
  refine lv_icmp_eq (tgt := 912) hx hb dL_law_307 (by decide) (fun _ => ?_) (fun c_ => absurd ?_ c_)
  · exact hn tx nw tr un kp wy rm pl dr vt vn vr adu hvu nu adk hvk nk vy vm vp vd v q H locs ls hP hD hS hl hR
  · exact a_lodger hR (xs (nI (6 * k) + 1).toNatClampNeg) (xs (nI (6 * k) + 2).toNatClampNeg)
set_option maxRecDepth 100000 in
set_option maxHeartbeats 4000000 in
theorem law_grudge (hE : LE p s m meth c b L xs G) (hk : 6 * k + 6 ≤ L) (hn : Nxt p l e s m below meth c b Z G h0 a 912 k) : Nxt p l e s m below meth c b Z G h0 a 312 k := by
  intro tx nw tr un kp wy rm pl dr vt vn vr adu hvu nu adk hvk nk vy vm vp vd v q H locs ls hP hD hS hl hR
  obtain ⟨hx, hb, hml, hown, hts, hXs, hbl, hX, hL⟩ := hE
  have hbA : ¬ (fun q : Nat => s.heap.size ≤ q) b := Nat.not_le.mpr hbl
  obtain ⟨pd0, pd8, pl0, pl4, pr0, pr6, pen, pto, pat, pln0, pu0, pu8, ⟨hun, hnu8⟩, ⟨hkn, hnk2⟩, ⟨htn, ht2, ht6⟩, ⟨hln, hl1, hl4⟩⟩ := hR.pre
  obtain ⟨cp1, cp2, cp3⟩ := hR.cpre
  obtain ⟨len, hlen, h300⟩ := hR.len
  refine lv_aload_n hx hb dL_law_312 rfl (lv_at hl 2 rfl) ?_
  refine lv_aload_n hx hb dL_law_313 rfl (lv_at hl 3 rfl) ?_
  refine lv_iload_n hx hb dL_law_314 rfl (lv_at hl 0 rfl) ?_
  refine lv_iconst (v := 1) hx hb dL_law_315 (by decide) ?_
  refine lv_iadd hx hb dL_law_316 ?_
  refine va_sld hx hb hXs hbl hbA hS (show vp_in (nI (6 * k) + 1) L from ixs hL hk (j := 1) (by decide)) dL_law_317 ?_
  refine lv_aload_n hx hb dL_law_318 rfl (lv_at hl 3 rfl) ?_
  refine lv_iload_n hx hb dL_law_319 rfl (lv_at hl 0 rfl) ?_
  refine lv_iconst (v := 2) hx hb dL_law_320 (by decide) ?_
  refine lv_iadd hx hb dL_law_321 ?_
  refine va_sld hx hb hXs hbl hbA hS (show vp_in (nI (6 * k) + 2) L from ixs hL hk (j := 2) (by decide)) dL_law_322 ?_
  refine kcV_p hx hb hml hown hts hX hP (c_X6_grudge l G h0 tx nw tr un kp wy rm pl dr (xs (nI (6 * k) + 1).toNatClampNeg) (xs (nI (6 * k) + 2).toNatClampNeg) vp vn) gL_law_X6_grudge 2 rfl rfl rfl hd_X6_grudge ⟨Nat.le_of_ble_eq_true rfl, Nat.le_of_ble_eq_true rfl⟩ [0, 8, 2] rfl 0 rfl rfl rfl hl.1 rfl rfl (Nat.le_of_ble_eq_true rfl) dL_law_323 ⟨Nat.le_of_ble_eq_true rfl, Nat.le_of_ble_eq_true rfl⟩ ?_
  refine lv_aload_n hx hb dL_law_326 rfl (lv_at hl 1 rfl) ?_
  refine lv_aload_n hx hb dL_law_327 rfl (lv_at hl 3 rfl) ?_
  refine lv_iload_n hx hb dL_law_328 rfl (lv_at hl 0 rfl) ?_
  refine lv_iconst (v := 1) hx hb dL_law_329 (by decide) ?_
  refine lv_iadd hx hb dL_law_330 ?_
  refine va_sld hx hb hXs hbl hbA hS (show vp_in (nI (6 * k) + 1) L from ixs hL hk (j := 1) (by decide)) dL_law_331 ?_
  refine lv_aload_n hx hb dL_law_332 rfl (lv_at hl 3 rfl) ?_
  refine lv_iload_n hx hb dL_law_333 rfl (lv_at hl 0 rfl) ?_
  refine lv_iconst (v := 2) hx hb dL_law_334 (by decide) ?_
  refine lv_iadd hx hb dL_law_335 ?_
  refine va_sld hx hb hXs hbl hbA hS (show vp_in (nI (6 * k) + 2) L from ixs hL hk (j := 2) (by decide)) dL_law_336 ?_
  refine kcV_p hx hb hml hown hts hX hP (c_X7_grudge l G a v (xs (nI (6 * k) + 1).toNatClampNeg) (xs (nI (6 * k) + 2).toNatClampNeg) pd0 pd8 pl0 pl4) gL_law_X7_grudge 2 rfl rfl rfl hd_X7_grudge ⟨Nat.le_of_ble_eq_true rfl, Nat.le_of_ble_eq_true rfl⟩ [10] rfl 10 rfl rfl rfl hl.1 rfl rfl (Nat.le_of_ble_eq_true rfl) dL_law_337 ⟨Nat.le_of_ble_eq_true rfl, Nat.le_of_ble_eq_true rfl⟩ ?_
  refine lv_icmp_eq (tgt := 912) hx hb dL_law_340 (by decide) (fun _ => ?_) (fun c_ => absurd ?_ c_)
  · exact hn tx nw tr un kp wy rm pl dr vt vn vr adu hvu nu adk hvk nk vy vm vp vd v q H locs ls hP hD hS hl hR
  · exact a_grudge hR (xs (nI (6 * k) + 1).toNatClampNeg) (xs (nI (6 * k) + 2).toNatClampNeg)
set_option maxRecDepth 100000 in
set_option maxHeartbeats 4000000 in
theorem law_go (hE : LE p s m meth c b L xs G) (hk : 6 * k + 6 ≤ L) (hn : Nxt p l e s m below meth c b Z G h0 a 912 k) : Nxt p l e s m below meth c b Z G h0 a 345 k := by
  intro tx nw tr un kp wy rm pl dr vt vn vr adu hvu nu adk hvk nk vy vm vp vd v q H locs ls hP hD hS hl hR
  obtain ⟨hx, hb, hml, hown, hts, hXs, hbl, hX, hL⟩ := hE
  have hbA : ¬ (fun q : Nat => s.heap.size ≤ q) b := Nat.not_le.mpr hbl
  obtain ⟨pd0, pd8, pl0, pl4, pr0, pr6, pen, pto, pat, pln0, pu0, pu8, ⟨hun, hnu8⟩, ⟨hkn, hnk2⟩, ⟨htn, ht2, ht6⟩, ⟨hln, hl1, hl4⟩⟩ := hR.pre
  obtain ⟨cp1, cp2, cp3⟩ := hR.cpre
  obtain ⟨len, hlen, h300⟩ := hR.len
  by_cases hz : xs (nI (6 * k) + 3).toNatClampNeg = 0
  · refine lv_aload_n hx hb dL_law_345 rfl (lv_at hl 2 rfl) ?_
    refine lv_aload_n hx hb dL_law_346 rfl (lv_at hl 3 rfl) ?_
    refine lv_iload_n hx hb dL_law_347 rfl (lv_at hl 0 rfl) ?_
    refine lv_iconst (v := 1) hx hb dL_law_348 (by decide) ?_
    refine lv_iadd hx hb dL_law_349 ?_
    refine va_sld hx hb hXs hbl hbA hS (show vp_in (nI (6 * k) + 1) L from ixs hL hk (j := 1) (by decide)) dL_law_350 ?_
    refine lv_aload_n hx hb dL_law_351 rfl (lv_at hl 3 rfl) ?_
    refine lv_iload_n hx hb dL_law_352 rfl (lv_at hl 0 rfl) ?_
    refine lv_iconst (v := 2) hx hb dL_law_353 (by decide) ?_
    refine lv_iadd hx hb dL_law_354 ?_
    refine va_sld hx hb hXs hbl hbA hS (show vp_in (nI (6 * k) + 2) L from ixs hL hk (j := 2) (by decide)) dL_law_355 ?_
    refine lv_aload_n hx hb dL_law_356 rfl (lv_at hl 3 rfl) ?_
    refine lv_iload_n hx hb dL_law_357 rfl (lv_at hl 0 rfl) ?_
    refine lv_iconst (v := 3) hx hb dL_law_358 (by decide) ?_
    refine lv_iadd hx hb dL_law_359 ?_
    refine va_sld hx hb hXs hbl hbA hS (show vp_in (nI (6 * k) + 3) L from ixs hL hk (j := 3) (by decide)) dL_law_360 ?_
    refine lv_if_eq (tgt := 368) hx hb dL_law_361 (by decide) (fun _ => ?_) (fun c_ => absurd hz c_)
    refine lv_iconst (v := 0) hx hb dL_law_368 (by decide) ?_
    refine kcV_s hx hb hml hown hts hX hP hD hS (c_X6_go l G h0 tx nw tr un kp wy rm pl dr (xs (nI (6 * k) + 1).toNatClampNeg) (xs (nI (6 * k) + 2).toNatClampNeg) 0 vp vn adu hvu nu hnu8) gL_law_X6_go 3 rfl rfl rfl hd_X6_go ⟨Nat.le_of_ble_eq_true rfl, Nat.le_of_ble_eq_true rfl⟩ [0, 8, 2, 4] (by decide) rfl 0 rfl rfl rfl hl.1 rfl rfl (Nat.le_of_ble_eq_true rfl) dL_law_369 ⟨Nat.le_of_ble_eq_true rfl, Nat.le_of_ble_eq_true rfl⟩ (fun r_ bc_ hq_ H locs hP hD hS => ?_)
    obtain ⟨rfl, rfl⟩ := hq_
    have hP : PP G [bX6 h0 (tx 0) (nw 0) (tr 0) (un 0) (kp 0) (wy 0) (rm 0) (pl 0) (dr 0), bX4 tx G vt, bX0 nw G (cnd (okGo vp vn (xs (nI (6 * k) + 1).toNatClampNeg) (xs (nI (6 * k) + 2).toNatClampNeg)) (f_X0_passThrough vn vp (xs (nI (6 * k) + 1).toNatClampNeg) (xs (nI (6 * k) + 2).toNatClampNeg) 0) vn), bX0 tr G vr, bX1 un G 8 (cnd (okGo vp vn (xs (nI (6 * k) + 1).toNatClampNeg) (xs (nI (6 * k) + 2).toNatClampNeg)) (pushA 8 nu adu) adu) (cnd (okGo vp vn (xs (nI (6 * k) + 1).toNatClampNeg) (xs (nI (6 * k) + 2).toNatClampNeg)) (pushH 8 nu hvu vn) hvu) (cnd (okGo vp vn (xs (nI (6 * k) + 1).toNatClampNeg) (xs (nI (6 * k) + 2).toNatClampNeg)) (pushN 8 nu) nu), bX1 kp G 2 adk hvk nk, bX5 wy G vy, bX3 rm G vm, bX2 pl G vp, bX2 dr G vd, bX7 a G v] H := hP
    have hD : DD (fun q : Nat => s.heap.size ≤ q) [bX6 h0 (tx 0) (nw 0) (tr 0) (un 0) (kp 0) (wy 0) (rm 0) (pl 0) (dr 0), bX4 tx G vt, bX0 nw G (cnd (okGo vp vn (xs (nI (6 * k) + 1).toNatClampNeg) (xs (nI (6 * k) + 2).toNatClampNeg)) (f_X0_passThrough vn vp (xs (nI (6 * k) + 1).toNatClampNeg) (xs (nI (6 * k) + 2).toNatClampNeg) 0) vn), bX0 tr G vr, bX1 un G 8 (cnd (okGo vp vn (xs (nI (6 * k) + 1).toNatClampNeg) (xs (nI (6 * k) + 2).toNatClampNeg)) (pushA 8 nu adu) adu) (cnd (okGo vp vn (xs (nI (6 * k) + 1).toNatClampNeg) (xs (nI (6 * k) + 2).toNatClampNeg)) (pushH 8 nu hvu vn) hvu) (cnd (okGo vp vn (xs (nI (6 * k) + 1).toNatClampNeg) (xs (nI (6 * k) + 2).toNatClampNeg)) (pushN 8 nu) nu), bX1 kp G 2 adk hvk nk, bX5 wy G vy, bX3 rm G vm, bX2 pl G vp, bX2 dr G vd, bX7 a G v] := hD
    refine lv_aload_n hx hb dL_law_372 rfl (lv_at hl 1 rfl) ?_
    refine lv_aload_n hx hb dL_law_373 rfl (lv_at hl 3 rfl) ?_
    refine lv_iload_n hx hb dL_law_374 rfl (lv_at hl 0 rfl) ?_
    refine lv_iconst (v := 1) hx hb dL_law_375 (by decide) ?_
    refine lv_iadd hx hb dL_law_376 ?_
    refine va_sld hx hb hXs hbl hbA hS (show vp_in (nI (6 * k) + 1) L from ixs hL hk (j := 1) (by decide)) dL_law_377 ?_
    refine lv_aload_n hx hb dL_law_378 rfl (lv_at hl 3 rfl) ?_
    refine lv_iload_n hx hb dL_law_379 rfl (lv_at hl 0 rfl) ?_
    refine lv_iconst (v := 2) hx hb dL_law_380 (by decide) ?_
    refine lv_iadd hx hb dL_law_381 ?_
    refine va_sld hx hb hXs hbl hbA hS (show vp_in (nI (6 * k) + 2) L from ixs hL hk (j := 2) (by decide)) dL_law_382 ?_
    refine lv_aload_n hx hb dL_law_383 rfl (lv_at hl 3 rfl) ?_
    refine lv_iload_n hx hb dL_law_384 rfl (lv_at hl 0 rfl) ?_
    refine lv_iconst (v := 3) hx hb dL_law_385 (by decide) ?_
    refine lv_iadd hx hb dL_law_386 ?_
    refine va_sld hx hb hXs hbl hbA hS (show vp_in (nI (6 * k) + 3) L from ixs hL hk (j := 3) (by decide)) dL_law_387 ?_
    refine lv_if_eq (tgt := 395) hx hb dL_law_388 (by decide) (fun _ => ?_) (fun c_ => absurd hz c_)
    refine lv_iconst (v := 0) hx hb dL_law_395 (by decide) ?_
    refine kcV_s hx hb hml hown hts hX hP hD hS (c_X7_go l G a v (xs (nI (6 * k) + 1).toNatClampNeg) (xs (nI (6 * k) + 2).toNatClampNeg) 0 pd0 pd8 pl0 pl4 pu0 pu8) gL_law_X7_go 3 rfl rfl rfl hd_X7_go ⟨Nat.le_of_ble_eq_true rfl, Nat.le_of_ble_eq_true rfl⟩ [10] (by decide) rfl 10 rfl rfl rfl hl.1 rfl rfl (Nat.le_of_ble_eq_true rfl) dL_law_396 ⟨Nat.le_of_ble_eq_true rfl, Nat.le_of_ble_eq_true rfl⟩ (fun r_ bc_ hq_ H locs hP hD hS => ?_)
    obtain ⟨rfl, rfl⟩ := hq_
    have hP : PP G [bX6 h0 (tx 0) (nw 0) (tr 0) (un 0) (kp 0) (wy 0) (rm 0) (pl 0) (dr 0), bX4 tx G vt, bX0 nw G (cnd (okGo vp vn (xs (nI (6 * k) + 1).toNatClampNeg) (xs (nI (6 * k) + 2).toNatClampNeg)) (f_X0_passThrough vn vp (xs (nI (6 * k) + 1).toNatClampNeg) (xs (nI (6 * k) + 2).toNatClampNeg) 0) vn), bX0 tr G vr, bX1 un G 8 (cnd (okGo vp vn (xs (nI (6 * k) + 1).toNatClampNeg) (xs (nI (6 * k) + 2).toNatClampNeg)) (pushA 8 nu adu) adu) (cnd (okGo vp vn (xs (nI (6 * k) + 1).toNatClampNeg) (xs (nI (6 * k) + 2).toNatClampNeg)) (pushH 8 nu hvu vn) hvu) (cnd (okGo vp vn (xs (nI (6 * k) + 1).toNatClampNeg) (xs (nI (6 * k) + 2).toNatClampNeg)) (pushN 8 nu) nu), bX1 kp G 2 adk hvk nk, bX5 wy G vy, bX3 rm G vm, bX2 pl G vp, bX2 dr G vd, bX7 a G (g_goV v (xs (nI (6 * k) + 1).toNatClampNeg) (xs (nI (6 * k) + 2).toNatClampNeg) 0)] H := hP
    have hD : DD (fun q : Nat => s.heap.size ≤ q) [bX6 h0 (tx 0) (nw 0) (tr 0) (un 0) (kp 0) (wy 0) (rm 0) (pl 0) (dr 0), bX4 tx G vt, bX0 nw G (cnd (okGo vp vn (xs (nI (6 * k) + 1).toNatClampNeg) (xs (nI (6 * k) + 2).toNatClampNeg)) (f_X0_passThrough vn vp (xs (nI (6 * k) + 1).toNatClampNeg) (xs (nI (6 * k) + 2).toNatClampNeg) 0) vn), bX0 tr G vr, bX1 un G 8 (cnd (okGo vp vn (xs (nI (6 * k) + 1).toNatClampNeg) (xs (nI (6 * k) + 2).toNatClampNeg)) (pushA 8 nu adu) adu) (cnd (okGo vp vn (xs (nI (6 * k) + 1).toNatClampNeg) (xs (nI (6 * k) + 2).toNatClampNeg)) (pushH 8 nu hvu vn) hvu) (cnd (okGo vp vn (xs (nI (6 * k) + 1).toNatClampNeg) (xs (nI (6 * k) + 2).toNatClampNeg)) (pushN 8 nu) nu), bX1 kp G 2 adk hvk nk, bX5 wy G vy, bX3 rm G vm, bX2 pl G vp, bX2 dr G vd, bX7 a G (g_goV v (xs (nI (6 * k) + 1).toNatClampNeg) (xs (nI (6 * k) + 2).toNatClampNeg) 0)] := hD
    refine lv_icmp_eq (tgt := 912) hx hb dL_law_399 (by decide) (fun _ => ?_) (fun c_ => absurd ?_ c_)
    · exact hn tx nw tr un kp wy rm pl dr vt (cnd (okGo vp vn (xs (nI (6 * k) + 1).toNatClampNeg) (xs (nI (6 * k) + 2).toNatClampNeg)) (f_X0_passThrough vn vp (xs (nI (6 * k) + 1).toNatClampNeg) (xs (nI (6 * k) + 2).toNatClampNeg) 0) vn) vr (cnd (okGo vp vn (xs (nI (6 * k) + 1).toNatClampNeg) (xs (nI (6 * k) + 2).toNatClampNeg)) (pushA 8 nu adu) adu) (cnd (okGo vp vn (xs (nI (6 * k) + 1).toNatClampNeg) (xs (nI (6 * k) + 2).toNatClampNeg)) (pushH 8 nu hvu vn) hvu) (cnd (okGo vp vn (xs (nI (6 * k) + 1).toNatClampNeg) (xs (nI (6 * k) + 2).toNatClampNeg)) (pushN 8 nu) nu) adk hvk nk vy vm vp vd (g_goV v (xs (nI (6 * k) + 1).toNatClampNeg) (xs (nI (6 * k) + 2).toNatClampNeg) 0) q H locs ls hP hD hS hl (a_go hR (xs (nI (6 * k) + 1).toNatClampNeg) (xs (nI (6 * k) + 2).toNatClampNeg) 0).2
    · exact (a_go hR (xs (nI (6 * k) + 1).toNatClampNeg) (xs (nI (6 * k) + 2).toNatClampNeg) 0).1
  · refine lv_aload_n hx hb dL_law_345 rfl (lv_at hl 2 rfl) ?_
    refine lv_aload_n hx hb dL_law_346 rfl (lv_at hl 3 rfl) ?_
    refine lv_iload_n hx hb dL_law_347 rfl (lv_at hl 0 rfl) ?_
    refine lv_iconst (v := 1) hx hb dL_law_348 (by decide) ?_
    refine lv_iadd hx hb dL_law_349 ?_
    refine va_sld hx hb hXs hbl hbA hS (show vp_in (nI (6 * k) + 1) L from ixs hL hk (j := 1) (by decide)) dL_law_350 ?_
    refine lv_aload_n hx hb dL_law_351 rfl (lv_at hl 3 rfl) ?_
    refine lv_iload_n hx hb dL_law_352 rfl (lv_at hl 0 rfl) ?_
    refine lv_iconst (v := 2) hx hb dL_law_353 (by decide) ?_
    refine lv_iadd hx hb dL_law_354 ?_
    refine va_sld hx hb hXs hbl hbA hS (show vp_in (nI (6 * k) + 2) L from ixs hL hk (j := 2) (by decide)) dL_law_355 ?_
    refine lv_aload_n hx hb dL_law_356 rfl (lv_at hl 3 rfl) ?_
    refine lv_iload_n hx hb dL_law_357 rfl (lv_at hl 0 rfl) ?_
    refine lv_iconst (v := 3) hx hb dL_law_358 (by decide) ?_
    refine lv_iadd hx hb dL_law_359 ?_
    refine va_sld hx hb hXs hbl hbA hS (show vp_in (nI (6 * k) + 3) L from ixs hL hk (j := 3) (by decide)) dL_law_360 ?_
    refine lv_if_eq (tgt := 368) hx hb dL_law_361 (by decide) (fun c_ => absurd c_ hz) (fun _ => ?_)
    refine lv_iconst (v := 1) hx hb dL_law_364 (by decide) ?_
    refine lv_goto (tgt := 369) hx hb dL_law_365 (by decide) ?_
    refine kcV_s hx hb hml hown hts hX hP hD hS (c_X6_go l G h0 tx nw tr un kp wy rm pl dr (xs (nI (6 * k) + 1).toNatClampNeg) (xs (nI (6 * k) + 2).toNatClampNeg) 1 vp vn adu hvu nu hnu8) gL_law_X6_go 3 rfl rfl rfl hd_X6_go ⟨Nat.le_of_ble_eq_true rfl, Nat.le_of_ble_eq_true rfl⟩ [0, 8, 2, 4] (by decide) rfl 0 rfl rfl rfl hl.1 rfl rfl (Nat.le_of_ble_eq_true rfl) dL_law_369 ⟨Nat.le_of_ble_eq_true rfl, Nat.le_of_ble_eq_true rfl⟩ (fun r_ bc_ hq_ H locs hP hD hS => ?_)
    obtain ⟨rfl, rfl⟩ := hq_
    have hP : PP G [bX6 h0 (tx 0) (nw 0) (tr 0) (un 0) (kp 0) (wy 0) (rm 0) (pl 0) (dr 0), bX4 tx G vt, bX0 nw G (cnd (okGo vp vn (xs (nI (6 * k) + 1).toNatClampNeg) (xs (nI (6 * k) + 2).toNatClampNeg)) (f_X0_passThrough vn vp (xs (nI (6 * k) + 1).toNatClampNeg) (xs (nI (6 * k) + 2).toNatClampNeg) 1) vn), bX0 tr G vr, bX1 un G 8 (cnd (okGo vp vn (xs (nI (6 * k) + 1).toNatClampNeg) (xs (nI (6 * k) + 2).toNatClampNeg)) (pushA 8 nu adu) adu) (cnd (okGo vp vn (xs (nI (6 * k) + 1).toNatClampNeg) (xs (nI (6 * k) + 2).toNatClampNeg)) (pushH 8 nu hvu vn) hvu) (cnd (okGo vp vn (xs (nI (6 * k) + 1).toNatClampNeg) (xs (nI (6 * k) + 2).toNatClampNeg)) (pushN 8 nu) nu), bX1 kp G 2 adk hvk nk, bX5 wy G vy, bX3 rm G vm, bX2 pl G vp, bX2 dr G vd, bX7 a G v] H := hP
    have hD : DD (fun q : Nat => s.heap.size ≤ q) [bX6 h0 (tx 0) (nw 0) (tr 0) (un 0) (kp 0) (wy 0) (rm 0) (pl 0) (dr 0), bX4 tx G vt, bX0 nw G (cnd (okGo vp vn (xs (nI (6 * k) + 1).toNatClampNeg) (xs (nI (6 * k) + 2).toNatClampNeg)) (f_X0_passThrough vn vp (xs (nI (6 * k) + 1).toNatClampNeg) (xs (nI (6 * k) + 2).toNatClampNeg) 1) vn), bX0 tr G vr, bX1 un G 8 (cnd (okGo vp vn (xs (nI (6 * k) + 1).toNatClampNeg) (xs (nI (6 * k) + 2).toNatClampNeg)) (pushA 8 nu adu) adu) (cnd (okGo vp vn (xs (nI (6 * k) + 1).toNatClampNeg) (xs (nI (6 * k) + 2).toNatClampNeg)) (pushH 8 nu hvu vn) hvu) (cnd (okGo vp vn (xs (nI (6 * k) + 1).toNatClampNeg) (xs (nI (6 * k) + 2).toNatClampNeg)) (pushN 8 nu) nu), bX1 kp G 2 adk hvk nk, bX5 wy G vy, bX3 rm G vm, bX2 pl G vp, bX2 dr G vd, bX7 a G v] := hD
    refine lv_aload_n hx hb dL_law_372 rfl (lv_at hl 1 rfl) ?_
    refine lv_aload_n hx hb dL_law_373 rfl (lv_at hl 3 rfl) ?_
    refine lv_iload_n hx hb dL_law_374 rfl (lv_at hl 0 rfl) ?_
    refine lv_iconst (v := 1) hx hb dL_law_375 (by decide) ?_
    refine lv_iadd hx hb dL_law_376 ?_
    refine va_sld hx hb hXs hbl hbA hS (show vp_in (nI (6 * k) + 1) L from ixs hL hk (j := 1) (by decide)) dL_law_377 ?_
    refine lv_aload_n hx hb dL_law_378 rfl (lv_at hl 3 rfl) ?_
    refine lv_iload_n hx hb dL_law_379 rfl (lv_at hl 0 rfl) ?_
    refine lv_iconst (v := 2) hx hb dL_law_380 (by decide) ?_
    refine lv_iadd hx hb dL_law_381 ?_
    refine va_sld hx hb hXs hbl hbA hS (show vp_in (nI (6 * k) + 2) L from ixs hL hk (j := 2) (by decide)) dL_law_382 ?_
    refine lv_aload_n hx hb dL_law_383 rfl (lv_at hl 3 rfl) ?_
    refine lv_iload_n hx hb dL_law_384 rfl (lv_at hl 0 rfl) ?_
    refine lv_iconst (v := 3) hx hb dL_law_385 (by decide) ?_
    refine lv_iadd hx hb dL_law_386 ?_
    refine va_sld hx hb hXs hbl hbA hS (show vp_in (nI (6 * k) + 3) L from ixs hL hk (j := 3) (by decide)) dL_law_387 ?_
    refine lv_if_eq (tgt := 395) hx hb dL_law_388 (by decide) (fun c_ => absurd c_ hz) (fun _ => ?_)
    refine lv_iconst (v := 1) hx hb dL_law_391 (by decide) ?_
    refine lv_goto (tgt := 396) hx hb dL_law_392 (by decide) ?_
    refine kcV_s hx hb hml hown hts hX hP hD hS (c_X7_go l G a v (xs (nI (6 * k) + 1).toNatClampNeg) (xs (nI (6 * k) + 2).toNatClampNeg) 1 pd0 pd8 pl0 pl4 pu0 pu8) gL_law_X7_go 3 rfl rfl rfl hd_X7_go ⟨Nat.le_of_ble_eq_true rfl, Nat.le_of_ble_eq_true rfl⟩ [10] (by decide) rfl 10 rfl rfl rfl hl.1 rfl rfl (Nat.le_of_ble_eq_true rfl) dL_law_396 ⟨Nat.le_of_ble_eq_true rfl, Nat.le_of_ble_eq_true rfl⟩ (fun r_ bc_ hq_ H locs hP hD hS => ?_)
    obtain ⟨rfl, rfl⟩ := hq_
    have hP : PP G [bX6 h0 (tx 0) (nw 0) (tr 0) (un 0) (kp 0) (wy 0) (rm 0) (pl 0) (dr 0), bX4 tx G vt, bX0 nw G (cnd (okGo vp vn (xs (nI (6 * k) + 1).toNatClampNeg) (xs (nI (6 * k) + 2).toNatClampNeg)) (f_X0_passThrough vn vp (xs (nI (6 * k) + 1).toNatClampNeg) (xs (nI (6 * k) + 2).toNatClampNeg) 1) vn), bX0 tr G vr, bX1 un G 8 (cnd (okGo vp vn (xs (nI (6 * k) + 1).toNatClampNeg) (xs (nI (6 * k) + 2).toNatClampNeg)) (pushA 8 nu adu) adu) (cnd (okGo vp vn (xs (nI (6 * k) + 1).toNatClampNeg) (xs (nI (6 * k) + 2).toNatClampNeg)) (pushH 8 nu hvu vn) hvu) (cnd (okGo vp vn (xs (nI (6 * k) + 1).toNatClampNeg) (xs (nI (6 * k) + 2).toNatClampNeg)) (pushN 8 nu) nu), bX1 kp G 2 adk hvk nk, bX5 wy G vy, bX3 rm G vm, bX2 pl G vp, bX2 dr G vd, bX7 a G (g_goV v (xs (nI (6 * k) + 1).toNatClampNeg) (xs (nI (6 * k) + 2).toNatClampNeg) 1)] H := hP
    have hD : DD (fun q : Nat => s.heap.size ≤ q) [bX6 h0 (tx 0) (nw 0) (tr 0) (un 0) (kp 0) (wy 0) (rm 0) (pl 0) (dr 0), bX4 tx G vt, bX0 nw G (cnd (okGo vp vn (xs (nI (6 * k) + 1).toNatClampNeg) (xs (nI (6 * k) + 2).toNatClampNeg)) (f_X0_passThrough vn vp (xs (nI (6 * k) + 1).toNatClampNeg) (xs (nI (6 * k) + 2).toNatClampNeg) 1) vn), bX0 tr G vr, bX1 un G 8 (cnd (okGo vp vn (xs (nI (6 * k) + 1).toNatClampNeg) (xs (nI (6 * k) + 2).toNatClampNeg)) (pushA 8 nu adu) adu) (cnd (okGo vp vn (xs (nI (6 * k) + 1).toNatClampNeg) (xs (nI (6 * k) + 2).toNatClampNeg)) (pushH 8 nu hvu vn) hvu) (cnd (okGo vp vn (xs (nI (6 * k) + 1).toNatClampNeg) (xs (nI (6 * k) + 2).toNatClampNeg)) (pushN 8 nu) nu), bX1 kp G 2 adk hvk nk, bX5 wy G vy, bX3 rm G vm, bX2 pl G vp, bX2 dr G vd, bX7 a G (g_goV v (xs (nI (6 * k) + 1).toNatClampNeg) (xs (nI (6 * k) + 2).toNatClampNeg) 1)] := hD
    refine lv_icmp_eq (tgt := 912) hx hb dL_law_399 (by decide) (fun _ => ?_) (fun c_ => absurd ?_ c_)
    · exact hn tx nw tr un kp wy rm pl dr vt (cnd (okGo vp vn (xs (nI (6 * k) + 1).toNatClampNeg) (xs (nI (6 * k) + 2).toNatClampNeg)) (f_X0_passThrough vn vp (xs (nI (6 * k) + 1).toNatClampNeg) (xs (nI (6 * k) + 2).toNatClampNeg) 1) vn) vr (cnd (okGo vp vn (xs (nI (6 * k) + 1).toNatClampNeg) (xs (nI (6 * k) + 2).toNatClampNeg)) (pushA 8 nu adu) adu) (cnd (okGo vp vn (xs (nI (6 * k) + 1).toNatClampNeg) (xs (nI (6 * k) + 2).toNatClampNeg)) (pushH 8 nu hvu vn) hvu) (cnd (okGo vp vn (xs (nI (6 * k) + 1).toNatClampNeg) (xs (nI (6 * k) + 2).toNatClampNeg)) (pushN 8 nu) nu) adk hvk nk vy vm vp vd (g_goV v (xs (nI (6 * k) + 1).toNatClampNeg) (xs (nI (6 * k) + 2).toNatClampNeg) 1) q H locs ls hP hD hS hl (a_go hR (xs (nI (6 * k) + 1).toNatClampNeg) (xs (nI (6 * k) + 2).toNatClampNeg) 1).2
    · exact (a_go hR (xs (nI (6 * k) + 1).toNatClampNeg) (xs (nI (6 * k) + 2).toNatClampNeg) 1).1
end LC
