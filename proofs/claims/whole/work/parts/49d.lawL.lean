/-! the law: its loop -/
section LC
variable {p : Program} {l : Launch} {e : Env} {s : State} {m : MethodId} {below : List Frame} {meth : Method} {c : Code} {b L : Nat} {xs : Nat → Int32} {Z : State → Prop} {G : GD} {h0 : Nat} {a : Nat → Nat} {k : Nat}
set_option maxRecDepth 100000 in
set_option maxHeartbeats 4000000 in
theorem law_step (hE : LE p s m meth c b L xs G) (hk : 6 * k + 6 ≤ L) (hn : Nxt p l e s m below meth c b Z G h0 a 912 k) : Nxt p l e s m below meth c b Z G h0 a 27 k := by
  intro tx nw tr un kp wy rm pl dr vt vn vr adu hvu nu adk hvk nk vy vm vp vd v q H locs ls hP hD hS hl hR
  have hE' := hE
  obtain ⟨hx, hb, hml, hown, hts, hXs, hbl, hX, hL⟩ := hE'
  have hbA : ¬ (fun q : Nat => s.heap.size ≤ q) b := Nat.not_le.mpr hbl
  refine lv_aload_n hx hb dL_law_27 rfl (lv_at hl 3 rfl) ?_
  refine lv_iload_n hx hb dL_law_28 rfl (lv_at hl 0 rfl) ?_
  refine va_sld hx hb hXs hbl hbA hS (show vp_in (nI (6 * k)) L from vp_in_nI (by omega) (by omega)) dL_law_29 ?_
  refine lv_bipush (v := 31) hx hb dL_law_30 (by decide) ?_
  refine lv_iand hx hb dL_law_32 ?_
  obtain ⟨t, ht, et⟩ := and31 (xs (nI (6 * k)).toNatClampNeg)
  have ho : t = 0 ∨ t = 1 ∨ t = 2 ∨ t = 3 ∨ t = 4 ∨ t = 5 ∨ t = 6 ∨ t = 7 ∨ t = 8 ∨ t = 9 ∨ t = 10 ∨ t = 11 ∨ t = 12 ∨ t = 13 ∨ t = 14 ∨ t = 15 ∨ t = 16 ∨ t = 17 ∨ t = 18 ∨ t = 19 ∨ t = 20 ∨ t = 21 ∨ t = 22 ∨ t = 23 ∨ 24 ≤ t := by omega
  rcases ho with rfl | rfl | rfl | rfl | rfl | rfl | rfl | rfl | rfl | rfl | rfl | rfl | rfl | rfl | rfl | rfl | rfl | rfl | rfl | rfl | rfl | rfl | rfl | rfl | ho
  · refine kb_tIn (tgt := 144) hx hb et dL_law_33 (by decide) (by decide) rfl (by decide) ?_
    exact law_write hE hk hn tx nw tr un kp wy rm pl dr vt vn vr adu hvu nu adk hvk nk vy vm vp vd v q H locs ls hP hD hS hl hR
  · refine kb_tIn (tgt := 207) hx hb et dL_law_33 (by decide) (by decide) rfl (by decide) ?_
    exact law_wipe hE hk hn tx nw tr un kp wy rm pl dr vt vn vr adu hvu nu adk hvk nk vy vm vp vd v q H locs ls hP hD hS hl hR
  · refine kb_tIn (tgt := 220) hx hb et dL_law_33 (by decide) (by decide) rfl (by decide) ?_
    exact law_fault hE hk hn tx nw tr un kp wy rm pl dr vt vn vr adu hvu nu adk hvk nk vy vm vp vd v q H locs ls hP hD hS hl hR
  · refine kb_tIn (tgt := 233) hx hb et dL_law_33 (by decide) (by decide) rfl (by decide) ?_
    exact law_lay hE hk hn tx nw tr un kp wy rm pl dr vt vn vr adu hvu nu adk hvk nk vy vm vp vd v q H locs ls hP hD hS hl hR
  · refine kb_tIn (tgt := 246) hx hb et dL_law_33 (by decide) (by decide) rfl (by decide) ?_
    exact law_door hE hk hn tx nw tr un kp wy rm pl dr vt vn vr adu hvu nu adk hvk nk vy vm vp vd v q H locs ls hP hD hS hl hR
  · refine kb_tIn (tgt := 279) hx hb et dL_law_33 (by decide) (by decide) rfl (by decide) ?_
    exact law_lodger hE hk hn tx nw tr un kp wy rm pl dr vt vn vr adu hvu nu adk hvk nk vy vm vp vd v q H locs ls hP hD hS hl hR
  · refine kb_tIn (tgt := 312) hx hb et dL_law_33 (by decide) (by decide) rfl (by decide) ?_
    exact law_grudge hE hk hn tx nw tr un kp wy rm pl dr vt vn vr adu hvu nu adk hvk nk vy vm vp vd v q H locs ls hP hD hS hl hR
  · refine kb_tIn (tgt := 345) hx hb et dL_law_33 (by decide) (by decide) rfl (by decide) ?_
    exact law_go hE hk hn tx nw tr un kp wy rm pl dr vt vn vr adu hvu nu adk hvk nk vy vm vp vd v q H locs ls hP hD hS hl hR
  · refine kb_tIn (tgt := 404) hx hb et dL_law_33 (by decide) (by decide) rfl (by decide) ?_
    exact law_oil hE hk hn tx nw tr un kp wy rm pl dr vt vn vr adu hvu nu adk hvk nk vy vm vp vd v q H locs ls hP hD hS hl hR
  · refine kb_tIn (tgt := 427) hx hb et dL_law_33 (by decide) (by decide) rfl (by decide) ?_
    exact law_night hE hk hn tx nw tr un kp wy rm pl dr vt vn vr adu hvu nu adk hvk nk vy vm vp vd v q H locs ls hP hD hS hl hR
  · refine kb_tIn (tgt := 450) hx hb et dL_law_33 (by decide) (by decide) rfl (by decide) ?_
    exact law_undo hE hk hn tx nw tr un kp wy rm pl dr vt vn vr adu hvu nu adk hvk nk vy vm vp vd v q H locs ls hP hD hS hl hR
  · refine kb_tIn (tgt := 463) hx hb et dL_law_33 (by decide) (by decide) rfl (by decide) ?_
    exact law_way hE hk hn tx nw tr un kp wy rm pl dr vt vn vr adu hvu nu adk hvk nk vy vm vp vd v q H locs ls hP hD hS hl hR
  · refine kb_tIn (tgt := 506) hx hb et dL_law_33 (by decide) (by decide) rfl (by decide) ?_
    exact law_first hE hk hn tx nw tr un kp wy rm pl dr vt vn vr adu hvu nu adk hvk nk vy vm vp vd v q H locs ls hP hD hS hl hR
  · refine kb_tIn (tgt := 549) hx hb et dL_law_33 (by decide) (by decide) rfl (by decide) ?_
    exact law_inTime hE hk hn tx nw tr un kp wy rm pl dr vt vn vr adu hvu nu adk hvk nk vy vm vp vd v q H locs ls hP hD hS hl hR
  · refine kb_tIn (tgt := 582) hx hb et dL_law_33 (by decide) (by decide) rfl (by decide) ?_
    exact law_rooms hE hk hn tx nw tr un kp wy rm pl dr vt vn vr adu hvu nu adk hvk nk vy vm vp vd v q H locs ls hP hD hS hl hR
  · refine kb_tIn (tgt := 605) hx hb et dL_law_33 (by decide) (by decide) rfl (by decide) ?_
    exact law_behind hE hk hn tx nw tr un kp wy rm pl dr vt vn vr adu hvu nu adk hvk nk vy vm vp vd v q H locs ls hP hD hS hl hR
  · refine kb_tIn (tgt := 648) hx hb et dL_law_33 (by decide) (by decide) rfl (by decide) ?_
    exact law_worst hE hk hn tx nw tr un kp wy rm pl dr vt vn vr adu hvu nu adk hvk nk vy vm vp vd v q H locs ls hP hD hS hl hR
  · refine kb_tIn (tgt := 681) hx hb et dL_law_33 (by decide) (by decide) rfl (by decide) ?_
    exact law_stop hE hk hn tx nw tr un kp wy rm pl dr vt vn vr adu hvu nu adk hvk nk vy vm vp vd v q H locs ls hP hD hS hl hR
  · refine kb_tIn (tgt := 734) hx hb et dL_law_33 (by decide) (by decide) rfl (by decide) ?_
    exact law_how hE hk hn tx nw tr un kp wy rm pl dr vt vn vr adu hvu nu adk hvk nk vy vm vp vd v q H locs ls hP hD hS hl hR
  · refine kb_tIn (tgt := 797) hx hb et dL_law_33 (by decide) (by decide) rfl (by decide) ?_
    exact law_fresh hE hk hn tx nw tr un kp wy rm pl dr vt vn vr adu hvu nu adk hvk nk vy vm vp vd v q H locs ls hP hD hS hl hR
  · refine kb_tIn (tgt := 820) hx hb et dL_law_33 (by decide) (by decide) rfl (by decide) ?_
    exact law_week hE hk hn tx nw tr un kp wy rm pl dr vt vn vr adu hvu nu adk hvk nk vy vm vp vd v q H locs ls hP hD hS hl hR
  · refine kb_tIn (tgt := 863) hx hb et dL_law_33 (by decide) (by decide) rfl (by decide) ?_
    exact law_keep hE hk hn tx nw tr un kp wy rm pl dr vt vn vr adu hvu nu adk hvk nk vy vm vp vd v q H locs ls hP hD hS hl hR
  · refine kb_tIn (tgt := 876) hx hb et dL_law_33 (by decide) (by decide) rfl (by decide) ?_
    exact law_back hE hk hn tx nw tr un kp wy rm pl dr vt vn vr adu hvu nu adk hvk nk vy vm vp vd v q H locs ls hP hD hS hl hR
  · refine kb_tIn (tgt := 889) hx hb et dL_law_33 (by decide) (by decide) rfl (by decide) ?_
    exact law_count hE hk hn tx nw tr un kp wy rm pl dr vt vn vr adu hvu nu adk hvk nk vy vm vp vd v q H locs ls hP hD hS hl hR
  · refine kb_tOut (tgt := 912) hx hb dL_law_33 (Or.inr (by rw [et, nI_toInt (by omega)]; omega)) (by decide) ?_
    exact hn tx nw tr un kp wy rm pl dr vt vn vr adu hvu nu adk hvk nk vy vm vp vd v q H locs ls hP hD hS hl hR
theorem law_again (hE : LE p s m meth c b L xs G) (hn : Nxt p l e s m below meth c b Z G h0 a 18 (k + 1)) : Nxt p l e s m below meth c b Z G h0 a 912 k := by
  intro tx nw tr un kp wy rm pl dr vt vn vr adu hvu nu adk hvk nk vy vm vp vd v q H locs ls hP hD hS hl hR
  obtain ⟨hx, hb, hml, hown, hts, hXs, hbl, hX, hL⟩ := hE
  refine lv_iinc (v := nI (6 * (k + 1))) (lv' := [(3, .int (nI (6 * (k + 1)))), (2, .ref (a 0)), (1, .ref h0), (0, .ref b)]) hx hb dL_law_912 hl (k := 0) rfl (show nI (6 * k) + nI 6 = nI (6 * (k + 1)) from (nI_add ..).trans (congrArg nI (by omega))) (by decide) rfl (fun ls hl => ?_)
  refine lv_goto (tgt := 18) hx hb dL_law_915 (by decide) ?_
  exact hn tx nw tr un kp wy rm pl dr vt vn vr adu hvu nu adk hvk nk vy vm vp vd v q H locs ls hP hD hS hl hR
theorem law_head (hE : LE p s m meth c b L xs G) (hk : k ≤ 600) (hend : ∀ (H : Heap) (locs : List Loc) (ls : Array Slot), va_S (fun q : Nat => s.heap.size ≤ q) s.heap H locs → W p l e room_1 s m #[Value.ref b] below meth c H locs 106 2337 Z (F0 m 918 ls [])) (hn : 6 * k + 6 ≤ L → Nxt p l e s m below meth c b Z G h0 a 27 k) : Nxt p l e s m below meth c b Z G h0 a 18 k := by
  intro tx nw tr un kp wy rm pl dr vt vn vr adu hvu nu adk hvk nk vy vm vp vd v q H locs ls hP hD hS hl hR
  obtain ⟨hx, hb, hml, hown, hts, hXs, hbl, hX, hL⟩ := hE
  have hbA : ¬ (fun q : Nat => s.heap.size ≤ q) b := Nat.not_le.mpr hbl
  refine lv_iload_n hx hb dL_law_18 rfl (lv_at hl 0 rfl) ?_
  refine lv_aload_n hx hb dL_law_19 rfl (lv_at hl 3 rfl) ?_
  refine va_slen hx hb hXs hbl hbA hS dL_law_20 ?_
  refine lv_bipush (v := 6) hx hb dL_law_21 (by decide) ?_
  refine lv_isub hx hb dL_law_23 ?_
  refine lv_icmp_gt (tgt := 918) hx hb dL_law_24 (by decide) (fun c_ => ?_) (fun c_ => ?_)
  · exact hend H locs ls hS
  · exact hn (lw_more hL hk c_) tx nw tr un kp wy rm pl dr vt vn vr adu hvu nu adk hvk nk vy vm vp vd v q H locs ls hP hD hS hl hR
theorem law_loop (hE : LE p s m meth c b L xs G) (hend : ∀ (H : Heap) (locs : List Loc) (ls : Array Slot), va_S (fun q : Nat => s.heap.size ≤ q) s.heap H locs → W p l e room_1 s m #[Value.ref b] below meth c H locs 106 2337 Z (F0 m 918 ls [])) : ∀ n k, k + n = 600 → Nxt p l e s m below meth c b Z G h0 a 18 k := by
  have hL := hE.2.2.2.2.2.2.2.2
  intro n
  induction n with
  | zero => exact fun k hk => law_head hE (by omega) hend (fun h => absurd h (by omega))
  | succ n ih => exact fun k hk => law_head hE (by omega) hend (fun h => law_step hE h (law_again hE (ih (k + 1) (by omega))))
end LC
