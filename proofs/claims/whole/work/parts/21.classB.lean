/-! the class: its calls -/
def rm_X6_go : Room := { frames := 4, cells := 0, slots := 0, locals := 90 }
theorem hd_X6_go : yX6_go.cls = RX6 ∧ yX6_go.cls ≠ "java/lang/invoke/MethodHandle" ∧ yX6_go.cls ≠ "java/lang/invoke/VarHandle" ∧ (parseMethodDescriptor yX6_go.desc).map (fun d => d.parameters.length) = some 3 := by decide +kernel
set_option maxRecDepth 100000 in
set_option maxHeartbeats 4000000 in
theorem c_X6_go (l : Launch) (G : GD) (h0 : Nat) (tx nw tr un kp wy rm pl dr : Nat → Nat) (x1 : Int32) (x2 : Int32) (x3 : Int32) (vp : OV) (vn : OV) (adu : Nat → Nat → Nat) (hvu : Nat → OV) (nu : Nat) (hnu : nu ≤ 8) : MetS l yX6_go wsX6_go rm_X6_go G [bX6 h0 (tx 0) (nw 0) (tr 0) (un 0) (kp 0) (wy 0) (rm 0) (pl 0) (dr 0), bX2 pl G vp, bX0 nw G vn, bX1 un G 8 adu hvu nu] [.ref h0, .int x1, .int x2, .int x3] (fun r bc => r = some (.int (f_goR vp vn x1 x2)) ∧ bc = [bX6 h0 (tx 0) (nw 0) (tr 0) (un 0) (kp 0) (wy 0) (rm 0) (pl 0) (dr 0), bX2 pl G vp, bX0 nw G (cnd (okGo vp vn x1 x2) (f_X0_passThrough vn vp x1 x2 x3) vn), bX1 un G 8 (cnd (okGo vp vn x1 x2) (pushA 8 nu adu) adu) (cnd (okGo vp vn x1 x2) (pushH 8 nu hvu vn) hvu) (cnd (okGo vp vn x1 x2) (pushN 8 nu) nu)]) := by
  refine kb_beginS (cc := cX6_go) (maxL := 4) (ret := (some .int)) (by decide) rfl (Nat.le_of_ble_eq_true rfl) ?_
  intro p e s m below meth c hx hb hr hml hown hts hlocks hX H locs hP hD hS ls hl
  have hown : s.vm.findClass RX6 = some m.cls := hown
  have hl : lv_has ls 4 [(0, .ref h0), (1, .int x1), (2, .int x2), (3, .int x3)] := hl
  have hin0 : ∀ w ∈ u_ws RX0 TX0 6, w ∈ wsX6_go := (fun _ h => List.mem_cons_of_mem _ (List.mem_append_left _ (List.mem_append_left _ (List.mem_append_right _ (h)))))
  have hin6 : ∀ w ∈ u_ws RX6 TX6 9, w ∈ wsX6_go := (fun _ h => List.mem_cons_of_mem _ (List.mem_append_left _ (List.mem_append_left _ (List.mem_append_left _ (List.mem_append_right _ (h))))))
  refine lv_aload_n hx hb dX6_go_0 rfl (lv_at hl 0 rfl) ?_
  refine lv_iload_n hx hb dX6_go_1 rfl (lv_at hl 1 rfl) ?_
  refine kcV_p hx hb hml hown hts hX hP (c_X6_isLodger l G h0 tx nw tr un kp wy rm pl dr x1 vp) gX6_go_X6_isLodger 1 rfl rfl rfl hd_X6_isLodger ⟨Nat.le_of_ble_eq_true rfl, Nat.le_of_ble_eq_true rfl⟩ [0, 1] rfl 0 rfl rfl rfl hl.1 rfl rfl (Nat.le_of_ble_eq_true rfl) dX6_go_2 ⟨Nat.zero_le _, Nat.zero_le _⟩ ?_
  refine lv_if_eq (tgt := 16) hx hb dX6_go_5 (by decide) (fun c_5r => ?_) (fun c_5r => ?_)
  · have c_5 := b2i_fN c_5r
    refine lv_iconst (v := (-1)) hx hb dX6_go_16 (by decide) ?_
    have hP : PP G [bX6 h0 (tx 0) (nw 0) (tr 0) (un 0) (kp 0) (wy 0) (rm 0) (pl 0) (dr 0), bX2 pl G vp, bX0 nw G (cnd (okGo vp vn x1 x2) (f_X0_passThrough vn vp x1 x2 x3) vn), bX1 un G 8 (cnd (okGo vp vn x1 x2) (pushA 8 nu adu) adu) (cnd (okGo vp vn x1 x2) (pushH 8 nu hvu vn) hvu) (cnd (okGo vp vn x1 x2) (pushN 8 nu) nu)] H := by
      have hok : okGo vp vn x1 x2 = false := by simp only [okGo, if_neg c_5]
      rw [hok]
      exact hP
    exact kr_si hx hb hr hlocks dX6_go_17 hP hS (sameAd_cons rfl (sameAd_cons (bX2_ad _ _ _ _) (sameAd_cons (bX0_ad _ _ _ _) ⟨cnd_ad (by decide) _, sameAd_nil⟩))) ⟨by simp only [f_goR, if_neg c_5] <;> rfl, rfl⟩
  · have c_5 := b2i_tP c_5r
    refine lv_aload_n hx hb dX6_go_8 rfl (lv_at hl 0 rfl) ?_
    refine lv_iload_n hx hb dX6_go_9 rfl (lv_at hl 2 rfl) ?_
    refine kcV_p hx hb hml hown hts hX hP (c_X6_isDoor l G h0 tx nw tr un kp wy rm pl dr x2 vp) gX6_go_X6_isDoor 1 rfl rfl rfl hd_X6_isDoor ⟨Nat.le_of_ble_eq_true rfl, Nat.le_of_ble_eq_true rfl⟩ [0, 1] rfl 0 rfl rfl rfl hl.1 rfl rfl (Nat.le_of_ble_eq_true rfl) dX6_go_10 ⟨Nat.zero_le _, Nat.zero_le _⟩ ?_
    refine lv_if_ne (tgt := 18) hx hb dX6_go_13 (by decide) (fun c_13r => ?_) (fun c_13r => ?_)
    · have c_13 := b2i_tP c_13r
      refine lv_aload_n hx hb dX6_go_18 rfl (lv_at hl 0 rfl) ?_
      refine kb_get (own := RX6) (C := RX6) (T := TX6) (N := 9) (v := .ref (pl 0)) hx hb hts hin6 hown hX hP 0 rfl rfl rfl 7 (by decide) rfl (by decide +kernel) rfl dX6_go_19 ?_
      refine lv_iload_n hx hb dX6_go_22 rfl (lv_at hl 2 rfl) ?_
      refine lv_aload_n hx hb dX6_go_23 rfl (lv_at hl 0 rfl) ?_
      refine kb_get (own := RX6) (C := RX6) (T := TX6) (N := 9) (v := .ref (nw 0)) hx hb hts hin6 hown hX hP 0 rfl rfl rfl 1 (by decide) rfl (by decide +kernel) rfl dX6_go_24 ?_
      refine kb_getN (own := RX6) (C := RX0) (T := TX0) (N := 6) (v := .ref (nw 4)) hx hb hts hin0 hown hX hP 2 rfl rfl rfl 3 (by decide) rfl (by decide +kernel) rfl dX6_go_27 ?_
      refine lv_iload_n hx hb dX6_go_30 rfl (lv_at hl 1 rfl) ?_
      refine kcS_p hx hb hml hown hts hX hP (c_X6_at l G (nw 4) 4 (vn.1 3) x1 (by decide)) gX6_go_X6_at 2 rfl rfl rfl hdS_X6_at ⟨Nat.le_of_ble_eq_true rfl, Nat.le_of_ble_eq_true rfl⟩ (cell_in (i := 2) (j := 4) rfl rfl) hl.1 rfl rfl (Nat.le_of_ble_eq_true rfl) dX6_go_31 ⟨Nat.zero_le _, Nat.zero_le _⟩ ?_
      refine kcV_p hx hb hml hown hts hX hP (c_X2_otherSide l G pl vp x2 (rAt (vn.1 3) 4 x1)) gX6_go_X2_otherSide 2 rfl rfl rfl hd_X2_otherSide ⟨Nat.le_of_ble_eq_true rfl, Nat.le_of_ble_eq_true rfl⟩ [1] rfl 1 rfl rfl rfl hl.1 rfl rfl (Nat.le_of_ble_eq_true rfl) dX6_go_34 ⟨Nat.zero_le _, Nat.zero_le _⟩ ?_
      refine lv_if_ge (tgt := 43) hx hb dX6_go_37 (by decide) (fun c_37 => ?_) (fun c_37 => ?_)
      · refine lv_aload_n hx hb dX6_go_43 rfl (lv_at hl 0 rfl) ?_
        refine kb_get (own := RX6) (C := RX6) (T := TX6) (N := 9) (v := .ref (un 0)) hx hb hts hin6 hown hX hP 0 rfl rfl rfl 3 (by decide) rfl (by decide +kernel) rfl dX6_go_44 ?_
        refine lv_aload_n hx hb dX6_go_47 rfl (lv_at hl 0 rfl) ?_
        refine kb_get (own := RX6) (C := RX6) (T := TX6) (N := 9) (v := .ref (nw 0)) hx hb hts hin6 hown hX hP 0 rfl rfl rfl 1 (by decide) rfl (by decide +kernel) rfl dX6_go_48 ?_
        refine kcV_s hx hb hml hown hts hX hP hD hS (c_X1_push l G un 8 adu hvu nu nw vn (by omega) (by decide) (by decide)) gX6_go_X1_push 1 rfl rfl rfl hd_X1_push ⟨Nat.le_of_ble_eq_true rfl, Nat.le_of_ble_eq_true rfl⟩ [3, 2] (by decide) rfl 3 rfl rfl rfl hl.1 rfl rfl (Nat.le_of_ble_eq_true rfl) dX6_go_51 ⟨Nat.zero_le _, Nat.zero_le _⟩ (fun r_ bc_ hq_1 H locs hP hD hS => ?_)
        obtain ⟨rfl, rfl⟩ := hq_1
        have hP : PP G [bX6 h0 (tx 0) (nw 0) (tr 0) (un 0) (kp 0) (wy 0) (rm 0) (pl 0) (dr 0), bX2 pl G vp, bX0 nw G vn, bX1 un G 8 (pushA 8 nu adu) (pushH 8 nu hvu vn) (pushN 8 nu)] H := hP
        have hD : DD (AA (List.flatten [bX6 h0 (tx 0) (nw 0) (tr 0) (un 0) (kp 0) (wy 0) (rm 0) (pl 0) (dr 0), bX2 pl G vp, bX0 nw G vn, bX1 un G 8 adu hvu nu])) [bX6 h0 (tx 0) (nw 0) (tr 0) (un 0) (kp 0) (wy 0) (rm 0) (pl 0) (dr 0), bX2 pl G vp, bX0 nw G vn, bX1 un G 8 (pushA 8 nu adu) (pushH 8 nu hvu vn) (pushN 8 nu)] := D_re hD (adc rfl (adc (bX2_ad _ _ _ _) (adc (bX0_ad _ _ _ _) (adc (bX1_ad _ _ _ _ _ _ _ _) adn))))
        refine lv_aload_n hx hb dX6_go_54 rfl (lv_at hl 0 rfl) ?_
        refine kb_get (own := RX6) (C := RX6) (T := TX6) (N := 9) (v := .ref (nw 0)) hx hb hts hin6 hown hX hP 0 rfl rfl rfl 1 (by decide) rfl (by decide +kernel) rfl dX6_go_55 ?_
        refine lv_aload_n hx hb dX6_go_58 rfl (lv_at hl 0 rfl) ?_
        refine kb_get (own := RX6) (C := RX6) (T := TX6) (N := 9) (v := .ref (pl 0)) hx hb hts hin6 hown hX hP 0 rfl rfl rfl 7 (by decide) rfl (by decide +kernel) rfl dX6_go_59 ?_
        refine lv_iload_n hx hb dX6_go_62 rfl (lv_at hl 1 rfl) ?_
        refine lv_iload_n hx hb dX6_go_63 rfl (lv_at hl 2 rfl) ?_
        refine lv_iload_n hx hb dX6_go_64 rfl (lv_at hl 3 rfl) ?_
        refine kcV_s hx hb hml hown hts hX hP hD hS (c_X0_passThrough l G nw vn pl vp x1 x2 x3) gX6_go_X0_passThrough 4 rfl rfl rfl hd_X0_passThrough ⟨Nat.le_of_ble_eq_true rfl, Nat.le_of_ble_eq_true rfl⟩ [2, 1] (by decide) rfl 2 rfl rfl rfl hl.1 rfl rfl (Nat.le_of_ble_eq_true rfl) dX6_go_65 ⟨Nat.zero_le _, Nat.zero_le _⟩ (fun r_ bc_ hq_2 H locs hP hD hS => ?_)
        obtain ⟨rfl, rfl⟩ := hq_2
        have hP : PP G [bX6 h0 (tx 0) (nw 0) (tr 0) (un 0) (kp 0) (wy 0) (rm 0) (pl 0) (dr 0), bX2 pl G vp, bX0 nw G (f_X0_passThrough vn vp x1 x2 x3), bX1 un G 8 (pushA 8 nu adu) (pushH 8 nu hvu vn) (pushN 8 nu)] H := hP
        have hD : DD (AA (List.flatten [bX6 h0 (tx 0) (nw 0) (tr 0) (un 0) (kp 0) (wy 0) (rm 0) (pl 0) (dr 0), bX2 pl G vp, bX0 nw G vn, bX1 un G 8 adu hvu nu])) [bX6 h0 (tx 0) (nw 0) (tr 0) (un 0) (kp 0) (wy 0) (rm 0) (pl 0) (dr 0), bX2 pl G vp, bX0 nw G (f_X0_passThrough vn vp x1 x2 x3), bX1 un G 8 (pushA 8 nu adu) (pushH 8 nu hvu vn) (pushN 8 nu)] := D_re hD (adc rfl (adc (bX2_ad _ _ _ _) (adc (bX0_ad _ _ _ _) (adc (bX1_ad _ _ _ _ _ _ _ _) adn))))
        have hP : PP G [bX6 h0 (tx 0) (nw 0) (tr 0) (un 0) (kp 0) (wy 0) (rm 0) (pl 0) (dr 0), bX2 pl G vp, bX0 nw G (cnd (okGo vp vn x1 x2) (f_X0_passThrough vn vp x1 x2 x3) vn), bX1 un G 8 (cnd (okGo vp vn x1 x2) (pushA 8 nu adu) adu) (cnd (okGo vp vn x1 x2) (pushH 8 nu hvu vn) hvu) (cnd (okGo vp vn x1 x2) (pushN 8 nu) nu)] H := by
          have hok : okGo vp vn x1 x2 = true := by simp only [okGo, if_pos c_5, if_pos c_13, if_pos c_37]
          rw [hok]
          exact hP
        exact kr_si hx hb hr hlocks dX6_go_68 hP hS (sameAd_cons rfl (sameAd_cons (bX2_ad _ _ _ _) (sameAd_cons (bX0_ad _ _ _ _) ⟨cnd_ad (by decide) _, sameAd_nil⟩))) ⟨by simp only [f_goR, if_pos c_5, if_pos c_13, if_pos c_37] <;> rfl, rfl⟩
      · refine lv_bipush (v := (-2)) hx hb dX6_go_40 (by decide) ?_
        have hP : PP G [bX6 h0 (tx 0) (nw 0) (tr 0) (un 0) (kp 0) (wy 0) (rm 0) (pl 0) (dr 0), bX2 pl G vp, bX0 nw G (cnd (okGo vp vn x1 x2) (f_X0_passThrough vn vp x1 x2 x3) vn), bX1 un G 8 (cnd (okGo vp vn x1 x2) (pushA 8 nu adu) adu) (cnd (okGo vp vn x1 x2) (pushH 8 nu hvu vn) hvu) (cnd (okGo vp vn x1 x2) (pushN 8 nu) nu)] H := by
          have hok : okGo vp vn x1 x2 = false := by simp only [okGo, if_pos c_5, if_pos c_13, if_neg c_37]
          rw [hok]
          exact hP
        exact kr_si hx hb hr hlocks dX6_go_42 hP hS (sameAd_cons rfl (sameAd_cons (bX2_ad _ _ _ _) (sameAd_cons (bX0_ad _ _ _ _) ⟨cnd_ad (by decide) _, sameAd_nil⟩))) ⟨by simp only [f_goR, if_pos c_5, if_pos c_13, if_neg c_37] <;> rfl, rfl⟩
    · have c_13 := b2i_fN c_13r
      refine lv_iconst (v := (-1)) hx hb dX6_go_16 (by decide) ?_
      have hP : PP G [bX6 h0 (tx 0) (nw 0) (tr 0) (un 0) (kp 0) (wy 0) (rm 0) (pl 0) (dr 0), bX2 pl G vp, bX0 nw G (cnd (okGo vp vn x1 x2) (f_X0_passThrough vn vp x1 x2 x3) vn), bX1 un G 8 (cnd (okGo vp vn x1 x2) (pushA 8 nu adu) adu) (cnd (okGo vp vn x1 x2) (pushH 8 nu hvu vn) hvu) (cnd (okGo vp vn x1 x2) (pushN 8 nu) nu)] H := by
        have hok : okGo vp vn x1 x2 = false := by simp only [okGo, if_pos c_5, if_neg c_13]
        rw [hok]
        exact hP
      exact kr_si hx hb hr hlocks dX6_go_17 hP hS (sameAd_cons rfl (sameAd_cons (bX2_ad _ _ _ _) (sameAd_cons (bX0_ad _ _ _ _) ⟨cnd_ad (by decide) _, sameAd_nil⟩))) ⟨by simp only [f_goR, if_pos c_5, if_neg c_13] <;> rfl, rfl⟩

def rm_X6_oil : Room := { frames := 3, cells := 0, slots := 0, locals := 65 }
theorem hd_X6_oil : yX6_oil.cls = RX6 ∧ yX6_oil.cls ≠ "java/lang/invoke/MethodHandle" ∧ yX6_oil.cls ≠ "java/lang/invoke/VarHandle" ∧ (parseMethodDescriptor yX6_oil.desc).map (fun d => d.parameters.length) = some 1 := by decide +kernel
set_option maxRecDepth 100000 in
set_option maxHeartbeats 4000000 in
theorem c_X6_oil (l : Launch) (G : GD) (h0 : Nat) (tx nw tr un kp wy rm pl dr : Nat → Nat) (x1 : Int32) (vp : OV) (vn : OV) (adu : Nat → Nat → Nat) (hvu : Nat → OV) (nu : Nat) (hnu : nu ≤ 8) : MetS l yX6_oil wsX6_oil rm_X6_oil G [bX6 h0 (tx 0) (nw 0) (tr 0) (un 0) (kp 0) (wy 0) (rm 0) (pl 0) (dr 0), bX2 pl G vp, bX0 nw G vn, bX1 un G 8 adu hvu nu] [.ref h0, .int x1] (fun r bc => r = some (.int (f_oilR vp vn x1)) ∧ bc = [bX6 h0 (tx 0) (nw 0) (tr 0) (un 0) (kp 0) (wy 0) (rm 0) (pl 0) (dr 0), bX2 pl G vp, bX0 nw G (cnd (fIn x1 (vp.2 9)) (f_oilN vp vn x1) vn), bX1 un G 8 (cnd (fIn x1 (vp.2 9)) (pushA 8 nu adu) adu) (cnd (fIn x1 (vp.2 9)) (pushH 8 nu hvu vn) hvu) (cnd (fIn x1 (vp.2 9)) (pushN 8 nu) nu)]) := by
  refine kb_beginS (cc := cX6_oil) (maxL := 2) (ret := (some .int)) (by decide) rfl (Nat.le_of_ble_eq_true rfl) ?_
  intro p e s m below meth c hx hb hr hml hown hts hlocks hX H locs hP hD hS ls hl
  have hown : s.vm.findClass RX6 = some m.cls := hown
  have hl : lv_has ls 2 [(0, .ref h0), (1, .int x1)] := hl
  have hin0 : ∀ w ∈ u_ws RX0 TX0 6, w ∈ wsX6_oil := (fun _ h => List.mem_cons_of_mem _ (List.mem_append_left _ (List.mem_append_left _ (List.mem_append_right _ (h)))))
  have hin2 : ∀ w ∈ u_ws RX2 TX2 15, w ∈ wsX6_oil := (fun _ h => List.mem_cons_of_mem _ (List.mem_append_left _ (List.mem_append_right _ (h))))
  have hin6 : ∀ w ∈ u_ws RX6 TX6 9, w ∈ wsX6_oil := (fun _ h => List.mem_cons_of_mem _ (List.mem_append_left _ (List.mem_append_left _ (List.mem_append_left _ (List.mem_append_right _ (h))))))
  refine lv_aload_n hx hb dX6_oil_0 rfl (lv_at hl 0 rfl) ?_
  refine lv_iload_n hx hb dX6_oil_1 rfl (lv_at hl 1 rfl) ?_
  refine kcV_p hx hb hml hown hts hX hP (c_X6_isDoor l G h0 tx nw tr un kp wy rm pl dr x1 vp) gX6_oil_X6_isDoor 1 rfl rfl rfl hd_X6_isDoor ⟨Nat.le_of_ble_eq_true rfl, Nat.le_of_ble_eq_true rfl⟩ [0, 1] rfl 0 rfl rfl rfl hl.1 rfl rfl (Nat.le_of_ble_eq_true rfl) dX6_oil_2 ⟨Nat.zero_le _, Nat.zero_le _⟩ ?_
  refine lv_if_ne (tgt := 10) hx hb dX6_oil_5 (by decide) (fun c_5r => ?_) (fun c_5r => ?_)
  · have c_5 := b2i_tP c_5r
    refine lv_aload_n hx hb dX6_oil_10 rfl (lv_at hl 0 rfl) ?_
    refine kb_get (own := RX6) (C := RX6) (T := TX6) (N := 9) (v := .ref (un 0)) hx hb hts hin6 hown hX hP 0 rfl rfl rfl 3 (by decide) rfl (by decide +kernel) rfl dX6_oil_11 ?_
    refine lv_aload_n hx hb dX6_oil_14 rfl (lv_at hl 0 rfl) ?_
    refine kb_get (own := RX6) (C := RX6) (T := TX6) (N := 9) (v := .ref (nw 0)) hx hb hts hin6 hown hX hP 0 rfl rfl rfl 1 (by decide) rfl (by decide +kernel) rfl dX6_oil_15 ?_
    refine kcV_s hx hb hml hown hts hX hP hD hS (c_X1_push l G un 8 adu hvu nu nw vn (by omega) (by decide) (by decide)) gX6_oil_X1_push 1 rfl rfl rfl hd_X1_push ⟨Nat.le_of_ble_eq_true rfl, Nat.le_of_ble_eq_true rfl⟩ [3, 2] (by decide) rfl 3 rfl rfl rfl hl.1 rfl rfl (Nat.le_of_ble_eq_true rfl) dX6_oil_18 ⟨Nat.zero_le _, Nat.zero_le _⟩ (fun r_ bc_ hq_1 H locs hP hD hS => ?_)
    obtain ⟨rfl, rfl⟩ := hq_1
    have hP : PP G [bX6 h0 (tx 0) (nw 0) (tr 0) (un 0) (kp 0) (wy 0) (rm 0) (pl 0) (dr 0), bX2 pl G vp, bX0 nw G vn, bX1 un G 8 (pushA 8 nu adu) (pushH 8 nu hvu vn) (pushN 8 nu)] H := hP
    have hD : DD (AA (List.flatten [bX6 h0 (tx 0) (nw 0) (tr 0) (un 0) (kp 0) (wy 0) (rm 0) (pl 0) (dr 0), bX2 pl G vp, bX0 nw G vn, bX1 un G 8 adu hvu nu])) [bX6 h0 (tx 0) (nw 0) (tr 0) (un 0) (kp 0) (wy 0) (rm 0) (pl 0) (dr 0), bX2 pl G vp, bX0 nw G vn, bX1 un G 8 (pushA 8 nu adu) (pushH 8 nu hvu vn) (pushN 8 nu)] := D_re hD (adc rfl (adc (bX2_ad _ _ _ _) (adc (bX0_ad _ _ _ _) (adc (bX1_ad _ _ _ _ _ _ _ _) adn))))
    refine lv_aload_n hx hb dX6_oil_21 rfl (lv_at hl 0 rfl) ?_
    refine kb_get (own := RX6) (C := RX6) (T := TX6) (N := 9) (v := .ref (nw 0)) hx hb hts hin6 hown hX hP 0 rfl rfl rfl 1 (by decide) rfl (by decide +kernel) rfl dX6_oil_22 ?_
    refine kb_getN (own := RX6) (C := RX0) (T := TX0) (N := 6) (v := .ref (nw 3)) hx hb hts hin0 hown hX hP 2 rfl rfl rfl 2 (by decide) rfl (by decide +kernel) rfl dX6_oil_25 ?_
    refine lv_iload_n hx hb dX6_oil_28 rfl (lv_at hl 1 rfl) ?_
    refine lv_aload_n hx hb dX6_oil_29 rfl (lv_at hl 0 rfl) ?_
    refine kb_get (own := RX6) (C := RX6) (T := TX6) (N := 9) (v := .ref (pl 0)) hx hb hts hin6 hown hX hP 0 rfl rfl rfl 7 (by decide) rfl (by decide +kernel) rfl dX6_oil_30 ?_
    refine kb_getN (own := RX6) (C := RX2) (T := TX2) (N := 15) (v := .int (vp.2 14)) hx hb hts hin2 hown hX hP 1 rfl rfl rfl 14 (by decide) rfl (by decide +kernel) rfl dX6_oil_33 ?_
    refine kcS_c hx hb hml hown hts hX hP hD hS (c_X6_put l G (nw 3) 8 (vn.1 2) x1 (vp.2 14) (by decide)) gX6_oil_X6_put 3 rfl rfl rfl hdS_X6_put ⟨Nat.le_of_ble_eq_true rfl, Nat.le_of_ble_eq_true rfl⟩ 2 3 rfl rfl (bX0_A2 nw G vn (rPut (vn.1 2) 8 x1 (vp.2 14))) hl.1 rfl rfl (Nat.le_of_ble_eq_true rfl) dX6_oil_36 ⟨Nat.zero_le _, Nat.zero_le _⟩ (fun H locs hP hD hS => ?_)
    have hP : PP G [bX6 h0 (tx 0) (nw 0) (tr 0) (un 0) (kp 0) (wy 0) (rm 0) (pl 0) (dr 0), bX2 pl G vp, bX0 nw G (setA vn 2 (rPut (vn.1 2) 8 x1 (vp.2 14))), bX1 un G 8 (pushA 8 nu adu) (pushH 8 nu hvu vn) (pushN 8 nu)] H := hP
    have hD : DD (AA (List.flatten [bX6 h0 (tx 0) (nw 0) (tr 0) (un 0) (kp 0) (wy 0) (rm 0) (pl 0) (dr 0), bX2 pl G vp, bX0 nw G vn, bX1 un G 8 adu hvu nu])) [bX6 h0 (tx 0) (nw 0) (tr 0) (un 0) (kp 0) (wy 0) (rm 0) (pl 0) (dr 0), bX2 pl G vp, bX0 nw G (setA vn 2 (rPut (vn.1 2) 8 x1 (vp.2 14))), bX1 un G 8 (pushA 8 nu adu) (pushH 8 nu hvu vn) (pushN 8 nu)] := D_re hD (adc rfl (adc (bX2_ad _ _ _ _) (adc (bX0_ad _ _ _ _) (adc (bX1_ad _ _ _ _ _ _ _ _) adn))))
    refine lv_aload_n hx hb dX6_oil_39 rfl (lv_at hl 0 rfl) ?_
    refine kb_get (own := RX6) (C := RX6) (T := TX6) (N := 9) (v := .ref (nw 0)) hx hb hts hin6 hown hX hP 0 rfl rfl rfl 1 (by decide) rfl (by decide +kernel) rfl dX6_oil_40 ?_
    refine kcV_p hx hb hml hown hts hX hP (c_X0_oiledDoors l G nw (setA vn 2 (rPut (vn.1 2) 8 x1 (vp.2 14)))) gX6_oil_X0_oiledDoors 0 rfl rfl rfl hd_X0_oiledDoors ⟨Nat.le_of_ble_eq_true rfl, Nat.le_of_ble_eq_true rfl⟩ [2] rfl 2 rfl rfl rfl hl.1 rfl rfl (Nat.le_of_ble_eq_true rfl) dX6_oil_43 ⟨Nat.zero_le _, Nat.zero_le _⟩ ?_
    have hP : PP G [bX6 h0 (tx 0) (nw 0) (tr 0) (un 0) (kp 0) (wy 0) (rm 0) (pl 0) (dr 0), bX2 pl G vp, bX0 nw G (cnd (fIn x1 (vp.2 9)) (f_oilN vp vn x1) vn), bX1 un G 8 (cnd (fIn x1 (vp.2 9)) (pushA 8 nu adu) adu) (cnd (fIn x1 (vp.2 9)) (pushH 8 nu hvu vn) hvu) (cnd (fIn x1 (vp.2 9)) (pushN 8 nu) nu)] H := by
      simp only [cnd, if_pos c_5]
      exact hP
    exact kr_si hx hb hr hlocks dX6_oil_46 hP hS (sameAd_cons rfl (sameAd_cons (bX2_ad _ _ _ _) (sameAd_cons (bX0_ad _ _ _ _) ⟨cnd_ad (by decide) _, sameAd_nil⟩))) ⟨by simp only [f_oilR, if_pos c_5] <;> rfl, rfl⟩
  · have c_5 := b2i_fN c_5r
    refine lv_iconst (v := (-1)) hx hb dX6_oil_8 (by decide) ?_
    have hP : PP G [bX6 h0 (tx 0) (nw 0) (tr 0) (un 0) (kp 0) (wy 0) (rm 0) (pl 0) (dr 0), bX2 pl G vp, bX0 nw G (cnd (fIn x1 (vp.2 9)) (f_oilN vp vn x1) vn), bX1 un G 8 (cnd (fIn x1 (vp.2 9)) (pushA 8 nu adu) adu) (cnd (fIn x1 (vp.2 9)) (pushH 8 nu hvu vn) hvu) (cnd (fIn x1 (vp.2 9)) (pushN 8 nu) nu)] H := by
      simp only [cnd, if_neg c_5]
      exact hP
    exact kr_si hx hb hr hlocks dX6_oil_9 hP hS (sameAd_cons rfl (sameAd_cons (bX2_ad _ _ _ _) (sameAd_cons (bX0_ad _ _ _ _) ⟨cnd_ad (by decide) _, sameAd_nil⟩))) ⟨by simp only [f_oilR, if_neg c_5] <;> rfl, rfl⟩

def rm_X6_night : Room := { frames := 4, cells := 0, slots := 0, locals := 92 }
theorem hd_X6_night : yX6_night.cls = RX6 ∧ yX6_night.cls ≠ "java/lang/invoke/MethodHandle" ∧ yX6_night.cls ≠ "java/lang/invoke/VarHandle" ∧ (parseMethodDescriptor yX6_night.desc).map (fun d => d.parameters.length) = some 1 := by decide +kernel
set_option maxRecDepth 100000 in
set_option maxHeartbeats 4000000 in
theorem c_X6_night (l : Launch) (G : GD) (h0 : Nat) (tx nw tr un kp wy rm pl dr : Nat → Nat) (x1 : Int32) (vp : OV) (vn : OV) (adu : Nat → Nat → Nat) (hvu : Nat → OV) (nu : Nat) (hnu : nu ≤ 8) : MetS l yX6_night wsX6_night rm_X6_night G [bX6 h0 (tx 0) (nw 0) (tr 0) (un 0) (kp 0) (wy 0) (rm 0) (pl 0) (dr 0), bX2 pl G vp, bX0 nw G vn, bX1 un G 8 adu hvu nu] [.ref h0, .int x1] (fun r bc => r = some (.int (f_nightR vp vn x1)) ∧ bc = [bX6 h0 (tx 0) (nw 0) (tr 0) (un 0) (kp 0) (wy 0) (rm 0) (pl 0) (dr 0), bX2 pl G vp, bX0 nw G (cnd (okNight vn x1) (f_sleeps vp vn x1.toNatClampNeg) vn), bX1 un G 8 (cnd (okNight vn x1) (pushA 8 nu adu) adu) (cnd (okNight vn x1) (pushH 8 nu hvu vn) hvu) (cnd (okNight vn x1) (pushN 8 nu) nu)]) := by
  refine kb_beginS (cc := cX6_night) (maxL := 3) (ret := (some .int)) (by decide) rfl (Nat.le_of_ble_eq_true rfl) ?_
  intro p e s m below meth c hx hb hr hml hown hts hlocks hX H locs hP hD hS ls hl
  have hown : s.vm.findClass RX6 = some m.cls := hown
  have hl : lv_has ls 3 [(0, .ref h0), (1, .int x1)] := hl
  have hin0 : ∀ w ∈ u_ws RX0 TX0 6, w ∈ wsX6_night := (fun _ h => List.mem_cons_of_mem _ (List.mem_append_left _ (List.mem_append_left _ (List.mem_append_right _ (h)))))
  have hin6 : ∀ w ∈ u_ws RX6 TX6 9, w ∈ wsX6_night := (fun _ h => List.mem_cons_of_mem _ (List.mem_append_left _ (List.mem_append_left _ (List.mem_append_left _ (List.mem_append_right _ (h))))))
  refine lv_iload_n hx hb dX6_night_0 rfl (lv_at hl 1 rfl) ?_
  refine lv_iconst (v := 1) hx hb dX6_night_1 (by decide) ?_
  refine lv_bipush (v := 60) hx hb dX6_night_2 (by decide) ?_
  refine kcS_p hx hb hml hown hts hX hP (c_X6_within l G x1 1 60) gX6_night_X6_within 3 rfl rfl rfl hdS_X6_within ⟨Nat.le_of_ble_eq_true rfl, Nat.le_of_ble_eq_true rfl⟩ (fun q hq => absurd hq List.not_mem_nil) hl.1 rfl rfl (Nat.le_of_ble_eq_true rfl) dX6_night_4 ⟨Nat.zero_le _, Nat.zero_le _⟩ ?_
  refine lv_if_ne (tgt := 12) hx hb dX6_night_7 (by decide) (fun c_7r => ?_) (fun c_7r => ?_)
  · have c_7 := b2i_tP c_7r
    refine lv_aload_n hx hb dX6_night_12 rfl (lv_at hl 0 rfl) ?_
    refine kb_get (own := RX6) (C := RX6) (T := TX6) (N := 9) (v := .ref (nw 0)) hx hb hts hin6 hown hX hP 0 rfl rfl rfl 1 (by decide) rfl (by decide +kernel) rfl dX6_night_13 ?_
    refine kb_getN (own := RX6) (C := RX0) (T := TX0) (N := 6) (v := .int (vn.2 5)) hx hb hts hin0 hown hX hP 2 rfl rfl rfl 5 (by decide) rfl (by decide +kernel) rfl dX6_night_16 ?_
    refine lv_iload_n hx hb dX6_night_19 rfl (lv_at hl 1 rfl) ?_
    refine lv_iadd hx hb dX6_night_20 ?_
    refine lv_sipush (v := 9999) hx hb dX6_night_21 (by decide) ?_
    refine lv_icmp_le (tgt := 30) hx hb dX6_night_24 (by decide) (fun c_24 => ?_) (fun c_24 => ?_)
    · refine lv_aload_n hx hb dX6_night_30 rfl (lv_at hl 0 rfl) ?_
      refine kb_get (own := RX6) (C := RX6) (T := TX6) (N := 9) (v := .ref (un 0)) hx hb hts hin6 hown hX hP 0 rfl rfl rfl 3 (by decide) rfl (by decide +kernel) rfl dX6_night_31 ?_
      refine lv_aload_n hx hb dX6_night_34 rfl (lv_at hl 0 rfl) ?_
      refine kb_get (own := RX6) (C := RX6) (T := TX6) (N := 9) (v := .ref (nw 0)) hx hb hts hin6 hown hX hP 0 rfl rfl rfl 1 (by decide) rfl (by decide +kernel) rfl dX6_night_35 ?_
      refine kcV_s hx hb hml hown hts hX hP hD hS (c_X1_push l G un 8 adu hvu nu nw vn (by omega) (by decide) (by decide)) gX6_night_X1_push 1 rfl rfl rfl hd_X1_push ⟨Nat.le_of_ble_eq_true rfl, Nat.le_of_ble_eq_true rfl⟩ [3, 2] (by decide) rfl 3 rfl rfl rfl hl.1 rfl rfl (Nat.le_of_ble_eq_true rfl) dX6_night_38 ⟨Nat.zero_le _, Nat.zero_le _⟩ (fun r_ bc_ hq_1 H locs hP hD hS => ?_)
      obtain ⟨rfl, rfl⟩ := hq_1
      have hP : PP G [bX6 h0 (tx 0) (nw 0) (tr 0) (un 0) (kp 0) (wy 0) (rm 0) (pl 0) (dr 0), bX2 pl G vp, bX0 nw G vn, bX1 un G 8 (pushA 8 nu adu) (pushH 8 nu hvu vn) (pushN 8 nu)] H := hP
      have hD : DD (AA (List.flatten [bX6 h0 (tx 0) (nw 0) (tr 0) (un 0) (kp 0) (wy 0) (rm 0) (pl 0) (dr 0), bX2 pl G vp, bX0 nw G vn, bX1 un G 8 adu hvu nu])) [bX6 h0 (tx 0) (nw 0) (tr 0) (un 0) (kp 0) (wy 0) (rm 0) (pl 0) (dr 0), bX2 pl G vp, bX0 nw G vn, bX1 un G 8 (pushA 8 nu adu) (pushH 8 nu hvu vn) (pushN 8 nu)] := D_re hD (adc rfl (adc (bX2_ad _ _ _ _) (adc (bX0_ad _ _ _ _) (adc (bX1_ad _ _ _ _ _ _ _ _) adn))))
      refine lv_iconst (v := 0) hx hb dX6_night_41 (by decide) ?_
      refine lv_istore_n (lv' := [(2, .int 0), (0, .ref h0), (1, .int x1)]) hx hb dX6_night_42 rfl hl (by decide) rfl (fun ls hl => ?_)
      refine lp_up (N := x1.toNatClampNeg) (P := fun k => ∀ (H : Heap) (locs : List Loc) (ls : Array Slot), PP G [bX6 h0 (tx 0) (nw 0) (tr 0) (un 0) (kp 0) (wy 0) (rm 0) (pl 0) (dr 0), bX2 pl G vp, bX0 nw G (f_sleeps vp vn k), bX1 un G 8 (pushA 8 nu adu) (pushH 8 nu hvu vn) (pushN 8 nu)] H → DD (AA (List.flatten [bX6 h0 (tx 0) (nw 0) (tr 0) (un 0) (kp 0) (wy 0) (rm 0) (pl 0) (dr 0), bX2 pl G vp, bX0 nw G vn, bX1 un G 8 adu hvu nu])) [bX6 h0 (tx 0) (nw 0) (tr 0) (un 0) (kp 0) (wy 0) (rm 0) (pl 0) (dr 0), bX2 pl G vp, bX0 nw G (f_sleeps vp vn k), bX1 un G 8 (pushA 8 nu adu) (pushH 8 nu hvu vn) (pushN 8 nu)] → va_S (AA (List.flatten [bX6 h0 (tx 0) (nw 0) (tr 0) (un 0) (kp 0) (wy 0) (rm 0) (pl 0) (dr 0), bX2 pl G vp, bX0 nw G vn, bX1 un G 8 adu hvu nu])) s.heap H locs → lv_has ls 3 [(2, .int (nI k)), (0, .ref h0), (1, .int x1)] →  W p l e (headSpec wsX6_night rm_X6_night).room s m ([.ref h0, .int x1] : List Value).toArray below meth c H locs 0 0 (MQ below (kQs G [bX6 h0 (tx 0) (nw 0) (tr 0) (un 0) (kp 0) (wy 0) (rm 0) (pl 0) (dr 0), bX2 pl G vp, bX0 nw G vn, bX1 un G 8 adu hvu nu] (fun r bc => r = some (.int (f_nightR vp vn x1)) ∧ bc = [bX6 h0 (tx 0) (nw 0) (tr 0) (un 0) (kp 0) (wy 0) (rm 0) (pl 0) (dr 0), bX2 pl G vp, bX0 nw G (cnd (okNight vn x1) (f_sleeps vp vn x1.toNatClampNeg) vn), bX1 un G 8 (cnd (okNight vn x1) (pushA 8 nu adu) adu) (cnd (okNight vn x1) (pushH 8 nu hvu vn) hvu) (cnd (okNight vn x1) (pushN 8 nu) nu)])) ([.ref h0, .int x1] : List Value).toArray s 0 0 (AA (List.flatten [bX6 h0 (tx 0) (nw 0) (tr 0) (un 0) (kp 0) (wy 0) (rm 0) (pl 0) (dr 0), bX2 pl G vp, bX0 nw G vn, bX1 un G 8 adu hvu nu]))) (F0 m 43 ls [])) ?_ ?_ 0 (Nat.zero_le _)  _ _ _ hP hD hS (lv_sub hl [0, 1, 2] rfl) 
      · skip
        intro H locs ls hP hD hS hl 
        refine lv_iload_n hx hb dX6_night_43 rfl (lv_at hl 0 rfl) ?_
        refine lv_iload_n hx hb dX6_night_44 rfl (lv_at hl 2 rfl) ?_
        refine lv_icmp_ge (tgt := 65) hx hb dX6_night_45 (by decide) (fun c_45 => ?_) (fun c_45 => absurd (lpx_c _) c_45)
        refine lv_aload_n hx hb dX6_night_65 rfl (lv_at hl 1 rfl) ?_
        refine kb_get (own := RX6) (C := RX6) (T := TX6) (N := 9) (v := .ref (nw 0)) hx hb hts hin6 hown hX hP 0 rfl rfl rfl 1 (by decide) rfl (by decide +kernel) rfl dX6_night_66 ?_
        refine kb_getN (own := RX6) (C := RX0) (T := TX0) (N := 6) (v := .int ((f_sleeps vp vn x1.toNatClampNeg).2 5)) hx hb hts hin0 hown hX hP 2 rfl rfl rfl 5 (by decide) rfl (by decide +kernel) rfl dX6_night_69 ?_
        have hP : PP G [bX6 h0 (tx 0) (nw 0) (tr 0) (un 0) (kp 0) (wy 0) (rm 0) (pl 0) (dr 0), bX2 pl G vp, bX0 nw G (cnd (okNight vn x1) (f_sleeps vp vn x1.toNatClampNeg) vn), bX1 un G 8 (cnd (okNight vn x1) (pushA 8 nu adu) adu) (cnd (okNight vn x1) (pushH 8 nu hvu vn) hvu) (cnd (okNight vn x1) (pushN 8 nu) nu)] H := by
          have hok : okNight vn x1 = true := by simp only [okNight, if_pos c_7, if_pos c_24, if_pos c_45]
          rw [hok]
          exact hP
        exact kr_si hx hb hr hlocks dX6_night_72 hP hS (sameAd_cons rfl (sameAd_cons (bX2_ad _ _ _ _) (sameAd_cons (bX0_ad _ _ _ _) ⟨cnd_ad (by decide) _, sameAd_nil⟩))) ⟨by simp only [f_nightR, if_pos c_7, if_pos c_24, if_pos c_45] <;> rfl, rfl⟩
      · skip
        intro k hk_k ih_43 H locs ls hP hD hS hl 
        refine lv_iload_n hx hb dX6_night_43 rfl (lv_at hl 0 rfl) ?_
        refine lv_iload_n hx hb dX6_night_44 rfl (lv_at hl 2 rfl) ?_
        refine lv_icmp_ge (tgt := 65) hx hb dX6_night_45 (by decide) (fun c_45 => absurd c_45 (lps_c hk_k)) (fun c_45 => ?_)
        refine lv_aload_n hx hb dX6_night_48 rfl (lv_at hl 1 rfl) ?_
        refine kb_get (own := RX6) (C := RX6) (T := TX6) (N := 9) (v := .ref (nw 0)) hx hb hts hin6 hown hX hP 0 rfl rfl rfl 1 (by decide) rfl (by decide +kernel) rfl dX6_night_49 ?_
        refine lv_aload_n hx hb dX6_night_52 rfl (lv_at hl 1 rfl) ?_
        refine kb_get (own := RX6) (C := RX6) (T := TX6) (N := 9) (v := .ref (pl 0)) hx hb hts hin6 hown hX hP 0 rfl rfl rfl 7 (by decide) rfl (by decide +kernel) rfl dX6_night_53 ?_
        refine kcV_s hx hb hml hown hts hX hP hD hS (c_X0_sleep l G nw (f_sleeps vp vn k) pl vp) gX6_night_X0_sleep 1 rfl rfl rfl hd_X0_sleep ⟨Nat.le_of_ble_eq_true rfl, Nat.le_of_ble_eq_true rfl⟩ [2, 1] (by decide) rfl 2 rfl rfl rfl hl.1 rfl rfl (Nat.le_of_ble_eq_true rfl) dX6_night_56 ⟨Nat.zero_le _, Nat.zero_le _⟩ (fun r_ bc_ hq_2 H locs hP hD hS => ?_)
        obtain ⟨rfl, rfl⟩ := hq_2
        have hP : PP G [bX6 h0 (tx 0) (nw 0) (tr 0) (un 0) (kp 0) (wy 0) (rm 0) (pl 0) (dr 0), bX2 pl G vp, bX0 nw G (f_X0_sleep (f_sleeps vp vn k) vp), bX1 un G 8 (pushA 8 nu adu) (pushH 8 nu hvu vn) (pushN 8 nu)] H := hP
        have hD : DD (AA (List.flatten [bX6 h0 (tx 0) (nw 0) (tr 0) (un 0) (kp 0) (wy 0) (rm 0) (pl 0) (dr 0), bX2 pl G vp, bX0 nw G vn, bX1 un G 8 adu hvu nu])) [bX6 h0 (tx 0) (nw 0) (tr 0) (un 0) (kp 0) (wy 0) (rm 0) (pl 0) (dr 0), bX2 pl G vp, bX0 nw G (f_X0_sleep (f_sleeps vp vn k) vp), bX1 un G 8 (pushA 8 nu adu) (pushH 8 nu hvu vn) (pushN 8 nu)] := D_re hD (adc rfl (adc (bX2_ad _ _ _ _) (adc (bX0_ad _ _ _ _) (adc (bX1_ad _ _ _ _ _ _ _ _) adn))))
        refine lv_iinc (v := nI (k + 1)) (lv' := [(2, .int (nI (k + 1))), (0, .ref h0), (1, .int x1)]) hx hb dX6_night_59 hl (k := 0) rfl (nI_1 _) (by decide) rfl (fun ls hl => ?_)
        refine lv_goto (tgt := 43) hx hb dX6_night_62 (by decide) ?_
        have hP : PP G [bX6 h0 (tx 0) (nw 0) (tr 0) (un 0) (kp 0) (wy 0) (rm 0) (pl 0) (dr 0), bX2 pl G vp, bX0 nw G (f_sleeps vp vn (k + 1)), bX1 un G 8 (pushA 8 nu adu) (pushH 8 nu hvu vn) (pushN 8 nu)] H := hP
        have hD : DD (AA (List.flatten [bX6 h0 (tx 0) (nw 0) (tr 0) (un 0) (kp 0) (wy 0) (rm 0) (pl 0) (dr 0), bX2 pl G vp, bX0 nw G vn, bX1 un G 8 adu hvu nu])) [bX6 h0 (tx 0) (nw 0) (tr 0) (un 0) (kp 0) (wy 0) (rm 0) (pl 0) (dr 0), bX2 pl G vp, bX0 nw G (f_sleeps vp vn (k + 1)), bX1 un G 8 (pushA 8 nu adu) (pushH 8 nu hvu vn) (pushN 8 nu)] := D_re hD (adc rfl (adc (bX2_ad _ _ _ _) (adc (bX0_ad _ _ _ _) (adc (bX1_ad _ _ _ _ _ _ _ _) adn))))
        exact ih_43  _ _ _ hP hD hS (show lv_has ls 3 [(2, .int (nI (k + 1))), (0, .ref h0), (1, .int x1)] from lv_sub hl [0, 1, 2] rfl) 
    · refine lv_bipush (v := (-2)) hx hb dX6_night_27 (by decide) ?_
      have hP : PP G [bX6 h0 (tx 0) (nw 0) (tr 0) (un 0) (kp 0) (wy 0) (rm 0) (pl 0) (dr 0), bX2 pl G vp, bX0 nw G (cnd (okNight vn x1) (f_sleeps vp vn x1.toNatClampNeg) vn), bX1 un G 8 (cnd (okNight vn x1) (pushA 8 nu adu) adu) (cnd (okNight vn x1) (pushH 8 nu hvu vn) hvu) (cnd (okNight vn x1) (pushN 8 nu) nu)] H := by
        have hok : okNight vn x1 = false := by simp only [okNight, if_pos c_7, if_neg c_24]
        rw [hok]
        exact hP
      exact kr_si hx hb hr hlocks dX6_night_29 hP hS (sameAd_cons rfl (sameAd_cons (bX2_ad _ _ _ _) (sameAd_cons (bX0_ad _ _ _ _) ⟨cnd_ad (by decide) _, sameAd_nil⟩))) ⟨by simp only [f_nightR, if_pos c_7, if_neg c_24] <;> rfl, rfl⟩
  · have c_7 := b2i_fN c_7r
    refine lv_iconst (v := (-1)) hx hb dX6_night_10 (by decide) ?_
    have hP : PP G [bX6 h0 (tx 0) (nw 0) (tr 0) (un 0) (kp 0) (wy 0) (rm 0) (pl 0) (dr 0), bX2 pl G vp, bX0 nw G (cnd (okNight vn x1) (f_sleeps vp vn x1.toNatClampNeg) vn), bX1 un G 8 (cnd (okNight vn x1) (pushA 8 nu adu) adu) (cnd (okNight vn x1) (pushH 8 nu hvu vn) hvu) (cnd (okNight vn x1) (pushN 8 nu) nu)] H := by
      have hok : okNight vn x1 = false := by simp only [okNight, if_neg c_7]
      rw [hok]
      exact hP
    exact kr_si hx hb hr hlocks dX6_night_11 hP hS (sameAd_cons rfl (sameAd_cons (bX2_ad _ _ _ _) (sameAd_cons (bX0_ad _ _ _ _) ⟨cnd_ad (by decide) _, sameAd_nil⟩))) ⟨by simp only [f_nightR, if_neg c_7] <;> rfl, rfl⟩

def rm_X6_undo : Room := { frames := 3, cells := 0, slots := 0, locals := 65 }
theorem hd_X6_undo : yX6_undo.cls = RX6 ∧ yX6_undo.cls ≠ "java/lang/invoke/MethodHandle" ∧ yX6_undo.cls ≠ "java/lang/invoke/VarHandle" ∧ (parseMethodDescriptor yX6_undo.desc).map (fun d => d.parameters.length) = some 0 := by decide +kernel
set_option maxRecDepth 100000 in
set_option maxHeartbeats 4000000 in
theorem c_X6_undo (l : Launch) (G : GD) (h0 : Nat) (tx nw tr un kp wy rm pl dr : Nat → Nat) (vn : OV) (adu : Nat → Nat → Nat) (hvu : Nat → OV) (nu : Nat) (hnu : nu ≤ 8) : MetS l yX6_undo wsX6_undo rm_X6_undo G [bX6 h0 (tx 0) (nw 0) (tr 0) (un 0) (kp 0) (wy 0) (rm 0) (pl 0) (dr 0), bX0 nw G vn, bX1 un G 8 adu hvu nu] [.ref h0] (fun r bc => r = some (.int (f_undoR nu)) ∧ bc = [bX6 h0 (tx 0) (nw 0) (tr 0) (un 0) (kp 0) (wy 0) (rm 0) (pl 0) (dr 0), bX0 nw G (popV nu hvu vn), bX1 un G 8 adu hvu (nu - 1)]) := by
  refine kb_beginS (cc := cX6_undo) (maxL := 1) (ret := (some .int)) (by decide) rfl (Nat.le_of_ble_eq_true rfl) ?_
  intro p e s m below meth c hx hb hr hml hown hts hlocks hX H locs hP hD hS ls hl
  have hown : s.vm.findClass RX6 = some m.cls := hown
  have hl : lv_has ls 1 [(0, .ref h0)] := hl
  have hin1 : ∀ w ∈ u_ws RX1 TX1 2, w ∈ wsX6_undo := (fun _ h => List.mem_cons_of_mem _ (List.mem_append_left _ (List.mem_append_right _ (h))))
  have hin6 : ∀ w ∈ u_ws RX6 TX6 9, w ∈ wsX6_undo := (fun _ h => List.mem_cons_of_mem _ (List.mem_append_left _ (List.mem_append_left _ (List.mem_append_right _ (h)))))
  refine lv_aload_n hx hb dX6_undo_0 rfl (lv_at hl 0 rfl) ?_
  refine kb_get (own := RX6) (C := RX6) (T := TX6) (N := 9) (v := .ref (un 0)) hx hb hts hin6 hown hX hP 0 rfl rfl rfl 3 (by decide) rfl (by decide +kernel) rfl dX6_undo_1 ?_
  refine lv_aload_n hx hb dX6_undo_4 rfl (lv_at hl 0 rfl) ?_
  refine kb_get (own := RX6) (C := RX6) (T := TX6) (N := 9) (v := .ref (nw 0)) hx hb hts hin6 hown hX hP 0 rfl rfl rfl 1 (by decide) rfl (by decide +kernel) rfl dX6_undo_5 ?_
  refine kcV_s hx hb hml hown hts hX hP hD hS (c_X1_pop l G un 8 adu hvu nu nw vn (by omega) (by decide)) gX6_undo_X1_pop 1 rfl rfl rfl hd_X1_pop ⟨Nat.le_of_ble_eq_true rfl, Nat.le_of_ble_eq_true rfl⟩ [2, 1] (by decide) rfl 2 rfl rfl rfl hl.1 rfl rfl (Nat.le_of_ble_eq_true rfl) dX6_undo_8 ⟨Nat.zero_le _, Nat.zero_le _⟩ (fun r_ bc_ hq_1 H locs hP hD hS => ?_)
  obtain ⟨rfl, rfl⟩ := hq_1
  have hP : PP G [bX6 h0 (tx 0) (nw 0) (tr 0) (un 0) (kp 0) (wy 0) (rm 0) (pl 0) (dr 0), bX0 nw G (popV nu hvu vn), bX1 un G 8 adu hvu (nu - 1)] H := hP
  have hD : DD (AA (List.flatten [bX6 h0 (tx 0) (nw 0) (tr 0) (un 0) (kp 0) (wy 0) (rm 0) (pl 0) (dr 0), bX0 nw G vn, bX1 un G 8 adu hvu nu])) [bX6 h0 (tx 0) (nw 0) (tr 0) (un 0) (kp 0) (wy 0) (rm 0) (pl 0) (dr 0), bX0 nw G (popV nu hvu vn), bX1 un G 8 adu hvu (nu - 1)] := D_re hD (adc rfl (adc (bX0_ad _ _ _ _) (adc (bX1_ad _ _ _ _ _ _ _ _) adn)))
  refine lv_if_eq (tgt := 24) hx hb dX6_undo_11 (by decide) (fun c_11 => ?_) (fun c_11 => ?_)
  · refine lv_bipush (v := (-2)) hx hb dX6_undo_24 (by decide) ?_
    have hP : PP G [bX6 h0 (tx 0) (nw 0) (tr 0) (un 0) (kp 0) (wy 0) (rm 0) (pl 0) (dr 0), bX0 nw G (popV nu hvu vn), bX1 un G 8 adu hvu (nu - 1)] H := by
      exact hP
    exact kr_si hx hb hr hlocks dX6_undo_26 hP hS (sameAd_cons rfl (sameAd_cons (bX0_ad _ _ _ _) (sameAd_cons (bX1_ad _ _ _ _ _ _ _ _) sameAd_nil))) ⟨by simp only [f_undoR, if_pos c_11] <;> rfl, rfl⟩
  · refine lv_aload_n hx hb dX6_undo_14 rfl (lv_at hl 0 rfl) ?_
    refine kb_get (own := RX6) (C := RX6) (T := TX6) (N := 9) (v := .ref (un 0)) hx hb hts hin6 hown hX hP 0 rfl rfl rfl 3 (by decide) rfl (by decide +kernel) rfl dX6_undo_15 ?_
    refine kb_getN (own := RX6) (C := RX1) (T := TX1) (N := 2) (v := .int (nI (nu - 1))) hx hb hts hin1 hown hX hP 2 rfl rfl rfl 1 (by decide) rfl (by decide +kernel) rfl dX6_undo_18 ?_
    refine lv_goto (tgt := 26) hx hb dX6_undo_21 (by decide) ?_
    have hP : PP G [bX6 h0 (tx 0) (nw 0) (tr 0) (un 0) (kp 0) (wy 0) (rm 0) (pl 0) (dr 0), bX0 nw G (popV nu hvu vn), bX1 un G 8 adu hvu (nu - 1)] H := by
      exact hP
    exact kr_si hx hb hr hlocks dX6_undo_26 hP hS (sameAd_cons rfl (sameAd_cons (bX0_ad _ _ _ _) (sameAd_cons (bX1_ad _ _ _ _ _ _ _ _) sameAd_nil))) ⟨by simp only [f_undoR, if_neg c_11] <;> rfl, rfl⟩

def rm_X6_way : Room := { frames := 4, cells := 0, slots := 0, locals := 92 }
theorem hd_X6_way : yX6_way.cls = RX6 ∧ yX6_way.cls ≠ "java/lang/invoke/MethodHandle" ∧ yX6_way.cls ≠ "java/lang/invoke/VarHandle" ∧ (parseMethodDescriptor yX6_way.desc).map (fun d => d.parameters.length) = some 3 := by decide +kernel
set_option maxRecDepth 100000 in
set_option maxHeartbeats 4000000 in
theorem c_X6_way (l : Launch) (G : GD) (h0 : Nat) (tx nw tr un kp wy rm pl dr : Nat → Nat) (x1 : Int32) (x2 : Int32) (x3 : Int32) (vp : OV) (vn : OV) (vy : OV)  : MetS l yX6_way wsX6_way rm_X6_way G [bX6 h0 (tx 0) (nw 0) (tr 0) (un 0) (kp 0) (wy 0) (rm 0) (pl 0) (dr 0), bX2 pl G vp, bX0 nw G vn, bX5 wy G vy] [.ref h0, .int x1, .int x2, .int x3] (fun r bc => r = some (.int (f_wayR vp vn vy x1 x2 x3)) ∧ bc = [bX6 h0 (tx 0) (nw 0) (tr 0) (un 0) (kp 0) (wy 0) (rm 0) (pl 0) (dr 0), bX2 pl G vp, bX0 nw G vn, bX5 wy G (cnd (okWay vp x1 x2 x3) (f_X5_measure vy vp vn x1 x3 0) vy)]) := by
  refine kb_beginS (cc := cX6_way) (maxL := 4) (ret := (some .int)) (by decide) rfl (Nat.le_of_ble_eq_true rfl) ?_
  intro p e s m below meth c hx hb hr hml hown hts hlocks hX H locs hP hD hS ls hl
  have hown : s.vm.findClass RX6 = some m.cls := hown
  have hl : lv_has ls 4 [(0, .ref h0), (1, .int x1), (2, .int x2), (3, .int x3)] := hl
  have hin6 : ∀ w ∈ u_ws RX6 TX6 9, w ∈ wsX6_way := (fun _ h => List.mem_cons_of_mem _ (List.mem_append_left _ (List.mem_append_left _ (List.mem_append_left _ (List.mem_append_right _ (h))))))
  refine lv_aload_n hx hb dX6_way_0 rfl (lv_at hl 0 rfl) ?_
  refine lv_iload_n hx hb dX6_way_1 rfl (lv_at hl 1 rfl) ?_
  refine kcV_p hx hb hml hown hts hX hP (c_X6_isLodger l G h0 tx nw tr un kp wy rm pl dr x1 vp) gX6_way_X6_isLodger 1 rfl rfl rfl hd_X6_isLodger ⟨Nat.le_of_ble_eq_true rfl, Nat.le_of_ble_eq_true rfl⟩ [0, 1] rfl 0 rfl rfl rfl hl.1 rfl rfl (Nat.le_of_ble_eq_true rfl) dX6_way_2 ⟨Nat.zero_le _, Nat.zero_le _⟩ ?_
  refine lv_if_eq (tgt := 24) hx hb dX6_way_5 (by decide) (fun c_5r => ?_) (fun c_5r => ?_)
  · have c_5 := b2i_fN c_5r
    refine lv_iconst (v := (-1)) hx hb dX6_way_24 (by decide) ?_
    have hP : PP G [bX6 h0 (tx 0) (nw 0) (tr 0) (un 0) (kp 0) (wy 0) (rm 0) (pl 0) (dr 0), bX2 pl G vp, bX0 nw G vn, bX5 wy G (cnd (okWay vp x1 x2 x3) (f_X5_measure vy vp vn x1 x3 0) vy)] H := by
      have hok : okWay vp x1 x2 x3 = false := by simp only [okWay, if_neg c_5]
      rw [hok]
      exact hP
    exact kr_si hx hb hr hlocks dX6_way_25 hP hS (sameAd_cons rfl (sameAd_cons (bX2_ad _ _ _ _) (sameAd_cons (bX0_ad _ _ _ _) (sameAd_cons (bX5_ad _ _ _ _) sameAd_nil)))) ⟨by simp only [f_wayR, if_neg c_5] <;> rfl, rfl⟩
  · have c_5 := b2i_tP c_5r
    refine lv_aload_n hx hb dX6_way_8 rfl (lv_at hl 0 rfl) ?_
    refine lv_iload_n hx hb dX6_way_9 rfl (lv_at hl 2 rfl) ?_
    refine kcV_p hx hb hml hown hts hX hP (c_X6_isRoom l G h0 tx nw tr un kp wy rm pl dr x2 vp) gX6_way_X6_isRoom 1 rfl rfl rfl hd_X6_isRoom ⟨Nat.le_of_ble_eq_true rfl, Nat.le_of_ble_eq_true rfl⟩ [0, 1] rfl 0 rfl rfl rfl hl.1 rfl rfl (Nat.le_of_ble_eq_true rfl) dX6_way_10 ⟨Nat.zero_le _, Nat.zero_le _⟩ ?_
    refine lv_if_eq (tgt := 24) hx hb dX6_way_13 (by decide) (fun c_13r => ?_) (fun c_13r => ?_)
    · have c_13 := b2i_fN c_13r
      refine lv_iconst (v := (-1)) hx hb dX6_way_24 (by decide) ?_
      have hP : PP G [bX6 h0 (tx 0) (nw 0) (tr 0) (un 0) (kp 0) (wy 0) (rm 0) (pl 0) (dr 0), bX2 pl G vp, bX0 nw G vn, bX5 wy G (cnd (okWay vp x1 x2 x3) (f_X5_measure vy vp vn x1 x3 0) vy)] H := by
        have hok : okWay vp x1 x2 x3 = false := by simp only [okWay, if_pos c_5, if_neg c_13]
        rw [hok]
        exact hP
      exact kr_si hx hb hr hlocks dX6_way_25 hP hS (sameAd_cons rfl (sameAd_cons (bX2_ad _ _ _ _) (sameAd_cons (bX0_ad _ _ _ _) (sameAd_cons (bX5_ad _ _ _ _) sameAd_nil)))) ⟨by simp only [f_wayR, if_pos c_5, if_neg c_13] <;> rfl, rfl⟩
    · have c_13 := b2i_tP c_13r
      refine lv_aload_n hx hb dX6_way_16 rfl (lv_at hl 0 rfl) ?_
      refine lv_iload_n hx hb dX6_way_17 rfl (lv_at hl 3 rfl) ?_
      refine kcV_p hx hb hml hown hts hX hP (c_X6_isRoom l G h0 tx nw tr un kp wy rm pl dr x3 vp) gX6_way_X6_isRoom 1 rfl rfl rfl hd_X6_isRoom ⟨Nat.le_of_ble_eq_true rfl, Nat.le_of_ble_eq_true rfl⟩ [0, 1] rfl 0 rfl rfl rfl hl.1 rfl rfl (Nat.le_of_ble_eq_true rfl) dX6_way_18 ⟨Nat.zero_le _, Nat.zero_le _⟩ ?_
      refine lv_if_ne (tgt := 26) hx hb dX6_way_21 (by decide) (fun c_21r => ?_) (fun c_21r => ?_)
      · have c_21 := b2i_tP c_21r
        refine lv_aload_n hx hb dX6_way_26 rfl (lv_at hl 0 rfl) ?_
        refine kb_get (own := RX6) (C := RX6) (T := TX6) (N := 9) (v := .ref (wy 0)) hx hb hts hin6 hown hX hP 0 rfl rfl rfl 5 (by decide) rfl (by decide +kernel) rfl dX6_way_27 ?_
        refine lv_aload_n hx hb dX6_way_30 rfl (lv_at hl 0 rfl) ?_
        refine kb_get (own := RX6) (C := RX6) (T := TX6) (N := 9) (v := .ref (pl 0)) hx hb hts hin6 hown hX hP 0 rfl rfl rfl 7 (by decide) rfl (by decide +kernel) rfl dX6_way_31 ?_
        refine lv_aload_n hx hb dX6_way_34 rfl (lv_at hl 0 rfl) ?_
        refine kb_get (own := RX6) (C := RX6) (T := TX6) (N := 9) (v := .ref (nw 0)) hx hb hts hin6 hown hX hP 0 rfl rfl rfl 1 (by decide) rfl (by decide +kernel) rfl dX6_way_35 ?_
        refine lv_iload_n hx hb dX6_way_38 rfl (lv_at hl 1 rfl) ?_
        refine lv_iload_n hx hb dX6_way_39 rfl (lv_at hl 3 rfl) ?_
        refine lv_iconst (v := 0) hx hb dX6_way_40 (by decide) ?_
        refine kcV_s hx hb hml hown hts hX hP hD hS (c_X5_measure l G wy vy pl vp nw vn x1 x3 0) gX6_way_X5_measure 5 rfl rfl rfl hd_X5_measure ⟨Nat.le_of_ble_eq_true rfl, Nat.le_of_ble_eq_true rfl⟩ [3, 1, 2] (by decide) rfl 3 rfl rfl rfl hl.1 rfl rfl (Nat.le_of_ble_eq_true rfl) dX6_way_41 ⟨Nat.zero_le _, Nat.zero_le _⟩ (fun r_ bc_ hq_1 H locs hP hD hS => ?_)
        obtain ⟨rfl, rfl⟩ := hq_1
        have hP : PP G [bX6 h0 (tx 0) (nw 0) (tr 0) (un 0) (kp 0) (wy 0) (rm 0) (pl 0) (dr 0), bX2 pl G vp, bX0 nw G vn, bX5 wy G (f_X5_measure vy vp vn x1 x3 0)] H := hP
        have hD : DD (AA (List.flatten [bX6 h0 (tx 0) (nw 0) (tr 0) (un 0) (kp 0) (wy 0) (rm 0) (pl 0) (dr 0), bX2 pl G vp, bX0 nw G vn, bX5 wy G vy])) [bX6 h0 (tx 0) (nw 0) (tr 0) (un 0) (kp 0) (wy 0) (rm 0) (pl 0) (dr 0), bX2 pl G vp, bX0 nw G vn, bX5 wy G (f_X5_measure vy vp vn x1 x3 0)] := D_re hD (adc rfl (adc (bX2_ad _ _ _ _) (adc (bX0_ad _ _ _ _) (adc (bX5_ad _ _ _ _) adn))))
        refine lv_aload_n hx hb dX6_way_44 rfl (lv_at hl 0 rfl) ?_
        refine kb_get (own := RX6) (C := RX6) (T := TX6) (N := 9) (v := .ref (wy 0)) hx hb hts hin6 hown hX hP 0 rfl rfl rfl 5 (by decide) rfl (by decide +kernel) rfl dX6_way_45 ?_
        refine lv_iload_n hx hb dX6_way_48 rfl (lv_at hl 2 rfl) ?_
        refine kcV_p hx hb hml hown hts hX hP (c_X5_minutesFrom l G wy (f_X5_measure vy vp vn x1 x3 0) x2) gX6_way_X5_minutesFrom 1 rfl rfl rfl hd_X5_minutesFrom ⟨Nat.le_of_ble_eq_true rfl, Nat.le_of_ble_eq_true rfl⟩ [3] rfl 3 rfl rfl rfl hl.1 rfl rfl (Nat.le_of_ble_eq_true rfl) dX6_way_49 ⟨Nat.zero_le _, Nat.zero_le _⟩ ?_
        have hP : PP G [bX6 h0 (tx 0) (nw 0) (tr 0) (un 0) (kp 0) (wy 0) (rm 0) (pl 0) (dr 0), bX2 pl G vp, bX0 nw G vn, bX5 wy G (cnd (okWay vp x1 x2 x3) (f_X5_measure vy vp vn x1 x3 0) vy)] H := by
          have hok : okWay vp x1 x2 x3 = true := by simp only [okWay, if_pos c_5, if_pos c_13, if_pos c_21]
          rw [hok]
          exact hP
        exact kr_si hx hb hr hlocks dX6_way_52 hP hS (sameAd_cons rfl (sameAd_cons (bX2_ad _ _ _ _) (sameAd_cons (bX0_ad _ _ _ _) (sameAd_cons (bX5_ad _ _ _ _) sameAd_nil)))) ⟨by simp only [f_wayR, if_pos c_5, if_pos c_13, if_pos c_21] <;> rfl, rfl⟩
      · have c_21 := b2i_fN c_21r
        refine lv_iconst (v := (-1)) hx hb dX6_way_24 (by decide) ?_
        have hP : PP G [bX6 h0 (tx 0) (nw 0) (tr 0) (un 0) (kp 0) (wy 0) (rm 0) (pl 0) (dr 0), bX2 pl G vp, bX0 nw G vn, bX5 wy G (cnd (okWay vp x1 x2 x3) (f_X5_measure vy vp vn x1 x3 0) vy)] H := by
          have hok : okWay vp x1 x2 x3 = false := by simp only [okWay, if_pos c_5, if_pos c_13, if_neg c_21]
          rw [hok]
          exact hP
        exact kr_si hx hb hr hlocks dX6_way_25 hP hS (sameAd_cons rfl (sameAd_cons (bX2_ad _ _ _ _) (sameAd_cons (bX0_ad _ _ _ _) (sameAd_cons (bX5_ad _ _ _ _) sameAd_nil)))) ⟨by simp only [f_wayR, if_pos c_5, if_pos c_13, if_neg c_21] <;> rfl, rfl⟩

def rm_X6_first : Room := { frames := 4, cells := 0, slots := 0, locals := 92 }
theorem hd_X6_first : yX6_first.cls = RX6 ∧ yX6_first.cls ≠ "java/lang/invoke/MethodHandle" ∧ yX6_first.cls ≠ "java/lang/invoke/VarHandle" ∧ (parseMethodDescriptor yX6_first.desc).map (fun d => d.parameters.length) = some 3 := by decide +kernel
set_option maxRecDepth 100000 in
set_option maxHeartbeats 4000000 in
theorem c_X6_first (l : Launch) (G : GD) (h0 : Nat) (tx nw tr un kp wy rm pl dr : Nat → Nat) (x1 : Int32) (x2 : Int32) (x3 : Int32) (vp : OV) (vn : OV) (vy : OV)  : MetS l yX6_first wsX6_first rm_X6_first G [bX6 h0 (tx 0) (nw 0) (tr 0) (un 0) (kp 0) (wy 0) (rm 0) (pl 0) (dr 0), bX2 pl G vp, bX0 nw G vn, bX5 wy G vy] [.ref h0, .int x1, .int x2, .int x3] (fun r bc => r = some (.int (f_firstR vp vn vy x1 x2 x3)) ∧ bc = [bX6 h0 (tx 0) (nw 0) (tr 0) (un 0) (kp 0) (wy 0) (rm 0) (pl 0) (dr 0), bX2 pl G vp, bX0 nw G vn, bX5 wy G (cnd (okWay vp x1 x2 x3) (f_X5_measure vy vp vn x1 x3 0) vy)]) := by
  refine kb_beginS (cc := cX6_first) (maxL := 4) (ret := (some .int)) (by decide) rfl (Nat.le_of_ble_eq_true rfl) ?_
  intro p e s m below meth c hx hb hr hml hown hts hlocks hX H locs hP hD hS ls hl
  have hown : s.vm.findClass RX6 = some m.cls := hown
  have hl : lv_has ls 4 [(0, .ref h0), (1, .int x1), (2, .int x2), (3, .int x3)] := hl
  have hin6 : ∀ w ∈ u_ws RX6 TX6 9, w ∈ wsX6_first := (fun _ h => List.mem_cons_of_mem _ (List.mem_append_left _ (List.mem_append_left _ (List.mem_append_left _ (List.mem_append_right _ (h))))))
  refine lv_aload_n hx hb dX6_first_0 rfl (lv_at hl 0 rfl) ?_
  refine lv_iload_n hx hb dX6_first_1 rfl (lv_at hl 1 rfl) ?_
  refine kcV_p hx hb hml hown hts hX hP (c_X6_isLodger l G h0 tx nw tr un kp wy rm pl dr x1 vp) gX6_first_X6_isLodger 1 rfl rfl rfl hd_X6_isLodger ⟨Nat.le_of_ble_eq_true rfl, Nat.le_of_ble_eq_true rfl⟩ [0, 1] rfl 0 rfl rfl rfl hl.1 rfl rfl (Nat.le_of_ble_eq_true rfl) dX6_first_2 ⟨Nat.zero_le _, Nat.zero_le _⟩ ?_
  refine lv_if_eq (tgt := 24) hx hb dX6_first_5 (by decide) (fun c_5r => ?_) (fun c_5r => ?_)
  · have c_5 := b2i_fN c_5r
    refine lv_iconst (v := (-1)) hx hb dX6_first_24 (by decide) ?_
    have hP : PP G [bX6 h0 (tx 0) (nw 0) (tr 0) (un 0) (kp 0) (wy 0) (rm 0) (pl 0) (dr 0), bX2 pl G vp, bX0 nw G vn, bX5 wy G (cnd (okWay vp x1 x2 x3) (f_X5_measure vy vp vn x1 x3 0) vy)] H := by
      have hok : okWay vp x1 x2 x3 = false := by simp only [okWay, if_neg c_5]
      rw [hok]
      exact hP
    exact kr_si hx hb hr hlocks dX6_first_25 hP hS (sameAd_cons rfl (sameAd_cons (bX2_ad _ _ _ _) (sameAd_cons (bX0_ad _ _ _ _) (sameAd_cons (bX5_ad _ _ _ _) sameAd_nil)))) ⟨by simp only [f_firstR, if_neg c_5] <;> rfl, rfl⟩
  · have c_5 := b2i_tP c_5r
    refine lv_aload_n hx hb dX6_first_8 rfl (lv_at hl 0 rfl) ?_
    refine lv_iload_n hx hb dX6_first_9 rfl (lv_at hl 2 rfl) ?_
    refine kcV_p hx hb hml hown hts hX hP (c_X6_isRoom l G h0 tx nw tr un kp wy rm pl dr x2 vp) gX6_first_X6_isRoom 1 rfl rfl rfl hd_X6_isRoom ⟨Nat.le_of_ble_eq_true rfl, Nat.le_of_ble_eq_true rfl⟩ [0, 1] rfl 0 rfl rfl rfl hl.1 rfl rfl (Nat.le_of_ble_eq_true rfl) dX6_first_10 ⟨Nat.zero_le _, Nat.zero_le _⟩ ?_
    refine lv_if_eq (tgt := 24) hx hb dX6_first_13 (by decide) (fun c_13r => ?_) (fun c_13r => ?_)
    · have c_13 := b2i_fN c_13r
      refine lv_iconst (v := (-1)) hx hb dX6_first_24 (by decide) ?_
      have hP : PP G [bX6 h0 (tx 0) (nw 0) (tr 0) (un 0) (kp 0) (wy 0) (rm 0) (pl 0) (dr 0), bX2 pl G vp, bX0 nw G vn, bX5 wy G (cnd (okWay vp x1 x2 x3) (f_X5_measure vy vp vn x1 x3 0) vy)] H := by
        have hok : okWay vp x1 x2 x3 = false := by simp only [okWay, if_pos c_5, if_neg c_13]
        rw [hok]
        exact hP
      exact kr_si hx hb hr hlocks dX6_first_25 hP hS (sameAd_cons rfl (sameAd_cons (bX2_ad _ _ _ _) (sameAd_cons (bX0_ad _ _ _ _) (sameAd_cons (bX5_ad _ _ _ _) sameAd_nil)))) ⟨by simp only [f_firstR, if_pos c_5, if_neg c_13] <;> rfl, rfl⟩
    · have c_13 := b2i_tP c_13r
      refine lv_aload_n hx hb dX6_first_16 rfl (lv_at hl 0 rfl) ?_
      refine lv_iload_n hx hb dX6_first_17 rfl (lv_at hl 3 rfl) ?_
      refine kcV_p hx hb hml hown hts hX hP (c_X6_isRoom l G h0 tx nw tr un kp wy rm pl dr x3 vp) gX6_first_X6_isRoom 1 rfl rfl rfl hd_X6_isRoom ⟨Nat.le_of_ble_eq_true rfl, Nat.le_of_ble_eq_true rfl⟩ [0, 1] rfl 0 rfl rfl rfl hl.1 rfl rfl (Nat.le_of_ble_eq_true rfl) dX6_first_18 ⟨Nat.zero_le _, Nat.zero_le _⟩ ?_
      refine lv_if_ne (tgt := 26) hx hb dX6_first_21 (by decide) (fun c_21r => ?_) (fun c_21r => ?_)
      · have c_21 := b2i_tP c_21r
        refine lv_aload_n hx hb dX6_first_26 rfl (lv_at hl 0 rfl) ?_
        refine kb_get (own := RX6) (C := RX6) (T := TX6) (N := 9) (v := .ref (wy 0)) hx hb hts hin6 hown hX hP 0 rfl rfl rfl 5 (by decide) rfl (by decide +kernel) rfl dX6_first_27 ?_
        refine lv_aload_n hx hb dX6_first_30 rfl (lv_at hl 0 rfl) ?_
        refine kb_get (own := RX6) (C := RX6) (T := TX6) (N := 9) (v := .ref (pl 0)) hx hb hts hin6 hown hX hP 0 rfl rfl rfl 7 (by decide) rfl (by decide +kernel) rfl dX6_first_31 ?_
        refine lv_aload_n hx hb dX6_first_34 rfl (lv_at hl 0 rfl) ?_
        refine kb_get (own := RX6) (C := RX6) (T := TX6) (N := 9) (v := .ref (nw 0)) hx hb hts hin6 hown hX hP 0 rfl rfl rfl 1 (by decide) rfl (by decide +kernel) rfl dX6_first_35 ?_
        refine lv_iload_n hx hb dX6_first_38 rfl (lv_at hl 1 rfl) ?_
        refine lv_iload_n hx hb dX6_first_39 rfl (lv_at hl 3 rfl) ?_
        refine lv_iconst (v := 0) hx hb dX6_first_40 (by decide) ?_
        refine kcV_s hx hb hml hown hts hX hP hD hS (c_X5_measure l G wy vy pl vp nw vn x1 x3 0) gX6_first_X5_measure 5 rfl rfl rfl hd_X5_measure ⟨Nat.le_of_ble_eq_true rfl, Nat.le_of_ble_eq_true rfl⟩ [3, 1, 2] (by decide) rfl 3 rfl rfl rfl hl.1 rfl rfl (Nat.le_of_ble_eq_true rfl) dX6_first_41 ⟨Nat.zero_le _, Nat.zero_le _⟩ (fun r_ bc_ hq_1 H locs hP hD hS => ?_)
        obtain ⟨rfl, rfl⟩ := hq_1
        have hP : PP G [bX6 h0 (tx 0) (nw 0) (tr 0) (un 0) (kp 0) (wy 0) (rm 0) (pl 0) (dr 0), bX2 pl G vp, bX0 nw G vn, bX5 wy G (f_X5_measure vy vp vn x1 x3 0)] H := hP
        have hD : DD (AA (List.flatten [bX6 h0 (tx 0) (nw 0) (tr 0) (un 0) (kp 0) (wy 0) (rm 0) (pl 0) (dr 0), bX2 pl G vp, bX0 nw G vn, bX5 wy G vy])) [bX6 h0 (tx 0) (nw 0) (tr 0) (un 0) (kp 0) (wy 0) (rm 0) (pl 0) (dr 0), bX2 pl G vp, bX0 nw G vn, bX5 wy G (f_X5_measure vy vp vn x1 x3 0)] := D_re hD (adc rfl (adc (bX2_ad _ _ _ _) (adc (bX0_ad _ _ _ _) (adc (bX5_ad _ _ _ _) adn))))
        refine lv_aload_n hx hb dX6_first_44 rfl (lv_at hl 0 rfl) ?_
        refine kb_get (own := RX6) (C := RX6) (T := TX6) (N := 9) (v := .ref (wy 0)) hx hb hts hin6 hown hX hP 0 rfl rfl rfl 5 (by decide) rfl (by decide +kernel) rfl dX6_first_45 ?_
        refine lv_aload_n hx hb dX6_first_48 rfl (lv_at hl 0 rfl) ?_
        refine kb_get (own := RX6) (C := RX6) (T := TX6) (N := 9) (v := .ref (pl 0)) hx hb hts hin6 hown hX hP 0 rfl rfl rfl 7 (by decide) rfl (by decide +kernel) rfl dX6_first_49 ?_
        refine lv_iload_n hx hb dX6_first_52 rfl (lv_at hl 2 rfl) ?_
        refine kcV_p hx hb hml hown hts hX hP (c_X5_lowestDoorFrom l G wy (f_X5_measure vy vp vn x1 x3 0) pl vp x2) gX6_first_X5_lowestDoorFrom 2 rfl rfl rfl hd_X5_lowestDoorFrom ⟨Nat.le_of_ble_eq_true rfl, Nat.le_of_ble_eq_true rfl⟩ [3, 1] rfl 3 rfl rfl rfl hl.1 rfl rfl (Nat.le_of_ble_eq_true rfl) dX6_first_53 ⟨Nat.zero_le _, Nat.zero_le _⟩ ?_
        have hP : PP G [bX6 h0 (tx 0) (nw 0) (tr 0) (un 0) (kp 0) (wy 0) (rm 0) (pl 0) (dr 0), bX2 pl G vp, bX0 nw G vn, bX5 wy G (cnd (okWay vp x1 x2 x3) (f_X5_measure vy vp vn x1 x3 0) vy)] H := by
          have hok : okWay vp x1 x2 x3 = true := by simp only [okWay, if_pos c_5, if_pos c_13, if_pos c_21]
          rw [hok]
          exact hP
        exact kr_si hx hb hr hlocks dX6_first_56 hP hS (sameAd_cons rfl (sameAd_cons (bX2_ad _ _ _ _) (sameAd_cons (bX0_ad _ _ _ _) (sameAd_cons (bX5_ad _ _ _ _) sameAd_nil)))) ⟨by simp only [f_firstR, if_pos c_5, if_pos c_13, if_pos c_21] <;> rfl, rfl⟩
      · have c_21 := b2i_fN c_21r
        refine lv_iconst (v := (-1)) hx hb dX6_first_24 (by decide) ?_
        have hP : PP G [bX6 h0 (tx 0) (nw 0) (tr 0) (un 0) (kp 0) (wy 0) (rm 0) (pl 0) (dr 0), bX2 pl G vp, bX0 nw G vn, bX5 wy G (cnd (okWay vp x1 x2 x3) (f_X5_measure vy vp vn x1 x3 0) vy)] H := by
          have hok : okWay vp x1 x2 x3 = false := by simp only [okWay, if_pos c_5, if_pos c_13, if_neg c_21]
          rw [hok]
          exact hP
        exact kr_si hx hb hr hlocks dX6_first_25 hP hS (sameAd_cons rfl (sameAd_cons (bX2_ad _ _ _ _) (sameAd_cons (bX0_ad _ _ _ _) (sameAd_cons (bX5_ad _ _ _ _) sameAd_nil)))) ⟨by simp only [f_firstR, if_pos c_5, if_pos c_13, if_neg c_21] <;> rfl, rfl⟩

def rm_X6_isInTimeWith : Room := { frames := 4, cells := 0, slots := 0, locals := 92 }
theorem hd_X6_isInTimeWith : yX6_isInTimeWith.cls = RX6 ∧ yX6_isInTimeWith.cls ≠ "java/lang/invoke/MethodHandle" ∧ yX6_isInTimeWith.cls ≠ "java/lang/invoke/VarHandle" ∧ (parseMethodDescriptor yX6_isInTimeWith.desc).map (fun d => d.parameters.length) = some 3 := by decide +kernel
set_option maxRecDepth 100000 in
set_option maxHeartbeats 4000000 in
theorem c_X6_isInTimeWith (l : Launch) (G : GD) (h0 : Nat) (tx nw tr un kp wy rm pl dr : Nat → Nat) (x1 : Int32) (x2 : Int32) (x3 : Int32) (vp : OV) (vn : OV) (vy : OV)  : MetS l yX6_isInTimeWith wsX6_isInTimeWith rm_X6_isInTimeWith G [bX6 h0 (tx 0) (nw 0) (tr 0) (un 0) (kp 0) (wy 0) (rm 0) (pl 0) (dr 0), bX2 pl G vp, bX0 nw G vn, bX5 wy G vy] [.ref h0, .int x1, .int x2, .int x3] (fun r bc => r = some (.int (b2i (f_inW vp vn vy x1 x2 x3))) ∧ bc = [bX6 h0 (tx 0) (nw 0) (tr 0) (un 0) (kp 0) (wy 0) (rm 0) (pl 0) (dr 0), bX2 pl G vp, bX0 nw G vn, bX5 wy G (f_tm vp vn vy x1 x2)]) := by
  refine kb_beginS (cc := cX6_isInTimeWith) (maxL := 5) (ret := (some .boolean)) (by decide) rfl (Nat.le_of_ble_eq_true rfl) ?_
  intro p e s m below meth c hx hb hr hml hown hts hlocks hX H locs hP hD hS ls hl
  have hown : s.vm.findClass RX6 = some m.cls := hown
  have hl : lv_has ls 5 [(0, .ref h0), (1, .int x1), (2, .int x2), (3, .int x3)] := hl
  have hin0 : ∀ w ∈ u_ws RX0 TX0 6, w ∈ wsX6_isInTimeWith := (fun _ h => List.mem_cons_of_mem _ (List.mem_append_left _ (List.mem_append_right _ (h))))
  have hin2 : ∀ w ∈ u_ws RX2 TX2 15, w ∈ wsX6_isInTimeWith := (fun _ h => List.mem_cons_of_mem _ (List.mem_append_left _ (List.mem_append_left _ (List.mem_append_right _ (h)))))
  have hin6 : ∀ w ∈ u_ws RX6 TX6 9, w ∈ wsX6_isInTimeWith := (fun _ h => List.mem_cons_of_mem _ (List.mem_append_left _ (List.mem_append_left _ (List.mem_append_left _ (List.mem_append_right _ (h))))))
  refine lv_aload_n hx hb dX6_isInTimeWith_0 rfl (lv_at hl 0 rfl) ?_
  refine kb_get (own := RX6) (C := RX6) (T := TX6) (N := 9) (v := .ref (wy 0)) hx hb hts hin6 hown hX hP 0 rfl rfl rfl 5 (by decide) rfl (by decide +kernel) rfl dX6_isInTimeWith_1 ?_
  refine lv_aload_n hx hb dX6_isInTimeWith_4 rfl (lv_at hl 0 rfl) ?_
  refine kb_get (own := RX6) (C := RX6) (T := TX6) (N := 9) (v := .ref (pl 0)) hx hb hts hin6 hown hX hP 0 rfl rfl rfl 7 (by decide) rfl (by decide +kernel) rfl dX6_isInTimeWith_5 ?_
  refine lv_aload_n hx hb dX6_isInTimeWith_8 rfl (lv_at hl 0 rfl) ?_
  refine kb_get (own := RX6) (C := RX6) (T := TX6) (N := 9) (v := .ref (nw 0)) hx hb hts hin6 hown hX hP 0 rfl rfl rfl 1 (by decide) rfl (by decide +kernel) rfl dX6_isInTimeWith_9 ?_
  refine lv_iload_n hx hb dX6_isInTimeWith_12 rfl (lv_at hl 2 rfl) ?_
  refine lv_aload_n hx hb dX6_isInTimeWith_13 rfl (lv_at hl 0 rfl) ?_
  refine kb_get (own := RX6) (C := RX6) (T := TX6) (N := 9) (v := .ref (pl 0)) hx hb hts hin6 hown hX hP 0 rfl rfl rfl 7 (by decide) rfl (by decide +kernel) rfl dX6_isInTimeWith_14 ?_
  refine kb_getN (own := RX6) (C := RX2) (T := TX2) (N := 15) (v := .ref (pl 7)) hx hb hts hin2 hown hX hP 1 rfl rfl rfl 6 (by decide) rfl (by decide +kernel) rfl dX6_isInTimeWith_17 ?_
  refine lv_iload_n hx hb dX6_isInTimeWith_20 rfl (lv_at hl 2 rfl) ?_
  refine kcS_p hx hb hml hown hts hX hP (c_X6_at l G (pl 7) 4 (vp.1 6) x2 (by decide)) gX6_isInTimeWith_X6_at 2 rfl rfl rfl hdS_X6_at ⟨Nat.le_of_ble_eq_true rfl, Nat.le_of_ble_eq_true rfl⟩ (cell_in (i := 1) (j := 7) rfl rfl) hl.1 rfl rfl (Nat.le_of_ble_eq_true rfl) dX6_isInTimeWith_21 ⟨Nat.zero_le _, Nat.zero_le _⟩ ?_
  refine lv_iload_n hx hb dX6_isInTimeWith_24 rfl (lv_at hl 1 rfl) ?_
  refine kcV_s hx hb hml hown hts hX hP hD hS (c_X5_measure l G wy vy pl vp nw vn x2 (rAt (vp.1 6) 4 x2) x1) gX6_isInTimeWith_X5_measure 5 rfl rfl rfl hd_X5_measure ⟨Nat.le_of_ble_eq_true rfl, Nat.le_of_ble_eq_true rfl⟩ [3, 1, 2] (by decide) rfl 3 rfl rfl rfl hl.1 rfl rfl (Nat.le_of_ble_eq_true rfl) dX6_isInTimeWith_25 ⟨Nat.zero_le _, Nat.zero_le _⟩ (fun r_ bc_ hq_1 H locs hP hD hS => ?_)
  obtain ⟨rfl, rfl⟩ := hq_1
  have hP : PP G [bX6 h0 (tx 0) (nw 0) (tr 0) (un 0) (kp 0) (wy 0) (rm 0) (pl 0) (dr 0), bX2 pl G vp, bX0 nw G vn, bX5 wy G (f_X5_measure vy vp vn x2 (rAt (vp.1 6) 4 x2) x1)] H := hP
  have hD : DD (AA (List.flatten [bX6 h0 (tx 0) (nw 0) (tr 0) (un 0) (kp 0) (wy 0) (rm 0) (pl 0) (dr 0), bX2 pl G vp, bX0 nw G vn, bX5 wy G vy])) [bX6 h0 (tx 0) (nw 0) (tr 0) (un 0) (kp 0) (wy 0) (rm 0) (pl 0) (dr 0), bX2 pl G vp, bX0 nw G vn, bX5 wy G (f_X5_measure vy vp vn x2 (rAt (vp.1 6) 4 x2) x1)] := D_re hD (adc rfl (adc (bX2_ad _ _ _ _) (adc (bX0_ad _ _ _ _) (adc (bX5_ad _ _ _ _) adn))))
  refine lv_aload_n hx hb dX6_isInTimeWith_28 rfl (lv_at hl 0 rfl) ?_
  refine kb_get (own := RX6) (C := RX6) (T := TX6) (N := 9) (v := .ref (wy 0)) hx hb hts hin6 hown hX hP 0 rfl rfl rfl 5 (by decide) rfl (by decide +kernel) rfl dX6_isInTimeWith_29 ?_
  refine lv_aload_n hx hb dX6_isInTimeWith_32 rfl (lv_at hl 0 rfl) ?_
  refine kb_get (own := RX6) (C := RX6) (T := TX6) (N := 9) (v := .ref (nw 0)) hx hb hts hin6 hown hX hP 0 rfl rfl rfl 1 (by decide) rfl (by decide +kernel) rfl dX6_isInTimeWith_33 ?_
  refine kb_getN (own := RX6) (C := RX0) (T := TX0) (N := 6) (v := .ref (nw 4)) hx hb hts hin0 hown hX hP 2 rfl rfl rfl 3 (by decide) rfl (by decide +kernel) rfl dX6_isInTimeWith_36 ?_
  refine lv_iload_n hx hb dX6_isInTimeWith_39 rfl (lv_at hl 2 rfl) ?_
  refine kcS_p hx hb hml hown hts hX hP (c_X6_at l G (nw 4) 4 (vn.1 3) x2 (by decide)) gX6_isInTimeWith_X6_at 2 rfl rfl rfl hdS_X6_at ⟨Nat.le_of_ble_eq_true rfl, Nat.le_of_ble_eq_true rfl⟩ (cell_in (i := 2) (j := 4) rfl rfl) hl.1 rfl rfl (Nat.le_of_ble_eq_true rfl) dX6_isInTimeWith_40 ⟨Nat.zero_le _, Nat.zero_le _⟩ ?_
  refine kcV_p hx hb hml hown hts hX hP (c_X5_minutesFrom l G wy (f_X5_measure vy vp vn x2 (rAt (vp.1 6) 4 x2) x1) (rAt (vn.1 3) 4 x2)) gX6_isInTimeWith_X5_minutesFrom 1 rfl rfl rfl hd_X5_minutesFrom ⟨Nat.le_of_ble_eq_true rfl, Nat.le_of_ble_eq_true rfl⟩ [3] rfl 3 rfl rfl rfl hl.1 rfl rfl (Nat.le_of_ble_eq_true rfl) dX6_isInTimeWith_43 ⟨Nat.zero_le _, Nat.zero_le _⟩ ?_
  refine lv_istore (lv' := [(4, .int (f_X5_minutesFrom (f_X5_measure vy vp vn x2 (rAt (vp.1 6) 4 x2) x1) (rAt (vn.1 3) 4 x2))), (0, .ref h0), (1, .int x1), (2, .int x2), (3, .int x3)]) hx hb dX6_isInTimeWith_46 hl (by decide) rfl (fun ls hl => ?_)
  refine lv_iload hx hb dX6_isInTimeWith_48 (lv_at hl 0 rfl) ?_
  refine lv_if_lt (tgt := 63) hx hb dX6_isInTimeWith_50 (by decide) (fun c_50 => ?_) (fun c_50 => ?_)
  · refine lv_iconst (v := 0) hx hb dX6_isInTimeWith_63 (by decide) ?_
    have hP : PP G [bX6 h0 (tx 0) (nw 0) (tr 0) (un 0) (kp 0) (wy 0) (rm 0) (pl 0) (dr 0), bX2 pl G vp, bX0 nw G vn, bX5 wy G (f_tm vp vn vy x1 x2)] H := by
      exact hP
    exact kr_sz hx hb hr hlocks dX6_isInTimeWith_64 rfl hP hS (sameAd_cons rfl (sameAd_cons (bX2_ad _ _ _ _) (sameAd_cons (bX0_ad _ _ _ _) (sameAd_cons (bX5_ad _ _ _ _) sameAd_nil)))) ⟨by simp only [f_inW, b2i, if_pos c_50] <;> rfl, rfl⟩
  · refine lv_iload hx hb dX6_isInTimeWith_53 (lv_at hl 0 rfl) ?_
    refine lv_iload_n hx hb dX6_isInTimeWith_55 rfl (lv_at hl 4 rfl) ?_
    refine lv_icmp_gt (tgt := 63) hx hb dX6_isInTimeWith_56 (by decide) (fun c_56 => ?_) (fun c_56 => ?_)
    · refine lv_iconst (v := 0) hx hb dX6_isInTimeWith_63 (by decide) ?_
      have hP : PP G [bX6 h0 (tx 0) (nw 0) (tr 0) (un 0) (kp 0) (wy 0) (rm 0) (pl 0) (dr 0), bX2 pl G vp, bX0 nw G vn, bX5 wy G (f_tm vp vn vy x1 x2)] H := by
        exact hP
      exact kr_sz hx hb hr hlocks dX6_isInTimeWith_64 rfl hP hS (sameAd_cons rfl (sameAd_cons (bX2_ad _ _ _ _) (sameAd_cons (bX0_ad _ _ _ _) (sameAd_cons (bX5_ad _ _ _ _) sameAd_nil)))) ⟨by simp only [f_inW, b2i, if_neg c_50, if_pos c_56] <;> rfl, rfl⟩
    · refine lv_iconst (v := 1) hx hb dX6_isInTimeWith_59 (by decide) ?_
      refine lv_goto (tgt := 64) hx hb dX6_isInTimeWith_60 (by decide) ?_
      have hP : PP G [bX6 h0 (tx 0) (nw 0) (tr 0) (un 0) (kp 0) (wy 0) (rm 0) (pl 0) (dr 0), bX2 pl G vp, bX0 nw G vn, bX5 wy G (f_tm vp vn vy x1 x2)] H := by
        exact hP
      exact kr_sz hx hb hr hlocks dX6_isInTimeWith_64 rfl hP hS (sameAd_cons rfl (sameAd_cons (bX2_ad _ _ _ _) (sameAd_cons (bX0_ad _ _ _ _) (sameAd_cons (bX5_ad _ _ _ _) sameAd_nil)))) ⟨by simp only [f_inW, b2i, if_neg c_50, if_neg c_56] <;> rfl, rfl⟩

theorem gt_exit {b : Int32} (h0 : ¬ b < 0) (h8 : b.toNatClampNeg ≤ 8) : b < nI (b.toNatClampNeg + 1) := by
  have h := nI_lt (Nat.lt_succ_self b.toNatClampNeg) (by omega)
  rwa [nI_cl h0] at h
theorem gt_step {b : Int32} {k : Nat} (h0 : ¬ b < 0) (h8 : b.toNatClampNeg ≤ 8) (hk : k < b.toNatClampNeg + 1) : ¬ b < nI k := by
  have h := nI_nlt (show k ≤ b.toNatClampNeg by omega) (by omega)
  rwa [nI_cl h0] at h

def rm_X6_inTime : Room := { frames := 5, cells := 0, slots := 0, locals := 116 }
theorem hd_X6_inTime : yX6_inTime.cls = RX6 ∧ yX6_inTime.cls ≠ "java/lang/invoke/MethodHandle" ∧ yX6_inTime.cls ≠ "java/lang/invoke/VarHandle" ∧ (parseMethodDescriptor yX6_inTime.desc).map (fun d => d.parameters.length) = some 2 := by decide +kernel
set_option maxRecDepth 100000 in
set_option maxHeartbeats 4000000 in
theorem c_X6_inTime (l : Launch) (G : GD) (h0 : Nat) (tx nw tr un kp wy rm pl dr : Nat → Nat) (x1 : Int32) (x2 : Int32) (vp : OV) (vn : OV) (vy : OV) (hd0 : ¬ vp.2 9 < 0) (hd8 : (vp.2 9).toNatClampNeg ≤ 8) : MetS l yX6_inTime wsX6_inTime rm_X6_inTime G [bX6 h0 (tx 0) (nw 0) (tr 0) (un 0) (kp 0) (wy 0) (rm 0) (pl 0) (dr 0), bX2 pl G vp, bX0 nw G vn, bX5 wy G vy] [.ref h0, .int x1, .int x2] (fun r bc => r = some (.int (f_inTimeR vp vn vy x1 x2)) ∧ bc = [bX6 h0 (tx 0) (nw 0) (tr 0) (un 0) (kp 0) (wy 0) (rm 0) (pl 0) (dr 0), bX2 pl G vp, bX0 nw G vn, bX5 wy G (cnd (okInT vp x1 x2) (f_inT vp vn vy x1 x2).2 vy)]) := by
  refine kb_beginS (cc := cX6_inTime) (maxL := 6) (ret := (some .int)) (by decide) rfl (Nat.le_of_ble_eq_true rfl) ?_
  intro p e s m below meth c hx hb hr hml hown hts hlocks hX H locs hP hD hS ls hl
  have hown : s.vm.findClass RX6 = some m.cls := hown
  have hl : lv_has ls 6 [(0, .ref h0), (1, .int x1), (2, .int x2)] := hl
  have hin2 : ∀ w ∈ u_ws RX2 TX2 15, w ∈ wsX6_inTime := (fun _ h => List.mem_cons_of_mem _ (List.mem_append_left _ (List.mem_append_left _ (List.mem_append_right _ (h)))))
  have hin6 : ∀ w ∈ u_ws RX6 TX6 9, w ∈ wsX6_inTime := (fun _ h => List.mem_cons_of_mem _ (List.mem_append_left _ (List.mem_append_left _ (List.mem_append_left _ (List.mem_append_right _ (h))))))
  refine lv_aload_n hx hb dX6_inTime_0 rfl (lv_at hl 0 rfl) ?_
  refine lv_iload_n hx hb dX6_inTime_1 rfl (lv_at hl 1 rfl) ?_
  refine kcV_p hx hb hml hown hts hX hP (c_X6_isLodger l G h0 tx nw tr un kp wy rm pl dr x1 vp) gX6_inTime_X6_isLodger 1 rfl rfl rfl hd_X6_isLodger ⟨Nat.le_of_ble_eq_true rfl, Nat.le_of_ble_eq_true rfl⟩ [0, 1] rfl 0 rfl rfl rfl hl.1 rfl rfl (Nat.le_of_ble_eq_true rfl) dX6_inTime_2 ⟨Nat.zero_le _, Nat.zero_le _⟩ ?_
  refine lv_if_eq (tgt := 19) hx hb dX6_inTime_5 (by decide) (fun c_5r => ?_) (fun c_5r => ?_)
  · have c_5 := b2i_fN c_5r
    refine lv_iconst (v := (-1)) hx hb dX6_inTime_19 (by decide) ?_
    have hP : PP G [bX6 h0 (tx 0) (nw 0) (tr 0) (un 0) (kp 0) (wy 0) (rm 0) (pl 0) (dr 0), bX2 pl G vp, bX0 nw G vn, bX5 wy G (cnd (okInT vp x1 x2) (f_inT vp vn vy x1 x2).2 vy)] H := by
      have hok : okInT vp x1 x2 = false := by simp only [okInT, if_neg c_5]
      rw [hok]
      exact hP
    exact kr_si hx hb hr hlocks dX6_inTime_20 hP hS (sameAd_cons rfl (sameAd_cons (bX2_ad _ _ _ _) (sameAd_cons (bX0_ad _ _ _ _) (sameAd_cons (bX5_ad _ _ _ _) sameAd_nil)))) ⟨by rw [f_inTimeR, (by simp only [okInT, if_neg c_5] : okInT vp x1 x2 = false)]; rfl, rfl⟩
  · have c_5 := b2i_tP c_5r
    refine lv_iload_n hx hb dX6_inTime_8 rfl (lv_at hl 2 rfl) ?_
    refine lv_iconst (v := 0) hx hb dX6_inTime_9 (by decide) ?_
    refine lv_sipush (v := 600) hx hb dX6_inTime_10 (by decide) ?_
    refine kcS_p hx hb hml hown hts hX hP (c_X6_within l G x2 0 600) gX6_inTime_X6_within 3 rfl rfl rfl hdS_X6_within ⟨Nat.le_of_ble_eq_true rfl, Nat.le_of_ble_eq_true rfl⟩ (fun q hq => absurd hq List.not_mem_nil) hl.1 rfl rfl (Nat.le_of_ble_eq_true rfl) dX6_inTime_13 ⟨Nat.zero_le _, Nat.zero_le _⟩ ?_
    refine lv_if_ne (tgt := 21) hx hb dX6_inTime_16 (by decide) (fun c_16r => ?_) (fun c_16r => ?_)
    · have c_16 := b2i_tP c_16r
      refine lv_iconst (v := 1) hx hb dX6_inTime_21 (by decide) ?_
      refine lv_aload_n hx hb dX6_inTime_22 rfl (lv_at hl 0 rfl) ?_
      refine kb_get (own := RX6) (C := RX6) (T := TX6) (N := 9) (v := .ref (pl 0)) hx hb hts hin6 hown hX hP 0 rfl rfl rfl 7 (by decide) rfl (by decide +kernel) rfl dX6_inTime_23 ?_
      refine kb_getN (own := RX6) (C := RX2) (T := TX2) (N := 15) (v := .int (vp.2 9)) hx hb hts hin2 hown hX hP 1 rfl rfl rfl 9 (by decide) rfl (by decide +kernel) rfl dX6_inTime_26 ?_
      refine lv_ishl hx hb dX6_inTime_29 ?_
      refine lv_istore_n (lv' := [(3, .int (1 <<< ((vp.2 9) &&& 31))), (0, .ref h0), (1, .int x1), (2, .int x2)]) hx hb dX6_inTime_30 rfl hl (by decide) rfl (fun ls hl => ?_)
      refine lv_iconst (v := 0) hx hb dX6_inTime_31 (by decide) ?_
      refine lv_istore (lv' := [(4, .int 0), (3, .int (1 <<< ((vp.2 9) &&& 31))), (0, .ref h0), (1, .int x1), (2, .int x2)]) hx hb dX6_inTime_32 hl (by decide) rfl (fun ls hl => ?_)
      refine lp_up (N := (vp.2 9).toNatClampNeg + 1) (P := fun k => ∀ (y : OV), ∀ (H : Heap) (locs : List Loc) (ls : Array Slot), PP G [bX6 h0 (tx 0) (nw 0) (tr 0) (un 0) (kp 0) (wy 0) (rm 0) (pl 0) (dr 0), bX2 pl G vp, bX0 nw G vn, bX5 wy G y] H → DD (AA (List.flatten [bX6 h0 (tx 0) (nw 0) (tr 0) (un 0) (kp 0) (wy 0) (rm 0) (pl 0) (dr 0), bX2 pl G vp, bX0 nw G vn, bX5 wy G vy])) [bX6 h0 (tx 0) (nw 0) (tr 0) (un 0) (kp 0) (wy 0) (rm 0) (pl 0) (dr 0), bX2 pl G vp, bX0 nw G vn, bX5 wy G y] → va_S (AA (List.flatten [bX6 h0 (tx 0) (nw 0) (tr 0) (un 0) (kp 0) (wy 0) (rm 0) (pl 0) (dr 0), bX2 pl G vp, bX0 nw G vn, bX5 wy G vy])) s.heap H locs → lv_has ls 6 [(4, .int (nI k)), (3, .int (1 <<< ((vp.2 9) &&& 31))), (0, .ref h0), (1, .int x1), (2, .int x2)] → (f_inT vp vn vy x1 x2 = tmSz vp vn x1 x2 (c_sets vp).toNatClampNeg ((vp.2 9).toNatClampNeg + 1 - k) k y) → W p l e (headSpec wsX6_inTime rm_X6_inTime).room s m ([.ref h0, .int x1, .int x2] : List Value).toArray below meth c H locs 0 0 (MQ below (kQs G [bX6 h0 (tx 0) (nw 0) (tr 0) (un 0) (kp 0) (wy 0) (rm 0) (pl 0) (dr 0), bX2 pl G vp, bX0 nw G vn, bX5 wy G vy] (fun r bc => r = some (.int (f_inTimeR vp vn vy x1 x2)) ∧ bc = [bX6 h0 (tx 0) (nw 0) (tr 0) (un 0) (kp 0) (wy 0) (rm 0) (pl 0) (dr 0), bX2 pl G vp, bX0 nw G vn, bX5 wy G (cnd (okInT vp x1 x2) (f_inT vp vn vy x1 x2).2 vy)])) ([.ref h0, .int x1, .int x2] : List Value).toArray s 0 0 (AA (List.flatten [bX6 h0 (tx 0) (nw 0) (tr 0) (un 0) (kp 0) (wy 0) (rm 0) (pl 0) (dr 0), bX2 pl G vp, bX0 nw G vn, bX5 wy G vy]))) (F0 m 34 ls [])) ?_ ?_ 0 (Nat.zero_le _) vy _ _ _ hP hD hS (lv_sub hl [0, 1, 2, 3, 4] rfl) (rfl)
      · skip
        intro y H locs ls hP hD hS hl hs
        refine lv_iload hx hb dX6_inTime_34 (lv_at hl 0 rfl) ?_
        refine lv_aload_n hx hb dX6_inTime_36 rfl (lv_at hl 2 rfl) ?_
        refine kb_get (own := RX6) (C := RX6) (T := TX6) (N := 9) (v := .ref (pl 0)) hx hb hts hin6 hown hX hP 0 rfl rfl rfl 7 (by decide) rfl (by decide +kernel) rfl dX6_inTime_37 ?_
        refine kb_getN (own := RX6) (C := RX2) (T := TX2) (N := 15) (v := .int (vp.2 9)) hx hb hts hin2 hown hX hP 1 rfl rfl rfl 9 (by decide) rfl (by decide +kernel) rfl dX6_inTime_40 ?_
        refine lv_icmp_gt (tgt := 91) hx hb dX6_inTime_43 (by decide) (fun c_43 => ?_) (fun c_43 => absurd (gt_exit hd0 hd8) c_43)
        refine lv_bipush (v := (-4)) hx hb dX6_inTime_91 (by decide) ?_
        have hP : PP G [bX6 h0 (tx 0) (nw 0) (tr 0) (un 0) (kp 0) (wy 0) (rm 0) (pl 0) (dr 0), bX2 pl G vp, bX0 nw G vn, bX5 wy G (cnd (okInT vp x1 x2) (f_inT vp vn vy x1 x2).2 vy)] H := by
          have hok : okInT vp x1 x2 = true := by simp only [okInT, if_pos c_5, if_pos c_16]
          rw [hok, (hs.trans (by rw [Nat.sub_self]; rfl) : f_inT vp vn vy x1 x2 = (none, y))]
          exact hP
        exact kr_si hx hb hr hlocks dX6_inTime_93 hP hS (sameAd_cons rfl (sameAd_cons (bX2_ad _ _ _ _) (sameAd_cons (bX0_ad _ _ _ _) (sameAd_cons (bX5_ad _ _ _ _) sameAd_nil)))) ⟨by rw [f_inTimeR, (by simp only [okInT, if_pos c_5, if_pos c_16] : okInT vp x1 x2 = true), (hs.trans (by rw [Nat.sub_self]; rfl) : f_inT vp vn vy x1 x2 = (none, y))]; rfl, rfl⟩
      · skip
        intro k hk_k ih_34 y H locs ls hP hD hS hl hs
        refine lv_iload hx hb dX6_inTime_34 (lv_at hl 0 rfl) ?_
        refine lv_aload_n hx hb dX6_inTime_36 rfl (lv_at hl 2 rfl) ?_
        refine kb_get (own := RX6) (C := RX6) (T := TX6) (N := 9) (v := .ref (pl 0)) hx hb hts hin6 hown hX hP 0 rfl rfl rfl 7 (by decide) rfl (by decide +kernel) rfl dX6_inTime_37 ?_
        refine kb_getN (own := RX6) (C := RX2) (T := TX2) (N := 15) (v := .int (vp.2 9)) hx hb hts hin2 hown hX hP 1 rfl rfl rfl 9 (by decide) rfl (by decide +kernel) rfl dX6_inTime_40 ?_
        refine lv_icmp_gt (tgt := 91) hx hb dX6_inTime_43 (by decide) (fun c_43 => absurd c_43 (gt_step hd0 hd8 hk_k)) (fun c_43 => ?_)
        refine lv_iconst (v := 0) hx hb dX6_inTime_46 (by decide) ?_
        refine lv_istore (lv' := [(5, .int 0), (4, .int (nI k)), (3, .int (1 <<< ((vp.2 9) &&& 31))), (0, .ref h0), (1, .int x1), (2, .int x2)]) hx hb dX6_inTime_47 hl (by decide) rfl (fun ls hl => ?_)
        refine lp_up (N := (c_sets vp).toNatClampNeg) (P := fun o => ∀ (y2 : OV), ∀ (H : Heap) (locs : List Loc) (ls : Array Slot), PP G [bX6 h0 (tx 0) (nw 0) (tr 0) (un 0) (kp 0) (wy 0) (rm 0) (pl 0) (dr 0), bX2 pl G vp, bX0 nw G vn, bX5 wy G y2] H → DD (AA (List.flatten [bX6 h0 (tx 0) (nw 0) (tr 0) (un 0) (kp 0) (wy 0) (rm 0) (pl 0) (dr 0), bX2 pl G vp, bX0 nw G vn, bX5 wy G vy])) [bX6 h0 (tx 0) (nw 0) (tr 0) (un 0) (kp 0) (wy 0) (rm 0) (pl 0) (dr 0), bX2 pl G vp, bX0 nw G vn, bX5 wy G y2] → va_S (AA (List.flatten [bX6 h0 (tx 0) (nw 0) (tr 0) (un 0) (kp 0) (wy 0) (rm 0) (pl 0) (dr 0), bX2 pl G vp, bX0 nw G vn, bX5 wy G vy])) s.heap H locs → lv_has ls 6 [(5, .int (nI o)), (4, .int (nI k)), (3, .int (1 <<< ((vp.2 9) &&& 31))), (0, .ref h0), (1, .int x1), (2, .int x2)] → (tmGo vp vn (nI k) x1 x2 (c_sets vp).toNatClampNeg 0 y = tmGo vp vn (nI k) x1 x2 ((c_sets vp).toNatClampNeg - o) o y2) → W p l e (headSpec wsX6_inTime rm_X6_inTime).room s m ([.ref h0, .int x1, .int x2] : List Value).toArray below meth c H locs 0 0 (MQ below (kQs G [bX6 h0 (tx 0) (nw 0) (tr 0) (un 0) (kp 0) (wy 0) (rm 0) (pl 0) (dr 0), bX2 pl G vp, bX0 nw G vn, bX5 wy G vy] (fun r bc => r = some (.int (f_inTimeR vp vn vy x1 x2)) ∧ bc = [bX6 h0 (tx 0) (nw 0) (tr 0) (un 0) (kp 0) (wy 0) (rm 0) (pl 0) (dr 0), bX2 pl G vp, bX0 nw G vn, bX5 wy G (cnd (okInT vp x1 x2) (f_inT vp vn vy x1 x2).2 vy)])) ([.ref h0, .int x1, .int x2] : List Value).toArray s 0 0 (AA (List.flatten [bX6 h0 (tx 0) (nw 0) (tr 0) (un 0) (kp 0) (wy 0) (rm 0) (pl 0) (dr 0), bX2 pl G vp, bX0 nw G vn, bX5 wy G vy]))) (F0 m 49 ls [])) ?_ ?_ 0 (Nat.zero_le _) y _ _ _ hP hD hS (lv_sub hl [0, 1, 2, 3, 4, 5] rfl) (rfl)
        · skip
          intro y2 H locs ls hP hD hS hl hs2
          refine lv_iload hx hb dX6_inTime_49 (lv_at hl 0 rfl) ?_
          refine lv_iload_n hx hb dX6_inTime_51 rfl (lv_at hl 2 rfl) ?_
          refine lv_icmp_ge (tgt := 85) hx hb dX6_inTime_52 (by decide) (fun c_52 => ?_) (fun c_52 => absurd (lpx_c _) c_52)
          refine lv_iinc (v := nI (k + 1)) (lv' := [(4, .int (nI (k + 1))), (5, .int (nI ((c_sets vp).toNatClampNeg))), (3, .int (1 <<< ((vp.2 9) &&& 31))), (0, .ref h0), (1, .int x1), (2, .int x2)]) hx hb dX6_inTime_85 hl (k := 1) rfl (nI_1 _) (by decide) rfl (fun ls hl => ?_)
          refine lv_goto (tgt := 34) hx hb dX6_inTime_88 (by decide) ?_
          have hP : PP G [bX6 h0 (tx 0) (nw 0) (tr 0) (un 0) (kp 0) (wy 0) (rm 0) (pl 0) (dr 0), bX2 pl G vp, bX0 nw G vn, bX5 wy G y2] H := hP
          have hD : DD (AA (List.flatten [bX6 h0 (tx 0) (nw 0) (tr 0) (un 0) (kp 0) (wy 0) (rm 0) (pl 0) (dr 0), bX2 pl G vp, bX0 nw G vn, bX5 wy G vy])) [bX6 h0 (tx 0) (nw 0) (tr 0) (un 0) (kp 0) (wy 0) (rm 0) (pl 0) (dr 0), bX2 pl G vp, bX0 nw G vn, bX5 wy G y2] := D_re hD (adc rfl (adc (bX2_ad _ _ _ _) (adc (bX0_ad _ _ _ _) (adc (bX5_ad _ _ _ _) adn))))
          exact ih_34 y2 _ _ _ hP hD hS (show lv_has ls 6 [(4, .int (nI (k + 1))), (3, .int (1 <<< ((vp.2 9) &&& 31))), (0, .ref h0), (1, .int x1), (2, .int x2)] from lv_sub hl [0, 2, 3, 4, 5] rfl) (hs.trans (by rw [sub_s hk_k, tmSz, (hs2.trans (by rw [Nat.sub_self]; rfl) : tmGo vp vn (nI k) x1 x2 (c_sets vp).toNatClampNeg 0 y = (none, y2))]; rfl))
        · skip
          intro o hk_o ih_49 y2 H locs ls hP hD hS hl hs2
          refine lv_iload hx hb dX6_inTime_49 (lv_at hl 0 rfl) ?_
          refine lv_iload_n hx hb dX6_inTime_51 rfl (lv_at hl 2 rfl) ?_
          refine lv_icmp_ge (tgt := 85) hx hb dX6_inTime_52 (by decide) (fun c_52 => absurd c_52 (lps_c hk_o)) (fun c_52 => ?_)
          refine lv_iload hx hb dX6_inTime_55 (lv_at hl 0 rfl) ?_
          refine kcS_p hx hb hml hown hts hX hP (c_J6_bitCount_0f7a4 l G (nI o)) gX6_inTime_J6_bitCount_0f7a4 1 rfl rfl rfl hdS_J6_bitCount_0f7a4 ⟨Nat.le_of_ble_eq_true rfl, Nat.le_of_ble_eq_true rfl⟩ (fun q hq => absurd hq List.not_mem_nil) hl.1 rfl rfl (Nat.le_of_ble_eq_true rfl) dX6_inTime_57 ⟨Nat.zero_le _, Nat.zero_le _⟩ ?_
          refine lv_iload hx hb dX6_inTime_60 (lv_at hl 1 rfl) ?_
          refine lv_icmp_ne (tgt := 79) hx hb dX6_inTime_62 (by decide) (fun c_62 => ?_) (fun c_62 => ?_)
          · refine lv_iinc (v := nI (o + 1)) (lv' := [(5, .int (nI (o + 1))), (4, .int (nI k)), (3, .int (1 <<< ((vp.2 9) &&& 31))), (0, .ref h0), (1, .int x1), (2, .int x2)]) hx hb dX6_inTime_79 hl (k := 0) rfl (nI_1 _) (by decide) rfl (fun ls hl => ?_)
            refine lv_goto (tgt := 49) hx hb dX6_inTime_82 (by decide) ?_
            have hP : PP G [bX6 h0 (tx 0) (nw 0) (tr 0) (un 0) (kp 0) (wy 0) (rm 0) (pl 0) (dr 0), bX2 pl G vp, bX0 nw G vn, bX5 wy G y2] H := hP
            have hD : DD (AA (List.flatten [bX6 h0 (tx 0) (nw 0) (tr 0) (un 0) (kp 0) (wy 0) (rm 0) (pl 0) (dr 0), bX2 pl G vp, bX0 nw G vn, bX5 wy G vy])) [bX6 h0 (tx 0) (nw 0) (tr 0) (un 0) (kp 0) (wy 0) (rm 0) (pl 0) (dr 0), bX2 pl G vp, bX0 nw G vn, bX5 wy G y2] := D_re hD (adc rfl (adc (bX2_ad _ _ _ _) (adc (bX0_ad _ _ _ _) (adc (bX5_ad _ _ _ _) adn))))
            exact ih_49 y2 _ _ _ hP hD hS (show lv_has ls 6 [(5, .int (nI (o + 1))), (4, .int (nI k)), (3, .int (1 <<< ((vp.2 9) &&& 31))), (0, .ref h0), (1, .int x1), (2, .int x2)] from lv_sub hl [0, 1, 2, 3, 4, 5] rfl) (hs2.trans (by rw [sub_s hk_o]; simp only [tmGo, if_pos c_5, if_pos c_16, if_neg c_43, if_neg c_52, if_neg c_62]))
          · refine lv_aload_n hx hb dX6_inTime_65 rfl (lv_at hl 3 rfl) ?_
            refine lv_iload hx hb dX6_inTime_66 (lv_at hl 0 rfl) ?_
            refine lv_iload_n hx hb dX6_inTime_68 rfl (lv_at hl 4 rfl) ?_
            refine lv_iload_n hx hb dX6_inTime_69 rfl (lv_at hl 5 rfl) ?_
            refine kcV_s hx hb hml hown hts hX hP hD hS (c_X6_isInTimeWith l G h0 tx nw tr un kp wy rm pl dr (nI o) x1 x2 vp vn y2) gX6_inTime_X6_isInTimeWith 3 rfl rfl rfl hd_X6_isInTimeWith ⟨Nat.le_of_ble_eq_true rfl, Nat.le_of_ble_eq_true rfl⟩ [0, 1, 2, 3] (by decide) rfl 0 rfl rfl rfl hl.1 rfl rfl (Nat.le_of_ble_eq_true rfl) dX6_inTime_70 ⟨Nat.zero_le _, Nat.zero_le _⟩ (fun r_ bc_ hq_1 H locs hP hD hS => ?_)
            obtain ⟨rfl, rfl⟩ := hq_1
            have hP : PP G [bX6 h0 (tx 0) (nw 0) (tr 0) (un 0) (kp 0) (wy 0) (rm 0) (pl 0) (dr 0), bX2 pl G vp, bX0 nw G vn, bX5 wy G (f_tm vp vn y2 (nI o) x1)] H := hP
            have hD : DD (AA (List.flatten [bX6 h0 (tx 0) (nw 0) (tr 0) (un 0) (kp 0) (wy 0) (rm 0) (pl 0) (dr 0), bX2 pl G vp, bX0 nw G vn, bX5 wy G vy])) [bX6 h0 (tx 0) (nw 0) (tr 0) (un 0) (kp 0) (wy 0) (rm 0) (pl 0) (dr 0), bX2 pl G vp, bX0 nw G vn, bX5 wy G (f_tm vp vn y2 (nI o) x1)] := D_re hD (adc rfl (adc (bX2_ad _ _ _ _) (adc (bX0_ad _ _ _ _) (adc (bX5_ad _ _ _ _) adn))))
            refine lv_if_eq (tgt := 79) hx hb dX6_inTime_73 (by decide) (fun c_73r => ?_) (fun c_73r => ?_)
            · have c_73 := b2i_fN c_73r
              refine lv_iinc (v := nI (o + 1)) (lv' := [(5, .int (nI (o + 1))), (4, .int (nI k)), (3, .int (1 <<< ((vp.2 9) &&& 31))), (0, .ref h0), (1, .int x1), (2, .int x2)]) hx hb dX6_inTime_79 hl (k := 0) rfl (nI_1 _) (by decide) rfl (fun ls hl => ?_)
              refine lv_goto (tgt := 49) hx hb dX6_inTime_82 (by decide) ?_
              have hP : PP G [bX6 h0 (tx 0) (nw 0) (tr 0) (un 0) (kp 0) (wy 0) (rm 0) (pl 0) (dr 0), bX2 pl G vp, bX0 nw G vn, bX5 wy G (f_tm vp vn y2 (nI o) x1)] H := hP
              have hD : DD (AA (List.flatten [bX6 h0 (tx 0) (nw 0) (tr 0) (un 0) (kp 0) (wy 0) (rm 0) (pl 0) (dr 0), bX2 pl G vp, bX0 nw G vn, bX5 wy G vy])) [bX6 h0 (tx 0) (nw 0) (tr 0) (un 0) (kp 0) (wy 0) (rm 0) (pl 0) (dr 0), bX2 pl G vp, bX0 nw G vn, bX5 wy G (f_tm vp vn y2 (nI o) x1)] := D_re hD (adc rfl (adc (bX2_ad _ _ _ _) (adc (bX0_ad _ _ _ _) (adc (bX5_ad _ _ _ _) adn))))
              exact ih_49 (f_tm vp vn y2 (nI o) x1) _ _ _ hP hD hS (show lv_has ls 6 [(5, .int (nI (o + 1))), (4, .int (nI k)), (3, .int (1 <<< ((vp.2 9) &&& 31))), (0, .ref h0), (1, .int x1), (2, .int x2)] from lv_sub hl [0, 1, 2, 3, 4, 5] rfl) (hs2.trans (by rw [sub_s hk_o]; simp only [tmGo, if_pos c_5, if_pos c_16, if_neg c_43, if_neg c_52, if_pos c_62, if_neg c_73]))
            · have c_73 := b2i_tP c_73r
              refine lv_iload hx hb dX6_inTime_76 (lv_at hl 0 rfl) ?_
              have hP : PP G [bX6 h0 (tx 0) (nw 0) (tr 0) (un 0) (kp 0) (wy 0) (rm 0) (pl 0) (dr 0), bX2 pl G vp, bX0 nw G vn, bX5 wy G (cnd (okInT vp x1 x2) (f_inT vp vn vy x1 x2).2 vy)] H := by
                have hok : okInT vp x1 x2 = true := by simp only [okInT, if_pos c_5, if_pos c_16]
                rw [hok, (hs.trans (by rw [sub_s hk_k, tmSz, (hs2.trans (by rw [sub_s hk_o]; simp only [tmGo, if_pos c_5, if_pos c_16, if_neg c_43, if_neg c_52, if_pos c_62, if_pos c_73]) : tmGo vp vn (nI k) x1 x2 (c_sets vp).toNatClampNeg 0 y = (some o, f_tm vp vn y2 (nI o) x1))]; rfl) : f_inT vp vn vy x1 x2 = (some o, f_tm vp vn y2 (nI o) x1))]
                exact hP
              exact kr_si hx hb hr hlocks dX6_inTime_78 hP hS (sameAd_cons rfl (sameAd_cons (bX2_ad _ _ _ _) (sameAd_cons (bX0_ad _ _ _ _) (sameAd_cons (bX5_ad _ _ _ _) sameAd_nil)))) ⟨by rw [f_inTimeR, (by simp only [okInT, if_pos c_5, if_pos c_16] : okInT vp x1 x2 = true), (hs.trans (by rw [sub_s hk_k, tmSz, (hs2.trans (by rw [sub_s hk_o]; simp only [tmGo, if_pos c_5, if_pos c_16, if_neg c_43, if_neg c_52, if_pos c_62, if_pos c_73]) : tmGo vp vn (nI k) x1 x2 (c_sets vp).toNatClampNeg 0 y = (some o, f_tm vp vn y2 (nI o) x1))]; rfl) : f_inT vp vn vy x1 x2 = (some o, f_tm vp vn y2 (nI o) x1))]; rfl, rfl⟩
    · have c_16 := b2i_fN c_16r
      refine lv_iconst (v := (-1)) hx hb dX6_inTime_19 (by decide) ?_
      have hP : PP G [bX6 h0 (tx 0) (nw 0) (tr 0) (un 0) (kp 0) (wy 0) (rm 0) (pl 0) (dr 0), bX2 pl G vp, bX0 nw G vn, bX5 wy G (cnd (okInT vp x1 x2) (f_inT vp vn vy x1 x2).2 vy)] H := by
        have hok : okInT vp x1 x2 = false := by simp only [okInT, if_pos c_5, if_neg c_16]
        rw [hok]
        exact hP
      exact kr_si hx hb hr hlocks dX6_inTime_20 hP hS (sameAd_cons rfl (sameAd_cons (bX2_ad _ _ _ _) (sameAd_cons (bX0_ad _ _ _ _) (sameAd_cons (bX5_ad _ _ _ _) sameAd_nil)))) ⟨by rw [f_inTimeR, (by simp only [okInT, if_pos c_5, if_neg c_16] : okInT vp x1 x2 = false)]; rfl, rfl⟩

def rm_X6_rooms : Room := { frames := 5, cells := 0, slots := 0, locals := 117 }
theorem hd_X6_rooms : yX6_rooms.cls = RX6 ∧ yX6_rooms.cls ≠ "java/lang/invoke/MethodHandle" ∧ yX6_rooms.cls ≠ "java/lang/invoke/VarHandle" ∧ (parseMethodDescriptor yX6_rooms.desc).map (fun d => d.parameters.length) = some 1 := by decide +kernel
set_option maxRecDepth 100000 in
set_option maxHeartbeats 4000000 in
theorem c_X6_rooms (l : Launch) (G : GD) (h0 : Nat) (tx nw tr un kp wy rm pl dr : Nat → Nat) (x1 : Int32) (vp : OV) (vn : OV) (vy : OV) (vm : OV) (hl0 : ¬ vp.2 10 < 0) : MetS l yX6_rooms wsX6_rooms rm_X6_rooms G [bX6 h0 (tx 0) (nw 0) (tr 0) (un 0) (kp 0) (wy 0) (rm 0) (pl 0) (dr 0), bX2 pl G vp, bX0 nw G vn, bX5 wy G vy, bX3 rm G vm] [.ref h0, .int x1] (fun r bc => r = some (.int (f_roomsR vp vn vy vm x1)) ∧ bc = [bX6 h0 (tx 0) (nw 0) (tr 0) (un 0) (kp 0) (wy 0) (rm 0) (pl 0) (dr 0), bX2 pl G vp, bX0 nw G vn, bX5 wy G (cnd (okRooms vp x1) (f_rm vm vp vn vy).2 vy), bX3 rm G (cnd (okRooms vp x1) (f_X3_measure vm vp vn vy) vm)]) := by
  refine kb_beginS (cc := cX6_rooms) (maxL := 3) (ret := (some .int)) (by decide) rfl (Nat.le_of_ble_eq_true rfl) ?_
  intro p e s m below meth c hx hb hr hml hown hts hlocks hX H locs hP hD hS ls hl
  have hown : s.vm.findClass RX6 = some m.cls := hown
  have hl : lv_has ls 3 [(0, .ref h0), (1, .int x1)] := hl
  have hin6 : ∀ w ∈ u_ws RX6 TX6 9, w ∈ wsX6_rooms := (fun _ h => List.mem_cons_of_mem _ (List.mem_append_left _ (List.mem_append_left _ (List.mem_append_left _ (List.mem_append_left _ (List.mem_append_right _ (h)))))))
  refine lv_iload_n hx hb dX6_rooms_0 rfl (lv_at hl 1 rfl) ?_
  refine lv_iconst (v := (-1)) hx hb dX6_rooms_1 (by decide) ?_
  refine lv_icmp_eq (tgt := 15) hx hb dX6_rooms_2 (by decide) (fun c_2 => ?_) (fun c_2 => ?_)
  · refine lv_aload_n hx hb dX6_rooms_15 rfl (lv_at hl 0 rfl) ?_
    refine kb_get (own := RX6) (C := RX6) (T := TX6) (N := 9) (v := .ref (rm 0)) hx hb hts hin6 hown hX hP 0 rfl rfl rfl 6 (by decide) rfl (by decide +kernel) rfl dX6_rooms_16 ?_
    refine lv_aload_n hx hb dX6_rooms_19 rfl (lv_at hl 0 rfl) ?_
    refine kb_get (own := RX6) (C := RX6) (T := TX6) (N := 9) (v := .ref (pl 0)) hx hb hts hin6 hown hX hP 0 rfl rfl rfl 7 (by decide) rfl (by decide +kernel) rfl dX6_rooms_20 ?_
    refine lv_aload_n hx hb dX6_rooms_23 rfl (lv_at hl 0 rfl) ?_
    refine kb_get (own := RX6) (C := RX6) (T := TX6) (N := 9) (v := .ref (nw 0)) hx hb hts hin6 hown hX hP 0 rfl rfl rfl 1 (by decide) rfl (by decide +kernel) rfl dX6_rooms_24 ?_
    refine lv_aload_n hx hb dX6_rooms_27 rfl (lv_at hl 0 rfl) ?_
    refine kb_get (own := RX6) (C := RX6) (T := TX6) (N := 9) (v := .ref (wy 0)) hx hb hts hin6 hown hX hP 0 rfl rfl rfl 5 (by decide) rfl (by decide +kernel) rfl dX6_rooms_28 ?_
    refine kcV_s hx hb hml hown hts hX hP hD hS (c_X3_measure l G rm vm pl vp nw vn wy vy) gX6_rooms_X3_measure 3 rfl rfl rfl hd_X3_measure ⟨Nat.le_of_ble_eq_true rfl, Nat.le_of_ble_eq_true rfl⟩ [4, 1, 2, 3] (by decide) rfl 4 rfl rfl rfl hl.1 rfl rfl (Nat.le_of_ble_eq_true rfl) dX6_rooms_31 ⟨Nat.zero_le _, Nat.zero_le _⟩ (fun r_ bc_ hq_1 H locs hP hD hS => ?_)
    obtain ⟨rfl, rfl⟩ := hq_1
    have hP : PP G [bX6 h0 (tx 0) (nw 0) (tr 0) (un 0) (kp 0) (wy 0) (rm 0) (pl 0) (dr 0), bX2 pl G vp, bX0 nw G vn, bX5 wy G ((f_rm vm vp vn vy).2), bX3 rm G (f_X3_measure vm vp vn vy)] H := hP
    have hD : DD (AA (List.flatten [bX6 h0 (tx 0) (nw 0) (tr 0) (un 0) (kp 0) (wy 0) (rm 0) (pl 0) (dr 0), bX2 pl G vp, bX0 nw G vn, bX5 wy G vy, bX3 rm G vm])) [bX6 h0 (tx 0) (nw 0) (tr 0) (un 0) (kp 0) (wy 0) (rm 0) (pl 0) (dr 0), bX2 pl G vp, bX0 nw G vn, bX5 wy G ((f_rm vm vp vn vy).2), bX3 rm G (f_X3_measure vm vp vn vy)] := D_re hD (adc rfl (adc (bX2_ad _ _ _ _) (adc (bX0_ad _ _ _ _) (adc (bX5_ad _ _ _ _) (adc (bX3_ad _ _ _ _) adn)))))
    refine lv_aload_n hx hb dX6_rooms_34 rfl (lv_at hl 0 rfl) ?_
    refine kb_get (own := RX6) (C := RX6) (T := TX6) (N := 9) (v := .ref (rm 0)) hx hb hts hin6 hown hX hP 0 rfl rfl rfl 6 (by decide) rfl (by decide +kernel) rfl dX6_rooms_35 ?_
    refine kcV_p hx hb hml hown hts hX hP (c_X3_bestCode l G rm (f_X3_measure vm vp vn vy) hl0) gX6_rooms_X3_bestCode 0 rfl rfl rfl hd_X3_bestCode ⟨Nat.le_of_ble_eq_true rfl, Nat.le_of_ble_eq_true rfl⟩ [4] rfl 4 rfl rfl rfl hl.1 rfl rfl (Nat.le_of_ble_eq_true rfl) dX6_rooms_38 ⟨Nat.zero_le _, Nat.zero_le _⟩ ?_
    refine lv_istore_n (lv' := [(2, .int (f_X3_bestCode (f_X3_measure vm vp vn vy))), (0, .ref h0), (1, .int x1)]) hx hb dX6_rooms_41 rfl hl (by decide) rfl (fun ls hl => ?_)
    refine lv_iload_n hx hb dX6_rooms_42 rfl (lv_at hl 0 rfl) ?_
    refine lv_if_ge (tgt := 49) hx hb dX6_rooms_43 (by decide) (fun c_43 => ?_) (fun c_43 => ?_)
    · refine lv_iload_n hx hb dX6_rooms_49 rfl (lv_at hl 2 rfl) ?_
      refine lv_if_ge (tgt := 64) hx hb dX6_rooms_50 (by decide) (fun c_50 => ?_) (fun c_50 => ?_)
      · refine lv_aload_n hx hb dX6_rooms_64 rfl (lv_at hl 1 rfl) ?_
        refine kb_get (own := RX6) (C := RX6) (T := TX6) (N := 9) (v := .ref (rm 0)) hx hb hts hin6 hown hX hP 0 rfl rfl rfl 6 (by decide) rfl (by decide +kernel) rfl dX6_rooms_65 ?_
        refine lv_iload_n hx hb dX6_rooms_68 rfl (lv_at hl 0 rfl) ?_
        refine lv_iload_n hx hb dX6_rooms_69 rfl (lv_at hl 2 rfl) ?_
        refine kcV_p hx hb hml hown hts hX hP (c_X3_roomIn l G rm (f_X3_measure vm vp vn vy) (f_X3_bestCode (f_X3_measure vm vp vn vy)) x1 hl0 (Int32.not_lt.mpr c_50)) gX6_rooms_X3_roomIn 2 rfl rfl rfl hd_X3_roomIn ⟨Nat.le_of_ble_eq_true rfl, Nat.le_of_ble_eq_true rfl⟩ [4] rfl 4 rfl rfl rfl hl.1 rfl rfl (Nat.le_of_ble_eq_true rfl) dX6_rooms_70 ⟨Nat.zero_le _, Nat.zero_le _⟩ ?_
        have hP : PP G [bX6 h0 (tx 0) (nw 0) (tr 0) (un 0) (kp 0) (wy 0) (rm 0) (pl 0) (dr 0), bX2 pl G vp, bX0 nw G vn, bX5 wy G (cnd (okRooms vp x1) (f_rm vm vp vn vy).2 vy), bX3 rm G (cnd (okRooms vp x1) (f_X3_measure vm vp vn vy) vm)] H := by
          have hok : okRooms vp x1 = true := by simp only [okRooms, if_pos c_2, if_pos c_43, if_pos c_50]
          rw [hok]
          exact hP
        exact kr_si hx hb hr hlocks dX6_rooms_73 hP hS (sameAd_cons rfl (sameAd_cons (bX2_ad _ _ _ _) (sameAd_cons (bX0_ad _ _ _ _) (sameAd_cons (bX5_ad _ _ _ _) (sameAd_cons (bX3_ad _ _ _ _) sameAd_nil))))) ⟨by rw [f_roomsR, (by simp only [okRooms, if_pos c_2] : okRooms vp x1 = true)]; simp only [cnd, if_true, if_pos c_2, if_pos c_43, if_pos c_50] <;> rfl, rfl⟩
      · refine lv_aload_n hx hb dX6_rooms_53 rfl (lv_at hl 1 rfl) ?_
        refine kb_get (own := RX6) (C := RX6) (T := TX6) (N := 9) (v := .ref (rm 0)) hx hb hts hin6 hown hX hP 0 rfl rfl rfl 6 (by decide) rfl (by decide +kernel) rfl dX6_rooms_54 ?_
        refine lv_iload_n hx hb dX6_rooms_57 rfl (lv_at hl 0 rfl) ?_
        refine kcV_p hx hb hml hown hts hX hP (c_X3_sumOf l G rm (f_X3_measure vm vp vn vy) (f_X3_bestCode (f_X3_measure vm vp vn vy)) hl0) gX6_rooms_X3_sumOf 1 rfl rfl rfl hd_X3_sumOf ⟨Nat.le_of_ble_eq_true rfl, Nat.le_of_ble_eq_true rfl⟩ [4] rfl 4 rfl rfl rfl hl.1 rfl rfl (Nat.le_of_ble_eq_true rfl) dX6_rooms_58 ⟨Nat.zero_le _, Nat.zero_le _⟩ ?_
        refine lv_goto (tgt := 73) hx hb dX6_rooms_61 (by decide) ?_
        have hP : PP G [bX6 h0 (tx 0) (nw 0) (tr 0) (un 0) (kp 0) (wy 0) (rm 0) (pl 0) (dr 0), bX2 pl G vp, bX0 nw G vn, bX5 wy G (cnd (okRooms vp x1) (f_rm vm vp vn vy).2 vy), bX3 rm G (cnd (okRooms vp x1) (f_X3_measure vm vp vn vy) vm)] H := by
          have hok : okRooms vp x1 = true := by simp only [okRooms, if_pos c_2, if_pos c_43, if_neg c_50]
          rw [hok]
          exact hP
        exact kr_si hx hb hr hlocks dX6_rooms_73 hP hS (sameAd_cons rfl (sameAd_cons (bX2_ad _ _ _ _) (sameAd_cons (bX0_ad _ _ _ _) (sameAd_cons (bX5_ad _ _ _ _) (sameAd_cons (bX3_ad _ _ _ _) sameAd_nil))))) ⟨by rw [f_roomsR, (by simp only [okRooms, if_pos c_2] : okRooms vp x1 = true)]; simp only [cnd, if_true, if_pos c_2, if_pos c_43, if_neg c_50] <;> rfl, rfl⟩
    · refine lv_bipush (v := (-4)) hx hb dX6_rooms_46 (by decide) ?_
      have hP : PP G [bX6 h0 (tx 0) (nw 0) (tr 0) (un 0) (kp 0) (wy 0) (rm 0) (pl 0) (dr 0), bX2 pl G vp, bX0 nw G vn, bX5 wy G (cnd (okRooms vp x1) (f_rm vm vp vn vy).2 vy), bX3 rm G (cnd (okRooms vp x1) (f_X3_measure vm vp vn vy) vm)] H := by
        have hok : okRooms vp x1 = true := by simp only [okRooms, if_pos c_2, if_neg c_43]
        rw [hok]
        exact hP
      exact kr_si hx hb hr hlocks dX6_rooms_48 hP hS (sameAd_cons rfl (sameAd_cons (bX2_ad _ _ _ _) (sameAd_cons (bX0_ad _ _ _ _) (sameAd_cons (bX5_ad _ _ _ _) (sameAd_cons (bX3_ad _ _ _ _) sameAd_nil))))) ⟨by rw [f_roomsR, (by simp only [okRooms, if_pos c_2] : okRooms vp x1 = true)]; simp only [cnd, if_true, if_pos c_2, if_neg c_43] <;> rfl, rfl⟩
  · refine lv_aload_n hx hb dX6_rooms_5 rfl (lv_at hl 0 rfl) ?_
    refine lv_iload_n hx hb dX6_rooms_6 rfl (lv_at hl 1 rfl) ?_
    refine kcV_p hx hb hml hown hts hX hP (c_X6_isLodger l G h0 tx nw tr un kp wy rm pl dr x1 vp) gX6_rooms_X6_isLodger 1 rfl rfl rfl hd_X6_isLodger ⟨Nat.le_of_ble_eq_true rfl, Nat.le_of_ble_eq_true rfl⟩ [0, 1] rfl 0 rfl rfl rfl hl.1 rfl rfl (Nat.le_of_ble_eq_true rfl) dX6_rooms_7 ⟨Nat.zero_le _, Nat.zero_le _⟩ ?_
    refine lv_if_ne (tgt := 15) hx hb dX6_rooms_10 (by decide) (fun c_10r => ?_) (fun c_10r => ?_)
    · have c_10 := b2i_tP c_10r
      refine lv_aload_n hx hb dX6_rooms_15 rfl (lv_at hl 0 rfl) ?_
      refine kb_get (own := RX6) (C := RX6) (T := TX6) (N := 9) (v := .ref (rm 0)) hx hb hts hin6 hown hX hP 0 rfl rfl rfl 6 (by decide) rfl (by decide +kernel) rfl dX6_rooms_16 ?_
      refine lv_aload_n hx hb dX6_rooms_19 rfl (lv_at hl 0 rfl) ?_
      refine kb_get (own := RX6) (C := RX6) (T := TX6) (N := 9) (v := .ref (pl 0)) hx hb hts hin6 hown hX hP 0 rfl rfl rfl 7 (by decide) rfl (by decide +kernel) rfl dX6_rooms_20 ?_
      refine lv_aload_n hx hb dX6_rooms_23 rfl (lv_at hl 0 rfl) ?_
      refine kb_get (own := RX6) (C := RX6) (T := TX6) (N := 9) (v := .ref (nw 0)) hx hb hts hin6 hown hX hP 0 rfl rfl rfl 1 (by decide) rfl (by decide +kernel) rfl dX6_rooms_24 ?_
      refine lv_aload_n hx hb dX6_rooms_27 rfl (lv_at hl 0 rfl) ?_
      refine kb_get (own := RX6) (C := RX6) (T := TX6) (N := 9) (v := .ref (wy 0)) hx hb hts hin6 hown hX hP 0 rfl rfl rfl 5 (by decide) rfl (by decide +kernel) rfl dX6_rooms_28 ?_
      refine kcV_s hx hb hml hown hts hX hP hD hS (c_X3_measure l G rm vm pl vp nw vn wy vy) gX6_rooms_X3_measure 3 rfl rfl rfl hd_X3_measure ⟨Nat.le_of_ble_eq_true rfl, Nat.le_of_ble_eq_true rfl⟩ [4, 1, 2, 3] (by decide) rfl 4 rfl rfl rfl hl.1 rfl rfl (Nat.le_of_ble_eq_true rfl) dX6_rooms_31 ⟨Nat.zero_le _, Nat.zero_le _⟩ (fun r_ bc_ hq_2 H locs hP hD hS => ?_)
      obtain ⟨rfl, rfl⟩ := hq_2
      have hP : PP G [bX6 h0 (tx 0) (nw 0) (tr 0) (un 0) (kp 0) (wy 0) (rm 0) (pl 0) (dr 0), bX2 pl G vp, bX0 nw G vn, bX5 wy G ((f_rm vm vp vn vy).2), bX3 rm G (f_X3_measure vm vp vn vy)] H := hP
      have hD : DD (AA (List.flatten [bX6 h0 (tx 0) (nw 0) (tr 0) (un 0) (kp 0) (wy 0) (rm 0) (pl 0) (dr 0), bX2 pl G vp, bX0 nw G vn, bX5 wy G vy, bX3 rm G vm])) [bX6 h0 (tx 0) (nw 0) (tr 0) (un 0) (kp 0) (wy 0) (rm 0) (pl 0) (dr 0), bX2 pl G vp, bX0 nw G vn, bX5 wy G ((f_rm vm vp vn vy).2), bX3 rm G (f_X3_measure vm vp vn vy)] := D_re hD (adc rfl (adc (bX2_ad _ _ _ _) (adc (bX0_ad _ _ _ _) (adc (bX5_ad _ _ _ _) (adc (bX3_ad _ _ _ _) adn)))))
      refine lv_aload_n hx hb dX6_rooms_34 rfl (lv_at hl 0 rfl) ?_
      refine kb_get (own := RX6) (C := RX6) (T := TX6) (N := 9) (v := .ref (rm 0)) hx hb hts hin6 hown hX hP 0 rfl rfl rfl 6 (by decide) rfl (by decide +kernel) rfl dX6_rooms_35 ?_
      refine kcV_p hx hb hml hown hts hX hP (c_X3_bestCode l G rm (f_X3_measure vm vp vn vy) hl0) gX6_rooms_X3_bestCode 0 rfl rfl rfl hd_X3_bestCode ⟨Nat.le_of_ble_eq_true rfl, Nat.le_of_ble_eq_true rfl⟩ [4] rfl 4 rfl rfl rfl hl.1 rfl rfl (Nat.le_of_ble_eq_true rfl) dX6_rooms_38 ⟨Nat.zero_le _, Nat.zero_le _⟩ ?_
      refine lv_istore_n (lv' := [(2, .int (f_X3_bestCode (f_X3_measure vm vp vn vy))), (0, .ref h0), (1, .int x1)]) hx hb dX6_rooms_41 rfl hl (by decide) rfl (fun ls hl => ?_)
      refine lv_iload_n hx hb dX6_rooms_42 rfl (lv_at hl 0 rfl) ?_
      refine lv_if_ge (tgt := 49) hx hb dX6_rooms_43 (by decide) (fun c_43 => ?_) (fun c_43 => ?_)
      · refine lv_iload_n hx hb dX6_rooms_49 rfl (lv_at hl 2 rfl) ?_
        refine lv_if_ge (tgt := 64) hx hb dX6_rooms_50 (by decide) (fun c_50 => ?_) (fun c_50 => ?_)
        · refine lv_aload_n hx hb dX6_rooms_64 rfl (lv_at hl 1 rfl) ?_
          refine kb_get (own := RX6) (C := RX6) (T := TX6) (N := 9) (v := .ref (rm 0)) hx hb hts hin6 hown hX hP 0 rfl rfl rfl 6 (by decide) rfl (by decide +kernel) rfl dX6_rooms_65 ?_
          refine lv_iload_n hx hb dX6_rooms_68 rfl (lv_at hl 0 rfl) ?_
          refine lv_iload_n hx hb dX6_rooms_69 rfl (lv_at hl 2 rfl) ?_
          refine kcV_p hx hb hml hown hts hX hP (c_X3_roomIn l G rm (f_X3_measure vm vp vn vy) (f_X3_bestCode (f_X3_measure vm vp vn vy)) x1 hl0 (Int32.not_lt.mpr c_50)) gX6_rooms_X3_roomIn 2 rfl rfl rfl hd_X3_roomIn ⟨Nat.le_of_ble_eq_true rfl, Nat.le_of_ble_eq_true rfl⟩ [4] rfl 4 rfl rfl rfl hl.1 rfl rfl (Nat.le_of_ble_eq_true rfl) dX6_rooms_70 ⟨Nat.zero_le _, Nat.zero_le _⟩ ?_
          have hP : PP G [bX6 h0 (tx 0) (nw 0) (tr 0) (un 0) (kp 0) (wy 0) (rm 0) (pl 0) (dr 0), bX2 pl G vp, bX0 nw G vn, bX5 wy G (cnd (okRooms vp x1) (f_rm vm vp vn vy).2 vy), bX3 rm G (cnd (okRooms vp x1) (f_X3_measure vm vp vn vy) vm)] H := by
            have hok : okRooms vp x1 = true := by simp only [okRooms, if_neg c_2, if_pos c_10, if_pos c_43, if_pos c_50]
            rw [hok]
            exact hP
          exact kr_si hx hb hr hlocks dX6_rooms_73 hP hS (sameAd_cons rfl (sameAd_cons (bX2_ad _ _ _ _) (sameAd_cons (bX0_ad _ _ _ _) (sameAd_cons (bX5_ad _ _ _ _) (sameAd_cons (bX3_ad _ _ _ _) sameAd_nil))))) ⟨by rw [f_roomsR, (by simp only [okRooms, if_neg c_2, if_pos c_10] : okRooms vp x1 = true)]; simp only [cnd, if_true, if_neg c_2, if_pos c_10, if_pos c_43, if_pos c_50] <;> rfl, rfl⟩
        · refine lv_aload_n hx hb dX6_rooms_53 rfl (lv_at hl 1 rfl) ?_
          refine kb_get (own := RX6) (C := RX6) (T := TX6) (N := 9) (v := .ref (rm 0)) hx hb hts hin6 hown hX hP 0 rfl rfl rfl 6 (by decide) rfl (by decide +kernel) rfl dX6_rooms_54 ?_
          refine lv_iload_n hx hb dX6_rooms_57 rfl (lv_at hl 0 rfl) ?_
          refine kcV_p hx hb hml hown hts hX hP (c_X3_sumOf l G rm (f_X3_measure vm vp vn vy) (f_X3_bestCode (f_X3_measure vm vp vn vy)) hl0) gX6_rooms_X3_sumOf 1 rfl rfl rfl hd_X3_sumOf ⟨Nat.le_of_ble_eq_true rfl, Nat.le_of_ble_eq_true rfl⟩ [4] rfl 4 rfl rfl rfl hl.1 rfl rfl (Nat.le_of_ble_eq_true rfl) dX6_rooms_58 ⟨Nat.zero_le _, Nat.zero_le _⟩ ?_
          refine lv_goto (tgt := 73) hx hb dX6_rooms_61 (by decide) ?_
          have hP : PP G [bX6 h0 (tx 0) (nw 0) (tr 0) (un 0) (kp 0) (wy 0) (rm 0) (pl 0) (dr 0), bX2 pl G vp, bX0 nw G vn, bX5 wy G (cnd (okRooms vp x1) (f_rm vm vp vn vy).2 vy), bX3 rm G (cnd (okRooms vp x1) (f_X3_measure vm vp vn vy) vm)] H := by
            have hok : okRooms vp x1 = true := by simp only [okRooms, if_neg c_2, if_pos c_10, if_pos c_43, if_neg c_50]
            rw [hok]
            exact hP
          exact kr_si hx hb hr hlocks dX6_rooms_73 hP hS (sameAd_cons rfl (sameAd_cons (bX2_ad _ _ _ _) (sameAd_cons (bX0_ad _ _ _ _) (sameAd_cons (bX5_ad _ _ _ _) (sameAd_cons (bX3_ad _ _ _ _) sameAd_nil))))) ⟨by rw [f_roomsR, (by simp only [okRooms, if_neg c_2, if_pos c_10] : okRooms vp x1 = true)]; simp only [cnd, if_true, if_neg c_2, if_pos c_10, if_pos c_43, if_neg c_50] <;> rfl, rfl⟩
      · refine lv_bipush (v := (-4)) hx hb dX6_rooms_46 (by decide) ?_
        have hP : PP G [bX6 h0 (tx 0) (nw 0) (tr 0) (un 0) (kp 0) (wy 0) (rm 0) (pl 0) (dr 0), bX2 pl G vp, bX0 nw G vn, bX5 wy G (cnd (okRooms vp x1) (f_rm vm vp vn vy).2 vy), bX3 rm G (cnd (okRooms vp x1) (f_X3_measure vm vp vn vy) vm)] H := by
          have hok : okRooms vp x1 = true := by simp only [okRooms, if_neg c_2, if_pos c_10, if_neg c_43]
          rw [hok]
          exact hP
        exact kr_si hx hb hr hlocks dX6_rooms_48 hP hS (sameAd_cons rfl (sameAd_cons (bX2_ad _ _ _ _) (sameAd_cons (bX0_ad _ _ _ _) (sameAd_cons (bX5_ad _ _ _ _) (sameAd_cons (bX3_ad _ _ _ _) sameAd_nil))))) ⟨by rw [f_roomsR, (by simp only [okRooms, if_neg c_2, if_pos c_10] : okRooms vp x1 = true)]; simp only [cnd, if_true, if_neg c_2, if_pos c_10, if_neg c_43] <;> rfl, rfl⟩
    · have c_10 := b2i_fN c_10r
      refine lv_iconst (v := (-1)) hx hb dX6_rooms_13 (by decide) ?_
      have hP : PP G [bX6 h0 (tx 0) (nw 0) (tr 0) (un 0) (kp 0) (wy 0) (rm 0) (pl 0) (dr 0), bX2 pl G vp, bX0 nw G vn, bX5 wy G (cnd (okRooms vp x1) (f_rm vm vp vn vy).2 vy), bX3 rm G (cnd (okRooms vp x1) (f_X3_measure vm vp vn vy) vm)] H := by
        have hok : okRooms vp x1 = false := by simp only [okRooms, if_neg c_2, if_neg c_10]
        rw [hok]
        exact hP
      exact kr_si hx hb hr hlocks dX6_rooms_14 hP hS (sameAd_cons rfl (sameAd_cons (bX2_ad _ _ _ _) (sameAd_cons (bX0_ad _ _ _ _) (sameAd_cons (bX5_ad _ _ _ _) (sameAd_cons (bX3_ad _ _ _ _) sameAd_nil))))) ⟨by rw [f_roomsR, (by simp only [okRooms, if_neg c_2, if_neg c_10] : okRooms vp x1 = false)]; rfl, rfl⟩

def rm_X6_behind : Room := { frames := 4, cells := 0, slots := 0, locals := 94 }
theorem hd_X6_behind : yX6_behind.cls = RX6 ∧ yX6_behind.cls ≠ "java/lang/invoke/MethodHandle" ∧ yX6_behind.cls ≠ "java/lang/invoke/VarHandle" ∧ (parseMethodDescriptor yX6_behind.desc).map (fun d => d.parameters.length) = some 3 := by decide +kernel
set_option maxRecDepth 100000 in
set_option maxHeartbeats 4000000 in
theorem c_X6_behind (l : Launch) (G : GD) (h0 : Nat) (tx nw tr un kp wy rm pl dr : Nat → Nat) (x1 : Int32) (x2 : Int32) (x3 : Int32) (vp : OV) (vn : OV) (vr : OV)  : MetS l yX6_behind wsX6_behind rm_X6_behind G [bX6 h0 (tx 0) (nw 0) (tr 0) (un 0) (kp 0) (wy 0) (rm 0) (pl 0) (dr 0), bX2 pl G vp, bX0 nw G vn, bX0 tr G vr] [.ref h0, .int x1, .int x2, .int x3] (fun r bc => r = some (.int (f_behindR vp vn vr x1 x2 x3)) ∧ bc = [bX6 h0 (tx 0) (nw 0) (tr 0) (un 0) (kp 0) (wy 0) (rm 0) (pl 0) (dr 0), bX2 pl G vp, bX0 nw G vn, bX0 tr G (cnd (okBeh vp x1 x2 x3) (f_beh vp vn vr x1 x3) vr)]) := by
  refine kb_beginS (cc := cX6_behind) (maxL := 4) (ret := (some .int)) (by decide) rfl (Nat.le_of_ble_eq_true rfl) ?_
  intro p e s m below meth c hx hb hr hml hown hts hlocks hX H locs hP hD hS ls hl
  have hown : s.vm.findClass RX6 = some m.cls := hown
  have hl : lv_has ls 4 [(0, .ref h0), (1, .int x1), (2, .int x2), (3, .int x3)] := hl
  have hin6 : ∀ w ∈ u_ws RX6 TX6 9, w ∈ wsX6_behind := (fun _ h => List.mem_cons_of_mem _ (List.mem_append_left _ (List.mem_append_left _ (List.mem_append_right _ (h)))))
  refine lv_iload_n hx hb dX6_behind_0 rfl (lv_at hl 1 rfl) ?_
  refine lv_iconst (v := 0) hx hb dX6_behind_1 (by decide) ?_
  refine lv_bipush (v := 60) hx hb dX6_behind_2 (by decide) ?_
  refine kcS_p hx hb hml hown hts hX hP (c_X6_within l G x1 0 60) gX6_behind_X6_within 3 rfl rfl rfl hdS_X6_within ⟨Nat.le_of_ble_eq_true rfl, Nat.le_of_ble_eq_true rfl⟩ (fun q hq => absurd hq List.not_mem_nil) hl.1 rfl rfl (Nat.le_of_ble_eq_true rfl) dX6_behind_4 ⟨Nat.zero_le _, Nat.zero_le _⟩ ?_
  refine lv_if_eq (tgt := 26) hx hb dX6_behind_7 (by decide) (fun c_7r => ?_) (fun c_7r => ?_)
  · have c_7 := b2i_fN c_7r
    refine lv_iconst (v := (-1)) hx hb dX6_behind_26 (by decide) ?_
    have hP : PP G [bX6 h0 (tx 0) (nw 0) (tr 0) (un 0) (kp 0) (wy 0) (rm 0) (pl 0) (dr 0), bX2 pl G vp, bX0 nw G vn, bX0 tr G (cnd (okBeh vp x1 x2 x3) (f_beh vp vn vr x1 x3) vr)] H := by
      have hok : okBeh vp x1 x2 x3 = false := by simp only [okBeh, if_neg c_7]
      rw [hok]
      exact hP
    exact kr_si hx hb hr hlocks dX6_behind_27 hP hS (sameAd_cons rfl (sameAd_cons (bX2_ad _ _ _ _) (sameAd_cons (bX0_ad _ _ _ _) (sameAd_cons (bX0_ad _ _ _ _) sameAd_nil)))) ⟨by rw [f_behindR, (by simp only [okBeh, if_neg c_7] : okBeh vp x1 x2 x3 = false)]; rfl, rfl⟩
  · have c_7 := b2i_tP c_7r
    refine lv_aload_n hx hb dX6_behind_10 rfl (lv_at hl 0 rfl) ?_
    refine lv_iload_n hx hb dX6_behind_11 rfl (lv_at hl 2 rfl) ?_
    refine kcV_p hx hb hml hown hts hX hP (c_X6_isDoor l G h0 tx nw tr un kp wy rm pl dr x2 vp) gX6_behind_X6_isDoor 1 rfl rfl rfl hd_X6_isDoor ⟨Nat.le_of_ble_eq_true rfl, Nat.le_of_ble_eq_true rfl⟩ [0, 1] rfl 0 rfl rfl rfl hl.1 rfl rfl (Nat.le_of_ble_eq_true rfl) dX6_behind_12 ⟨Nat.zero_le _, Nat.zero_le _⟩ ?_
    refine lv_if_eq (tgt := 26) hx hb dX6_behind_15 (by decide) (fun c_15r => ?_) (fun c_15r => ?_)
    · have c_15 := b2i_fN c_15r
      refine lv_iconst (v := (-1)) hx hb dX6_behind_26 (by decide) ?_
      have hP : PP G [bX6 h0 (tx 0) (nw 0) (tr 0) (un 0) (kp 0) (wy 0) (rm 0) (pl 0) (dr 0), bX2 pl G vp, bX0 nw G vn, bX0 tr G (cnd (okBeh vp x1 x2 x3) (f_beh vp vn vr x1 x3) vr)] H := by
        have hok : okBeh vp x1 x2 x3 = false := by simp only [okBeh, if_pos c_7, if_neg c_15]
        rw [hok]
        exact hP
      exact kr_si hx hb hr hlocks dX6_behind_27 hP hS (sameAd_cons rfl (sameAd_cons (bX2_ad _ _ _ _) (sameAd_cons (bX0_ad _ _ _ _) (sameAd_cons (bX0_ad _ _ _ _) sameAd_nil)))) ⟨by rw [f_behindR, (by simp only [okBeh, if_pos c_7, if_neg c_15] : okBeh vp x1 x2 x3 = false)]; rfl, rfl⟩
    · have c_15 := b2i_tP c_15r
      refine lv_aload_n hx hb dX6_behind_18 rfl (lv_at hl 0 rfl) ?_
      refine lv_iload_n hx hb dX6_behind_19 rfl (lv_at hl 3 rfl) ?_
      refine kcV_p hx hb hml hown hts hX hP (c_X6_isLodger l G h0 tx nw tr un kp wy rm pl dr x3 vp) gX6_behind_X6_isLodger 1 rfl rfl rfl hd_X6_isLodger ⟨Nat.le_of_ble_eq_true rfl, Nat.le_of_ble_eq_true rfl⟩ [0, 1] rfl 0 rfl rfl rfl hl.1 rfl rfl (Nat.le_of_ble_eq_true rfl) dX6_behind_20 ⟨Nat.zero_le _, Nat.zero_le _⟩ ?_
      refine lv_if_ne (tgt := 28) hx hb dX6_behind_23 (by decide) (fun c_23r => ?_) (fun c_23r => ?_)
      · have c_23 := b2i_tP c_23r
        refine lv_aload_n hx hb dX6_behind_28 rfl (lv_at hl 0 rfl) ?_
        refine kb_get (own := RX6) (C := RX6) (T := TX6) (N := 9) (v := .ref (tr 0)) hx hb hts hin6 hown hX hP 0 rfl rfl rfl 2 (by decide) rfl (by decide +kernel) rfl dX6_behind_29 ?_
        refine lv_aload_n hx hb dX6_behind_32 rfl (lv_at hl 0 rfl) ?_
        refine kb_get (own := RX6) (C := RX6) (T := TX6) (N := 9) (v := .ref (nw 0)) hx hb hts hin6 hown hX hP 0 rfl rfl rfl 1 (by decide) rfl (by decide +kernel) rfl dX6_behind_33 ?_
        refine kcV_s hx hb hml hown hts hX hP hD hS (c_X0_become l G tr vr nw vn) gX6_behind_X0_become 1 rfl rfl rfl hd_X0_become ⟨Nat.le_of_ble_eq_true rfl, Nat.le_of_ble_eq_true rfl⟩ [3, 2] (by decide) rfl 3 rfl rfl rfl hl.1 rfl rfl (Nat.le_of_ble_eq_true rfl) dX6_behind_36 ⟨Nat.zero_le _, Nat.zero_le _⟩ (fun r_ bc_ hq_1 H locs hP hD hS => ?_)
        obtain ⟨rfl, rfl⟩ := hq_1
        have hP : PP G [bX6 h0 (tx 0) (nw 0) (tr 0) (un 0) (kp 0) (wy 0) (rm 0) (pl 0) (dr 0), bX2 pl G vp, bX0 nw G vn, bX0 tr G (f_X0_become vr vn)] H := hP
        have hD : DD (AA (List.flatten [bX6 h0 (tx 0) (nw 0) (tr 0) (un 0) (kp 0) (wy 0) (rm 0) (pl 0) (dr 0), bX2 pl G vp, bX0 nw G vn, bX0 tr G vr])) [bX6 h0 (tx 0) (nw 0) (tr 0) (un 0) (kp 0) (wy 0) (rm 0) (pl 0) (dr 0), bX2 pl G vp, bX0 nw G vn, bX0 tr G (f_X0_become vr vn)] := D_re hD (adc rfl (adc (bX2_ad _ _ _ _) (adc (bX0_ad _ _ _ _) (adc (bX0_ad _ _ _ _) adn))))
        refine lv_aload_n hx hb dX6_behind_39 rfl (lv_at hl 0 rfl) ?_
        refine kb_get (own := RX6) (C := RX6) (T := TX6) (N := 9) (v := .ref (tr 0)) hx hb hts hin6 hown hX hP 0 rfl rfl rfl 2 (by decide) rfl (by decide +kernel) rfl dX6_behind_40 ?_
        refine lv_aload_n hx hb dX6_behind_43 rfl (lv_at hl 0 rfl) ?_
        refine kb_get (own := RX6) (C := RX6) (T := TX6) (N := 9) (v := .ref (pl 0)) hx hb hts hin6 hown hX hP 0 rfl rfl rfl 7 (by decide) rfl (by decide +kernel) rfl dX6_behind_44 ?_
        refine lv_iload_n hx hb dX6_behind_47 rfl (lv_at hl 1 rfl) ?_
        refine lv_iload_n hx hb dX6_behind_48 rfl (lv_at hl 3 rfl) ?_
        refine kcV_s hx hb hml hown hts hX hP hD hS (c_X0_sleepAgainstOne l G tr (f_X0_become vr vn) pl vp x1 x3) gX6_behind_X0_sleepAgainstOne 3 rfl rfl rfl hd_X0_sleepAgainstOne ⟨Nat.le_of_ble_eq_true rfl, Nat.le_of_ble_eq_true rfl⟩ [3, 1] (by decide) rfl 3 rfl rfl rfl hl.1 rfl rfl (Nat.le_of_ble_eq_true rfl) dX6_behind_49 ⟨Nat.zero_le _, Nat.zero_le _⟩ (fun r_ bc_ hq_2 H locs hP hD hS => ?_)
        obtain ⟨rfl, rfl⟩ := hq_2
        have hP : PP G [bX6 h0 (tx 0) (nw 0) (tr 0) (un 0) (kp 0) (wy 0) (rm 0) (pl 0) (dr 0), bX2 pl G vp, bX0 nw G vn, bX0 tr G (f_X0_sleepAgainstOne (f_X0_become vr vn) vp x1 x3)] H := hP
        have hD : DD (AA (List.flatten [bX6 h0 (tx 0) (nw 0) (tr 0) (un 0) (kp 0) (wy 0) (rm 0) (pl 0) (dr 0), bX2 pl G vp, bX0 nw G vn, bX0 tr G vr])) [bX6 h0 (tx 0) (nw 0) (tr 0) (un 0) (kp 0) (wy 0) (rm 0) (pl 0) (dr 0), bX2 pl G vp, bX0 nw G vn, bX0 tr G (f_X0_sleepAgainstOne (f_X0_become vr vn) vp x1 x3)] := D_re hD (adc rfl (adc (bX2_ad _ _ _ _) (adc (bX0_ad _ _ _ _) (adc (bX0_ad _ _ _ _) adn))))
        refine lv_aload_n hx hb dX6_behind_52 rfl (lv_at hl 0 rfl) ?_
        refine kb_get (own := RX6) (C := RX6) (T := TX6) (N := 9) (v := .ref (tr 0)) hx hb hts hin6 hown hX hP 0 rfl rfl rfl 2 (by decide) rfl (by decide +kernel) rfl dX6_behind_53 ?_
        refine lv_iload_n hx hb dX6_behind_56 rfl (lv_at hl 2 rfl) ?_
        refine lv_iload_n hx hb dX6_behind_57 rfl (lv_at hl 3 rfl) ?_
        refine kcV_p hx hb hml hown hts hX hP (c_X0_grudgeOf l G tr (f_X0_sleepAgainstOne (f_X0_become vr vn) vp x1 x3) x2 x3) gX6_behind_X0_grudgeOf 2 rfl rfl rfl hd_X0_grudgeOf ⟨Nat.le_of_ble_eq_true rfl, Nat.le_of_ble_eq_true rfl⟩ [3] rfl 3 rfl rfl rfl hl.1 rfl rfl (Nat.le_of_ble_eq_true rfl) dX6_behind_58 ⟨Nat.zero_le _, Nat.zero_le _⟩ ?_
        have hP : PP G [bX6 h0 (tx 0) (nw 0) (tr 0) (un 0) (kp 0) (wy 0) (rm 0) (pl 0) (dr 0), bX2 pl G vp, bX0 nw G vn, bX0 tr G (cnd (okBeh vp x1 x2 x3) (f_beh vp vn vr x1 x3) vr)] H := by
          have hok : okBeh vp x1 x2 x3 = true := by simp only [okBeh, if_pos c_7, if_pos c_15, if_pos c_23]
          rw [hok]
          exact hP
        exact kr_si hx hb hr hlocks dX6_behind_61 hP hS (sameAd_cons rfl (sameAd_cons (bX2_ad _ _ _ _) (sameAd_cons (bX0_ad _ _ _ _) (sameAd_cons (bX0_ad _ _ _ _) sameAd_nil)))) ⟨by rw [f_behindR, (by simp only [okBeh, if_pos c_7, if_pos c_15, if_pos c_23] : okBeh vp x1 x2 x3 = true)]; rfl, rfl⟩
      · have c_23 := b2i_fN c_23r
        refine lv_iconst (v := (-1)) hx hb dX6_behind_26 (by decide) ?_
        have hP : PP G [bX6 h0 (tx 0) (nw 0) (tr 0) (un 0) (kp 0) (wy 0) (rm 0) (pl 0) (dr 0), bX2 pl G vp, bX0 nw G vn, bX0 tr G (cnd (okBeh vp x1 x2 x3) (f_beh vp vn vr x1 x3) vr)] H := by
          have hok : okBeh vp x1 x2 x3 = false := by simp only [okBeh, if_pos c_7, if_pos c_15, if_neg c_23]
          rw [hok]
          exact hP
        exact kr_si hx hb hr hlocks dX6_behind_27 hP hS (sameAd_cons rfl (sameAd_cons (bX2_ad _ _ _ _) (sameAd_cons (bX0_ad _ _ _ _) (sameAd_cons (bX0_ad _ _ _ _) sameAd_nil)))) ⟨by rw [f_behindR, (by simp only [okBeh, if_pos c_7, if_pos c_15, if_neg c_23] : okBeh vp x1 x2 x3 = false)]; rfl, rfl⟩

def rm_X6_worst : Room := { frames := 4, cells := 0, slots := 0, locals := 94 }
theorem hd_X6_worst : yX6_worst.cls = RX6 ∧ yX6_worst.cls ≠ "java/lang/invoke/MethodHandle" ∧ yX6_worst.cls ≠ "java/lang/invoke/VarHandle" ∧ (parseMethodDescriptor yX6_worst.desc).map (fun d => d.parameters.length) = some 2 := by decide +kernel
set_option maxRecDepth 100000 in
set_option maxHeartbeats 4000000 in
theorem c_X6_worst (l : Launch) (G : GD) (h0 : Nat) (tx nw tr un kp wy rm pl dr : Nat → Nat) (x1 : Int32) (x2 : Int32) (vp : OV) (vn : OV) (vr : OV)  : MetS l yX6_worst wsX6_worst rm_X6_worst G [bX6 h0 (tx 0) (nw 0) (tr 0) (un 0) (kp 0) (wy 0) (rm 0) (pl 0) (dr 0), bX2 pl G vp, bX0 nw G vn, bX0 tr G vr] [.ref h0, .int x1, .int x2] (fun r bc => r = some (.int (f_worstR vp vn vr x1 x2)) ∧ bc = [bX6 h0 (tx 0) (nw 0) (tr 0) (un 0) (kp 0) (wy 0) (rm 0) (pl 0) (dr 0), bX2 pl G vp, bX0 nw G vn, bX0 tr G (cnd (okWorst vp x1 x2) (f_beh vp vn vr x1 x2) vr)]) := by
  refine kb_beginS (cc := cX6_worst) (maxL := 5) (ret := (some .int)) (by decide) rfl (Nat.le_of_ble_eq_true rfl) ?_
  intro p e s m below meth c hx hb hr hml hown hts hlocks hX H locs hP hD hS ls hl
  have hown : s.vm.findClass RX6 = some m.cls := hown
  have hl : lv_has ls 5 [(0, .ref h0), (1, .int x1), (2, .int x2)] := hl
  have hin2 : ∀ w ∈ u_ws RX2 TX2 15, w ∈ wsX6_worst := (fun _ h => List.mem_cons_of_mem _ (List.mem_append_left _ (List.mem_append_right _ (h))))
  have hin6 : ∀ w ∈ u_ws RX6 TX6 9, w ∈ wsX6_worst := (fun _ h => List.mem_cons_of_mem _ (List.mem_append_left _ (List.mem_append_left _ (List.mem_append_right _ (h)))))
  refine lv_iload_n hx hb dX6_worst_0 rfl (lv_at hl 1 rfl) ?_
  refine lv_iconst (v := 0) hx hb dX6_worst_1 (by decide) ?_
  refine lv_bipush (v := 60) hx hb dX6_worst_2 (by decide) ?_
  refine kcS_p hx hb hml hown hts hX hP (c_X6_within l G x1 0 60) gX6_worst_X6_within 3 rfl rfl rfl hdS_X6_within ⟨Nat.le_of_ble_eq_true rfl, Nat.le_of_ble_eq_true rfl⟩ (fun q hq => absurd hq List.not_mem_nil) hl.1 rfl rfl (Nat.le_of_ble_eq_true rfl) dX6_worst_4 ⟨Nat.zero_le _, Nat.zero_le _⟩ ?_
  refine lv_if_eq (tgt := 18) hx hb dX6_worst_7 (by decide) (fun c_7r => ?_) (fun c_7r => ?_)
  · have c_7 := b2i_fN c_7r
    refine lv_iconst (v := (-1)) hx hb dX6_worst_18 (by decide) ?_
    have hP : PP G [bX6 h0 (tx 0) (nw 0) (tr 0) (un 0) (kp 0) (wy 0) (rm 0) (pl 0) (dr 0), bX2 pl G vp, bX0 nw G vn, bX0 tr G (cnd (okWorst vp x1 x2) (f_beh vp vn vr x1 x2) vr)] H := by
      have hok : okWorst vp x1 x2 = false := by simp only [okWorst, if_neg c_7]
      rw [hok]
      exact hP
    exact kr_si hx hb hr hlocks dX6_worst_19 hP hS (sameAd_cons rfl (sameAd_cons (bX2_ad _ _ _ _) (sameAd_cons (bX0_ad _ _ _ _) (sameAd_cons (bX0_ad _ _ _ _) sameAd_nil)))) ⟨by rw [f_worstR, (by simp only [okWorst, if_neg c_7] : okWorst vp x1 x2 = false)]; rfl, rfl⟩
  · have c_7 := b2i_tP c_7r
    refine lv_aload_n hx hb dX6_worst_10 rfl (lv_at hl 0 rfl) ?_
    refine lv_iload_n hx hb dX6_worst_11 rfl (lv_at hl 2 rfl) ?_
    refine kcV_p hx hb hml hown hts hX hP (c_X6_isLodger l G h0 tx nw tr un kp wy rm pl dr x2 vp) gX6_worst_X6_isLodger 1 rfl rfl rfl hd_X6_isLodger ⟨Nat.le_of_ble_eq_true rfl, Nat.le_of_ble_eq_true rfl⟩ [0, 1] rfl 0 rfl rfl rfl hl.1 rfl rfl (Nat.le_of_ble_eq_true rfl) dX6_worst_12 ⟨Nat.zero_le _, Nat.zero_le _⟩ ?_
    refine lv_if_ne (tgt := 20) hx hb dX6_worst_15 (by decide) (fun c_15r => ?_) (fun c_15r => ?_)
    · have c_15 := b2i_tP c_15r
      refine lv_aload_n hx hb dX6_worst_20 rfl (lv_at hl 0 rfl) ?_
      refine kb_get (own := RX6) (C := RX6) (T := TX6) (N := 9) (v := .ref (tr 0)) hx hb hts hin6 hown hX hP 0 rfl rfl rfl 2 (by decide) rfl (by decide +kernel) rfl dX6_worst_21 ?_
      refine lv_aload_n hx hb dX6_worst_24 rfl (lv_at hl 0 rfl) ?_
      refine kb_get (own := RX6) (C := RX6) (T := TX6) (N := 9) (v := .ref (nw 0)) hx hb hts hin6 hown hX hP 0 rfl rfl rfl 1 (by decide) rfl (by decide +kernel) rfl dX6_worst_25 ?_
      refine kcV_s hx hb hml hown hts hX hP hD hS (c_X0_become l G tr vr nw vn) gX6_worst_X0_become 1 rfl rfl rfl hd_X0_become ⟨Nat.le_of_ble_eq_true rfl, Nat.le_of_ble_eq_true rfl⟩ [3, 2] (by decide) rfl 3 rfl rfl rfl hl.1 rfl rfl (Nat.le_of_ble_eq_true rfl) dX6_worst_28 ⟨Nat.zero_le _, Nat.zero_le _⟩ (fun r_ bc_ hq_1 H locs hP hD hS => ?_)
      obtain ⟨rfl, rfl⟩ := hq_1
      have hP : PP G [bX6 h0 (tx 0) (nw 0) (tr 0) (un 0) (kp 0) (wy 0) (rm 0) (pl 0) (dr 0), bX2 pl G vp, bX0 nw G vn, bX0 tr G (f_X0_become vr vn)] H := hP
      have hD : DD (AA (List.flatten [bX6 h0 (tx 0) (nw 0) (tr 0) (un 0) (kp 0) (wy 0) (rm 0) (pl 0) (dr 0), bX2 pl G vp, bX0 nw G vn, bX0 tr G vr])) [bX6 h0 (tx 0) (nw 0) (tr 0) (un 0) (kp 0) (wy 0) (rm 0) (pl 0) (dr 0), bX2 pl G vp, bX0 nw G vn, bX0 tr G (f_X0_become vr vn)] := D_re hD (adc rfl (adc (bX2_ad _ _ _ _) (adc (bX0_ad _ _ _ _) (adc (bX0_ad _ _ _ _) adn))))
      refine lv_aload_n hx hb dX6_worst_31 rfl (lv_at hl 0 rfl) ?_
      refine kb_get (own := RX6) (C := RX6) (T := TX6) (N := 9) (v := .ref (tr 0)) hx hb hts hin6 hown hX hP 0 rfl rfl rfl 2 (by decide) rfl (by decide +kernel) rfl dX6_worst_32 ?_
      refine lv_aload_n hx hb dX6_worst_35 rfl (lv_at hl 0 rfl) ?_
      refine kb_get (own := RX6) (C := RX6) (T := TX6) (N := 9) (v := .ref (pl 0)) hx hb hts hin6 hown hX hP 0 rfl rfl rfl 7 (by decide) rfl (by decide +kernel) rfl dX6_worst_36 ?_
      refine lv_iload_n hx hb dX6_worst_39 rfl (lv_at hl 1 rfl) ?_
      refine lv_iload_n hx hb dX6_worst_40 rfl (lv_at hl 2 rfl) ?_
      refine kcV_s hx hb hml hown hts hX hP hD hS (c_X0_sleepAgainstOne l G tr (f_X0_become vr vn) pl vp x1 x2) gX6_worst_X0_sleepAgainstOne 3 rfl rfl rfl hd_X0_sleepAgainstOne ⟨Nat.le_of_ble_eq_true rfl, Nat.le_of_ble_eq_true rfl⟩ [3, 1] (by decide) rfl 3 rfl rfl rfl hl.1 rfl rfl (Nat.le_of_ble_eq_true rfl) dX6_worst_41 ⟨Nat.zero_le _, Nat.zero_le _⟩ (fun r_ bc_ hq_2 H locs hP hD hS => ?_)
      obtain ⟨rfl, rfl⟩ := hq_2
      have hP : PP G [bX6 h0 (tx 0) (nw 0) (tr 0) (un 0) (kp 0) (wy 0) (rm 0) (pl 0) (dr 0), bX2 pl G vp, bX0 nw G vn, bX0 tr G (f_X0_sleepAgainstOne (f_X0_become vr vn) vp x1 x2)] H := hP
      have hD : DD (AA (List.flatten [bX6 h0 (tx 0) (nw 0) (tr 0) (un 0) (kp 0) (wy 0) (rm 0) (pl 0) (dr 0), bX2 pl G vp, bX0 nw G vn, bX0 tr G vr])) [bX6 h0 (tx 0) (nw 0) (tr 0) (un 0) (kp 0) (wy 0) (rm 0) (pl 0) (dr 0), bX2 pl G vp, bX0 nw G vn, bX0 tr G (f_X0_sleepAgainstOne (f_X0_become vr vn) vp x1 x2)] := D_re hD (adc rfl (adc (bX2_ad _ _ _ _) (adc (bX0_ad _ _ _ _) (adc (bX0_ad _ _ _ _) adn))))
      refine lv_iconst (v := 0) hx hb dX6_worst_44 (by decide) ?_
      refine lv_istore_n (lv' := [(3, .int 0), (0, .ref h0), (1, .int x1), (2, .int x2)]) hx hb dX6_worst_45 rfl hl (by decide) rfl (fun ls hl => ?_)
      refine lv_iconst (v := 1) hx hb dX6_worst_46 (by decide) ?_
      refine lv_istore (lv' := [(4, .int 1), (3, .int 0), (0, .ref h0), (1, .int x1), (2, .int x2)]) hx hb dX6_worst_47 hl (by decide) rfl (fun ls hl => ?_)
      refine lp_up (N := (vp.2 9).toNatClampNeg - 1) (P := fun k => ∀ (H : Heap) (locs : List Loc) (ls : Array Slot), PP G [bX6 h0 (tx 0) (nw 0) (tr 0) (un 0) (kp 0) (wy 0) (rm 0) (pl 0) (dr 0), bX2 pl G vp, bX0 nw G vn, bX0 tr G (f_X0_sleepAgainstOne (f_X0_become vr vn) vp x1 x2)] H → DD (AA (List.flatten [bX6 h0 (tx 0) (nw 0) (tr 0) (un 0) (kp 0) (wy 0) (rm 0) (pl 0) (dr 0), bX2 pl G vp, bX0 nw G vn, bX0 tr G vr])) [bX6 h0 (tx 0) (nw 0) (tr 0) (un 0) (kp 0) (wy 0) (rm 0) (pl 0) (dr 0), bX2 pl G vp, bX0 nw G vn, bX0 tr G (f_X0_sleepAgainstOne (f_X0_become vr vn) vp x1 x2)] → va_S (AA (List.flatten [bX6 h0 (tx 0) (nw 0) (tr 0) (un 0) (kp 0) (wy 0) (rm 0) (pl 0) (dr 0), bX2 pl G vp, bX0 nw G vn, bX0 tr G vr])) s.heap H locs → lv_has ls 5 [(4, .int (nI (k + 1))), (3, .int (itN (s_wst (f_beh vp vn vr x1 x2) x2) 0 k)), (0, .ref h0), (1, .int x1), (2, .int x2)] →  W p l e (headSpec wsX6_worst rm_X6_worst).room s m ([.ref h0, .int x1, .int x2] : List Value).toArray below meth c H locs 0 0 (MQ below (kQs G [bX6 h0 (tx 0) (nw 0) (tr 0) (un 0) (kp 0) (wy 0) (rm 0) (pl 0) (dr 0), bX2 pl G vp, bX0 nw G vn, bX0 tr G vr] (fun r bc => r = some (.int (f_worstR vp vn vr x1 x2)) ∧ bc = [bX6 h0 (tx 0) (nw 0) (tr 0) (un 0) (kp 0) (wy 0) (rm 0) (pl 0) (dr 0), bX2 pl G vp, bX0 nw G vn, bX0 tr G (cnd (okWorst vp x1 x2) (f_beh vp vn vr x1 x2) vr)])) ([.ref h0, .int x1, .int x2] : List Value).toArray s 0 0 (AA (List.flatten [bX6 h0 (tx 0) (nw 0) (tr 0) (un 0) (kp 0) (wy 0) (rm 0) (pl 0) (dr 0), bX2 pl G vp, bX0 nw G vn, bX0 tr G vr]))) (F0 m 49 ls [])) ?_ ?_ 0 (Nat.zero_le _)  _ _ _ hP hD hS (lv_sub hl [0, 1, 2, 3, 4] rfl) 
      · skip
        intro H locs ls hP hD hS hl 
        refine lv_iload hx hb dX6_worst_49 (lv_at hl 0 rfl) ?_
        refine lv_aload_n hx hb dX6_worst_51 rfl (lv_at hl 2 rfl) ?_
        refine kb_get (own := RX6) (C := RX6) (T := TX6) (N := 9) (v := .ref (pl 0)) hx hb hts hin6 hown hX hP 0 rfl rfl rfl 7 (by decide) rfl (by decide +kernel) rfl dX6_worst_52 ?_
        refine kb_getN (own := RX6) (C := RX2) (T := TX2) (N := 15) (v := .int (vp.2 9)) hx hb hts hin2 hown hX hP 1 rfl rfl rfl 9 (by decide) rfl (by decide +kernel) rfl dX6_worst_55 ?_
        refine lv_icmp_ge (tgt := 92) hx hb dX6_worst_58 (by decide) (fun c_58 => ?_) (fun c_58 => absurd (lpx_c1 _) c_58)
        refine lv_iload_n hx hb dX6_worst_92 rfl (lv_at hl 1 rfl) ?_
        have hP : PP G [bX6 h0 (tx 0) (nw 0) (tr 0) (un 0) (kp 0) (wy 0) (rm 0) (pl 0) (dr 0), bX2 pl G vp, bX0 nw G vn, bX0 tr G (cnd (okWorst vp x1 x2) (f_beh vp vn vr x1 x2) vr)] H := by
          have hok : okWorst vp x1 x2 = true := by simp only [okWorst, if_pos c_7, if_pos c_15]
          rw [hok]
          exact hP
        exact kr_si hx hb hr hlocks dX6_worst_93 hP hS (sameAd_cons rfl (sameAd_cons (bX2_ad _ _ _ _) (sameAd_cons (bX0_ad _ _ _ _) (sameAd_cons (bX0_ad _ _ _ _) sameAd_nil)))) ⟨by rw [f_worstR, (by simp only [okWorst, if_pos c_7, if_pos c_15] : okWorst vp x1 x2 = true)]; rfl, rfl⟩
      · skip
        intro k hk_k ih_49 H locs ls hP hD hS hl 
        refine lv_iload hx hb dX6_worst_49 (lv_at hl 0 rfl) ?_
        refine lv_aload_n hx hb dX6_worst_51 rfl (lv_at hl 2 rfl) ?_
        refine kb_get (own := RX6) (C := RX6) (T := TX6) (N := 9) (v := .ref (pl 0)) hx hb hts hin6 hown hX hP 0 rfl rfl rfl 7 (by decide) rfl (by decide +kernel) rfl dX6_worst_52 ?_
        refine kb_getN (own := RX6) (C := RX2) (T := TX2) (N := 15) (v := .int (vp.2 9)) hx hb hts hin2 hown hX hP 1 rfl rfl rfl 9 (by decide) rfl (by decide +kernel) rfl dX6_worst_55 ?_
        refine lv_icmp_ge (tgt := 92) hx hb dX6_worst_58 (by decide) (fun c_58 => absurd c_58 (lps_c (show k + 1 < _ by omega))) (fun c_58 => ?_)
        refine lv_aload_n hx hb dX6_worst_61 rfl (lv_at hl 2 rfl) ?_
        refine kb_get (own := RX6) (C := RX6) (T := TX6) (N := 9) (v := .ref (tr 0)) hx hb hts hin6 hown hX hP 0 rfl rfl rfl 2 (by decide) rfl (by decide +kernel) rfl dX6_worst_62 ?_
        refine lv_iload hx hb dX6_worst_65 (lv_at hl 0 rfl) ?_
        refine lv_iload_n hx hb dX6_worst_67 rfl (lv_at hl 4 rfl) ?_
        refine kcV_p hx hb hml hown hts hX hP (c_X0_grudgeOf l G tr (f_X0_sleepAgainstOne (f_X0_become vr vn) vp x1 x2) (nI (k + 1)) x2) gX6_worst_X0_grudgeOf 2 rfl rfl rfl hd_X0_grudgeOf ⟨Nat.le_of_ble_eq_true rfl, Nat.le_of_ble_eq_true rfl⟩ [3] rfl 3 rfl rfl rfl hl.1 rfl rfl (Nat.le_of_ble_eq_true rfl) dX6_worst_68 ⟨Nat.zero_le _, Nat.zero_le _⟩ ?_
        refine lv_aload_n hx hb dX6_worst_71 rfl (lv_at hl 2 rfl) ?_
        refine kb_get (own := RX6) (C := RX6) (T := TX6) (N := 9) (v := .ref (tr 0)) hx hb hts hin6 hown hX hP 0 rfl rfl rfl 2 (by decide) rfl (by decide +kernel) rfl dX6_worst_72 ?_
        refine lv_iload_n hx hb dX6_worst_75 rfl (lv_at hl 1 rfl) ?_
        refine lv_iload_n hx hb dX6_worst_76 rfl (lv_at hl 4 rfl) ?_
        refine kcV_p hx hb hml hown hts hX hP (c_X0_grudgeOf l G tr (f_X0_sleepAgainstOne (f_X0_become vr vn) vp x1 x2) (itN (s_wst (f_beh vp vn vr x1 x2) x2) 0 k) x2) gX6_worst_X0_grudgeOf 2 rfl rfl rfl hd_X0_grudgeOf ⟨Nat.le_of_ble_eq_true rfl, Nat.le_of_ble_eq_true rfl⟩ [3] rfl 3 rfl rfl rfl hl.1 rfl rfl (Nat.le_of_ble_eq_true rfl) dX6_worst_77 ⟨Nat.zero_le _, Nat.zero_le _⟩ ?_
        refine lv_icmp_le (tgt := 86) hx hb dX6_worst_80 (by decide) (fun c_80 => ?_) (fun c_80 => ?_)
        · refine lv_iinc (v := nI ((k + 1) + 1)) (lv' := [(4, .int (nI ((k + 1) + 1))), (3, .int (itN (s_wst (f_beh vp vn vr x1 x2) x2) 0 k)), (0, .ref h0), (1, .int x1), (2, .int x2)]) hx hb dX6_worst_86 hl (k := 0) rfl (nI_1 _) (by decide) rfl (fun ls hl => ?_)
          refine lv_goto (tgt := 49) hx hb dX6_worst_89 (by decide) ?_
          have hP : PP G [bX6 h0 (tx 0) (nw 0) (tr 0) (un 0) (kp 0) (wy 0) (rm 0) (pl 0) (dr 0), bX2 pl G vp, bX0 nw G vn, bX0 tr G (f_X0_sleepAgainstOne (f_X0_become vr vn) vp x1 x2)] H := hP
          have hD : DD (AA (List.flatten [bX6 h0 (tx 0) (nw 0) (tr 0) (un 0) (kp 0) (wy 0) (rm 0) (pl 0) (dr 0), bX2 pl G vp, bX0 nw G vn, bX0 tr G vr])) [bX6 h0 (tx 0) (nw 0) (tr 0) (un 0) (kp 0) (wy 0) (rm 0) (pl 0) (dr 0), bX2 pl G vp, bX0 nw G vn, bX0 tr G (f_X0_sleepAgainstOne (f_X0_become vr vn) vp x1 x2)] := D_re hD (adc rfl (adc (bX2_ad _ _ _ _) (adc (bX0_ad _ _ _ _) (adc (bX0_ad _ _ _ _) adn))))
          exact ih_49  _ _ _ hP hD hS (by rw [itN_s]; simp only [s_wst, if_pos c_7, if_pos c_15, if_neg c_58, if_pos c_80]; exact lv_sub hl [0, 1, 2, 3, 4] rfl) 
        · refine lv_iload hx hb dX6_worst_83 (lv_at hl 0 rfl) ?_
          refine lv_istore_n (lv' := [(3, .int (nI (k + 1))), (4, .int (nI (k + 1))), (0, .ref h0), (1, .int x1), (2, .int x2)]) hx hb dX6_worst_85 rfl hl (by decide) rfl (fun ls hl => ?_)
          refine lv_iinc (v := nI ((k + 1) + 1)) (lv' := [(4, .int (nI ((k + 1) + 1))), (3, .int (nI (k + 1))), (0, .ref h0), (1, .int x1), (2, .int x2)]) hx hb dX6_worst_86 hl (k := 1) rfl (nI_1 _) (by decide) rfl (fun ls hl => ?_)
          refine lv_goto (tgt := 49) hx hb dX6_worst_89 (by decide) ?_
          have hP : PP G [bX6 h0 (tx 0) (nw 0) (tr 0) (un 0) (kp 0) (wy 0) (rm 0) (pl 0) (dr 0), bX2 pl G vp, bX0 nw G vn, bX0 tr G (f_X0_sleepAgainstOne (f_X0_become vr vn) vp x1 x2)] H := hP
          have hD : DD (AA (List.flatten [bX6 h0 (tx 0) (nw 0) (tr 0) (un 0) (kp 0) (wy 0) (rm 0) (pl 0) (dr 0), bX2 pl G vp, bX0 nw G vn, bX0 tr G vr])) [bX6 h0 (tx 0) (nw 0) (tr 0) (un 0) (kp 0) (wy 0) (rm 0) (pl 0) (dr 0), bX2 pl G vp, bX0 nw G vn, bX0 tr G (f_X0_sleepAgainstOne (f_X0_become vr vn) vp x1 x2)] := D_re hD (adc rfl (adc (bX2_ad _ _ _ _) (adc (bX0_ad _ _ _ _) (adc (bX0_ad _ _ _ _) adn))))
          exact ih_49  _ _ _ hP hD hS (by rw [itN_s]; simp only [s_wst, if_pos c_7, if_pos c_15, if_neg c_58, if_neg c_80]; exact lv_sub hl [0, 1, 2, 3, 4] rfl) 
    · have c_15 := b2i_fN c_15r
      refine lv_iconst (v := (-1)) hx hb dX6_worst_18 (by decide) ?_
      have hP : PP G [bX6 h0 (tx 0) (nw 0) (tr 0) (un 0) (kp 0) (wy 0) (rm 0) (pl 0) (dr 0), bX2 pl G vp, bX0 nw G vn, bX0 tr G (cnd (okWorst vp x1 x2) (f_beh vp vn vr x1 x2) vr)] H := by
        have hok : okWorst vp x1 x2 = false := by simp only [okWorst, if_pos c_7, if_neg c_15]
        rw [hok]
        exact hP
      exact kr_si hx hb hr hlocks dX6_worst_19 hP hS (sameAd_cons rfl (sameAd_cons (bX2_ad _ _ _ _) (sameAd_cons (bX0_ad _ _ _ _) (sameAd_cons (bX0_ad _ _ _ _) sameAd_nil)))) ⟨by rw [f_worstR, (by simp only [okWorst, if_pos c_7, if_neg c_15] : okWorst vp x1 x2 = false)]; rfl, rfl⟩

def rm_X6_grudgeBehindWith : Room := { frames := 4, cells := 0, slots := 0, locals := 94 }
theorem hd_X6_grudgeBehindWith : yX6_grudgeBehindWith.cls = RX6 ∧ yX6_grudgeBehindWith.cls ≠ "java/lang/invoke/MethodHandle" ∧ yX6_grudgeBehindWith.cls ≠ "java/lang/invoke/VarHandle" ∧ (parseMethodDescriptor yX6_grudgeBehindWith.desc).map (fun d => d.parameters.length) = some 4 := by decide +kernel
set_option maxRecDepth 100000 in
set_option maxHeartbeats 4000000 in
theorem c_X6_grudgeBehindWith (l : Launch) (G : GD) (h0 : Nat) (tx nw tr un kp wy rm pl dr : Nat → Nat) (x1 : Int32) (x2 : Int32) (x3 : Int32) (x4 : Int32) (vp : OV) (vn : OV) (vr : OV)  : MetS l yX6_grudgeBehindWith wsX6_grudgeBehindWith rm_X6_grudgeBehindWith G [bX6 h0 (tx 0) (nw 0) (tr 0) (un 0) (kp 0) (wy 0) (rm 0) (pl 0) (dr 0), bX2 pl G vp, bX0 nw G vn, bX0 tr G vr] [.ref h0, .int x1, .int x2, .int x3, .int x4] (fun r bc => r = some (.int (f_bwR vp vn vr x1 x2 x3 x4)) ∧ bc = [bX6 h0 (tx 0) (nw 0) (tr 0) (un 0) (kp 0) (wy 0) (rm 0) (pl 0) (dr 0), bX2 pl G vp, bX0 nw G vn, bX0 tr G (f_bw vp vn vr x1 x2 x4)]) := by
  refine kb_beginS (cc := cX6_grudgeBehindWith) (maxL := 6) (ret := (some .int)) (by decide) rfl (Nat.le_of_ble_eq_true rfl) ?_
  intro p e s m below meth c hx hb hr hml hown hts hlocks hX H locs hP hD hS ls hl
  have hown : s.vm.findClass RX6 = some m.cls := hown
  have hl : lv_has ls 6 [(0, .ref h0), (1, .int x1), (2, .int x2), (3, .int x3), (4, .int x4)] := hl
  have hin0 : ∀ w ∈ u_ws RX0 TX0 6, w ∈ wsX6_grudgeBehindWith := (fun _ h => List.mem_cons_of_mem _ (List.mem_append_right _ (h)))
  have hin2 : ∀ w ∈ u_ws RX2 TX2 15, w ∈ wsX6_grudgeBehindWith := (fun _ h => List.mem_cons_of_mem _ (List.mem_append_left _ (List.mem_append_right _ (h))))
  have hin6 : ∀ w ∈ u_ws RX6 TX6 9, w ∈ wsX6_grudgeBehindWith := (fun _ h => List.mem_cons_of_mem _ (List.mem_append_left _ (List.mem_append_left _ (List.mem_append_right _ (h)))))
  refine lv_aload_n hx hb dX6_grudgeBehindWith_0 rfl (lv_at hl 0 rfl) ?_
  refine kb_get (own := RX6) (C := RX6) (T := TX6) (N := 9) (v := .ref (tr 0)) hx hb hts hin6 hown hX hP 0 rfl rfl rfl 2 (by decide) rfl (by decide +kernel) rfl dX6_grudgeBehindWith_1 ?_
  refine lv_aload_n hx hb dX6_grudgeBehindWith_4 rfl (lv_at hl 0 rfl) ?_
  refine kb_get (own := RX6) (C := RX6) (T := TX6) (N := 9) (v := .ref (nw 0)) hx hb hts hin6 hown hX hP 0 rfl rfl rfl 1 (by decide) rfl (by decide +kernel) rfl dX6_grudgeBehindWith_5 ?_
  refine kcV_s hx hb hml hown hts hX hP hD hS (c_X0_become l G tr vr nw vn) gX6_grudgeBehindWith_X0_become 1 rfl rfl rfl hd_X0_become ⟨Nat.le_of_ble_eq_true rfl, Nat.le_of_ble_eq_true rfl⟩ [3, 2] (by decide) rfl 3 rfl rfl rfl hl.1 rfl rfl (Nat.le_of_ble_eq_true rfl) dX6_grudgeBehindWith_8 ⟨Nat.zero_le _, Nat.zero_le _⟩ (fun r_ bc_ hq_1 H locs hP hD hS => ?_)
  obtain ⟨rfl, rfl⟩ := hq_1
  have hP : PP G [bX6 h0 (tx 0) (nw 0) (tr 0) (un 0) (kp 0) (wy 0) (rm 0) (pl 0) (dr 0), bX2 pl G vp, bX0 nw G vn, bX0 tr G (f_X0_become vr vn)] H := hP
  have hD : DD (AA (List.flatten [bX6 h0 (tx 0) (nw 0) (tr 0) (un 0) (kp 0) (wy 0) (rm 0) (pl 0) (dr 0), bX2 pl G vp, bX0 nw G vn, bX0 tr G vr])) [bX6 h0 (tx 0) (nw 0) (tr 0) (un 0) (kp 0) (wy 0) (rm 0) (pl 0) (dr 0), bX2 pl G vp, bX0 nw G vn, bX0 tr G (f_X0_become vr vn)] := D_re hD (adc rfl (adc (bX2_ad _ _ _ _) (adc (bX0_ad _ _ _ _) (adc (bX0_ad _ _ _ _) adn))))
  refine lv_iconst (v := 0) hx hb dX6_grudgeBehindWith_11 (by decide) ?_
  refine lv_istore (lv' := [(5, .int 0), (0, .ref h0), (1, .int x1), (2, .int x2), (3, .int x3), (4, .int x4)]) hx hb dX6_grudgeBehindWith_12 hl (by decide) rfl (fun ls hl => ?_)
  refine lp_up (N := (vp.2 9).toNatClampNeg) (P := fun k => ∀ (H : Heap) (locs : List Loc) (ls : Array Slot), PP G [bX6 h0 (tx 0) (nw 0) (tr 0) (un 0) (kp 0) (wy 0) (rm 0) (pl 0) (dr 0), bX2 pl G vp, bX0 nw G vn, bX0 tr G (itN (s_oilF x1 (x2 + 1)) (f_X0_become vr vn) k)] H → DD (AA (List.flatten [bX6 h0 (tx 0) (nw 0) (tr 0) (un 0) (kp 0) (wy 0) (rm 0) (pl 0) (dr 0), bX2 pl G vp, bX0 nw G vn, bX0 tr G vr])) [bX6 h0 (tx 0) (nw 0) (tr 0) (un 0) (kp 0) (wy 0) (rm 0) (pl 0) (dr 0), bX2 pl G vp, bX0 nw G vn, bX0 tr G (itN (s_oilF x1 (x2 + 1)) (f_X0_become vr vn) k)] → va_S (AA (List.flatten [bX6 h0 (tx 0) (nw 0) (tr 0) (un 0) (kp 0) (wy 0) (rm 0) (pl 0) (dr 0), bX2 pl G vp, bX0 nw G vn, bX0 tr G vr])) s.heap H locs → lv_has ls 6 [(5, .int (nI k)), (0, .ref h0), (1, .int x1), (2, .int x2), (3, .int x3), (4, .int x4)] →  W p l e (headSpec wsX6_grudgeBehindWith rm_X6_grudgeBehindWith).room s m ([.ref h0, .int x1, .int x2, .int x3, .int x4] : List Value).toArray below meth c H locs 0 0 (MQ below (kQs G [bX6 h0 (tx 0) (nw 0) (tr 0) (un 0) (kp 0) (wy 0) (rm 0) (pl 0) (dr 0), bX2 pl G vp, bX0 nw G vn, bX0 tr G vr] (fun r bc => r = some (.int (f_bwR vp vn vr x1 x2 x3 x4)) ∧ bc = [bX6 h0 (tx 0) (nw 0) (tr 0) (un 0) (kp 0) (wy 0) (rm 0) (pl 0) (dr 0), bX2 pl G vp, bX0 nw G vn, bX0 tr G (f_bw vp vn vr x1 x2 x4)])) ([.ref h0, .int x1, .int x2, .int x3, .int x4] : List Value).toArray s 0 0 (AA (List.flatten [bX6 h0 (tx 0) (nw 0) (tr 0) (un 0) (kp 0) (wy 0) (rm 0) (pl 0) (dr 0), bX2 pl G vp, bX0 nw G vn, bX0 tr G vr]))) (F0 m 14 ls [])) ?_ ?_ 0 (Nat.zero_le _)  _ _ _ hP hD hS (lv_sub hl [0, 1, 2, 3, 4, 5] rfl) 
  · skip
    intro H locs ls hP hD hS hl 
    refine lv_iload hx hb dX6_grudgeBehindWith_14 (lv_at hl 0 rfl) ?_
    refine lv_aload_n hx hb dX6_grudgeBehindWith_16 rfl (lv_at hl 1 rfl) ?_
    refine kb_get (own := RX6) (C := RX6) (T := TX6) (N := 9) (v := .ref (pl 0)) hx hb hts hin6 hown hX hP 0 rfl rfl rfl 7 (by decide) rfl (by decide +kernel) rfl dX6_grudgeBehindWith_17 ?_
    refine kb_getN (own := RX6) (C := RX2) (T := TX2) (N := 15) (v := .int (vp.2 9)) hx hb hts hin2 hown hX hP 1 rfl rfl rfl 9 (by decide) rfl (by decide +kernel) rfl dX6_grudgeBehindWith_20 ?_
    refine lv_icmp_ge (tgt := 56) hx hb dX6_grudgeBehindWith_23 (by decide) (fun c_23 => ?_) (fun c_23 => absurd (lpx_c _) c_23)
    refine lv_aload_n hx hb dX6_grudgeBehindWith_56 rfl (lv_at hl 1 rfl) ?_
    refine kb_get (own := RX6) (C := RX6) (T := TX6) (N := 9) (v := .ref (tr 0)) hx hb hts hin6 hown hX hP 0 rfl rfl rfl 2 (by decide) rfl (by decide +kernel) rfl dX6_grudgeBehindWith_57 ?_
    refine lv_aload_n hx hb dX6_grudgeBehindWith_60 rfl (lv_at hl 1 rfl) ?_
    refine kb_get (own := RX6) (C := RX6) (T := TX6) (N := 9) (v := .ref (pl 0)) hx hb hts hin6 hown hX hP 0 rfl rfl rfl 7 (by decide) rfl (by decide +kernel) rfl dX6_grudgeBehindWith_61 ?_
    refine lv_iload_n hx hb dX6_grudgeBehindWith_64 rfl (lv_at hl 3 rfl) ?_
    refine lv_iload hx hb dX6_grudgeBehindWith_65 (lv_at hl 5 rfl) ?_
    refine kcV_s hx hb hml hown hts hX hP hD hS (c_X0_sleepAgainstOne l G tr (itN (s_oilF x1 (x2 + 1)) (f_X0_become vr vn) ((vp.2 9).toNatClampNeg)) pl vp x2 x4) gX6_grudgeBehindWith_X0_sleepAgainstOne 3 rfl rfl rfl hd_X0_sleepAgainstOne ⟨Nat.le_of_ble_eq_true rfl, Nat.le_of_ble_eq_true rfl⟩ [3, 1] (by decide) rfl 3 rfl rfl rfl hl.1 rfl rfl (Nat.le_of_ble_eq_true rfl) dX6_grudgeBehindWith_67 ⟨Nat.zero_le _, Nat.zero_le _⟩ (fun r_ bc_ hq_2 H locs hP hD hS => ?_)
    obtain ⟨rfl, rfl⟩ := hq_2
    have hP : PP G [bX6 h0 (tx 0) (nw 0) (tr 0) (un 0) (kp 0) (wy 0) (rm 0) (pl 0) (dr 0), bX2 pl G vp, bX0 nw G vn, bX0 tr G (f_X0_sleepAgainstOne (itN (s_oilF x1 (x2 + 1)) (f_X0_become vr vn) ((vp.2 9).toNatClampNeg)) vp x2 x4)] H := hP
    have hD : DD (AA (List.flatten [bX6 h0 (tx 0) (nw 0) (tr 0) (un 0) (kp 0) (wy 0) (rm 0) (pl 0) (dr 0), bX2 pl G vp, bX0 nw G vn, bX0 tr G vr])) [bX6 h0 (tx 0) (nw 0) (tr 0) (un 0) (kp 0) (wy 0) (rm 0) (pl 0) (dr 0), bX2 pl G vp, bX0 nw G vn, bX0 tr G (f_X0_sleepAgainstOne (itN (s_oilF x1 (x2 + 1)) (f_X0_become vr vn) ((vp.2 9).toNatClampNeg)) vp x2 x4)] := D_re hD (adc rfl (adc (bX2_ad _ _ _ _) (adc (bX0_ad _ _ _ _) (adc (bX0_ad _ _ _ _) adn))))
    refine lv_aload_n hx hb dX6_grudgeBehindWith_70 rfl (lv_at hl 1 rfl) ?_
    refine kb_get (own := RX6) (C := RX6) (T := TX6) (N := 9) (v := .ref (tr 0)) hx hb hts hin6 hown hX hP 0 rfl rfl rfl 2 (by decide) rfl (by decide +kernel) rfl dX6_grudgeBehindWith_71 ?_
    refine lv_iload_n hx hb dX6_grudgeBehindWith_74 rfl (lv_at hl 4 rfl) ?_
    refine lv_iload hx hb dX6_grudgeBehindWith_75 (lv_at hl 5 rfl) ?_
    refine kcV_p hx hb hml hown hts hX hP (c_X0_grudgeOf l G tr (f_X0_sleepAgainstOne (itN (s_oilF x1 (x2 + 1)) (f_X0_become vr vn) ((vp.2 9).toNatClampNeg)) vp x2 x4) x3 x4) gX6_grudgeBehindWith_X0_grudgeOf 2 rfl rfl rfl hd_X0_grudgeOf ⟨Nat.le_of_ble_eq_true rfl, Nat.le_of_ble_eq_true rfl⟩ [3] rfl 3 rfl rfl rfl hl.1 rfl rfl (Nat.le_of_ble_eq_true rfl) dX6_grudgeBehindWith_77 ⟨Nat.zero_le _, Nat.zero_le _⟩ ?_
    have hP : PP G [bX6 h0 (tx 0) (nw 0) (tr 0) (un 0) (kp 0) (wy 0) (rm 0) (pl 0) (dr 0), bX2 pl G vp, bX0 nw G vn, bX0 tr G (f_bw vp vn vr x1 x2 x4)] H := by
      exact hP
    exact kr_si hx hb hr hlocks dX6_grudgeBehindWith_80 hP hS (sameAd_cons rfl (sameAd_cons (bX2_ad _ _ _ _) (sameAd_cons (bX0_ad _ _ _ _) (sameAd_cons (bX0_ad _ _ _ _) sameAd_nil)))) ⟨rfl, rfl⟩
  · skip
    intro k hk_k ih_14 H locs ls hP hD hS hl 
    refine lv_iload hx hb dX6_grudgeBehindWith_14 (lv_at hl 0 rfl) ?_
    refine lv_aload_n hx hb dX6_grudgeBehindWith_16 rfl (lv_at hl 1 rfl) ?_
    refine kb_get (own := RX6) (C := RX6) (T := TX6) (N := 9) (v := .ref (pl 0)) hx hb hts hin6 hown hX hP 0 rfl rfl rfl 7 (by decide) rfl (by decide +kernel) rfl dX6_grudgeBehindWith_17 ?_
    refine kb_getN (own := RX6) (C := RX2) (T := TX2) (N := 15) (v := .int (vp.2 9)) hx hb hts hin2 hown hX hP 1 rfl rfl rfl 9 (by decide) rfl (by decide +kernel) rfl dX6_grudgeBehindWith_20 ?_
    refine lv_icmp_ge (tgt := 56) hx hb dX6_grudgeBehindWith_23 (by decide) (fun c_23 => absurd c_23 (lps_c hk_k)) (fun c_23 => ?_)
    refine lv_iload_n hx hb dX6_grudgeBehindWith_26 rfl (lv_at hl 2 rfl) ?_
    refine lv_iload hx hb dX6_grudgeBehindWith_27 (lv_at hl 0 rfl) ?_
    refine kcS_p hx hb hml hown hts hX hP (c_X6_holds l G x1 (nI k)) gX6_grudgeBehindWith_X6_holds 2 rfl rfl rfl hdS_X6_holds ⟨Nat.le_of_ble_eq_true rfl, Nat.le_of_ble_eq_true rfl⟩ (fun q hq => absurd hq List.not_mem_nil) hl.1 rfl rfl (Nat.le_of_ble_eq_true rfl) dX6_grudgeBehindWith_29 ⟨Nat.zero_le _, Nat.zero_le _⟩ ?_
    refine lv_if_eq (tgt := 50) hx hb dX6_grudgeBehindWith_32 (by decide) (fun c_32r => ?_) (fun c_32r => ?_)
    · have c_32 := b2i_fN c_32r
      refine lv_iinc (v := nI (k + 1)) (lv' := [(5, .int (nI (k + 1))), (0, .ref h0), (1, .int x1), (2, .int x2), (3, .int x3), (4, .int x4)]) hx hb dX6_grudgeBehindWith_50 hl (k := 0) rfl (nI_1 _) (by decide) rfl (fun ls hl => ?_)
      refine lv_goto (tgt := 14) hx hb dX6_grudgeBehindWith_53 (by decide) ?_
      have hP : PP G [bX6 h0 (tx 0) (nw 0) (tr 0) (un 0) (kp 0) (wy 0) (rm 0) (pl 0) (dr 0), bX2 pl G vp, bX0 nw G vn, bX0 tr G (itN (s_oilF x1 (x2 + 1)) (f_X0_become vr vn) (k + 1))] H := by
        rw [itN_s]
        simp only [s_oilF, if_neg c_23, if_neg c_32]
        exact hP
      have hD : DD (AA (List.flatten [bX6 h0 (tx 0) (nw 0) (tr 0) (un 0) (kp 0) (wy 0) (rm 0) (pl 0) (dr 0), bX2 pl G vp, bX0 nw G vn, bX0 tr G vr])) [bX6 h0 (tx 0) (nw 0) (tr 0) (un 0) (kp 0) (wy 0) (rm 0) (pl 0) (dr 0), bX2 pl G vp, bX0 nw G vn, bX0 tr G (itN (s_oilF x1 (x2 + 1)) (f_X0_become vr vn) (k + 1))] := D_re hD (adc rfl (adc (bX2_ad _ _ _ _) (adc (bX0_ad _ _ _ _) (adc (bX0_ad _ _ _ _) adn))))
      exact ih_14  _ _ _ hP hD hS (show lv_has ls 6 [(5, .int (nI (k + 1))), (0, .ref h0), (1, .int x1), (2, .int x2), (3, .int x3), (4, .int x4)] from lv_sub hl [0, 1, 2, 3, 4, 5] rfl) 
    · have c_32 := b2i_tP c_32r
      refine lv_aload_n hx hb dX6_grudgeBehindWith_35 rfl (lv_at hl 1 rfl) ?_
      refine kb_get (own := RX6) (C := RX6) (T := TX6) (N := 9) (v := .ref (tr 0)) hx hb hts hin6 hown hX hP 0 rfl rfl rfl 2 (by decide) rfl (by decide +kernel) rfl dX6_grudgeBehindWith_36 ?_
      refine kb_getN (own := RX6) (C := RX0) (T := TX0) (N := 6) (v := .ref (tr 3)) hx hb hts hin0 hown hX hP 3 rfl rfl rfl 2 (by decide) rfl (by decide +kernel) rfl dX6_grudgeBehindWith_39 ?_
      refine lv_iload hx hb dX6_grudgeBehindWith_42 (lv_at hl 0 rfl) ?_
      refine lv_iload_n hx hb dX6_grudgeBehindWith_44 rfl (lv_at hl 3 rfl) ?_
      refine lv_iconst (v := 1) hx hb dX6_grudgeBehindWith_45 (by decide) ?_
      refine lv_iadd hx hb dX6_grudgeBehindWith_46 ?_
      refine kcS_c hx hb hml hown hts hX hP hD hS (c_X6_put l G (tr 3) 8 ((itN (s_oilF x1 (x2 + 1)) (f_X0_become vr vn) k).1 2) (nI k) (x2 + 1) (by decide)) gX6_grudgeBehindWith_X6_put 3 rfl rfl rfl hdS_X6_put ⟨Nat.le_of_ble_eq_true rfl, Nat.le_of_ble_eq_true rfl⟩ 3 3 rfl rfl (bX0_A2 tr G (itN (s_oilF x1 (x2 + 1)) (f_X0_become vr vn) k) (rPut ((itN (s_oilF x1 (x2 + 1)) (f_X0_become vr vn) k).1 2) 8 (nI k) (x2 + 1))) hl.1 rfl rfl (Nat.le_of_ble_eq_true rfl) dX6_grudgeBehindWith_47 ⟨Nat.zero_le _, Nat.zero_le _⟩ (fun H locs hP hD hS => ?_)
      have hP : PP G [bX6 h0 (tx 0) (nw 0) (tr 0) (un 0) (kp 0) (wy 0) (rm 0) (pl 0) (dr 0), bX2 pl G vp, bX0 nw G vn, bX0 tr G (setA (itN (s_oilF x1 (x2 + 1)) (f_X0_become vr vn) k) 2 (rPut ((itN (s_oilF x1 (x2 + 1)) (f_X0_become vr vn) k).1 2) 8 (nI k) (x2 + 1)))] H := hP
      have hD : DD (AA (List.flatten [bX6 h0 (tx 0) (nw 0) (tr 0) (un 0) (kp 0) (wy 0) (rm 0) (pl 0) (dr 0), bX2 pl G vp, bX0 nw G vn, bX0 tr G vr])) [bX6 h0 (tx 0) (nw 0) (tr 0) (un 0) (kp 0) (wy 0) (rm 0) (pl 0) (dr 0), bX2 pl G vp, bX0 nw G vn, bX0 tr G (setA (itN (s_oilF x1 (x2 + 1)) (f_X0_become vr vn) k) 2 (rPut ((itN (s_oilF x1 (x2 + 1)) (f_X0_become vr vn) k).1 2) 8 (nI k) (x2 + 1)))] := D_re hD (adc rfl (adc (bX2_ad _ _ _ _) (adc (bX0_ad _ _ _ _) (adc (bX0_ad _ _ _ _) adn))))
      refine lv_iinc (v := nI (k + 1)) (lv' := [(5, .int (nI (k + 1))), (0, .ref h0), (1, .int x1), (2, .int x2), (3, .int x3), (4, .int x4)]) hx hb dX6_grudgeBehindWith_50 hl (k := 0) rfl (nI_1 _) (by decide) rfl (fun ls hl => ?_)
      refine lv_goto (tgt := 14) hx hb dX6_grudgeBehindWith_53 (by decide) ?_
      have hP : PP G [bX6 h0 (tx 0) (nw 0) (tr 0) (un 0) (kp 0) (wy 0) (rm 0) (pl 0) (dr 0), bX2 pl G vp, bX0 nw G vn, bX0 tr G (itN (s_oilF x1 (x2 + 1)) (f_X0_become vr vn) (k + 1))] H := by
        rw [itN_s]
        simp only [s_oilF, if_neg c_23, if_pos c_32]
        exact hP
      have hD : DD (AA (List.flatten [bX6 h0 (tx 0) (nw 0) (tr 0) (un 0) (kp 0) (wy 0) (rm 0) (pl 0) (dr 0), bX2 pl G vp, bX0 nw G vn, bX0 tr G vr])) [bX6 h0 (tx 0) (nw 0) (tr 0) (un 0) (kp 0) (wy 0) (rm 0) (pl 0) (dr 0), bX2 pl G vp, bX0 nw G vn, bX0 tr G (itN (s_oilF x1 (x2 + 1)) (f_X0_become vr vn) (k + 1))] := D_re hD (adc rfl (adc (bX2_ad _ _ _ _) (adc (bX0_ad _ _ _ _) (adc (bX0_ad _ _ _ _) adn))))
      exact ih_14  _ _ _ hP hD hS (show lv_has ls 6 [(5, .int (nI (k + 1))), (0, .ref h0), (1, .int x1), (2, .int x2), (3, .int x3), (4, .int x4)] from lv_sub hl [0, 1, 2, 3, 4, 5] rfl) 

def rm_X6_stop : Room := { frames := 5, cells := 0, slots := 0, locals := 119 }
theorem hd_X6_stop : yX6_stop.cls = RX6 ∧ yX6_stop.cls ≠ "java/lang/invoke/MethodHandle" ∧ yX6_stop.cls ≠ "java/lang/invoke/VarHandle" ∧ (parseMethodDescriptor yX6_stop.desc).map (fun d => d.parameters.length) = some 4 := by decide +kernel
set_option maxRecDepth 100000 in
set_option maxHeartbeats 4000000 in
theorem c_X6_stop (l : Launch) (G : GD) (h0 : Nat) (tx nw tr un kp wy rm pl dr : Nat → Nat) (x1 : Int32) (x2 : Int32) (x3 : Int32) (x4 : Int32) (vp : OV) (vn : OV) (vr : OV)  : MetS l yX6_stop wsX6_stop rm_X6_stop G [bX6 h0 (tx 0) (nw 0) (tr 0) (un 0) (kp 0) (wy 0) (rm 0) (pl 0) (dr 0), bX2 pl G vp, bX0 nw G vn, bX0 tr G vr] [.ref h0, .int x1, .int x2, .int x3, .int x4] (fun r bc => r = some (.int (f_stopR vp vn vr x1 x2 x3 x4)) ∧ bc = [bX6 h0 (tx 0) (nw 0) (tr 0) (un 0) (kp 0) (wy 0) (rm 0) (pl 0) (dr 0), bX2 pl G vp, bX0 nw G vn, bX0 tr G (cnd (okStop vp x1 x2 x3 x4) (f_stop vp vn vr x1 x2 x3 x4).2 vr)]) := by
  refine kb_beginS (cc := cX6_stop) (maxL := 9) (ret := (some .int)) (by decide) rfl (Nat.le_of_ble_eq_true rfl) ?_
  intro p e s m below meth c hx hb hr hml hown hts hlocks hX H locs hP hD hS ls hl
  have hown : s.vm.findClass RX6 = some m.cls := hown
  have hl : lv_has ls 9 [(0, .ref h0), (1, .int x1), (2, .int x2), (3, .int x3), (4, .int x4)] := hl
  have hin2 : ∀ w ∈ u_ws RX2 TX2 15, w ∈ wsX6_stop := (fun _ h => List.mem_cons_of_mem _ (List.mem_append_left _ (List.mem_append_right _ (h))))
  have hin6 : ∀ w ∈ u_ws RX6 TX6 9, w ∈ wsX6_stop := (fun _ h => List.mem_cons_of_mem _ (List.mem_append_left _ (List.mem_append_left _ (List.mem_append_right _ (h)))))
  refine lv_iload_n hx hb dX6_stop_0 rfl (lv_at hl 1 rfl) ?_
  refine lv_iconst (v := 0) hx hb dX6_stop_1 (by decide) ?_
  refine lv_bipush (v := 60) hx hb dX6_stop_2 (by decide) ?_
  refine kcS_p hx hb hml hown hts hX hP (c_X6_within l G x1 0 60) gX6_stop_X6_within 3 rfl rfl rfl hdS_X6_within ⟨Nat.le_of_ble_eq_true rfl, Nat.le_of_ble_eq_true rfl⟩ (fun q hq => absurd hq List.not_mem_nil) hl.1 rfl rfl (Nat.le_of_ble_eq_true rfl) dX6_stop_4 ⟨Nat.zero_le _, Nat.zero_le _⟩ ?_
  refine lv_if_eq (tgt := 37) hx hb dX6_stop_7 (by decide) (fun c_7r => ?_) (fun c_7r => ?_)
  · have c_7 := b2i_fN c_7r
    refine lv_iconst (v := (-1)) hx hb dX6_stop_37 (by decide) ?_
    have hP : PP G [bX6 h0 (tx 0) (nw 0) (tr 0) (un 0) (kp 0) (wy 0) (rm 0) (pl 0) (dr 0), bX2 pl G vp, bX0 nw G vn, bX0 tr G (cnd (okStop vp x1 x2 x3 x4) (f_stop vp vn vr x1 x2 x3 x4).2 vr)] H := by
      have hok : okStop vp x1 x2 x3 x4 = false := by simp only [okStop, if_neg c_7]
      rw [hok]
      exact hP
    exact kr_si hx hb hr hlocks dX6_stop_38 hP hS (sameAd_cons rfl (sameAd_cons (bX2_ad _ _ _ _) (sameAd_cons (bX0_ad _ _ _ _) (sameAd_cons (bX0_ad _ _ _ _) sameAd_nil)))) ⟨by rw [f_stopR, (by simp only [okStop, if_neg c_7] : okStop vp x1 x2 x3 x4 = false)]; rfl, rfl⟩
  · have c_7 := b2i_tP c_7r
    refine lv_aload_n hx hb dX6_stop_10 rfl (lv_at hl 0 rfl) ?_
    refine lv_iload_n hx hb dX6_stop_11 rfl (lv_at hl 2 rfl) ?_
    refine kcV_p hx hb hml hown hts hX hP (c_X6_isDoor l G h0 tx nw tr un kp wy rm pl dr x2 vp) gX6_stop_X6_isDoor 1 rfl rfl rfl hd_X6_isDoor ⟨Nat.le_of_ble_eq_true rfl, Nat.le_of_ble_eq_true rfl⟩ [0, 1] rfl 0 rfl rfl rfl hl.1 rfl rfl (Nat.le_of_ble_eq_true rfl) dX6_stop_12 ⟨Nat.zero_le _, Nat.zero_le _⟩ ?_
    refine lv_if_eq (tgt := 37) hx hb dX6_stop_15 (by decide) (fun c_15r => ?_) (fun c_15r => ?_)
    · have c_15 := b2i_fN c_15r
      refine lv_iconst (v := (-1)) hx hb dX6_stop_37 (by decide) ?_
      have hP : PP G [bX6 h0 (tx 0) (nw 0) (tr 0) (un 0) (kp 0) (wy 0) (rm 0) (pl 0) (dr 0), bX2 pl G vp, bX0 nw G vn, bX0 tr G (cnd (okStop vp x1 x2 x3 x4) (f_stop vp vn vr x1 x2 x3 x4).2 vr)] H := by
        have hok : okStop vp x1 x2 x3 x4 = false := by simp only [okStop, if_pos c_7, if_neg c_15]
        rw [hok]
        exact hP
      exact kr_si hx hb hr hlocks dX6_stop_38 hP hS (sameAd_cons rfl (sameAd_cons (bX2_ad _ _ _ _) (sameAd_cons (bX0_ad _ _ _ _) (sameAd_cons (bX0_ad _ _ _ _) sameAd_nil)))) ⟨by rw [f_stopR, (by simp only [okStop, if_pos c_7, if_neg c_15] : okStop vp x1 x2 x3 x4 = false)]; rfl, rfl⟩
    · have c_15 := b2i_tP c_15r
      refine lv_aload_n hx hb dX6_stop_18 rfl (lv_at hl 0 rfl) ?_
      refine lv_iload_n hx hb dX6_stop_19 rfl (lv_at hl 3 rfl) ?_
      refine kcV_p hx hb hml hown hts hX hP (c_X6_isLodger l G h0 tx nw tr un kp wy rm pl dr x3 vp) gX6_stop_X6_isLodger 1 rfl rfl rfl hd_X6_isLodger ⟨Nat.le_of_ble_eq_true rfl, Nat.le_of_ble_eq_true rfl⟩ [0, 1] rfl 0 rfl rfl rfl hl.1 rfl rfl (Nat.le_of_ble_eq_true rfl) dX6_stop_20 ⟨Nat.zero_le _, Nat.zero_le _⟩ ?_
      refine lv_if_eq (tgt := 37) hx hb dX6_stop_23 (by decide) (fun c_23r => ?_) (fun c_23r => ?_)
      · have c_23 := b2i_fN c_23r
        refine lv_iconst (v := (-1)) hx hb dX6_stop_37 (by decide) ?_
        have hP : PP G [bX6 h0 (tx 0) (nw 0) (tr 0) (un 0) (kp 0) (wy 0) (rm 0) (pl 0) (dr 0), bX2 pl G vp, bX0 nw G vn, bX0 tr G (cnd (okStop vp x1 x2 x3 x4) (f_stop vp vn vr x1 x2 x3 x4).2 vr)] H := by
          have hok : okStop vp x1 x2 x3 x4 = false := by simp only [okStop, if_pos c_7, if_pos c_15, if_neg c_23]
          rw [hok]
          exact hP
        exact kr_si hx hb hr hlocks dX6_stop_38 hP hS (sameAd_cons rfl (sameAd_cons (bX2_ad _ _ _ _) (sameAd_cons (bX0_ad _ _ _ _) (sameAd_cons (bX0_ad _ _ _ _) sameAd_nil)))) ⟨by rw [f_stopR, (by simp only [okStop, if_pos c_7, if_pos c_15, if_neg c_23] : okStop vp x1 x2 x3 x4 = false)]; rfl, rfl⟩
      · have c_23 := b2i_tP c_23r
        refine lv_iload hx hb dX6_stop_26 (lv_at hl 4 rfl) ?_
        refine lv_iconst (v := 1) hx hb dX6_stop_28 (by decide) ?_
        refine lv_bipush (v := 99) hx hb dX6_stop_29 (by decide) ?_
        refine kcS_p hx hb hml hown hts hX hP (c_X6_within l G x4 1 99) gX6_stop_X6_within 3 rfl rfl rfl hdS_X6_within ⟨Nat.le_of_ble_eq_true rfl, Nat.le_of_ble_eq_true rfl⟩ (fun q hq => absurd hq List.not_mem_nil) hl.1 rfl rfl (Nat.le_of_ble_eq_true rfl) dX6_stop_31 ⟨Nat.zero_le _, Nat.zero_le _⟩ ?_
        refine lv_if_ne (tgt := 39) hx hb dX6_stop_34 (by decide) (fun c_34r => ?_) (fun c_34r => ?_)
        · have c_34 := b2i_tP c_34r
          refine lv_iconst (v := 1) hx hb dX6_stop_39 (by decide) ?_
          refine lv_aload_n hx hb dX6_stop_40 rfl (lv_at hl 0 rfl) ?_
          refine kb_get (own := RX6) (C := RX6) (T := TX6) (N := 9) (v := .ref (pl 0)) hx hb hts hin6 hown hX hP 0 rfl rfl rfl 7 (by decide) rfl (by decide +kernel) rfl dX6_stop_41 ?_
          refine kb_getN (own := RX6) (C := RX2) (T := TX2) (N := 15) (v := .int (vp.2 9)) hx hb hts hin2 hown hX hP 1 rfl rfl rfl 9 (by decide) rfl (by decide +kernel) rfl dX6_stop_44 ?_
          refine lv_ishl hx hb dX6_stop_47 ?_
          refine lv_istore (lv' := [(5, .int (1 <<< ((vp.2 9) &&& 31))), (0, .ref h0), (1, .int x1), (2, .int x2), (3, .int x3), (4, .int x4)]) hx hb dX6_stop_48 hl (by decide) rfl (fun ls hl => ?_)
          refine lv_iconst (v := 0) hx hb dX6_stop_50 (by decide) ?_
          refine lv_istore (lv' := [(6, .int 0), (5, .int (1 <<< ((vp.2 9) &&& 31))), (0, .ref h0), (1, .int x1), (2, .int x2), (3, .int x3), (4, .int x4)]) hx hb dX6_stop_51 hl (by decide) rfl (fun ls hl => ?_)
          refine lp_up (N := (vp.2 9).toNatClampNeg) (P := fun k => ∀ (y : OV), ∀ (H : Heap) (locs : List Loc) (ls : Array Slot), PP G [bX6 h0 (tx 0) (nw 0) (tr 0) (un 0) (kp 0) (wy 0) (rm 0) (pl 0) (dr 0), bX2 pl G vp, bX0 nw G vn, bX0 tr G y] H → DD (AA (List.flatten [bX6 h0 (tx 0) (nw 0) (tr 0) (un 0) (kp 0) (wy 0) (rm 0) (pl 0) (dr 0), bX2 pl G vp, bX0 nw G vn, bX0 tr G vr])) [bX6 h0 (tx 0) (nw 0) (tr 0) (un 0) (kp 0) (wy 0) (rm 0) (pl 0) (dr 0), bX2 pl G vp, bX0 nw G vn, bX0 tr G y] → va_S (AA (List.flatten [bX6 h0 (tx 0) (nw 0) (tr 0) (un 0) (kp 0) (wy 0) (rm 0) (pl 0) (dr 0), bX2 pl G vp, bX0 nw G vn, bX0 tr G vr])) s.heap H locs → lv_has ls 9 [(6, .int (nI k)), (5, .int (1 <<< ((vp.2 9) &&& 31))), (0, .ref h0), (1, .int x1), (2, .int x2), (3, .int x3), (4, .int x4)] → (f_stop vp vn vr x1 x2 x3 x4 = stSz vp vn x1 x2 x3 x4 (c_sets vp).toNatClampNeg ((vp.2 9).toNatClampNeg - k) k y) → W p l e (headSpec wsX6_stop rm_X6_stop).room s m ([.ref h0, .int x1, .int x2, .int x3, .int x4] : List Value).toArray below meth c H locs 0 0 (MQ below (kQs G [bX6 h0 (tx 0) (nw 0) (tr 0) (un 0) (kp 0) (wy 0) (rm 0) (pl 0) (dr 0), bX2 pl G vp, bX0 nw G vn, bX0 tr G vr] (fun r bc => r = some (.int (f_stopR vp vn vr x1 x2 x3 x4)) ∧ bc = [bX6 h0 (tx 0) (nw 0) (tr 0) (un 0) (kp 0) (wy 0) (rm 0) (pl 0) (dr 0), bX2 pl G vp, bX0 nw G vn, bX0 tr G (cnd (okStop vp x1 x2 x3 x4) (f_stop vp vn vr x1 x2 x3 x4).2 vr)])) ([.ref h0, .int x1, .int x2, .int x3, .int x4] : List Value).toArray s 0 0 (AA (List.flatten [bX6 h0 (tx 0) (nw 0) (tr 0) (un 0) (kp 0) (wy 0) (rm 0) (pl 0) (dr 0), bX2 pl G vp, bX0 nw G vn, bX0 tr G vr]))) (F0 m 53 ls [])) ?_ ?_ 0 (Nat.zero_le _) vr _ _ _ hP hD hS (lv_sub hl [0, 1, 2, 3, 4, 5, 6] rfl) (rfl)
          · skip
            intro y H locs ls hP hD hS hl hs
            refine lv_iload hx hb dX6_stop_53 (lv_at hl 0 rfl) ?_
            refine lv_aload_n hx hb dX6_stop_55 rfl (lv_at hl 2 rfl) ?_
            refine kb_get (own := RX6) (C := RX6) (T := TX6) (N := 9) (v := .ref (pl 0)) hx hb hts hin6 hown hX hP 0 rfl rfl rfl 7 (by decide) rfl (by decide +kernel) rfl dX6_stop_56 ?_
            refine kb_getN (own := RX6) (C := RX2) (T := TX2) (N := 15) (v := .int (vp.2 9)) hx hb hts hin2 hown hX hP 1 rfl rfl rfl 9 (by decide) rfl (by decide +kernel) rfl dX6_stop_59 ?_
            refine lv_icmp_ge (tgt := 135) hx hb dX6_stop_62 (by decide) (fun c_62 => ?_) (fun c_62 => absurd (lpx_c _) c_62)
            refine lv_bipush (v := (-4)) hx hb dX6_stop_135 (by decide) ?_
            have hP : PP G [bX6 h0 (tx 0) (nw 0) (tr 0) (un 0) (kp 0) (wy 0) (rm 0) (pl 0) (dr 0), bX2 pl G vp, bX0 nw G vn, bX0 tr G (cnd (okStop vp x1 x2 x3 x4) (f_stop vp vn vr x1 x2 x3 x4).2 vr)] H := by
              have hok : okStop vp x1 x2 x3 x4 = true := by simp only [okStop, if_pos c_7, if_pos c_15, if_pos c_23, if_pos c_34]
              rw [hok, (hs.trans (by rw [Nat.sub_self]; rfl) : f_stop vp vn vr x1 x2 x3 x4 = (none, y))]
              exact hP
            exact kr_si hx hb hr hlocks dX6_stop_137 hP hS (sameAd_cons rfl (sameAd_cons (bX2_ad _ _ _ _) (sameAd_cons (bX0_ad _ _ _ _) (sameAd_cons (bX0_ad _ _ _ _) sameAd_nil)))) ⟨by rw [f_stopR, (by simp only [okStop, if_pos c_7, if_pos c_15, if_pos c_23, if_pos c_34] : okStop vp x1 x2 x3 x4 = true), (hs.trans (by rw [Nat.sub_self]; rfl) : f_stop vp vn vr x1 x2 x3 x4 = (none, y))]; rfl, rfl⟩
          · skip
            intro k hk_k ih_53 y H locs ls hP hD hS hl hs
            refine lv_iload hx hb dX6_stop_53 (lv_at hl 0 rfl) ?_
            refine lv_aload_n hx hb dX6_stop_55 rfl (lv_at hl 2 rfl) ?_
            refine kb_get (own := RX6) (C := RX6) (T := TX6) (N := 9) (v := .ref (pl 0)) hx hb hts hin6 hown hX hP 0 rfl rfl rfl 7 (by decide) rfl (by decide +kernel) rfl dX6_stop_56 ?_
            refine kb_getN (own := RX6) (C := RX2) (T := TX2) (N := 15) (v := .int (vp.2 9)) hx hb hts hin2 hown hX hP 1 rfl rfl rfl 9 (by decide) rfl (by decide +kernel) rfl dX6_stop_59 ?_
            refine lv_icmp_ge (tgt := 135) hx hb dX6_stop_62 (by decide) (fun c_62 => absurd c_62 (lps_c hk_k)) (fun c_62 => ?_)
            refine lv_iconst (v := 0) hx hb dX6_stop_65 (by decide) ?_
            refine lv_istore (lv' := [(7, .int 0), (6, .int (nI k)), (5, .int (1 <<< ((vp.2 9) &&& 31))), (0, .ref h0), (1, .int x1), (2, .int x2), (3, .int x3), (4, .int x4)]) hx hb dX6_stop_66 hl (by decide) rfl (fun ls hl => ?_)
            refine lp_up (N := (c_sets vp).toNatClampNeg) (P := fun o => ∀ (y2 : OV), ∀ (H : Heap) (locs : List Loc) (ls : Array Slot), PP G [bX6 h0 (tx 0) (nw 0) (tr 0) (un 0) (kp 0) (wy 0) (rm 0) (pl 0) (dr 0), bX2 pl G vp, bX0 nw G vn, bX0 tr G y2] H → DD (AA (List.flatten [bX6 h0 (tx 0) (nw 0) (tr 0) (un 0) (kp 0) (wy 0) (rm 0) (pl 0) (dr 0), bX2 pl G vp, bX0 nw G vn, bX0 tr G vr])) [bX6 h0 (tx 0) (nw 0) (tr 0) (un 0) (kp 0) (wy 0) (rm 0) (pl 0) (dr 0), bX2 pl G vp, bX0 nw G vn, bX0 tr G y2] → va_S (AA (List.flatten [bX6 h0 (tx 0) (nw 0) (tr 0) (un 0) (kp 0) (wy 0) (rm 0) (pl 0) (dr 0), bX2 pl G vp, bX0 nw G vn, bX0 tr G vr])) s.heap H locs → lv_has ls 9 [(7, .int (nI o)), (6, .int (nI k)), (5, .int (1 <<< ((vp.2 9) &&& 31))), (0, .ref h0), (1, .int x1), (2, .int x2), (3, .int x3), (4, .int x4)] → (stGo vp vn (nI k) x1 x2 x3 x4 (c_sets vp).toNatClampNeg 0 y = stGo vp vn (nI k) x1 x2 x3 x4 ((c_sets vp).toNatClampNeg - o) o y2) → W p l e (headSpec wsX6_stop rm_X6_stop).room s m ([.ref h0, .int x1, .int x2, .int x3, .int x4] : List Value).toArray below meth c H locs 0 0 (MQ below (kQs G [bX6 h0 (tx 0) (nw 0) (tr 0) (un 0) (kp 0) (wy 0) (rm 0) (pl 0) (dr 0), bX2 pl G vp, bX0 nw G vn, bX0 tr G vr] (fun r bc => r = some (.int (f_stopR vp vn vr x1 x2 x3 x4)) ∧ bc = [bX6 h0 (tx 0) (nw 0) (tr 0) (un 0) (kp 0) (wy 0) (rm 0) (pl 0) (dr 0), bX2 pl G vp, bX0 nw G vn, bX0 tr G (cnd (okStop vp x1 x2 x3 x4) (f_stop vp vn vr x1 x2 x3 x4).2 vr)])) ([.ref h0, .int x1, .int x2, .int x3, .int x4] : List Value).toArray s 0 0 (AA (List.flatten [bX6 h0 (tx 0) (nw 0) (tr 0) (un 0) (kp 0) (wy 0) (rm 0) (pl 0) (dr 0), bX2 pl G vp, bX0 nw G vn, bX0 tr G vr]))) (F0 m 68 ls [])) ?_ ?_ 0 (Nat.zero_le _) y _ _ _ hP hD hS (lv_sub hl [0, 1, 2, 3, 4, 5, 6, 7] rfl) (rfl)
            · skip
              intro y2 H locs ls hP hD hS hl hs2
              refine lv_iload hx hb dX6_stop_68 (lv_at hl 0 rfl) ?_
              refine lv_iload hx hb dX6_stop_70 (lv_at hl 2 rfl) ?_
              refine lv_icmp_ge (tgt := 129) hx hb dX6_stop_72 (by decide) (fun c_72 => ?_) (fun c_72 => absurd (lpx_c _) c_72)
              refine lv_iinc (v := nI (k + 1)) (lv' := [(6, .int (nI (k + 1))), (7, .int (nI ((c_sets vp).toNatClampNeg))), (5, .int (1 <<< ((vp.2 9) &&& 31))), (0, .ref h0), (1, .int x1), (2, .int x2), (3, .int x3), (4, .int x4)]) hx hb dX6_stop_129 hl (k := 1) rfl (nI_1 _) (by decide) rfl (fun ls hl => ?_)
              refine lv_goto (tgt := 53) hx hb dX6_stop_132 (by decide) ?_
              have hP : PP G [bX6 h0 (tx 0) (nw 0) (tr 0) (un 0) (kp 0) (wy 0) (rm 0) (pl 0) (dr 0), bX2 pl G vp, bX0 nw G vn, bX0 tr G y2] H := hP
              have hD : DD (AA (List.flatten [bX6 h0 (tx 0) (nw 0) (tr 0) (un 0) (kp 0) (wy 0) (rm 0) (pl 0) (dr 0), bX2 pl G vp, bX0 nw G vn, bX0 tr G vr])) [bX6 h0 (tx 0) (nw 0) (tr 0) (un 0) (kp 0) (wy 0) (rm 0) (pl 0) (dr 0), bX2 pl G vp, bX0 nw G vn, bX0 tr G y2] := D_re hD (adc rfl (adc (bX2_ad _ _ _ _) (adc (bX0_ad _ _ _ _) (adc (bX0_ad _ _ _ _) adn))))
              exact ih_53 y2 _ _ _ hP hD hS (show lv_has ls 9 [(6, .int (nI (k + 1))), (5, .int (1 <<< ((vp.2 9) &&& 31))), (0, .ref h0), (1, .int x1), (2, .int x2), (3, .int x3), (4, .int x4)] from lv_sub hl [0, 2, 3, 4, 5, 6, 7] rfl) (hs.trans (by rw [sub_s hk_k, stSz, (hs2.trans (by rw [Nat.sub_self]; rfl) : stGo vp vn (nI k) x1 x2 x3 x4 (c_sets vp).toNatClampNeg 0 y = (none, y2))]; rfl))
            · skip
              intro o hk_o ih_68 y2 H locs ls hP hD hS hl hs2
              refine lv_iload hx hb dX6_stop_68 (lv_at hl 0 rfl) ?_
              refine lv_iload hx hb dX6_stop_70 (lv_at hl 2 rfl) ?_
              refine lv_icmp_ge (tgt := 129) hx hb dX6_stop_72 (by decide) (fun c_72 => absurd c_72 (lps_c hk_o)) (fun c_72 => ?_)
              refine lv_iload hx hb dX6_stop_75 (lv_at hl 0 rfl) ?_
              refine kcS_p hx hb hml hown hts hX hP (c_J6_bitCount_0f7a4 l G (nI o)) gX6_stop_J6_bitCount_0f7a4 1 rfl rfl rfl hdS_J6_bitCount_0f7a4 ⟨Nat.le_of_ble_eq_true rfl, Nat.le_of_ble_eq_true rfl⟩ (fun q hq => absurd hq List.not_mem_nil) hl.1 rfl rfl (Nat.le_of_ble_eq_true rfl) dX6_stop_77 ⟨Nat.zero_le _, Nat.zero_le _⟩ ?_
              refine lv_iload hx hb dX6_stop_80 (lv_at hl 1 rfl) ?_
              refine lv_icmp_ne (tgt := 98) hx hb dX6_stop_82 (by decide) (fun c_82 => ?_) (fun c_82 => ?_)
              · refine lv_iconst (v := 0) hx hb dX6_stop_98 (by decide) ?_
                refine lv_istore (lv' := [(8, .int 0), (7, .int (nI o)), (6, .int (nI k)), (5, .int (1 <<< ((vp.2 9) &&& 31))), (0, .ref h0), (1, .int x1), (2, .int x2), (3, .int x3), (4, .int x4)]) hx hb dX6_stop_99 hl (by decide) rfl (fun ls hl => ?_)
                refine lv_iload hx hb dX6_stop_101 (lv_at hl 0 rfl) ?_
                refine lv_if_eq (tgt := 123) hx hb dX6_stop_103 (by decide) (fun c_103 => ?_) (fun c_103 => absurd (by decide) c_103)
                refine lv_iinc (v := nI (o + 1)) (lv' := [(7, .int (nI (o + 1))), (8, .int 0), (6, .int (nI k)), (5, .int (1 <<< ((vp.2 9) &&& 31))), (0, .ref h0), (1, .int x1), (2, .int x2), (3, .int x3), (4, .int x4)]) hx hb dX6_stop_123 hl (k := 1) rfl (nI_1 _) (by decide) rfl (fun ls hl => ?_)
                refine lv_goto (tgt := 68) hx hb dX6_stop_126 (by decide) ?_
                have hP : PP G [bX6 h0 (tx 0) (nw 0) (tr 0) (un 0) (kp 0) (wy 0) (rm 0) (pl 0) (dr 0), bX2 pl G vp, bX0 nw G vn, bX0 tr G y2] H := hP
                have hD : DD (AA (List.flatten [bX6 h0 (tx 0) (nw 0) (tr 0) (un 0) (kp 0) (wy 0) (rm 0) (pl 0) (dr 0), bX2 pl G vp, bX0 nw G vn, bX0 tr G vr])) [bX6 h0 (tx 0) (nw 0) (tr 0) (un 0) (kp 0) (wy 0) (rm 0) (pl 0) (dr 0), bX2 pl G vp, bX0 nw G vn, bX0 tr G y2] := D_re hD (adc rfl (adc (bX2_ad _ _ _ _) (adc (bX0_ad _ _ _ _) (adc (bX0_ad _ _ _ _) adn))))
                exact ih_68 y2 _ _ _ hP hD hS (show lv_has ls 9 [(7, .int (nI (o + 1))), (6, .int (nI k)), (5, .int (1 <<< ((vp.2 9) &&& 31))), (0, .ref h0), (1, .int x1), (2, .int x2), (3, .int x3), (4, .int x4)] from lv_sub hl [0, 2, 3, 4, 5, 6, 7, 8] rfl) (hs2.trans (by rw [sub_s hk_o]; simp only [stGo, if_pos c_7, if_pos c_15, if_pos c_23, if_pos c_34, if_neg c_62, if_neg c_72, if_neg c_82, if_pos c_103]))
              · refine lv_iload hx hb dX6_stop_85 (lv_at hl 0 rfl) ?_
                refine lv_iload_n hx hb dX6_stop_87 rfl (lv_at hl 5 rfl) ?_
                refine kcS_p hx hb hml hown hts hX hP (c_X6_holds l G (nI o) x2) gX6_stop_X6_holds 2 rfl rfl rfl hdS_X6_holds ⟨Nat.le_of_ble_eq_true rfl, Nat.le_of_ble_eq_true rfl⟩ (fun q hq => absurd hq List.not_mem_nil) hl.1 rfl rfl (Nat.le_of_ble_eq_true rfl) dX6_stop_88 ⟨Nat.zero_le _, Nat.zero_le _⟩ ?_
                refine lv_if_ne (tgt := 98) hx hb dX6_stop_91 (by decide) (fun c_91r => ?_) (fun c_91r => ?_)
                · have c_91 := b2i_tP c_91r
                  refine lv_iconst (v := 0) hx hb dX6_stop_98 (by decide) ?_
                  refine lv_istore (lv' := [(8, .int 0), (7, .int (nI o)), (6, .int (nI k)), (5, .int (1 <<< ((vp.2 9) &&& 31))), (0, .ref h0), (1, .int x1), (2, .int x2), (3, .int x3), (4, .int x4)]) hx hb dX6_stop_99 hl (by decide) rfl (fun ls hl => ?_)
                  refine lv_iload hx hb dX6_stop_101 (lv_at hl 0 rfl) ?_
                  refine lv_if_eq (tgt := 123) hx hb dX6_stop_103 (by decide) (fun c_103 => ?_) (fun c_103 => absurd (by decide) c_103)
                  refine lv_iinc (v := nI (o + 1)) (lv' := [(7, .int (nI (o + 1))), (8, .int 0), (6, .int (nI k)), (5, .int (1 <<< ((vp.2 9) &&& 31))), (0, .ref h0), (1, .int x1), (2, .int x2), (3, .int x3), (4, .int x4)]) hx hb dX6_stop_123 hl (k := 1) rfl (nI_1 _) (by decide) rfl (fun ls hl => ?_)
                  refine lv_goto (tgt := 68) hx hb dX6_stop_126 (by decide) ?_
                  have hP : PP G [bX6 h0 (tx 0) (nw 0) (tr 0) (un 0) (kp 0) (wy 0) (rm 0) (pl 0) (dr 0), bX2 pl G vp, bX0 nw G vn, bX0 tr G y2] H := hP
                  have hD : DD (AA (List.flatten [bX6 h0 (tx 0) (nw 0) (tr 0) (un 0) (kp 0) (wy 0) (rm 0) (pl 0) (dr 0), bX2 pl G vp, bX0 nw G vn, bX0 tr G vr])) [bX6 h0 (tx 0) (nw 0) (tr 0) (un 0) (kp 0) (wy 0) (rm 0) (pl 0) (dr 0), bX2 pl G vp, bX0 nw G vn, bX0 tr G y2] := D_re hD (adc rfl (adc (bX2_ad _ _ _ _) (adc (bX0_ad _ _ _ _) (adc (bX0_ad _ _ _ _) adn))))
                  exact ih_68 y2 _ _ _ hP hD hS (show lv_has ls 9 [(7, .int (nI (o + 1))), (6, .int (nI k)), (5, .int (1 <<< ((vp.2 9) &&& 31))), (0, .ref h0), (1, .int x1), (2, .int x2), (3, .int x3), (4, .int x4)] from lv_sub hl [0, 2, 3, 4, 5, 6, 7, 8] rfl) (hs2.trans (by rw [sub_s hk_o]; simp only [stGo, if_pos c_7, if_pos c_15, if_pos c_23, if_pos c_34, if_neg c_62, if_neg c_72, if_pos c_82, if_pos c_91, if_pos c_103]))
                · have c_91 := b2i_fN c_91r
                  refine lv_iconst (v := 1) hx hb dX6_stop_94 (by decide) ?_
                  refine lv_goto (tgt := 99) hx hb dX6_stop_95 (by decide) ?_
                  refine lv_istore (lv' := [(8, .int 1), (7, .int (nI o)), (6, .int (nI k)), (5, .int (1 <<< ((vp.2 9) &&& 31))), (0, .ref h0), (1, .int x1), (2, .int x2), (3, .int x3), (4, .int x4)]) hx hb dX6_stop_99 hl (by decide) rfl (fun ls hl => ?_)
                  refine lv_iload hx hb dX6_stop_101 (lv_at hl 0 rfl) ?_
                  refine lv_if_eq (tgt := 123) hx hb dX6_stop_103 (by decide) (fun c_103 => absurd c_103 (by decide)) (fun c_103 => ?_)
                  refine lv_aload_n hx hb dX6_stop_106 rfl (lv_at hl 4 rfl) ?_
                  refine lv_iload hx hb dX6_stop_107 (lv_at hl 1 rfl) ?_
                  refine lv_iload_n hx hb dX6_stop_109 rfl (lv_at hl 5 rfl) ?_
                  refine lv_iload_n hx hb dX6_stop_110 rfl (lv_at hl 6 rfl) ?_
                  refine lv_iload_n hx hb dX6_stop_111 rfl (lv_at hl 7 rfl) ?_
                  refine kcV_s hx hb hml hown hts hX hP hD hS (c_X6_grudgeBehindWith l G h0 tx nw tr un kp wy rm pl dr (nI o) x1 x2 x3 vp vn y2) gX6_stop_X6_grudgeBehindWith 4 rfl rfl rfl hd_X6_grudgeBehindWith ⟨Nat.le_of_ble_eq_true rfl, Nat.le_of_ble_eq_true rfl⟩ [0, 1, 2, 3] (by decide) rfl 0 rfl rfl rfl hl.1 rfl rfl (Nat.le_of_ble_eq_true rfl) dX6_stop_112 ⟨Nat.zero_le _, Nat.zero_le _⟩ (fun r_ bc_ hq_1 H locs hP hD hS => ?_)
                  obtain ⟨rfl, rfl⟩ := hq_1
                  have hP : PP G [bX6 h0 (tx 0) (nw 0) (tr 0) (un 0) (kp 0) (wy 0) (rm 0) (pl 0) (dr 0), bX2 pl G vp, bX0 nw G vn, bX0 tr G (f_bw vp vn y2 (nI o) x1 x3)] H := hP
                  have hD : DD (AA (List.flatten [bX6 h0 (tx 0) (nw 0) (tr 0) (un 0) (kp 0) (wy 0) (rm 0) (pl 0) (dr 0), bX2 pl G vp, bX0 nw G vn, bX0 tr G vr])) [bX6 h0 (tx 0) (nw 0) (tr 0) (un 0) (kp 0) (wy 0) (rm 0) (pl 0) (dr 0), bX2 pl G vp, bX0 nw G vn, bX0 tr G (f_bw vp vn y2 (nI o) x1 x3)] := D_re hD (adc rfl (adc (bX2_ad _ _ _ _) (adc (bX0_ad _ _ _ _) (adc (bX0_ad _ _ _ _) adn))))
                  refine lv_iload hx hb dX6_stop_115 (lv_at hl 8 rfl) ?_
                  refine lv_icmp_ge (tgt := 123) hx hb dX6_stop_117 (by decide) (fun c_117 => ?_) (fun c_117 => ?_)
                  · refine lv_iinc (v := nI (o + 1)) (lv' := [(7, .int (nI (o + 1))), (8, .int 1), (6, .int (nI k)), (5, .int (1 <<< ((vp.2 9) &&& 31))), (0, .ref h0), (1, .int x1), (2, .int x2), (3, .int x3), (4, .int x4)]) hx hb dX6_stop_123 hl (k := 1) rfl (nI_1 _) (by decide) rfl (fun ls hl => ?_)
                    refine lv_goto (tgt := 68) hx hb dX6_stop_126 (by decide) ?_
                    have hP : PP G [bX6 h0 (tx 0) (nw 0) (tr 0) (un 0) (kp 0) (wy 0) (rm 0) (pl 0) (dr 0), bX2 pl G vp, bX0 nw G vn, bX0 tr G (f_bw vp vn y2 (nI o) x1 x3)] H := hP
                    have hD : DD (AA (List.flatten [bX6 h0 (tx 0) (nw 0) (tr 0) (un 0) (kp 0) (wy 0) (rm 0) (pl 0) (dr 0), bX2 pl G vp, bX0 nw G vn, bX0 tr G vr])) [bX6 h0 (tx 0) (nw 0) (tr 0) (un 0) (kp 0) (wy 0) (rm 0) (pl 0) (dr 0), bX2 pl G vp, bX0 nw G vn, bX0 tr G (f_bw vp vn y2 (nI o) x1 x3)] := D_re hD (adc rfl (adc (bX2_ad _ _ _ _) (adc (bX0_ad _ _ _ _) (adc (bX0_ad _ _ _ _) adn))))
                    exact ih_68 (f_bw vp vn y2 (nI o) x1 x3) _ _ _ hP hD hS (show lv_has ls 9 [(7, .int (nI (o + 1))), (6, .int (nI k)), (5, .int (1 <<< ((vp.2 9) &&& 31))), (0, .ref h0), (1, .int x1), (2, .int x2), (3, .int x3), (4, .int x4)] from lv_sub hl [0, 2, 3, 4, 5, 6, 7, 8] rfl) (hs2.trans (by rw [sub_s hk_o]; simp only [stGo, if_pos c_7, if_pos c_15, if_pos c_23, if_pos c_34, if_neg c_62, if_neg c_72, if_pos c_82, if_neg c_91, if_neg c_103, if_pos c_117]))
                  · refine lv_iload hx hb dX6_stop_120 (lv_at hl 1 rfl) ?_
                    have hP : PP G [bX6 h0 (tx 0) (nw 0) (tr 0) (un 0) (kp 0) (wy 0) (rm 0) (pl 0) (dr 0), bX2 pl G vp, bX0 nw G vn, bX0 tr G (cnd (okStop vp x1 x2 x3 x4) (f_stop vp vn vr x1 x2 x3 x4).2 vr)] H := by
                      have hok : okStop vp x1 x2 x3 x4 = true := by simp only [okStop, if_pos c_7, if_pos c_15, if_pos c_23, if_pos c_34]
                      rw [hok, (hs.trans (by rw [sub_s hk_k, stSz, (hs2.trans (by rw [sub_s hk_o]; simp only [stGo, if_pos c_7, if_pos c_15, if_pos c_23, if_pos c_34, if_neg c_62, if_neg c_72, if_pos c_82, if_neg c_91, if_neg c_103, if_neg c_117]) : stGo vp vn (nI k) x1 x2 x3 x4 (c_sets vp).toNatClampNeg 0 y = (some o, f_bw vp vn y2 (nI o) x1 x3))]; rfl) : f_stop vp vn vr x1 x2 x3 x4 = (some o, f_bw vp vn y2 (nI o) x1 x3))]
                      exact hP
                    exact kr_si hx hb hr hlocks dX6_stop_122 hP hS (sameAd_cons rfl (sameAd_cons (bX2_ad _ _ _ _) (sameAd_cons (bX0_ad _ _ _ _) (sameAd_cons (bX0_ad _ _ _ _) sameAd_nil)))) ⟨by rw [f_stopR, (by simp only [okStop, if_pos c_7, if_pos c_15, if_pos c_23, if_pos c_34] : okStop vp x1 x2 x3 x4 = true), (hs.trans (by rw [sub_s hk_k, stSz, (hs2.trans (by rw [sub_s hk_o]; simp only [stGo, if_pos c_7, if_pos c_15, if_pos c_23, if_pos c_34, if_neg c_62, if_neg c_72, if_pos c_82, if_neg c_91, if_neg c_103, if_neg c_117]) : stGo vp vn (nI k) x1 x2 x3 x4 (c_sets vp).toNatClampNeg 0 y = (some o, f_bw vp vn y2 (nI o) x1 x3))]; rfl) : f_stop vp vn vr x1 x2 x3 x4 = (some o, f_bw vp vn y2 (nI o) x1 x3))]; rfl, rfl⟩
        · have c_34 := b2i_fN c_34r
          refine lv_iconst (v := (-1)) hx hb dX6_stop_37 (by decide) ?_
          have hP : PP G [bX6 h0 (tx 0) (nw 0) (tr 0) (un 0) (kp 0) (wy 0) (rm 0) (pl 0) (dr 0), bX2 pl G vp, bX0 nw G vn, bX0 tr G (cnd (okStop vp x1 x2 x3 x4) (f_stop vp vn vr x1 x2 x3 x4).2 vr)] H := by
            have hok : okStop vp x1 x2 x3 x4 = false := by simp only [okStop, if_pos c_7, if_pos c_15, if_pos c_23, if_neg c_34]
            rw [hok]
            exact hP
          exact kr_si hx hb hr hlocks dX6_stop_38 hP hS (sameAd_cons rfl (sameAd_cons (bX2_ad _ _ _ _) (sameAd_cons (bX0_ad _ _ _ _) (sameAd_cons (bX0_ad _ _ _ _) sameAd_nil)))) ⟨by rw [f_stopR, (by simp only [okStop, if_pos c_7, if_pos c_15, if_pos c_23, if_neg c_34] : okStop vp x1 x2 x3 x4 = false)]; rfl, rfl⟩

def rm_X6_goTo : Room := { frames := 4, cells := 0, slots := 0, locals := 92 }
theorem hd_X6_goTo : yX6_goTo.cls = RX6 ∧ yX6_goTo.cls ≠ "java/lang/invoke/MethodHandle" ∧ yX6_goTo.cls ≠ "java/lang/invoke/VarHandle" ∧ (parseMethodDescriptor yX6_goTo.desc).map (fun d => d.parameters.length) = some 3 := by decide +kernel
set_option maxRecDepth 100000 in
set_option maxHeartbeats 4000000 in
theorem c_X6_goTo (l : Launch) (G : GD) (h0 : Nat) (tx nw tr un kp wy rm pl dr : Nat → Nat) (x1 : Int32) (x2 : Int32) (x3 : Int32) (vp : OV) (vr : OV) (vy : OV)  : MetS l yX6_goTo wsX6_goTo rm_X6_goTo G [bX6 h0 (tx 0) (nw 0) (tr 0) (un 0) (kp 0) (wy 0) (rm 0) (pl 0) (dr 0), bX2 pl G vp, bX0 tr G vr, bX5 wy G vy] [.ref h0, .int x1, .int x2, .int x3] (fun r bc => r = none ∧ bc = [bX6 h0 (tx 0) (nw 0) (tr 0) (un 0) (kp 0) (wy 0) (rm 0) (pl 0) (dr 0), bX2 pl G vp, bX0 tr G ((f_goTo vp x1 x2 x3 (vr, vy)).1), bX5 wy G ((f_goTo vp x1 x2 x3 (vr, vy)).2)]) := by
  refine kb_beginS (cc := cX6_goTo) (maxL := 6) (ret := none) (by decide) rfl (Nat.le_of_ble_eq_true rfl) ?_
  intro p e s m below meth c hx hb hr hml hown hts hlocks hX H locs hP hD hS ls hl
  have hown : s.vm.findClass RX6 = some m.cls := hown
  have hl : lv_has ls 6 [(0, .ref h0), (1, .int x1), (2, .int x2), (3, .int x3)] := hl
  have hin0 : ∀ w ∈ u_ws RX0 TX0 6, w ∈ wsX6_goTo := (fun _ h => List.mem_cons_of_mem _ (List.mem_append_left _ (List.mem_append_left _ (List.mem_append_right _ (h)))))
  have hin6 : ∀ w ∈ u_ws RX6 TX6 9, w ∈ wsX6_goTo := (fun _ h => List.mem_cons_of_mem _ (List.mem_append_left _ (List.mem_append_left _ (List.mem_append_left _ (List.mem_append_right _ (h))))))
  refine lv_iconst (v := 0) hx hb dX6_goTo_0 (by decide) ?_
  refine lv_istore (lv' := [(4, .int 0), (0, .ref h0), (1, .int x1), (2, .int x2), (3, .int x3)]) hx hb dX6_goTo_1 hl (by decide) rfl (fun ls hl => ?_)
  refine lp_up (N := 6) (P := fun k => ∀ (u : OV), ∀ (y : OV), ∀ (H : Heap) (locs : List Loc) (ls : Array Slot), PP G [bX6 h0 (tx 0) (nw 0) (tr 0) (un 0) (kp 0) (wy 0) (rm 0) (pl 0) (dr 0), bX2 pl G vp, bX0 tr G u, bX5 wy G y] H → DD (AA (List.flatten [bX6 h0 (tx 0) (nw 0) (tr 0) (un 0) (kp 0) (wy 0) (rm 0) (pl 0) (dr 0), bX2 pl G vp, bX0 tr G vr, bX5 wy G vy])) [bX6 h0 (tx 0) (nw 0) (tr 0) (un 0) (kp 0) (wy 0) (rm 0) (pl 0) (dr 0), bX2 pl G vp, bX0 tr G u, bX5 wy G y] → va_S (AA (List.flatten [bX6 h0 (tx 0) (nw 0) (tr 0) (un 0) (kp 0) (wy 0) (rm 0) (pl 0) (dr 0), bX2 pl G vp, bX0 tr G vr, bX5 wy G vy])) s.heap H locs → lv_has ls 6 [(4, .int (nI k)), (0, .ref h0), (1, .int x1), (2, .int x2), (3, .int x3)] → (goGo vp x1 x2 x3 6 (vr, vy) = goGo vp x1 x2 x3 (6 - k) (u, y)) → W p l e (headSpec wsX6_goTo rm_X6_goTo).room s m ([.ref h0, .int x1, .int x2, .int x3] : List Value).toArray below meth c H locs 0 0 (MQ below (kQs G [bX6 h0 (tx 0) (nw 0) (tr 0) (un 0) (kp 0) (wy 0) (rm 0) (pl 0) (dr 0), bX2 pl G vp, bX0 tr G vr, bX5 wy G vy] (fun r bc => r = none ∧ bc = [bX6 h0 (tx 0) (nw 0) (tr 0) (un 0) (kp 0) (wy 0) (rm 0) (pl 0) (dr 0), bX2 pl G vp, bX0 tr G ((f_goTo vp x1 x2 x3 (vr, vy)).1), bX5 wy G ((f_goTo vp x1 x2 x3 (vr, vy)).2)])) ([.ref h0, .int x1, .int x2, .int x3] : List Value).toArray s 0 0 (AA (List.flatten [bX6 h0 (tx 0) (nw 0) (tr 0) (un 0) (kp 0) (wy 0) (rm 0) (pl 0) (dr 0), bX2 pl G vp, bX0 tr G vr, bX5 wy G vy]))) (F0 m 3 ls [])) ?_ ?_ 0 (Nat.zero_le _) vr vy _ _ _ hP hD hS (lv_sub hl [0, 1, 2, 3, 4] rfl) (rfl)
  · skip
    intro u y H locs ls hP hD hS hl hs
    refine lv_iload hx hb dX6_goTo_3 (lv_at hl 0 rfl) ?_
    refine lv_bipush (v := 6) hx hb dX6_goTo_5 (by decide) ?_
    refine lv_icmp_ge (tgt := 80) hx hb dX6_goTo_7 (by decide) (fun c_7 => ?_) (fun c_7 => absurd ((by decide : (6 : Int32) ≤ nI 6)) c_7)
    have hP : PP G [bX6 h0 (tx 0) (nw 0) (tr 0) (un 0) (kp 0) (wy 0) (rm 0) (pl 0) (dr 0), bX2 pl G vp, bX0 tr G ((f_goTo vp x1 x2 x3 (vr, vy)).1), bX5 wy G ((f_goTo vp x1 x2 x3 (vr, vy)).2)] H := by
      rw [f_goTo, hs, Nat.sub_self]
      exact hP
    exact kr_sv hx hb hr hlocks dX6_goTo_80 hP hS (sameAd_cons rfl (sameAd_cons (bX2_ad _ _ _ _) (sameAd_cons (bX0_ad _ _ _ _) (sameAd_cons (bX5_ad _ _ _ _) sameAd_nil)))) ⟨rfl, rfl⟩
  · skip
    intro k hk_k ih_3 u y H locs ls hP hD hS hl hs
    refine lv_iload hx hb dX6_goTo_3 (lv_at hl 0 rfl) ?_
    refine lv_bipush (v := 6) hx hb dX6_goTo_5 (by decide) ?_
    refine lv_icmp_ge (tgt := 80) hx hb dX6_goTo_7 (by decide) (fun c_7 => absurd c_7 (nI_ge (b := 6) hk_k (by decide))) (fun c_7 => ?_)
    refine lv_aload_n hx hb dX6_goTo_10 rfl (lv_at hl 1 rfl) ?_
    refine kb_get (own := RX6) (C := RX6) (T := TX6) (N := 9) (v := .ref (wy 0)) hx hb hts hin6 hown hX hP 0 rfl rfl rfl 5 (by decide) rfl (by decide +kernel) rfl dX6_goTo_11 ?_
    refine lv_aload_n hx hb dX6_goTo_14 rfl (lv_at hl 1 rfl) ?_
    refine kb_get (own := RX6) (C := RX6) (T := TX6) (N := 9) (v := .ref (pl 0)) hx hb hts hin6 hown hX hP 0 rfl rfl rfl 7 (by decide) rfl (by decide +kernel) rfl dX6_goTo_15 ?_
    refine lv_aload_n hx hb dX6_goTo_18 rfl (lv_at hl 1 rfl) ?_
    refine kb_get (own := RX6) (C := RX6) (T := TX6) (N := 9) (v := .ref (tr 0)) hx hb hts hin6 hown hX hP 0 rfl rfl rfl 2 (by decide) rfl (by decide +kernel) rfl dX6_goTo_19 ?_
    refine lv_iload_n hx hb dX6_goTo_22 rfl (lv_at hl 2 rfl) ?_
    refine lv_iload_n hx hb dX6_goTo_23 rfl (lv_at hl 3 rfl) ?_
    refine lv_iconst (v := 0) hx hb dX6_goTo_24 (by decide) ?_
    refine kcV_s hx hb hml hown hts hX hP hD hS (c_X5_measure l G wy y pl vp tr u x1 x2 0) gX6_goTo_X5_measure 5 rfl rfl rfl hd_X5_measure ⟨Nat.le_of_ble_eq_true rfl, Nat.le_of_ble_eq_true rfl⟩ [3, 1, 2] (by decide) rfl 3 rfl rfl rfl hl.1 rfl rfl (Nat.le_of_ble_eq_true rfl) dX6_goTo_25 ⟨Nat.zero_le _, Nat.zero_le _⟩ (fun r_ bc_ hq_1 H locs hP hD hS => ?_)
    obtain ⟨rfl, rfl⟩ := hq_1
    have hP : PP G [bX6 h0 (tx 0) (nw 0) (tr 0) (un 0) (kp 0) (wy 0) (rm 0) (pl 0) (dr 0), bX2 pl G vp, bX0 tr G u, bX5 wy G (f_X5_measure y vp u x1 x2 0)] H := hP
    have hD : DD (AA (List.flatten [bX6 h0 (tx 0) (nw 0) (tr 0) (un 0) (kp 0) (wy 0) (rm 0) (pl 0) (dr 0), bX2 pl G vp, bX0 tr G vr, bX5 wy G vy])) [bX6 h0 (tx 0) (nw 0) (tr 0) (un 0) (kp 0) (wy 0) (rm 0) (pl 0) (dr 0), bX2 pl G vp, bX0 tr G u, bX5 wy G (f_X5_measure y vp u x1 x2 0)] := D_re hD (adc rfl (adc (bX2_ad _ _ _ _) (adc (bX0_ad _ _ _ _) (adc (bX5_ad _ _ _ _) adn))))
    refine lv_aload_n hx hb dX6_goTo_28 rfl (lv_at hl 1 rfl) ?_
    refine kb_get (own := RX6) (C := RX6) (T := TX6) (N := 9) (v := .ref (wy 0)) hx hb hts hin6 hown hX hP 0 rfl rfl rfl 5 (by decide) rfl (by decide +kernel) rfl dX6_goTo_29 ?_
    refine lv_aload_n hx hb dX6_goTo_32 rfl (lv_at hl 1 rfl) ?_
    refine kb_get (own := RX6) (C := RX6) (T := TX6) (N := 9) (v := .ref (pl 0)) hx hb hts hin6 hown hX hP 0 rfl rfl rfl 7 (by decide) rfl (by decide +kernel) rfl dX6_goTo_33 ?_
    refine lv_aload_n hx hb dX6_goTo_36 rfl (lv_at hl 1 rfl) ?_
    refine kb_get (own := RX6) (C := RX6) (T := TX6) (N := 9) (v := .ref (tr 0)) hx hb hts hin6 hown hX hP 0 rfl rfl rfl 2 (by decide) rfl (by decide +kernel) rfl dX6_goTo_37 ?_
    refine kb_getN (own := RX6) (C := RX0) (T := TX0) (N := 6) (v := .ref (tr 4)) hx hb hts hin0 hown hX hP 2 rfl rfl rfl 3 (by decide) rfl (by decide +kernel) rfl dX6_goTo_40 ?_
    refine lv_iload_n hx hb dX6_goTo_43 rfl (lv_at hl 2 rfl) ?_
    refine kcS_p hx hb hml hown hts hX hP (c_X6_at l G (tr 4) 4 (u.1 3) x1 (by decide)) gX6_goTo_X6_at 2 rfl rfl rfl hdS_X6_at ⟨Nat.le_of_ble_eq_true rfl, Nat.le_of_ble_eq_true rfl⟩ (cell_in (i := 2) (j := 4) rfl rfl) hl.1 rfl rfl (Nat.le_of_ble_eq_true rfl) dX6_goTo_44 ⟨Nat.zero_le _, Nat.zero_le _⟩ ?_
    refine kcV_p hx hb hml hown hts hX hP (c_X5_lowestDoorFrom l G wy (f_X5_measure y vp u x1 x2 0) pl vp (rAt (u.1 3) 4 x1)) gX6_goTo_X5_lowestDoorFrom 2 rfl rfl rfl hd_X5_lowestDoorFrom ⟨Nat.le_of_ble_eq_true rfl, Nat.le_of_ble_eq_true rfl⟩ [3, 1] rfl 3 rfl rfl rfl hl.1 rfl rfl (Nat.le_of_ble_eq_true rfl) dX6_goTo_47 ⟨Nat.zero_le _, Nat.zero_le _⟩ ?_
    refine lv_istore (lv' := [(5, .int (f_X5_lowest (f_X5_measure y vp u x1 x2 0) vp (rAt (u.1 3) 4 x1))), (4, .int (nI k)), (0, .ref h0), (1, .int x1), (2, .int x2), (3, .int x3)]) hx hb dX6_goTo_50 hl (by decide) rfl (fun ls hl => ?_)
    refine lv_iload hx hb dX6_goTo_52 (lv_at hl 0 rfl) ?_
    refine lv_if_ge (tgt := 58) hx hb dX6_goTo_54 (by decide) (fun c_54 => ?_) (fun c_54 => ?_)
    · refine lv_aload_n hx hb dX6_goTo_58 rfl (lv_at hl 2 rfl) ?_
      refine kb_get (own := RX6) (C := RX6) (T := TX6) (N := 9) (v := .ref (tr 0)) hx hb hts hin6 hown hX hP 0 rfl rfl rfl 2 (by decide) rfl (by decide +kernel) rfl dX6_goTo_59 ?_
      refine lv_aload_n hx hb dX6_goTo_62 rfl (lv_at hl 2 rfl) ?_
      refine kb_get (own := RX6) (C := RX6) (T := TX6) (N := 9) (v := .ref (pl 0)) hx hb hts hin6 hown hX hP 0 rfl rfl rfl 7 (by decide) rfl (by decide +kernel) rfl dX6_goTo_63 ?_
      refine lv_iload_n hx hb dX6_goTo_66 rfl (lv_at hl 3 rfl) ?_
      refine lv_iload hx hb dX6_goTo_67 (lv_at hl 0 rfl) ?_
      refine lv_iload_n hx hb dX6_goTo_69 rfl (lv_at hl 5 rfl) ?_
      refine kcV_s hx hb hml hown hts hX hP hD hS (c_X0_passThrough l G tr u pl vp x1 (f_X5_lowest (f_X5_measure y vp u x1 x2 0) vp (rAt (u.1 3) 4 x1)) x3) gX6_goTo_X0_passThrough 4 rfl rfl rfl hd_X0_passThrough ⟨Nat.le_of_ble_eq_true rfl, Nat.le_of_ble_eq_true rfl⟩ [2, 1] (by decide) rfl 2 rfl rfl rfl hl.1 rfl rfl (Nat.le_of_ble_eq_true rfl) dX6_goTo_70 ⟨Nat.zero_le _, Nat.zero_le _⟩ (fun r_ bc_ hq_2 H locs hP hD hS => ?_)
      obtain ⟨rfl, rfl⟩ := hq_2
      have hP : PP G [bX6 h0 (tx 0) (nw 0) (tr 0) (un 0) (kp 0) (wy 0) (rm 0) (pl 0) (dr 0), bX2 pl G vp, bX0 tr G (f_X0_passThrough u vp x1 (f_X5_lowest (f_X5_measure y vp u x1 x2 0) vp (rAt (u.1 3) 4 x1)) x3), bX5 wy G (f_X5_measure y vp u x1 x2 0)] H := hP
      have hD : DD (AA (List.flatten [bX6 h0 (tx 0) (nw 0) (tr 0) (un 0) (kp 0) (wy 0) (rm 0) (pl 0) (dr 0), bX2 pl G vp, bX0 tr G vr, bX5 wy G vy])) [bX6 h0 (tx 0) (nw 0) (tr 0) (un 0) (kp 0) (wy 0) (rm 0) (pl 0) (dr 0), bX2 pl G vp, bX0 tr G (f_X0_passThrough u vp x1 (f_X5_lowest (f_X5_measure y vp u x1 x2 0) vp (rAt (u.1 3) 4 x1)) x3), bX5 wy G (f_X5_measure y vp u x1 x2 0)] := D_re hD (adc rfl (adc (bX2_ad _ _ _ _) (adc (bX0_ad _ _ _ _) (adc (bX5_ad _ _ _ _) adn))))
      refine lv_pop hx hb dX6_goTo_73 rfl ?_
      refine lv_iinc (v := nI (k + 1)) (lv' := [(4, .int (nI (k + 1))), (5, .int (f_X5_lowest (f_X5_measure y vp u x1 x2 0) vp (rAt (u.1 3) 4 x1))), (0, .ref h0), (1, .int x1), (2, .int x2), (3, .int x3)]) hx hb dX6_goTo_74 hl (k := 1) rfl (nI_1 _) (by decide) rfl (fun ls hl => ?_)
      refine lv_goto (tgt := 3) hx hb dX6_goTo_77 (by decide) ?_
      have hP : PP G [bX6 h0 (tx 0) (nw 0) (tr 0) (un 0) (kp 0) (wy 0) (rm 0) (pl 0) (dr 0), bX2 pl G vp, bX0 tr G (f_X0_passThrough u vp x1 (f_X5_lowest (f_X5_measure y vp u x1 x2 0) vp (rAt (u.1 3) 4 x1)) x3), bX5 wy G (f_X5_measure y vp u x1 x2 0)] H := hP
      have hD : DD (AA (List.flatten [bX6 h0 (tx 0) (nw 0) (tr 0) (un 0) (kp 0) (wy 0) (rm 0) (pl 0) (dr 0), bX2 pl G vp, bX0 tr G vr, bX5 wy G vy])) [bX6 h0 (tx 0) (nw 0) (tr 0) (un 0) (kp 0) (wy 0) (rm 0) (pl 0) (dr 0), bX2 pl G vp, bX0 tr G (f_X0_passThrough u vp x1 (f_X5_lowest (f_X5_measure y vp u x1 x2 0) vp (rAt (u.1 3) 4 x1)) x3), bX5 wy G (f_X5_measure y vp u x1 x2 0)] := D_re hD (adc rfl (adc (bX2_ad _ _ _ _) (adc (bX0_ad _ _ _ _) (adc (bX5_ad _ _ _ _) adn))))
      exact ih_3 (f_X0_passThrough u vp x1 (f_X5_lowest (f_X5_measure y vp u x1 x2 0) vp (rAt (u.1 3) 4 x1)) x3) (f_X5_measure y vp u x1 x2 0) _ _ _ hP hD hS (show lv_has ls 6 [(4, .int (nI (k + 1))), (0, .ref h0), (1, .int x1), (2, .int x2), (3, .int x3)] from lv_sub hl [0, 2, 3, 4, 5] rfl) (hs.trans (by rw [sub_s hk_k]; simp only [goGo, if_neg c_7, if_pos c_54]))
    · have hP : PP G [bX6 h0 (tx 0) (nw 0) (tr 0) (un 0) (kp 0) (wy 0) (rm 0) (pl 0) (dr 0), bX2 pl G vp, bX0 tr G ((f_goTo vp x1 x2 x3 (vr, vy)).1), bX5 wy G ((f_goTo vp x1 x2 x3 (vr, vy)).2)] H := by
        rw [f_goTo, hs, sub_s hk_k]
        simp only [goGo, if_neg c_7, if_neg c_54]
        exact hP
      exact kr_sv hx hb hr hlocks dX6_goTo_57 hP hS (sameAd_cons rfl (sameAd_cons (bX2_ad _ _ _ _) (sameAd_cons (bX0_ad _ _ _ _) (sameAd_cons (bX5_ad _ _ _ _) sameAd_nil)))) ⟨rfl, rfl⟩

def rm_X6_goThereAndBack : Room := { frames := 5, cells := 0, slots := 0, locals := 117 }
theorem hd_X6_goThereAndBack : yX6_goThereAndBack.cls = RX6 ∧ yX6_goThereAndBack.cls ≠ "java/lang/invoke/MethodHandle" ∧ yX6_goThereAndBack.cls ≠ "java/lang/invoke/VarHandle" ∧ (parseMethodDescriptor yX6_goThereAndBack.desc).map (fun d => d.parameters.length) = some 1 := by decide +kernel
set_option maxRecDepth 100000 in
set_option maxHeartbeats 4000000 in
theorem c_X6_goThereAndBack (l : Launch) (G : GD) (h0 : Nat) (tx nw tr un kp wy rm pl dr : Nat → Nat) (x1 : Int32) (vp : OV) (vr : OV) (vy : OV)  : MetS l yX6_goThereAndBack wsX6_goThereAndBack rm_X6_goThereAndBack G [bX6 h0 (tx 0) (nw 0) (tr 0) (un 0) (kp 0) (wy 0) (rm 0) (pl 0) (dr 0), bX2 pl G vp, bX0 tr G vr, bX5 wy G vy] [.ref h0, .int x1] (fun r bc => r = none ∧ bc = [bX6 h0 (tx 0) (nw 0) (tr 0) (un 0) (kp 0) (wy 0) (rm 0) (pl 0) (dr 0), bX2 pl G vp, bX0 tr G ((f_there vp x1 (vr, vy)).1), bX5 wy G ((f_there vp x1 (vr, vy)).2)]) := by
  refine kb_beginS (cc := cX6_goThereAndBack) (maxL := 5) (ret := none) (by decide) rfl (Nat.le_of_ble_eq_true rfl) ?_
  intro p e s m below meth c hx hb hr hml hown hts hlocks hX H locs hP hD hS ls hl
  have hown : s.vm.findClass RX6 = some m.cls := hown
  have hl : lv_has ls 5 [(0, .ref h0), (1, .int x1)] := hl
  have hin0 : ∀ w ∈ u_ws RX0 TX0 6, w ∈ wsX6_goThereAndBack := (fun _ h => List.mem_cons_of_mem _ (List.mem_append_left _ (List.mem_append_right _ (h))))
  have hin2 : ∀ w ∈ u_ws RX2 TX2 15, w ∈ wsX6_goThereAndBack := (fun _ h => List.mem_cons_of_mem _ (List.mem_append_left _ (List.mem_append_left _ (List.mem_append_right _ (h)))))
  have hin6 : ∀ w ∈ u_ws RX6 TX6 9, w ∈ wsX6_goThereAndBack := (fun _ h => List.mem_cons_of_mem _ (List.mem_append_left _ (List.mem_append_left _ (List.mem_append_left _ (List.mem_append_right _ (h))))))
  refine lv_aload_n hx hb dX6_goThereAndBack_0 rfl (lv_at hl 0 rfl) ?_
  refine kb_get (own := RX6) (C := RX6) (T := TX6) (N := 9) (v := .ref (pl 0)) hx hb hts hin6 hown hX hP 0 rfl rfl rfl 7 (by decide) rfl (by decide +kernel) rfl dX6_goThereAndBack_1 ?_
  refine kb_getN (own := RX6) (C := RX2) (T := TX2) (N := 15) (v := .int (vp.2 10)) hx hb hts hin2 hown hX hP 1 rfl rfl rfl 10 (by decide) rfl (by decide +kernel) rfl dX6_goThereAndBack_4 ?_
  refine lv_iconst (v := 1) hx hb dX6_goThereAndBack_7 (by decide) ?_
  refine lv_icmp_ge (tgt := 12) hx hb dX6_goThereAndBack_8 (by decide) (fun c_8 => ?_) (fun c_8 => ?_)
  · refine lv_iload_n hx hb dX6_goThereAndBack_12 rfl (lv_at hl 1 rfl) ?_
    refine lv_aload_n hx hb dX6_goThereAndBack_13 rfl (lv_at hl 0 rfl) ?_
    refine kb_get (own := RX6) (C := RX6) (T := TX6) (N := 9) (v := .ref (pl 0)) hx hb hts hin6 hown hX hP 0 rfl rfl rfl 7 (by decide) rfl (by decide +kernel) rfl dX6_goThereAndBack_14 ?_
    refine kb_getN (own := RX6) (C := RX2) (T := TX2) (N := 15) (v := .int (vp.2 10)) hx hb hts hin2 hown hX hP 1 rfl rfl rfl 10 (by decide) rfl (by decide +kernel) rfl dX6_goThereAndBack_17 ?_
    refine lv_irem hx hb dX6_goThereAndBack_20 (fun e => absurd (show (1 : Int32) ≤ 0 from by rw [← e]; exact c_8) (by decide)) ?_
    refine lv_istore_n (lv' := [(2, .int (x1 - x1 / (vp.2 10) * (vp.2 10))), (0, .ref h0), (1, .int x1)]) hx hb dX6_goThereAndBack_21 rfl hl (by decide) rfl (fun ls hl => ?_)
    refine lv_iload_n hx hb dX6_goThereAndBack_22 rfl (lv_at hl 2 rfl) ?_
    refine lv_bipush (v := 8) hx hb dX6_goThereAndBack_23 (by decide) ?_
    refine lv_idiv hx hb dX6_goThereAndBack_25 (by decide) ?_
    refine lv_iconst (v := 2) hx hb dX6_goThereAndBack_26 (by decide) ?_
    refine lv_irem hx hb dX6_goThereAndBack_27 (by decide) ?_
    refine lv_iconst (v := 1) hx hb dX6_goThereAndBack_28 (by decide) ?_
    refine lv_icmp_ne (tgt := 36) hx hb dX6_goThereAndBack_29 (by decide) (fun c_29 => ?_) (fun c_29 => ?_)
    · refine lv_iconst (v := 0) hx hb dX6_goThereAndBack_36 (by decide) ?_
      refine lv_istore_n (lv' := [(3, .int 0), (2, .int (x1 - x1 / (vp.2 10) * (vp.2 10))), (0, .ref h0), (1, .int x1)]) hx hb dX6_goThereAndBack_37 rfl hl (by decide) rfl (fun ls hl => ?_)
      refine lv_aload_n hx hb dX6_goThereAndBack_38 rfl (lv_at hl 2 rfl) ?_
      refine kb_get (own := RX6) (C := RX6) (T := TX6) (N := 9) (v := .ref (tr 0)) hx hb hts hin6 hown hX hP 0 rfl rfl rfl 2 (by decide) rfl (by decide +kernel) rfl dX6_goThereAndBack_39 ?_
      refine kb_getN (own := RX6) (C := RX0) (T := TX0) (N := 6) (v := .ref (tr 4)) hx hb hts hin0 hown hX hP 2 rfl rfl rfl 3 (by decide) rfl (by decide +kernel) rfl dX6_goThereAndBack_42 ?_
      refine lv_iload_n hx hb dX6_goThereAndBack_45 rfl (lv_at hl 1 rfl) ?_
      refine kcS_p hx hb hml hown hts hX hP (c_X6_at l G (tr 4) 4 (vr.1 3) (x1 - x1 / (vp.2 10) * (vp.2 10)) (by decide)) gX6_goThereAndBack_X6_at 2 rfl rfl rfl hdS_X6_at ⟨Nat.le_of_ble_eq_true rfl, Nat.le_of_ble_eq_true rfl⟩ (cell_in (i := 2) (j := 4) rfl rfl) hl.1 rfl rfl (Nat.le_of_ble_eq_true rfl) dX6_goThereAndBack_46 ⟨Nat.zero_le _, Nat.zero_le _⟩ ?_
      refine lv_istore (lv' := [(4, .int (rAt (vr.1 3) 4 (x1 - x1 / (vp.2 10) * (vp.2 10)))), (3, .int 0), (2, .int (x1 - x1 / (vp.2 10) * (vp.2 10))), (0, .ref h0), (1, .int x1)]) hx hb dX6_goThereAndBack_49 hl (by decide) rfl (fun ls hl => ?_)
      refine lv_aload_n hx hb dX6_goThereAndBack_51 rfl (lv_at hl 3 rfl) ?_
      refine lv_iload_n hx hb dX6_goThereAndBack_52 rfl (lv_at hl 2 rfl) ?_
      refine lv_aload_n hx hb dX6_goThereAndBack_53 rfl (lv_at hl 3 rfl) ?_
      refine kb_get (own := RX6) (C := RX6) (T := TX6) (N := 9) (v := .ref (pl 0)) hx hb hts hin6 hown hX hP 0 rfl rfl rfl 7 (by decide) rfl (by decide +kernel) rfl dX6_goThereAndBack_54 ?_
      refine kb_getN (own := RX6) (C := RX2) (T := TX2) (N := 15) (v := .ref (pl 7)) hx hb hts hin2 hown hX hP 1 rfl rfl rfl 6 (by decide) rfl (by decide +kernel) rfl dX6_goThereAndBack_57 ?_
      refine lv_iload_n hx hb dX6_goThereAndBack_60 rfl (lv_at hl 2 rfl) ?_
      refine kcS_p hx hb hml hown hts hX hP (c_X6_at l G (pl 7) 4 (vp.1 6) (x1 - x1 / (vp.2 10) * (vp.2 10)) (by decide)) gX6_goThereAndBack_X6_at 2 rfl rfl rfl hdS_X6_at ⟨Nat.le_of_ble_eq_true rfl, Nat.le_of_ble_eq_true rfl⟩ (cell_in (i := 1) (j := 7) rfl rfl) hl.1 rfl rfl (Nat.le_of_ble_eq_true rfl) dX6_goThereAndBack_61 ⟨Nat.zero_le _, Nat.zero_le _⟩ ?_
      refine lv_iload_n hx hb dX6_goThereAndBack_64 rfl (lv_at hl 1 rfl) ?_
      refine kcV_s hx hb hml hown hts hX hP hD hS (c_X6_goTo l G h0 tx nw tr un kp wy rm pl dr (x1 - x1 / (vp.2 10) * (vp.2 10)) (rAt (vp.1 6) 4 (x1 - x1 / (vp.2 10) * (vp.2 10))) 0 vp vr vy) gX6_goThereAndBack_X6_goTo 3 rfl rfl rfl hd_X6_goTo ⟨Nat.le_of_ble_eq_true rfl, Nat.le_of_ble_eq_true rfl⟩ [0, 1, 2, 3] (by decide) rfl 0 rfl rfl rfl hl.1 rfl rfl (Nat.le_of_ble_eq_true rfl) dX6_goThereAndBack_65 ⟨Nat.zero_le _, Nat.zero_le _⟩ (fun r_ bc_ hq_1 H locs hP hD hS => ?_)
      obtain ⟨rfl, rfl⟩ := hq_1
      have hP : PP G [bX6 h0 (tx 0) (nw 0) (tr 0) (un 0) (kp 0) (wy 0) (rm 0) (pl 0) (dr 0), bX2 pl G vp, bX0 tr G ((f_goTo vp (x1 - x1 / (vp.2 10) * (vp.2 10)) (rAt (vp.1 6) 4 (x1 - x1 / (vp.2 10) * (vp.2 10))) 0 (vr, vy)).1), bX5 wy G ((f_goTo vp (x1 - x1 / (vp.2 10) * (vp.2 10)) (rAt (vp.1 6) 4 (x1 - x1 / (vp.2 10) * (vp.2 10))) 0 (vr, vy)).2)] H := hP
      have hD : DD (AA (List.flatten [bX6 h0 (tx 0) (nw 0) (tr 0) (un 0) (kp 0) (wy 0) (rm 0) (pl 0) (dr 0), bX2 pl G vp, bX0 tr G vr, bX5 wy G vy])) [bX6 h0 (tx 0) (nw 0) (tr 0) (un 0) (kp 0) (wy 0) (rm 0) (pl 0) (dr 0), bX2 pl G vp, bX0 tr G ((f_goTo vp (x1 - x1 / (vp.2 10) * (vp.2 10)) (rAt (vp.1 6) 4 (x1 - x1 / (vp.2 10) * (vp.2 10))) 0 (vr, vy)).1), bX5 wy G ((f_goTo vp (x1 - x1 / (vp.2 10) * (vp.2 10)) (rAt (vp.1 6) 4 (x1 - x1 / (vp.2 10) * (vp.2 10))) 0 (vr, vy)).2)] := D_re hD (adc rfl (adc (bX2_ad _ _ _ _) (adc (bX0_ad _ _ _ _) (adc (bX5_ad _ _ _ _) adn))))
      refine lv_aload_n hx hb dX6_goThereAndBack_68 rfl (lv_at hl 3 rfl) ?_
      refine lv_iload_n hx hb dX6_goThereAndBack_69 rfl (lv_at hl 2 rfl) ?_
      refine lv_iload hx hb dX6_goThereAndBack_70 (lv_at hl 0 rfl) ?_
      refine lv_iload_n hx hb dX6_goThereAndBack_72 rfl (lv_at hl 1 rfl) ?_
      refine kcV_s hx hb hml hown hts hX hP hD hS (c_X6_goTo l G h0 tx nw tr un kp wy rm pl dr (x1 - x1 / (vp.2 10) * (vp.2 10)) (rAt (vr.1 3) 4 (x1 - x1 / (vp.2 10) * (vp.2 10))) 0 vp ((f_goTo vp (x1 - x1 / (vp.2 10) * (vp.2 10)) (rAt (vp.1 6) 4 (x1 - x1 / (vp.2 10) * (vp.2 10))) 0 (vr, vy)).1) ((f_goTo vp (x1 - x1 / (vp.2 10) * (vp.2 10)) (rAt (vp.1 6) 4 (x1 - x1 / (vp.2 10) * (vp.2 10))) 0 (vr, vy)).2)) gX6_goThereAndBack_X6_goTo 3 rfl rfl rfl hd_X6_goTo ⟨Nat.le_of_ble_eq_true rfl, Nat.le_of_ble_eq_true rfl⟩ [0, 1, 2, 3] (by decide) rfl 0 rfl rfl rfl hl.1 rfl rfl (Nat.le_of_ble_eq_true rfl) dX6_goThereAndBack_73 ⟨Nat.zero_le _, Nat.zero_le _⟩ (fun r_ bc_ hq_2 H locs hP hD hS => ?_)
      obtain ⟨rfl, rfl⟩ := hq_2
      have hP : PP G [bX6 h0 (tx 0) (nw 0) (tr 0) (un 0) (kp 0) (wy 0) (rm 0) (pl 0) (dr 0), bX2 pl G vp, bX0 tr G ((f_goTo vp (x1 - x1 / (vp.2 10) * (vp.2 10)) (rAt (vr.1 3) 4 (x1 - x1 / (vp.2 10) * (vp.2 10))) 0 (((f_goTo vp (x1 - x1 / (vp.2 10) * (vp.2 10)) (rAt (vp.1 6) 4 (x1 - x1 / (vp.2 10) * (vp.2 10))) 0 (vr, vy)).1), ((f_goTo vp (x1 - x1 / (vp.2 10) * (vp.2 10)) (rAt (vp.1 6) 4 (x1 - x1 / (vp.2 10) * (vp.2 10))) 0 (vr, vy)).2))).1), bX5 wy G ((f_goTo vp (x1 - x1 / (vp.2 10) * (vp.2 10)) (rAt (vr.1 3) 4 (x1 - x1 / (vp.2 10) * (vp.2 10))) 0 (((f_goTo vp (x1 - x1 / (vp.2 10) * (vp.2 10)) (rAt (vp.1 6) 4 (x1 - x1 / (vp.2 10) * (vp.2 10))) 0 (vr, vy)).1), ((f_goTo vp (x1 - x1 / (vp.2 10) * (vp.2 10)) (rAt (vp.1 6) 4 (x1 - x1 / (vp.2 10) * (vp.2 10))) 0 (vr, vy)).2))).2)] H := hP
      have hD : DD (AA (List.flatten [bX6 h0 (tx 0) (nw 0) (tr 0) (un 0) (kp 0) (wy 0) (rm 0) (pl 0) (dr 0), bX2 pl G vp, bX0 tr G vr, bX5 wy G vy])) [bX6 h0 (tx 0) (nw 0) (tr 0) (un 0) (kp 0) (wy 0) (rm 0) (pl 0) (dr 0), bX2 pl G vp, bX0 tr G ((f_goTo vp (x1 - x1 / (vp.2 10) * (vp.2 10)) (rAt (vr.1 3) 4 (x1 - x1 / (vp.2 10) * (vp.2 10))) 0 (((f_goTo vp (x1 - x1 / (vp.2 10) * (vp.2 10)) (rAt (vp.1 6) 4 (x1 - x1 / (vp.2 10) * (vp.2 10))) 0 (vr, vy)).1), ((f_goTo vp (x1 - x1 / (vp.2 10) * (vp.2 10)) (rAt (vp.1 6) 4 (x1 - x1 / (vp.2 10) * (vp.2 10))) 0 (vr, vy)).2))).1), bX5 wy G ((f_goTo vp (x1 - x1 / (vp.2 10) * (vp.2 10)) (rAt (vr.1 3) 4 (x1 - x1 / (vp.2 10) * (vp.2 10))) 0 (((f_goTo vp (x1 - x1 / (vp.2 10) * (vp.2 10)) (rAt (vp.1 6) 4 (x1 - x1 / (vp.2 10) * (vp.2 10))) 0 (vr, vy)).1), ((f_goTo vp (x1 - x1 / (vp.2 10) * (vp.2 10)) (rAt (vp.1 6) 4 (x1 - x1 / (vp.2 10) * (vp.2 10))) 0 (vr, vy)).2))).2)] := D_re hD (adc rfl (adc (bX2_ad _ _ _ _) (adc (bX0_ad _ _ _ _) (adc (bX5_ad _ _ _ _) adn))))
      have hP : PP G [bX6 h0 (tx 0) (nw 0) (tr 0) (un 0) (kp 0) (wy 0) (rm 0) (pl 0) (dr 0), bX2 pl G vp, bX0 tr G ((f_there vp x1 (vr, vy)).1), bX5 wy G ((f_there vp x1 (vr, vy)).2)] H := by
        have hz : th_z x1 = 0 := if_neg c_29
        rw [there_eq c_8 hz]
        exact hP
      exact kr_sv hx hb hr hlocks dX6_goThereAndBack_76 hP hS (sameAd_cons rfl (sameAd_cons (bX2_ad _ _ _ _) (sameAd_cons (bX0_ad _ _ _ _) (sameAd_cons (bX5_ad _ _ _ _) sameAd_nil)))) ⟨rfl, rfl⟩
    · refine lv_iconst (v := 1) hx hb dX6_goThereAndBack_32 (by decide) ?_
      refine lv_goto (tgt := 37) hx hb dX6_goThereAndBack_33 (by decide) ?_
      refine lv_istore_n (lv' := [(3, .int 1), (2, .int (x1 - x1 / (vp.2 10) * (vp.2 10))), (0, .ref h0), (1, .int x1)]) hx hb dX6_goThereAndBack_37 rfl hl (by decide) rfl (fun ls hl => ?_)
      refine lv_aload_n hx hb dX6_goThereAndBack_38 rfl (lv_at hl 2 rfl) ?_
      refine kb_get (own := RX6) (C := RX6) (T := TX6) (N := 9) (v := .ref (tr 0)) hx hb hts hin6 hown hX hP 0 rfl rfl rfl 2 (by decide) rfl (by decide +kernel) rfl dX6_goThereAndBack_39 ?_
      refine kb_getN (own := RX6) (C := RX0) (T := TX0) (N := 6) (v := .ref (tr 4)) hx hb hts hin0 hown hX hP 2 rfl rfl rfl 3 (by decide) rfl (by decide +kernel) rfl dX6_goThereAndBack_42 ?_
      refine lv_iload_n hx hb dX6_goThereAndBack_45 rfl (lv_at hl 1 rfl) ?_
      refine kcS_p hx hb hml hown hts hX hP (c_X6_at l G (tr 4) 4 (vr.1 3) (x1 - x1 / (vp.2 10) * (vp.2 10)) (by decide)) gX6_goThereAndBack_X6_at 2 rfl rfl rfl hdS_X6_at ⟨Nat.le_of_ble_eq_true rfl, Nat.le_of_ble_eq_true rfl⟩ (cell_in (i := 2) (j := 4) rfl rfl) hl.1 rfl rfl (Nat.le_of_ble_eq_true rfl) dX6_goThereAndBack_46 ⟨Nat.zero_le _, Nat.zero_le _⟩ ?_
      refine lv_istore (lv' := [(4, .int (rAt (vr.1 3) 4 (x1 - x1 / (vp.2 10) * (vp.2 10)))), (3, .int 1), (2, .int (x1 - x1 / (vp.2 10) * (vp.2 10))), (0, .ref h0), (1, .int x1)]) hx hb dX6_goThereAndBack_49 hl (by decide) rfl (fun ls hl => ?_)
      refine lv_aload_n hx hb dX6_goThereAndBack_51 rfl (lv_at hl 3 rfl) ?_
      refine lv_iload_n hx hb dX6_goThereAndBack_52 rfl (lv_at hl 2 rfl) ?_
      refine lv_aload_n hx hb dX6_goThereAndBack_53 rfl (lv_at hl 3 rfl) ?_
      refine kb_get (own := RX6) (C := RX6) (T := TX6) (N := 9) (v := .ref (pl 0)) hx hb hts hin6 hown hX hP 0 rfl rfl rfl 7 (by decide) rfl (by decide +kernel) rfl dX6_goThereAndBack_54 ?_
      refine kb_getN (own := RX6) (C := RX2) (T := TX2) (N := 15) (v := .ref (pl 7)) hx hb hts hin2 hown hX hP 1 rfl rfl rfl 6 (by decide) rfl (by decide +kernel) rfl dX6_goThereAndBack_57 ?_
      refine lv_iload_n hx hb dX6_goThereAndBack_60 rfl (lv_at hl 2 rfl) ?_
      refine kcS_p hx hb hml hown hts hX hP (c_X6_at l G (pl 7) 4 (vp.1 6) (x1 - x1 / (vp.2 10) * (vp.2 10)) (by decide)) gX6_goThereAndBack_X6_at 2 rfl rfl rfl hdS_X6_at ⟨Nat.le_of_ble_eq_true rfl, Nat.le_of_ble_eq_true rfl⟩ (cell_in (i := 1) (j := 7) rfl rfl) hl.1 rfl rfl (Nat.le_of_ble_eq_true rfl) dX6_goThereAndBack_61 ⟨Nat.zero_le _, Nat.zero_le _⟩ ?_
      refine lv_iload_n hx hb dX6_goThereAndBack_64 rfl (lv_at hl 1 rfl) ?_
      refine kcV_s hx hb hml hown hts hX hP hD hS (c_X6_goTo l G h0 tx nw tr un kp wy rm pl dr (x1 - x1 / (vp.2 10) * (vp.2 10)) (rAt (vp.1 6) 4 (x1 - x1 / (vp.2 10) * (vp.2 10))) 1 vp vr vy) gX6_goThereAndBack_X6_goTo 3 rfl rfl rfl hd_X6_goTo ⟨Nat.le_of_ble_eq_true rfl, Nat.le_of_ble_eq_true rfl⟩ [0, 1, 2, 3] (by decide) rfl 0 rfl rfl rfl hl.1 rfl rfl (Nat.le_of_ble_eq_true rfl) dX6_goThereAndBack_65 ⟨Nat.zero_le _, Nat.zero_le _⟩ (fun r_ bc_ hq_3 H locs hP hD hS => ?_)
      obtain ⟨rfl, rfl⟩ := hq_3
      have hP : PP G [bX6 h0 (tx 0) (nw 0) (tr 0) (un 0) (kp 0) (wy 0) (rm 0) (pl 0) (dr 0), bX2 pl G vp, bX0 tr G ((f_goTo vp (x1 - x1 / (vp.2 10) * (vp.2 10)) (rAt (vp.1 6) 4 (x1 - x1 / (vp.2 10) * (vp.2 10))) 1 (vr, vy)).1), bX5 wy G ((f_goTo vp (x1 - x1 / (vp.2 10) * (vp.2 10)) (rAt (vp.1 6) 4 (x1 - x1 / (vp.2 10) * (vp.2 10))) 1 (vr, vy)).2)] H := hP
      have hD : DD (AA (List.flatten [bX6 h0 (tx 0) (nw 0) (tr 0) (un 0) (kp 0) (wy 0) (rm 0) (pl 0) (dr 0), bX2 pl G vp, bX0 tr G vr, bX5 wy G vy])) [bX6 h0 (tx 0) (nw 0) (tr 0) (un 0) (kp 0) (wy 0) (rm 0) (pl 0) (dr 0), bX2 pl G vp, bX0 tr G ((f_goTo vp (x1 - x1 / (vp.2 10) * (vp.2 10)) (rAt (vp.1 6) 4 (x1 - x1 / (vp.2 10) * (vp.2 10))) 1 (vr, vy)).1), bX5 wy G ((f_goTo vp (x1 - x1 / (vp.2 10) * (vp.2 10)) (rAt (vp.1 6) 4 (x1 - x1 / (vp.2 10) * (vp.2 10))) 1 (vr, vy)).2)] := D_re hD (adc rfl (adc (bX2_ad _ _ _ _) (adc (bX0_ad _ _ _ _) (adc (bX5_ad _ _ _ _) adn))))
      refine lv_aload_n hx hb dX6_goThereAndBack_68 rfl (lv_at hl 3 rfl) ?_
      refine lv_iload_n hx hb dX6_goThereAndBack_69 rfl (lv_at hl 2 rfl) ?_
      refine lv_iload hx hb dX6_goThereAndBack_70 (lv_at hl 0 rfl) ?_
      refine lv_iload_n hx hb dX6_goThereAndBack_72 rfl (lv_at hl 1 rfl) ?_
      refine kcV_s hx hb hml hown hts hX hP hD hS (c_X6_goTo l G h0 tx nw tr un kp wy rm pl dr (x1 - x1 / (vp.2 10) * (vp.2 10)) (rAt (vr.1 3) 4 (x1 - x1 / (vp.2 10) * (vp.2 10))) 1 vp ((f_goTo vp (x1 - x1 / (vp.2 10) * (vp.2 10)) (rAt (vp.1 6) 4 (x1 - x1 / (vp.2 10) * (vp.2 10))) 1 (vr, vy)).1) ((f_goTo vp (x1 - x1 / (vp.2 10) * (vp.2 10)) (rAt (vp.1 6) 4 (x1 - x1 / (vp.2 10) * (vp.2 10))) 1 (vr, vy)).2)) gX6_goThereAndBack_X6_goTo 3 rfl rfl rfl hd_X6_goTo ⟨Nat.le_of_ble_eq_true rfl, Nat.le_of_ble_eq_true rfl⟩ [0, 1, 2, 3] (by decide) rfl 0 rfl rfl rfl hl.1 rfl rfl (Nat.le_of_ble_eq_true rfl) dX6_goThereAndBack_73 ⟨Nat.zero_le _, Nat.zero_le _⟩ (fun r_ bc_ hq_4 H locs hP hD hS => ?_)
      obtain ⟨rfl, rfl⟩ := hq_4
      have hP : PP G [bX6 h0 (tx 0) (nw 0) (tr 0) (un 0) (kp 0) (wy 0) (rm 0) (pl 0) (dr 0), bX2 pl G vp, bX0 tr G ((f_goTo vp (x1 - x1 / (vp.2 10) * (vp.2 10)) (rAt (vr.1 3) 4 (x1 - x1 / (vp.2 10) * (vp.2 10))) 1 (((f_goTo vp (x1 - x1 / (vp.2 10) * (vp.2 10)) (rAt (vp.1 6) 4 (x1 - x1 / (vp.2 10) * (vp.2 10))) 1 (vr, vy)).1), ((f_goTo vp (x1 - x1 / (vp.2 10) * (vp.2 10)) (rAt (vp.1 6) 4 (x1 - x1 / (vp.2 10) * (vp.2 10))) 1 (vr, vy)).2))).1), bX5 wy G ((f_goTo vp (x1 - x1 / (vp.2 10) * (vp.2 10)) (rAt (vr.1 3) 4 (x1 - x1 / (vp.2 10) * (vp.2 10))) 1 (((f_goTo vp (x1 - x1 / (vp.2 10) * (vp.2 10)) (rAt (vp.1 6) 4 (x1 - x1 / (vp.2 10) * (vp.2 10))) 1 (vr, vy)).1), ((f_goTo vp (x1 - x1 / (vp.2 10) * (vp.2 10)) (rAt (vp.1 6) 4 (x1 - x1 / (vp.2 10) * (vp.2 10))) 1 (vr, vy)).2))).2)] H := hP
      have hD : DD (AA (List.flatten [bX6 h0 (tx 0) (nw 0) (tr 0) (un 0) (kp 0) (wy 0) (rm 0) (pl 0) (dr 0), bX2 pl G vp, bX0 tr G vr, bX5 wy G vy])) [bX6 h0 (tx 0) (nw 0) (tr 0) (un 0) (kp 0) (wy 0) (rm 0) (pl 0) (dr 0), bX2 pl G vp, bX0 tr G ((f_goTo vp (x1 - x1 / (vp.2 10) * (vp.2 10)) (rAt (vr.1 3) 4 (x1 - x1 / (vp.2 10) * (vp.2 10))) 1 (((f_goTo vp (x1 - x1 / (vp.2 10) * (vp.2 10)) (rAt (vp.1 6) 4 (x1 - x1 / (vp.2 10) * (vp.2 10))) 1 (vr, vy)).1), ((f_goTo vp (x1 - x1 / (vp.2 10) * (vp.2 10)) (rAt (vp.1 6) 4 (x1 - x1 / (vp.2 10) * (vp.2 10))) 1 (vr, vy)).2))).1), bX5 wy G ((f_goTo vp (x1 - x1 / (vp.2 10) * (vp.2 10)) (rAt (vr.1 3) 4 (x1 - x1 / (vp.2 10) * (vp.2 10))) 1 (((f_goTo vp (x1 - x1 / (vp.2 10) * (vp.2 10)) (rAt (vp.1 6) 4 (x1 - x1 / (vp.2 10) * (vp.2 10))) 1 (vr, vy)).1), ((f_goTo vp (x1 - x1 / (vp.2 10) * (vp.2 10)) (rAt (vp.1 6) 4 (x1 - x1 / (vp.2 10) * (vp.2 10))) 1 (vr, vy)).2))).2)] := D_re hD (adc rfl (adc (bX2_ad _ _ _ _) (adc (bX0_ad _ _ _ _) (adc (bX5_ad _ _ _ _) adn))))
      have hP : PP G [bX6 h0 (tx 0) (nw 0) (tr 0) (un 0) (kp 0) (wy 0) (rm 0) (pl 0) (dr 0), bX2 pl G vp, bX0 tr G ((f_there vp x1 (vr, vy)).1), bX5 wy G ((f_there vp x1 (vr, vy)).2)] H := by
        have hz : th_z x1 = 1 := if_pos c_29
        rw [there_eq c_8 hz]
        exact hP
      exact kr_sv hx hb hr hlocks dX6_goThereAndBack_76 hP hS (sameAd_cons rfl (sameAd_cons (bX2_ad _ _ _ _) (sameAd_cons (bX0_ad _ _ _ _) (sameAd_cons (bX5_ad _ _ _ _) sameAd_nil)))) ⟨rfl, rfl⟩
  · have hP : PP G [bX6 h0 (tx 0) (nw 0) (tr 0) (un 0) (kp 0) (wy 0) (rm 0) (pl 0) (dr 0), bX2 pl G vp, bX0 tr G ((f_there vp x1 (vr, vy)).1), bX5 wy G ((f_there vp x1 (vr, vy)).2)] H := by
      simp only [f_there, if_neg c_8]
      exact hP
    exact kr_sv hx hb hr hlocks dX6_goThereAndBack_11 hP hS (sameAd_cons rfl (sameAd_cons (bX2_ad _ _ _ _) (sameAd_cons (bX0_ad _ _ _ _) (sameAd_cons (bX5_ad _ _ _ _) sameAd_nil)))) ⟨rfl, rfl⟩

def rm_X6_week : Room := { frames := 6, cells := 0, slots := 0, locals := 141 }
theorem hd_X6_week : yX6_week.cls = RX6 ∧ yX6_week.cls ≠ "java/lang/invoke/MethodHandle" ∧ yX6_week.cls ≠ "java/lang/invoke/VarHandle" ∧ (parseMethodDescriptor yX6_week.desc).map (fun d => d.parameters.length) = some 3 := by decide +kernel
set_option maxRecDepth 100000 in
set_option maxHeartbeats 4000000 in
theorem c_X6_week (l : Launch) (G : GD) (h0 : Nat) (tx nw tr un kp wy rm pl dr : Nat → Nat) (x1 : Int32) (x2 : Int32) (x3 : Int32) (vp : OV) (vn : OV) (vr : OV) (vy : OV)  : MetS l yX6_week wsX6_week rm_X6_week G [bX6 h0 (tx 0) (nw 0) (tr 0) (un 0) (kp 0) (wy 0) (rm 0) (pl 0) (dr 0), bX2 pl G vp, bX0 nw G vn, bX0 tr G vr, bX5 wy G vy] [.ref h0, .int x1, .int x2, .int x3] (fun r bc => r = some (.int (f_weekR vp vn vr vy x1 x2 x3)) ∧ bc = [bX6 h0 (tx 0) (nw 0) (tr 0) (un 0) (kp 0) (wy 0) (rm 0) (pl 0) (dr 0), bX2 pl G vp, bX0 nw G vn, bX0 tr G (cnd (okWeek x1 x2 x3) (f_week vp vn vr vy x1 x2.toNatClampNeg).1 vr), bX5 wy G (cnd (okWeek x1 x2 x3) (f_week vp vn vr vy x1 x2.toNatClampNeg).2 vy)]) := by
  refine kb_beginS (cc := cX6_week) (maxL := 7) (ret := (some .int)) (by decide) rfl (Nat.le_of_ble_eq_true rfl) ?_
  intro p e s m below meth c hx hb hr hml hown hts hlocks hX H locs hP hD hS ls hl
  have hown : s.vm.findClass RX6 = some m.cls := hown
  have hl : lv_has ls 7 [(0, .ref h0), (1, .int x1), (2, .int x2), (3, .int x3)] := hl
  have hin0 : ∀ w ∈ u_ws RX0 TX0 6, w ∈ wsX6_week := (fun _ h => List.mem_cons_of_mem _ (List.mem_append_left _ (List.mem_append_left _ (List.mem_append_right _ (h)))))
  have hin6 : ∀ w ∈ u_ws RX6 TX6 9, w ∈ wsX6_week := (fun _ h => List.mem_cons_of_mem _ (List.mem_append_left _ (List.mem_append_left _ (List.mem_append_left _ (List.mem_append_right _ (h))))))
  refine lv_iload_n hx hb dX6_week_0 rfl (lv_at hl 1 rfl) ?_
  refine lv_iconst (v := 0) hx hb dX6_week_1 (by decide) ?_
  refine lv_sipush (v := 9999) hx hb dX6_week_2 (by decide) ?_
  refine kcS_p hx hb hml hown hts hX hP (c_X6_within l G x1 0 9999) gX6_week_X6_within 3 rfl rfl rfl hdS_X6_within ⟨Nat.le_of_ble_eq_true rfl, Nat.le_of_ble_eq_true rfl⟩ (fun q hq => absurd hq List.not_mem_nil) hl.1 rfl rfl (Nat.le_of_ble_eq_true rfl) dX6_week_5 ⟨Nat.zero_le _, Nat.zero_le _⟩ ?_
  refine lv_if_eq (tgt := 30) hx hb dX6_week_8 (by decide) (fun c_8r => ?_) (fun c_8r => ?_)
  · have c_8 := b2i_fN c_8r
    refine lv_iconst (v := (-1)) hx hb dX6_week_30 (by decide) ?_
    have hP : PP G [bX6 h0 (tx 0) (nw 0) (tr 0) (un 0) (kp 0) (wy 0) (rm 0) (pl 0) (dr 0), bX2 pl G vp, bX0 nw G vn, bX0 tr G (cnd (okWeek x1 x2 x3) (f_week vp vn vr vy x1 x2.toNatClampNeg).1 vr), bX5 wy G (cnd (okWeek x1 x2 x3) (f_week vp vn vr vy x1 x2.toNatClampNeg).2 vy)] H := by
      have hok : okWeek x1 x2 x3 = false := by simp only [okWeek, if_neg c_8]
      rw [hok]
      exact hP
    exact kr_si hx hb hr hlocks dX6_week_31 hP hS (sameAd_cons rfl (sameAd_cons (bX2_ad _ _ _ _) (sameAd_cons (bX0_ad _ _ _ _) (sameAd_cons (bX0_ad _ _ _ _) (sameAd_cons (bX5_ad _ _ _ _) sameAd_nil))))) ⟨by rw [f_weekR, (by simp only [okWeek, if_neg c_8] : okWeek x1 x2 x3 = false)]; rfl, rfl⟩
  · have c_8 := b2i_tP c_8r
    refine lv_iload_n hx hb dX6_week_11 rfl (lv_at hl 2 rfl) ?_
    refine lv_iconst (v := 1) hx hb dX6_week_12 (by decide) ?_
    refine lv_bipush (v := 60) hx hb dX6_week_13 (by decide) ?_
    refine kcS_p hx hb hml hown hts hX hP (c_X6_within l G x2 1 60) gX6_week_X6_within 3 rfl rfl rfl hdS_X6_within ⟨Nat.le_of_ble_eq_true rfl, Nat.le_of_ble_eq_true rfl⟩ (fun q hq => absurd hq List.not_mem_nil) hl.1 rfl rfl (Nat.le_of_ble_eq_true rfl) dX6_week_15 ⟨Nat.zero_le _, Nat.zero_le _⟩ ?_
    refine lv_if_eq (tgt := 30) hx hb dX6_week_18 (by decide) (fun c_18r => ?_) (fun c_18r => ?_)
    · have c_18 := b2i_fN c_18r
      refine lv_iconst (v := (-1)) hx hb dX6_week_30 (by decide) ?_
      have hP : PP G [bX6 h0 (tx 0) (nw 0) (tr 0) (un 0) (kp 0) (wy 0) (rm 0) (pl 0) (dr 0), bX2 pl G vp, bX0 nw G vn, bX0 tr G (cnd (okWeek x1 x2 x3) (f_week vp vn vr vy x1 x2.toNatClampNeg).1 vr), bX5 wy G (cnd (okWeek x1 x2 x3) (f_week vp vn vr vy x1 x2.toNatClampNeg).2 vy)] H := by
        have hok : okWeek x1 x2 x3 = false := by simp only [okWeek, if_pos c_8, if_neg c_18]
        rw [hok]
        exact hP
      exact kr_si hx hb hr hlocks dX6_week_31 hP hS (sameAd_cons rfl (sameAd_cons (bX2_ad _ _ _ _) (sameAd_cons (bX0_ad _ _ _ _) (sameAd_cons (bX0_ad _ _ _ _) (sameAd_cons (bX5_ad _ _ _ _) sameAd_nil))))) ⟨by rw [f_weekR, (by simp only [okWeek, if_pos c_8, if_neg c_18] : okWeek x1 x2 x3 = false)]; rfl, rfl⟩
    · have c_18 := b2i_tP c_18r
      refine lv_iload_n hx hb dX6_week_21 rfl (lv_at hl 3 rfl) ?_
      refine lv_iconst (v := 0) hx hb dX6_week_22 (by decide) ?_
      refine lv_iconst (v := 1) hx hb dX6_week_23 (by decide) ?_
      refine kcS_p hx hb hml hown hts hX hP (c_X6_within l G x3 0 1) gX6_week_X6_within 3 rfl rfl rfl hdS_X6_within ⟨Nat.le_of_ble_eq_true rfl, Nat.le_of_ble_eq_true rfl⟩ (fun q hq => absurd hq List.not_mem_nil) hl.1 rfl rfl (Nat.le_of_ble_eq_true rfl) dX6_week_24 ⟨Nat.zero_le _, Nat.zero_le _⟩ ?_
      refine lv_if_ne (tgt := 32) hx hb dX6_week_27 (by decide) (fun c_27r => ?_) (fun c_27r => ?_)
      · have c_27 := b2i_tP c_27r
        refine lv_aload_n hx hb dX6_week_32 rfl (lv_at hl 0 rfl) ?_
        refine kb_get (own := RX6) (C := RX6) (T := TX6) (N := 9) (v := .ref (tr 0)) hx hb hts hin6 hown hX hP 0 rfl rfl rfl 2 (by decide) rfl (by decide +kernel) rfl dX6_week_33 ?_
        refine lv_aload_n hx hb dX6_week_36 rfl (lv_at hl 0 rfl) ?_
        refine kb_get (own := RX6) (C := RX6) (T := TX6) (N := 9) (v := .ref (nw 0)) hx hb hts hin6 hown hX hP 0 rfl rfl rfl 1 (by decide) rfl (by decide +kernel) rfl dX6_week_37 ?_
        refine kcV_s hx hb hml hown hts hX hP hD hS (c_X0_become l G tr vr nw vn) gX6_week_X0_become 1 rfl rfl rfl hd_X0_become ⟨Nat.le_of_ble_eq_true rfl, Nat.le_of_ble_eq_true rfl⟩ [3, 2] (by decide) rfl 3 rfl rfl rfl hl.1 rfl rfl (Nat.le_of_ble_eq_true rfl) dX6_week_40 ⟨Nat.zero_le _, Nat.zero_le _⟩ (fun r_ bc_ hq_1 H locs hP hD hS => ?_)
        obtain ⟨rfl, rfl⟩ := hq_1
        have hP : PP G [bX6 h0 (tx 0) (nw 0) (tr 0) (un 0) (kp 0) (wy 0) (rm 0) (pl 0) (dr 0), bX2 pl G vp, bX0 nw G vn, bX0 tr G (f_X0_become vr vn), bX5 wy G vy] H := hP
        have hD : DD (AA (List.flatten [bX6 h0 (tx 0) (nw 0) (tr 0) (un 0) (kp 0) (wy 0) (rm 0) (pl 0) (dr 0), bX2 pl G vp, bX0 nw G vn, bX0 tr G vr, bX5 wy G vy])) [bX6 h0 (tx 0) (nw 0) (tr 0) (un 0) (kp 0) (wy 0) (rm 0) (pl 0) (dr 0), bX2 pl G vp, bX0 nw G vn, bX0 tr G (f_X0_become vr vn), bX5 wy G vy] := D_re hD (adc rfl (adc (bX2_ad _ _ _ _) (adc (bX0_ad _ _ _ _) (adc (bX0_ad _ _ _ _) (adc (bX5_ad _ _ _ _) adn)))))
        refine lv_iconst (v := 0) hx hb dX6_week_43 (by decide) ?_
        refine lv_istore (lv' := [(4, .int 0), (0, .ref h0), (1, .int x1), (2, .int x2), (3, .int x3)]) hx hb dX6_week_44 hl (by decide) rfl (fun ls hl => ?_)
        refine lp_up (N := x2.toNatClampNeg) (P := fun k => ∀ (H : Heap) (locs : List Loc) (ls : Array Slot), PP G [bX6 h0 (tx 0) (nw 0) (tr 0) (un 0) (kp 0) (wy 0) (rm 0) (pl 0) (dr 0), bX2 pl G vp, bX0 nw G vn, bX0 tr G ((f_week vp vn vr vy x1 k).1), bX5 wy G ((f_week vp vn vr vy x1 k).2)] H → DD (AA (List.flatten [bX6 h0 (tx 0) (nw 0) (tr 0) (un 0) (kp 0) (wy 0) (rm 0) (pl 0) (dr 0), bX2 pl G vp, bX0 nw G vn, bX0 tr G vr, bX5 wy G vy])) [bX6 h0 (tx 0) (nw 0) (tr 0) (un 0) (kp 0) (wy 0) (rm 0) (pl 0) (dr 0), bX2 pl G vp, bX0 nw G vn, bX0 tr G ((f_week vp vn vr vy x1 k).1), bX5 wy G ((f_week vp vn vr vy x1 k).2)] → va_S (AA (List.flatten [bX6 h0 (tx 0) (nw 0) (tr 0) (un 0) (kp 0) (wy 0) (rm 0) (pl 0) (dr 0), bX2 pl G vp, bX0 nw G vn, bX0 tr G vr, bX5 wy G vy])) s.heap H locs → lv_has ls 7 [(4, .int (nI k)), (0, .ref h0), (1, .int x1), (2, .int x2), (3, .int x3)] →  W p l e (headSpec wsX6_week rm_X6_week).room s m ([.ref h0, .int x1, .int x2, .int x3] : List Value).toArray below meth c H locs 0 0 (MQ below (kQs G [bX6 h0 (tx 0) (nw 0) (tr 0) (un 0) (kp 0) (wy 0) (rm 0) (pl 0) (dr 0), bX2 pl G vp, bX0 nw G vn, bX0 tr G vr, bX5 wy G vy] (fun r bc => r = some (.int (f_weekR vp vn vr vy x1 x2 x3)) ∧ bc = [bX6 h0 (tx 0) (nw 0) (tr 0) (un 0) (kp 0) (wy 0) (rm 0) (pl 0) (dr 0), bX2 pl G vp, bX0 nw G vn, bX0 tr G (cnd (okWeek x1 x2 x3) (f_week vp vn vr vy x1 x2.toNatClampNeg).1 vr), bX5 wy G (cnd (okWeek x1 x2 x3) (f_week vp vn vr vy x1 x2.toNatClampNeg).2 vy)])) ([.ref h0, .int x1, .int x2, .int x3] : List Value).toArray s 0 0 (AA (List.flatten [bX6 h0 (tx 0) (nw 0) (tr 0) (un 0) (kp 0) (wy 0) (rm 0) (pl 0) (dr 0), bX2 pl G vp, bX0 nw G vn, bX0 tr G vr, bX5 wy G vy]))) (F0 m 46 ls [])) ?_ ?_ 0 (Nat.zero_le _)  _ _ _ hP hD hS (lv_sub hl [0, 1, 2, 3, 4] rfl) 
        · skip
          intro H locs ls hP hD hS hl 
          refine lv_iload hx hb dX6_week_46 (lv_at hl 0 rfl) ?_
          refine lv_iload_n hx hb dX6_week_48 rfl (lv_at hl 3 rfl) ?_
          refine lv_icmp_ge (tgt := 101) hx hb dX6_week_49 (by decide) (fun c_49 => ?_) (fun c_49 => absurd (lpx_c _) c_49)
          refine lv_iload_n hx hb dX6_week_101 rfl (lv_at hl 4 rfl) ?_
          refine lv_if_ne (tgt := 123) hx hb dX6_week_102 (by decide) (fun c_102 => ?_) (fun c_102 => ?_)
          · refine lv_aload_n hx hb dX6_week_123 rfl (lv_at hl 1 rfl) ?_
            refine kb_get (own := RX6) (C := RX6) (T := TX6) (N := 9) (v := .ref (tr 0)) hx hb hts hin6 hown hX hP 0 rfl rfl rfl 2 (by decide) rfl (by decide +kernel) rfl dX6_week_124 ?_
            refine lv_aload_n hx hb dX6_week_127 rfl (lv_at hl 1 rfl) ?_
            refine kb_get (own := RX6) (C := RX6) (T := TX6) (N := 9) (v := .ref (pl 0)) hx hb hts hin6 hown hX hP 0 rfl rfl rfl 7 (by decide) rfl (by decide +kernel) rfl dX6_week_128 ?_
            refine kcV_p hx hb hml hown hts hX hP (c_X0_allGrudges l G tr ((f_week vp vn vr vy x1 x2.toNatClampNeg).1) pl vp) gX6_week_X0_allGrudges 1 rfl rfl rfl hd_X0_allGrudges ⟨Nat.le_of_ble_eq_true rfl, Nat.le_of_ble_eq_true rfl⟩ [3, 1] rfl 3 rfl rfl rfl hl.1 rfl rfl (Nat.le_of_ble_eq_true rfl) dX6_week_131 ⟨Nat.zero_le _, Nat.zero_le _⟩ ?_
            have hP : PP G [bX6 h0 (tx 0) (nw 0) (tr 0) (un 0) (kp 0) (wy 0) (rm 0) (pl 0) (dr 0), bX2 pl G vp, bX0 nw G vn, bX0 tr G (cnd (okWeek x1 x2 x3) (f_week vp vn vr vy x1 x2.toNatClampNeg).1 vr), bX5 wy G (cnd (okWeek x1 x2 x3) (f_week vp vn vr vy x1 x2.toNatClampNeg).2 vy)] H := by
              have hok : okWeek x1 x2 x3 = true := by simp only [okWeek, if_pos c_8, if_pos c_18, if_pos c_27]
              rw [hok]
              exact hP
            exact kr_si hx hb hr hlocks dX6_week_134 hP hS (sameAd_cons rfl (sameAd_cons (bX2_ad _ _ _ _) (sameAd_cons (bX0_ad _ _ _ _) (sameAd_cons (bX0_ad _ _ _ _) (sameAd_cons (bX5_ad _ _ _ _) sameAd_nil))))) ⟨by rw [f_weekR, (by simp only [okWeek, if_pos c_8, if_pos c_18, if_pos c_27] : okWeek x1 x2 x3 = true)]; simp only [cnd, if_true, if_neg c_102] <;> rfl, rfl⟩
          · refine lv_aload_n hx hb dX6_week_105 rfl (lv_at hl 1 rfl) ?_
            refine kb_get (own := RX6) (C := RX6) (T := TX6) (N := 9) (v := .ref (tr 0)) hx hb hts hin6 hown hX hP 0 rfl rfl rfl 2 (by decide) rfl (by decide +kernel) rfl dX6_week_106 ?_
            refine kb_getN (own := RX6) (C := RX0) (T := TX0) (N := 6) (v := .int (((f_week vp vn vr vy x1 x2.toNatClampNeg).1).2 4)) hx hb hts hin0 hown hX hP 3 rfl rfl rfl 4 (by decide) rfl (by decide +kernel) rfl dX6_week_109 ?_
            refine lv_aload_n hx hb dX6_week_112 rfl (lv_at hl 1 rfl) ?_
            refine kb_get (own := RX6) (C := RX6) (T := TX6) (N := 9) (v := .ref (nw 0)) hx hb hts hin6 hown hX hP 0 rfl rfl rfl 1 (by decide) rfl (by decide +kernel) rfl dX6_week_113 ?_
            refine kb_getN (own := RX6) (C := RX0) (T := TX0) (N := 6) (v := .int (vn.2 4)) hx hb hts hin0 hown hX hP 2 rfl rfl rfl 4 (by decide) rfl (by decide +kernel) rfl dX6_week_116 ?_
            refine lv_isub hx hb dX6_week_119 ?_
            refine lv_goto (tgt := 134) hx hb dX6_week_120 (by decide) ?_
            have hP : PP G [bX6 h0 (tx 0) (nw 0) (tr 0) (un 0) (kp 0) (wy 0) (rm 0) (pl 0) (dr 0), bX2 pl G vp, bX0 nw G vn, bX0 tr G (cnd (okWeek x1 x2 x3) (f_week vp vn vr vy x1 x2.toNatClampNeg).1 vr), bX5 wy G (cnd (okWeek x1 x2 x3) (f_week vp vn vr vy x1 x2.toNatClampNeg).2 vy)] H := by
              have hok : okWeek x1 x2 x3 = true := by simp only [okWeek, if_pos c_8, if_pos c_18, if_pos c_27]
              rw [hok]
              exact hP
            exact kr_si hx hb hr hlocks dX6_week_134 hP hS (sameAd_cons rfl (sameAd_cons (bX2_ad _ _ _ _) (sameAd_cons (bX0_ad _ _ _ _) (sameAd_cons (bX0_ad _ _ _ _) (sameAd_cons (bX5_ad _ _ _ _) sameAd_nil))))) ⟨by rw [f_weekR, (by simp only [okWeek, if_pos c_8, if_pos c_18, if_pos c_27] : okWeek x1 x2 x3 = true)]; simp only [cnd, if_true, if_pos c_102] <;> rfl, rfl⟩
        · skip
          intro k hk_k ih_46 H locs ls hP hD hS hl 
          refine lv_iload hx hb dX6_week_46 (lv_at hl 0 rfl) ?_
          refine lv_iload_n hx hb dX6_week_48 rfl (lv_at hl 3 rfl) ?_
          refine lv_icmp_ge (tgt := 101) hx hb dX6_week_49 (by decide) (fun c_49 => absurd c_49 (lps_c hk_k)) (fun c_49 => ?_)
          refine lv_ldc2 (own := RX6) (v := 7919) hx hb hown (hts (.constantLong RX6 234 7919) (by decide +kernel)) dX6_week_52 ?_
          refine lv_iload_n hx hb dX6_week_55 rfl (lv_at hl 2 rfl) ?_
          refine lv_i2l (v := (x1 : Int32).toInt64) hx hb dX6_week_56 rfl ?_
          refine lv_lmul hx hb dX6_week_57 ?_
          refine lv_ldc2 (own := RX6) (v := 6151) hx hb hown (hts (.constantLong RX6 236 6151) (by decide +kernel)) dX6_week_58 ?_
          refine lv_iload hx hb dX6_week_61 (lv_at hl 0 rfl) ?_
          refine lv_i2l (v := (nI k : Int32).toInt64) hx hb dX6_week_63 rfl ?_
          refine lv_lmul hx hb dX6_week_64 ?_
          refine lv_ladd hx hb dX6_week_65 ?_
          refine lv_lconst (v := 1) hx hb dX6_week_66 (by decide) ?_
          refine lv_ladd hx hb dX6_week_67 ?_
          refine lv_lstore (lv' := [(5, .long (((7919 * ((x1 : Int32).toInt64)) + (6151 * ((nI k : Int32).toInt64))) + 1)), (4, .int (nI k)), (0, .ref h0), (1, .int x1), (2, .int x2), (3, .int x3)]) hx hb dX6_week_68 hl (by decide) rfl (fun ls hl => ?_)
          refine lv_aload_n hx hb dX6_week_70 rfl (lv_at hl 2 rfl) ?_
          refine lv_lload hx hb dX6_week_71 (lv_at hl 0 rfl) ?_
          refine lv_lload hx hb dX6_week_73 (lv_at hl 0 rfl) ?_
          refine lv_lmul hx hb dX6_week_75 ?_
          refine lv_ldc2 (own := RX6) (v := 65521) hx hb hown (hts (.constantLong RX6 238 65521) (by decide +kernel)) dX6_week_76 ?_
          refine lv_lrem hx hb dX6_week_79 (by decide) ?_
          refine lv_l2i (v := (((((7919 * ((x1 : Int32).toInt64)) + (6151 * ((nI k : Int32).toInt64))) + 1) * (((7919 * ((x1 : Int32).toInt64)) + (6151 * ((nI k : Int32).toInt64))) + 1)) - ((((7919 * ((x1 : Int32).toInt64)) + (6151 * ((nI k : Int32).toInt64))) + 1) * (((7919 * ((x1 : Int32).toInt64)) + (6151 * ((nI k : Int32).toInt64))) + 1)) / 65521 * 65521 : Int64).toInt32) hx hb dX6_week_80 rfl ?_
          refine kcV_s hx hb hml hown hts hX hP hD hS (c_X6_goThereAndBack l G h0 tx nw tr un kp wy rm pl dr ((((((7919 * ((x1 : Int32).toInt64)) + (6151 * ((nI k : Int32).toInt64))) + 1) * (((7919 * ((x1 : Int32).toInt64)) + (6151 * ((nI k : Int32).toInt64))) + 1)) - ((((7919 * ((x1 : Int32).toInt64)) + (6151 * ((nI k : Int32).toInt64))) + 1) * (((7919 * ((x1 : Int32).toInt64)) + (6151 * ((nI k : Int32).toInt64))) + 1)) / 65521 * 65521 : Int64).toInt32) vp ((f_week vp vn vr vy x1 k).1) ((f_week vp vn vr vy x1 k).2)) gX6_week_X6_goThereAndBack 1 rfl rfl rfl hd_X6_goThereAndBack ⟨Nat.le_of_ble_eq_true rfl, Nat.le_of_ble_eq_true rfl⟩ [0, 1, 3, 4] (by decide) rfl 0 rfl rfl rfl hl.1 rfl rfl (Nat.le_of_ble_eq_true rfl) dX6_week_81 ⟨Nat.zero_le _, Nat.zero_le _⟩ (fun r_ bc_ hq_2 H locs hP hD hS => ?_)
          obtain ⟨rfl, rfl⟩ := hq_2
          have hP : PP G [bX6 h0 (tx 0) (nw 0) (tr 0) (un 0) (kp 0) (wy 0) (rm 0) (pl 0) (dr 0), bX2 pl G vp, bX0 nw G vn, bX0 tr G ((f_there vp ((((((7919 * ((x1 : Int32).toInt64)) + (6151 * ((nI k : Int32).toInt64))) + 1) * (((7919 * ((x1 : Int32).toInt64)) + (6151 * ((nI k : Int32).toInt64))) + 1)) - ((((7919 * ((x1 : Int32).toInt64)) + (6151 * ((nI k : Int32).toInt64))) + 1) * (((7919 * ((x1 : Int32).toInt64)) + (6151 * ((nI k : Int32).toInt64))) + 1)) / 65521 * 65521 : Int64).toInt32) (((f_week vp vn vr vy x1 k).1), ((f_week vp vn vr vy x1 k).2))).1), bX5 wy G ((f_there vp ((((((7919 * ((x1 : Int32).toInt64)) + (6151 * ((nI k : Int32).toInt64))) + 1) * (((7919 * ((x1 : Int32).toInt64)) + (6151 * ((nI k : Int32).toInt64))) + 1)) - ((((7919 * ((x1 : Int32).toInt64)) + (6151 * ((nI k : Int32).toInt64))) + 1) * (((7919 * ((x1 : Int32).toInt64)) + (6151 * ((nI k : Int32).toInt64))) + 1)) / 65521 * 65521 : Int64).toInt32) (((f_week vp vn vr vy x1 k).1), ((f_week vp vn vr vy x1 k).2))).2)] H := hP
          have hD : DD (AA (List.flatten [bX6 h0 (tx 0) (nw 0) (tr 0) (un 0) (kp 0) (wy 0) (rm 0) (pl 0) (dr 0), bX2 pl G vp, bX0 nw G vn, bX0 tr G vr, bX5 wy G vy])) [bX6 h0 (tx 0) (nw 0) (tr 0) (un 0) (kp 0) (wy 0) (rm 0) (pl 0) (dr 0), bX2 pl G vp, bX0 nw G vn, bX0 tr G ((f_there vp ((((((7919 * ((x1 : Int32).toInt64)) + (6151 * ((nI k : Int32).toInt64))) + 1) * (((7919 * ((x1 : Int32).toInt64)) + (6151 * ((nI k : Int32).toInt64))) + 1)) - ((((7919 * ((x1 : Int32).toInt64)) + (6151 * ((nI k : Int32).toInt64))) + 1) * (((7919 * ((x1 : Int32).toInt64)) + (6151 * ((nI k : Int32).toInt64))) + 1)) / 65521 * 65521 : Int64).toInt32) (((f_week vp vn vr vy x1 k).1), ((f_week vp vn vr vy x1 k).2))).1), bX5 wy G ((f_there vp ((((((7919 * ((x1 : Int32).toInt64)) + (6151 * ((nI k : Int32).toInt64))) + 1) * (((7919 * ((x1 : Int32).toInt64)) + (6151 * ((nI k : Int32).toInt64))) + 1)) - ((((7919 * ((x1 : Int32).toInt64)) + (6151 * ((nI k : Int32).toInt64))) + 1) * (((7919 * ((x1 : Int32).toInt64)) + (6151 * ((nI k : Int32).toInt64))) + 1)) / 65521 * 65521 : Int64).toInt32) (((f_week vp vn vr vy x1 k).1), ((f_week vp vn vr vy x1 k).2))).2)] := D_re hD (adc rfl (adc (bX2_ad _ _ _ _) (adc (bX0_ad _ _ _ _) (adc (bX0_ad _ _ _ _) (adc (bX5_ad _ _ _ _) adn)))))
          refine lv_aload_n hx hb dX6_week_84 rfl (lv_at hl 2 rfl) ?_
          refine kb_get (own := RX6) (C := RX6) (T := TX6) (N := 9) (v := .ref (tr 0)) hx hb hts hin6 hown hX hP 0 rfl rfl rfl 2 (by decide) rfl (by decide +kernel) rfl dX6_week_85 ?_
          refine lv_aload_n hx hb dX6_week_88 rfl (lv_at hl 2 rfl) ?_
          refine kb_get (own := RX6) (C := RX6) (T := TX6) (N := 9) (v := .ref (pl 0)) hx hb hts hin6 hown hX hP 0 rfl rfl rfl 7 (by decide) rfl (by decide +kernel) rfl dX6_week_89 ?_
          refine kcV_s hx hb hml hown hts hX hP hD hS (c_X0_sleep l G tr ((f_there vp ((((((7919 * ((x1 : Int32).toInt64)) + (6151 * ((nI k : Int32).toInt64))) + 1) * (((7919 * ((x1 : Int32).toInt64)) + (6151 * ((nI k : Int32).toInt64))) + 1)) - ((((7919 * ((x1 : Int32).toInt64)) + (6151 * ((nI k : Int32).toInt64))) + 1) * (((7919 * ((x1 : Int32).toInt64)) + (6151 * ((nI k : Int32).toInt64))) + 1)) / 65521 * 65521 : Int64).toInt32) (((f_week vp vn vr vy x1 k).1), ((f_week vp vn vr vy x1 k).2))).1) pl vp) gX6_week_X0_sleep 1 rfl rfl rfl hd_X0_sleep ⟨Nat.le_of_ble_eq_true rfl, Nat.le_of_ble_eq_true rfl⟩ [3, 1] (by decide) rfl 3 rfl rfl rfl hl.1 rfl rfl (Nat.le_of_ble_eq_true rfl) dX6_week_92 ⟨Nat.zero_le _, Nat.zero_le _⟩ (fun r_ bc_ hq_3 H locs hP hD hS => ?_)
          obtain ⟨rfl, rfl⟩ := hq_3
          have hP : PP G [bX6 h0 (tx 0) (nw 0) (tr 0) (un 0) (kp 0) (wy 0) (rm 0) (pl 0) (dr 0), bX2 pl G vp, bX0 nw G vn, bX0 tr G (f_X0_sleep ((f_there vp ((((((7919 * ((x1 : Int32).toInt64)) + (6151 * ((nI k : Int32).toInt64))) + 1) * (((7919 * ((x1 : Int32).toInt64)) + (6151 * ((nI k : Int32).toInt64))) + 1)) - ((((7919 * ((x1 : Int32).toInt64)) + (6151 * ((nI k : Int32).toInt64))) + 1) * (((7919 * ((x1 : Int32).toInt64)) + (6151 * ((nI k : Int32).toInt64))) + 1)) / 65521 * 65521 : Int64).toInt32) (((f_week vp vn vr vy x1 k).1), ((f_week vp vn vr vy x1 k).2))).1) vp), bX5 wy G ((f_there vp ((((((7919 * ((x1 : Int32).toInt64)) + (6151 * ((nI k : Int32).toInt64))) + 1) * (((7919 * ((x1 : Int32).toInt64)) + (6151 * ((nI k : Int32).toInt64))) + 1)) - ((((7919 * ((x1 : Int32).toInt64)) + (6151 * ((nI k : Int32).toInt64))) + 1) * (((7919 * ((x1 : Int32).toInt64)) + (6151 * ((nI k : Int32).toInt64))) + 1)) / 65521 * 65521 : Int64).toInt32) (((f_week vp vn vr vy x1 k).1), ((f_week vp vn vr vy x1 k).2))).2)] H := hP
          have hD : DD (AA (List.flatten [bX6 h0 (tx 0) (nw 0) (tr 0) (un 0) (kp 0) (wy 0) (rm 0) (pl 0) (dr 0), bX2 pl G vp, bX0 nw G vn, bX0 tr G vr, bX5 wy G vy])) [bX6 h0 (tx 0) (nw 0) (tr 0) (un 0) (kp 0) (wy 0) (rm 0) (pl 0) (dr 0), bX2 pl G vp, bX0 nw G vn, bX0 tr G (f_X0_sleep ((f_there vp ((((((7919 * ((x1 : Int32).toInt64)) + (6151 * ((nI k : Int32).toInt64))) + 1) * (((7919 * ((x1 : Int32).toInt64)) + (6151 * ((nI k : Int32).toInt64))) + 1)) - ((((7919 * ((x1 : Int32).toInt64)) + (6151 * ((nI k : Int32).toInt64))) + 1) * (((7919 * ((x1 : Int32).toInt64)) + (6151 * ((nI k : Int32).toInt64))) + 1)) / 65521 * 65521 : Int64).toInt32) (((f_week vp vn vr vy x1 k).1), ((f_week vp vn vr vy x1 k).2))).1) vp), bX5 wy G ((f_there vp ((((((7919 * ((x1 : Int32).toInt64)) + (6151 * ((nI k : Int32).toInt64))) + 1) * (((7919 * ((x1 : Int32).toInt64)) + (6151 * ((nI k : Int32).toInt64))) + 1)) - ((((7919 * ((x1 : Int32).toInt64)) + (6151 * ((nI k : Int32).toInt64))) + 1) * (((7919 * ((x1 : Int32).toInt64)) + (6151 * ((nI k : Int32).toInt64))) + 1)) / 65521 * 65521 : Int64).toInt32) (((f_week vp vn vr vy x1 k).1), ((f_week vp vn vr vy x1 k).2))).2)] := D_re hD (adc rfl (adc (bX2_ad _ _ _ _) (adc (bX0_ad _ _ _ _) (adc (bX0_ad _ _ _ _) (adc (bX5_ad _ _ _ _) adn)))))
          refine lv_iinc (v := nI (k + 1)) (lv' := [(4, .int (nI (k + 1))), (5, .long (((7919 * ((x1 : Int32).toInt64)) + (6151 * ((nI k : Int32).toInt64))) + 1)), (0, .ref h0), (1, .int x1), (2, .int x2), (3, .int x3)]) hx hb dX6_week_95 hl (k := 1) rfl (nI_1 _) (by decide) rfl (fun ls hl => ?_)
          refine lv_goto (tgt := 46) hx hb dX6_week_98 (by decide) ?_
          have hP : PP G [bX6 h0 (tx 0) (nw 0) (tr 0) (un 0) (kp 0) (wy 0) (rm 0) (pl 0) (dr 0), bX2 pl G vp, bX0 nw G vn, bX0 tr G ((f_week vp vn vr vy x1 (k + 1)).1), bX5 wy G ((f_week vp vn vr vy x1 (k + 1)).2)] H := hP
          have hD : DD (AA (List.flatten [bX6 h0 (tx 0) (nw 0) (tr 0) (un 0) (kp 0) (wy 0) (rm 0) (pl 0) (dr 0), bX2 pl G vp, bX0 nw G vn, bX0 tr G vr, bX5 wy G vy])) [bX6 h0 (tx 0) (nw 0) (tr 0) (un 0) (kp 0) (wy 0) (rm 0) (pl 0) (dr 0), bX2 pl G vp, bX0 nw G vn, bX0 tr G ((f_week vp vn vr vy x1 (k + 1)).1), bX5 wy G ((f_week vp vn vr vy x1 (k + 1)).2)] := D_re hD (adc rfl (adc (bX2_ad _ _ _ _) (adc (bX0_ad _ _ _ _) (adc (bX0_ad _ _ _ _) (adc (bX5_ad _ _ _ _) adn)))))
          exact ih_46  _ _ _ hP hD hS (show lv_has ls 7 [(4, .int (nI (k + 1))), (0, .ref h0), (1, .int x1), (2, .int x2), (3, .int x3)] from lv_sub hl [0, 2, 3, 4, 5] rfl) 
      · have c_27 := b2i_fN c_27r
        refine lv_iconst (v := (-1)) hx hb dX6_week_30 (by decide) ?_
        have hP : PP G [bX6 h0 (tx 0) (nw 0) (tr 0) (un 0) (kp 0) (wy 0) (rm 0) (pl 0) (dr 0), bX2 pl G vp, bX0 nw G vn, bX0 tr G (cnd (okWeek x1 x2 x3) (f_week vp vn vr vy x1 x2.toNatClampNeg).1 vr), bX5 wy G (cnd (okWeek x1 x2 x3) (f_week vp vn vr vy x1 x2.toNatClampNeg).2 vy)] H := by
          have hok : okWeek x1 x2 x3 = false := by simp only [okWeek, if_pos c_8, if_pos c_18, if_neg c_27]
          rw [hok]
          exact hP
        exact kr_si hx hb hr hlocks dX6_week_31 hP hS (sameAd_cons rfl (sameAd_cons (bX2_ad _ _ _ _) (sameAd_cons (bX0_ad _ _ _ _) (sameAd_cons (bX0_ad _ _ _ _) (sameAd_cons (bX5_ad _ _ _ _) sameAd_nil))))) ⟨by rw [f_weekR, (by simp only [okWeek, if_pos c_8, if_pos c_18, if_neg c_27] : okWeek x1 x2 x3 = false)]; rfl, rfl⟩

def rm_X6_keep : Room := { frames := 3, cells := 0, slots := 0, locals := 65 }
theorem hd_X6_keep : yX6_keep.cls = RX6 ∧ yX6_keep.cls ≠ "java/lang/invoke/MethodHandle" ∧ yX6_keep.cls ≠ "java/lang/invoke/VarHandle" ∧ (parseMethodDescriptor yX6_keep.desc).map (fun d => d.parameters.length) = some 0 := by decide +kernel
set_option maxRecDepth 100000 in
set_option maxHeartbeats 4000000 in
theorem c_X6_keep (l : Launch) (G : GD) (h0 : Nat) (tx nw tr un kp wy rm pl dr : Nat → Nat) (vn : OV) (adk : Nat → Nat → Nat) (hvk : Nat → OV) (nk : Nat) (hnk : nk ≤ 2) : MetS l yX6_keep wsX6_keep rm_X6_keep G [bX6 h0 (tx 0) (nw 0) (tr 0) (un 0) (kp 0) (wy 0) (rm 0) (pl 0) (dr 0), bX0 nw G vn, bX1 kp G 2 adk hvk nk] [.ref h0] (fun r bc => r = some (.int (f_keepR nk)) ∧ bc = [bX6 h0 (tx 0) (nw 0) (tr 0) (un 0) (kp 0) (wy 0) (rm 0) (pl 0) (dr 0), bX0 nw G vn, bX1 kp G 2 (cnd (okKeep nk) (pushA 2 nk adk) adk) (cnd (okKeep nk) (pushH 2 nk hvk vn) hvk) (cnd (okKeep nk) (pushN 2 nk) nk)]) := by
  refine kb_beginS (cc := cX6_keep) (maxL := 1) (ret := (some .int)) (by decide) rfl (Nat.le_of_ble_eq_true rfl) ?_
  intro p e s m below meth c hx hb hr hml hown hts hlocks hX H locs hP hD hS ls hl
  have hown : s.vm.findClass RX6 = some m.cls := hown
  have hl : lv_has ls 1 [(0, .ref h0)] := hl
  have hin1 : ∀ w ∈ u_ws RX1 TX1 2, w ∈ wsX6_keep := (fun _ h => List.mem_cons_of_mem _ (List.mem_append_left _ (List.mem_append_right _ (h))))
  have hin6 : ∀ w ∈ u_ws RX6 TX6 9, w ∈ wsX6_keep := (fun _ h => List.mem_cons_of_mem _ (List.mem_append_left _ (List.mem_append_left _ (List.mem_append_right _ (h)))))
  refine lv_aload_n hx hb dX6_keep_0 rfl (lv_at hl 0 rfl) ?_
  refine kb_get (own := RX6) (C := RX6) (T := TX6) (N := 9) (v := .ref (kp 0)) hx hb hts hin6 hown hX hP 0 rfl rfl rfl 4 (by decide) rfl (by decide +kernel) rfl dX6_keep_1 ?_
  refine kb_getN (own := RX6) (C := RX1) (T := TX1) (N := 2) (v := .int (nI nk)) hx hb hts hin1 hown hX hP 2 rfl rfl rfl 1 (by decide) rfl (by decide +kernel) rfl dX6_keep_4 ?_
  refine lv_iconst (v := 2) hx hb dX6_keep_7 (by decide) ?_
  refine lv_icmp_lt (tgt := 14) hx hb dX6_keep_8 (by decide) (fun c_8 => ?_) (fun c_8 => ?_)
  · refine lv_aload_n hx hb dX6_keep_14 rfl (lv_at hl 0 rfl) ?_
    refine kb_get (own := RX6) (C := RX6) (T := TX6) (N := 9) (v := .ref (kp 0)) hx hb hts hin6 hown hX hP 0 rfl rfl rfl 4 (by decide) rfl (by decide +kernel) rfl dX6_keep_15 ?_
    refine lv_aload_n hx hb dX6_keep_18 rfl (lv_at hl 0 rfl) ?_
    refine kb_get (own := RX6) (C := RX6) (T := TX6) (N := 9) (v := .ref (nw 0)) hx hb hts hin6 hown hX hP 0 rfl rfl rfl 1 (by decide) rfl (by decide +kernel) rfl dX6_keep_19 ?_
    refine kcV_s hx hb hml hown hts hX hP hD hS (c_X1_push l G kp 2 adk hvk nk nw vn (by omega) (by decide) (by decide)) gX6_keep_X1_push 1 rfl rfl rfl hd_X1_push ⟨Nat.le_of_ble_eq_true rfl, Nat.le_of_ble_eq_true rfl⟩ [2, 1] (by decide) rfl 2 rfl rfl rfl hl.1 rfl rfl (Nat.le_of_ble_eq_true rfl) dX6_keep_22 ⟨Nat.zero_le _, Nat.zero_le _⟩ (fun r_ bc_ hq_1 H locs hP hD hS => ?_)
    obtain ⟨rfl, rfl⟩ := hq_1
    have hP : PP G [bX6 h0 (tx 0) (nw 0) (tr 0) (un 0) (kp 0) (wy 0) (rm 0) (pl 0) (dr 0), bX0 nw G vn, bX1 kp G 2 (pushA 2 nk adk) (pushH 2 nk hvk vn) (pushN 2 nk)] H := hP
    have hD : DD (AA (List.flatten [bX6 h0 (tx 0) (nw 0) (tr 0) (un 0) (kp 0) (wy 0) (rm 0) (pl 0) (dr 0), bX0 nw G vn, bX1 kp G 2 adk hvk nk])) [bX6 h0 (tx 0) (nw 0) (tr 0) (un 0) (kp 0) (wy 0) (rm 0) (pl 0) (dr 0), bX0 nw G vn, bX1 kp G 2 (pushA 2 nk adk) (pushH 2 nk hvk vn) (pushN 2 nk)] := D_re hD (adc rfl (adc (bX0_ad _ _ _ _) (adc (bX1_ad _ _ _ _ _ _ _ _) adn)))
    refine lv_aload_n hx hb dX6_keep_25 rfl (lv_at hl 0 rfl) ?_
    refine kb_get (own := RX6) (C := RX6) (T := TX6) (N := 9) (v := .ref (kp 0)) hx hb hts hin6 hown hX hP 0 rfl rfl rfl 4 (by decide) rfl (by decide +kernel) rfl dX6_keep_26 ?_
    refine kb_getN (own := RX6) (C := RX1) (T := TX1) (N := 2) (v := .int (nI (pushN 2 nk))) hx hb hts hin1 hown hX hP 2 rfl rfl rfl 1 (by decide) rfl (by decide +kernel) rfl dX6_keep_29 ?_
    have hP : PP G [bX6 h0 (tx 0) (nw 0) (tr 0) (un 0) (kp 0) (wy 0) (rm 0) (pl 0) (dr 0), bX0 nw G vn, bX1 kp G 2 (cnd (okKeep nk) (pushA 2 nk adk) adk) (cnd (okKeep nk) (pushH 2 nk hvk vn) hvk) (cnd (okKeep nk) (pushN 2 nk) nk)] H := by
      have hok : okKeep nk = true := by simp only [okKeep, if_pos c_8]
      rw [hok]
      exact hP
    exact kr_si hx hb hr hlocks dX6_keep_32 hP hS (sameAd_cons rfl (sameAd_cons (bX0_ad _ _ _ _) ⟨cnd_ad (by decide) _, sameAd_nil⟩)) ⟨by simp only [f_keepR, if_pos c_8] <;> rfl, rfl⟩
  · refine lv_bipush (v := (-3)) hx hb dX6_keep_11 (by decide) ?_
    have hP : PP G [bX6 h0 (tx 0) (nw 0) (tr 0) (un 0) (kp 0) (wy 0) (rm 0) (pl 0) (dr 0), bX0 nw G vn, bX1 kp G 2 (cnd (okKeep nk) (pushA 2 nk adk) adk) (cnd (okKeep nk) (pushH 2 nk hvk vn) hvk) (cnd (okKeep nk) (pushN 2 nk) nk)] H := by
      have hok : okKeep nk = false := by simp only [okKeep, if_neg c_8]
      rw [hok]
      exact hP
    exact kr_si hx hb hr hlocks dX6_keep_13 hP hS (sameAd_cons rfl (sameAd_cons (bX0_ad _ _ _ _) ⟨cnd_ad (by decide) _, sameAd_nil⟩)) ⟨by simp only [f_keepR, if_neg c_8] <;> rfl, rfl⟩

def rm_X6_back : Room := { frames := 3, cells := 0, slots := 0, locals := 65 }
theorem hd_X6_back : yX6_back.cls = RX6 ∧ yX6_back.cls ≠ "java/lang/invoke/MethodHandle" ∧ yX6_back.cls ≠ "java/lang/invoke/VarHandle" ∧ (parseMethodDescriptor yX6_back.desc).map (fun d => d.parameters.length) = some 0 := by decide +kernel
set_option maxRecDepth 100000 in
set_option maxHeartbeats 4000000 in
theorem c_X6_back (l : Launch) (G : GD) (h0 : Nat) (tx nw tr un kp wy rm pl dr : Nat → Nat) (vn : OV) (adu : Nat → Nat → Nat) (hvu : Nat → OV) (nu : Nat) (adk : Nat → Nat → Nat) (hvk : Nat → OV) (nk : Nat) (hnk : nk ≤ 2) : MetS l yX6_back wsX6_back rm_X6_back G [bX6 h0 (tx 0) (nw 0) (tr 0) (un 0) (kp 0) (wy 0) (rm 0) (pl 0) (dr 0), bX0 nw G vn, bX1 un G 8 adu hvu nu, bX1 kp G 2 adk hvk nk] [.ref h0] (fun r bc => r = some (.int (f_backR nk)) ∧ bc = [bX6 h0 (tx 0) (nw 0) (tr 0) (un 0) (kp 0) (wy 0) (rm 0) (pl 0) (dr 0), bX0 nw G (popV nk hvk vn), bX1 un G 8 adu hvu (f_backU nk nu), bX1 kp G 2 adk hvk (nk - 1)]) := by
  refine kb_beginS (cc := cX6_back) (maxL := 1) (ret := (some .int)) (by decide) rfl (Nat.le_of_ble_eq_true rfl) ?_
  intro p e s m below meth c hx hb hr hml hown hts hlocks hX H locs hP hD hS ls hl
  have hown : s.vm.findClass RX6 = some m.cls := hown
  have hl : lv_has ls 1 [(0, .ref h0)] := hl
  have hin1 : ∀ w ∈ u_ws RX1 TX1 2, w ∈ wsX6_back := (fun _ h => List.mem_cons_of_mem _ (List.mem_append_left _ (List.mem_append_right _ (h))))
  have hin6 : ∀ w ∈ u_ws RX6 TX6 9, w ∈ wsX6_back := (fun _ h => List.mem_cons_of_mem _ (List.mem_append_left _ (List.mem_append_left _ (List.mem_append_right _ (h)))))
  refine lv_aload_n hx hb dX6_back_0 rfl (lv_at hl 0 rfl) ?_
  refine kb_get (own := RX6) (C := RX6) (T := TX6) (N := 9) (v := .ref (kp 0)) hx hb hts hin6 hown hX hP 0 rfl rfl rfl 4 (by decide) rfl (by decide +kernel) rfl dX6_back_1 ?_
  refine lv_aload_n hx hb dX6_back_4 rfl (lv_at hl 0 rfl) ?_
  refine kb_get (own := RX6) (C := RX6) (T := TX6) (N := 9) (v := .ref (nw 0)) hx hb hts hin6 hown hX hP 0 rfl rfl rfl 1 (by decide) rfl (by decide +kernel) rfl dX6_back_5 ?_
  refine kcV_s hx hb hml hown hts hX hP hD hS (c_X1_pop l G kp 2 adk hvk nk nw vn (by omega) (by decide)) gX6_back_X1_pop 1 rfl rfl rfl hd_X1_pop ⟨Nat.le_of_ble_eq_true rfl, Nat.le_of_ble_eq_true rfl⟩ [3, 1] (by decide) rfl 3 rfl rfl rfl hl.1 rfl rfl (Nat.le_of_ble_eq_true rfl) dX6_back_8 ⟨Nat.zero_le _, Nat.zero_le _⟩ (fun r_ bc_ hq_1 H locs hP hD hS => ?_)
  obtain ⟨rfl, rfl⟩ := hq_1
  have hP : PP G [bX6 h0 (tx 0) (nw 0) (tr 0) (un 0) (kp 0) (wy 0) (rm 0) (pl 0) (dr 0), bX0 nw G (popV nk hvk vn), bX1 un G 8 adu hvu nu, bX1 kp G 2 adk hvk (nk - 1)] H := hP
  have hD : DD (AA (List.flatten [bX6 h0 (tx 0) (nw 0) (tr 0) (un 0) (kp 0) (wy 0) (rm 0) (pl 0) (dr 0), bX0 nw G vn, bX1 un G 8 adu hvu nu, bX1 kp G 2 adk hvk nk])) [bX6 h0 (tx 0) (nw 0) (tr 0) (un 0) (kp 0) (wy 0) (rm 0) (pl 0) (dr 0), bX0 nw G (popV nk hvk vn), bX1 un G 8 adu hvu nu, bX1 kp G 2 adk hvk (nk - 1)] := D_re hD (adc rfl (adc (bX0_ad _ _ _ _) (adc (bX1_ad _ _ _ _ _ _ _ _) (adc (bX1_ad _ _ _ _ _ _ _ _) adn))))
  refine lv_if_ne (tgt := 17) hx hb dX6_back_11 (by decide) (fun c_11 => ?_) (fun c_11 => ?_)
  · refine lv_aload_n hx hb dX6_back_17 rfl (lv_at hl 0 rfl) ?_
    refine kb_get (own := RX6) (C := RX6) (T := TX6) (N := 9) (v := .ref (un 0)) hx hb hts hin6 hown hX hP 0 rfl rfl rfl 3 (by decide) rfl (by decide +kernel) rfl dX6_back_18 ?_
    refine kcV_s hx hb hml hown hts hX hP hD hS (c_X1_forgetAll l G un 8 adu hvu nu) gX6_back_X1_forgetAll 0 rfl rfl rfl hd_X1_forgetAll ⟨Nat.le_of_ble_eq_true rfl, Nat.le_of_ble_eq_true rfl⟩ [2] (by decide) rfl 2 rfl rfl rfl hl.1 rfl rfl (Nat.le_of_ble_eq_true rfl) dX6_back_21 ⟨Nat.zero_le _, Nat.zero_le _⟩ (fun r_ bc_ hq_2 H locs hP hD hS => ?_)
    obtain ⟨rfl, rfl⟩ := hq_2
    have hP : PP G [bX6 h0 (tx 0) (nw 0) (tr 0) (un 0) (kp 0) (wy 0) (rm 0) (pl 0) (dr 0), bX0 nw G (popV nk hvk vn), bX1 un G 8 adu hvu 0, bX1 kp G 2 adk hvk (nk - 1)] H := hP
    have hD : DD (AA (List.flatten [bX6 h0 (tx 0) (nw 0) (tr 0) (un 0) (kp 0) (wy 0) (rm 0) (pl 0) (dr 0), bX0 nw G vn, bX1 un G 8 adu hvu nu, bX1 kp G 2 adk hvk nk])) [bX6 h0 (tx 0) (nw 0) (tr 0) (un 0) (kp 0) (wy 0) (rm 0) (pl 0) (dr 0), bX0 nw G (popV nk hvk vn), bX1 un G 8 adu hvu 0, bX1 kp G 2 adk hvk (nk - 1)] := D_re hD (adc rfl (adc (bX0_ad _ _ _ _) (adc (bX1_ad _ _ _ _ _ _ _ _) (adc (bX1_ad _ _ _ _ _ _ _ _) adn))))
    refine lv_aload_n hx hb dX6_back_24 rfl (lv_at hl 0 rfl) ?_
    refine kb_get (own := RX6) (C := RX6) (T := TX6) (N := 9) (v := .ref (kp 0)) hx hb hts hin6 hown hX hP 0 rfl rfl rfl 4 (by decide) rfl (by decide +kernel) rfl dX6_back_25 ?_
    refine kb_getN (own := RX6) (C := RX1) (T := TX1) (N := 2) (v := .int (nI (nk - 1))) hx hb hts hin1 hown hX hP 3 rfl rfl rfl 1 (by decide) rfl (by decide +kernel) rfl dX6_back_28 ?_
    have hP : PP G [bX6 h0 (tx 0) (nw 0) (tr 0) (un 0) (kp 0) (wy 0) (rm 0) (pl 0) (dr 0), bX0 nw G (popV nk hvk vn), bX1 un G 8 adu hvu (f_backU nk nu), bX1 kp G 2 adk hvk (nk - 1)] H := by
      simp only [f_backU, if_neg c_11]
      exact hP
    exact kr_si hx hb hr hlocks dX6_back_31 hP hS (sameAd_cons rfl (sameAd_cons (bX0_ad _ _ _ _) (sameAd_cons (bX1_ad _ _ _ _ _ _ _ _) (sameAd_cons (bX1_ad _ _ _ _ _ _ _ _) sameAd_nil)))) ⟨by simp only [f_backR, if_neg c_11] <;> rfl, rfl⟩
  · refine lv_bipush (v := (-2)) hx hb dX6_back_14 (by decide) ?_
    have hP : PP G [bX6 h0 (tx 0) (nw 0) (tr 0) (un 0) (kp 0) (wy 0) (rm 0) (pl 0) (dr 0), bX0 nw G (popV nk hvk vn), bX1 un G 8 adu hvu (f_backU nk nu), bX1 kp G 2 adk hvk (nk - 1)] H := by
      simp only [f_backU, if_pos c_11]
      exact hP
    exact kr_si hx hb hr hlocks dX6_back_16 hP hS (sameAd_cons rfl (sameAd_cons (bX0_ad _ _ _ _) (sameAd_cons (bX1_ad _ _ _ _ _ _ _ _) (sameAd_cons (bX1_ad _ _ _ _ _ _ _ _) sameAd_nil)))) ⟨by simp only [f_backR, if_pos c_11] <;> rfl, rfl⟩

def rm_X6_wipe : Room := { frames := 0, cells := 0, slots := 0, locals := 0 }
theorem hd_X6_wipe : yX6_wipe.cls = RX6 ∧ yX6_wipe.cls ≠ "java/lang/invoke/MethodHandle" ∧ yX6_wipe.cls ≠ "java/lang/invoke/VarHandle" ∧ (parseMethodDescriptor yX6_wipe.desc).map (fun d => d.parameters.length) = some 0 := by decide +kernel
set_option maxRecDepth 100000 in
set_option maxHeartbeats 4000000 in
theorem c_X6_wipe (l : Launch) (G : GD) (h0 : Nat) (tx nw tr un kp wy rm pl dr : Nat → Nat) (vt : OV)  : MetS l yX6_wipe wsX6_wipe rm_X6_wipe G [bX6 h0 (tx 0) (nw 0) (tr 0) (un 0) (kp 0) (wy 0) (rm 0) (pl 0) (dr 0), bX4 tx G vt] [.ref h0] (fun r bc => r = some (.int (vt.2 3)) ∧ bc = [bX6 h0 (tx 0) (nw 0) (tr 0) (un 0) (kp 0) (wy 0) (rm 0) (pl 0) (dr 0), bX4 tx G (setI vt 3 0)]) := by
  refine kb_beginS (cc := cX6_wipe) (maxL := 2) (ret := (some .int)) (by decide) rfl (Nat.le_of_ble_eq_true rfl) ?_
  intro p e s m below meth c hx hb hr hml hown hts hlocks hX H locs hP hD hS ls hl
  have hown : s.vm.findClass RX6 = some m.cls := hown
  have hl : lv_has ls 2 [(0, .ref h0)] := hl
  have hin4 : ∀ w ∈ u_ws RX4 TX4 4, w ∈ wsX6_wipe := (fun _ h => List.mem_cons_of_mem _ (List.mem_append_right _ (h)))
  have hin6 : ∀ w ∈ u_ws RX6 TX6 9, w ∈ wsX6_wipe := (fun _ h => List.mem_cons_of_mem _ (List.mem_append_left _ (List.mem_append_right _ (h))))
  refine lv_aload_n hx hb dX6_wipe_0 rfl (lv_at hl 0 rfl) ?_
  refine kb_get (own := RX6) (C := RX6) (T := TX6) (N := 9) (v := .ref (tx 0)) hx hb hts hin6 hown hX hP 0 rfl rfl rfl 0 (by decide) rfl (by decide +kernel) rfl dX6_wipe_1 ?_
  refine kb_getN (own := RX6) (C := RX4) (T := TX4) (N := 4) (v := .int (vt.2 3)) hx hb hts hin4 hown hX hP 1 rfl rfl rfl 3 (by decide) rfl (by decide +kernel) rfl dX6_wipe_4 ?_
  refine lv_istore_n (lv' := [(1, .int (vt.2 3)), (0, .ref h0)]) hx hb dX6_wipe_7 rfl hl (by decide) rfl (fun ls hl => ?_)
  refine lv_aload_n hx hb dX6_wipe_8 rfl (lv_at hl 1 rfl) ?_
  refine kb_get (own := RX6) (C := RX6) (T := TX6) (N := 9) (v := .ref (tx 0)) hx hb hts hin6 hown hX hP 0 rfl rfl rfl 0 (by decide) rfl (by decide +kernel) rfl dX6_wipe_9 ?_
  refine lv_iconst (v := 0) hx hb dX6_wipe_12 (by decide) ?_
  refine kb_putN (own := RX6) (C := RX4) (T := TX4) (N := 4) hx hb hts hin4 tyX4 tyX4_ok nmX4 (ty := .int) hown hX hP hD hS 1 rfl rfl rfl 3 (by decide) rfl (by decide +kernel) (by decide +kernel) rfl rfl (Nat.le_of_ble_eq_true rfl) dX6_wipe_13 (bX4_I3 tx G vt 0) (fun H locs hP hD hS => ?_)
  have hP : PP G [bX6 h0 (tx 0) (nw 0) (tr 0) (un 0) (kp 0) (wy 0) (rm 0) (pl 0) (dr 0), bX4 tx G (setI vt 3 0)] H := hP
  have hD : DD (AA (List.flatten [bX6 h0 (tx 0) (nw 0) (tr 0) (un 0) (kp 0) (wy 0) (rm 0) (pl 0) (dr 0), bX4 tx G vt])) [bX6 h0 (tx 0) (nw 0) (tr 0) (un 0) (kp 0) (wy 0) (rm 0) (pl 0) (dr 0), bX4 tx G (setI vt 3 0)] := D_re hD (adc rfl (adc (bX4_ad _ _ _ _) adn))
  refine lv_iload_n hx hb dX6_wipe_16 rfl (lv_at hl 0 rfl) ?_
  have hP : PP G [bX6 h0 (tx 0) (nw 0) (tr 0) (un 0) (kp 0) (wy 0) (rm 0) (pl 0) (dr 0), bX4 tx G (setI vt 3 0)] H := by
    exact hP
  exact kr_si hx hb hr hlocks dX6_wipe_17 hP hS (sameAd_cons rfl (sameAd_cons (bX4_ad _ _ _ _) sameAd_nil)) ⟨rfl, rfl⟩

def rm_X6_fault : Room := { frames := 6, cells := 0, slots := 0, locals := 133 }
theorem hd_X6_fault : yX6_fault.cls = RX6 ∧ yX6_fault.cls ≠ "java/lang/invoke/MethodHandle" ∧ yX6_fault.cls ≠ "java/lang/invoke/VarHandle" ∧ (parseMethodDescriptor yX6_fault.desc).map (fun d => d.parameters.length) = some 0 := by decide +kernel
set_option maxRecDepth 100000 in
set_option maxHeartbeats 4000000 in
theorem c_X6_fault (l : Launch) (G : GD) (h0 : Nat) (tx nw tr un kp wy rm pl dr : Nat → Nat) (vt : OV) (vd : OV)  : MetS l yX6_fault wsX6_fault rm_X6_fault G [bX6 h0 (tx 0) (nw 0) (tr 0) (un 0) (kp 0) (wy 0) (rm 0) (pl 0) (dr 0), bX4 tx G vt, bX2 dr G vd] [.ref h0] (fun r bc => r = some (.int ((f_X4_read vt vd).1)) ∧ bc = [bX6 h0 (tx 0) (nw 0) (tr 0) (un 0) (kp 0) (wy 0) (rm 0) (pl 0) (dr 0), bX4 tx G ((f_X4_read vt vd).2.1), bX2 dr G ((f_X4_read vt vd).2.2)]) := by
  refine kb_beginS (cc := cX6_fault) (maxL := 1) (ret := (some .int)) (by decide) rfl (Nat.le_of_ble_eq_true rfl) ?_
  intro p e s m below meth c hx hb hr hml hown hts hlocks hX H locs hP hD hS ls hl
  have hown : s.vm.findClass RX6 = some m.cls := hown
  have hl : lv_has ls 1 [(0, .ref h0)] := hl
  have hin6 : ∀ w ∈ u_ws RX6 TX6 9, w ∈ wsX6_fault := (fun _ h => List.mem_cons_of_mem _ (List.mem_append_left _ (List.mem_append_left _ (List.mem_append_right _ (h)))))
  refine lv_aload_n hx hb dX6_fault_0 rfl (lv_at hl 0 rfl) ?_
  refine kb_get (own := RX6) (C := RX6) (T := TX6) (N := 9) (v := .ref (tx 0)) hx hb hts hin6 hown hX hP 0 rfl rfl rfl 0 (by decide) rfl (by decide +kernel) rfl dX6_fault_1 ?_
  refine lv_aload_n hx hb dX6_fault_4 rfl (lv_at hl 0 rfl) ?_
  refine kb_get (own := RX6) (C := RX6) (T := TX6) (N := 9) (v := .ref (dr 0)) hx hb hts hin6 hown hX hP 0 rfl rfl rfl 8 (by decide) rfl (by decide +kernel) rfl dX6_fault_5 ?_
  refine kcV_s hx hb hml hown hts hX hP hD hS (c_X4_readInto l G tx vt dr vd) gX6_fault_X4_readInto 1 rfl rfl rfl hd_X4_readInto ⟨Nat.le_of_ble_eq_true rfl, Nat.le_of_ble_eq_true rfl⟩ [1, 2] (by decide) rfl 1 rfl rfl rfl hl.1 rfl rfl (Nat.le_of_ble_eq_true rfl) dX6_fault_8 ⟨Nat.zero_le _, Nat.zero_le _⟩ (fun r_ bc_ hq_1 H locs hP hD hS => ?_)
  obtain ⟨rfl, rfl⟩ := hq_1
  have hP : PP G [bX6 h0 (tx 0) (nw 0) (tr 0) (un 0) (kp 0) (wy 0) (rm 0) (pl 0) (dr 0), bX4 tx G ((f_X4_read vt vd).2.1), bX2 dr G ((f_X4_read vt vd).2.2)] H := hP
  have hD : DD (AA (List.flatten [bX6 h0 (tx 0) (nw 0) (tr 0) (un 0) (kp 0) (wy 0) (rm 0) (pl 0) (dr 0), bX4 tx G vt, bX2 dr G vd])) [bX6 h0 (tx 0) (nw 0) (tr 0) (un 0) (kp 0) (wy 0) (rm 0) (pl 0) (dr 0), bX4 tx G ((f_X4_read vt vd).2.1), bX2 dr G ((f_X4_read vt vd).2.2)] := D_re hD (adc rfl (adc (bX4_ad _ _ _ _) (adc (bX2_ad _ _ _ _) adn)))
  have hP : PP G [bX6 h0 (tx 0) (nw 0) (tr 0) (un 0) (kp 0) (wy 0) (rm 0) (pl 0) (dr 0), bX4 tx G ((f_X4_read vt vd).2.1), bX2 dr G ((f_X4_read vt vd).2.2)] H := by
    exact hP
  exact kr_si hx hb hr hlocks dX6_fault_11 hP hS (sameAd_cons rfl (sameAd_cons (bX4_ad _ _ _ _) (sameAd_cons (bX2_ad _ _ _ _) sameAd_nil))) ⟨rfl, rfl⟩

def rm_X6_write : Room := { frames := 2, cells := 0, slots := 0, locals := 43 }
theorem hd_X6_write : yX6_write.cls = RX6 ∧ yX6_write.cls ≠ "java/lang/invoke/MethodHandle" ∧ yX6_write.cls ≠ "java/lang/invoke/VarHandle" ∧ (parseMethodDescriptor yX6_write.desc).map (fun d => d.parameters.length) = some 2 := by decide +kernel
set_option maxRecDepth 100000 in
set_option maxHeartbeats 4000000 in
theorem c_X6_write (l : Launch) (G : GD) (h0 : Nat) (tx nw tr un kp wy rm pl dr : Nat → Nat) (x1 : Int32) (x2 : Int64) (vt : OV)  : MetS l yX6_write wsX6_write rm_X6_write G [bX6 h0 (tx 0) (nw 0) (tr 0) (un 0) (kp 0) (wy 0) (rm 0) (pl 0) (dr 0), bX4 tx G vt] [.ref h0, .int x1, .long x2] (fun r bc => r = some (.int (f_writeR vt x1 x2)) ∧ bc = [bX6 h0 (tx 0) (nw 0) (tr 0) (un 0) (kp 0) (wy 0) (rm 0) (pl 0) (dr 0), bX4 tx G (cnd (okWr vt x1) (wr2Go x2 x1.toNatClampNeg vt) vt)]) := by
  refine kb_beginS (cc := cX6_write) (maxL := 5) (ret := (some .int)) (by decide) rfl (Nat.le_of_ble_eq_true rfl) ?_
  intro p e s m below meth c hx hb hr hml hown hts hlocks hX H locs hP hD hS ls hl
  have hown : s.vm.findClass RX6 = some m.cls := hown
  have hl : lv_has ls 5 [(0, .ref h0), (1, .int x1), (2, .long x2)] := hl
  have hin4 : ∀ w ∈ u_ws RX4 TX4 4, w ∈ wsX6_write := (fun _ h => List.mem_cons_of_mem _ (List.mem_append_right _ (h)))
  have hin6 : ∀ w ∈ u_ws RX6 TX6 9, w ∈ wsX6_write := (fun _ h => List.mem_cons_of_mem _ (List.mem_append_left _ (List.mem_append_right _ (h))))
  refine lv_iload_n hx hb dX6_write_0 rfl (lv_at hl 1 rfl) ?_
  refine lv_iconst (v := 1) hx hb dX6_write_1 (by decide) ?_
  refine lv_bipush (v := 8) hx hb dX6_write_2 (by decide) ?_
  refine kcS_p hx hb hml hown hts hX hP (c_X6_within l G x1 1 8) gX6_write_X6_within 3 rfl rfl rfl hdS_X6_within ⟨Nat.le_of_ble_eq_true rfl, Nat.le_of_ble_eq_true rfl⟩ (fun q hq => absurd hq List.not_mem_nil) hl.1 rfl rfl (Nat.le_of_ble_eq_true rfl) dX6_write_4 ⟨Nat.zero_le _, Nat.zero_le _⟩ ?_
  refine lv_if_ne (tgt := 12) hx hb dX6_write_7 (by decide) (fun c_7r => ?_) (fun c_7r => ?_)
  · have c_7 := b2i_tP c_7r
    have hx10 : ¬ x1 < 0 := win_n c_7 (by decide)
    refine lv_aload_n hx hb dX6_write_12 rfl (lv_at hl 0 rfl) ?_
    refine kb_get (own := RX6) (C := RX6) (T := TX6) (N := 9) (v := .ref (tx 0)) hx hb hts hin6 hown hX hP 0 rfl rfl rfl 0 (by decide) rfl (by decide +kernel) rfl dX6_write_13 ?_
    refine kb_getN (own := RX6) (C := RX4) (T := TX4) (N := 4) (v := .int (vt.2 3)) hx hb hts hin4 hown hX hP 1 rfl rfl rfl 3 (by decide) rfl (by decide +kernel) rfl dX6_write_16 ?_
    refine lv_iload_n hx hb dX6_write_19 rfl (lv_at hl 1 rfl) ?_
    refine lv_iadd hx hb dX6_write_20 ?_
    refine lv_sipush (v := 300) hx hb dX6_write_21 (by decide) ?_
    refine lv_icmp_le (tgt := 30) hx hb dX6_write_24 (by decide) (fun c_24 => ?_) (fun c_24 => ?_)
    · refine lv_iload_n hx hb dX6_write_30 rfl (lv_at hl 1 rfl) ?_
      refine kb_nat (hx10) ?_
      refine lv_iconst (v := 1) hx hb dX6_write_31 (by decide) ?_
      refine lv_isub hx hb dX6_write_32 ?_
      refine lv_istore (lv' := [(4, .int ((nI (x1).toNatClampNeg) - 1)), (0, .ref h0), (1, .int x1), (2, .long x2)]) hx hb dX6_write_33 hl (by decide) rfl (fun ls hl => ?_)
      refine lp_dn (P := fun k => ∀ (u : OV), ∀ (H : Heap) (locs : List Loc) (ls : Array Slot), PP G [bX6 h0 (tx 0) (nw 0) (tr 0) (un 0) (kp 0) (wy 0) (rm 0) (pl 0) (dr 0), bX4 tx G u] H → DD (AA (List.flatten [bX6 h0 (tx 0) (nw 0) (tr 0) (un 0) (kp 0) (wy 0) (rm 0) (pl 0) (dr 0), bX4 tx G vt])) [bX6 h0 (tx 0) (nw 0) (tr 0) (un 0) (kp 0) (wy 0) (rm 0) (pl 0) (dr 0), bX4 tx G u] → va_S (AA (List.flatten [bX6 h0 (tx 0) (nw 0) (tr 0) (un 0) (kp 0) (wy 0) (rm 0) (pl 0) (dr 0), bX4 tx G vt])) s.heap H locs → lv_has ls 5 [(4, .int (nI k - 1)), (0, .ref h0), (1, .int x1), (2, .long x2)] → (k ≤ x1.toNatClampNeg) → (wr2Go x2 x1.toNatClampNeg vt = wr2Go x2 k u) → W p l e (headSpec wsX6_write rm_X6_write).room s m ([.ref h0, .int x1, .long x2] : List Value).toArray below meth c H locs 0 0 (MQ below (kQs G [bX6 h0 (tx 0) (nw 0) (tr 0) (un 0) (kp 0) (wy 0) (rm 0) (pl 0) (dr 0), bX4 tx G vt] (fun r bc => r = some (.int (f_writeR vt x1 x2)) ∧ bc = [bX6 h0 (tx 0) (nw 0) (tr 0) (un 0) (kp 0) (wy 0) (rm 0) (pl 0) (dr 0), bX4 tx G (cnd (okWr vt x1) (wr2Go x2 x1.toNatClampNeg vt) vt)])) ([.ref h0, .int x1, .long x2] : List Value).toArray s 0 0 (AA (List.flatten [bX6 h0 (tx 0) (nw 0) (tr 0) (un 0) (kp 0) (wy 0) (rm 0) (pl 0) (dr 0), bX4 tx G vt]))) (F0 m 35 ls [])) ?_ ?_ x1.toNatClampNeg vt _ _ _ hP hD hS (lv_sub hl [0, 1, 2, 3] rfl) (Nat.le_refl _) (rfl)
      · skip
        intro u H locs ls hP hD hS hl hkb hs
        refine lv_iload hx hb dX6_write_35 (lv_at hl 0 rfl) ?_
        refine lv_if_lt (tgt := 65) hx hb dX6_write_37 (by decide) (fun c_37 => ?_) (fun c_37 => absurd ((by decide : nI 0 - 1 < 0)) c_37)
        refine lv_aload_n hx hb dX6_write_65 rfl (lv_at hl 1 rfl) ?_
        refine kb_get (own := RX6) (C := RX6) (T := TX6) (N := 9) (v := .ref (tx 0)) hx hb hts hin6 hown hX hP 0 rfl rfl rfl 0 (by decide) rfl (by decide +kernel) rfl dX6_write_66 ?_
        refine kb_getN (own := RX6) (C := RX4) (T := TX4) (N := 4) (v := .int (u.2 3)) hx hb hts hin4 hown hX hP 1 rfl rfl rfl 3 (by decide) rfl (by decide +kernel) rfl dX6_write_69 ?_
        have hP : PP G [bX6 h0 (tx 0) (nw 0) (tr 0) (un 0) (kp 0) (wy 0) (rm 0) (pl 0) (dr 0), bX4 tx G (cnd (okWr vt x1) (wr2Go x2 x1.toNatClampNeg vt) vt)] H := by
          have hok : okWr vt x1 = true := by simp only [okWr, if_pos c_7, if_pos c_24]
          rw [hok, hs]
          exact hP
        exact kr_si hx hb hr hlocks dX6_write_72 hP hS (sameAd_cons rfl (sameAd_cons (bX4_ad _ _ _ _) sameAd_nil)) ⟨by rw [f_writeR, if_pos c_7, if_pos c_24, hs]; rfl, rfl⟩
      · skip
        intro k ih_35 u H locs ls hP hD hS hl hkb hs
        rw [nI_pred] at hl
        refine lv_iload hx hb dX6_write_35 (lv_at hl 0 rfl) ?_
        refine lv_if_lt (tgt := 65) hx hb dX6_write_37 (by decide) (fun c_37 => absurd c_37 (nI_pos (show k < 2 ^ 31 by have := cl_lt x1; omega))) (fun c_37 => ?_)
        refine lv_aload_n hx hb dX6_write_40 rfl (lv_at hl 1 rfl) ?_
        refine kb_get (own := RX6) (C := RX6) (T := TX6) (N := 9) (v := .ref (tx 0)) hx hb hts hin6 hown hX hP 0 rfl rfl rfl 0 (by decide) rfl (by decide +kernel) rfl dX6_write_41 ?_
        refine lv_lload_n hx hb dX6_write_44 rfl (lv_at hl 3 rfl) ?_
        refine lv_bipush (v := 8) hx hb dX6_write_45 (by decide) ?_
        refine lv_iload hx hb dX6_write_47 (lv_at hl 0 rfl) ?_
        refine lv_imul hx hb dX6_write_49 ?_
        refine lv_lushr hx hb dX6_write_50 rfl ?_
        refine lv_l2i (v := ((x2.toUInt64 >>> ((8 * (nI k) : Int32).toInt64.toUInt64 &&& Int64.toUInt64 63)).toInt64 : Int64).toInt32) hx hb dX6_write_51 rfl ?_
        refine lv_sipush (v := 255) hx hb dX6_write_52 (by decide) ?_
        refine lv_iand hx hb dX6_write_55 ?_
        refine kcV_s hx hb hml hown hts hX hP hD hS (c_X4_append l G tx u ((((x2.toUInt64 >>> ((8 * (nI k) : Int32).toInt64.toUInt64 &&& Int64.toUInt64 63)).toInt64 : Int64).toInt32) &&& 255)) gX6_write_X4_append 1 rfl rfl rfl hd_X4_append ⟨Nat.le_of_ble_eq_true rfl, Nat.le_of_ble_eq_true rfl⟩ [1] (by decide) rfl 1 rfl rfl rfl hl.1 rfl rfl (Nat.le_of_ble_eq_true rfl) dX6_write_56 ⟨Nat.zero_le _, Nat.zero_le _⟩ (fun r_ bc_ hq_1 H locs hP hD hS => ?_)
        obtain ⟨rfl, rfl⟩ := hq_1
        have hP : PP G [bX6 h0 (tx 0) (nw 0) (tr 0) (un 0) (kp 0) (wy 0) (rm 0) (pl 0) (dr 0), bX4 tx G (f_X4_append u ((((x2.toUInt64 >>> ((8 * (nI k) : Int32).toInt64.toUInt64 &&& Int64.toUInt64 63)).toInt64 : Int64).toInt32) &&& 255))] H := hP
        have hD : DD (AA (List.flatten [bX6 h0 (tx 0) (nw 0) (tr 0) (un 0) (kp 0) (wy 0) (rm 0) (pl 0) (dr 0), bX4 tx G vt])) [bX6 h0 (tx 0) (nw 0) (tr 0) (un 0) (kp 0) (wy 0) (rm 0) (pl 0) (dr 0), bX4 tx G (f_X4_append u ((((x2.toUInt64 >>> ((8 * (nI k) : Int32).toInt64.toUInt64 &&& Int64.toUInt64 63)).toInt64 : Int64).toInt32) &&& 255))] := D_re hD (adc rfl (adc (bX4_ad _ _ _ _) adn))
        refine lv_iinc (v := (nI k) - 1) (lv' := [(4, .int ((nI k) - 1)), (0, .ref h0), (1, .int x1), (2, .long x2)]) hx hb dX6_write_59 hl (k := 0) rfl (dec1 _) (by decide) rfl (fun ls hl => ?_)
        refine lv_goto (tgt := 35) hx hb dX6_write_62 (by decide) ?_
        have hP : PP G [bX6 h0 (tx 0) (nw 0) (tr 0) (un 0) (kp 0) (wy 0) (rm 0) (pl 0) (dr 0), bX4 tx G (f_X4_append u ((((x2.toUInt64 >>> ((8 * (nI k) : Int32).toInt64.toUInt64 &&& Int64.toUInt64 63)).toInt64 : Int64).toInt32) &&& 255))] H := hP
        have hD : DD (AA (List.flatten [bX6 h0 (tx 0) (nw 0) (tr 0) (un 0) (kp 0) (wy 0) (rm 0) (pl 0) (dr 0), bX4 tx G vt])) [bX6 h0 (tx 0) (nw 0) (tr 0) (un 0) (kp 0) (wy 0) (rm 0) (pl 0) (dr 0), bX4 tx G (f_X4_append u ((((x2.toUInt64 >>> ((8 * (nI k) : Int32).toInt64.toUInt64 &&& Int64.toUInt64 63)).toInt64 : Int64).toInt32) &&& 255))] := D_re hD (adc rfl (adc (bX4_ad _ _ _ _) adn))
        exact ih_35 (f_X4_append u ((((x2.toUInt64 >>> ((8 * (nI k) : Int32).toInt64.toUInt64 &&& Int64.toUInt64 63)).toInt64 : Int64).toInt32) &&& 255)) _ _ _ hP hD hS (show lv_has ls 5 [(4, .int ((nI k) - 1)), (0, .ref h0), (1, .int x1), (2, .long x2)] from lv_sub hl [0, 1, 2, 3] rfl) (by omega) (hs)
    · refine lv_bipush (v := (-3)) hx hb dX6_write_27 (by decide) ?_
      have hP : PP G [bX6 h0 (tx 0) (nw 0) (tr 0) (un 0) (kp 0) (wy 0) (rm 0) (pl 0) (dr 0), bX4 tx G (cnd (okWr vt x1) (wr2Go x2 x1.toNatClampNeg vt) vt)] H := by
        have hok : okWr vt x1 = false := by simp only [okWr, if_pos c_7, if_neg c_24]
        rw [hok]
        exact hP
      exact kr_si hx hb hr hlocks dX6_write_29 hP hS (sameAd_cons rfl (sameAd_cons (bX4_ad _ _ _ _) sameAd_nil)) ⟨by simp only [f_writeR, if_pos c_7, if_neg c_24] <;> rfl, rfl⟩
  · have c_7 := b2i_fN c_7r
    refine lv_iconst (v := (-1)) hx hb dX6_write_10 (by decide) ?_
    have hP : PP G [bX6 h0 (tx 0) (nw 0) (tr 0) (un 0) (kp 0) (wy 0) (rm 0) (pl 0) (dr 0), bX4 tx G (cnd (okWr vt x1) (wr2Go x2 x1.toNatClampNeg vt) vt)] H := by
      have hok : okWr vt x1 = false := by simp only [okWr, if_neg c_7]
      rw [hok]
      exact hP
    exact kr_si hx hb hr hlocks dX6_write_11 hP hS (sameAd_cons rfl (sameAd_cons (bX4_ad _ _ _ _) sameAd_nil)) ⟨by simp only [f_writeR, if_neg c_7] <;> rfl, rfl⟩

def rm_X6_lay : Room := { frames := 6, cells := 0, slots := 0, locals := 133 }
theorem hd_X6_lay : yX6_lay.cls = RX6 ∧ yX6_lay.cls ≠ "java/lang/invoke/MethodHandle" ∧ yX6_lay.cls ≠ "java/lang/invoke/VarHandle" ∧ (parseMethodDescriptor yX6_lay.desc).map (fun d => d.parameters.length) = some 0 := by decide +kernel
set_option maxRecDepth 100000 in
set_option maxHeartbeats 4000000 in
theorem c_X6_lay (l : Launch) (G : GD) (h0 : Nat) (tx nw tr un kp wy rm pl dr : Nat → Nat) (vt : OV) (vd : OV) (vp : OV) (vn : OV) (adu : Nat → Nat → Nat) (hvu : Nat → OV) (nu : Nat) (adk : Nat → Nat → Nat) (hvk : Nat → OV) (nk : Nat)  : MetS l yX6_lay wsX6_lay rm_X6_lay G [bX6 h0 (tx 0) (nw 0) (tr 0) (un 0) (kp 0) (wy 0) (rm 0) (pl 0) (dr 0), bX4 tx G vt, bX2 dr G vd, bX2 pl G vp, bX0 nw G vn, bX1 un G 8 adu hvu nu, bX1 kp G 2 adk hvk nk] [.ref h0] (fun r bc => r = some (.int (f_layR vp vt vd)) ∧ bc = [bX6 h0 (tx 0) (nw 0) (tr 0) (un 0) (kp 0) (wy 0) (rm 0) (cnd (okLay vt vd) (dr 0) (pl 0)) (cnd (okLay vt vd) (pl 0) (dr 0)), bX4 tx G ((f_X4_read vt vd).2.1), bX2 dr G ((f_X4_read vt vd).2.2), bX2 pl G vp, bX0 nw G (cnd (okLay vt vd) (f_X0_beginAs vn (f_X4_read vt vd).2.2) vn), bX1 un G 8 adu hvu (cnd (okLay vt vd) 0 nu), bX1 kp G 2 adk hvk (cnd (okLay vt vd) 0 nk)]) := by
  refine kb_beginS (cc := cX6_lay) (maxL := 2) (ret := (some .int)) (by decide) rfl (Nat.le_of_ble_eq_true rfl) ?_
  intro p e s m below meth c hx hb hr hml hown hts hlocks hX H locs hP hD hS ls hl
  have hown : s.vm.findClass RX6 = some m.cls := hown
  have hl : lv_has ls 2 [(0, .ref h0)] := hl
  have hin2 : ∀ w ∈ u_ws RX2 TX2 15, w ∈ wsX6_lay := (fun _ h => List.mem_cons_of_mem _ (List.mem_append_left _ (List.mem_append_left _ (List.mem_append_left _ (List.mem_append_right _ (h))))))
  have hin6 : ∀ w ∈ u_ws RX6 TX6 9, w ∈ wsX6_lay := (fun _ h => List.mem_cons_of_mem _ (List.mem_append_left _ (List.mem_append_left _ (List.mem_append_left _ (List.mem_append_left _ (List.mem_append_right _ (h)))))))
  refine lv_aload_n hx hb dX6_lay_0 rfl (lv_at hl 0 rfl) ?_
  refine kb_get (own := RX6) (C := RX6) (T := TX6) (N := 9) (v := .ref (tx 0)) hx hb hts hin6 hown hX hP 0 rfl rfl rfl 0 (by decide) rfl (by decide +kernel) rfl dX6_lay_1 ?_
  refine lv_aload_n hx hb dX6_lay_4 rfl (lv_at hl 0 rfl) ?_
  refine kb_get (own := RX6) (C := RX6) (T := TX6) (N := 9) (v := .ref (dr 0)) hx hb hts hin6 hown hX hP 0 rfl rfl rfl 8 (by decide) rfl (by decide +kernel) rfl dX6_lay_5 ?_
  refine kcV_s hx hb hml hown hts hX hP hD hS (c_X4_readInto l G tx vt dr vd) gX6_lay_X4_readInto 1 rfl rfl rfl hd_X4_readInto ⟨Nat.le_of_ble_eq_true rfl, Nat.le_of_ble_eq_true rfl⟩ [1, 2] (by decide) rfl 1 rfl rfl rfl hl.1 rfl rfl (Nat.le_of_ble_eq_true rfl) dX6_lay_8 ⟨Nat.zero_le _, Nat.zero_le _⟩ (fun r_ bc_ hq_1 H locs hP hD hS => ?_)
  obtain ⟨rfl, rfl⟩ := hq_1
  have hP : PP G [bX6 h0 (tx 0) (nw 0) (tr 0) (un 0) (kp 0) (wy 0) (rm 0) (pl 0) (dr 0), bX4 tx G ((f_X4_read vt vd).2.1), bX2 dr G ((f_X4_read vt vd).2.2), bX2 pl G vp, bX0 nw G vn, bX1 un G 8 adu hvu nu, bX1 kp G 2 adk hvk nk] H := hP
  have hD : DD (AA (List.flatten [bX6 h0 (tx 0) (nw 0) (tr 0) (un 0) (kp 0) (wy 0) (rm 0) (pl 0) (dr 0), bX4 tx G vt, bX2 dr G vd, bX2 pl G vp, bX0 nw G vn, bX1 un G 8 adu hvu nu, bX1 kp G 2 adk hvk nk])) [bX6 h0 (tx 0) (nw 0) (tr 0) (un 0) (kp 0) (wy 0) (rm 0) (pl 0) (dr 0), bX4 tx G ((f_X4_read vt vd).2.1), bX2 dr G ((f_X4_read vt vd).2.2), bX2 pl G vp, bX0 nw G vn, bX1 un G 8 adu hvu nu, bX1 kp G 2 adk hvk nk] := D_re hD (adc rfl (adc (bX4_ad _ _ _ _) (adc (bX2_ad _ _ _ _) (adc (bX2_ad _ _ _ _) (adc (bX0_ad _ _ _ _) (adc (bX1_ad _ _ _ _ _ _ _ _) (adc (bX1_ad _ _ _ _ _ _ _ _) adn)))))))
  refine lv_bipush (v := (-4)) hx hb dX6_lay_11 (by decide) ?_
  refine lv_icmp_ne (tgt := 26) hx hb dX6_lay_13 (by decide) (fun c_13 => ?_) (fun c_13 => ?_)
  · refine lv_bipush (v := (-2)) hx hb dX6_lay_26 (by decide) ?_
    have hP : PP G [bX6 h0 (tx 0) (nw 0) (tr 0) (un 0) (kp 0) (wy 0) (rm 0) (cnd (okLay vt vd) (dr 0) (pl 0)) (cnd (okLay vt vd) (pl 0) (dr 0)), bX4 tx G ((f_X4_read vt vd).2.1), bX2 dr G ((f_X4_read vt vd).2.2), bX2 pl G vp, bX0 nw G (cnd (okLay vt vd) (f_X0_beginAs vn (f_X4_read vt vd).2.2) vn), bX1 un G 8 adu hvu (cnd (okLay vt vd) 0 nu), bX1 kp G 2 adk hvk (cnd (okLay vt vd) 0 nk)] H := by
      have hok : okLay vt vd = false := by simp only [okLay, if_neg c_13]
      rw [hok]
      exact hP
    exact kr_si hx hb hr hlocks dX6_lay_28 hP hS (sameAd_cons rfl (sameAd_cons (bX4_ad _ _ _ _) (sameAd_cons (bX2_ad _ _ _ _) (sameAd_cons (bX2_ad _ _ _ _) (sameAd_cons (bX0_ad _ _ _ _) (sameAd_cons (bX1_ad _ _ _ _ _ _ _ _) (sameAd_cons (bX1_ad _ _ _ _ _ _ _ _) sameAd_nil))))))) ⟨by simp only [f_layR, if_neg c_13] <;> rfl, rfl⟩
  · refine lv_aload_n hx hb dX6_lay_16 rfl (lv_at hl 0 rfl) ?_
    refine kb_get (own := RX6) (C := RX6) (T := TX6) (N := 9) (v := .ref (dr 0)) hx hb hts hin6 hown hX hP 0 rfl rfl rfl 8 (by decide) rfl (by decide +kernel) rfl dX6_lay_17 ?_
    refine kcV_p hx hb hml hown hts hX hP (c_X2_canStand l G dr ((f_X4_read vt vd).2.2)) gX6_lay_X2_canStand 0 rfl rfl rfl hd_X2_canStand ⟨Nat.le_of_ble_eq_true rfl, Nat.le_of_ble_eq_true rfl⟩ [2] rfl 2 rfl rfl rfl hl.1 rfl rfl (Nat.le_of_ble_eq_true rfl) dX6_lay_20 ⟨Nat.zero_le _, Nat.zero_le _⟩ ?_
    refine lv_if_ne (tgt := 29) hx hb dX6_lay_23 (by decide) (fun c_23r => ?_) (fun c_23r => ?_)
    · have c_23 := b2i_tP c_23r
      refine lv_aload_n hx hb dX6_lay_29 rfl (lv_at hl 0 rfl) ?_
      refine kb_get (own := RX6) (C := RX6) (T := TX6) (N := 9) (v := .ref (dr 0)) hx hb hts hin6 hown hX hP 0 rfl rfl rfl 8 (by decide) rfl (by decide +kernel) rfl dX6_lay_30 ?_
      refine lv_astore_n (lv' := [(1, .ref (dr 0)), (0, .ref h0)]) hx hb dX6_lay_33 rfl hl (by decide) rfl (fun ls hl => ?_)
      refine lv_aload_n hx hb dX6_lay_34 rfl (lv_at hl 1 rfl) ?_
      refine lv_aload_n hx hb dX6_lay_35 rfl (lv_at hl 1 rfl) ?_
      refine kb_get (own := RX6) (C := RX6) (T := TX6) (N := 9) (v := .ref (pl 0)) hx hb hts hin6 hown hX hP 0 rfl rfl rfl 7 (by decide) rfl (by decide +kernel) rfl dX6_lay_36 ?_
      refine kb_put (own := RX6) (C := RX6) (T := TX6) (N := 9) hx hb hts hin6 tyX6 tyX6_ok nmX6 (ty := (.object "DoorsThatRemember$Plan")) hown hX hP hD hS 0 rfl rfl rfl 8 (by decide) rfl (by decide +kernel) (by decide +kernel) rfl rfl (Nat.le_of_ble_eq_true rfl) dX6_lay_39 rfl (fun H locs hP hD hS => ?_)
      have hP : PP G [bX6 h0 (tx 0) (nw 0) (tr 0) (un 0) (kp 0) (wy 0) (rm 0) (pl 0) (pl 0), bX4 tx G ((f_X4_read vt vd).2.1), bX2 dr G ((f_X4_read vt vd).2.2), bX2 pl G vp, bX0 nw G vn, bX1 un G 8 adu hvu nu, bX1 kp G 2 adk hvk nk] H := hP
      have hD : DD (AA (List.flatten [bX6 h0 (tx 0) (nw 0) (tr 0) (un 0) (kp 0) (wy 0) (rm 0) (pl 0) (dr 0), bX4 tx G vt, bX2 dr G vd, bX2 pl G vp, bX0 nw G vn, bX1 un G 8 adu hvu nu, bX1 kp G 2 adk hvk nk])) [bX6 h0 (tx 0) (nw 0) (tr 0) (un 0) (kp 0) (wy 0) (rm 0) (pl 0) (pl 0), bX4 tx G ((f_X4_read vt vd).2.1), bX2 dr G ((f_X4_read vt vd).2.2), bX2 pl G vp, bX0 nw G vn, bX1 un G 8 adu hvu nu, bX1 kp G 2 adk hvk nk] := D_re hD (adc rfl (adc (bX4_ad _ _ _ _) (adc (bX2_ad _ _ _ _) (adc (bX2_ad _ _ _ _) (adc (bX0_ad _ _ _ _) (adc (bX1_ad _ _ _ _ _ _ _ _) (adc (bX1_ad _ _ _ _ _ _ _ _) adn)))))))
      refine lv_aload_n hx hb dX6_lay_42 rfl (lv_at hl 1 rfl) ?_
      refine lv_aload_n hx hb dX6_lay_43 rfl (lv_at hl 0 rfl) ?_
      refine kb_put (own := RX6) (C := RX6) (T := TX6) (N := 9) hx hb hts hin6 tyX6 tyX6_ok nmX6 (ty := (.object "DoorsThatRemember$Plan")) hown hX hP hD hS 0 rfl rfl rfl 7 (by decide) rfl (by decide +kernel) (by decide +kernel) rfl rfl (Nat.le_of_ble_eq_true rfl) dX6_lay_44 rfl (fun H locs hP hD hS => ?_)
      have hP : PP G [bX6 h0 (tx 0) (nw 0) (tr 0) (un 0) (kp 0) (wy 0) (rm 0) (dr 0) (pl 0), bX4 tx G ((f_X4_read vt vd).2.1), bX2 dr G ((f_X4_read vt vd).2.2), bX2 pl G vp, bX0 nw G vn, bX1 un G 8 adu hvu nu, bX1 kp G 2 adk hvk nk] H := hP
      have hD : DD (AA (List.flatten [bX6 h0 (tx 0) (nw 0) (tr 0) (un 0) (kp 0) (wy 0) (rm 0) (pl 0) (dr 0), bX4 tx G vt, bX2 dr G vd, bX2 pl G vp, bX0 nw G vn, bX1 un G 8 adu hvu nu, bX1 kp G 2 adk hvk nk])) [bX6 h0 (tx 0) (nw 0) (tr 0) (un 0) (kp 0) (wy 0) (rm 0) (dr 0) (pl 0), bX4 tx G ((f_X4_read vt vd).2.1), bX2 dr G ((f_X4_read vt vd).2.2), bX2 pl G vp, bX0 nw G vn, bX1 un G 8 adu hvu nu, bX1 kp G 2 adk hvk nk] := D_re hD (adc rfl (adc (bX4_ad _ _ _ _) (adc (bX2_ad _ _ _ _) (adc (bX2_ad _ _ _ _) (adc (bX0_ad _ _ _ _) (adc (bX1_ad _ _ _ _ _ _ _ _) (adc (bX1_ad _ _ _ _ _ _ _ _) adn)))))))
      refine lv_aload_n hx hb dX6_lay_47 rfl (lv_at hl 1 rfl) ?_
      refine kb_get (own := RX6) (C := RX6) (T := TX6) (N := 9) (v := .ref (nw 0)) hx hb hts hin6 hown hX hP 0 rfl rfl rfl 1 (by decide) rfl (by decide +kernel) rfl dX6_lay_48 ?_
      refine lv_aload_n hx hb dX6_lay_51 rfl (lv_at hl 1 rfl) ?_
      refine kb_get (own := RX6) (C := RX6) (T := TX6) (N := 9) (v := .ref (dr 0)) hx hb hts hin6 hown hX hP 0 rfl rfl rfl 7 (by decide) rfl (by decide +kernel) rfl dX6_lay_52 ?_
      refine kcV_s hx hb hml hown hts hX hP hD hS (c_X0_beginAs l G nw vn dr ((f_X4_read vt vd).2.2)) gX6_lay_X0_beginAs 1 rfl rfl rfl hd_X0_beginAs ⟨Nat.le_of_ble_eq_true rfl, Nat.le_of_ble_eq_true rfl⟩ [4, 2] (by decide) rfl 4 rfl rfl rfl hl.1 rfl rfl (Nat.le_of_ble_eq_true rfl) dX6_lay_55 ⟨Nat.zero_le _, Nat.zero_le _⟩ (fun r_ bc_ hq_2 H locs hP hD hS => ?_)
      obtain ⟨rfl, rfl⟩ := hq_2
      have hP : PP G [bX6 h0 (tx 0) (nw 0) (tr 0) (un 0) (kp 0) (wy 0) (rm 0) (dr 0) (pl 0), bX4 tx G ((f_X4_read vt vd).2.1), bX2 dr G ((f_X4_read vt vd).2.2), bX2 pl G vp, bX0 nw G (f_X0_beginAs vn ((f_X4_read vt vd).2.2)), bX1 un G 8 adu hvu nu, bX1 kp G 2 adk hvk nk] H := hP
      have hD : DD (AA (List.flatten [bX6 h0 (tx 0) (nw 0) (tr 0) (un 0) (kp 0) (wy 0) (rm 0) (pl 0) (dr 0), bX4 tx G vt, bX2 dr G vd, bX2 pl G vp, bX0 nw G vn, bX1 un G 8 adu hvu nu, bX1 kp G 2 adk hvk nk])) [bX6 h0 (tx 0) (nw 0) (tr 0) (un 0) (kp 0) (wy 0) (rm 0) (dr 0) (pl 0), bX4 tx G ((f_X4_read vt vd).2.1), bX2 dr G ((f_X4_read vt vd).2.2), bX2 pl G vp, bX0 nw G (f_X0_beginAs vn ((f_X4_read vt vd).2.2)), bX1 un G 8 adu hvu nu, bX1 kp G 2 adk hvk nk] := D_re hD (adc rfl (adc (bX4_ad _ _ _ _) (adc (bX2_ad _ _ _ _) (adc (bX2_ad _ _ _ _) (adc (bX0_ad _ _ _ _) (adc (bX1_ad _ _ _ _ _ _ _ _) (adc (bX1_ad _ _ _ _ _ _ _ _) adn)))))))
      refine lv_aload_n hx hb dX6_lay_58 rfl (lv_at hl 1 rfl) ?_
      refine kb_get (own := RX6) (C := RX6) (T := TX6) (N := 9) (v := .ref (un 0)) hx hb hts hin6 hown hX hP 0 rfl rfl rfl 3 (by decide) rfl (by decide +kernel) rfl dX6_lay_59 ?_
      refine kcV_s hx hb hml hown hts hX hP hD hS (c_X1_forgetAll l G un 8 adu hvu nu) gX6_lay_X1_forgetAll 0 rfl rfl rfl hd_X1_forgetAll ⟨Nat.le_of_ble_eq_true rfl, Nat.le_of_ble_eq_true rfl⟩ [5] (by decide) rfl 5 rfl rfl rfl hl.1 rfl rfl (Nat.le_of_ble_eq_true rfl) dX6_lay_62 ⟨Nat.zero_le _, Nat.zero_le _⟩ (fun r_ bc_ hq_3 H locs hP hD hS => ?_)
      obtain ⟨rfl, rfl⟩ := hq_3
      have hP : PP G [bX6 h0 (tx 0) (nw 0) (tr 0) (un 0) (kp 0) (wy 0) (rm 0) (dr 0) (pl 0), bX4 tx G ((f_X4_read vt vd).2.1), bX2 dr G ((f_X4_read vt vd).2.2), bX2 pl G vp, bX0 nw G (f_X0_beginAs vn ((f_X4_read vt vd).2.2)), bX1 un G 8 adu hvu 0, bX1 kp G 2 adk hvk nk] H := hP
      have hD : DD (AA (List.flatten [bX6 h0 (tx 0) (nw 0) (tr 0) (un 0) (kp 0) (wy 0) (rm 0) (pl 0) (dr 0), bX4 tx G vt, bX2 dr G vd, bX2 pl G vp, bX0 nw G vn, bX1 un G 8 adu hvu nu, bX1 kp G 2 adk hvk nk])) [bX6 h0 (tx 0) (nw 0) (tr 0) (un 0) (kp 0) (wy 0) (rm 0) (dr 0) (pl 0), bX4 tx G ((f_X4_read vt vd).2.1), bX2 dr G ((f_X4_read vt vd).2.2), bX2 pl G vp, bX0 nw G (f_X0_beginAs vn ((f_X4_read vt vd).2.2)), bX1 un G 8 adu hvu 0, bX1 kp G 2 adk hvk nk] := D_re hD (adc rfl (adc (bX4_ad _ _ _ _) (adc (bX2_ad _ _ _ _) (adc (bX2_ad _ _ _ _) (adc (bX0_ad _ _ _ _) (adc (bX1_ad _ _ _ _ _ _ _ _) (adc (bX1_ad _ _ _ _ _ _ _ _) adn)))))))
      refine lv_aload_n hx hb dX6_lay_65 rfl (lv_at hl 1 rfl) ?_
      refine kb_get (own := RX6) (C := RX6) (T := TX6) (N := 9) (v := .ref (kp 0)) hx hb hts hin6 hown hX hP 0 rfl rfl rfl 4 (by decide) rfl (by decide +kernel) rfl dX6_lay_66 ?_
      refine kcV_s hx hb hml hown hts hX hP hD hS (c_X1_forgetAll l G kp 2 adk hvk nk) gX6_lay_X1_forgetAll 0 rfl rfl rfl hd_X1_forgetAll ⟨Nat.le_of_ble_eq_true rfl, Nat.le_of_ble_eq_true rfl⟩ [6] (by decide) rfl 6 rfl rfl rfl hl.1 rfl rfl (Nat.le_of_ble_eq_true rfl) dX6_lay_69 ⟨Nat.zero_le _, Nat.zero_le _⟩ (fun r_ bc_ hq_4 H locs hP hD hS => ?_)
      obtain ⟨rfl, rfl⟩ := hq_4
      have hP : PP G [bX6 h0 (tx 0) (nw 0) (tr 0) (un 0) (kp 0) (wy 0) (rm 0) (dr 0) (pl 0), bX4 tx G ((f_X4_read vt vd).2.1), bX2 dr G ((f_X4_read vt vd).2.2), bX2 pl G vp, bX0 nw G (f_X0_beginAs vn ((f_X4_read vt vd).2.2)), bX1 un G 8 adu hvu 0, bX1 kp G 2 adk hvk 0] H := hP
      have hD : DD (AA (List.flatten [bX6 h0 (tx 0) (nw 0) (tr 0) (un 0) (kp 0) (wy 0) (rm 0) (pl 0) (dr 0), bX4 tx G vt, bX2 dr G vd, bX2 pl G vp, bX0 nw G vn, bX1 un G 8 adu hvu nu, bX1 kp G 2 adk hvk nk])) [bX6 h0 (tx 0) (nw 0) (tr 0) (un 0) (kp 0) (wy 0) (rm 0) (dr 0) (pl 0), bX4 tx G ((f_X4_read vt vd).2.1), bX2 dr G ((f_X4_read vt vd).2.2), bX2 pl G vp, bX0 nw G (f_X0_beginAs vn ((f_X4_read vt vd).2.2)), bX1 un G 8 adu hvu 0, bX1 kp G 2 adk hvk 0] := D_re hD (adc rfl (adc (bX4_ad _ _ _ _) (adc (bX2_ad _ _ _ _) (adc (bX2_ad _ _ _ _) (adc (bX0_ad _ _ _ _) (adc (bX1_ad _ _ _ _ _ _ _ _) (adc (bX1_ad _ _ _ _ _ _ _ _) adn)))))))
      refine lv_aload_n hx hb dX6_lay_72 rfl (lv_at hl 1 rfl) ?_
      refine kb_get (own := RX6) (C := RX6) (T := TX6) (N := 9) (v := .ref (dr 0)) hx hb hts hin6 hown hX hP 0 rfl rfl rfl 7 (by decide) rfl (by decide +kernel) rfl dX6_lay_73 ?_
      refine kb_getN (own := RX6) (C := RX2) (T := TX2) (N := 15) (v := .int (((f_X4_read vt vd).2.2).2 9)) hx hb hts hin2 hown hX hP 2 rfl rfl rfl 9 (by decide) rfl (by decide +kernel) rfl dX6_lay_76 ?_
      have hP : PP G [bX6 h0 (tx 0) (nw 0) (tr 0) (un 0) (kp 0) (wy 0) (rm 0) (cnd (okLay vt vd) (dr 0) (pl 0)) (cnd (okLay vt vd) (pl 0) (dr 0)), bX4 tx G ((f_X4_read vt vd).2.1), bX2 dr G ((f_X4_read vt vd).2.2), bX2 pl G vp, bX0 nw G (cnd (okLay vt vd) (f_X0_beginAs vn (f_X4_read vt vd).2.2) vn), bX1 un G 8 adu hvu (cnd (okLay vt vd) 0 nu), bX1 kp G 2 adk hvk (cnd (okLay vt vd) 0 nk)] H := by
        have hok : okLay vt vd = true := by simp only [okLay, if_pos c_13, if_pos c_23]
        rw [hok]
        exact hP
      exact kr_si hx hb hr hlocks dX6_lay_79 hP hS (sameAd_cons rfl (sameAd_cons (bX4_ad _ _ _ _) (sameAd_cons (bX2_ad _ _ _ _) (sameAd_cons (bX2_ad _ _ _ _) (sameAd_cons (bX0_ad _ _ _ _) (sameAd_cons (bX1_ad _ _ _ _ _ _ _ _) (sameAd_cons (bX1_ad _ _ _ _ _ _ _ _) sameAd_nil))))))) ⟨by simp only [f_layR, if_pos c_13, if_pos c_23] <;> rfl, rfl⟩
    · have c_23 := b2i_fN c_23r
      refine lv_bipush (v := (-2)) hx hb dX6_lay_26 (by decide) ?_
      have hP : PP G [bX6 h0 (tx 0) (nw 0) (tr 0) (un 0) (kp 0) (wy 0) (rm 0) (cnd (okLay vt vd) (dr 0) (pl 0)) (cnd (okLay vt vd) (pl 0) (dr 0)), bX4 tx G ((f_X4_read vt vd).2.1), bX2 dr G ((f_X4_read vt vd).2.2), bX2 pl G vp, bX0 nw G (cnd (okLay vt vd) (f_X0_beginAs vn (f_X4_read vt vd).2.2) vn), bX1 un G 8 adu hvu (cnd (okLay vt vd) 0 nu), bX1 kp G 2 adk hvk (cnd (okLay vt vd) 0 nk)] H := by
        have hok : okLay vt vd = false := by simp only [okLay, if_pos c_13, if_neg c_23]
        rw [hok]
        exact hP
      exact kr_si hx hb hr hlocks dX6_lay_28 hP hS (sameAd_cons rfl (sameAd_cons (bX4_ad _ _ _ _) (sameAd_cons (bX2_ad _ _ _ _) (sameAd_cons (bX2_ad _ _ _ _) (sameAd_cons (bX0_ad _ _ _ _) (sameAd_cons (bX1_ad _ _ _ _ _ _ _ _) (sameAd_cons (bX1_ad _ _ _ _ _ _ _ _) sameAd_nil))))))) ⟨by simp only [f_layR, if_pos c_13, if_neg c_23] <;> rfl, rfl⟩
