/-! the class: what its calls lean on -/
theorem push_ad {a : Nat → Nat} {G : GD} {m : Nat} {ad : Nat → Nat → Nat} {hv : Nat → OV} {n k n' : Nat} (hm : 1 ≤ m) (hv' : Nat → OV) : ((bX1 a G m (pushA m k ad) hv' n').map Prod.fst).Perm ((bX1 a G m ad hv n).map Prod.fst) := by
  unfold pushA
  split
  · rw [bX1_ad a G m ad hv hv' n n']
  · exact rot_ad hm hv'
theorem cnd_ad {a : Nat → Nat} {G : GD} {m : Nat} {ad : Nat → Nat → Nat} {hv : Nat → OV} {n k n' : Nat} {b : Bool} (hm : 1 ≤ m) (hv' : Nat → OV) : ((bX1 a G m (cnd b (pushA m k ad) ad) hv' n').map Prod.fst).Perm ((bX1 a G m ad hv n).map Prod.fst) := by
  cases b
  · exact (by rw [bX1_ad a G m ad hv hv' n n'] : ((bX1 a G m ad hv' n').map Prod.fst).Perm _)
  · exact push_ad hm hv'

def rm_J6_bitCount_0f7a4 : Room := { frames := 0, cells := 0, slots := 0, locals := 0 }
theorem hdS_J6_bitCount_0f7a4 : yJ6_bitCount_0f7a4.cls ≠ "java/lang/invoke/MethodHandle" ∧ yJ6_bitCount_0f7a4.cls ≠ "java/lang/invoke/VarHandle" ∧ (parseMethodDescriptor yJ6_bitCount_0f7a4.desc).map (fun d => d.parameters.length) = some 1 := by decide +kernel
set_option maxRecDepth 100000 in
set_option maxHeartbeats 4000000 in
theorem c_J6_bitCount_0f7a4 (l : Launch) (G : GD) (x1 : Int32)  : MetP l yJ6_bitCount_0f7a4 wsJ6_bitCount_0f7a4 rm_J6_bitCount_0f7a4 G [] [.int x1] (some (.int (f_bits x1))) := by
  refine kb_beginP (cc := cJ6_bitCount_0f7a4) (maxL := 1) (ret := (some .int)) (by decide) rfl (Nat.le_of_ble_eq_true rfl) ?_
  intro p e s m below meth c hx hb hr hml hown hts hlocks hX hP ls hl
  have hown : s.vm.findClass RJ6 = some m.cls := hown
  have hl : lv_has ls 1 [(0, .int x1)] := hl
  refine lv_iload_n hx hb dJ6_bitCount_0f7a4_0 rfl (lv_at hl 0 rfl) ?_
  refine lv_iload_n hx hb dJ6_bitCount_0f7a4_1 rfl (lv_at hl 0 rfl) ?_
  refine lv_iconst (v := 1) hx hb dJ6_bitCount_0f7a4_2 (by decide) ?_
  refine lv_iushr hx hb dJ6_bitCount_0f7a4_3 rfl ?_
  refine lv_ldcw (v := 1431655765) hx hb hown (hts (.constant RJ6 265 1431655765) (by decide +kernel)) dJ6_bitCount_0f7a4_4 ?_
  refine lv_iand hx hb dJ6_bitCount_0f7a4_7 ?_
  refine lv_isub hx hb dJ6_bitCount_0f7a4_8 ?_
  refine lv_topi (fun y1 e_y1 => ?_)
  refine lv_istore_n (lv' := [(0, .int y1)]) hx hb dJ6_bitCount_0f7a4_9 rfl hl (by decide) rfl (fun ls hl => ?_)
  refine lv_iload_n hx hb dJ6_bitCount_0f7a4_10 rfl (lv_at hl 0 rfl) ?_
  refine lv_ldcw (v := 858993459) hx hb hown (hts (.constant RJ6 266 858993459) (by decide +kernel)) dJ6_bitCount_0f7a4_11 ?_
  refine lv_iand hx hb dJ6_bitCount_0f7a4_14 ?_
  refine lv_iload_n hx hb dJ6_bitCount_0f7a4_15 rfl (lv_at hl 0 rfl) ?_
  refine lv_iconst (v := 2) hx hb dJ6_bitCount_0f7a4_16 (by decide) ?_
  refine lv_iushr hx hb dJ6_bitCount_0f7a4_17 rfl ?_
  refine lv_ldcw (v := 858993459) hx hb hown (hts (.constant RJ6 266 858993459) (by decide +kernel)) dJ6_bitCount_0f7a4_18 ?_
  refine lv_iand hx hb dJ6_bitCount_0f7a4_21 ?_
  refine lv_iadd hx hb dJ6_bitCount_0f7a4_22 ?_
  refine lv_topi (fun y2 e_y2 => ?_)
  refine lv_istore_n (lv' := [(0, .int y2)]) hx hb dJ6_bitCount_0f7a4_23 rfl hl (by decide) rfl (fun ls hl => ?_)
  refine lv_iload_n hx hb dJ6_bitCount_0f7a4_24 rfl (lv_at hl 0 rfl) ?_
  refine lv_iload_n hx hb dJ6_bitCount_0f7a4_25 rfl (lv_at hl 0 rfl) ?_
  refine lv_iconst (v := 4) hx hb dJ6_bitCount_0f7a4_26 (by decide) ?_
  refine lv_iushr hx hb dJ6_bitCount_0f7a4_27 rfl ?_
  refine lv_iadd hx hb dJ6_bitCount_0f7a4_28 ?_
  refine lv_ldcw (v := 252645135) hx hb hown (hts (.constant RJ6 267 252645135) (by decide +kernel)) dJ6_bitCount_0f7a4_29 ?_
  refine lv_iand hx hb dJ6_bitCount_0f7a4_32 ?_
  refine lv_topi (fun y3 e_y3 => ?_)
  refine lv_istore_n (lv' := [(0, .int y3)]) hx hb dJ6_bitCount_0f7a4_33 rfl hl (by decide) rfl (fun ls hl => ?_)
  refine lv_iload_n hx hb dJ6_bitCount_0f7a4_34 rfl (lv_at hl 0 rfl) ?_
  refine lv_iload_n hx hb dJ6_bitCount_0f7a4_35 rfl (lv_at hl 0 rfl) ?_
  refine lv_bipush (v := 8) hx hb dJ6_bitCount_0f7a4_36 (by decide) ?_
  refine lv_iushr hx hb dJ6_bitCount_0f7a4_38 rfl ?_
  refine lv_iadd hx hb dJ6_bitCount_0f7a4_39 ?_
  refine lv_topi (fun y4 e_y4 => ?_)
  refine lv_istore_n (lv' := [(0, .int y4)]) hx hb dJ6_bitCount_0f7a4_40 rfl hl (by decide) rfl (fun ls hl => ?_)
  refine lv_iload_n hx hb dJ6_bitCount_0f7a4_41 rfl (lv_at hl 0 rfl) ?_
  refine lv_iload_n hx hb dJ6_bitCount_0f7a4_42 rfl (lv_at hl 0 rfl) ?_
  refine lv_bipush (v := 16) hx hb dJ6_bitCount_0f7a4_43 (by decide) ?_
  refine lv_iushr hx hb dJ6_bitCount_0f7a4_45 rfl ?_
  refine lv_iadd hx hb dJ6_bitCount_0f7a4_46 ?_
  refine lv_topi (fun y5 e_y5 => ?_)
  refine lv_istore_n (lv' := [(0, .int y5)]) hx hb dJ6_bitCount_0f7a4_47 rfl hl (by decide) rfl (fun ls hl => ?_)
  refine lv_iload_n hx hb dJ6_bitCount_0f7a4_48 rfl (lv_at hl 0 rfl) ?_
  refine lv_bipush (v := 63) hx hb dJ6_bitCount_0f7a4_49 (by decide) ?_
  refine lv_iand hx hb dJ6_bitCount_0f7a4_51 ?_
  exact kr_pi hx hb hr hlocks dJ6_bitCount_0f7a4_52 (by subst_vars; rfl)

def rm_X6_isRoom : Room := { frames := 0, cells := 0, slots := 0, locals := 0 }
theorem hd_X6_isRoom : yX6_isRoom.cls = RX6 ∧ yX6_isRoom.cls ≠ "java/lang/invoke/MethodHandle" ∧ yX6_isRoom.cls ≠ "java/lang/invoke/VarHandle" ∧ (parseMethodDescriptor yX6_isRoom.desc).map (fun d => d.parameters.length) = some 1 := by decide +kernel
set_option maxRecDepth 100000 in
set_option maxHeartbeats 4000000 in
theorem c_X6_isRoom (l : Launch) (G : GD) (h0 : Nat) (tx nw tr un kp wy rm pl dr : Nat → Nat) (x1 : Int32) (vp : OV)  : MetP l yX6_isRoom wsX6_isRoom rm_X6_isRoom G [bX6 h0 (tx 0) (nw 0) (tr 0) (un 0) (kp 0) (wy 0) (rm 0) (pl 0) (dr 0), bX2 pl G vp] [.ref h0, .int x1] (some (.int (b2i (fIn x1 (vp.2 8))))) := by
  refine kb_beginP (cc := cX6_isRoom) (maxL := 2) (ret := (some .boolean)) (by decide) rfl (Nat.le_of_ble_eq_true rfl) ?_
  intro p e s m below meth c hx hb hr hml hown hts hlocks hX hP ls hl
  have hown : s.vm.findClass RX6 = some m.cls := hown
  have hl : lv_has ls 2 [(0, .ref h0), (1, .int x1)] := hl
  have hin2 : ∀ w ∈ u_ws RX2 TX2 15, w ∈ wsX6_isRoom := (fun _ h => List.mem_cons_of_mem _ (List.mem_append_right _ (h)))
  have hin6 : ∀ w ∈ u_ws RX6 TX6 9, w ∈ wsX6_isRoom := (fun _ h => List.mem_cons_of_mem _ (List.mem_append_left _ (List.mem_append_right _ (h))))
  refine lv_iload_n hx hb dX6_isRoom_0 rfl (lv_at hl 1 rfl) ?_
  refine lv_if_lt (tgt := 19) hx hb dX6_isRoom_1 (by decide) (fun c_1 => ?_) (fun c_1 => ?_)
  · refine lv_iconst (v := 0) hx hb dX6_isRoom_19 (by decide) ?_
    exact kr_pz hx hb hr hlocks dX6_isRoom_20 rfl (by simp only [fIn, if_pos c_1] <;> rfl)
  · refine lv_iload_n hx hb dX6_isRoom_4 rfl (lv_at hl 1 rfl) ?_
    refine lv_aload_n hx hb dX6_isRoom_5 rfl (lv_at hl 0 rfl) ?_
    refine kb_get (own := RX6) (C := RX6) (T := TX6) (N := 9) (v := .ref (pl 0)) hx hb hts hin6 hown hX hP 0 rfl rfl rfl 7 (by decide) rfl (by decide +kernel) rfl dX6_isRoom_6 ?_
    refine kb_getN (own := RX6) (C := RX2) (T := TX2) (N := 15) (v := .int (vp.2 8)) hx hb hts hin2 hown hX hP 1 rfl rfl rfl 8 (by decide) rfl (by decide +kernel) rfl dX6_isRoom_9 ?_
    refine lv_icmp_ge (tgt := 19) hx hb dX6_isRoom_12 (by decide) (fun c_12 => ?_) (fun c_12 => ?_)
    · refine lv_iconst (v := 0) hx hb dX6_isRoom_19 (by decide) ?_
      exact kr_pz hx hb hr hlocks dX6_isRoom_20 rfl (by simp only [fIn, if_neg c_1, if_pos c_12] <;> rfl)
    · refine lv_iconst (v := 1) hx hb dX6_isRoom_15 (by decide) ?_
      refine lv_goto (tgt := 20) hx hb dX6_isRoom_16 (by decide) ?_
      exact kr_pz hx hb hr hlocks dX6_isRoom_20 rfl (by simp only [fIn, if_neg c_1, if_neg c_12] <;> rfl)

def rm_X6_isDoor : Room := { frames := 0, cells := 0, slots := 0, locals := 0 }
theorem hd_X6_isDoor : yX6_isDoor.cls = RX6 ∧ yX6_isDoor.cls ≠ "java/lang/invoke/MethodHandle" ∧ yX6_isDoor.cls ≠ "java/lang/invoke/VarHandle" ∧ (parseMethodDescriptor yX6_isDoor.desc).map (fun d => d.parameters.length) = some 1 := by decide +kernel
set_option maxRecDepth 100000 in
set_option maxHeartbeats 4000000 in
theorem c_X6_isDoor (l : Launch) (G : GD) (h0 : Nat) (tx nw tr un kp wy rm pl dr : Nat → Nat) (x1 : Int32) (vp : OV)  : MetP l yX6_isDoor wsX6_isDoor rm_X6_isDoor G [bX6 h0 (tx 0) (nw 0) (tr 0) (un 0) (kp 0) (wy 0) (rm 0) (pl 0) (dr 0), bX2 pl G vp] [.ref h0, .int x1] (some (.int (b2i (fIn x1 (vp.2 9))))) := by
  refine kb_beginP (cc := cX6_isDoor) (maxL := 2) (ret := (some .boolean)) (by decide) rfl (Nat.le_of_ble_eq_true rfl) ?_
  intro p e s m below meth c hx hb hr hml hown hts hlocks hX hP ls hl
  have hown : s.vm.findClass RX6 = some m.cls := hown
  have hl : lv_has ls 2 [(0, .ref h0), (1, .int x1)] := hl
  have hin2 : ∀ w ∈ u_ws RX2 TX2 15, w ∈ wsX6_isDoor := (fun _ h => List.mem_cons_of_mem _ (List.mem_append_right _ (h)))
  have hin6 : ∀ w ∈ u_ws RX6 TX6 9, w ∈ wsX6_isDoor := (fun _ h => List.mem_cons_of_mem _ (List.mem_append_left _ (List.mem_append_right _ (h))))
  refine lv_iload_n hx hb dX6_isDoor_0 rfl (lv_at hl 1 rfl) ?_
  refine lv_if_lt (tgt := 19) hx hb dX6_isDoor_1 (by decide) (fun c_1 => ?_) (fun c_1 => ?_)
  · refine lv_iconst (v := 0) hx hb dX6_isDoor_19 (by decide) ?_
    exact kr_pz hx hb hr hlocks dX6_isDoor_20 rfl (by simp only [fIn, if_pos c_1] <;> rfl)
  · refine lv_iload_n hx hb dX6_isDoor_4 rfl (lv_at hl 1 rfl) ?_
    refine lv_aload_n hx hb dX6_isDoor_5 rfl (lv_at hl 0 rfl) ?_
    refine kb_get (own := RX6) (C := RX6) (T := TX6) (N := 9) (v := .ref (pl 0)) hx hb hts hin6 hown hX hP 0 rfl rfl rfl 7 (by decide) rfl (by decide +kernel) rfl dX6_isDoor_6 ?_
    refine kb_getN (own := RX6) (C := RX2) (T := TX2) (N := 15) (v := .int (vp.2 9)) hx hb hts hin2 hown hX hP 1 rfl rfl rfl 9 (by decide) rfl (by decide +kernel) rfl dX6_isDoor_9 ?_
    refine lv_icmp_ge (tgt := 19) hx hb dX6_isDoor_12 (by decide) (fun c_12 => ?_) (fun c_12 => ?_)
    · refine lv_iconst (v := 0) hx hb dX6_isDoor_19 (by decide) ?_
      exact kr_pz hx hb hr hlocks dX6_isDoor_20 rfl (by simp only [fIn, if_neg c_1, if_pos c_12] <;> rfl)
    · refine lv_iconst (v := 1) hx hb dX6_isDoor_15 (by decide) ?_
      refine lv_goto (tgt := 20) hx hb dX6_isDoor_16 (by decide) ?_
      exact kr_pz hx hb hr hlocks dX6_isDoor_20 rfl (by simp only [fIn, if_neg c_1, if_neg c_12] <;> rfl)

def rm_X6_isLodger : Room := { frames := 0, cells := 0, slots := 0, locals := 0 }
theorem hd_X6_isLodger : yX6_isLodger.cls = RX6 ∧ yX6_isLodger.cls ≠ "java/lang/invoke/MethodHandle" ∧ yX6_isLodger.cls ≠ "java/lang/invoke/VarHandle" ∧ (parseMethodDescriptor yX6_isLodger.desc).map (fun d => d.parameters.length) = some 1 := by decide +kernel
set_option maxRecDepth 100000 in
set_option maxHeartbeats 4000000 in
theorem c_X6_isLodger (l : Launch) (G : GD) (h0 : Nat) (tx nw tr un kp wy rm pl dr : Nat → Nat) (x1 : Int32) (vp : OV)  : MetP l yX6_isLodger wsX6_isLodger rm_X6_isLodger G [bX6 h0 (tx 0) (nw 0) (tr 0) (un 0) (kp 0) (wy 0) (rm 0) (pl 0) (dr 0), bX2 pl G vp] [.ref h0, .int x1] (some (.int (b2i (fIn x1 (vp.2 10))))) := by
  refine kb_beginP (cc := cX6_isLodger) (maxL := 2) (ret := (some .boolean)) (by decide) rfl (Nat.le_of_ble_eq_true rfl) ?_
  intro p e s m below meth c hx hb hr hml hown hts hlocks hX hP ls hl
  have hown : s.vm.findClass RX6 = some m.cls := hown
  have hl : lv_has ls 2 [(0, .ref h0), (1, .int x1)] := hl
  have hin2 : ∀ w ∈ u_ws RX2 TX2 15, w ∈ wsX6_isLodger := (fun _ h => List.mem_cons_of_mem _ (List.mem_append_right _ (h)))
  have hin6 : ∀ w ∈ u_ws RX6 TX6 9, w ∈ wsX6_isLodger := (fun _ h => List.mem_cons_of_mem _ (List.mem_append_left _ (List.mem_append_right _ (h))))
  refine lv_iload_n hx hb dX6_isLodger_0 rfl (lv_at hl 1 rfl) ?_
  refine lv_if_lt (tgt := 19) hx hb dX6_isLodger_1 (by decide) (fun c_1 => ?_) (fun c_1 => ?_)
  · refine lv_iconst (v := 0) hx hb dX6_isLodger_19 (by decide) ?_
    exact kr_pz hx hb hr hlocks dX6_isLodger_20 rfl (by simp only [fIn, if_pos c_1] <;> rfl)
  · refine lv_iload_n hx hb dX6_isLodger_4 rfl (lv_at hl 1 rfl) ?_
    refine lv_aload_n hx hb dX6_isLodger_5 rfl (lv_at hl 0 rfl) ?_
    refine kb_get (own := RX6) (C := RX6) (T := TX6) (N := 9) (v := .ref (pl 0)) hx hb hts hin6 hown hX hP 0 rfl rfl rfl 7 (by decide) rfl (by decide +kernel) rfl dX6_isLodger_6 ?_
    refine kb_getN (own := RX6) (C := RX2) (T := TX2) (N := 15) (v := .int (vp.2 10)) hx hb hts hin2 hown hX hP 1 rfl rfl rfl 10 (by decide) rfl (by decide +kernel) rfl dX6_isLodger_9 ?_
    refine lv_icmp_ge (tgt := 19) hx hb dX6_isLodger_12 (by decide) (fun c_12 => ?_) (fun c_12 => ?_)
    · refine lv_iconst (v := 0) hx hb dX6_isLodger_19 (by decide) ?_
      exact kr_pz hx hb hr hlocks dX6_isLodger_20 rfl (by simp only [fIn, if_neg c_1, if_pos c_12] <;> rfl)
    · refine lv_iconst (v := 1) hx hb dX6_isLodger_15 (by decide) ?_
      refine lv_goto (tgt := 20) hx hb dX6_isLodger_16 (by decide) ?_
      exact kr_pz hx hb hr hlocks dX6_isLodger_20 rfl (by simp only [fIn, if_neg c_1, if_neg c_12] <;> rfl)

def rm_X6_door : Room := { frames := 1, cells := 0, slots := 0, locals := 21 }
theorem hd_X6_door : yX6_door.cls = RX6 ∧ yX6_door.cls ≠ "java/lang/invoke/MethodHandle" ∧ yX6_door.cls ≠ "java/lang/invoke/VarHandle" ∧ (parseMethodDescriptor yX6_door.desc).map (fun d => d.parameters.length) = some 2 := by decide +kernel
set_option maxRecDepth 100000 in
set_option maxHeartbeats 4000000 in
theorem c_X6_door (l : Launch) (G : GD) (h0 : Nat) (tx nw tr un kp wy rm pl dr : Nat → Nat) (x1 : Int32) (x2 : Int32) (vp : OV) (vn : OV)  : MetP l yX6_door wsX6_door rm_X6_door G [bX6 h0 (tx 0) (nw 0) (tr 0) (un 0) (kp 0) (wy 0) (rm 0) (pl 0) (dr 0), bX2 pl G vp, bX0 nw G vn] [.ref h0, .int x1, .int x2] (some (.int (f_door vp vn x1 x2))) := by
  refine kb_beginP (cc := cX6_door) (maxL := 3) (ret := (some .int)) (by decide) rfl (Nat.le_of_ble_eq_true rfl) ?_
  intro p e s m below meth c hx hb hr hml hown hts hlocks hX hP ls hl
  have hown : s.vm.findClass RX6 = some m.cls := hown
  have hl : lv_has ls 3 [(0, .ref h0), (1, .int x1), (2, .int x2)] := hl
  have hin0 : ∀ w ∈ u_ws RX0 TX0 6, w ∈ wsX6_door := (fun _ h => List.mem_cons_of_mem _ (List.mem_append_right _ (h)))
  have hin2 : ∀ w ∈ u_ws RX2 TX2 15, w ∈ wsX6_door := (fun _ h => List.mem_cons_of_mem _ (List.mem_append_left _ (List.mem_append_right _ (h))))
  have hin6 : ∀ w ∈ u_ws RX6 TX6 9, w ∈ wsX6_door := (fun _ h => List.mem_cons_of_mem _ (List.mem_append_left _ (List.mem_append_left _ (List.mem_append_right _ (h)))))
  refine lv_aload_n hx hb dX6_door_0 rfl (lv_at hl 0 rfl) ?_
  refine lv_iload_n hx hb dX6_door_1 rfl (lv_at hl 1 rfl) ?_
  refine kcV_p hx hb hml hown hts hX hP (c_X6_isDoor l G h0 tx nw tr un kp wy rm pl dr x1 vp) gX6_door_X6_isDoor 1 rfl rfl rfl hd_X6_isDoor ⟨Nat.le_of_ble_eq_true rfl, Nat.le_of_ble_eq_true rfl⟩ [0, 1] rfl 0 rfl rfl rfl hl.1 rfl rfl (Nat.le_of_ble_eq_true rfl) dX6_door_2 ⟨Nat.zero_le _, Nat.zero_le _⟩ ?_
  refine lv_if_ne (tgt := 10) hx hb dX6_door_5 (by decide) (fun c_5r => ?_) (fun c_5r => ?_)
  · have c_5 := b2i_tP c_5r
    refine lv_iload_n hx hb dX6_door_10 rfl (lv_at hl 2 rfl) ?_
    by_cases h11_0 : x2 = 0
    · refine kb_tIn (tgt := 44) hx hb h11_0 dX6_door_11 (by decide) (by decide) rfl (by decide) ?_
      refine lv_aload_n hx hb dX6_door_44 rfl (lv_at hl 0 rfl) ?_
      refine kb_get (own := RX6) (C := RX6) (T := TX6) (N := 9) (v := .ref (pl 0)) hx hb hts hin6 hown hX hP 0 rfl rfl rfl 7 (by decide) rfl (by decide +kernel) rfl dX6_door_45 ?_
      refine kb_getN (own := RX6) (C := RX2) (T := TX2) (N := 15) (v := .ref (pl 1)) hx hb hts hin2 hown hX hP 1 rfl rfl rfl 0 (by decide) rfl (by decide +kernel) rfl dX6_door_48 ?_
      refine lv_iload_n hx hb dX6_door_51 rfl (lv_at hl 1 rfl) ?_
      refine kcS_p hx hb hml hown hts hX hP (c_X6_at l G (pl 1) 8 (vp.1 0) x1 (by decide)) gX6_door_X6_at 2 rfl rfl rfl hdS_X6_at ⟨Nat.le_of_ble_eq_true rfl, Nat.le_of_ble_eq_true rfl⟩ (cell_in (i := 1) (j := 1) rfl rfl) hl.1 rfl rfl (Nat.le_of_ble_eq_true rfl) dX6_door_52 ⟨Nat.zero_le _, Nat.zero_le _⟩ ?_
      exact kr_pi hx hb hr hlocks dX6_door_55 (by simp only [f_door, if_pos c_5, if_pos h11_0] <;> rfl)
    by_cases h11_1 : x2 = 1
    · refine kb_tIn (tgt := 56) hx hb h11_1 dX6_door_11 (by decide) (by decide) rfl (by decide) ?_
      refine lv_aload_n hx hb dX6_door_56 rfl (lv_at hl 0 rfl) ?_
      refine kb_get (own := RX6) (C := RX6) (T := TX6) (N := 9) (v := .ref (pl 0)) hx hb hts hin6 hown hX hP 0 rfl rfl rfl 7 (by decide) rfl (by decide +kernel) rfl dX6_door_57 ?_
      refine kb_getN (own := RX6) (C := RX2) (T := TX2) (N := 15) (v := .ref (pl 2)) hx hb hts hin2 hown hX hP 1 rfl rfl rfl 1 (by decide) rfl (by decide +kernel) rfl dX6_door_60 ?_
      refine lv_iload_n hx hb dX6_door_63 rfl (lv_at hl 1 rfl) ?_
      refine kcS_p hx hb hml hown hts hX hP (c_X6_at l G (pl 2) 8 (vp.1 1) x1 (by decide)) gX6_door_X6_at 2 rfl rfl rfl hdS_X6_at ⟨Nat.le_of_ble_eq_true rfl, Nat.le_of_ble_eq_true rfl⟩ (cell_in (i := 1) (j := 2) rfl rfl) hl.1 rfl rfl (Nat.le_of_ble_eq_true rfl) dX6_door_64 ⟨Nat.zero_le _, Nat.zero_le _⟩ ?_
      exact kr_pi hx hb hr hlocks dX6_door_67 (by simp only [f_door, if_pos c_5, if_neg h11_0, if_pos h11_1] <;> rfl)
    by_cases h11_2 : x2 = 2
    · refine kb_tIn (tgt := 68) hx hb h11_2 dX6_door_11 (by decide) (by decide) rfl (by decide) ?_
      refine lv_aload_n hx hb dX6_door_68 rfl (lv_at hl 0 rfl) ?_
      refine kb_get (own := RX6) (C := RX6) (T := TX6) (N := 9) (v := .ref (pl 0)) hx hb hts hin6 hown hX hP 0 rfl rfl rfl 7 (by decide) rfl (by decide +kernel) rfl dX6_door_69 ?_
      refine kb_getN (own := RX6) (C := RX2) (T := TX2) (N := 15) (v := .ref (pl 3)) hx hb hts hin2 hown hX hP 1 rfl rfl rfl 2 (by decide) rfl (by decide +kernel) rfl dX6_door_72 ?_
      refine lv_iload_n hx hb dX6_door_75 rfl (lv_at hl 1 rfl) ?_
      refine kcS_p hx hb hml hown hts hX hP (c_X6_at l G (pl 3) 8 (vp.1 2) x1 (by decide)) gX6_door_X6_at 2 rfl rfl rfl hdS_X6_at ⟨Nat.le_of_ble_eq_true rfl, Nat.le_of_ble_eq_true rfl⟩ (cell_in (i := 1) (j := 3) rfl rfl) hl.1 rfl rfl (Nat.le_of_ble_eq_true rfl) dX6_door_76 ⟨Nat.zero_le _, Nat.zero_le _⟩ ?_
      exact kr_pi hx hb hr hlocks dX6_door_79 (by simp only [f_door, if_pos c_5, if_neg h11_0, if_neg h11_1, if_pos h11_2] <;> rfl)
    by_cases h11_3 : x2 = 3
    · refine kb_tIn (tgt := 80) hx hb h11_3 dX6_door_11 (by decide) (by decide) rfl (by decide) ?_
      refine lv_aload_n hx hb dX6_door_80 rfl (lv_at hl 0 rfl) ?_
      refine kb_get (own := RX6) (C := RX6) (T := TX6) (N := 9) (v := .ref (nw 0)) hx hb hts hin6 hown hX hP 0 rfl rfl rfl 1 (by decide) rfl (by decide +kernel) rfl dX6_door_81 ?_
      refine kb_getN (own := RX6) (C := RX0) (T := TX0) (N := 6) (v := .ref (nw 3)) hx hb hts hin0 hown hX hP 2 rfl rfl rfl 2 (by decide) rfl (by decide +kernel) rfl dX6_door_84 ?_
      refine lv_iload_n hx hb dX6_door_87 rfl (lv_at hl 1 rfl) ?_
      refine kcS_p hx hb hml hown hts hX hP (c_X6_at l G (nw 3) 8 (vn.1 2) x1 (by decide)) gX6_door_X6_at 2 rfl rfl rfl hdS_X6_at ⟨Nat.le_of_ble_eq_true rfl, Nat.le_of_ble_eq_true rfl⟩ (cell_in (i := 2) (j := 3) rfl rfl) hl.1 rfl rfl (Nat.le_of_ble_eq_true rfl) dX6_door_88 ⟨Nat.zero_le _, Nat.zero_le _⟩ ?_
      exact kr_pi hx hb hr hlocks dX6_door_91 (by simp only [f_door, if_pos c_5, if_neg h11_0, if_neg h11_1, if_neg h11_2, if_pos h11_3] <;> rfl)
    by_cases h11_4 : x2 = 4
    · refine kb_tIn (tgt := 92) hx hb h11_4 dX6_door_11 (by decide) (by decide) rfl (by decide) ?_
      refine lv_aload_n hx hb dX6_door_92 rfl (lv_at hl 0 rfl) ?_
      refine kb_get (own := RX6) (C := RX6) (T := TX6) (N := 9) (v := .ref (pl 0)) hx hb hts hin6 hown hX hP 0 rfl rfl rfl 7 (by decide) rfl (by decide +kernel) rfl dX6_door_93 ?_
      refine kb_getN (own := RX6) (C := RX2) (T := TX2) (N := 15) (v := .ref (pl 4)) hx hb hts hin2 hown hX hP 1 rfl rfl rfl 3 (by decide) rfl (by decide +kernel) rfl dX6_door_96 ?_
      refine lv_iload_n hx hb dX6_door_99 rfl (lv_at hl 1 rfl) ?_
      refine kcS_p hx hb hml hown hts hX hP (c_X6_at l G (pl 4) 8 (vp.1 3) x1 (by decide)) gX6_door_X6_at 2 rfl rfl rfl hdS_X6_at ⟨Nat.le_of_ble_eq_true rfl, Nat.le_of_ble_eq_true rfl⟩ (cell_in (i := 1) (j := 4) rfl rfl) hl.1 rfl rfl (Nat.le_of_ble_eq_true rfl) dX6_door_100 ⟨Nat.zero_le _, Nat.zero_le _⟩ ?_
      exact kr_pi hx hb hr hlocks dX6_door_103 (by simp only [f_door, if_pos c_5, if_neg h11_0, if_neg h11_1, if_neg h11_2, if_neg h11_3, if_pos h11_4] <;> rfl)
    have t11_0 : x2.toInt ≠ 0 := fun e => h11_0 (Int32.toInt_inj.mp (e.trans (by decide)))
    have t11_1 : x2.toInt ≠ 1 := fun e => h11_1 (Int32.toInt_inj.mp (e.trans (by decide)))
    have t11_2 : x2.toInt ≠ 2 := fun e => h11_2 (Int32.toInt_inj.mp (e.trans (by decide)))
    have t11_3 : x2.toInt ≠ 3 := fun e => h11_3 (Int32.toInt_inj.mp (e.trans (by decide)))
    have t11_4 : x2.toInt ≠ 4 := fun e => h11_4 (Int32.toInt_inj.mp (e.trans (by decide)))
    refine kb_tOut (tgt := 104) hx hb dX6_door_11 (by omega) (by decide) ?_
    refine lv_iconst (v := (-1)) hx hb dX6_door_104 (by decide) ?_
    exact kr_pi hx hb hr hlocks dX6_door_105 (by simp only [f_door, if_pos c_5, if_neg h11_0, if_neg h11_1, if_neg h11_2, if_neg h11_3, if_neg h11_4] <;> rfl)
  · have c_5 := b2i_fN c_5r
    refine lv_iconst (v := (-1)) hx hb dX6_door_8 (by decide) ?_
    exact kr_pi hx hb hr hlocks dX6_door_9 (by simp only [f_door, if_neg c_5] <;> rfl)

def rm_X6_lodger : Room := { frames := 1, cells := 0, slots := 0, locals := 21 }
theorem hd_X6_lodger : yX6_lodger.cls = RX6 ∧ yX6_lodger.cls ≠ "java/lang/invoke/MethodHandle" ∧ yX6_lodger.cls ≠ "java/lang/invoke/VarHandle" ∧ (parseMethodDescriptor yX6_lodger.desc).map (fun d => d.parameters.length) = some 2 := by decide +kernel
set_option maxRecDepth 100000 in
set_option maxHeartbeats 4000000 in
theorem c_X6_lodger (l : Launch) (G : GD) (h0 : Nat) (tx nw tr un kp wy rm pl dr : Nat → Nat) (x1 : Int32) (x2 : Int32) (vp : OV) (vn : OV)  : MetP l yX6_lodger wsX6_lodger rm_X6_lodger G [bX6 h0 (tx 0) (nw 0) (tr 0) (un 0) (kp 0) (wy 0) (rm 0) (pl 0) (dr 0), bX2 pl G vp, bX0 nw G vn] [.ref h0, .int x1, .int x2] (some (.int (f_lodger vp vn x1 x2))) := by
  refine kb_beginP (cc := cX6_lodger) (maxL := 3) (ret := (some .int)) (by decide) rfl (Nat.le_of_ble_eq_true rfl) ?_
  intro p e s m below meth c hx hb hr hml hown hts hlocks hX hP ls hl
  have hown : s.vm.findClass RX6 = some m.cls := hown
  have hl : lv_has ls 3 [(0, .ref h0), (1, .int x1), (2, .int x2)] := hl
  have hin0 : ∀ w ∈ u_ws RX0 TX0 6, w ∈ wsX6_lodger := (fun _ h => List.mem_cons_of_mem _ (List.mem_append_left _ (List.mem_append_right _ (h))))
  have hin2 : ∀ w ∈ u_ws RX2 TX2 15, w ∈ wsX6_lodger := (fun _ h => List.mem_cons_of_mem _ (List.mem_append_right _ (h)))
  have hin6 : ∀ w ∈ u_ws RX6 TX6 9, w ∈ wsX6_lodger := (fun _ h => List.mem_cons_of_mem _ (List.mem_append_left _ (List.mem_append_left _ (List.mem_append_right _ (h)))))
  refine lv_aload_n hx hb dX6_lodger_0 rfl (lv_at hl 0 rfl) ?_
  refine lv_iload_n hx hb dX6_lodger_1 rfl (lv_at hl 1 rfl) ?_
  refine kcV_p hx hb hml hown hts hX hP (c_X6_isLodger l G h0 tx nw tr un kp wy rm pl dr x1 vp) gX6_lodger_X6_isLodger 1 rfl rfl rfl hd_X6_isLodger ⟨Nat.le_of_ble_eq_true rfl, Nat.le_of_ble_eq_true rfl⟩ [0, 1] rfl 0 rfl rfl rfl hl.1 rfl rfl (Nat.le_of_ble_eq_true rfl) dX6_lodger_2 ⟨Nat.zero_le _, Nat.zero_le _⟩ ?_
  refine lv_if_ne (tgt := 10) hx hb dX6_lodger_5 (by decide) (fun c_5r => ?_) (fun c_5r => ?_)
  · have c_5 := b2i_tP c_5r
    refine lv_iload_n hx hb dX6_lodger_10 rfl (lv_at hl 2 rfl) ?_
    by_cases h11_0 : x2 = 0
    · refine kb_tIn (tgt := 36) hx hb h11_0 dX6_lodger_11 (by decide) (by decide) rfl (by decide) ?_
      refine lv_aload_n hx hb dX6_lodger_36 rfl (lv_at hl 0 rfl) ?_
      refine kb_get (own := RX6) (C := RX6) (T := TX6) (N := 9) (v := .ref (nw 0)) hx hb hts hin6 hown hX hP 0 rfl rfl rfl 1 (by decide) rfl (by decide +kernel) rfl dX6_lodger_37 ?_
      refine kb_getN (own := RX6) (C := RX0) (T := TX0) (N := 6) (v := .ref (nw 4)) hx hb hts hin0 hown hX hP 2 rfl rfl rfl 3 (by decide) rfl (by decide +kernel) rfl dX6_lodger_40 ?_
      refine lv_iload_n hx hb dX6_lodger_43 rfl (lv_at hl 1 rfl) ?_
      refine kcS_p hx hb hml hown hts hX hP (c_X6_at l G (nw 4) 4 (vn.1 3) x1 (by decide)) gX6_lodger_X6_at 2 rfl rfl rfl hdS_X6_at ⟨Nat.le_of_ble_eq_true rfl, Nat.le_of_ble_eq_true rfl⟩ (cell_in (i := 2) (j := 4) rfl rfl) hl.1 rfl rfl (Nat.le_of_ble_eq_true rfl) dX6_lodger_44 ⟨Nat.zero_le _, Nat.zero_le _⟩ ?_
      exact kr_pi hx hb hr hlocks dX6_lodger_47 (by simp only [f_lodger, if_pos c_5, if_pos h11_0] <;> rfl)
    by_cases h11_1 : x2 = 1
    · refine kb_tIn (tgt := 48) hx hb h11_1 dX6_lodger_11 (by decide) (by decide) rfl (by decide) ?_
      refine lv_aload_n hx hb dX6_lodger_48 rfl (lv_at hl 0 rfl) ?_
      refine kb_get (own := RX6) (C := RX6) (T := TX6) (N := 9) (v := .ref (pl 0)) hx hb hts hin6 hown hX hP 0 rfl rfl rfl 7 (by decide) rfl (by decide +kernel) rfl dX6_lodger_49 ?_
      refine kb_getN (own := RX6) (C := RX2) (T := TX2) (N := 15) (v := .ref (pl 6)) hx hb hts hin2 hown hX hP 1 rfl rfl rfl 5 (by decide) rfl (by decide +kernel) rfl dX6_lodger_52 ?_
      refine lv_iload_n hx hb dX6_lodger_55 rfl (lv_at hl 1 rfl) ?_
      refine kcS_p hx hb hml hown hts hX hP (c_X6_at l G (pl 6) 4 (vp.1 5) x1 (by decide)) gX6_lodger_X6_at 2 rfl rfl rfl hdS_X6_at ⟨Nat.le_of_ble_eq_true rfl, Nat.le_of_ble_eq_true rfl⟩ (cell_in (i := 1) (j := 6) rfl rfl) hl.1 rfl rfl (Nat.le_of_ble_eq_true rfl) dX6_lodger_56 ⟨Nat.zero_le _, Nat.zero_le _⟩ ?_
      exact kr_pi hx hb hr hlocks dX6_lodger_59 (by simp only [f_lodger, if_pos c_5, if_neg h11_0, if_pos h11_1] <;> rfl)
    by_cases h11_2 : x2 = 2
    · refine kb_tIn (tgt := 60) hx hb h11_2 dX6_lodger_11 (by decide) (by decide) rfl (by decide) ?_
      refine lv_aload_n hx hb dX6_lodger_60 rfl (lv_at hl 0 rfl) ?_
      refine kb_get (own := RX6) (C := RX6) (T := TX6) (N := 9) (v := .ref (pl 0)) hx hb hts hin6 hown hX hP 0 rfl rfl rfl 7 (by decide) rfl (by decide +kernel) rfl dX6_lodger_61 ?_
      refine kb_getN (own := RX6) (C := RX2) (T := TX2) (N := 15) (v := .ref (pl 7)) hx hb hts hin2 hown hX hP 1 rfl rfl rfl 6 (by decide) rfl (by decide +kernel) rfl dX6_lodger_64 ?_
      refine lv_iload_n hx hb dX6_lodger_67 rfl (lv_at hl 1 rfl) ?_
      refine kcS_p hx hb hml hown hts hX hP (c_X6_at l G (pl 7) 4 (vp.1 6) x1 (by decide)) gX6_lodger_X6_at 2 rfl rfl rfl hdS_X6_at ⟨Nat.le_of_ble_eq_true rfl, Nat.le_of_ble_eq_true rfl⟩ (cell_in (i := 1) (j := 7) rfl rfl) hl.1 rfl rfl (Nat.le_of_ble_eq_true rfl) dX6_lodger_68 ⟨Nat.zero_le _, Nat.zero_le _⟩ ?_
      exact kr_pi hx hb hr hlocks dX6_lodger_71 (by simp only [f_lodger, if_pos c_5, if_neg h11_0, if_neg h11_1, if_pos h11_2] <;> rfl)
    have t11_0 : x2.toInt ≠ 0 := fun e => h11_0 (Int32.toInt_inj.mp (e.trans (by decide)))
    have t11_1 : x2.toInt ≠ 1 := fun e => h11_1 (Int32.toInt_inj.mp (e.trans (by decide)))
    have t11_2 : x2.toInt ≠ 2 := fun e => h11_2 (Int32.toInt_inj.mp (e.trans (by decide)))
    refine kb_tOut (tgt := 72) hx hb dX6_lodger_11 (by omega) (by decide) ?_
    refine lv_iconst (v := (-1)) hx hb dX6_lodger_72 (by decide) ?_
    exact kr_pi hx hb hr hlocks dX6_lodger_73 (by simp only [f_lodger, if_pos c_5, if_neg h11_0, if_neg h11_1, if_neg h11_2] <;> rfl)
  · have c_5 := b2i_fN c_5r
    refine lv_iconst (v := (-1)) hx hb dX6_lodger_8 (by decide) ?_
    exact kr_pi hx hb hr hlocks dX6_lodger_9 (by simp only [f_lodger, if_neg c_5] <;> rfl)

def rm_X6_grudge : Room := { frames := 2, cells := 0, slots := 0, locals := 43 }
theorem hd_X6_grudge : yX6_grudge.cls = RX6 ∧ yX6_grudge.cls ≠ "java/lang/invoke/MethodHandle" ∧ yX6_grudge.cls ≠ "java/lang/invoke/VarHandle" ∧ (parseMethodDescriptor yX6_grudge.desc).map (fun d => d.parameters.length) = some 2 := by decide +kernel
set_option maxRecDepth 100000 in
set_option maxHeartbeats 4000000 in
theorem c_X6_grudge (l : Launch) (G : GD) (h0 : Nat) (tx nw tr un kp wy rm pl dr : Nat → Nat) (x1 : Int32) (x2 : Int32) (vp : OV) (vn : OV)  : MetP l yX6_grudge wsX6_grudge rm_X6_grudge G [bX6 h0 (tx 0) (nw 0) (tr 0) (un 0) (kp 0) (wy 0) (rm 0) (pl 0) (dr 0), bX2 pl G vp, bX0 nw G vn] [.ref h0, .int x1, .int x2] (some (.int (f_grudge vp vn x1 x2))) := by
  refine kb_beginP (cc := cX6_grudge) (maxL := 3) (ret := (some .int)) (by decide) rfl (Nat.le_of_ble_eq_true rfl) ?_
  intro p e s m below meth c hx hb hr hml hown hts hlocks hX hP ls hl
  have hown : s.vm.findClass RX6 = some m.cls := hown
  have hl : lv_has ls 3 [(0, .ref h0), (1, .int x1), (2, .int x2)] := hl
  have hin6 : ∀ w ∈ u_ws RX6 TX6 9, w ∈ wsX6_grudge := (fun _ h => List.mem_cons_of_mem _ (List.mem_append_left _ (List.mem_append_left _ (List.mem_append_right _ (h)))))
  refine lv_aload_n hx hb dX6_grudge_0 rfl (lv_at hl 0 rfl) ?_
  refine lv_iload_n hx hb dX6_grudge_1 rfl (lv_at hl 1 rfl) ?_
  refine kcV_p hx hb hml hown hts hX hP (c_X6_isDoor l G h0 tx nw tr un kp wy rm pl dr x1 vp) gX6_grudge_X6_isDoor 1 rfl rfl rfl hd_X6_isDoor ⟨Nat.le_of_ble_eq_true rfl, Nat.le_of_ble_eq_true rfl⟩ [0, 1] rfl 0 rfl rfl rfl hl.1 rfl rfl (Nat.le_of_ble_eq_true rfl) dX6_grudge_2 ⟨Nat.zero_le _, Nat.zero_le _⟩ ?_
  refine lv_if_eq (tgt := 28) hx hb dX6_grudge_5 (by decide) (fun c_5r => ?_) (fun c_5r => ?_)
  · have c_5 := b2i_fN c_5r
    refine lv_iconst (v := (-1)) hx hb dX6_grudge_28 (by decide) ?_
    exact kr_pi hx hb hr hlocks dX6_grudge_29 (by simp only [f_grudge, if_neg c_5] <;> rfl)
  · have c_5 := b2i_tP c_5r
    refine lv_aload_n hx hb dX6_grudge_8 rfl (lv_at hl 0 rfl) ?_
    refine lv_iload_n hx hb dX6_grudge_9 rfl (lv_at hl 2 rfl) ?_
    refine kcV_p hx hb hml hown hts hX hP (c_X6_isLodger l G h0 tx nw tr un kp wy rm pl dr x2 vp) gX6_grudge_X6_isLodger 1 rfl rfl rfl hd_X6_isLodger ⟨Nat.le_of_ble_eq_true rfl, Nat.le_of_ble_eq_true rfl⟩ [0, 1] rfl 0 rfl rfl rfl hl.1 rfl rfl (Nat.le_of_ble_eq_true rfl) dX6_grudge_10 ⟨Nat.zero_le _, Nat.zero_le _⟩ ?_
    refine lv_if_eq (tgt := 28) hx hb dX6_grudge_13 (by decide) (fun c_13r => ?_) (fun c_13r => ?_)
    · have c_13 := b2i_fN c_13r
      refine lv_iconst (v := (-1)) hx hb dX6_grudge_28 (by decide) ?_
      exact kr_pi hx hb hr hlocks dX6_grudge_29 (by simp only [f_grudge, if_pos c_5, if_neg c_13] <;> rfl)
    · have c_13 := b2i_tP c_13r
      refine lv_aload_n hx hb dX6_grudge_16 rfl (lv_at hl 0 rfl) ?_
      refine kb_get (own := RX6) (C := RX6) (T := TX6) (N := 9) (v := .ref (nw 0)) hx hb hts hin6 hown hX hP 0 rfl rfl rfl 1 (by decide) rfl (by decide +kernel) rfl dX6_grudge_17 ?_
      refine lv_iload_n hx hb dX6_grudge_20 rfl (lv_at hl 1 rfl) ?_
      refine lv_iload_n hx hb dX6_grudge_21 rfl (lv_at hl 2 rfl) ?_
      refine kcV_p hx hb hml hown hts hX hP (c_X0_grudgeOf l G nw vn x1 x2) gX6_grudge_X0_grudgeOf 2 rfl rfl rfl hd_X0_grudgeOf ⟨Nat.le_of_ble_eq_true rfl, Nat.le_of_ble_eq_true rfl⟩ [2] rfl 2 rfl rfl rfl hl.1 rfl rfl (Nat.le_of_ble_eq_true rfl) dX6_grudge_22 ⟨Nat.zero_le _, Nat.zero_le _⟩ ?_
      refine lv_goto (tgt := 29) hx hb dX6_grudge_25 (by decide) ?_
      exact kr_pi hx hb hr hlocks dX6_grudge_29 (by simp only [f_grudge, if_pos c_5, if_pos c_13] <;> rfl)

def rm_X6_count : Room := { frames := 0, cells := 0, slots := 0, locals := 0 }
theorem hd_X6_count : yX6_count.cls = RX6 ∧ yX6_count.cls ≠ "java/lang/invoke/MethodHandle" ∧ yX6_count.cls ≠ "java/lang/invoke/VarHandle" ∧ (parseMethodDescriptor yX6_count.desc).map (fun d => d.parameters.length) = some 1 := by decide +kernel
set_option maxRecDepth 100000 in
set_option maxHeartbeats 4000000 in
theorem c_X6_count (l : Launch) (G : GD) (h0 : Nat) (tx nw tr un kp wy rm pl dr : Nat → Nat) (x1 : Int32) (vp : OV) (vn : OV) (adu : Nat → Nat → Nat) (hvu : Nat → OV) (nu : Nat) (adk : Nat → Nat → Nat) (hvk : Nat → OV) (nk : Nat) (vt : OV)  : MetP l yX6_count wsX6_count rm_X6_count G [bX6 h0 (tx 0) (nw 0) (tr 0) (un 0) (kp 0) (wy 0) (rm 0) (pl 0) (dr 0), bX2 pl G vp, bX0 nw G vn, bX1 un G 8 adu hvu nu, bX1 kp G 2 adk hvk nk, bX4 tx G vt] [.ref h0, .int x1] (some (.int (f_count vp vn vt nu nk x1))) := by
  refine kb_beginP (cc := cX6_count) (maxL := 2) (ret := (some .int)) (by decide) rfl (Nat.le_of_ble_eq_true rfl) ?_
  intro p e s m below meth c hx hb hr hml hown hts hlocks hX hP ls hl
  have hown : s.vm.findClass RX6 = some m.cls := hown
  have hl : lv_has ls 2 [(0, .ref h0), (1, .int x1)] := hl
  have hin0 : ∀ w ∈ u_ws RX0 TX0 6, w ∈ wsX6_count := (fun _ h => List.mem_cons_of_mem _ (List.mem_append_left _ (List.mem_append_left _ (List.mem_append_right _ (h)))))
  have hin1 : ∀ w ∈ u_ws RX1 TX1 2, w ∈ wsX6_count := (fun _ h => List.mem_cons_of_mem _ (List.mem_append_left _ (List.mem_append_right _ (h))))
  have hin2 : ∀ w ∈ u_ws RX2 TX2 15, w ∈ wsX6_count := (fun _ h => List.mem_cons_of_mem _ (List.mem_append_left _ (List.mem_append_left _ (List.mem_append_left _ (List.mem_append_right _ (h))))))
  have hin4 : ∀ w ∈ u_ws RX4 TX4 4, w ∈ wsX6_count := (fun _ h => List.mem_cons_of_mem _ (List.mem_append_right _ (h)))
  have hin6 : ∀ w ∈ u_ws RX6 TX6 9, w ∈ wsX6_count := (fun _ h => List.mem_cons_of_mem _ (List.mem_append_left _ (List.mem_append_left _ (List.mem_append_left _ (List.mem_append_left _ (List.mem_append_right _ (h)))))))
  refine lv_iload_n hx hb dX6_count_0 rfl (lv_at hl 1 rfl) ?_
  by_cases h1_0 : x1 = 0
  · refine kb_tIn (tgt := 48) hx hb h1_0 dX6_count_1 (by decide) (by decide) rfl (by decide) ?_
    refine lv_aload_n hx hb dX6_count_48 rfl (lv_at hl 0 rfl) ?_
    refine kb_get (own := RX6) (C := RX6) (T := TX6) (N := 9) (v := .ref (pl 0)) hx hb hts hin6 hown hX hP 0 rfl rfl rfl 7 (by decide) rfl (by decide +kernel) rfl dX6_count_49 ?_
    refine kb_getN (own := RX6) (C := RX2) (T := TX2) (N := 15) (v := .int (vp.2 8)) hx hb hts hin2 hown hX hP 1 rfl rfl rfl 8 (by decide) rfl (by decide +kernel) rfl dX6_count_52 ?_
    exact kr_pi hx hb hr hlocks dX6_count_55 (by simp only [f_count, if_pos h1_0] <;> rfl)
  by_cases h1_1 : x1 = 1
  · refine kb_tIn (tgt := 56) hx hb h1_1 dX6_count_1 (by decide) (by decide) rfl (by decide) ?_
    refine lv_aload_n hx hb dX6_count_56 rfl (lv_at hl 0 rfl) ?_
    refine kb_get (own := RX6) (C := RX6) (T := TX6) (N := 9) (v := .ref (pl 0)) hx hb hts hin6 hown hX hP 0 rfl rfl rfl 7 (by decide) rfl (by decide +kernel) rfl dX6_count_57 ?_
    refine kb_getN (own := RX6) (C := RX2) (T := TX2) (N := 15) (v := .int (vp.2 9)) hx hb hts hin2 hown hX hP 1 rfl rfl rfl 9 (by decide) rfl (by decide +kernel) rfl dX6_count_60 ?_
    exact kr_pi hx hb hr hlocks dX6_count_63 (by simp only [f_count, if_neg h1_0, if_pos h1_1] <;> rfl)
  by_cases h1_2 : x1 = 2
  · refine kb_tIn (tgt := 64) hx hb h1_2 dX6_count_1 (by decide) (by decide) rfl (by decide) ?_
    refine lv_aload_n hx hb dX6_count_64 rfl (lv_at hl 0 rfl) ?_
    refine kb_get (own := RX6) (C := RX6) (T := TX6) (N := 9) (v := .ref (pl 0)) hx hb hts hin6 hown hX hP 0 rfl rfl rfl 7 (by decide) rfl (by decide +kernel) rfl dX6_count_65 ?_
    refine kb_getN (own := RX6) (C := RX2) (T := TX2) (N := 15) (v := .int (vp.2 10)) hx hb hts hin2 hown hX hP 1 rfl rfl rfl 10 (by decide) rfl (by decide +kernel) rfl dX6_count_68 ?_
    exact kr_pi hx hb hr hlocks dX6_count_71 (by simp only [f_count, if_neg h1_0, if_neg h1_1, if_pos h1_2] <;> rfl)
  by_cases h1_3 : x1 = 3
  · refine kb_tIn (tgt := 72) hx hb h1_3 dX6_count_1 (by decide) (by decide) rfl (by decide) ?_
    refine lv_aload_n hx hb dX6_count_72 rfl (lv_at hl 0 rfl) ?_
    refine kb_get (own := RX6) (C := RX6) (T := TX6) (N := 9) (v := .ref (nw 0)) hx hb hts hin6 hown hX hP 0 rfl rfl rfl 1 (by decide) rfl (by decide +kernel) rfl dX6_count_73 ?_
    refine kb_getN (own := RX6) (C := RX0) (T := TX0) (N := 6) (v := .int (vn.2 4)) hx hb hts hin0 hown hX hP 2 rfl rfl rfl 4 (by decide) rfl (by decide +kernel) rfl dX6_count_76 ?_
    exact kr_pi hx hb hr hlocks dX6_count_79 (by simp only [f_count, if_neg h1_0, if_neg h1_1, if_neg h1_2, if_pos h1_3] <;> rfl)
  by_cases h1_4 : x1 = 4
  · refine kb_tIn (tgt := 80) hx hb h1_4 dX6_count_1 (by decide) (by decide) rfl (by decide) ?_
    refine lv_aload_n hx hb dX6_count_80 rfl (lv_at hl 0 rfl) ?_
    refine kb_get (own := RX6) (C := RX6) (T := TX6) (N := 9) (v := .ref (nw 0)) hx hb hts hin6 hown hX hP 0 rfl rfl rfl 1 (by decide) rfl (by decide +kernel) rfl dX6_count_81 ?_
    refine kb_getN (own := RX6) (C := RX0) (T := TX0) (N := 6) (v := .int (vn.2 5)) hx hb hts hin0 hown hX hP 2 rfl rfl rfl 5 (by decide) rfl (by decide +kernel) rfl dX6_count_84 ?_
    exact kr_pi hx hb hr hlocks dX6_count_87 (by simp only [f_count, if_neg h1_0, if_neg h1_1, if_neg h1_2, if_neg h1_3, if_pos h1_4] <;> rfl)
  by_cases h1_5 : x1 = 5
  · refine kb_tIn (tgt := 88) hx hb h1_5 dX6_count_1 (by decide) (by decide) rfl (by decide) ?_
    refine lv_aload_n hx hb dX6_count_88 rfl (lv_at hl 0 rfl) ?_
    refine kb_get (own := RX6) (C := RX6) (T := TX6) (N := 9) (v := .ref (un 0)) hx hb hts hin6 hown hX hP 0 rfl rfl rfl 3 (by decide) rfl (by decide +kernel) rfl dX6_count_89 ?_
    refine kb_getN (own := RX6) (C := RX1) (T := TX1) (N := 2) (v := .int (nI nu)) hx hb hts hin1 hown hX hP 3 rfl rfl rfl 1 (by decide) rfl (by decide +kernel) rfl dX6_count_92 ?_
    exact kr_pi hx hb hr hlocks dX6_count_95 (by simp only [f_count, if_neg h1_0, if_neg h1_1, if_neg h1_2, if_neg h1_3, if_neg h1_4, if_pos h1_5] <;> rfl)
  by_cases h1_6 : x1 = 6
  · refine kb_tIn (tgt := 96) hx hb h1_6 dX6_count_1 (by decide) (by decide) rfl (by decide) ?_
    refine lv_aload_n hx hb dX6_count_96 rfl (lv_at hl 0 rfl) ?_
    refine kb_get (own := RX6) (C := RX6) (T := TX6) (N := 9) (v := .ref (kp 0)) hx hb hts hin6 hown hX hP 0 rfl rfl rfl 4 (by decide) rfl (by decide +kernel) rfl dX6_count_97 ?_
    refine kb_getN (own := RX6) (C := RX1) (T := TX1) (N := 2) (v := .int (nI nk)) hx hb hts hin1 hown hX hP 4 rfl rfl rfl 1 (by decide) rfl (by decide +kernel) rfl dX6_count_100 ?_
    exact kr_pi hx hb hr hlocks dX6_count_103 (by simp only [f_count, if_neg h1_0, if_neg h1_1, if_neg h1_2, if_neg h1_3, if_neg h1_4, if_neg h1_5, if_pos h1_6] <;> rfl)
  by_cases h1_7 : x1 = 7
  · refine kb_tIn (tgt := 104) hx hb h1_7 dX6_count_1 (by decide) (by decide) rfl (by decide) ?_
    refine lv_aload_n hx hb dX6_count_104 rfl (lv_at hl 0 rfl) ?_
    refine kb_get (own := RX6) (C := RX6) (T := TX6) (N := 9) (v := .ref (tx 0)) hx hb hts hin6 hown hX hP 0 rfl rfl rfl 0 (by decide) rfl (by decide +kernel) rfl dX6_count_105 ?_
    refine kb_getN (own := RX6) (C := RX4) (T := TX4) (N := 4) (v := .int (vt.2 3)) hx hb hts hin4 hown hX hP 5 rfl rfl rfl 3 (by decide) rfl (by decide +kernel) rfl dX6_count_108 ?_
    exact kr_pi hx hb hr hlocks dX6_count_111 (by simp only [f_count, if_neg h1_0, if_neg h1_1, if_neg h1_2, if_neg h1_3, if_neg h1_4, if_neg h1_5, if_neg h1_6, if_pos h1_7] <;> rfl)
  have t1_0 : x1.toInt ≠ 0 := fun e => h1_0 (Int32.toInt_inj.mp (e.trans (by decide)))
  have t1_1 : x1.toInt ≠ 1 := fun e => h1_1 (Int32.toInt_inj.mp (e.trans (by decide)))
  have t1_2 : x1.toInt ≠ 2 := fun e => h1_2 (Int32.toInt_inj.mp (e.trans (by decide)))
  have t1_3 : x1.toInt ≠ 3 := fun e => h1_3 (Int32.toInt_inj.mp (e.trans (by decide)))
  have t1_4 : x1.toInt ≠ 4 := fun e => h1_4 (Int32.toInt_inj.mp (e.trans (by decide)))
  have t1_5 : x1.toInt ≠ 5 := fun e => h1_5 (Int32.toInt_inj.mp (e.trans (by decide)))
  have t1_6 : x1.toInt ≠ 6 := fun e => h1_6 (Int32.toInt_inj.mp (e.trans (by decide)))
  have t1_7 : x1.toInt ≠ 7 := fun e => h1_7 (Int32.toInt_inj.mp (e.trans (by decide)))
  refine kb_tOut (tgt := 112) hx hb dX6_count_1 (by omega) (by decide) ?_
  refine lv_iconst (v := (-1)) hx hb dX6_count_112 (by decide) ?_
  exact kr_pi hx hb hr hlocks dX6_count_113 (by simp only [f_count, if_neg h1_0, if_neg h1_1, if_neg h1_2, if_neg h1_3, if_neg h1_4, if_neg h1_5, if_neg h1_6, if_neg h1_7] <;> rfl)

def rm_X6_grudgeAgainstNew : Room := { frames := 3, cells := 0, slots := 0, locals := 67 }
theorem hd_X6_grudgeAgainstNew : yX6_grudgeAgainstNew.cls = RX6 ∧ yX6_grudgeAgainstNew.cls ≠ "java/lang/invoke/MethodHandle" ∧ yX6_grudgeAgainstNew.cls ≠ "java/lang/invoke/VarHandle" ∧ (parseMethodDescriptor yX6_grudgeAgainstNew.desc).map (fun d => d.parameters.length) = some 1 := by decide +kernel
set_option maxRecDepth 100000 in
set_option maxHeartbeats 4000000 in
theorem c_X6_grudgeAgainstNew (l : Launch) (G : GD) (h0 : Nat) (tx nw tr un kp wy rm pl dr : Nat → Nat) (x1 : Int32) (vp : OV) (vn : OV)  : MetP l yX6_grudgeAgainstNew wsX6_grudgeAgainstNew rm_X6_grudgeAgainstNew G [bX6 h0 (tx 0) (nw 0) (tr 0) (un 0) (kp 0) (wy 0) (rm 0) (pl 0) (dr 0), bX2 pl G vp, bX0 nw G vn] [.ref h0, .int x1] (some (.int (f_new vp vn x1))) := by
  refine kb_beginP (cc := cX6_grudgeAgainstNew) (maxL := 2) (ret := (some .int)) (by decide) rfl (Nat.le_of_ble_eq_true rfl) ?_
  intro p e s m below meth c hx hb hr hml hown hts hlocks hX hP ls hl
  have hown : s.vm.findClass RX6 = some m.cls := hown
  have hl : lv_has ls 2 [(0, .ref h0), (1, .int x1)] := hl
  have hin2 : ∀ w ∈ u_ws RX2 TX2 15, w ∈ wsX6_grudgeAgainstNew := (fun _ h => List.mem_cons_of_mem _ (List.mem_append_left _ (List.mem_append_right _ (h))))
  have hin6 : ∀ w ∈ u_ws RX6 TX6 9, w ∈ wsX6_grudgeAgainstNew := (fun _ h => List.mem_cons_of_mem _ (List.mem_append_left _ (List.mem_append_left _ (List.mem_append_right _ (h)))))
  refine lv_aload_n hx hb dX6_grudgeAgainstNew_0 rfl (lv_at hl 0 rfl) ?_
  refine kb_get (own := RX6) (C := RX6) (T := TX6) (N := 9) (v := .ref (pl 0)) hx hb hts hin6 hown hX hP 0 rfl rfl rfl 7 (by decide) rfl (by decide +kernel) rfl dX6_grudgeAgainstNew_1 ?_
  refine kb_getN (own := RX6) (C := RX2) (T := TX2) (N := 15) (v := .int (vp.2 10)) hx hb hts hin2 hown hX hP 1 rfl rfl rfl 10 (by decide) rfl (by decide +kernel) rfl dX6_grudgeAgainstNew_4 ?_
  refine lv_if_le (tgt := 33) hx hb dX6_grudgeAgainstNew_7 (by decide) (fun c_7 => ?_) (fun c_7 => ?_)
  · refine lv_iconst (v := 0) hx hb dX6_grudgeAgainstNew_33 (by decide) ?_
    exact kr_pi hx hb hr hlocks dX6_grudgeAgainstNew_34 (by simp only [f_new, if_pos c_7] <;> rfl)
  · refine lv_aload_n hx hb dX6_grudgeAgainstNew_10 rfl (lv_at hl 0 rfl) ?_
    refine kb_get (own := RX6) (C := RX6) (T := TX6) (N := 9) (v := .ref (nw 0)) hx hb hts hin6 hown hX hP 0 rfl rfl rfl 1 (by decide) rfl (by decide +kernel) rfl dX6_grudgeAgainstNew_11 ?_
    refine lv_aload_n hx hb dX6_grudgeAgainstNew_14 rfl (lv_at hl 0 rfl) ?_
    refine kb_get (own := RX6) (C := RX6) (T := TX6) (N := 9) (v := .ref (pl 0)) hx hb hts hin6 hown hX hP 0 rfl rfl rfl 7 (by decide) rfl (by decide +kernel) rfl dX6_grudgeAgainstNew_15 ?_
    refine lv_iload_n hx hb dX6_grudgeAgainstNew_18 rfl (lv_at hl 1 rfl) ?_
    refine kcV_p hx hb hml hown hts hX hP (c_X0_grudgesOfDoor l G nw vn pl vp x1) gX6_grudgeAgainstNew_X0_grudgesOfDoor 2 rfl rfl rfl hd_X0_grudgesOfDoor ⟨Nat.le_of_ble_eq_true rfl, Nat.le_of_ble_eq_true rfl⟩ [2, 1] rfl 2 rfl rfl rfl hl.1 rfl rfl (Nat.le_of_ble_eq_true rfl) dX6_grudgeAgainstNew_19 ⟨Nat.zero_le _, Nat.zero_le _⟩ ?_
    refine lv_aload_n hx hb dX6_grudgeAgainstNew_22 rfl (lv_at hl 0 rfl) ?_
    refine kb_get (own := RX6) (C := RX6) (T := TX6) (N := 9) (v := .ref (pl 0)) hx hb hts hin6 hown hX hP 0 rfl rfl rfl 7 (by decide) rfl (by decide +kernel) rfl dX6_grudgeAgainstNew_23 ?_
    refine kb_getN (own := RX6) (C := RX2) (T := TX2) (N := 15) (v := .int (vp.2 10)) hx hb hts hin2 hown hX hP 1 rfl rfl rfl 10 (by decide) rfl (by decide +kernel) rfl dX6_grudgeAgainstNew_26 ?_
    refine lv_idiv hx hb dX6_grudgeAgainstNew_29 (fun e => c_7 (by rw [e]; decide)) ?_
    refine lv_goto (tgt := 34) hx hb dX6_grudgeAgainstNew_30 (by decide) ?_
    exact kr_pi hx hb hr hlocks dX6_grudgeAgainstNew_34 (by simp only [f_new, if_neg c_7] <;> rfl)

def rm_X6_fresh : Room := { frames := 4, cells := 0, slots := 0, locals := 88 }
theorem hd_X6_fresh : yX6_fresh.cls = RX6 ∧ yX6_fresh.cls ≠ "java/lang/invoke/MethodHandle" ∧ yX6_fresh.cls ≠ "java/lang/invoke/VarHandle" ∧ (parseMethodDescriptor yX6_fresh.desc).map (fun d => d.parameters.length) = some 1 := by decide +kernel
set_option maxRecDepth 100000 in
set_option maxHeartbeats 4000000 in
theorem c_X6_fresh (l : Launch) (G : GD) (h0 : Nat) (tx nw tr un kp wy rm pl dr : Nat → Nat) (x1 : Int32) (vp : OV) (vn : OV)  : MetP l yX6_fresh wsX6_fresh rm_X6_fresh G [bX6 h0 (tx 0) (nw 0) (tr 0) (un 0) (kp 0) (wy 0) (rm 0) (pl 0) (dr 0), bX2 pl G vp, bX0 nw G vn] [.ref h0, .int x1] (some (.int (f_freshR vp vn x1))) := by
  refine kb_beginP (cc := cX6_fresh) (maxL := 4) (ret := (some .int)) (by decide) rfl (Nat.le_of_ble_eq_true rfl) ?_
  intro p e s m below meth c hx hb hr hml hown hts hlocks hX hP ls hl
  have hown : s.vm.findClass RX6 = some m.cls := hown
  have hl : lv_has ls 4 [(0, .ref h0), (1, .int x1)] := hl
  have hin2 : ∀ w ∈ u_ws RX2 TX2 15, w ∈ wsX6_fresh := (fun _ h => List.mem_cons_of_mem _ (List.mem_append_left _ (List.mem_append_right _ (h))))
  have hin6 : ∀ w ∈ u_ws RX6 TX6 9, w ∈ wsX6_fresh := (fun _ h => List.mem_cons_of_mem _ (List.mem_append_left _ (List.mem_append_left _ (List.mem_append_right _ (h)))))
  refine lv_iload_n hx hb dX6_fresh_0 rfl (lv_at hl 1 rfl) ?_
  refine lv_iconst (v := (-1)) hx hb dX6_fresh_1 (by decide) ?_
  refine lv_icmp_eq (tgt := 15) hx hb dX6_fresh_2 (by decide) (fun c_2 => ?_) (fun c_2 => ?_)
  · refine lv_iload_n hx hb dX6_fresh_15 rfl (lv_at hl 1 rfl) ?_
    refine lv_if_lt (tgt := 25) hx hb dX6_fresh_16 (by decide) (fun c_16 => ?_) (fun c_16 => ?_)
    · refine lv_iconst (v := 0) hx hb dX6_fresh_25 (by decide) ?_
      refine lv_istore_n (lv' := [(2, .int 0), (0, .ref h0), (1, .int x1)]) hx hb dX6_fresh_26 rfl hl (by decide) rfl (fun ls hl => ?_)
      refine lv_iconst (v := 1) hx hb dX6_fresh_27 (by decide) ?_
      refine lv_istore_n (lv' := [(3, .int 1), (2, .int 0), (0, .ref h0), (1, .int x1)]) hx hb dX6_fresh_28 rfl hl (by decide) rfl (fun ls hl => ?_)
      refine lp_up (N := (vp.2 9).toNatClampNeg - 1) (P := fun k => ∀ (ls : Array Slot), lv_has ls 4 [(3, .int (nI (k + 1))), (2, .int (itN (s_frs vp vn) 0 k)), (0, .ref h0), (1, .int x1)] →  W p l e (headSpec wsX6_fresh rm_X6_fresh).room s m ([.ref h0, .int x1] : List Value).toArray below meth c s.heap [] 0 0 (MQ below (kQp (some (.int (f_freshR vp vn x1)))) ([.ref h0, .int x1] : List Value).toArray s 0 0 (fun _ => False)) (F0 m 29 ls [])) ?_ ?_ 0 (Nat.zero_le _)  _ (lv_sub hl [0, 1, 2, 3] rfl) 
      · skip
        intro ls hl 
        refine lv_iload_n hx hb dX6_fresh_29 rfl (lv_at hl 0 rfl) ?_
        refine lv_aload_n hx hb dX6_fresh_30 rfl (lv_at hl 2 rfl) ?_
        refine kb_get (own := RX6) (C := RX6) (T := TX6) (N := 9) (v := .ref (pl 0)) hx hb hts hin6 hown hX hP 0 rfl rfl rfl 7 (by decide) rfl (by decide +kernel) rfl dX6_fresh_31 ?_
        refine kb_getN (own := RX6) (C := RX2) (T := TX2) (N := 15) (v := .int (vp.2 9)) hx hb hts hin2 hown hX hP 1 rfl rfl rfl 9 (by decide) rfl (by decide +kernel) rfl dX6_fresh_34 ?_
        refine lv_icmp_ge (tgt := 61) hx hb dX6_fresh_37 (by decide) (fun c_37 => ?_) (fun c_37 => absurd (lpx_c1 _) c_37)
        refine lv_iload_n hx hb dX6_fresh_61 rfl (lv_at hl 1 rfl) ?_
        exact kr_pi hx hb hr hlocks dX6_fresh_62 (by simp only [f_freshR, if_pos c_2, if_pos c_16, if_pos c_37] <;> rfl)
      · skip
        intro k hk_k ih_29 ls hl 
        refine lv_iload_n hx hb dX6_fresh_29 rfl (lv_at hl 0 rfl) ?_
        refine lv_aload_n hx hb dX6_fresh_30 rfl (lv_at hl 2 rfl) ?_
        refine kb_get (own := RX6) (C := RX6) (T := TX6) (N := 9) (v := .ref (pl 0)) hx hb hts hin6 hown hX hP 0 rfl rfl rfl 7 (by decide) rfl (by decide +kernel) rfl dX6_fresh_31 ?_
        refine kb_getN (own := RX6) (C := RX2) (T := TX2) (N := 15) (v := .int (vp.2 9)) hx hb hts hin2 hown hX hP 1 rfl rfl rfl 9 (by decide) rfl (by decide +kernel) rfl dX6_fresh_34 ?_
        refine lv_icmp_ge (tgt := 61) hx hb dX6_fresh_37 (by decide) (fun c_37 => absurd c_37 (lps_c (show k + 1 < _ by omega))) (fun c_37 => ?_)
        refine lv_aload_n hx hb dX6_fresh_40 rfl (lv_at hl 2 rfl) ?_
        refine lv_iload_n hx hb dX6_fresh_41 rfl (lv_at hl 0 rfl) ?_
        refine kcV_p hx hb hml hown hts hX hP (c_X6_grudgeAgainstNew l G h0 tx nw tr un kp wy rm pl dr (nI (k + 1)) vp vn) gX6_fresh_X6_grudgeAgainstNew 1 rfl rfl rfl hd_X6_grudgeAgainstNew ⟨Nat.le_of_ble_eq_true rfl, Nat.le_of_ble_eq_true rfl⟩ [0, 1, 2] rfl 0 rfl rfl rfl hl.1 rfl rfl (Nat.le_of_ble_eq_true rfl) dX6_fresh_42 ⟨Nat.zero_le _, Nat.zero_le _⟩ ?_
        refine lv_aload_n hx hb dX6_fresh_45 rfl (lv_at hl 2 rfl) ?_
        refine lv_iload_n hx hb dX6_fresh_46 rfl (lv_at hl 1 rfl) ?_
        refine kcV_p hx hb hml hown hts hX hP (c_X6_grudgeAgainstNew l G h0 tx nw tr un kp wy rm pl dr (itN (s_frs vp vn) 0 k) vp vn) gX6_fresh_X6_grudgeAgainstNew 1 rfl rfl rfl hd_X6_grudgeAgainstNew ⟨Nat.le_of_ble_eq_true rfl, Nat.le_of_ble_eq_true rfl⟩ [0, 1, 2] rfl 0 rfl rfl rfl hl.1 rfl rfl (Nat.le_of_ble_eq_true rfl) dX6_fresh_47 ⟨Nat.zero_le _, Nat.zero_le _⟩ ?_
        refine lv_icmp_ge (tgt := 55) hx hb dX6_fresh_50 (by decide) (fun c_50 => ?_) (fun c_50 => ?_)
        · refine lv_iinc (v := nI ((k + 1) + 1)) (lv' := [(3, .int (nI ((k + 1) + 1))), (2, .int (itN (s_frs vp vn) 0 k)), (0, .ref h0), (1, .int x1)]) hx hb dX6_fresh_55 hl (k := 0) rfl (nI_1 _) (by decide) rfl (fun ls hl => ?_)
          refine lv_goto (tgt := 29) hx hb dX6_fresh_58 (by decide) ?_
          exact ih_29  _ (by rw [itN_s]; simp only [s_frs, if_pos c_2, if_pos c_16, if_neg c_37, if_pos c_50]; exact lv_sub hl [0, 1, 2, 3] rfl) 
        · refine lv_iload_n hx hb dX6_fresh_53 rfl (lv_at hl 0 rfl) ?_
          refine lv_istore_n (lv' := [(2, .int (nI (k + 1))), (3, .int (nI (k + 1))), (0, .ref h0), (1, .int x1)]) hx hb dX6_fresh_54 rfl hl (by decide) rfl (fun ls hl => ?_)
          refine lv_iinc (v := nI ((k + 1) + 1)) (lv' := [(3, .int (nI ((k + 1) + 1))), (2, .int (nI (k + 1))), (0, .ref h0), (1, .int x1)]) hx hb dX6_fresh_55 hl (k := 1) rfl (nI_1 _) (by decide) rfl (fun ls hl => ?_)
          refine lv_goto (tgt := 29) hx hb dX6_fresh_58 (by decide) ?_
          exact ih_29  _ (by rw [itN_s]; simp only [s_frs, if_pos c_2, if_pos c_16, if_neg c_37, if_neg c_50]; exact lv_sub hl [0, 1, 2, 3] rfl) 
    · refine lv_aload_n hx hb dX6_fresh_19 rfl (lv_at hl 0 rfl) ?_
      refine lv_iload_n hx hb dX6_fresh_20 rfl (lv_at hl 1 rfl) ?_
      refine kcV_p hx hb hml hown hts hX hP (c_X6_grudgeAgainstNew l G h0 tx nw tr un kp wy rm pl dr x1 vp vn) gX6_fresh_X6_grudgeAgainstNew 1 rfl rfl rfl hd_X6_grudgeAgainstNew ⟨Nat.le_of_ble_eq_true rfl, Nat.le_of_ble_eq_true rfl⟩ [0, 1, 2] rfl 0 rfl rfl rfl hl.1 rfl rfl (Nat.le_of_ble_eq_true rfl) dX6_fresh_21 ⟨Nat.zero_le _, Nat.zero_le _⟩ ?_
      exact kr_pi hx hb hr hlocks dX6_fresh_24 (by simp only [f_freshR, if_pos c_2, if_neg c_16] <;> rfl)
  · refine lv_aload_n hx hb dX6_fresh_5 rfl (lv_at hl 0 rfl) ?_
    refine lv_iload_n hx hb dX6_fresh_6 rfl (lv_at hl 1 rfl) ?_
    refine kcV_p hx hb hml hown hts hX hP (c_X6_isDoor l G h0 tx nw tr un kp wy rm pl dr x1 vp) gX6_fresh_X6_isDoor 1 rfl rfl rfl hd_X6_isDoor ⟨Nat.le_of_ble_eq_true rfl, Nat.le_of_ble_eq_true rfl⟩ [0, 1] rfl 0 rfl rfl rfl hl.1 rfl rfl (Nat.le_of_ble_eq_true rfl) dX6_fresh_7 ⟨Nat.zero_le _, Nat.zero_le _⟩ ?_
    refine lv_if_ne (tgt := 15) hx hb dX6_fresh_10 (by decide) (fun c_10r => ?_) (fun c_10r => ?_)
    · have c_10 := b2i_tP c_10r
      refine lv_iload_n hx hb dX6_fresh_15 rfl (lv_at hl 1 rfl) ?_
      refine lv_if_lt (tgt := 25) hx hb dX6_fresh_16 (by decide) (fun c_16 => ?_) (fun c_16 => ?_)
      · refine lv_iconst (v := 0) hx hb dX6_fresh_25 (by decide) ?_
        refine lv_istore_n (lv' := [(2, .int 0), (0, .ref h0), (1, .int x1)]) hx hb dX6_fresh_26 rfl hl (by decide) rfl (fun ls hl => ?_)
        refine lv_iconst (v := 1) hx hb dX6_fresh_27 (by decide) ?_
        refine lv_istore_n (lv' := [(3, .int 1), (2, .int 0), (0, .ref h0), (1, .int x1)]) hx hb dX6_fresh_28 rfl hl (by decide) rfl (fun ls hl => ?_)
        refine lp_up (N := (vp.2 9).toNatClampNeg - 1) (P := fun k => ∀ (ls : Array Slot), lv_has ls 4 [(3, .int (nI (k + 1))), (2, .int (itN (s_frs vp vn) 0 k)), (0, .ref h0), (1, .int x1)] →  W p l e (headSpec wsX6_fresh rm_X6_fresh).room s m ([.ref h0, .int x1] : List Value).toArray below meth c s.heap [] 0 0 (MQ below (kQp (some (.int (f_freshR vp vn x1)))) ([.ref h0, .int x1] : List Value).toArray s 0 0 (fun _ => False)) (F0 m 29 ls [])) ?_ ?_ 0 (Nat.zero_le _)  _ (lv_sub hl [0, 1, 2, 3] rfl) 
        · skip
          intro ls hl 
          refine lv_iload_n hx hb dX6_fresh_29 rfl (lv_at hl 0 rfl) ?_
          refine lv_aload_n hx hb dX6_fresh_30 rfl (lv_at hl 2 rfl) ?_
          refine kb_get (own := RX6) (C := RX6) (T := TX6) (N := 9) (v := .ref (pl 0)) hx hb hts hin6 hown hX hP 0 rfl rfl rfl 7 (by decide) rfl (by decide +kernel) rfl dX6_fresh_31 ?_
          refine kb_getN (own := RX6) (C := RX2) (T := TX2) (N := 15) (v := .int (vp.2 9)) hx hb hts hin2 hown hX hP 1 rfl rfl rfl 9 (by decide) rfl (by decide +kernel) rfl dX6_fresh_34 ?_
          refine lv_icmp_ge (tgt := 61) hx hb dX6_fresh_37 (by decide) (fun c_37 => ?_) (fun c_37 => absurd (lpx_c1 _) c_37)
          refine lv_iload_n hx hb dX6_fresh_61 rfl (lv_at hl 1 rfl) ?_
          exact kr_pi hx hb hr hlocks dX6_fresh_62 (by simp only [f_freshR, if_neg c_2, if_pos c_10, if_pos c_16, if_pos c_37] <;> rfl)
        · skip
          intro k hk_k ih_29 ls hl 
          refine lv_iload_n hx hb dX6_fresh_29 rfl (lv_at hl 0 rfl) ?_
          refine lv_aload_n hx hb dX6_fresh_30 rfl (lv_at hl 2 rfl) ?_
          refine kb_get (own := RX6) (C := RX6) (T := TX6) (N := 9) (v := .ref (pl 0)) hx hb hts hin6 hown hX hP 0 rfl rfl rfl 7 (by decide) rfl (by decide +kernel) rfl dX6_fresh_31 ?_
          refine kb_getN (own := RX6) (C := RX2) (T := TX2) (N := 15) (v := .int (vp.2 9)) hx hb hts hin2 hown hX hP 1 rfl rfl rfl 9 (by decide) rfl (by decide +kernel) rfl dX6_fresh_34 ?_
          refine lv_icmp_ge (tgt := 61) hx hb dX6_fresh_37 (by decide) (fun c_37 => absurd c_37 (lps_c (show k + 1 < _ by omega))) (fun c_37 => ?_)
          refine lv_aload_n hx hb dX6_fresh_40 rfl (lv_at hl 2 rfl) ?_
          refine lv_iload_n hx hb dX6_fresh_41 rfl (lv_at hl 0 rfl) ?_
          refine kcV_p hx hb hml hown hts hX hP (c_X6_grudgeAgainstNew l G h0 tx nw tr un kp wy rm pl dr (nI (k + 1)) vp vn) gX6_fresh_X6_grudgeAgainstNew 1 rfl rfl rfl hd_X6_grudgeAgainstNew ⟨Nat.le_of_ble_eq_true rfl, Nat.le_of_ble_eq_true rfl⟩ [0, 1, 2] rfl 0 rfl rfl rfl hl.1 rfl rfl (Nat.le_of_ble_eq_true rfl) dX6_fresh_42 ⟨Nat.zero_le _, Nat.zero_le _⟩ ?_
          refine lv_aload_n hx hb dX6_fresh_45 rfl (lv_at hl 2 rfl) ?_
          refine lv_iload_n hx hb dX6_fresh_46 rfl (lv_at hl 1 rfl) ?_
          refine kcV_p hx hb hml hown hts hX hP (c_X6_grudgeAgainstNew l G h0 tx nw tr un kp wy rm pl dr (itN (s_frs vp vn) 0 k) vp vn) gX6_fresh_X6_grudgeAgainstNew 1 rfl rfl rfl hd_X6_grudgeAgainstNew ⟨Nat.le_of_ble_eq_true rfl, Nat.le_of_ble_eq_true rfl⟩ [0, 1, 2] rfl 0 rfl rfl rfl hl.1 rfl rfl (Nat.le_of_ble_eq_true rfl) dX6_fresh_47 ⟨Nat.zero_le _, Nat.zero_le _⟩ ?_
          refine lv_icmp_ge (tgt := 55) hx hb dX6_fresh_50 (by decide) (fun c_50 => ?_) (fun c_50 => ?_)
          · refine lv_iinc (v := nI ((k + 1) + 1)) (lv' := [(3, .int (nI ((k + 1) + 1))), (2, .int (itN (s_frs vp vn) 0 k)), (0, .ref h0), (1, .int x1)]) hx hb dX6_fresh_55 hl (k := 0) rfl (nI_1 _) (by decide) rfl (fun ls hl => ?_)
            refine lv_goto (tgt := 29) hx hb dX6_fresh_58 (by decide) ?_
            exact ih_29  _ (by rw [itN_s]; simp only [s_frs, if_neg c_2, if_pos c_10, if_pos c_16, if_neg c_37, if_pos c_50]; exact lv_sub hl [0, 1, 2, 3] rfl) 
          · refine lv_iload_n hx hb dX6_fresh_53 rfl (lv_at hl 0 rfl) ?_
            refine lv_istore_n (lv' := [(2, .int (nI (k + 1))), (3, .int (nI (k + 1))), (0, .ref h0), (1, .int x1)]) hx hb dX6_fresh_54 rfl hl (by decide) rfl (fun ls hl => ?_)
            refine lv_iinc (v := nI ((k + 1) + 1)) (lv' := [(3, .int (nI ((k + 1) + 1))), (2, .int (nI (k + 1))), (0, .ref h0), (1, .int x1)]) hx hb dX6_fresh_55 hl (k := 1) rfl (nI_1 _) (by decide) rfl (fun ls hl => ?_)
            refine lv_goto (tgt := 29) hx hb dX6_fresh_58 (by decide) ?_
            exact ih_29  _ (by rw [itN_s]; simp only [s_frs, if_neg c_2, if_pos c_10, if_pos c_16, if_neg c_37, if_neg c_50]; exact lv_sub hl [0, 1, 2, 3] rfl) 
      · refine lv_aload_n hx hb dX6_fresh_19 rfl (lv_at hl 0 rfl) ?_
        refine lv_iload_n hx hb dX6_fresh_20 rfl (lv_at hl 1 rfl) ?_
        refine kcV_p hx hb hml hown hts hX hP (c_X6_grudgeAgainstNew l G h0 tx nw tr un kp wy rm pl dr x1 vp vn) gX6_fresh_X6_grudgeAgainstNew 1 rfl rfl rfl hd_X6_grudgeAgainstNew ⟨Nat.le_of_ble_eq_true rfl, Nat.le_of_ble_eq_true rfl⟩ [0, 1, 2] rfl 0 rfl rfl rfl hl.1 rfl rfl (Nat.le_of_ble_eq_true rfl) dX6_fresh_21 ⟨Nat.zero_le _, Nat.zero_le _⟩ ?_
        exact kr_pi hx hb hr hlocks dX6_fresh_24 (by simp only [f_freshR, if_neg c_2, if_pos c_10, if_neg c_16] <;> rfl)
    · have c_10 := b2i_fN c_10r
      refine lv_iconst (v := (-1)) hx hb dX6_fresh_13 (by decide) ?_
      exact kr_pi hx hb hr hlocks dX6_fresh_14 (by simp only [f_freshR, if_neg c_2, if_neg c_10] <;> rfl)

def rm_X6_how : Room := { frames := 4, cells := 0, slots := 0, locals := 83 }
theorem hd_X6_how : yX6_how.cls = RX6 ∧ yX6_how.cls ≠ "java/lang/invoke/MethodHandle" ∧ yX6_how.cls ≠ "java/lang/invoke/VarHandle" ∧ (parseMethodDescriptor yX6_how.desc).map (fun d => d.parameters.length) = some 5 := by decide +kernel
set_option maxRecDepth 100000 in
set_option maxHeartbeats 4000000 in
theorem c_X6_how (l : Launch) (G : GD) (h0 : Nat) (tx nw tr un kp wy rm pl dr : Nat → Nat) (x1 : Int32) (x2 : Int32) (x3 : Int32) (x4 : Int32) (x5 : Int32) (vp : OV)  : MetP l yX6_how wsX6_how rm_X6_how G [bX6 h0 (tx 0) (nw 0) (tr 0) (un 0) (kp 0) (wy 0) (rm 0) (pl 0) (dr 0), bX2 pl G vp] [.ref h0, .int x1, .int x2, .int x3, .int x4, .int x5] (some (.int (f_howR vp x1 x2 x3 x4 x5))) := by
  refine kb_beginP (cc := cX6_how) (maxL := 10) (ret := (some .int)) (by decide) rfl (Nat.le_of_ble_eq_true rfl) ?_
  intro p e s m below meth c hx hb hr hml hown hts hlocks hX hP ls hl
  have hown : s.vm.findClass RX6 = some m.cls := hown
  have hl : lv_has ls 10 [(0, .ref h0), (1, .int x1), (2, .int x2), (3, .int x3), (4, .int x4), (5, .int x5)] := hl
  have hin6 : ∀ w ∈ u_ws RX6 TX6 9, w ∈ wsX6_how := (fun _ h => List.mem_cons_of_mem _ (List.mem_append_left _ (List.mem_append_right _ (h))))
  refine lv_iload_n hx hb dX6_how_0 rfl (lv_at hl 3 rfl) ?_
  refine lv_iconst (v := 0) hx hb dX6_how_1 (by decide) ?_
  refine lv_bipush (v := 8) hx hb dX6_how_2 (by decide) ?_
  refine kcS_p hx hb hml hown hts hX hP (c_X6_within l G x3 0 8) gX6_how_X6_within 3 rfl rfl rfl hdS_X6_within ⟨Nat.le_of_ble_eq_true rfl, Nat.le_of_ble_eq_true rfl⟩ (fun q hq => absurd hq List.not_mem_nil) hl.1 rfl rfl (Nat.le_of_ble_eq_true rfl) dX6_how_4 ⟨Nat.zero_le _, Nat.zero_le _⟩ ?_
  refine lv_if_eq (tgt := 35) hx hb dX6_how_7 (by decide) (fun c_7r => ?_) (fun c_7r => ?_)
  · have c_7 := b2i_fN c_7r
    refine lv_iconst (v := 0) hx hb dX6_how_35 (by decide) ?_
    refine lv_istore (lv' := [(6, .int 0), (0, .ref h0), (1, .int x1), (2, .int x2), (3, .int x3), (4, .int x4), (5, .int x5)]) hx hb dX6_how_36 hl (by decide) rfl (fun ls hl => ?_)
    refine lv_aload_n hx hb dX6_how_38 rfl (lv_at hl 1 rfl) ?_
    refine lv_iload_n hx hb dX6_how_39 rfl (lv_at hl 2 rfl) ?_
    refine kcV_p hx hb hml hown hts hX hP (c_X6_isLodger l G h0 tx nw tr un kp wy rm pl dr x1 vp) gX6_how_X6_isLodger 1 rfl rfl rfl hd_X6_isLodger ⟨Nat.le_of_ble_eq_true rfl, Nat.le_of_ble_eq_true rfl⟩ [0, 1] rfl 0 rfl rfl rfl hl.1 rfl rfl (Nat.le_of_ble_eq_true rfl) dX6_how_40 ⟨Nat.zero_le _, Nat.zero_le _⟩ ?_
    refine lv_if_eq (tgt := 59) hx hb dX6_how_43 (by decide) (fun c_43r => ?_) (fun c_43r => ?_)
    · have c_43 := b2i_fN c_43r
      refine lv_iconst (v := (-1)) hx hb dX6_how_59 (by decide) ?_
      exact kr_pi hx hb hr hlocks dX6_how_60 (by unfold f_howR f_how okHow; simp only [if_true, if_neg c_7, if_neg c_43] <;> rfl)
    · have c_43 := b2i_tP c_43r
      refine lv_aload_n hx hb dX6_how_46 rfl (lv_at hl 1 rfl) ?_
      refine lv_iload_n hx hb dX6_how_47 rfl (lv_at hl 3 rfl) ?_
      refine kcV_p hx hb hml hown hts hX hP (c_X6_isDoor l G h0 tx nw tr un kp wy rm pl dr x2 vp) gX6_how_X6_isDoor 1 rfl rfl rfl hd_X6_isDoor ⟨Nat.le_of_ble_eq_true rfl, Nat.le_of_ble_eq_true rfl⟩ [0, 1] rfl 0 rfl rfl rfl hl.1 rfl rfl (Nat.le_of_ble_eq_true rfl) dX6_how_48 ⟨Nat.zero_le _, Nat.zero_le _⟩ ?_
      refine lv_if_eq (tgt := 59) hx hb dX6_how_51 (by decide) (fun c_51r => ?_) (fun c_51r => ?_)
      · have c_51 := b2i_fN c_51r
        refine lv_iconst (v := (-1)) hx hb dX6_how_59 (by decide) ?_
        exact kr_pi hx hb hr hlocks dX6_how_60 (by unfold f_howR f_how okHow; simp only [if_true, if_neg c_7, if_pos c_43, if_neg c_51] <;> rfl)
      · have c_51 := b2i_tP c_51r
        refine lv_iload hx hb dX6_how_54 (lv_at hl 0 rfl) ?_
        refine lv_if_ne (tgt := 61) hx hb dX6_how_56 (by decide) (fun c_56 => absurd (by decide) c_56) (fun c_56 => ?_)
        refine lv_iconst (v := (-1)) hx hb dX6_how_59 (by decide) ?_
        exact kr_pi hx hb hr hlocks dX6_how_60 (by unfold f_howR f_how okHow; simp only [if_true, if_neg c_7, if_pos c_43, if_pos c_51, if_pos c_56] <;> rfl)
  · have c_7 := b2i_tP c_7r
    refine lv_iload hx hb dX6_how_10 (lv_at hl 4 rfl) ?_
    refine lv_iconst (v := 1) hx hb dX6_how_12 (by decide) ?_
    refine lv_bipush (v := 100) hx hb dX6_how_13 (by decide) ?_
    refine kcS_p hx hb hml hown hts hX hP (c_X6_within l G x4 1 100) gX6_how_X6_within 3 rfl rfl rfl hdS_X6_within ⟨Nat.le_of_ble_eq_true rfl, Nat.le_of_ble_eq_true rfl⟩ (fun q hq => absurd hq List.not_mem_nil) hl.1 rfl rfl (Nat.le_of_ble_eq_true rfl) dX6_how_15 ⟨Nat.zero_le _, Nat.zero_le _⟩ ?_
    refine lv_if_eq (tgt := 35) hx hb dX6_how_18 (by decide) (fun c_18r => ?_) (fun c_18r => ?_)
    · have c_18 := b2i_fN c_18r
      refine lv_iconst (v := 0) hx hb dX6_how_35 (by decide) ?_
      refine lv_istore (lv' := [(6, .int 0), (0, .ref h0), (1, .int x1), (2, .int x2), (3, .int x3), (4, .int x4), (5, .int x5)]) hx hb dX6_how_36 hl (by decide) rfl (fun ls hl => ?_)
      refine lv_aload_n hx hb dX6_how_38 rfl (lv_at hl 1 rfl) ?_
      refine lv_iload_n hx hb dX6_how_39 rfl (lv_at hl 2 rfl) ?_
      refine kcV_p hx hb hml hown hts hX hP (c_X6_isLodger l G h0 tx nw tr un kp wy rm pl dr x1 vp) gX6_how_X6_isLodger 1 rfl rfl rfl hd_X6_isLodger ⟨Nat.le_of_ble_eq_true rfl, Nat.le_of_ble_eq_true rfl⟩ [0, 1] rfl 0 rfl rfl rfl hl.1 rfl rfl (Nat.le_of_ble_eq_true rfl) dX6_how_40 ⟨Nat.zero_le _, Nat.zero_le _⟩ ?_
      refine lv_if_eq (tgt := 59) hx hb dX6_how_43 (by decide) (fun c_43r => ?_) (fun c_43r => ?_)
      · have c_43 := b2i_fN c_43r
        refine lv_iconst (v := (-1)) hx hb dX6_how_59 (by decide) ?_
        exact kr_pi hx hb hr hlocks dX6_how_60 (by unfold f_howR f_how okHow; simp only [if_true, if_pos c_7, if_neg c_18, if_neg c_43] <;> rfl)
      · have c_43 := b2i_tP c_43r
        refine lv_aload_n hx hb dX6_how_46 rfl (lv_at hl 1 rfl) ?_
        refine lv_iload_n hx hb dX6_how_47 rfl (lv_at hl 3 rfl) ?_
        refine kcV_p hx hb hml hown hts hX hP (c_X6_isDoor l G h0 tx nw tr un kp wy rm pl dr x2 vp) gX6_how_X6_isDoor 1 rfl rfl rfl hd_X6_isDoor ⟨Nat.le_of_ble_eq_true rfl, Nat.le_of_ble_eq_true rfl⟩ [0, 1] rfl 0 rfl rfl rfl hl.1 rfl rfl (Nat.le_of_ble_eq_true rfl) dX6_how_48 ⟨Nat.zero_le _, Nat.zero_le _⟩ ?_
        refine lv_if_eq (tgt := 59) hx hb dX6_how_51 (by decide) (fun c_51r => ?_) (fun c_51r => ?_)
        · have c_51 := b2i_fN c_51r
          refine lv_iconst (v := (-1)) hx hb dX6_how_59 (by decide) ?_
          exact kr_pi hx hb hr hlocks dX6_how_60 (by unfold f_howR f_how okHow; simp only [if_true, if_pos c_7, if_neg c_18, if_pos c_43, if_neg c_51] <;> rfl)
        · have c_51 := b2i_tP c_51r
          refine lv_iload hx hb dX6_how_54 (lv_at hl 0 rfl) ?_
          refine lv_if_ne (tgt := 61) hx hb dX6_how_56 (by decide) (fun c_56 => absurd (by decide) c_56) (fun c_56 => ?_)
          refine lv_iconst (v := (-1)) hx hb dX6_how_59 (by decide) ?_
          exact kr_pi hx hb hr hlocks dX6_how_60 (by unfold f_howR f_how okHow; simp only [if_true, if_pos c_7, if_neg c_18, if_pos c_43, if_pos c_51, if_pos c_56] <;> rfl)
    · have c_18 := b2i_tP c_18r
      refine lv_iload hx hb dX6_how_21 (lv_at hl 5 rfl) ?_
      refine lv_iconst (v := 0) hx hb dX6_how_23 (by decide) ?_
      refine lv_iconst (v := 1) hx hb dX6_how_24 (by decide) ?_
      refine kcS_p hx hb hml hown hts hX hP (c_X6_within l G x5 0 1) gX6_how_X6_within 3 rfl rfl rfl hdS_X6_within ⟨Nat.le_of_ble_eq_true rfl, Nat.le_of_ble_eq_true rfl⟩ (fun q hq => absurd hq List.not_mem_nil) hl.1 rfl rfl (Nat.le_of_ble_eq_true rfl) dX6_how_25 ⟨Nat.zero_le _, Nat.zero_le _⟩ ?_
      refine lv_if_eq (tgt := 35) hx hb dX6_how_28 (by decide) (fun c_28r => ?_) (fun c_28r => ?_)
      · have c_28 := b2i_fN c_28r
        refine lv_iconst (v := 0) hx hb dX6_how_35 (by decide) ?_
        refine lv_istore (lv' := [(6, .int 0), (0, .ref h0), (1, .int x1), (2, .int x2), (3, .int x3), (4, .int x4), (5, .int x5)]) hx hb dX6_how_36 hl (by decide) rfl (fun ls hl => ?_)
        refine lv_aload_n hx hb dX6_how_38 rfl (lv_at hl 1 rfl) ?_
        refine lv_iload_n hx hb dX6_how_39 rfl (lv_at hl 2 rfl) ?_
        refine kcV_p hx hb hml hown hts hX hP (c_X6_isLodger l G h0 tx nw tr un kp wy rm pl dr x1 vp) gX6_how_X6_isLodger 1 rfl rfl rfl hd_X6_isLodger ⟨Nat.le_of_ble_eq_true rfl, Nat.le_of_ble_eq_true rfl⟩ [0, 1] rfl 0 rfl rfl rfl hl.1 rfl rfl (Nat.le_of_ble_eq_true rfl) dX6_how_40 ⟨Nat.zero_le _, Nat.zero_le _⟩ ?_
        refine lv_if_eq (tgt := 59) hx hb dX6_how_43 (by decide) (fun c_43r => ?_) (fun c_43r => ?_)
        · have c_43 := b2i_fN c_43r
          refine lv_iconst (v := (-1)) hx hb dX6_how_59 (by decide) ?_
          exact kr_pi hx hb hr hlocks dX6_how_60 (by unfold f_howR f_how okHow; simp only [if_true, if_pos c_7, if_pos c_18, if_neg c_28, if_neg c_43] <;> rfl)
        · have c_43 := b2i_tP c_43r
          refine lv_aload_n hx hb dX6_how_46 rfl (lv_at hl 1 rfl) ?_
          refine lv_iload_n hx hb dX6_how_47 rfl (lv_at hl 3 rfl) ?_
          refine kcV_p hx hb hml hown hts hX hP (c_X6_isDoor l G h0 tx nw tr un kp wy rm pl dr x2 vp) gX6_how_X6_isDoor 1 rfl rfl rfl hd_X6_isDoor ⟨Nat.le_of_ble_eq_true rfl, Nat.le_of_ble_eq_true rfl⟩ [0, 1] rfl 0 rfl rfl rfl hl.1 rfl rfl (Nat.le_of_ble_eq_true rfl) dX6_how_48 ⟨Nat.zero_le _, Nat.zero_le _⟩ ?_
          refine lv_if_eq (tgt := 59) hx hb dX6_how_51 (by decide) (fun c_51r => ?_) (fun c_51r => ?_)
          · have c_51 := b2i_fN c_51r
            refine lv_iconst (v := (-1)) hx hb dX6_how_59 (by decide) ?_
            exact kr_pi hx hb hr hlocks dX6_how_60 (by unfold f_howR f_how okHow; simp only [if_true, if_pos c_7, if_pos c_18, if_neg c_28, if_pos c_43, if_neg c_51] <;> rfl)
          · have c_51 := b2i_tP c_51r
            refine lv_iload hx hb dX6_how_54 (lv_at hl 0 rfl) ?_
            refine lv_if_ne (tgt := 61) hx hb dX6_how_56 (by decide) (fun c_56 => absurd (by decide) c_56) (fun c_56 => ?_)
            refine lv_iconst (v := (-1)) hx hb dX6_how_59 (by decide) ?_
            exact kr_pi hx hb hr hlocks dX6_how_60 (by unfold f_howR f_how okHow; simp only [if_true, if_pos c_7, if_pos c_18, if_neg c_28, if_pos c_43, if_pos c_51, if_pos c_56] <;> rfl)
      · have c_28 := b2i_tP c_28r
        refine lv_iconst (v := 1) hx hb dX6_how_31 (by decide) ?_
        refine lv_goto (tgt := 36) hx hb dX6_how_32 (by decide) ?_
        refine lv_istore (lv' := [(6, .int 1), (0, .ref h0), (1, .int x1), (2, .int x2), (3, .int x3), (4, .int x4), (5, .int x5)]) hx hb dX6_how_36 hl (by decide) rfl (fun ls hl => ?_)
        refine lv_aload_n hx hb dX6_how_38 rfl (lv_at hl 1 rfl) ?_
        refine lv_iload_n hx hb dX6_how_39 rfl (lv_at hl 2 rfl) ?_
        refine kcV_p hx hb hml hown hts hX hP (c_X6_isLodger l G h0 tx nw tr un kp wy rm pl dr x1 vp) gX6_how_X6_isLodger 1 rfl rfl rfl hd_X6_isLodger ⟨Nat.le_of_ble_eq_true rfl, Nat.le_of_ble_eq_true rfl⟩ [0, 1] rfl 0 rfl rfl rfl hl.1 rfl rfl (Nat.le_of_ble_eq_true rfl) dX6_how_40 ⟨Nat.zero_le _, Nat.zero_le _⟩ ?_
        refine lv_if_eq (tgt := 59) hx hb dX6_how_43 (by decide) (fun c_43r => ?_) (fun c_43r => ?_)
        · have c_43 := b2i_fN c_43r
          refine lv_iconst (v := (-1)) hx hb dX6_how_59 (by decide) ?_
          exact kr_pi hx hb hr hlocks dX6_how_60 (by unfold f_howR f_how okHow; simp only [if_true, if_pos c_7, if_pos c_18, if_pos c_28, if_neg c_43] <;> rfl)
        · have c_43 := b2i_tP c_43r
          refine lv_aload_n hx hb dX6_how_46 rfl (lv_at hl 1 rfl) ?_
          refine lv_iload_n hx hb dX6_how_47 rfl (lv_at hl 3 rfl) ?_
          refine kcV_p hx hb hml hown hts hX hP (c_X6_isDoor l G h0 tx nw tr un kp wy rm pl dr x2 vp) gX6_how_X6_isDoor 1 rfl rfl rfl hd_X6_isDoor ⟨Nat.le_of_ble_eq_true rfl, Nat.le_of_ble_eq_true rfl⟩ [0, 1] rfl 0 rfl rfl rfl hl.1 rfl rfl (Nat.le_of_ble_eq_true rfl) dX6_how_48 ⟨Nat.zero_le _, Nat.zero_le _⟩ ?_
          refine lv_if_eq (tgt := 59) hx hb dX6_how_51 (by decide) (fun c_51r => ?_) (fun c_51r => ?_)
          · have c_51 := b2i_fN c_51r
            refine lv_iconst (v := (-1)) hx hb dX6_how_59 (by decide) ?_
            exact kr_pi hx hb hr hlocks dX6_how_60 (by unfold f_howR f_how okHow; simp only [if_true, if_pos c_7, if_pos c_18, if_pos c_28, if_pos c_43, if_neg c_51] <;> rfl)
          · have c_51 := b2i_tP c_51r
            refine lv_iload hx hb dX6_how_54 (lv_at hl 0 rfl) ?_
            refine lv_if_ne (tgt := 61) hx hb dX6_how_56 (by decide) (fun c_56 => ?_) (fun c_56 => absurd c_56 (by decide))
            refine lv_iconst (v := 0) hx hb dX6_how_61 (by decide) ?_
            refine lv_istore (lv' := [(7, .int 0), (6, .int 1), (0, .ref h0), (1, .int x1), (2, .int x2), (3, .int x3), (4, .int x4), (5, .int x5)]) hx hb dX6_how_62 hl (by decide) rfl (fun ls hl => ?_)
            refine lv_bipush (v := 9) hx hb dX6_how_64 (by decide) ?_
            refine lv_istore (lv' := [(8, .int 9), (7, .int 0), (6, .int 1), (0, .ref h0), (1, .int x1), (2, .int x2), (3, .int x3), (4, .int x4), (5, .int x5)]) hx hb dX6_how_66 hl (by decide) rfl (fun ls hl => ?_)
            refine lv_iconst (v := 0) hx hb dX6_how_68 (by decide) ?_
            refine lv_istore (lv' := [(9, .int 0), (8, .int 9), (7, .int 0), (6, .int 1), (0, .ref h0), (1, .int x1), (2, .int x2), (3, .int x3), (4, .int x4), (5, .int x5)]) hx hb dX6_how_69 hl (by decide) rfl (fun ls hl => ?_)
            refine lp_up (N := (1 <<< (x3 &&& 31) : Int32).toNatClampNeg) (P := fun o => ∀ (ls : Array Slot), lv_has ls 10 [(9, .int (nI o)), (8, .int ((itN (s_hw vp x1 x2 x3 x4) (0, 9) o).2)), (7, .int ((itN (s_hw vp x1 x2 x3 x4) (0, 9) o).1)), (6, .int 1), (0, .ref h0), (1, .int x1), (2, .int x2), (3, .int x3), (4, .int x4), (5, .int x5)] →  W p l e (headSpec wsX6_how rm_X6_how).room s m ([.ref h0, .int x1, .int x2, .int x3, .int x4, .int x5] : List Value).toArray below meth c s.heap [] 0 0 (MQ below (kQp (some (.int (f_howR vp x1 x2 x3 x4 x5)))) ([.ref h0, .int x1, .int x2, .int x3, .int x4, .int x5] : List Value).toArray s 0 0 (fun _ => False)) (F0 m 71 ls [])) ?_ ?_ 0 (Nat.zero_le _)  _ (lv_sub hl [0, 1, 2, 3, 4, 5, 6, 7, 8, 9] rfl) 
            · skip
              intro ls hl 
              refine lv_iload hx hb dX6_how_71 (lv_at hl 0 rfl) ?_
              refine lv_iconst (v := 1) hx hb dX6_how_73 (by decide) ?_
              refine lv_iload_n hx hb dX6_how_74 rfl (lv_at hl 7 rfl) ?_
              refine lv_ishl hx hb dX6_how_75 ?_
              refine lv_icmp_ge (tgt := 119) hx hb dX6_how_76 (by decide) (fun c_76 => ?_) (fun c_76 => absurd (lpx_c _) c_76)
              refine lv_iload hx hb dX6_how_119 (lv_at hl 9 rfl) ?_
              refine lv_if_ne (tgt := 127) hx hb dX6_how_121 (by decide) (fun c_121 => ?_) (fun c_121 => ?_)
              · refine lv_iload hx hb dX6_how_127 (lv_at hl 2 rfl) ?_
                refine lv_if_le (tgt := 137) hx hb dX6_how_129 (by decide) (fun c_129 => ?_) (fun c_129 => ?_)
                · refine lv_bipush (v := (-4)) hx hb dX6_how_137 (by decide) ?_
                  exact kr_pi hx hb hr hlocks dX6_how_139 (by unfold f_howR f_how okHow; simp only [if_true, if_pos c_7, if_pos c_18, if_pos c_28, if_pos c_43, if_pos c_51, if_neg c_56, if_pos c_76, if_neg c_121, if_pos c_129] <;> rfl)
                · refine lv_iload hx hb dX6_how_132 (lv_at hl 1 rfl) ?_
                  refine lv_goto (tgt := 139) hx hb dX6_how_134 (by decide) ?_
                  exact kr_pi hx hb hr hlocks dX6_how_139 (by unfold f_howR f_how okHow; simp only [if_true, if_pos c_7, if_pos c_18, if_pos c_28, if_pos c_43, if_pos c_51, if_neg c_56, if_pos c_76, if_neg c_121, if_neg c_129] <;> rfl)
              · refine lv_iload hx hb dX6_how_124 (lv_at hl 2 rfl) ?_
                exact kr_pi hx hb hr hlocks dX6_how_126 (by unfold f_howR f_how okHow; simp only [if_true, if_pos c_7, if_pos c_18, if_pos c_28, if_pos c_43, if_pos c_51, if_neg c_56, if_pos c_76, if_pos c_121] <;> rfl)
            · skip
              intro o hk_o ih_71 ls hl 
              refine lv_iload hx hb dX6_how_71 (lv_at hl 0 rfl) ?_
              refine lv_iconst (v := 1) hx hb dX6_how_73 (by decide) ?_
              refine lv_iload_n hx hb dX6_how_74 rfl (lv_at hl 7 rfl) ?_
              refine lv_ishl hx hb dX6_how_75 ?_
              refine lv_icmp_ge (tgt := 119) hx hb dX6_how_76 (by decide) (fun c_76 => absurd c_76 (lps_c hk_o)) (fun c_76 => ?_)
              refine lv_iconst (v := 1) hx hb dX6_how_79 (by decide) ?_
              refine lv_aload_n hx hb dX6_how_80 rfl (lv_at hl 4 rfl) ?_
              refine kb_get (own := RX6) (C := RX6) (T := TX6) (N := 9) (v := .ref (pl 0)) hx hb hts hin6 hown hX hP 0 rfl rfl rfl 7 (by decide) rfl (by decide +kernel) rfl dX6_how_81 ?_
              refine lv_iload_n hx hb dX6_how_84 rfl (lv_at hl 6 rfl) ?_
              refine lv_iload_n hx hb dX6_how_85 rfl (lv_at hl 5 rfl) ?_
              refine lv_iload_n hx hb dX6_how_86 rfl (lv_at hl 7 rfl) ?_
              refine lv_iload hx hb dX6_how_87 (lv_at hl 0 rfl) ?_
              refine kcV_p hx hb hml hown hts hX hP (c_X2_grudgeAfter l G pl vp x2 x1 x3 (nI o)) gX6_how_X2_grudgeAfter 4 rfl rfl rfl hd_X2_grudgeAfter ⟨Nat.le_of_ble_eq_true rfl, Nat.le_of_ble_eq_true rfl⟩ [1] rfl 1 rfl rfl rfl hl.1 rfl rfl (Nat.le_of_ble_eq_true rfl) dX6_how_89 ⟨Nat.zero_le _, Nat.zero_le _⟩ ?_
              refine lv_iadd hx hb dX6_how_92 ?_
              refine lv_iload hx hb dX6_how_93 (lv_at hl 8 rfl) ?_
              refine lv_icmp_ne (tgt := 113) hx hb dX6_how_95 (by decide) (fun c_95 => ?_) (fun c_95 => ?_)
              · refine lv_iinc (v := nI (o + 1)) (lv' := [(9, .int (nI (o + 1))), (8, .int ((itN (s_hw vp x1 x2 x3 x4) (0, 9) o).2)), (7, .int ((itN (s_hw vp x1 x2 x3 x4) (0, 9) o).1)), (6, .int 1), (0, .ref h0), (1, .int x1), (2, .int x2), (3, .int x3), (4, .int x4), (5, .int x5)]) hx hb dX6_how_113 hl (k := 0) rfl (nI_1 _) (by decide) rfl (fun ls hl => ?_)
                refine lv_goto (tgt := 71) hx hb dX6_how_116 (by decide) ?_
                exact ih_71  _ (by rw [itN_s]; simp only [s_hw, if_pos c_7, if_pos c_18, if_pos c_28, if_pos c_43, if_pos c_51, if_neg c_56, if_neg c_76, if_neg c_95]; exact lv_sub hl [0, 1, 2, 3, 4, 5, 6, 7, 8, 9] rfl) 
              · refine lv_iinc (v := ((itN (s_hw vp x1 x2 x3 x4) (0, 9) o).1) + 1) (lv' := [(7, .int (((itN (s_hw vp x1 x2 x3 x4) (0, 9) o).1) + 1)), (9, .int (nI o)), (8, .int ((itN (s_hw vp x1 x2 x3 x4) (0, 9) o).2)), (6, .int 1), (0, .ref h0), (1, .int x1), (2, .int x2), (3, .int x3), (4, .int x4), (5, .int x5)]) hx hb dX6_how_98 hl (k := 2) rfl rfl (by decide) rfl (fun ls hl => ?_)
                refine lv_iload hx hb dX6_how_101 (lv_at hl 2 rfl) ?_
                refine lv_iload hx hb dX6_how_103 (lv_at hl 1 rfl) ?_
                refine kcS_p hx hb hml hown hts hX hP (c_J6_bitCount_0f7a4 l G (nI o)) gX6_how_J6_bitCount_0f7a4 1 rfl rfl rfl hdS_J6_bitCount_0f7a4 ⟨Nat.le_of_ble_eq_true rfl, Nat.le_of_ble_eq_true rfl⟩ (fun q hq => absurd hq List.not_mem_nil) hl.1 rfl rfl (Nat.le_of_ble_eq_true rfl) dX6_how_105 ⟨Nat.zero_le _, Nat.zero_le _⟩ ?_
                refine va_mmin hx hb (hml.trans hl.1.symm) hown (hts (.methodLink RX6 226 Lib.Math.min.name) (by decide +kernel)) (hts (.static Lib.Math.min.name) (by decide +kernel)) (hts (.initialized "java/lang/Math") (by decide +kernel)) (hts (.code Lib.Math.min.name Lib.Math.min.code 2 (some .int)) (by decide +kernel)) (Nat.le_of_ble_eq_true rfl) (Nat.le_of_ble_eq_true rfl) (Nat.zero_le _) (Nat.zero_le _) dX6_how_108 ?_
                refine lv_istore (lv' := [(8, .int (if f_bits (nI o) < (itN (s_hw vp x1 x2 x3 x4) (0, 9) o).2 then f_bits (nI o) else (itN (s_hw vp x1 x2 x3 x4) (0, 9) o).2)), (7, .int (((itN (s_hw vp x1 x2 x3 x4) (0, 9) o).1) + 1)), (9, .int (nI o)), (6, .int 1), (0, .ref h0), (1, .int x1), (2, .int x2), (3, .int x3), (4, .int x4), (5, .int x5)]) hx hb dX6_how_111 hl (by decide) rfl (fun ls hl => ?_)
                refine lv_iinc (v := nI (o + 1)) (lv' := [(9, .int (nI (o + 1))), (8, .int (if f_bits (nI o) < (itN (s_hw vp x1 x2 x3 x4) (0, 9) o).2 then f_bits (nI o) else (itN (s_hw vp x1 x2 x3 x4) (0, 9) o).2)), (7, .int (((itN (s_hw vp x1 x2 x3 x4) (0, 9) o).1) + 1)), (6, .int 1), (0, .ref h0), (1, .int x1), (2, .int x2), (3, .int x3), (4, .int x4), (5, .int x5)]) hx hb dX6_how_113 hl (k := 2) rfl (nI_1 _) (by decide) rfl (fun ls hl => ?_)
                refine lv_goto (tgt := 71) hx hb dX6_how_116 (by decide) ?_
                exact ih_71  _ (by rw [itN_s]; simp only [s_hw, if_pos c_7, if_pos c_18, if_pos c_28, if_pos c_43, if_pos c_51, if_neg c_56, if_neg c_76, if_pos c_95]; exact lv_sub hl [0, 1, 2, 3, 4, 5, 6, 7, 8, 9] rfl) 
