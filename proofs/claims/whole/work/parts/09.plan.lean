/-! the plan, the text, the ways, the rooms -/
def f_X2_clear (w : OV) : OV := setI (setI (setI (setI (setI (setI (setI (setA (setA w 3 (rFill (w.1 3) 0 8)) 7 (rFill (w.1 7) 0 32)) 8 3) 9 0) 10 0) 11 3) 12 1) 13 1) 14 2
def f_X2_addDoor (w : OV) (x y z : Int32) : OV := setI (setA (setA (setA w 0 (rPut (w.1 0) 8 (w.2 9) x)) 1 (rPut (w.1 1) 8 (w.2 9) y)) 2 (rPut (w.1 2) 8 (w.2 9) z)) 9 (w.2 9 + 1)
def f_X2_addLodger (w : OV) (x y z : Int32) : OV := setI (setA (setA (setA w 4 (rPut (w.1 4) 4 (w.2 10) x)) 5 (rPut (w.1 5) 4 (w.2 10) y)) 6 (rPut (w.1 6) 4 (w.2 10) z)) 10 (w.2 10 + 1)
def k_X2_takeRooms (w : OV) (x : Int32) : Bool := if 0 < w.2 9 then false else if fWithin x 2 6 = true then true else false
def f_X2_takeRooms (w : OV) (x : Int32) : OV := if 0 < w.2 9 then w else if fWithin x 2 6 = true then setI w 8 x else w
def k_X2_takeDoor (w : OV) (x y z : Int32) : Bool := if x = y then false else if w.2 8 ≤ x then false else if w.2 8 ≤ y then false else if 8 ≤ z then false else if 8 ≤ w.2 9 then false else true
def f_X2_takeDoor (w : OV) (x y z : Int32) : OV := if x = y then w else if w.2 8 ≤ x then w else if w.2 8 ≤ y then w else if 8 ≤ z then w else if 8 ≤ w.2 9 then w else f_X2_addDoor w x y z
def k_X2_takeLodger (w : OV) (x y z : Int32) : Bool := if 6 ≤ x then false else if fWithin y 1 20 = true then (if 6 ≤ z then false else if 4 ≤ w.2 10 then false else true) else false
def f_X2_takeLodger (w : OV) (x y z : Int32) : OV := if 6 ≤ x then w else if fWithin y 1 20 = true then (if 6 ≤ z then w else if 4 ≤ w.2 10 then w else f_X2_addLodger w x y z) else w
def k_X2_takeGrudge (w : OV) (x y z : Int32) : Bool := if w.2 9 ≤ x then false else if y < w.2 10 then true else false
def f_X2_takeGrudge (w : OV) (x y z : Int32) : OV := if w.2 9 ≤ x then w else if y < w.2 10 then setA w 7 (rPut (w.1 7) 32 (y * 8 + x) z) else w
def k_X2_takePassing (x y : Int32) : Bool := if 10 < x then false else if y ≤ 9 then true else false
def f_X2_takePassing (w : OV) (x y : Int32) : OV := if 10 < x then w else if y ≤ 9 then setI (setI w 11 x) 12 y else w
def k_X2_takeWear (x : Int32) : Bool := if x ≤ 9 then true else false
def f_X2_takeWear (w : OV) (x : Int32) : OV := if x ≤ 9 then setI w 13 x else w
def k_X2_takeOil (x : Int32) : Bool := if fWithin x 1 9 = true then true else false
def f_X2_takeOil (w : OV) (x : Int32) : OV := if fWithin x 1 9 = true then setI w 14 x else w
def k_X2_takeDraught (w : OV) (x y : Int32) : Bool := if w.2 9 ≤ x then false else if y ≤ 20 then true else false
def f_X2_takeDraught (w : OV) (x y : Int32) : OV := if w.2 9 ≤ x then w else if y ≤ 20 then setA w 3 (rPut (w.1 3) 8 x y) else w
def k_X2_take (w : OV) (c t : Int32) (f : Nat → Int32) : Bool :=
  if c = 100 then (if t = 3 then (if k_X2_takeDoor w (rAt f 3 0) (rAt f 3 1) (rAt f 3 2) = true then true else false) else false)
  else if c = 103 then (if t = 3 then (if k_X2_takeGrudge w (rAt f 3 0) (rAt f 3 1) (rAt f 3 2) = true then true else false) else false)
  else if c = 108 then (if t = 3 then (if k_X2_takeLodger w (rAt f 3 0) (rAt f 3 1) (rAt f 3 2) = true then true else false) else false)
  else if c = 111 then (if t = 1 then (if k_X2_takeOil (rAt f 3 0) = true then true else false) else false)
  else if c = 112 then (if t = 2 then (if k_X2_takePassing (rAt f 3 0) (rAt f 3 1) = true then true else false) else false)
  else if c = 114 then (if t = 1 then (if k_X2_takeRooms w (rAt f 3 0) = true then true else false) else false)
  else if c = 117 then (if t = 2 then (if k_X2_takeDraught w (rAt f 3 0) (rAt f 3 1) = true then true else false) else false)
  else if c = 119 then (if t = 1 then (if k_X2_takeWear (rAt f 3 0) = true then true else false) else false)
  else false
def f_X2_take (w : OV) (c t : Int32) (f : Nat → Int32) : OV :=
  if c = 100 then (if t = 3 then f_X2_takeDoor w (rAt f 3 0) (rAt f 3 1) (rAt f 3 2) else w)
  else if c = 103 then (if t = 3 then f_X2_takeGrudge w (rAt f 3 0) (rAt f 3 1) (rAt f 3 2) else w)
  else if c = 108 then (if t = 3 then f_X2_takeLodger w (rAt f 3 0) (rAt f 3 1) (rAt f 3 2) else w)
  else if c = 111 then (if t = 1 then f_X2_takeOil w (rAt f 3 0) else w)
  else if c = 112 then (if t = 2 then f_X2_takePassing w (rAt f 3 0) (rAt f 3 1) else w)
  else if c = 114 then (if t = 1 then f_X2_takeRooms w (rAt f 3 0) else w)
  else if c = 117 then (if t = 2 then f_X2_takeDraught w (rAt f 3 0) (rAt f 3 1) else w)
  else if c = 119 then (if t = 1 then f_X2_takeWear w (rAt f 3 0) else w)
  else w
def p_stD (w : OV) (k : Nat) : Bool := if rAt (w.1 2) 8 (nI k) < w.2 9 then false else true
def p_stL (w : OV) (k : Nat) : Bool := if w.2 8 ≤ rAt (w.1 4) 4 (nI k) then true else if rAt (w.1 6) 4 (nI k) < w.2 8 then false else true
def f_X2_canStand (w : OV) : Bool := if (fnd (p_stD w) (w.2 9).toNatClampNeg).isSome = true then false else if (fnd (p_stL w) (w.2 10).toNatClampNeg).isSome = true then false else if w.2 9 ≤ 0 then false else if w.2 10 ≤ 0 then false else true

def rm_X2_clear : Room := { frames := 1, cells := 0, slots := 0, locals := 22 }
theorem hd_X2_clear : yX2_clear.cls = RX2 ∧ yX2_clear.cls ≠ "java/lang/invoke/MethodHandle" ∧ yX2_clear.cls ≠ "java/lang/invoke/VarHandle" ∧ (parseMethodDescriptor yX2_clear.desc).map (fun d => d.parameters.length) = some 0 := by decide +kernel
set_option maxRecDepth 100000 in
set_option maxHeartbeats 4000000 in
theorem c_X2_clear (l : Launch) (G : GD) (b : Nat → Nat) (w : OV)  : MetS l yX2_clear wsX2_clear rm_X2_clear G [bX2 b G w] [.ref (b 0)] (fun r bc => r = none ∧ bc = [bX2 b G (f_X2_clear w)]) := by
  refine kb_beginS (cc := cX2_clear) (maxL := 1) (ret := none) (by decide) rfl (Nat.le_of_ble_eq_true rfl) ?_
  intro p e s m below meth c hx hb hr hml hown hts hlocks hX H locs hP hD hS ls hl
  have hown : s.vm.findClass RX2 = some m.cls := hown
  have hl : lv_has ls 1 [(0, .ref (b 0))] := hl
  have hin2 : ∀ w ∈ u_ws RX2 TX2 15, w ∈ wsX2_clear := (fun _ h => List.mem_cons_of_mem _ (List.mem_append_right _ (h)))
  refine lv_aload_n hx hb dX2_clear_0 rfl (lv_at hl 0 rfl) ?_
  refine kb_get (own := RX2) (C := RX2) (T := TX2) (N := 15) (v := .ref (b 4)) hx hb hts hin2 hown hX hP 0 rfl rfl rfl 3 (by decide) rfl (by decide +kernel) rfl dX2_clear_1 ?_
  refine lv_iconst (v := 0) hx hb dX2_clear_4 (by decide) ?_
  refine kcN_c hx hb hml hown hts hX hP hD hS (c_X6_fill l G (b 4) 8 (w.1 3) 0 (by decide)) gX2_clear_X6_fill_n52 (by decide +kernel) (by decide +kernel) (by decide +kernel) 2 rfl rfl rfl hdS_X6_fill ⟨Nat.le_of_ble_eq_true rfl, Nat.le_of_ble_eq_true rfl⟩ 0 4 rfl rfl (bX2_A3 b G w (rFill (w.1 3) 0 8)) hl.1 rfl rfl (Nat.le_of_ble_eq_true rfl) dX2_clear_5 ⟨Nat.zero_le _, Nat.zero_le _⟩ (fun H locs hP hD hS => ?_)
  have hP : PP G [bX2 b G (setA w 3 (rFill (w.1 3) 0 8))] H := hP
  have hD : DD (AA (List.flatten [bX2 b G w])) [bX2 b G (setA w 3 (rFill (w.1 3) 0 8))] := D_re hD (adc (bX2_ad _ _ _ _) adn)
  refine lv_aload_n hx hb dX2_clear_8 rfl (lv_at hl 0 rfl) ?_
  refine kb_get (own := RX2) (C := RX2) (T := TX2) (N := 15) (v := .ref (b 8)) hx hb hts hin2 hown hX hP 0 rfl rfl rfl 7 (by decide) rfl (by decide +kernel) rfl dX2_clear_9 ?_
  refine lv_iconst (v := 0) hx hb dX2_clear_12 (by decide) ?_
  refine kcN_c hx hb hml hown hts hX hP hD hS (c_X6_fill l G (b 8) 32 (w.1 7) 0 (by decide)) gX2_clear_X6_fill_n52 (by decide +kernel) (by decide +kernel) (by decide +kernel) 2 rfl rfl rfl hdS_X6_fill ⟨Nat.le_of_ble_eq_true rfl, Nat.le_of_ble_eq_true rfl⟩ 0 8 rfl rfl (bX2_A7 b G (setA w 3 (rFill (w.1 3) 0 8)) (rFill (w.1 7) 0 32)) hl.1 rfl rfl (Nat.le_of_ble_eq_true rfl) dX2_clear_13 ⟨Nat.zero_le _, Nat.zero_le _⟩ (fun H locs hP hD hS => ?_)
  have hP : PP G [bX2 b G (setA (setA w 3 (rFill (w.1 3) 0 8)) 7 (rFill (w.1 7) 0 32))] H := hP
  have hD : DD (AA (List.flatten [bX2 b G w])) [bX2 b G (setA (setA w 3 (rFill (w.1 3) 0 8)) 7 (rFill (w.1 7) 0 32))] := D_re hD (adc (bX2_ad _ _ _ _) adn)
  refine lv_aload_n hx hb dX2_clear_16 rfl (lv_at hl 0 rfl) ?_
  refine lv_iconst (v := 3) hx hb dX2_clear_17 (by decide) ?_
  refine kb_put (own := RX2) (C := RX2) (T := TX2) (N := 15) hx hb hts hin2 tyX2 tyX2_ok nmX2 (ty := .int) hown hX hP hD hS 0 rfl rfl rfl 8 (by decide) rfl (by decide +kernel) (by decide +kernel) rfl rfl (Nat.le_of_ble_eq_true rfl) dX2_clear_18 (bX2_I8 b G (setA (setA w 3 (rFill (w.1 3) 0 8)) 7 (rFill (w.1 7) 0 32)) 3) (fun H locs hP hD hS => ?_)
  have hP : PP G [bX2 b G (setI (setA (setA w 3 (rFill (w.1 3) 0 8)) 7 (rFill (w.1 7) 0 32)) 8 3)] H := hP
  have hD : DD (AA (List.flatten [bX2 b G w])) [bX2 b G (setI (setA (setA w 3 (rFill (w.1 3) 0 8)) 7 (rFill (w.1 7) 0 32)) 8 3)] := D_re hD (adc (bX2_ad _ _ _ _) adn)
  refine lv_aload_n hx hb dX2_clear_21 rfl (lv_at hl 0 rfl) ?_
  refine lv_iconst (v := 0) hx hb dX2_clear_22 (by decide) ?_
  refine kb_put (own := RX2) (C := RX2) (T := TX2) (N := 15) hx hb hts hin2 tyX2 tyX2_ok nmX2 (ty := .int) hown hX hP hD hS 0 rfl rfl rfl 9 (by decide) rfl (by decide +kernel) (by decide +kernel) rfl rfl (Nat.le_of_ble_eq_true rfl) dX2_clear_23 (bX2_I9 b G (setI (setA (setA w 3 (rFill (w.1 3) 0 8)) 7 (rFill (w.1 7) 0 32)) 8 3) 0) (fun H locs hP hD hS => ?_)
  have hP : PP G [bX2 b G (setI (setI (setA (setA w 3 (rFill (w.1 3) 0 8)) 7 (rFill (w.1 7) 0 32)) 8 3) 9 0)] H := hP
  have hD : DD (AA (List.flatten [bX2 b G w])) [bX2 b G (setI (setI (setA (setA w 3 (rFill (w.1 3) 0 8)) 7 (rFill (w.1 7) 0 32)) 8 3) 9 0)] := D_re hD (adc (bX2_ad _ _ _ _) adn)
  refine lv_aload_n hx hb dX2_clear_26 rfl (lv_at hl 0 rfl) ?_
  refine lv_iconst (v := 0) hx hb dX2_clear_27 (by decide) ?_
  refine kb_put (own := RX2) (C := RX2) (T := TX2) (N := 15) hx hb hts hin2 tyX2 tyX2_ok nmX2 (ty := .int) hown hX hP hD hS 0 rfl rfl rfl 10 (by decide) rfl (by decide +kernel) (by decide +kernel) rfl rfl (Nat.le_of_ble_eq_true rfl) dX2_clear_28 (bX2_I10 b G (setI (setI (setA (setA w 3 (rFill (w.1 3) 0 8)) 7 (rFill (w.1 7) 0 32)) 8 3) 9 0) 0) (fun H locs hP hD hS => ?_)
  have hP : PP G [bX2 b G (setI (setI (setI (setA (setA w 3 (rFill (w.1 3) 0 8)) 7 (rFill (w.1 7) 0 32)) 8 3) 9 0) 10 0)] H := hP
  have hD : DD (AA (List.flatten [bX2 b G w])) [bX2 b G (setI (setI (setI (setA (setA w 3 (rFill (w.1 3) 0 8)) 7 (rFill (w.1 7) 0 32)) 8 3) 9 0) 10 0)] := D_re hD (adc (bX2_ad _ _ _ _) adn)
  refine lv_aload_n hx hb dX2_clear_31 rfl (lv_at hl 0 rfl) ?_
  refine lv_iconst (v := 3) hx hb dX2_clear_32 (by decide) ?_
  refine kb_put (own := RX2) (C := RX2) (T := TX2) (N := 15) hx hb hts hin2 tyX2 tyX2_ok nmX2 (ty := .int) hown hX hP hD hS 0 rfl rfl rfl 11 (by decide) rfl (by decide +kernel) (by decide +kernel) rfl rfl (Nat.le_of_ble_eq_true rfl) dX2_clear_33 (bX2_I11 b G (setI (setI (setI (setA (setA w 3 (rFill (w.1 3) 0 8)) 7 (rFill (w.1 7) 0 32)) 8 3) 9 0) 10 0) 3) (fun H locs hP hD hS => ?_)
  have hP : PP G [bX2 b G (setI (setI (setI (setI (setA (setA w 3 (rFill (w.1 3) 0 8)) 7 (rFill (w.1 7) 0 32)) 8 3) 9 0) 10 0) 11 3)] H := hP
  have hD : DD (AA (List.flatten [bX2 b G w])) [bX2 b G (setI (setI (setI (setI (setA (setA w 3 (rFill (w.1 3) 0 8)) 7 (rFill (w.1 7) 0 32)) 8 3) 9 0) 10 0) 11 3)] := D_re hD (adc (bX2_ad _ _ _ _) adn)
  refine lv_aload_n hx hb dX2_clear_36 rfl (lv_at hl 0 rfl) ?_
  refine lv_iconst (v := 1) hx hb dX2_clear_37 (by decide) ?_
  refine kb_put (own := RX2) (C := RX2) (T := TX2) (N := 15) hx hb hts hin2 tyX2 tyX2_ok nmX2 (ty := .int) hown hX hP hD hS 0 rfl rfl rfl 12 (by decide) rfl (by decide +kernel) (by decide +kernel) rfl rfl (Nat.le_of_ble_eq_true rfl) dX2_clear_38 (bX2_I12 b G (setI (setI (setI (setI (setA (setA w 3 (rFill (w.1 3) 0 8)) 7 (rFill (w.1 7) 0 32)) 8 3) 9 0) 10 0) 11 3) 1) (fun H locs hP hD hS => ?_)
  have hP : PP G [bX2 b G (setI (setI (setI (setI (setI (setA (setA w 3 (rFill (w.1 3) 0 8)) 7 (rFill (w.1 7) 0 32)) 8 3) 9 0) 10 0) 11 3) 12 1)] H := hP
  have hD : DD (AA (List.flatten [bX2 b G w])) [bX2 b G (setI (setI (setI (setI (setI (setA (setA w 3 (rFill (w.1 3) 0 8)) 7 (rFill (w.1 7) 0 32)) 8 3) 9 0) 10 0) 11 3) 12 1)] := D_re hD (adc (bX2_ad _ _ _ _) adn)
  refine lv_aload_n hx hb dX2_clear_41 rfl (lv_at hl 0 rfl) ?_
  refine lv_iconst (v := 1) hx hb dX2_clear_42 (by decide) ?_
  refine kb_put (own := RX2) (C := RX2) (T := TX2) (N := 15) hx hb hts hin2 tyX2 tyX2_ok nmX2 (ty := .int) hown hX hP hD hS 0 rfl rfl rfl 13 (by decide) rfl (by decide +kernel) (by decide +kernel) rfl rfl (Nat.le_of_ble_eq_true rfl) dX2_clear_43 (bX2_I13 b G (setI (setI (setI (setI (setI (setA (setA w 3 (rFill (w.1 3) 0 8)) 7 (rFill (w.1 7) 0 32)) 8 3) 9 0) 10 0) 11 3) 12 1) 1) (fun H locs hP hD hS => ?_)
  have hP : PP G [bX2 b G (setI (setI (setI (setI (setI (setI (setA (setA w 3 (rFill (w.1 3) 0 8)) 7 (rFill (w.1 7) 0 32)) 8 3) 9 0) 10 0) 11 3) 12 1) 13 1)] H := hP
  have hD : DD (AA (List.flatten [bX2 b G w])) [bX2 b G (setI (setI (setI (setI (setI (setI (setA (setA w 3 (rFill (w.1 3) 0 8)) 7 (rFill (w.1 7) 0 32)) 8 3) 9 0) 10 0) 11 3) 12 1) 13 1)] := D_re hD (adc (bX2_ad _ _ _ _) adn)
  refine lv_aload_n hx hb dX2_clear_46 rfl (lv_at hl 0 rfl) ?_
  refine lv_iconst (v := 2) hx hb dX2_clear_47 (by decide) ?_
  refine kb_put (own := RX2) (C := RX2) (T := TX2) (N := 15) hx hb hts hin2 tyX2 tyX2_ok nmX2 (ty := .int) hown hX hP hD hS 0 rfl rfl rfl 14 (by decide) rfl (by decide +kernel) (by decide +kernel) rfl rfl (Nat.le_of_ble_eq_true rfl) dX2_clear_48 (bX2_I14 b G (setI (setI (setI (setI (setI (setI (setA (setA w 3 (rFill (w.1 3) 0 8)) 7 (rFill (w.1 7) 0 32)) 8 3) 9 0) 10 0) 11 3) 12 1) 13 1) 2) (fun H locs hP hD hS => ?_)
  have hP : PP G [bX2 b G (setI (setI (setI (setI (setI (setI (setI (setA (setA w 3 (rFill (w.1 3) 0 8)) 7 (rFill (w.1 7) 0 32)) 8 3) 9 0) 10 0) 11 3) 12 1) 13 1) 14 2)] H := hP
  have hD : DD (AA (List.flatten [bX2 b G w])) [bX2 b G (setI (setI (setI (setI (setI (setI (setI (setA (setA w 3 (rFill (w.1 3) 0 8)) 7 (rFill (w.1 7) 0 32)) 8 3) 9 0) 10 0) 11 3) 12 1) 13 1) 14 2)] := D_re hD (adc (bX2_ad _ _ _ _) adn)
  have hP : PP G [bX2 b G (f_X2_clear w)] H := hP
  exact kr_sv hx hb hr hlocks dX2_clear_51 hP hS (sameAd_cons (bX2_ad _ _ _ _) sameAd_nil) ⟨rfl, rfl⟩

def rm_X2_addDoor : Room := { frames := 1, cells := 0, slots := 0, locals := 22 }
theorem hd_X2_addDoor : yX2_addDoor.cls = RX2 ∧ yX2_addDoor.cls ≠ "java/lang/invoke/MethodHandle" ∧ yX2_addDoor.cls ≠ "java/lang/invoke/VarHandle" ∧ (parseMethodDescriptor yX2_addDoor.desc).map (fun d => d.parameters.length) = some 3 := by decide +kernel
set_option maxRecDepth 100000 in
set_option maxHeartbeats 4000000 in
theorem c_X2_addDoor (l : Launch) (G : GD) (b : Nat → Nat) (w : OV) (x1 : Int32) (x2 : Int32) (x3 : Int32)  : MetS l yX2_addDoor wsX2_addDoor rm_X2_addDoor G [bX2 b G w] [.ref (b 0), .int x1, .int x2, .int x3] (fun r bc => r = none ∧ bc = [bX2 b G (f_X2_addDoor w x1 x2 x3)]) := by
  refine kb_beginS (cc := cX2_addDoor) (maxL := 4) (ret := none) (by decide) rfl (Nat.le_of_ble_eq_true rfl) ?_
  intro p e s m below meth c hx hb hr hml hown hts hlocks hX H locs hP hD hS ls hl
  have hown : s.vm.findClass RX2 = some m.cls := hown
  have hl : lv_has ls 4 [(0, .ref (b 0)), (1, .int x1), (2, .int x2), (3, .int x3)] := hl
  have hin2 : ∀ w ∈ u_ws RX2 TX2 15, w ∈ wsX2_addDoor := (fun _ h => List.mem_cons_of_mem _ (List.mem_append_right _ (h)))
  refine lv_aload_n hx hb dX2_addDoor_0 rfl (lv_at hl 0 rfl) ?_
  refine kb_get (own := RX2) (C := RX2) (T := TX2) (N := 15) (v := .ref (b 1)) hx hb hts hin2 hown hX hP 0 rfl rfl rfl 0 (by decide) rfl (by decide +kernel) rfl dX2_addDoor_1 ?_
  refine lv_aload_n hx hb dX2_addDoor_4 rfl (lv_at hl 0 rfl) ?_
  refine kb_get (own := RX2) (C := RX2) (T := TX2) (N := 15) (v := .int (w.2 9)) hx hb hts hin2 hown hX hP 0 rfl rfl rfl 9 (by decide) rfl (by decide +kernel) rfl dX2_addDoor_5 ?_
  refine lv_iload_n hx hb dX2_addDoor_8 rfl (lv_at hl 1 rfl) ?_
  refine kcN_c hx hb hml hown hts hX hP hD hS (c_X6_put l G (b 1) 8 (w.1 0) (w.2 9) x1 (by decide)) gX2_addDoor_X6_put_n62 (by decide +kernel) (by decide +kernel) (by decide +kernel) 3 rfl rfl rfl hdS_X6_put ⟨Nat.le_of_ble_eq_true rfl, Nat.le_of_ble_eq_true rfl⟩ 0 1 rfl rfl (bX2_A0 b G w (rPut (w.1 0) 8 (w.2 9) x1)) hl.1 rfl rfl (Nat.le_of_ble_eq_true rfl) dX2_addDoor_9 ⟨Nat.zero_le _, Nat.zero_le _⟩ (fun H locs hP hD hS => ?_)
  have hP : PP G [bX2 b G (setA w 0 (rPut (w.1 0) 8 (w.2 9) x1))] H := hP
  have hD : DD (AA (List.flatten [bX2 b G w])) [bX2 b G (setA w 0 (rPut (w.1 0) 8 (w.2 9) x1))] := D_re hD (adc (bX2_ad _ _ _ _) adn)
  refine lv_aload_n hx hb dX2_addDoor_12 rfl (lv_at hl 0 rfl) ?_
  refine kb_get (own := RX2) (C := RX2) (T := TX2) (N := 15) (v := .ref (b 2)) hx hb hts hin2 hown hX hP 0 rfl rfl rfl 1 (by decide) rfl (by decide +kernel) rfl dX2_addDoor_13 ?_
  refine lv_aload_n hx hb dX2_addDoor_16 rfl (lv_at hl 0 rfl) ?_
  refine kb_get (own := RX2) (C := RX2) (T := TX2) (N := 15) (v := .int (w.2 9)) hx hb hts hin2 hown hX hP 0 rfl rfl rfl 9 (by decide) rfl (by decide +kernel) rfl dX2_addDoor_17 ?_
  refine lv_iload_n hx hb dX2_addDoor_20 rfl (lv_at hl 2 rfl) ?_
  refine kcN_c hx hb hml hown hts hX hP hD hS (c_X6_put l G (b 2) 8 (w.1 1) (w.2 9) x2 (by decide)) gX2_addDoor_X6_put_n62 (by decide +kernel) (by decide +kernel) (by decide +kernel) 3 rfl rfl rfl hdS_X6_put ⟨Nat.le_of_ble_eq_true rfl, Nat.le_of_ble_eq_true rfl⟩ 0 2 rfl rfl (bX2_A1 b G (setA w 0 (rPut (w.1 0) 8 (w.2 9) x1)) (rPut (w.1 1) 8 (w.2 9) x2)) hl.1 rfl rfl (Nat.le_of_ble_eq_true rfl) dX2_addDoor_21 ⟨Nat.zero_le _, Nat.zero_le _⟩ (fun H locs hP hD hS => ?_)
  have hP : PP G [bX2 b G (setA (setA w 0 (rPut (w.1 0) 8 (w.2 9) x1)) 1 (rPut (w.1 1) 8 (w.2 9) x2))] H := hP
  have hD : DD (AA (List.flatten [bX2 b G w])) [bX2 b G (setA (setA w 0 (rPut (w.1 0) 8 (w.2 9) x1)) 1 (rPut (w.1 1) 8 (w.2 9) x2))] := D_re hD (adc (bX2_ad _ _ _ _) adn)
  refine lv_aload_n hx hb dX2_addDoor_24 rfl (lv_at hl 0 rfl) ?_
  refine kb_get (own := RX2) (C := RX2) (T := TX2) (N := 15) (v := .ref (b 3)) hx hb hts hin2 hown hX hP 0 rfl rfl rfl 2 (by decide) rfl (by decide +kernel) rfl dX2_addDoor_25 ?_
  refine lv_aload_n hx hb dX2_addDoor_28 rfl (lv_at hl 0 rfl) ?_
  refine kb_get (own := RX2) (C := RX2) (T := TX2) (N := 15) (v := .int (w.2 9)) hx hb hts hin2 hown hX hP 0 rfl rfl rfl 9 (by decide) rfl (by decide +kernel) rfl dX2_addDoor_29 ?_
  refine lv_iload_n hx hb dX2_addDoor_32 rfl (lv_at hl 3 rfl) ?_
  refine kcN_c hx hb hml hown hts hX hP hD hS (c_X6_put l G (b 3) 8 (w.1 2) (w.2 9) x3 (by decide)) gX2_addDoor_X6_put_n62 (by decide +kernel) (by decide +kernel) (by decide +kernel) 3 rfl rfl rfl hdS_X6_put ⟨Nat.le_of_ble_eq_true rfl, Nat.le_of_ble_eq_true rfl⟩ 0 3 rfl rfl (bX2_A2 b G (setA (setA w 0 (rPut (w.1 0) 8 (w.2 9) x1)) 1 (rPut (w.1 1) 8 (w.2 9) x2)) (rPut (w.1 2) 8 (w.2 9) x3)) hl.1 rfl rfl (Nat.le_of_ble_eq_true rfl) dX2_addDoor_33 ⟨Nat.zero_le _, Nat.zero_le _⟩ (fun H locs hP hD hS => ?_)
  have hP : PP G [bX2 b G (setA (setA (setA w 0 (rPut (w.1 0) 8 (w.2 9) x1)) 1 (rPut (w.1 1) 8 (w.2 9) x2)) 2 (rPut (w.1 2) 8 (w.2 9) x3))] H := hP
  have hD : DD (AA (List.flatten [bX2 b G w])) [bX2 b G (setA (setA (setA w 0 (rPut (w.1 0) 8 (w.2 9) x1)) 1 (rPut (w.1 1) 8 (w.2 9) x2)) 2 (rPut (w.1 2) 8 (w.2 9) x3))] := D_re hD (adc (bX2_ad _ _ _ _) adn)
  refine lv_aload_n hx hb dX2_addDoor_36 rfl (lv_at hl 0 rfl) ?_
  refine lv_dup hx hb dX2_addDoor_37 rfl ?_
  refine kb_get (own := RX2) (C := RX2) (T := TX2) (N := 15) (v := .int (w.2 9)) hx hb hts hin2 hown hX hP 0 rfl rfl rfl 9 (by decide) rfl (by decide +kernel) rfl dX2_addDoor_38 ?_
  refine lv_iconst (v := 1) hx hb dX2_addDoor_41 (by decide) ?_
  refine lv_iadd hx hb dX2_addDoor_42 ?_
  refine kb_put (own := RX2) (C := RX2) (T := TX2) (N := 15) hx hb hts hin2 tyX2 tyX2_ok nmX2 (ty := .int) hown hX hP hD hS 0 rfl rfl rfl 9 (by decide) rfl (by decide +kernel) (by decide +kernel) rfl rfl (Nat.le_of_ble_eq_true rfl) dX2_addDoor_43 (bX2_I9 b G (setA (setA (setA w 0 (rPut (w.1 0) 8 (w.2 9) x1)) 1 (rPut (w.1 1) 8 (w.2 9) x2)) 2 (rPut (w.1 2) 8 (w.2 9) x3)) ((w.2 9) + 1)) (fun H locs hP hD hS => ?_)
  have hP : PP G [bX2 b G (setI (setA (setA (setA w 0 (rPut (w.1 0) 8 (w.2 9) x1)) 1 (rPut (w.1 1) 8 (w.2 9) x2)) 2 (rPut (w.1 2) 8 (w.2 9) x3)) 9 ((w.2 9) + 1))] H := hP
  have hD : DD (AA (List.flatten [bX2 b G w])) [bX2 b G (setI (setA (setA (setA w 0 (rPut (w.1 0) 8 (w.2 9) x1)) 1 (rPut (w.1 1) 8 (w.2 9) x2)) 2 (rPut (w.1 2) 8 (w.2 9) x3)) 9 ((w.2 9) + 1))] := D_re hD (adc (bX2_ad _ _ _ _) adn)
  have hP : PP G [bX2 b G (f_X2_addDoor w x1 x2 x3)] H := hP
  exact kr_sv hx hb hr hlocks dX2_addDoor_46 hP hS (sameAd_cons (bX2_ad _ _ _ _) sameAd_nil) ⟨rfl, rfl⟩

def rm_X2_addLodger : Room := { frames := 1, cells := 0, slots := 0, locals := 22 }
theorem hd_X2_addLodger : yX2_addLodger.cls = RX2 ∧ yX2_addLodger.cls ≠ "java/lang/invoke/MethodHandle" ∧ yX2_addLodger.cls ≠ "java/lang/invoke/VarHandle" ∧ (parseMethodDescriptor yX2_addLodger.desc).map (fun d => d.parameters.length) = some 3 := by decide +kernel
set_option maxRecDepth 100000 in
set_option maxHeartbeats 4000000 in
theorem c_X2_addLodger (l : Launch) (G : GD) (b : Nat → Nat) (w : OV) (x1 : Int32) (x2 : Int32) (x3 : Int32)  : MetS l yX2_addLodger wsX2_addLodger rm_X2_addLodger G [bX2 b G w] [.ref (b 0), .int x1, .int x2, .int x3] (fun r bc => r = none ∧ bc = [bX2 b G (f_X2_addLodger w x1 x2 x3)]) := by
  refine kb_beginS (cc := cX2_addLodger) (maxL := 4) (ret := none) (by decide) rfl (Nat.le_of_ble_eq_true rfl) ?_
  intro p e s m below meth c hx hb hr hml hown hts hlocks hX H locs hP hD hS ls hl
  have hown : s.vm.findClass RX2 = some m.cls := hown
  have hl : lv_has ls 4 [(0, .ref (b 0)), (1, .int x1), (2, .int x2), (3, .int x3)] := hl
  have hin2 : ∀ w ∈ u_ws RX2 TX2 15, w ∈ wsX2_addLodger := (fun _ h => List.mem_cons_of_mem _ (List.mem_append_right _ (h)))
  refine lv_aload_n hx hb dX2_addLodger_0 rfl (lv_at hl 0 rfl) ?_
  refine kb_get (own := RX2) (C := RX2) (T := TX2) (N := 15) (v := .ref (b 5)) hx hb hts hin2 hown hX hP 0 rfl rfl rfl 4 (by decide) rfl (by decide +kernel) rfl dX2_addLodger_1 ?_
  refine lv_aload_n hx hb dX2_addLodger_4 rfl (lv_at hl 0 rfl) ?_
  refine kb_get (own := RX2) (C := RX2) (T := TX2) (N := 15) (v := .int (w.2 10)) hx hb hts hin2 hown hX hP 0 rfl rfl rfl 10 (by decide) rfl (by decide +kernel) rfl dX2_addLodger_5 ?_
  refine lv_iload_n hx hb dX2_addLodger_8 rfl (lv_at hl 1 rfl) ?_
  refine kcN_c hx hb hml hown hts hX hP hD hS (c_X6_put l G (b 5) 4 (w.1 4) (w.2 10) x1 (by decide)) gX2_addLodger_X6_put_n62 (by decide +kernel) (by decide +kernel) (by decide +kernel) 3 rfl rfl rfl hdS_X6_put ⟨Nat.le_of_ble_eq_true rfl, Nat.le_of_ble_eq_true rfl⟩ 0 5 rfl rfl (bX2_A4 b G w (rPut (w.1 4) 4 (w.2 10) x1)) hl.1 rfl rfl (Nat.le_of_ble_eq_true rfl) dX2_addLodger_9 ⟨Nat.zero_le _, Nat.zero_le _⟩ (fun H locs hP hD hS => ?_)
  have hP : PP G [bX2 b G (setA w 4 (rPut (w.1 4) 4 (w.2 10) x1))] H := hP
  have hD : DD (AA (List.flatten [bX2 b G w])) [bX2 b G (setA w 4 (rPut (w.1 4) 4 (w.2 10) x1))] := D_re hD (adc (bX2_ad _ _ _ _) adn)
  refine lv_aload_n hx hb dX2_addLodger_12 rfl (lv_at hl 0 rfl) ?_
  refine kb_get (own := RX2) (C := RX2) (T := TX2) (N := 15) (v := .ref (b 6)) hx hb hts hin2 hown hX hP 0 rfl rfl rfl 5 (by decide) rfl (by decide +kernel) rfl dX2_addLodger_13 ?_
  refine lv_aload_n hx hb dX2_addLodger_16 rfl (lv_at hl 0 rfl) ?_
  refine kb_get (own := RX2) (C := RX2) (T := TX2) (N := 15) (v := .int (w.2 10)) hx hb hts hin2 hown hX hP 0 rfl rfl rfl 10 (by decide) rfl (by decide +kernel) rfl dX2_addLodger_17 ?_
  refine lv_iload_n hx hb dX2_addLodger_20 rfl (lv_at hl 2 rfl) ?_
  refine kcN_c hx hb hml hown hts hX hP hD hS (c_X6_put l G (b 6) 4 (w.1 5) (w.2 10) x2 (by decide)) gX2_addLodger_X6_put_n62 (by decide +kernel) (by decide +kernel) (by decide +kernel) 3 rfl rfl rfl hdS_X6_put ⟨Nat.le_of_ble_eq_true rfl, Nat.le_of_ble_eq_true rfl⟩ 0 6 rfl rfl (bX2_A5 b G (setA w 4 (rPut (w.1 4) 4 (w.2 10) x1)) (rPut (w.1 5) 4 (w.2 10) x2)) hl.1 rfl rfl (Nat.le_of_ble_eq_true rfl) dX2_addLodger_21 ⟨Nat.zero_le _, Nat.zero_le _⟩ (fun H locs hP hD hS => ?_)
  have hP : PP G [bX2 b G (setA (setA w 4 (rPut (w.1 4) 4 (w.2 10) x1)) 5 (rPut (w.1 5) 4 (w.2 10) x2))] H := hP
  have hD : DD (AA (List.flatten [bX2 b G w])) [bX2 b G (setA (setA w 4 (rPut (w.1 4) 4 (w.2 10) x1)) 5 (rPut (w.1 5) 4 (w.2 10) x2))] := D_re hD (adc (bX2_ad _ _ _ _) adn)
  refine lv_aload_n hx hb dX2_addLodger_24 rfl (lv_at hl 0 rfl) ?_
  refine kb_get (own := RX2) (C := RX2) (T := TX2) (N := 15) (v := .ref (b 7)) hx hb hts hin2 hown hX hP 0 rfl rfl rfl 6 (by decide) rfl (by decide +kernel) rfl dX2_addLodger_25 ?_
  refine lv_aload_n hx hb dX2_addLodger_28 rfl (lv_at hl 0 rfl) ?_
  refine kb_get (own := RX2) (C := RX2) (T := TX2) (N := 15) (v := .int (w.2 10)) hx hb hts hin2 hown hX hP 0 rfl rfl rfl 10 (by decide) rfl (by decide +kernel) rfl dX2_addLodger_29 ?_
  refine lv_iload_n hx hb dX2_addLodger_32 rfl (lv_at hl 3 rfl) ?_
  refine kcN_c hx hb hml hown hts hX hP hD hS (c_X6_put l G (b 7) 4 (w.1 6) (w.2 10) x3 (by decide)) gX2_addLodger_X6_put_n62 (by decide +kernel) (by decide +kernel) (by decide +kernel) 3 rfl rfl rfl hdS_X6_put ⟨Nat.le_of_ble_eq_true rfl, Nat.le_of_ble_eq_true rfl⟩ 0 7 rfl rfl (bX2_A6 b G (setA (setA w 4 (rPut (w.1 4) 4 (w.2 10) x1)) 5 (rPut (w.1 5) 4 (w.2 10) x2)) (rPut (w.1 6) 4 (w.2 10) x3)) hl.1 rfl rfl (Nat.le_of_ble_eq_true rfl) dX2_addLodger_33 ⟨Nat.zero_le _, Nat.zero_le _⟩ (fun H locs hP hD hS => ?_)
  have hP : PP G [bX2 b G (setA (setA (setA w 4 (rPut (w.1 4) 4 (w.2 10) x1)) 5 (rPut (w.1 5) 4 (w.2 10) x2)) 6 (rPut (w.1 6) 4 (w.2 10) x3))] H := hP
  have hD : DD (AA (List.flatten [bX2 b G w])) [bX2 b G (setA (setA (setA w 4 (rPut (w.1 4) 4 (w.2 10) x1)) 5 (rPut (w.1 5) 4 (w.2 10) x2)) 6 (rPut (w.1 6) 4 (w.2 10) x3))] := D_re hD (adc (bX2_ad _ _ _ _) adn)
  refine lv_aload_n hx hb dX2_addLodger_36 rfl (lv_at hl 0 rfl) ?_
  refine lv_dup hx hb dX2_addLodger_37 rfl ?_
  refine kb_get (own := RX2) (C := RX2) (T := TX2) (N := 15) (v := .int (w.2 10)) hx hb hts hin2 hown hX hP 0 rfl rfl rfl 10 (by decide) rfl (by decide +kernel) rfl dX2_addLodger_38 ?_
  refine lv_iconst (v := 1) hx hb dX2_addLodger_41 (by decide) ?_
  refine lv_iadd hx hb dX2_addLodger_42 ?_
  refine kb_put (own := RX2) (C := RX2) (T := TX2) (N := 15) hx hb hts hin2 tyX2 tyX2_ok nmX2 (ty := .int) hown hX hP hD hS 0 rfl rfl rfl 10 (by decide) rfl (by decide +kernel) (by decide +kernel) rfl rfl (Nat.le_of_ble_eq_true rfl) dX2_addLodger_43 (bX2_I10 b G (setA (setA (setA w 4 (rPut (w.1 4) 4 (w.2 10) x1)) 5 (rPut (w.1 5) 4 (w.2 10) x2)) 6 (rPut (w.1 6) 4 (w.2 10) x3)) ((w.2 10) + 1)) (fun H locs hP hD hS => ?_)
  have hP : PP G [bX2 b G (setI (setA (setA (setA w 4 (rPut (w.1 4) 4 (w.2 10) x1)) 5 (rPut (w.1 5) 4 (w.2 10) x2)) 6 (rPut (w.1 6) 4 (w.2 10) x3)) 10 ((w.2 10) + 1))] H := hP
  have hD : DD (AA (List.flatten [bX2 b G w])) [bX2 b G (setI (setA (setA (setA w 4 (rPut (w.1 4) 4 (w.2 10) x1)) 5 (rPut (w.1 5) 4 (w.2 10) x2)) 6 (rPut (w.1 6) 4 (w.2 10) x3)) 10 ((w.2 10) + 1))] := D_re hD (adc (bX2_ad _ _ _ _) adn)
  have hP : PP G [bX2 b G (f_X2_addLodger w x1 x2 x3)] H := hP
  exact kr_sv hx hb hr hlocks dX2_addLodger_46 hP hS (sameAd_cons (bX2_ad _ _ _ _) sameAd_nil) ⟨rfl, rfl⟩

def rm_X2_takeRooms : Room := { frames := 1, cells := 0, slots := 0, locals := 22 }
theorem hd_X2_takeRooms : yX2_takeRooms.cls = RX2 ∧ yX2_takeRooms.cls ≠ "java/lang/invoke/MethodHandle" ∧ yX2_takeRooms.cls ≠ "java/lang/invoke/VarHandle" ∧ (parseMethodDescriptor yX2_takeRooms.desc).map (fun d => d.parameters.length) = some 1 := by decide +kernel
set_option maxRecDepth 100000 in
set_option maxHeartbeats 4000000 in
theorem c_X2_takeRooms (l : Launch) (G : GD) (b : Nat → Nat) (w : OV) (x1 : Int32)  : MetS l yX2_takeRooms wsX2_takeRooms rm_X2_takeRooms G [bX2 b G w] [.ref (b 0), .int x1] (fun r bc => r = some (.int (b2i (k_X2_takeRooms w x1))) ∧ bc = [bX2 b G (f_X2_takeRooms w x1)]) := by
  refine kb_beginS (cc := cX2_takeRooms) (maxL := 2) (ret := (some .boolean)) (by decide) rfl (Nat.le_of_ble_eq_true rfl) ?_
  intro p e s m below meth c hx hb hr hml hown hts hlocks hX H locs hP hD hS ls hl
  have hown : s.vm.findClass RX2 = some m.cls := hown
  have hl : lv_has ls 2 [(0, .ref (b 0)), (1, .int x1)] := hl
  have hin2 : ∀ w ∈ u_ws RX2 TX2 15, w ∈ wsX2_takeRooms := (fun _ h => List.mem_cons_of_mem _ (List.mem_append_right _ (h)))
  refine lv_aload_n hx hb dX2_takeRooms_0 rfl (lv_at hl 0 rfl) ?_
  refine kb_get (own := RX2) (C := RX2) (T := TX2) (N := 15) (v := .int (w.2 9)) hx hb hts hin2 hown hX hP 0 rfl rfl rfl 9 (by decide) rfl (by decide +kernel) rfl dX2_takeRooms_1 ?_
  refine lv_if_gt (tgt := 17) hx hb dX2_takeRooms_4 (by decide) (fun c_4 => ?_) (fun c_4 => ?_)
  · refine lv_iconst (v := 0) hx hb dX2_takeRooms_17 (by decide) ?_
    have hP : PP G [bX2 b G (f_X2_takeRooms w x1)] H := by
      have e0 : (f_X2_takeRooms w x1) = w := by simp only [f_X2_takeRooms, if_pos c_4] <;> rfl
      rw [e0]
      exact hP
    exact kr_sz hx hb hr hlocks dX2_takeRooms_18 rfl hP hS (sameAd_cons (bX2_ad _ _ _ _) sameAd_nil) ⟨by simp only [k_X2_takeRooms, if_pos c_4] <;> rfl, rfl⟩
  · refine lv_iload_n hx hb dX2_takeRooms_7 rfl (lv_at hl 1 rfl) ?_
    refine lv_iconst (v := 2) hx hb dX2_takeRooms_8 (by decide) ?_
    refine lv_bipush (v := 6) hx hb dX2_takeRooms_9 (by decide) ?_
    refine kcN_p hx hb hml hown hts hX hP (c_X6_within l G x1 2 6) gX2_takeRooms_X6_within_n97 (by decide +kernel) (by decide +kernel) (by decide +kernel) 3 rfl rfl rfl hdS_X6_within ⟨Nat.le_of_ble_eq_true rfl, Nat.le_of_ble_eq_true rfl⟩ (fun q hq => absurd hq List.not_mem_nil) hl.1 rfl rfl (Nat.le_of_ble_eq_true rfl) dX2_takeRooms_11 ⟨Nat.zero_le _, Nat.zero_le _⟩ ?_
    refine lv_if_ne (tgt := 19) hx hb dX2_takeRooms_14 (by decide) (fun c_14r => ?_) (fun c_14r => ?_)
    · have c_14 := b2i_tP c_14r
      refine lv_aload_n hx hb dX2_takeRooms_19 rfl (lv_at hl 0 rfl) ?_
      refine lv_iload_n hx hb dX2_takeRooms_20 rfl (lv_at hl 1 rfl) ?_
      refine kb_put (own := RX2) (C := RX2) (T := TX2) (N := 15) hx hb hts hin2 tyX2 tyX2_ok nmX2 (ty := .int) hown hX hP hD hS 0 rfl rfl rfl 8 (by decide) rfl (by decide +kernel) (by decide +kernel) rfl rfl (Nat.le_of_ble_eq_true rfl) dX2_takeRooms_21 (bX2_I8 b G w x1) (fun H locs hP hD hS => ?_)
      have hP : PP G [bX2 b G (setI w 8 x1)] H := hP
      have hD : DD (AA (List.flatten [bX2 b G w])) [bX2 b G (setI w 8 x1)] := D_re hD (adc (bX2_ad _ _ _ _) adn)
      refine lv_iconst (v := 1) hx hb dX2_takeRooms_24 (by decide) ?_
      have hP : PP G [bX2 b G (f_X2_takeRooms w x1)] H := by
        have e0 : (f_X2_takeRooms w x1) = (setI w 8 x1) := by simp only [f_X2_takeRooms, if_neg c_4, if_pos c_14] <;> rfl
        rw [e0]
        exact hP
      exact kr_sz hx hb hr hlocks dX2_takeRooms_25 rfl hP hS (sameAd_cons (bX2_ad _ _ _ _) sameAd_nil) ⟨by simp only [k_X2_takeRooms, if_neg c_4, if_pos c_14] <;> rfl, rfl⟩
    · have c_14 := b2i_fN c_14r
      refine lv_iconst (v := 0) hx hb dX2_takeRooms_17 (by decide) ?_
      have hP : PP G [bX2 b G (f_X2_takeRooms w x1)] H := by
        have e0 : (f_X2_takeRooms w x1) = w := by simp only [f_X2_takeRooms, if_neg c_4, if_neg c_14] <;> rfl
        rw [e0]
        exact hP
      exact kr_sz hx hb hr hlocks dX2_takeRooms_18 rfl hP hS (sameAd_cons (bX2_ad _ _ _ _) sameAd_nil) ⟨by simp only [k_X2_takeRooms, if_neg c_4, if_neg c_14] <;> rfl, rfl⟩

def rm_X2_takeDoor : Room := { frames := 2, cells := 0, slots := 0, locals := 45 }
theorem hd_X2_takeDoor : yX2_takeDoor.cls = RX2 ∧ yX2_takeDoor.cls ≠ "java/lang/invoke/MethodHandle" ∧ yX2_takeDoor.cls ≠ "java/lang/invoke/VarHandle" ∧ (parseMethodDescriptor yX2_takeDoor.desc).map (fun d => d.parameters.length) = some 3 := by decide +kernel
set_option maxRecDepth 100000 in
set_option maxHeartbeats 4000000 in
theorem c_X2_takeDoor (l : Launch) (G : GD) (b : Nat → Nat) (w : OV) (x1 : Int32) (x2 : Int32) (x3 : Int32)  : MetS l yX2_takeDoor wsX2_takeDoor rm_X2_takeDoor G [bX2 b G w] [.ref (b 0), .int x1, .int x2, .int x3] (fun r bc => r = some (.int (b2i (k_X2_takeDoor w x1 x2 x3))) ∧ bc = [bX2 b G (f_X2_takeDoor w x1 x2 x3)]) := by
  refine kb_beginS (cc := cX2_takeDoor) (maxL := 5) (ret := (some .boolean)) (by decide) rfl (Nat.le_of_ble_eq_true rfl) ?_
  intro p e s m below meth c hx hb hr hml hown hts hlocks hX H locs hP hD hS ls hl
  have hown : s.vm.findClass RX2 = some m.cls := hown
  have hl : lv_has ls 5 [(0, .ref (b 0)), (1, .int x1), (2, .int x2), (3, .int x3)] := hl
  have hin2 : ∀ w ∈ u_ws RX2 TX2 15, w ∈ wsX2_takeDoor := (fun _ h => List.mem_cons_of_mem _ (List.mem_append_right _ (h)))
  refine lv_iload_n hx hb dX2_takeDoor_0 rfl (lv_at hl 1 rfl) ?_
  refine lv_iload_n hx hb dX2_takeDoor_1 rfl (lv_at hl 2 rfl) ?_
  refine lv_icmp_eq (tgt := 31) hx hb dX2_takeDoor_2 (by decide) (fun c_2 => ?_) (fun c_2 => ?_)
  · refine lv_iconst (v := 0) hx hb dX2_takeDoor_31 (by decide) ?_
    refine lv_istore (lv' := [(4, .int 0), (0, .ref (b 0)), (1, .int x1), (2, .int x2), (3, .int x3)]) hx hb dX2_takeDoor_32 hl (by decide) rfl (fun ls hl => ?_)
    refine lv_aload_n hx hb dX2_takeDoor_34 rfl (lv_at hl 1 rfl) ?_
    refine kb_get (own := RX2) (C := RX2) (T := TX2) (N := 15) (v := .int (w.2 9)) hx hb hts hin2 hown hX hP 0 rfl rfl rfl 9 (by decide) rfl (by decide +kernel) rfl dX2_takeDoor_35 ?_
    refine lv_bipush (v := 8) hx hb dX2_takeDoor_38 (by decide) ?_
    refine lv_icmp_ge (tgt := 48) hx hb dX2_takeDoor_40 (by decide) (fun c_40 => ?_) (fun c_40 => ?_)
    · refine lv_iconst (v := 0) hx hb dX2_takeDoor_48 (by decide) ?_
      have hP : PP G [bX2 b G (f_X2_takeDoor w x1 x2 x3)] H := by
        have e0 : (f_X2_takeDoor w x1 x2 x3) = w := by simp only [f_X2_takeDoor, if_pos c_2, if_pos c_40] <;> rfl
        rw [e0]
        exact hP
      exact kr_sz hx hb hr hlocks dX2_takeDoor_49 rfl hP hS (sameAd_cons (bX2_ad _ _ _ _) sameAd_nil) ⟨by simp only [k_X2_takeDoor, if_pos c_2, if_pos c_40] <;> rfl, rfl⟩
    · refine lv_iload hx hb dX2_takeDoor_43 (lv_at hl 0 rfl) ?_
      refine lv_if_ne (tgt := 50) hx hb dX2_takeDoor_45 (by decide) (fun c_45 => absurd (by decide) c_45) (fun c_45 => ?_)
      refine lv_iconst (v := 0) hx hb dX2_takeDoor_48 (by decide) ?_
      have hP : PP G [bX2 b G (f_X2_takeDoor w x1 x2 x3)] H := by
        have e0 : (f_X2_takeDoor w x1 x2 x3) = w := by simp only [f_X2_takeDoor, if_pos c_2, if_neg c_40, if_pos c_45] <;> rfl
        rw [e0]
        exact hP
      exact kr_sz hx hb hr hlocks dX2_takeDoor_49 rfl hP hS (sameAd_cons (bX2_ad _ _ _ _) sameAd_nil) ⟨by simp only [k_X2_takeDoor, if_pos c_2, if_neg c_40, if_pos c_45] <;> rfl, rfl⟩
  · refine lv_iload_n hx hb dX2_takeDoor_5 rfl (lv_at hl 1 rfl) ?_
    refine lv_aload_n hx hb dX2_takeDoor_6 rfl (lv_at hl 0 rfl) ?_
    refine kb_get (own := RX2) (C := RX2) (T := TX2) (N := 15) (v := .int (w.2 8)) hx hb hts hin2 hown hX hP 0 rfl rfl rfl 8 (by decide) rfl (by decide +kernel) rfl dX2_takeDoor_7 ?_
    refine lv_icmp_ge (tgt := 31) hx hb dX2_takeDoor_10 (by decide) (fun c_10 => ?_) (fun c_10 => ?_)
    · refine lv_iconst (v := 0) hx hb dX2_takeDoor_31 (by decide) ?_
      refine lv_istore (lv' := [(4, .int 0), (0, .ref (b 0)), (1, .int x1), (2, .int x2), (3, .int x3)]) hx hb dX2_takeDoor_32 hl (by decide) rfl (fun ls hl => ?_)
      refine lv_aload_n hx hb dX2_takeDoor_34 rfl (lv_at hl 1 rfl) ?_
      refine kb_get (own := RX2) (C := RX2) (T := TX2) (N := 15) (v := .int (w.2 9)) hx hb hts hin2 hown hX hP 0 rfl rfl rfl 9 (by decide) rfl (by decide +kernel) rfl dX2_takeDoor_35 ?_
      refine lv_bipush (v := 8) hx hb dX2_takeDoor_38 (by decide) ?_
      refine lv_icmp_ge (tgt := 48) hx hb dX2_takeDoor_40 (by decide) (fun c_40 => ?_) (fun c_40 => ?_)
      · refine lv_iconst (v := 0) hx hb dX2_takeDoor_48 (by decide) ?_
        have hP : PP G [bX2 b G (f_X2_takeDoor w x1 x2 x3)] H := by
          have e0 : (f_X2_takeDoor w x1 x2 x3) = w := by simp only [f_X2_takeDoor, if_neg c_2, if_pos c_10, if_pos c_40] <;> rfl
          rw [e0]
          exact hP
        exact kr_sz hx hb hr hlocks dX2_takeDoor_49 rfl hP hS (sameAd_cons (bX2_ad _ _ _ _) sameAd_nil) ⟨by simp only [k_X2_takeDoor, if_neg c_2, if_pos c_10, if_pos c_40] <;> rfl, rfl⟩
      · refine lv_iload hx hb dX2_takeDoor_43 (lv_at hl 0 rfl) ?_
        refine lv_if_ne (tgt := 50) hx hb dX2_takeDoor_45 (by decide) (fun c_45 => absurd (by decide) c_45) (fun c_45 => ?_)
        refine lv_iconst (v := 0) hx hb dX2_takeDoor_48 (by decide) ?_
        have hP : PP G [bX2 b G (f_X2_takeDoor w x1 x2 x3)] H := by
          have e0 : (f_X2_takeDoor w x1 x2 x3) = w := by simp only [f_X2_takeDoor, if_neg c_2, if_pos c_10, if_neg c_40, if_pos c_45] <;> rfl
          rw [e0]
          exact hP
        exact kr_sz hx hb hr hlocks dX2_takeDoor_49 rfl hP hS (sameAd_cons (bX2_ad _ _ _ _) sameAd_nil) ⟨by simp only [k_X2_takeDoor, if_neg c_2, if_pos c_10, if_neg c_40, if_pos c_45] <;> rfl, rfl⟩
    · refine lv_iload_n hx hb dX2_takeDoor_13 rfl (lv_at hl 2 rfl) ?_
      refine lv_aload_n hx hb dX2_takeDoor_14 rfl (lv_at hl 0 rfl) ?_
      refine kb_get (own := RX2) (C := RX2) (T := TX2) (N := 15) (v := .int (w.2 8)) hx hb hts hin2 hown hX hP 0 rfl rfl rfl 8 (by decide) rfl (by decide +kernel) rfl dX2_takeDoor_15 ?_
      refine lv_icmp_ge (tgt := 31) hx hb dX2_takeDoor_18 (by decide) (fun c_18 => ?_) (fun c_18 => ?_)
      · refine lv_iconst (v := 0) hx hb dX2_takeDoor_31 (by decide) ?_
        refine lv_istore (lv' := [(4, .int 0), (0, .ref (b 0)), (1, .int x1), (2, .int x2), (3, .int x3)]) hx hb dX2_takeDoor_32 hl (by decide) rfl (fun ls hl => ?_)
        refine lv_aload_n hx hb dX2_takeDoor_34 rfl (lv_at hl 1 rfl) ?_
        refine kb_get (own := RX2) (C := RX2) (T := TX2) (N := 15) (v := .int (w.2 9)) hx hb hts hin2 hown hX hP 0 rfl rfl rfl 9 (by decide) rfl (by decide +kernel) rfl dX2_takeDoor_35 ?_
        refine lv_bipush (v := 8) hx hb dX2_takeDoor_38 (by decide) ?_
        refine lv_icmp_ge (tgt := 48) hx hb dX2_takeDoor_40 (by decide) (fun c_40 => ?_) (fun c_40 => ?_)
        · refine lv_iconst (v := 0) hx hb dX2_takeDoor_48 (by decide) ?_
          have hP : PP G [bX2 b G (f_X2_takeDoor w x1 x2 x3)] H := by
            have e0 : (f_X2_takeDoor w x1 x2 x3) = w := by simp only [f_X2_takeDoor, if_neg c_2, if_neg c_10, if_pos c_18, if_pos c_40] <;> rfl
            rw [e0]
            exact hP
          exact kr_sz hx hb hr hlocks dX2_takeDoor_49 rfl hP hS (sameAd_cons (bX2_ad _ _ _ _) sameAd_nil) ⟨by simp only [k_X2_takeDoor, if_neg c_2, if_neg c_10, if_pos c_18, if_pos c_40] <;> rfl, rfl⟩
        · refine lv_iload hx hb dX2_takeDoor_43 (lv_at hl 0 rfl) ?_
          refine lv_if_ne (tgt := 50) hx hb dX2_takeDoor_45 (by decide) (fun c_45 => absurd (by decide) c_45) (fun c_45 => ?_)
          refine lv_iconst (v := 0) hx hb dX2_takeDoor_48 (by decide) ?_
          have hP : PP G [bX2 b G (f_X2_takeDoor w x1 x2 x3)] H := by
            have e0 : (f_X2_takeDoor w x1 x2 x3) = w := by simp only [f_X2_takeDoor, if_neg c_2, if_neg c_10, if_pos c_18, if_neg c_40, if_pos c_45] <;> rfl
            rw [e0]
            exact hP
          exact kr_sz hx hb hr hlocks dX2_takeDoor_49 rfl hP hS (sameAd_cons (bX2_ad _ _ _ _) sameAd_nil) ⟨by simp only [k_X2_takeDoor, if_neg c_2, if_neg c_10, if_pos c_18, if_neg c_40, if_pos c_45] <;> rfl, rfl⟩
      · refine lv_iload_n hx hb dX2_takeDoor_21 rfl (lv_at hl 3 rfl) ?_
        refine lv_bipush (v := 8) hx hb dX2_takeDoor_22 (by decide) ?_
        refine lv_icmp_ge (tgt := 31) hx hb dX2_takeDoor_24 (by decide) (fun c_24 => ?_) (fun c_24 => ?_)
        · refine lv_iconst (v := 0) hx hb dX2_takeDoor_31 (by decide) ?_
          refine lv_istore (lv' := [(4, .int 0), (0, .ref (b 0)), (1, .int x1), (2, .int x2), (3, .int x3)]) hx hb dX2_takeDoor_32 hl (by decide) rfl (fun ls hl => ?_)
          refine lv_aload_n hx hb dX2_takeDoor_34 rfl (lv_at hl 1 rfl) ?_
          refine kb_get (own := RX2) (C := RX2) (T := TX2) (N := 15) (v := .int (w.2 9)) hx hb hts hin2 hown hX hP 0 rfl rfl rfl 9 (by decide) rfl (by decide +kernel) rfl dX2_takeDoor_35 ?_
          refine lv_bipush (v := 8) hx hb dX2_takeDoor_38 (by decide) ?_
          refine lv_icmp_ge (tgt := 48) hx hb dX2_takeDoor_40 (by decide) (fun c_40 => ?_) (fun c_40 => ?_)
          · refine lv_iconst (v := 0) hx hb dX2_takeDoor_48 (by decide) ?_
            have hP : PP G [bX2 b G (f_X2_takeDoor w x1 x2 x3)] H := by
              have e0 : (f_X2_takeDoor w x1 x2 x3) = w := by simp only [f_X2_takeDoor, if_neg c_2, if_neg c_10, if_neg c_18, if_pos c_24, if_pos c_40] <;> rfl
              rw [e0]
              exact hP
            exact kr_sz hx hb hr hlocks dX2_takeDoor_49 rfl hP hS (sameAd_cons (bX2_ad _ _ _ _) sameAd_nil) ⟨by simp only [k_X2_takeDoor, if_neg c_2, if_neg c_10, if_neg c_18, if_pos c_24, if_pos c_40] <;> rfl, rfl⟩
          · refine lv_iload hx hb dX2_takeDoor_43 (lv_at hl 0 rfl) ?_
            refine lv_if_ne (tgt := 50) hx hb dX2_takeDoor_45 (by decide) (fun c_45 => absurd (by decide) c_45) (fun c_45 => ?_)
            refine lv_iconst (v := 0) hx hb dX2_takeDoor_48 (by decide) ?_
            have hP : PP G [bX2 b G (f_X2_takeDoor w x1 x2 x3)] H := by
              have e0 : (f_X2_takeDoor w x1 x2 x3) = w := by simp only [f_X2_takeDoor, if_neg c_2, if_neg c_10, if_neg c_18, if_pos c_24, if_neg c_40, if_pos c_45] <;> rfl
              rw [e0]
              exact hP
            exact kr_sz hx hb hr hlocks dX2_takeDoor_49 rfl hP hS (sameAd_cons (bX2_ad _ _ _ _) sameAd_nil) ⟨by simp only [k_X2_takeDoor, if_neg c_2, if_neg c_10, if_neg c_18, if_pos c_24, if_neg c_40, if_pos c_45] <;> rfl, rfl⟩
        · refine lv_iconst (v := 1) hx hb dX2_takeDoor_27 (by decide) ?_
          refine lv_goto (tgt := 32) hx hb dX2_takeDoor_28 (by decide) ?_
          refine lv_istore (lv' := [(4, .int 1), (0, .ref (b 0)), (1, .int x1), (2, .int x2), (3, .int x3)]) hx hb dX2_takeDoor_32 hl (by decide) rfl (fun ls hl => ?_)
          refine lv_aload_n hx hb dX2_takeDoor_34 rfl (lv_at hl 1 rfl) ?_
          refine kb_get (own := RX2) (C := RX2) (T := TX2) (N := 15) (v := .int (w.2 9)) hx hb hts hin2 hown hX hP 0 rfl rfl rfl 9 (by decide) rfl (by decide +kernel) rfl dX2_takeDoor_35 ?_
          refine lv_bipush (v := 8) hx hb dX2_takeDoor_38 (by decide) ?_
          refine lv_icmp_ge (tgt := 48) hx hb dX2_takeDoor_40 (by decide) (fun c_40 => ?_) (fun c_40 => ?_)
          · refine lv_iconst (v := 0) hx hb dX2_takeDoor_48 (by decide) ?_
            have hP : PP G [bX2 b G (f_X2_takeDoor w x1 x2 x3)] H := by
              have e0 : (f_X2_takeDoor w x1 x2 x3) = w := by simp only [f_X2_takeDoor, if_neg c_2, if_neg c_10, if_neg c_18, if_neg c_24, if_pos c_40] <;> rfl
              rw [e0]
              exact hP
            exact kr_sz hx hb hr hlocks dX2_takeDoor_49 rfl hP hS (sameAd_cons (bX2_ad _ _ _ _) sameAd_nil) ⟨by simp only [k_X2_takeDoor, if_neg c_2, if_neg c_10, if_neg c_18, if_neg c_24, if_pos c_40] <;> rfl, rfl⟩
          · refine lv_iload hx hb dX2_takeDoor_43 (lv_at hl 0 rfl) ?_
            refine lv_if_ne (tgt := 50) hx hb dX2_takeDoor_45 (by decide) (fun c_45 => ?_) (fun c_45 => absurd c_45 (by decide))
            refine lv_aload_n hx hb dX2_takeDoor_50 rfl (lv_at hl 1 rfl) ?_
            refine lv_iload_n hx hb dX2_takeDoor_51 rfl (lv_at hl 2 rfl) ?_
            refine lv_iload_n hx hb dX2_takeDoor_52 rfl (lv_at hl 3 rfl) ?_
            refine lv_iload_n hx hb dX2_takeDoor_53 rfl (lv_at hl 4 rfl) ?_
            refine kcV_s hx hb hml hown hts hX hP hD hS (c_X2_addDoor l G b w x1 x2 x3) gX2_takeDoor_X2_addDoor 3 rfl rfl rfl hd_X2_addDoor ⟨Nat.le_of_ble_eq_true rfl, Nat.le_of_ble_eq_true rfl⟩ [0] (by decide) rfl 0 rfl rfl rfl hl.1 rfl rfl (Nat.le_of_ble_eq_true rfl) dX2_takeDoor_54 ⟨Nat.zero_le _, Nat.zero_le _⟩ (fun r_ bc_ hq_1 H locs hP hD hS => ?_)
            obtain ⟨rfl, rfl⟩ := hq_1
            have hP : PP G [bX2 b G (f_X2_addDoor w x1 x2 x3)] H := hP
            have hD : DD (AA (List.flatten [bX2 b G w])) [bX2 b G (f_X2_addDoor w x1 x2 x3)] := D_re hD (adc (bX2_ad _ _ _ _) adn)
            refine lv_iconst (v := 1) hx hb dX2_takeDoor_57 (by decide) ?_
            have hP : PP G [bX2 b G (f_X2_takeDoor w x1 x2 x3)] H := by
              have e0 : (f_X2_takeDoor w x1 x2 x3) = (f_X2_addDoor w x1 x2 x3) := by simp only [f_X2_takeDoor, if_neg c_2, if_neg c_10, if_neg c_18, if_neg c_24, if_neg c_40, if_neg c_45] <;> rfl
              rw [e0]
              exact hP
            exact kr_sz hx hb hr hlocks dX2_takeDoor_58 rfl hP hS (sameAd_cons (bX2_ad _ _ _ _) sameAd_nil) ⟨by simp only [k_X2_takeDoor, if_neg c_2, if_neg c_10, if_neg c_18, if_neg c_24, if_neg c_40, if_neg c_45] <;> rfl, rfl⟩

def rm_X2_takeLodger : Room := { frames := 2, cells := 0, slots := 0, locals := 45 }
theorem hd_X2_takeLodger : yX2_takeLodger.cls = RX2 ∧ yX2_takeLodger.cls ≠ "java/lang/invoke/MethodHandle" ∧ yX2_takeLodger.cls ≠ "java/lang/invoke/VarHandle" ∧ (parseMethodDescriptor yX2_takeLodger.desc).map (fun d => d.parameters.length) = some 3 := by decide +kernel
set_option maxRecDepth 100000 in
set_option maxHeartbeats 4000000 in
theorem c_X2_takeLodger (l : Launch) (G : GD) (b : Nat → Nat) (w : OV) (x1 : Int32) (x2 : Int32) (x3 : Int32)  : MetS l yX2_takeLodger wsX2_takeLodger rm_X2_takeLodger G [bX2 b G w] [.ref (b 0), .int x1, .int x2, .int x3] (fun r bc => r = some (.int (b2i (k_X2_takeLodger w x1 x2 x3))) ∧ bc = [bX2 b G (f_X2_takeLodger w x1 x2 x3)]) := by
  refine kb_beginS (cc := cX2_takeLodger) (maxL := 5) (ret := (some .boolean)) (by decide) rfl (Nat.le_of_ble_eq_true rfl) ?_
  intro p e s m below meth c hx hb hr hml hown hts hlocks hX H locs hP hD hS ls hl
  have hown : s.vm.findClass RX2 = some m.cls := hown
  have hl : lv_has ls 5 [(0, .ref (b 0)), (1, .int x1), (2, .int x2), (3, .int x3)] := hl
  have hin2 : ∀ w ∈ u_ws RX2 TX2 15, w ∈ wsX2_takeLodger := (fun _ h => List.mem_cons_of_mem _ (List.mem_append_right _ (h)))
  refine lv_iload_n hx hb dX2_takeLodger_0 rfl (lv_at hl 1 rfl) ?_
  refine lv_bipush (v := 6) hx hb dX2_takeLodger_1 (by decide) ?_
  refine lv_icmp_ge (tgt := 26) hx hb dX2_takeLodger_3 (by decide) (fun c_3 => ?_) (fun c_3 => ?_)
  · refine lv_iconst (v := 0) hx hb dX2_takeLodger_26 (by decide) ?_
    refine lv_istore (lv' := [(4, .int 0), (0, .ref (b 0)), (1, .int x1), (2, .int x2), (3, .int x3)]) hx hb dX2_takeLodger_27 hl (by decide) rfl (fun ls hl => ?_)
    refine lv_aload_n hx hb dX2_takeLodger_29 rfl (lv_at hl 1 rfl) ?_
    refine kb_get (own := RX2) (C := RX2) (T := TX2) (N := 15) (v := .int (w.2 10)) hx hb hts hin2 hown hX hP 0 rfl rfl rfl 10 (by decide) rfl (by decide +kernel) rfl dX2_takeLodger_30 ?_
    refine lv_iconst (v := 4) hx hb dX2_takeLodger_33 (by decide) ?_
    refine lv_icmp_ge (tgt := 42) hx hb dX2_takeLodger_34 (by decide) (fun c_34 => ?_) (fun c_34 => ?_)
    · refine lv_iconst (v := 0) hx hb dX2_takeLodger_42 (by decide) ?_
      have hP : PP G [bX2 b G (f_X2_takeLodger w x1 x2 x3)] H := by
        have e0 : (f_X2_takeLodger w x1 x2 x3) = w := by simp only [f_X2_takeLodger, if_pos c_3, if_pos c_34] <;> rfl
        rw [e0]
        exact hP
      exact kr_sz hx hb hr hlocks dX2_takeLodger_43 rfl hP hS (sameAd_cons (bX2_ad _ _ _ _) sameAd_nil) ⟨by simp only [k_X2_takeLodger, if_pos c_3, if_pos c_34] <;> rfl, rfl⟩
    · refine lv_iload hx hb dX2_takeLodger_37 (lv_at hl 0 rfl) ?_
      refine lv_if_ne (tgt := 44) hx hb dX2_takeLodger_39 (by decide) (fun c_39 => absurd (by decide) c_39) (fun c_39 => ?_)
      refine lv_iconst (v := 0) hx hb dX2_takeLodger_42 (by decide) ?_
      have hP : PP G [bX2 b G (f_X2_takeLodger w x1 x2 x3)] H := by
        have e0 : (f_X2_takeLodger w x1 x2 x3) = w := by simp only [f_X2_takeLodger, if_pos c_3, if_neg c_34, if_pos c_39] <;> rfl
        rw [e0]
        exact hP
      exact kr_sz hx hb hr hlocks dX2_takeLodger_43 rfl hP hS (sameAd_cons (bX2_ad _ _ _ _) sameAd_nil) ⟨by simp only [k_X2_takeLodger, if_pos c_3, if_neg c_34, if_pos c_39] <;> rfl, rfl⟩
  · refine lv_iload_n hx hb dX2_takeLodger_6 rfl (lv_at hl 2 rfl) ?_
    refine lv_iconst (v := 1) hx hb dX2_takeLodger_7 (by decide) ?_
    refine lv_bipush (v := 20) hx hb dX2_takeLodger_8 (by decide) ?_
    refine kcN_p hx hb hml hown hts hX hP (c_X6_within l G x2 1 20) gX2_takeLodger_X6_within_n97 (by decide +kernel) (by decide +kernel) (by decide +kernel) 3 rfl rfl rfl hdS_X6_within ⟨Nat.le_of_ble_eq_true rfl, Nat.le_of_ble_eq_true rfl⟩ (fun q hq => absurd hq List.not_mem_nil) hl.1 rfl rfl (Nat.le_of_ble_eq_true rfl) dX2_takeLodger_10 ⟨Nat.zero_le _, Nat.zero_le _⟩ ?_
    refine lv_if_eq (tgt := 26) hx hb dX2_takeLodger_13 (by decide) (fun c_13r => ?_) (fun c_13r => ?_)
    · have c_13 := b2i_fN c_13r
      refine lv_iconst (v := 0) hx hb dX2_takeLodger_26 (by decide) ?_
      refine lv_istore (lv' := [(4, .int 0), (0, .ref (b 0)), (1, .int x1), (2, .int x2), (3, .int x3)]) hx hb dX2_takeLodger_27 hl (by decide) rfl (fun ls hl => ?_)
      refine lv_aload_n hx hb dX2_takeLodger_29 rfl (lv_at hl 1 rfl) ?_
      refine kb_get (own := RX2) (C := RX2) (T := TX2) (N := 15) (v := .int (w.2 10)) hx hb hts hin2 hown hX hP 0 rfl rfl rfl 10 (by decide) rfl (by decide +kernel) rfl dX2_takeLodger_30 ?_
      refine lv_iconst (v := 4) hx hb dX2_takeLodger_33 (by decide) ?_
      refine lv_icmp_ge (tgt := 42) hx hb dX2_takeLodger_34 (by decide) (fun c_34 => ?_) (fun c_34 => ?_)
      · refine lv_iconst (v := 0) hx hb dX2_takeLodger_42 (by decide) ?_
        have hP : PP G [bX2 b G (f_X2_takeLodger w x1 x2 x3)] H := by
          have e0 : (f_X2_takeLodger w x1 x2 x3) = w := by simp only [f_X2_takeLodger, if_neg c_3, if_neg c_13, if_pos c_34] <;> rfl
          rw [e0]
          exact hP
        exact kr_sz hx hb hr hlocks dX2_takeLodger_43 rfl hP hS (sameAd_cons (bX2_ad _ _ _ _) sameAd_nil) ⟨by simp only [k_X2_takeLodger, if_neg c_3, if_neg c_13, if_pos c_34] <;> rfl, rfl⟩
      · refine lv_iload hx hb dX2_takeLodger_37 (lv_at hl 0 rfl) ?_
        refine lv_if_ne (tgt := 44) hx hb dX2_takeLodger_39 (by decide) (fun c_39 => absurd (by decide) c_39) (fun c_39 => ?_)
        refine lv_iconst (v := 0) hx hb dX2_takeLodger_42 (by decide) ?_
        have hP : PP G [bX2 b G (f_X2_takeLodger w x1 x2 x3)] H := by
          have e0 : (f_X2_takeLodger w x1 x2 x3) = w := by simp only [f_X2_takeLodger, if_neg c_3, if_neg c_13, if_neg c_34, if_pos c_39] <;> rfl
          rw [e0]
          exact hP
        exact kr_sz hx hb hr hlocks dX2_takeLodger_43 rfl hP hS (sameAd_cons (bX2_ad _ _ _ _) sameAd_nil) ⟨by simp only [k_X2_takeLodger, if_neg c_3, if_neg c_13, if_neg c_34, if_pos c_39] <;> rfl, rfl⟩
    · have c_13 := b2i_tP c_13r
      refine lv_iload_n hx hb dX2_takeLodger_16 rfl (lv_at hl 3 rfl) ?_
      refine lv_bipush (v := 6) hx hb dX2_takeLodger_17 (by decide) ?_
      refine lv_icmp_ge (tgt := 26) hx hb dX2_takeLodger_19 (by decide) (fun c_19 => ?_) (fun c_19 => ?_)
      · refine lv_iconst (v := 0) hx hb dX2_takeLodger_26 (by decide) ?_
        refine lv_istore (lv' := [(4, .int 0), (0, .ref (b 0)), (1, .int x1), (2, .int x2), (3, .int x3)]) hx hb dX2_takeLodger_27 hl (by decide) rfl (fun ls hl => ?_)
        refine lv_aload_n hx hb dX2_takeLodger_29 rfl (lv_at hl 1 rfl) ?_
        refine kb_get (own := RX2) (C := RX2) (T := TX2) (N := 15) (v := .int (w.2 10)) hx hb hts hin2 hown hX hP 0 rfl rfl rfl 10 (by decide) rfl (by decide +kernel) rfl dX2_takeLodger_30 ?_
        refine lv_iconst (v := 4) hx hb dX2_takeLodger_33 (by decide) ?_
        refine lv_icmp_ge (tgt := 42) hx hb dX2_takeLodger_34 (by decide) (fun c_34 => ?_) (fun c_34 => ?_)
        · refine lv_iconst (v := 0) hx hb dX2_takeLodger_42 (by decide) ?_
          have hP : PP G [bX2 b G (f_X2_takeLodger w x1 x2 x3)] H := by
            have e0 : (f_X2_takeLodger w x1 x2 x3) = w := by simp only [f_X2_takeLodger, if_neg c_3, if_pos c_13, if_pos c_19, if_pos c_34] <;> rfl
            rw [e0]
            exact hP
          exact kr_sz hx hb hr hlocks dX2_takeLodger_43 rfl hP hS (sameAd_cons (bX2_ad _ _ _ _) sameAd_nil) ⟨by simp only [k_X2_takeLodger, if_neg c_3, if_pos c_13, if_pos c_19, if_pos c_34] <;> rfl, rfl⟩
        · refine lv_iload hx hb dX2_takeLodger_37 (lv_at hl 0 rfl) ?_
          refine lv_if_ne (tgt := 44) hx hb dX2_takeLodger_39 (by decide) (fun c_39 => absurd (by decide) c_39) (fun c_39 => ?_)
          refine lv_iconst (v := 0) hx hb dX2_takeLodger_42 (by decide) ?_
          have hP : PP G [bX2 b G (f_X2_takeLodger w x1 x2 x3)] H := by
            have e0 : (f_X2_takeLodger w x1 x2 x3) = w := by simp only [f_X2_takeLodger, if_neg c_3, if_pos c_13, if_pos c_19, if_neg c_34, if_pos c_39] <;> rfl
            rw [e0]
            exact hP
          exact kr_sz hx hb hr hlocks dX2_takeLodger_43 rfl hP hS (sameAd_cons (bX2_ad _ _ _ _) sameAd_nil) ⟨by simp only [k_X2_takeLodger, if_neg c_3, if_pos c_13, if_pos c_19, if_neg c_34, if_pos c_39] <;> rfl, rfl⟩
      · refine lv_iconst (v := 1) hx hb dX2_takeLodger_22 (by decide) ?_
        refine lv_goto (tgt := 27) hx hb dX2_takeLodger_23 (by decide) ?_
        refine lv_istore (lv' := [(4, .int 1), (0, .ref (b 0)), (1, .int x1), (2, .int x2), (3, .int x3)]) hx hb dX2_takeLodger_27 hl (by decide) rfl (fun ls hl => ?_)
        refine lv_aload_n hx hb dX2_takeLodger_29 rfl (lv_at hl 1 rfl) ?_
        refine kb_get (own := RX2) (C := RX2) (T := TX2) (N := 15) (v := .int (w.2 10)) hx hb hts hin2 hown hX hP 0 rfl rfl rfl 10 (by decide) rfl (by decide +kernel) rfl dX2_takeLodger_30 ?_
        refine lv_iconst (v := 4) hx hb dX2_takeLodger_33 (by decide) ?_
        refine lv_icmp_ge (tgt := 42) hx hb dX2_takeLodger_34 (by decide) (fun c_34 => ?_) (fun c_34 => ?_)
        · refine lv_iconst (v := 0) hx hb dX2_takeLodger_42 (by decide) ?_
          have hP : PP G [bX2 b G (f_X2_takeLodger w x1 x2 x3)] H := by
            have e0 : (f_X2_takeLodger w x1 x2 x3) = w := by simp only [f_X2_takeLodger, if_neg c_3, if_pos c_13, if_neg c_19, if_pos c_34] <;> rfl
            rw [e0]
            exact hP
          exact kr_sz hx hb hr hlocks dX2_takeLodger_43 rfl hP hS (sameAd_cons (bX2_ad _ _ _ _) sameAd_nil) ⟨by simp only [k_X2_takeLodger, if_neg c_3, if_pos c_13, if_neg c_19, if_pos c_34] <;> rfl, rfl⟩
        · refine lv_iload hx hb dX2_takeLodger_37 (lv_at hl 0 rfl) ?_
          refine lv_if_ne (tgt := 44) hx hb dX2_takeLodger_39 (by decide) (fun c_39 => ?_) (fun c_39 => absurd c_39 (by decide))
          refine lv_aload_n hx hb dX2_takeLodger_44 rfl (lv_at hl 1 rfl) ?_
          refine lv_iload_n hx hb dX2_takeLodger_45 rfl (lv_at hl 2 rfl) ?_
          refine lv_iload_n hx hb dX2_takeLodger_46 rfl (lv_at hl 3 rfl) ?_
          refine lv_iload_n hx hb dX2_takeLodger_47 rfl (lv_at hl 4 rfl) ?_
          refine kcV_s hx hb hml hown hts hX hP hD hS (c_X2_addLodger l G b w x1 x2 x3) gX2_takeLodger_X2_addLodger 3 rfl rfl rfl hd_X2_addLodger ⟨Nat.le_of_ble_eq_true rfl, Nat.le_of_ble_eq_true rfl⟩ [0] (by decide) rfl 0 rfl rfl rfl hl.1 rfl rfl (Nat.le_of_ble_eq_true rfl) dX2_takeLodger_48 ⟨Nat.zero_le _, Nat.zero_le _⟩ (fun r_ bc_ hq_1 H locs hP hD hS => ?_)
          obtain ⟨rfl, rfl⟩ := hq_1
          have hP : PP G [bX2 b G (f_X2_addLodger w x1 x2 x3)] H := hP
          have hD : DD (AA (List.flatten [bX2 b G w])) [bX2 b G (f_X2_addLodger w x1 x2 x3)] := D_re hD (adc (bX2_ad _ _ _ _) adn)
          refine lv_iconst (v := 1) hx hb dX2_takeLodger_51 (by decide) ?_
          have hP : PP G [bX2 b G (f_X2_takeLodger w x1 x2 x3)] H := by
            have e0 : (f_X2_takeLodger w x1 x2 x3) = (f_X2_addLodger w x1 x2 x3) := by simp only [f_X2_takeLodger, if_neg c_3, if_pos c_13, if_neg c_19, if_neg c_34, if_neg c_39] <;> rfl
            rw [e0]
            exact hP
          exact kr_sz hx hb hr hlocks dX2_takeLodger_52 rfl hP hS (sameAd_cons (bX2_ad _ _ _ _) sameAd_nil) ⟨by simp only [k_X2_takeLodger, if_neg c_3, if_pos c_13, if_neg c_19, if_neg c_34, if_neg c_39] <;> rfl, rfl⟩

def rm_X2_takeGrudge : Room := { frames := 1, cells := 0, slots := 0, locals := 22 }
theorem hd_X2_takeGrudge : yX2_takeGrudge.cls = RX2 ∧ yX2_takeGrudge.cls ≠ "java/lang/invoke/MethodHandle" ∧ yX2_takeGrudge.cls ≠ "java/lang/invoke/VarHandle" ∧ (parseMethodDescriptor yX2_takeGrudge.desc).map (fun d => d.parameters.length) = some 3 := by decide +kernel
set_option maxRecDepth 100000 in
set_option maxHeartbeats 4000000 in
theorem c_X2_takeGrudge (l : Launch) (G : GD) (b : Nat → Nat) (w : OV) (x1 : Int32) (x2 : Int32) (x3 : Int32)  : MetS l yX2_takeGrudge wsX2_takeGrudge rm_X2_takeGrudge G [bX2 b G w] [.ref (b 0), .int x1, .int x2, .int x3] (fun r bc => r = some (.int (b2i (k_X2_takeGrudge w x1 x2 x3))) ∧ bc = [bX2 b G (f_X2_takeGrudge w x1 x2 x3)]) := by
  refine kb_beginS (cc := cX2_takeGrudge) (maxL := 4) (ret := (some .boolean)) (by decide) rfl (Nat.le_of_ble_eq_true rfl) ?_
  intro p e s m below meth c hx hb hr hml hown hts hlocks hX H locs hP hD hS ls hl
  have hown : s.vm.findClass RX2 = some m.cls := hown
  have hl : lv_has ls 4 [(0, .ref (b 0)), (1, .int x1), (2, .int x2), (3, .int x3)] := hl
  have hin2 : ∀ w ∈ u_ws RX2 TX2 15, w ∈ wsX2_takeGrudge := (fun _ h => List.mem_cons_of_mem _ (List.mem_append_right _ (h)))
  refine lv_iload_n hx hb dX2_takeGrudge_0 rfl (lv_at hl 1 rfl) ?_
  refine lv_aload_n hx hb dX2_takeGrudge_1 rfl (lv_at hl 0 rfl) ?_
  refine kb_get (own := RX2) (C := RX2) (T := TX2) (N := 15) (v := .int (w.2 9)) hx hb hts hin2 hown hX hP 0 rfl rfl rfl 9 (by decide) rfl (by decide +kernel) rfl dX2_takeGrudge_2 ?_
  refine lv_icmp_ge (tgt := 16) hx hb dX2_takeGrudge_5 (by decide) (fun c_5 => ?_) (fun c_5 => ?_)
  · refine lv_iconst (v := 0) hx hb dX2_takeGrudge_16 (by decide) ?_
    have hP : PP G [bX2 b G (f_X2_takeGrudge w x1 x2 x3)] H := by
      have e0 : (f_X2_takeGrudge w x1 x2 x3) = w := by simp only [f_X2_takeGrudge, if_pos c_5] <;> rfl
      rw [e0]
      exact hP
    exact kr_sz hx hb hr hlocks dX2_takeGrudge_17 rfl hP hS (sameAd_cons (bX2_ad _ _ _ _) sameAd_nil) ⟨by simp only [k_X2_takeGrudge, if_pos c_5] <;> rfl, rfl⟩
  · refine lv_iload_n hx hb dX2_takeGrudge_8 rfl (lv_at hl 2 rfl) ?_
    refine lv_aload_n hx hb dX2_takeGrudge_9 rfl (lv_at hl 0 rfl) ?_
    refine kb_get (own := RX2) (C := RX2) (T := TX2) (N := 15) (v := .int (w.2 10)) hx hb hts hin2 hown hX hP 0 rfl rfl rfl 10 (by decide) rfl (by decide +kernel) rfl dX2_takeGrudge_10 ?_
    refine lv_icmp_lt (tgt := 18) hx hb dX2_takeGrudge_13 (by decide) (fun c_13 => ?_) (fun c_13 => ?_)
    · refine lv_aload_n hx hb dX2_takeGrudge_18 rfl (lv_at hl 0 rfl) ?_
      refine kb_get (own := RX2) (C := RX2) (T := TX2) (N := 15) (v := .ref (b 8)) hx hb hts hin2 hown hX hP 0 rfl rfl rfl 7 (by decide) rfl (by decide +kernel) rfl dX2_takeGrudge_19 ?_
      refine lv_iload_n hx hb dX2_takeGrudge_22 rfl (lv_at hl 2 rfl) ?_
      refine lv_bipush (v := 8) hx hb dX2_takeGrudge_23 (by decide) ?_
      refine lv_imul hx hb dX2_takeGrudge_25 ?_
      refine lv_iload_n hx hb dX2_takeGrudge_26 rfl (lv_at hl 1 rfl) ?_
      refine lv_iadd hx hb dX2_takeGrudge_27 ?_
      refine lv_iload_n hx hb dX2_takeGrudge_28 rfl (lv_at hl 3 rfl) ?_
      refine kcN_c hx hb hml hown hts hX hP hD hS (c_X6_put l G (b 8) 32 (w.1 7) ((x2 * 8) + x1) x3 (by decide)) gX2_takeGrudge_X6_put_n62 (by decide +kernel) (by decide +kernel) (by decide +kernel) 3 rfl rfl rfl hdS_X6_put ⟨Nat.le_of_ble_eq_true rfl, Nat.le_of_ble_eq_true rfl⟩ 0 8 rfl rfl (bX2_A7 b G w (rPut (w.1 7) 32 ((x2 * 8) + x1) x3)) hl.1 rfl rfl (Nat.le_of_ble_eq_true rfl) dX2_takeGrudge_29 ⟨Nat.zero_le _, Nat.zero_le _⟩ (fun H locs hP hD hS => ?_)
      have hP : PP G [bX2 b G (setA w 7 (rPut (w.1 7) 32 ((x2 * 8) + x1) x3))] H := hP
      have hD : DD (AA (List.flatten [bX2 b G w])) [bX2 b G (setA w 7 (rPut (w.1 7) 32 ((x2 * 8) + x1) x3))] := D_re hD (adc (bX2_ad _ _ _ _) adn)
      refine lv_iconst (v := 1) hx hb dX2_takeGrudge_32 (by decide) ?_
      have hP : PP G [bX2 b G (f_X2_takeGrudge w x1 x2 x3)] H := by
        have e0 : (f_X2_takeGrudge w x1 x2 x3) = (setA w 7 (rPut (w.1 7) 32 ((x2 * 8) + x1) x3)) := by simp only [f_X2_takeGrudge, if_neg c_5, if_pos c_13] <;> rfl
        rw [e0]
        exact hP
      exact kr_sz hx hb hr hlocks dX2_takeGrudge_33 rfl hP hS (sameAd_cons (bX2_ad _ _ _ _) sameAd_nil) ⟨by simp only [k_X2_takeGrudge, if_neg c_5, if_pos c_13] <;> rfl, rfl⟩
    · refine lv_iconst (v := 0) hx hb dX2_takeGrudge_16 (by decide) ?_
      have hP : PP G [bX2 b G (f_X2_takeGrudge w x1 x2 x3)] H := by
        have e0 : (f_X2_takeGrudge w x1 x2 x3) = w := by simp only [f_X2_takeGrudge, if_neg c_5, if_neg c_13] <;> rfl
        rw [e0]
        exact hP
      exact kr_sz hx hb hr hlocks dX2_takeGrudge_17 rfl hP hS (sameAd_cons (bX2_ad _ _ _ _) sameAd_nil) ⟨by simp only [k_X2_takeGrudge, if_neg c_5, if_neg c_13] <;> rfl, rfl⟩

def rm_X2_takePassing : Room := { frames := 0, cells := 0, slots := 0, locals := 0 }
theorem hd_X2_takePassing : yX2_takePassing.cls = RX2 ∧ yX2_takePassing.cls ≠ "java/lang/invoke/MethodHandle" ∧ yX2_takePassing.cls ≠ "java/lang/invoke/VarHandle" ∧ (parseMethodDescriptor yX2_takePassing.desc).map (fun d => d.parameters.length) = some 2 := by decide +kernel
set_option maxRecDepth 100000 in
set_option maxHeartbeats 4000000 in
theorem c_X2_takePassing (l : Launch) (G : GD) (b : Nat → Nat) (w : OV) (x1 : Int32) (x2 : Int32)  : MetS l yX2_takePassing wsX2_takePassing rm_X2_takePassing G [bX2 b G w] [.ref (b 0), .int x1, .int x2] (fun r bc => r = some (.int (b2i (k_X2_takePassing x1 x2))) ∧ bc = [bX2 b G (f_X2_takePassing w x1 x2)]) := by
  refine kb_beginS (cc := cX2_takePassing) (maxL := 3) (ret := (some .boolean)) (by decide) rfl (Nat.le_of_ble_eq_true rfl) ?_
  intro p e s m below meth c hx hb hr hml hown hts hlocks hX H locs hP hD hS ls hl
  have hown : s.vm.findClass RX2 = some m.cls := hown
  have hl : lv_has ls 3 [(0, .ref (b 0)), (1, .int x1), (2, .int x2)] := hl
  have hin2 : ∀ w ∈ u_ws RX2 TX2 15, w ∈ wsX2_takePassing := (fun _ h => List.mem_cons_of_mem _ (List.mem_append_right _ (h)))
  refine lv_iload_n hx hb dX2_takePassing_0 rfl (lv_at hl 1 rfl) ?_
  refine lv_bipush (v := 10) hx hb dX2_takePassing_1 (by decide) ?_
  refine lv_icmp_gt (tgt := 12) hx hb dX2_takePassing_3 (by decide) (fun c_3 => ?_) (fun c_3 => ?_)
  · refine lv_iconst (v := 0) hx hb dX2_takePassing_12 (by decide) ?_
    have hP : PP G [bX2 b G (f_X2_takePassing w x1 x2)] H := by
      have e0 : (f_X2_takePassing w x1 x2) = w := by simp only [f_X2_takePassing, if_pos c_3] <;> rfl
      rw [e0]
      exact hP
    exact kr_sz hx hb hr hlocks dX2_takePassing_13 rfl hP hS (sameAd_cons (bX2_ad _ _ _ _) sameAd_nil) ⟨by simp only [k_X2_takePassing, if_pos c_3] <;> rfl, rfl⟩
  · refine lv_iload_n hx hb dX2_takePassing_6 rfl (lv_at hl 2 rfl) ?_
    refine lv_bipush (v := 9) hx hb dX2_takePassing_7 (by decide) ?_
    refine lv_icmp_le (tgt := 14) hx hb dX2_takePassing_9 (by decide) (fun c_9 => ?_) (fun c_9 => ?_)
    · refine lv_aload_n hx hb dX2_takePassing_14 rfl (lv_at hl 0 rfl) ?_
      refine lv_iload_n hx hb dX2_takePassing_15 rfl (lv_at hl 1 rfl) ?_
      refine kb_put (own := RX2) (C := RX2) (T := TX2) (N := 15) hx hb hts hin2 tyX2 tyX2_ok nmX2 (ty := .int) hown hX hP hD hS 0 rfl rfl rfl 11 (by decide) rfl (by decide +kernel) (by decide +kernel) rfl rfl (Nat.le_of_ble_eq_true rfl) dX2_takePassing_16 (bX2_I11 b G w x1) (fun H locs hP hD hS => ?_)
      have hP : PP G [bX2 b G (setI w 11 x1)] H := hP
      have hD : DD (AA (List.flatten [bX2 b G w])) [bX2 b G (setI w 11 x1)] := D_re hD (adc (bX2_ad _ _ _ _) adn)
      refine lv_aload_n hx hb dX2_takePassing_19 rfl (lv_at hl 0 rfl) ?_
      refine lv_iload_n hx hb dX2_takePassing_20 rfl (lv_at hl 2 rfl) ?_
      refine kb_put (own := RX2) (C := RX2) (T := TX2) (N := 15) hx hb hts hin2 tyX2 tyX2_ok nmX2 (ty := .int) hown hX hP hD hS 0 rfl rfl rfl 12 (by decide) rfl (by decide +kernel) (by decide +kernel) rfl rfl (Nat.le_of_ble_eq_true rfl) dX2_takePassing_21 (bX2_I12 b G (setI w 11 x1) x2) (fun H locs hP hD hS => ?_)
      have hP : PP G [bX2 b G (setI (setI w 11 x1) 12 x2)] H := hP
      have hD : DD (AA (List.flatten [bX2 b G w])) [bX2 b G (setI (setI w 11 x1) 12 x2)] := D_re hD (adc (bX2_ad _ _ _ _) adn)
      refine lv_iconst (v := 1) hx hb dX2_takePassing_24 (by decide) ?_
      have hP : PP G [bX2 b G (f_X2_takePassing w x1 x2)] H := by
        have e0 : (f_X2_takePassing w x1 x2) = (setI (setI w 11 x1) 12 x2) := by simp only [f_X2_takePassing, if_neg c_3, if_pos c_9] <;> rfl
        rw [e0]
        exact hP
      exact kr_sz hx hb hr hlocks dX2_takePassing_25 rfl hP hS (sameAd_cons (bX2_ad _ _ _ _) sameAd_nil) ⟨by simp only [k_X2_takePassing, if_neg c_3, if_pos c_9] <;> rfl, rfl⟩
    · refine lv_iconst (v := 0) hx hb dX2_takePassing_12 (by decide) ?_
      have hP : PP G [bX2 b G (f_X2_takePassing w x1 x2)] H := by
        have e0 : (f_X2_takePassing w x1 x2) = w := by simp only [f_X2_takePassing, if_neg c_3, if_neg c_9] <;> rfl
        rw [e0]
        exact hP
      exact kr_sz hx hb hr hlocks dX2_takePassing_13 rfl hP hS (sameAd_cons (bX2_ad _ _ _ _) sameAd_nil) ⟨by simp only [k_X2_takePassing, if_neg c_3, if_neg c_9] <;> rfl, rfl⟩

def rm_X2_takeWear : Room := { frames := 0, cells := 0, slots := 0, locals := 0 }
theorem hd_X2_takeWear : yX2_takeWear.cls = RX2 ∧ yX2_takeWear.cls ≠ "java/lang/invoke/MethodHandle" ∧ yX2_takeWear.cls ≠ "java/lang/invoke/VarHandle" ∧ (parseMethodDescriptor yX2_takeWear.desc).map (fun d => d.parameters.length) = some 1 := by decide +kernel
set_option maxRecDepth 100000 in
set_option maxHeartbeats 4000000 in
theorem c_X2_takeWear (l : Launch) (G : GD) (b : Nat → Nat) (w : OV) (x1 : Int32)  : MetS l yX2_takeWear wsX2_takeWear rm_X2_takeWear G [bX2 b G w] [.ref (b 0), .int x1] (fun r bc => r = some (.int (b2i (k_X2_takeWear x1))) ∧ bc = [bX2 b G (f_X2_takeWear w x1)]) := by
  refine kb_beginS (cc := cX2_takeWear) (maxL := 2) (ret := (some .boolean)) (by decide) rfl (Nat.le_of_ble_eq_true rfl) ?_
  intro p e s m below meth c hx hb hr hml hown hts hlocks hX H locs hP hD hS ls hl
  have hown : s.vm.findClass RX2 = some m.cls := hown
  have hl : lv_has ls 2 [(0, .ref (b 0)), (1, .int x1)] := hl
  have hin2 : ∀ w ∈ u_ws RX2 TX2 15, w ∈ wsX2_takeWear := (fun _ h => List.mem_cons_of_mem _ (List.mem_append_right _ (h)))
  refine lv_iload_n hx hb dX2_takeWear_0 rfl (lv_at hl 1 rfl) ?_
  refine lv_bipush (v := 9) hx hb dX2_takeWear_1 (by decide) ?_
  refine lv_icmp_le (tgt := 8) hx hb dX2_takeWear_3 (by decide) (fun c_3 => ?_) (fun c_3 => ?_)
  · refine lv_aload_n hx hb dX2_takeWear_8 rfl (lv_at hl 0 rfl) ?_
    refine lv_iload_n hx hb dX2_takeWear_9 rfl (lv_at hl 1 rfl) ?_
    refine kb_put (own := RX2) (C := RX2) (T := TX2) (N := 15) hx hb hts hin2 tyX2 tyX2_ok nmX2 (ty := .int) hown hX hP hD hS 0 rfl rfl rfl 13 (by decide) rfl (by decide +kernel) (by decide +kernel) rfl rfl (Nat.le_of_ble_eq_true rfl) dX2_takeWear_10 (bX2_I13 b G w x1) (fun H locs hP hD hS => ?_)
    have hP : PP G [bX2 b G (setI w 13 x1)] H := hP
    have hD : DD (AA (List.flatten [bX2 b G w])) [bX2 b G (setI w 13 x1)] := D_re hD (adc (bX2_ad _ _ _ _) adn)
    refine lv_iconst (v := 1) hx hb dX2_takeWear_13 (by decide) ?_
    have hP : PP G [bX2 b G (f_X2_takeWear w x1)] H := by
      have e0 : (f_X2_takeWear w x1) = (setI w 13 x1) := by simp only [f_X2_takeWear, if_pos c_3] <;> rfl
      rw [e0]
      exact hP
    exact kr_sz hx hb hr hlocks dX2_takeWear_14 rfl hP hS (sameAd_cons (bX2_ad _ _ _ _) sameAd_nil) ⟨by simp only [k_X2_takeWear, if_pos c_3] <;> rfl, rfl⟩
  · refine lv_iconst (v := 0) hx hb dX2_takeWear_6 (by decide) ?_
    have hP : PP G [bX2 b G (f_X2_takeWear w x1)] H := by
      have e0 : (f_X2_takeWear w x1) = w := by simp only [f_X2_takeWear, if_neg c_3] <;> rfl
      rw [e0]
      exact hP
    exact kr_sz hx hb hr hlocks dX2_takeWear_7 rfl hP hS (sameAd_cons (bX2_ad _ _ _ _) sameAd_nil) ⟨by simp only [k_X2_takeWear, if_neg c_3] <;> rfl, rfl⟩

def rm_X2_takeOil : Room := { frames := 1, cells := 0, slots := 0, locals := 22 }
theorem hd_X2_takeOil : yX2_takeOil.cls = RX2 ∧ yX2_takeOil.cls ≠ "java/lang/invoke/MethodHandle" ∧ yX2_takeOil.cls ≠ "java/lang/invoke/VarHandle" ∧ (parseMethodDescriptor yX2_takeOil.desc).map (fun d => d.parameters.length) = some 1 := by decide +kernel
set_option maxRecDepth 100000 in
set_option maxHeartbeats 4000000 in
theorem c_X2_takeOil (l : Launch) (G : GD) (b : Nat → Nat) (w : OV) (x1 : Int32)  : MetS l yX2_takeOil wsX2_takeOil rm_X2_takeOil G [bX2 b G w] [.ref (b 0), .int x1] (fun r bc => r = some (.int (b2i (k_X2_takeOil x1))) ∧ bc = [bX2 b G (f_X2_takeOil w x1)]) := by
  refine kb_beginS (cc := cX2_takeOil) (maxL := 2) (ret := (some .boolean)) (by decide) rfl (Nat.le_of_ble_eq_true rfl) ?_
  intro p e s m below meth c hx hb hr hml hown hts hlocks hX H locs hP hD hS ls hl
  have hown : s.vm.findClass RX2 = some m.cls := hown
  have hl : lv_has ls 2 [(0, .ref (b 0)), (1, .int x1)] := hl
  have hin2 : ∀ w ∈ u_ws RX2 TX2 15, w ∈ wsX2_takeOil := (fun _ h => List.mem_cons_of_mem _ (List.mem_append_right _ (h)))
  refine lv_iload_n hx hb dX2_takeOil_0 rfl (lv_at hl 1 rfl) ?_
  refine lv_iconst (v := 1) hx hb dX2_takeOil_1 (by decide) ?_
  refine lv_bipush (v := 9) hx hb dX2_takeOil_2 (by decide) ?_
  refine kcN_p hx hb hml hown hts hX hP (c_X6_within l G x1 1 9) gX2_takeOil_X6_within_n97 (by decide +kernel) (by decide +kernel) (by decide +kernel) 3 rfl rfl rfl hdS_X6_within ⟨Nat.le_of_ble_eq_true rfl, Nat.le_of_ble_eq_true rfl⟩ (fun q hq => absurd hq List.not_mem_nil) hl.1 rfl rfl (Nat.le_of_ble_eq_true rfl) dX2_takeOil_4 ⟨Nat.zero_le _, Nat.zero_le _⟩ ?_
  refine lv_if_ne (tgt := 12) hx hb dX2_takeOil_7 (by decide) (fun c_7r => ?_) (fun c_7r => ?_)
  · have c_7 := b2i_tP c_7r
    refine lv_aload_n hx hb dX2_takeOil_12 rfl (lv_at hl 0 rfl) ?_
    refine lv_iload_n hx hb dX2_takeOil_13 rfl (lv_at hl 1 rfl) ?_
    refine kb_put (own := RX2) (C := RX2) (T := TX2) (N := 15) hx hb hts hin2 tyX2 tyX2_ok nmX2 (ty := .int) hown hX hP hD hS 0 rfl rfl rfl 14 (by decide) rfl (by decide +kernel) (by decide +kernel) rfl rfl (Nat.le_of_ble_eq_true rfl) dX2_takeOil_14 (bX2_I14 b G w x1) (fun H locs hP hD hS => ?_)
    have hP : PP G [bX2 b G (setI w 14 x1)] H := hP
    have hD : DD (AA (List.flatten [bX2 b G w])) [bX2 b G (setI w 14 x1)] := D_re hD (adc (bX2_ad _ _ _ _) adn)
    refine lv_iconst (v := 1) hx hb dX2_takeOil_17 (by decide) ?_
    have hP : PP G [bX2 b G (f_X2_takeOil w x1)] H := by
      have e0 : (f_X2_takeOil w x1) = (setI w 14 x1) := by simp only [f_X2_takeOil, if_pos c_7] <;> rfl
      rw [e0]
      exact hP
    exact kr_sz hx hb hr hlocks dX2_takeOil_18 rfl hP hS (sameAd_cons (bX2_ad _ _ _ _) sameAd_nil) ⟨by simp only [k_X2_takeOil, if_pos c_7] <;> rfl, rfl⟩
  · have c_7 := b2i_fN c_7r
    refine lv_iconst (v := 0) hx hb dX2_takeOil_10 (by decide) ?_
    have hP : PP G [bX2 b G (f_X2_takeOil w x1)] H := by
      have e0 : (f_X2_takeOil w x1) = w := by simp only [f_X2_takeOil, if_neg c_7] <;> rfl
      rw [e0]
      exact hP
    exact kr_sz hx hb hr hlocks dX2_takeOil_11 rfl hP hS (sameAd_cons (bX2_ad _ _ _ _) sameAd_nil) ⟨by simp only [k_X2_takeOil, if_neg c_7] <;> rfl, rfl⟩

def rm_X2_takeDraught : Room := { frames := 1, cells := 0, slots := 0, locals := 22 }
theorem hd_X2_takeDraught : yX2_takeDraught.cls = RX2 ∧ yX2_takeDraught.cls ≠ "java/lang/invoke/MethodHandle" ∧ yX2_takeDraught.cls ≠ "java/lang/invoke/VarHandle" ∧ (parseMethodDescriptor yX2_takeDraught.desc).map (fun d => d.parameters.length) = some 2 := by decide +kernel
set_option maxRecDepth 100000 in
set_option maxHeartbeats 4000000 in
theorem c_X2_takeDraught (l : Launch) (G : GD) (b : Nat → Nat) (w : OV) (x1 : Int32) (x2 : Int32)  : MetS l yX2_takeDraught wsX2_takeDraught rm_X2_takeDraught G [bX2 b G w] [.ref (b 0), .int x1, .int x2] (fun r bc => r = some (.int (b2i (k_X2_takeDraught w x1 x2))) ∧ bc = [bX2 b G (f_X2_takeDraught w x1 x2)]) := by
  refine kb_beginS (cc := cX2_takeDraught) (maxL := 3) (ret := (some .boolean)) (by decide) rfl (Nat.le_of_ble_eq_true rfl) ?_
  intro p e s m below meth c hx hb hr hml hown hts hlocks hX H locs hP hD hS ls hl
  have hown : s.vm.findClass RX2 = some m.cls := hown
  have hl : lv_has ls 3 [(0, .ref (b 0)), (1, .int x1), (2, .int x2)] := hl
  have hin2 : ∀ w ∈ u_ws RX2 TX2 15, w ∈ wsX2_takeDraught := (fun _ h => List.mem_cons_of_mem _ (List.mem_append_right _ (h)))
  refine lv_iload_n hx hb dX2_takeDraught_0 rfl (lv_at hl 1 rfl) ?_
  refine lv_aload_n hx hb dX2_takeDraught_1 rfl (lv_at hl 0 rfl) ?_
  refine kb_get (own := RX2) (C := RX2) (T := TX2) (N := 15) (v := .int (w.2 9)) hx hb hts hin2 hown hX hP 0 rfl rfl rfl 9 (by decide) rfl (by decide +kernel) rfl dX2_takeDraught_2 ?_
  refine lv_icmp_ge (tgt := 14) hx hb dX2_takeDraught_5 (by decide) (fun c_5 => ?_) (fun c_5 => ?_)
  · refine lv_iconst (v := 0) hx hb dX2_takeDraught_14 (by decide) ?_
    have hP : PP G [bX2 b G (f_X2_takeDraught w x1 x2)] H := by
      have e0 : (f_X2_takeDraught w x1 x2) = w := by simp only [f_X2_takeDraught, if_pos c_5] <;> rfl
      rw [e0]
      exact hP
    exact kr_sz hx hb hr hlocks dX2_takeDraught_15 rfl hP hS (sameAd_cons (bX2_ad _ _ _ _) sameAd_nil) ⟨by simp only [k_X2_takeDraught, if_pos c_5] <;> rfl, rfl⟩
  · refine lv_iload_n hx hb dX2_takeDraught_8 rfl (lv_at hl 2 rfl) ?_
    refine lv_bipush (v := 20) hx hb dX2_takeDraught_9 (by decide) ?_
    refine lv_icmp_le (tgt := 16) hx hb dX2_takeDraught_11 (by decide) (fun c_11 => ?_) (fun c_11 => ?_)
    · refine lv_aload_n hx hb dX2_takeDraught_16 rfl (lv_at hl 0 rfl) ?_
      refine kb_get (own := RX2) (C := RX2) (T := TX2) (N := 15) (v := .ref (b 4)) hx hb hts hin2 hown hX hP 0 rfl rfl rfl 3 (by decide) rfl (by decide +kernel) rfl dX2_takeDraught_17 ?_
      refine lv_iload_n hx hb dX2_takeDraught_20 rfl (lv_at hl 1 rfl) ?_
      refine lv_iload_n hx hb dX2_takeDraught_21 rfl (lv_at hl 2 rfl) ?_
      refine kcN_c hx hb hml hown hts hX hP hD hS (c_X6_put l G (b 4) 8 (w.1 3) x1 x2 (by decide)) gX2_takeDraught_X6_put_n62 (by decide +kernel) (by decide +kernel) (by decide +kernel) 3 rfl rfl rfl hdS_X6_put ⟨Nat.le_of_ble_eq_true rfl, Nat.le_of_ble_eq_true rfl⟩ 0 4 rfl rfl (bX2_A3 b G w (rPut (w.1 3) 8 x1 x2)) hl.1 rfl rfl (Nat.le_of_ble_eq_true rfl) dX2_takeDraught_22 ⟨Nat.zero_le _, Nat.zero_le _⟩ (fun H locs hP hD hS => ?_)
      have hP : PP G [bX2 b G (setA w 3 (rPut (w.1 3) 8 x1 x2))] H := hP
      have hD : DD (AA (List.flatten [bX2 b G w])) [bX2 b G (setA w 3 (rPut (w.1 3) 8 x1 x2))] := D_re hD (adc (bX2_ad _ _ _ _) adn)
      refine lv_iconst (v := 1) hx hb dX2_takeDraught_25 (by decide) ?_
      have hP : PP G [bX2 b G (f_X2_takeDraught w x1 x2)] H := by
        have e0 : (f_X2_takeDraught w x1 x2) = (setA w 3 (rPut (w.1 3) 8 x1 x2)) := by simp only [f_X2_takeDraught, if_neg c_5, if_pos c_11] <;> rfl
        rw [e0]
        exact hP
      exact kr_sz hx hb hr hlocks dX2_takeDraught_26 rfl hP hS (sameAd_cons (bX2_ad _ _ _ _) sameAd_nil) ⟨by simp only [k_X2_takeDraught, if_neg c_5, if_pos c_11] <;> rfl, rfl⟩
    · refine lv_iconst (v := 0) hx hb dX2_takeDraught_14 (by decide) ?_
      have hP : PP G [bX2 b G (f_X2_takeDraught w x1 x2)] H := by
        have e0 : (f_X2_takeDraught w x1 x2) = w := by simp only [f_X2_takeDraught, if_neg c_5, if_neg c_11] <;> rfl
        rw [e0]
        exact hP
      exact kr_sz hx hb hr hlocks dX2_takeDraught_15 rfl hP hS (sameAd_cons (bX2_ad _ _ _ _) sameAd_nil) ⟨by simp only [k_X2_takeDraught, if_neg c_5, if_neg c_11] <;> rfl, rfl⟩

def rm_X2_take : Room := { frames := 3, cells := 0, slots := 0, locals := 69 }
theorem hd_X2_take : yX2_take.cls = RX2 ∧ yX2_take.cls ≠ "java/lang/invoke/MethodHandle" ∧ yX2_take.cls ≠ "java/lang/invoke/VarHandle" ∧ (parseMethodDescriptor yX2_take.desc).map (fun d => d.parameters.length) = some 3 := by decide +kernel
set_option maxRecDepth 100000 in
set_option maxHeartbeats 4000000 in
theorem c_X2_take (l : Launch) (G : GD) (b : Nat → Nat) (w : OV) (x1 : Int32) (x2 : Int32) (c0 : Nat) (f : Nat → Int32)  : MetS l yX2_take wsX2_take rm_X2_take G [bX2 b G w, [(c0, .inl (G.2.1, 3, .inl f))]] [.ref (b 0), .int x1, .int x2, .ref c0] (fun r bc => r = some (.int (b2i (k_X2_take w x1 x2 f))) ∧ bc = [bX2 b G (f_X2_take w x1 x2 f), [(c0, .inl (G.2.1, 3, .inl f))]]) := by
  refine kb_beginS (cc := cX2_take) (maxL := 7) (ret := (some .boolean)) (by decide) rfl (Nat.le_of_ble_eq_true rfl) ?_
  intro p e s m below meth c hx hb hr hml hown hts hlocks hX H locs hP hD hS ls hl
  have hown : s.vm.findClass RX2 = some m.cls := hown
  have hl : lv_has ls 7 [(0, .ref (b 0)), (1, .int x1), (2, .int x2), (3, .ref c0)] := hl
  refine lv_aload_n hx hb dX2_take_0 rfl (lv_at hl 3 rfl) ?_
  refine lv_iconst (v := 0) hx hb dX2_take_1 (by decide) ?_
  refine kcN_p hx hb hml hown hts hX hP (c_X6_at l G c0 3 f 0 (by decide)) gX2_take_X6_at_n66 (by decide +kernel) (by decide +kernel) (by decide +kernel) 2 rfl rfl rfl hdS_X6_at ⟨Nat.le_of_ble_eq_true rfl, Nat.le_of_ble_eq_true rfl⟩ (cell_in (i := 1) (j := 0) rfl rfl) hl.1 rfl rfl (Nat.le_of_ble_eq_true rfl) dX2_take_2 ⟨Nat.zero_le _, Nat.zero_le _⟩ ?_
  refine lv_istore (lv' := [(4, .int (rAt f 3 0)), (0, .ref (b 0)), (1, .int x1), (2, .int x2), (3, .ref c0)]) hx hb dX2_take_5 hl (by decide) rfl (fun ls hl => ?_)
  refine lv_aload_n hx hb dX2_take_7 rfl (lv_at hl 4 rfl) ?_
  refine lv_iconst (v := 1) hx hb dX2_take_8 (by decide) ?_
  refine kcN_p hx hb hml hown hts hX hP (c_X6_at l G c0 3 f 1 (by decide)) gX2_take_X6_at_n66 (by decide +kernel) (by decide +kernel) (by decide +kernel) 2 rfl rfl rfl hdS_X6_at ⟨Nat.le_of_ble_eq_true rfl, Nat.le_of_ble_eq_true rfl⟩ (cell_in (i := 1) (j := 0) rfl rfl) hl.1 rfl rfl (Nat.le_of_ble_eq_true rfl) dX2_take_9 ⟨Nat.zero_le _, Nat.zero_le _⟩ ?_
  refine lv_istore (lv' := [(5, .int (rAt f 3 1)), (4, .int (rAt f 3 0)), (0, .ref (b 0)), (1, .int x1), (2, .int x2), (3, .ref c0)]) hx hb dX2_take_12 hl (by decide) rfl (fun ls hl => ?_)
  refine lv_aload_n hx hb dX2_take_14 rfl (lv_at hl 5 rfl) ?_
  refine lv_iconst (v := 2) hx hb dX2_take_15 (by decide) ?_
  refine kcN_p hx hb hml hown hts hX hP (c_X6_at l G c0 3 f 2 (by decide)) gX2_take_X6_at_n66 (by decide +kernel) (by decide +kernel) (by decide +kernel) 2 rfl rfl rfl hdS_X6_at ⟨Nat.le_of_ble_eq_true rfl, Nat.le_of_ble_eq_true rfl⟩ (cell_in (i := 1) (j := 0) rfl rfl) hl.1 rfl rfl (Nat.le_of_ble_eq_true rfl) dX2_take_16 ⟨Nat.zero_le _, Nat.zero_le _⟩ ?_
  refine lv_istore (lv' := [(6, .int (rAt f 3 2)), (5, .int (rAt f 3 1)), (4, .int (rAt f 3 0)), (0, .ref (b 0)), (1, .int x1), (2, .int x2), (3, .ref c0)]) hx hb dX2_take_19 hl (by decide) rfl (fun ls hl => ?_)
  refine lv_iload_n hx hb dX2_take_21 rfl (lv_at hl 4 rfl) ?_
  by_cases h22_100 : x1 = 100
  · refine kb_tIn (tgt := 136) hx hb h22_100 dX2_take_22 (by decide) (by decide) rfl (by decide) ?_
    refine lv_iload_n hx hb dX2_take_136 rfl (lv_at hl 5 rfl) ?_
    refine lv_iconst (v := 3) hx hb dX2_take_137 (by decide) ?_
    refine lv_icmp_ne (tgt := 158) hx hb dX2_take_138 (by decide) (fun c_138 => ?_) (fun c_138 => ?_)
    · refine lv_iconst (v := 0) hx hb dX2_take_158 (by decide) ?_
      have hP : PP G [bX2 b G (f_X2_take w x1 x2 f), [(c0, .inl (G.2.1, 3, .inl f))]] H := by
        have e0 : (f_X2_take w x1 x2 f) = w := by simp only [f_X2_take, if_pos h22_100, if_neg c_138] <;> rfl
        rw [e0]
        exact hP
      exact kr_sz hx hb hr hlocks dX2_take_159 rfl hP hS (sameAd_cons (bX2_ad _ _ _ _) (sameAd_cons (row_ad _ _ _) sameAd_nil)) ⟨by simp only [k_X2_take, if_pos h22_100, if_neg c_138] <;> rfl, rfl⟩
    · refine lv_aload_n hx hb dX2_take_141 rfl (lv_at hl 3 rfl) ?_
      refine lv_iload hx hb dX2_take_142 (lv_at hl 2 rfl) ?_
      refine lv_iload hx hb dX2_take_144 (lv_at hl 1 rfl) ?_
      refine lv_iload hx hb dX2_take_146 (lv_at hl 0 rfl) ?_
      refine kcV_s hx hb hml hown hts hX hP hD hS (c_X2_takeDoor l G b w (rAt f 3 0) (rAt f 3 1) (rAt f 3 2)) gX2_take_X2_takeDoor 3 rfl rfl rfl hd_X2_takeDoor ⟨Nat.le_of_ble_eq_true rfl, Nat.le_of_ble_eq_true rfl⟩ [0] (by decide) rfl 0 rfl rfl rfl hl.1 rfl rfl (Nat.le_of_ble_eq_true rfl) dX2_take_148 ⟨Nat.zero_le _, Nat.zero_le _⟩ (fun r_ bc_ hq_1 H locs hP hD hS => ?_)
      obtain ⟨rfl, rfl⟩ := hq_1
      have hP : PP G [bX2 b G (f_X2_takeDoor w (rAt f 3 0) (rAt f 3 1) (rAt f 3 2)), [(c0, .inl (G.2.1, 3, .inl f))]] H := hP
      have hD : DD (AA (List.flatten [bX2 b G w, [(c0, .inl (G.2.1, 3, .inl f))]])) [bX2 b G (f_X2_takeDoor w (rAt f 3 0) (rAt f 3 1) (rAt f 3 2)), [(c0, .inl (G.2.1, 3, .inl f))]] := D_re hD (adc (bX2_ad _ _ _ _) (adc (row_ad _ _ _) adn))
      refine lv_if_eq (tgt := 158) hx hb dX2_take_151 (by decide) (fun c_151r => ?_) (fun c_151r => ?_)
      · have c_151 := b2i_fN c_151r
        refine lv_iconst (v := 0) hx hb dX2_take_158 (by decide) ?_
        have hP : PP G [bX2 b G (f_X2_take w x1 x2 f), [(c0, .inl (G.2.1, 3, .inl f))]] H := by
          have e0 : (f_X2_take w x1 x2 f) = (f_X2_takeDoor w (rAt f 3 0) (rAt f 3 1) (rAt f 3 2)) := by simp only [f_X2_take, if_pos h22_100, if_pos c_138, if_neg c_151] <;> rfl
          rw [e0]
          exact hP
        exact kr_sz hx hb hr hlocks dX2_take_159 rfl hP hS (sameAd_cons (bX2_ad _ _ _ _) (sameAd_cons (row_ad _ _ _) sameAd_nil)) ⟨by simp only [k_X2_take, if_pos h22_100, if_pos c_138, if_neg c_151] <;> rfl, rfl⟩
      · have c_151 := b2i_tP c_151r
        refine lv_iconst (v := 1) hx hb dX2_take_154 (by decide) ?_
        refine lv_goto (tgt := 159) hx hb dX2_take_155 (by decide) ?_
        have hP : PP G [bX2 b G (f_X2_take w x1 x2 f), [(c0, .inl (G.2.1, 3, .inl f))]] H := by
          have e0 : (f_X2_take w x1 x2 f) = (f_X2_takeDoor w (rAt f 3 0) (rAt f 3 1) (rAt f 3 2)) := by simp only [f_X2_take, if_pos h22_100, if_pos c_138, if_pos c_151] <;> rfl
          rw [e0]
          exact hP
        exact kr_sz hx hb hr hlocks dX2_take_159 rfl hP hS (sameAd_cons (bX2_ad _ _ _ _) (sameAd_cons (row_ad _ _ _) sameAd_nil)) ⟨by simp only [k_X2_take, if_pos h22_100, if_pos c_138, if_pos c_151] <;> rfl, rfl⟩
  by_cases h22_103 : x1 = 103
  · refine kb_tIn (tgt := 184) hx hb h22_103 dX2_take_22 (by decide) (by decide) rfl (by decide) ?_
    refine lv_iload_n hx hb dX2_take_184 rfl (lv_at hl 5 rfl) ?_
    refine lv_iconst (v := 3) hx hb dX2_take_185 (by decide) ?_
    refine lv_icmp_ne (tgt := 206) hx hb dX2_take_186 (by decide) (fun c_186 => ?_) (fun c_186 => ?_)
    · refine lv_iconst (v := 0) hx hb dX2_take_206 (by decide) ?_
      have hP : PP G [bX2 b G (f_X2_take w x1 x2 f), [(c0, .inl (G.2.1, 3, .inl f))]] H := by
        have e0 : (f_X2_take w x1 x2 f) = w := by simp only [f_X2_take, if_neg h22_100, if_pos h22_103, if_neg c_186] <;> rfl
        rw [e0]
        exact hP
      exact kr_sz hx hb hr hlocks dX2_take_207 rfl hP hS (sameAd_cons (bX2_ad _ _ _ _) (sameAd_cons (row_ad _ _ _) sameAd_nil)) ⟨by simp only [k_X2_take, if_neg h22_100, if_pos h22_103, if_neg c_186] <;> rfl, rfl⟩
    · refine lv_aload_n hx hb dX2_take_189 rfl (lv_at hl 3 rfl) ?_
      refine lv_iload hx hb dX2_take_190 (lv_at hl 2 rfl) ?_
      refine lv_iload hx hb dX2_take_192 (lv_at hl 1 rfl) ?_
      refine lv_iload hx hb dX2_take_194 (lv_at hl 0 rfl) ?_
      refine kcV_s hx hb hml hown hts hX hP hD hS (c_X2_takeGrudge l G b w (rAt f 3 0) (rAt f 3 1) (rAt f 3 2)) gX2_take_X2_takeGrudge 3 rfl rfl rfl hd_X2_takeGrudge ⟨Nat.le_of_ble_eq_true rfl, Nat.le_of_ble_eq_true rfl⟩ [0] (by decide) rfl 0 rfl rfl rfl hl.1 rfl rfl (Nat.le_of_ble_eq_true rfl) dX2_take_196 ⟨Nat.zero_le _, Nat.zero_le _⟩ (fun r_ bc_ hq_2 H locs hP hD hS => ?_)
      obtain ⟨rfl, rfl⟩ := hq_2
      have hP : PP G [bX2 b G (f_X2_takeGrudge w (rAt f 3 0) (rAt f 3 1) (rAt f 3 2)), [(c0, .inl (G.2.1, 3, .inl f))]] H := hP
      have hD : DD (AA (List.flatten [bX2 b G w, [(c0, .inl (G.2.1, 3, .inl f))]])) [bX2 b G (f_X2_takeGrudge w (rAt f 3 0) (rAt f 3 1) (rAt f 3 2)), [(c0, .inl (G.2.1, 3, .inl f))]] := D_re hD (adc (bX2_ad _ _ _ _) (adc (row_ad _ _ _) adn))
      refine lv_if_eq (tgt := 206) hx hb dX2_take_199 (by decide) (fun c_199r => ?_) (fun c_199r => ?_)
      · have c_199 := b2i_fN c_199r
        refine lv_iconst (v := 0) hx hb dX2_take_206 (by decide) ?_
        have hP : PP G [bX2 b G (f_X2_take w x1 x2 f), [(c0, .inl (G.2.1, 3, .inl f))]] H := by
          have e0 : (f_X2_take w x1 x2 f) = (f_X2_takeGrudge w (rAt f 3 0) (rAt f 3 1) (rAt f 3 2)) := by simp only [f_X2_take, if_neg h22_100, if_pos h22_103, if_pos c_186, if_neg c_199] <;> rfl
          rw [e0]
          exact hP
        exact kr_sz hx hb hr hlocks dX2_take_207 rfl hP hS (sameAd_cons (bX2_ad _ _ _ _) (sameAd_cons (row_ad _ _ _) sameAd_nil)) ⟨by simp only [k_X2_take, if_neg h22_100, if_pos h22_103, if_pos c_186, if_neg c_199] <;> rfl, rfl⟩
      · have c_199 := b2i_tP c_199r
        refine lv_iconst (v := 1) hx hb dX2_take_202 (by decide) ?_
        refine lv_goto (tgt := 207) hx hb dX2_take_203 (by decide) ?_
        have hP : PP G [bX2 b G (f_X2_take w x1 x2 f), [(c0, .inl (G.2.1, 3, .inl f))]] H := by
          have e0 : (f_X2_take w x1 x2 f) = (f_X2_takeGrudge w (rAt f 3 0) (rAt f 3 1) (rAt f 3 2)) := by simp only [f_X2_take, if_neg h22_100, if_pos h22_103, if_pos c_186, if_pos c_199] <;> rfl
          rw [e0]
          exact hP
        exact kr_sz hx hb hr hlocks dX2_take_207 rfl hP hS (sameAd_cons (bX2_ad _ _ _ _) (sameAd_cons (row_ad _ _ _) sameAd_nil)) ⟨by simp only [k_X2_take, if_neg h22_100, if_pos h22_103, if_pos c_186, if_pos c_199] <;> rfl, rfl⟩
  by_cases h22_108 : x1 = 108
  · refine kb_tIn (tgt := 160) hx hb h22_108 dX2_take_22 (by decide) (by decide) rfl (by decide) ?_
    refine lv_iload_n hx hb dX2_take_160 rfl (lv_at hl 5 rfl) ?_
    refine lv_iconst (v := 3) hx hb dX2_take_161 (by decide) ?_
    refine lv_icmp_ne (tgt := 182) hx hb dX2_take_162 (by decide) (fun c_162 => ?_) (fun c_162 => ?_)
    · refine lv_iconst (v := 0) hx hb dX2_take_182 (by decide) ?_
      have hP : PP G [bX2 b G (f_X2_take w x1 x2 f), [(c0, .inl (G.2.1, 3, .inl f))]] H := by
        have e0 : (f_X2_take w x1 x2 f) = w := by simp only [f_X2_take, if_neg h22_100, if_neg h22_103, if_pos h22_108, if_neg c_162] <;> rfl
        rw [e0]
        exact hP
      exact kr_sz hx hb hr hlocks dX2_take_183 rfl hP hS (sameAd_cons (bX2_ad _ _ _ _) (sameAd_cons (row_ad _ _ _) sameAd_nil)) ⟨by simp only [k_X2_take, if_neg h22_100, if_neg h22_103, if_pos h22_108, if_neg c_162] <;> rfl, rfl⟩
    · refine lv_aload_n hx hb dX2_take_165 rfl (lv_at hl 3 rfl) ?_
      refine lv_iload hx hb dX2_take_166 (lv_at hl 2 rfl) ?_
      refine lv_iload hx hb dX2_take_168 (lv_at hl 1 rfl) ?_
      refine lv_iload hx hb dX2_take_170 (lv_at hl 0 rfl) ?_
      refine kcV_s hx hb hml hown hts hX hP hD hS (c_X2_takeLodger l G b w (rAt f 3 0) (rAt f 3 1) (rAt f 3 2)) gX2_take_X2_takeLodger 3 rfl rfl rfl hd_X2_takeLodger ⟨Nat.le_of_ble_eq_true rfl, Nat.le_of_ble_eq_true rfl⟩ [0] (by decide) rfl 0 rfl rfl rfl hl.1 rfl rfl (Nat.le_of_ble_eq_true rfl) dX2_take_172 ⟨Nat.zero_le _, Nat.zero_le _⟩ (fun r_ bc_ hq_3 H locs hP hD hS => ?_)
      obtain ⟨rfl, rfl⟩ := hq_3
      have hP : PP G [bX2 b G (f_X2_takeLodger w (rAt f 3 0) (rAt f 3 1) (rAt f 3 2)), [(c0, .inl (G.2.1, 3, .inl f))]] H := hP
      have hD : DD (AA (List.flatten [bX2 b G w, [(c0, .inl (G.2.1, 3, .inl f))]])) [bX2 b G (f_X2_takeLodger w (rAt f 3 0) (rAt f 3 1) (rAt f 3 2)), [(c0, .inl (G.2.1, 3, .inl f))]] := D_re hD (adc (bX2_ad _ _ _ _) (adc (row_ad _ _ _) adn))
      refine lv_if_eq (tgt := 182) hx hb dX2_take_175 (by decide) (fun c_175r => ?_) (fun c_175r => ?_)
      · have c_175 := b2i_fN c_175r
        refine lv_iconst (v := 0) hx hb dX2_take_182 (by decide) ?_
        have hP : PP G [bX2 b G (f_X2_take w x1 x2 f), [(c0, .inl (G.2.1, 3, .inl f))]] H := by
          have e0 : (f_X2_take w x1 x2 f) = (f_X2_takeLodger w (rAt f 3 0) (rAt f 3 1) (rAt f 3 2)) := by simp only [f_X2_take, if_neg h22_100, if_neg h22_103, if_pos h22_108, if_pos c_162, if_neg c_175] <;> rfl
          rw [e0]
          exact hP
        exact kr_sz hx hb hr hlocks dX2_take_183 rfl hP hS (sameAd_cons (bX2_ad _ _ _ _) (sameAd_cons (row_ad _ _ _) sameAd_nil)) ⟨by simp only [k_X2_take, if_neg h22_100, if_neg h22_103, if_pos h22_108, if_pos c_162, if_neg c_175] <;> rfl, rfl⟩
      · have c_175 := b2i_tP c_175r
        refine lv_iconst (v := 1) hx hb dX2_take_178 (by decide) ?_
        refine lv_goto (tgt := 183) hx hb dX2_take_179 (by decide) ?_
        have hP : PP G [bX2 b G (f_X2_take w x1 x2 f), [(c0, .inl (G.2.1, 3, .inl f))]] H := by
          have e0 : (f_X2_take w x1 x2 f) = (f_X2_takeLodger w (rAt f 3 0) (rAt f 3 1) (rAt f 3 2)) := by simp only [f_X2_take, if_neg h22_100, if_neg h22_103, if_pos h22_108, if_pos c_162, if_pos c_175] <;> rfl
          rw [e0]
          exact hP
        exact kr_sz hx hb hr hlocks dX2_take_183 rfl hP hS (sameAd_cons (bX2_ad _ _ _ _) (sameAd_cons (row_ad _ _ _) sameAd_nil)) ⟨by simp only [k_X2_take, if_neg h22_100, if_neg h22_103, if_pos h22_108, if_pos c_162, if_pos c_175] <;> rfl, rfl⟩
  by_cases h22_111 : x1 = 111
  · refine kb_tIn (tgt := 250) hx hb h22_111 dX2_take_22 (by decide) (by decide) rfl (by decide) ?_
    refine lv_iload_n hx hb dX2_take_250 rfl (lv_at hl 5 rfl) ?_
    refine lv_iconst (v := 1) hx hb dX2_take_251 (by decide) ?_
    refine lv_icmp_ne (tgt := 268) hx hb dX2_take_252 (by decide) (fun c_252 => ?_) (fun c_252 => ?_)
    · refine lv_iconst (v := 0) hx hb dX2_take_268 (by decide) ?_
      have hP : PP G [bX2 b G (f_X2_take w x1 x2 f), [(c0, .inl (G.2.1, 3, .inl f))]] H := by
        have e0 : (f_X2_take w x1 x2 f) = w := by simp only [f_X2_take, if_neg h22_100, if_neg h22_103, if_neg h22_108, if_pos h22_111, if_neg c_252] <;> rfl
        rw [e0]
        exact hP
      exact kr_sz hx hb hr hlocks dX2_take_269 rfl hP hS (sameAd_cons (bX2_ad _ _ _ _) (sameAd_cons (row_ad _ _ _) sameAd_nil)) ⟨by simp only [k_X2_take, if_neg h22_100, if_neg h22_103, if_neg h22_108, if_pos h22_111, if_neg c_252] <;> rfl, rfl⟩
    · refine lv_aload_n hx hb dX2_take_255 rfl (lv_at hl 3 rfl) ?_
      refine lv_iload hx hb dX2_take_256 (lv_at hl 2 rfl) ?_
      refine kcV_s hx hb hml hown hts hX hP hD hS (c_X2_takeOil l G b w (rAt f 3 0)) gX2_take_X2_takeOil 1 rfl rfl rfl hd_X2_takeOil ⟨Nat.le_of_ble_eq_true rfl, Nat.le_of_ble_eq_true rfl⟩ [0] (by decide) rfl 0 rfl rfl rfl hl.1 rfl rfl (Nat.le_of_ble_eq_true rfl) dX2_take_258 ⟨Nat.zero_le _, Nat.zero_le _⟩ (fun r_ bc_ hq_4 H locs hP hD hS => ?_)
      obtain ⟨rfl, rfl⟩ := hq_4
      have hP : PP G [bX2 b G (f_X2_takeOil w (rAt f 3 0)), [(c0, .inl (G.2.1, 3, .inl f))]] H := hP
      have hD : DD (AA (List.flatten [bX2 b G w, [(c0, .inl (G.2.1, 3, .inl f))]])) [bX2 b G (f_X2_takeOil w (rAt f 3 0)), [(c0, .inl (G.2.1, 3, .inl f))]] := D_re hD (adc (bX2_ad _ _ _ _) (adc (row_ad _ _ _) adn))
      refine lv_if_eq (tgt := 268) hx hb dX2_take_261 (by decide) (fun c_261r => ?_) (fun c_261r => ?_)
      · have c_261 := b2i_fN c_261r
        refine lv_iconst (v := 0) hx hb dX2_take_268 (by decide) ?_
        have hP : PP G [bX2 b G (f_X2_take w x1 x2 f), [(c0, .inl (G.2.1, 3, .inl f))]] H := by
          have e0 : (f_X2_take w x1 x2 f) = (f_X2_takeOil w (rAt f 3 0)) := by simp only [f_X2_take, if_neg h22_100, if_neg h22_103, if_neg h22_108, if_pos h22_111, if_pos c_252, if_neg c_261] <;> rfl
          rw [e0]
          exact hP
        exact kr_sz hx hb hr hlocks dX2_take_269 rfl hP hS (sameAd_cons (bX2_ad _ _ _ _) (sameAd_cons (row_ad _ _ _) sameAd_nil)) ⟨by simp only [k_X2_take, if_neg h22_100, if_neg h22_103, if_neg h22_108, if_pos h22_111, if_pos c_252, if_neg c_261] <;> rfl, rfl⟩
      · have c_261 := b2i_tP c_261r
        refine lv_iconst (v := 1) hx hb dX2_take_264 (by decide) ?_
        refine lv_goto (tgt := 269) hx hb dX2_take_265 (by decide) ?_
        have hP : PP G [bX2 b G (f_X2_take w x1 x2 f), [(c0, .inl (G.2.1, 3, .inl f))]] H := by
          have e0 : (f_X2_take w x1 x2 f) = (f_X2_takeOil w (rAt f 3 0)) := by simp only [f_X2_take, if_neg h22_100, if_neg h22_103, if_neg h22_108, if_pos h22_111, if_pos c_252, if_pos c_261] <;> rfl
          rw [e0]
          exact hP
        exact kr_sz hx hb hr hlocks dX2_take_269 rfl hP hS (sameAd_cons (bX2_ad _ _ _ _) (sameAd_cons (row_ad _ _ _) sameAd_nil)) ⟨by simp only [k_X2_take, if_neg h22_100, if_neg h22_103, if_neg h22_108, if_pos h22_111, if_pos c_252, if_pos c_261] <;> rfl, rfl⟩
  by_cases h22_112 : x1 = 112
  · refine kb_tIn (tgt := 208) hx hb h22_112 dX2_take_22 (by decide) (by decide) rfl (by decide) ?_
    refine lv_iload_n hx hb dX2_take_208 rfl (lv_at hl 5 rfl) ?_
    refine lv_iconst (v := 2) hx hb dX2_take_209 (by decide) ?_
    refine lv_icmp_ne (tgt := 228) hx hb dX2_take_210 (by decide) (fun c_210 => ?_) (fun c_210 => ?_)
    · refine lv_iconst (v := 0) hx hb dX2_take_228 (by decide) ?_
      have hP : PP G [bX2 b G (f_X2_take w x1 x2 f), [(c0, .inl (G.2.1, 3, .inl f))]] H := by
        have e0 : (f_X2_take w x1 x2 f) = w := by simp only [f_X2_take, if_neg h22_100, if_neg h22_103, if_neg h22_108, if_neg h22_111, if_pos h22_112, if_neg c_210] <;> rfl
        rw [e0]
        exact hP
      exact kr_sz hx hb hr hlocks dX2_take_229 rfl hP hS (sameAd_cons (bX2_ad _ _ _ _) (sameAd_cons (row_ad _ _ _) sameAd_nil)) ⟨by simp only [k_X2_take, if_neg h22_100, if_neg h22_103, if_neg h22_108, if_neg h22_111, if_pos h22_112, if_neg c_210] <;> rfl, rfl⟩
    · refine lv_aload_n hx hb dX2_take_213 rfl (lv_at hl 3 rfl) ?_
      refine lv_iload hx hb dX2_take_214 (lv_at hl 2 rfl) ?_
      refine lv_iload hx hb dX2_take_216 (lv_at hl 1 rfl) ?_
      refine kcV_s hx hb hml hown hts hX hP hD hS (c_X2_takePassing l G b w (rAt f 3 0) (rAt f 3 1)) gX2_take_X2_takePassing 2 rfl rfl rfl hd_X2_takePassing ⟨Nat.le_of_ble_eq_true rfl, Nat.le_of_ble_eq_true rfl⟩ [0] (by decide) rfl 0 rfl rfl rfl hl.1 rfl rfl (Nat.le_of_ble_eq_true rfl) dX2_take_218 ⟨Nat.zero_le _, Nat.zero_le _⟩ (fun r_ bc_ hq_5 H locs hP hD hS => ?_)
      obtain ⟨rfl, rfl⟩ := hq_5
      have hP : PP G [bX2 b G (f_X2_takePassing w (rAt f 3 0) (rAt f 3 1)), [(c0, .inl (G.2.1, 3, .inl f))]] H := hP
      have hD : DD (AA (List.flatten [bX2 b G w, [(c0, .inl (G.2.1, 3, .inl f))]])) [bX2 b G (f_X2_takePassing w (rAt f 3 0) (rAt f 3 1)), [(c0, .inl (G.2.1, 3, .inl f))]] := D_re hD (adc (bX2_ad _ _ _ _) (adc (row_ad _ _ _) adn))
      refine lv_if_eq (tgt := 228) hx hb dX2_take_221 (by decide) (fun c_221r => ?_) (fun c_221r => ?_)
      · have c_221 := b2i_fN c_221r
        refine lv_iconst (v := 0) hx hb dX2_take_228 (by decide) ?_
        have hP : PP G [bX2 b G (f_X2_take w x1 x2 f), [(c0, .inl (G.2.1, 3, .inl f))]] H := by
          have e0 : (f_X2_take w x1 x2 f) = (f_X2_takePassing w (rAt f 3 0) (rAt f 3 1)) := by simp only [f_X2_take, if_neg h22_100, if_neg h22_103, if_neg h22_108, if_neg h22_111, if_pos h22_112, if_pos c_210, if_neg c_221] <;> rfl
          rw [e0]
          exact hP
        exact kr_sz hx hb hr hlocks dX2_take_229 rfl hP hS (sameAd_cons (bX2_ad _ _ _ _) (sameAd_cons (row_ad _ _ _) sameAd_nil)) ⟨by simp only [k_X2_take, if_neg h22_100, if_neg h22_103, if_neg h22_108, if_neg h22_111, if_pos h22_112, if_pos c_210, if_neg c_221] <;> rfl, rfl⟩
      · have c_221 := b2i_tP c_221r
        refine lv_iconst (v := 1) hx hb dX2_take_224 (by decide) ?_
        refine lv_goto (tgt := 229) hx hb dX2_take_225 (by decide) ?_
        have hP : PP G [bX2 b G (f_X2_take w x1 x2 f), [(c0, .inl (G.2.1, 3, .inl f))]] H := by
          have e0 : (f_X2_take w x1 x2 f) = (f_X2_takePassing w (rAt f 3 0) (rAt f 3 1)) := by simp only [f_X2_take, if_neg h22_100, if_neg h22_103, if_neg h22_108, if_neg h22_111, if_pos h22_112, if_pos c_210, if_pos c_221] <;> rfl
          rw [e0]
          exact hP
        exact kr_sz hx hb hr hlocks dX2_take_229 rfl hP hS (sameAd_cons (bX2_ad _ _ _ _) (sameAd_cons (row_ad _ _ _) sameAd_nil)) ⟨by simp only [k_X2_take, if_neg h22_100, if_neg h22_103, if_neg h22_108, if_neg h22_111, if_pos h22_112, if_pos c_210, if_pos c_221] <;> rfl, rfl⟩
  by_cases h22_114 : x1 = 114
  · refine kb_tIn (tgt := 116) hx hb h22_114 dX2_take_22 (by decide) (by decide) rfl (by decide) ?_
    refine lv_iload_n hx hb dX2_take_116 rfl (lv_at hl 5 rfl) ?_
    refine lv_iconst (v := 1) hx hb dX2_take_117 (by decide) ?_
    refine lv_icmp_ne (tgt := 134) hx hb dX2_take_118 (by decide) (fun c_118 => ?_) (fun c_118 => ?_)
    · refine lv_iconst (v := 0) hx hb dX2_take_134 (by decide) ?_
      have hP : PP G [bX2 b G (f_X2_take w x1 x2 f), [(c0, .inl (G.2.1, 3, .inl f))]] H := by
        have e0 : (f_X2_take w x1 x2 f) = w := by simp only [f_X2_take, if_neg h22_100, if_neg h22_103, if_neg h22_108, if_neg h22_111, if_neg h22_112, if_pos h22_114, if_neg c_118] <;> rfl
        rw [e0]
        exact hP
      exact kr_sz hx hb hr hlocks dX2_take_135 rfl hP hS (sameAd_cons (bX2_ad _ _ _ _) (sameAd_cons (row_ad _ _ _) sameAd_nil)) ⟨by simp only [k_X2_take, if_neg h22_100, if_neg h22_103, if_neg h22_108, if_neg h22_111, if_neg h22_112, if_pos h22_114, if_neg c_118] <;> rfl, rfl⟩
    · refine lv_aload_n hx hb dX2_take_121 rfl (lv_at hl 3 rfl) ?_
      refine lv_iload hx hb dX2_take_122 (lv_at hl 2 rfl) ?_
      refine kcV_s hx hb hml hown hts hX hP hD hS (c_X2_takeRooms l G b w (rAt f 3 0)) gX2_take_X2_takeRooms 1 rfl rfl rfl hd_X2_takeRooms ⟨Nat.le_of_ble_eq_true rfl, Nat.le_of_ble_eq_true rfl⟩ [0] (by decide) rfl 0 rfl rfl rfl hl.1 rfl rfl (Nat.le_of_ble_eq_true rfl) dX2_take_124 ⟨Nat.zero_le _, Nat.zero_le _⟩ (fun r_ bc_ hq_6 H locs hP hD hS => ?_)
      obtain ⟨rfl, rfl⟩ := hq_6
      have hP : PP G [bX2 b G (f_X2_takeRooms w (rAt f 3 0)), [(c0, .inl (G.2.1, 3, .inl f))]] H := hP
      have hD : DD (AA (List.flatten [bX2 b G w, [(c0, .inl (G.2.1, 3, .inl f))]])) [bX2 b G (f_X2_takeRooms w (rAt f 3 0)), [(c0, .inl (G.2.1, 3, .inl f))]] := D_re hD (adc (bX2_ad _ _ _ _) (adc (row_ad _ _ _) adn))
      refine lv_if_eq (tgt := 134) hx hb dX2_take_127 (by decide) (fun c_127r => ?_) (fun c_127r => ?_)
      · have c_127 := b2i_fN c_127r
        refine lv_iconst (v := 0) hx hb dX2_take_134 (by decide) ?_
        have hP : PP G [bX2 b G (f_X2_take w x1 x2 f), [(c0, .inl (G.2.1, 3, .inl f))]] H := by
          have e0 : (f_X2_take w x1 x2 f) = (f_X2_takeRooms w (rAt f 3 0)) := by simp only [f_X2_take, if_neg h22_100, if_neg h22_103, if_neg h22_108, if_neg h22_111, if_neg h22_112, if_pos h22_114, if_pos c_118, if_neg c_127] <;> rfl
          rw [e0]
          exact hP
        exact kr_sz hx hb hr hlocks dX2_take_135 rfl hP hS (sameAd_cons (bX2_ad _ _ _ _) (sameAd_cons (row_ad _ _ _) sameAd_nil)) ⟨by simp only [k_X2_take, if_neg h22_100, if_neg h22_103, if_neg h22_108, if_neg h22_111, if_neg h22_112, if_pos h22_114, if_pos c_118, if_neg c_127] <;> rfl, rfl⟩
      · have c_127 := b2i_tP c_127r
        refine lv_iconst (v := 1) hx hb dX2_take_130 (by decide) ?_
        refine lv_goto (tgt := 135) hx hb dX2_take_131 (by decide) ?_
        have hP : PP G [bX2 b G (f_X2_take w x1 x2 f), [(c0, .inl (G.2.1, 3, .inl f))]] H := by
          have e0 : (f_X2_take w x1 x2 f) = (f_X2_takeRooms w (rAt f 3 0)) := by simp only [f_X2_take, if_neg h22_100, if_neg h22_103, if_neg h22_108, if_neg h22_111, if_neg h22_112, if_pos h22_114, if_pos c_118, if_pos c_127] <;> rfl
          rw [e0]
          exact hP
        exact kr_sz hx hb hr hlocks dX2_take_135 rfl hP hS (sameAd_cons (bX2_ad _ _ _ _) (sameAd_cons (row_ad _ _ _) sameAd_nil)) ⟨by simp only [k_X2_take, if_neg h22_100, if_neg h22_103, if_neg h22_108, if_neg h22_111, if_neg h22_112, if_pos h22_114, if_pos c_118, if_pos c_127] <;> rfl, rfl⟩
  by_cases h22_117 : x1 = 117
  · refine kb_tIn (tgt := 270) hx hb h22_117 dX2_take_22 (by decide) (by decide) rfl (by decide) ?_
    refine lv_iload_n hx hb dX2_take_270 rfl (lv_at hl 5 rfl) ?_
    refine lv_iconst (v := 2) hx hb dX2_take_271 (by decide) ?_
    refine lv_icmp_ne (tgt := 290) hx hb dX2_take_272 (by decide) (fun c_272 => ?_) (fun c_272 => ?_)
    · refine lv_iconst (v := 0) hx hb dX2_take_290 (by decide) ?_
      have hP : PP G [bX2 b G (f_X2_take w x1 x2 f), [(c0, .inl (G.2.1, 3, .inl f))]] H := by
        have e0 : (f_X2_take w x1 x2 f) = w := by simp only [f_X2_take, if_neg h22_100, if_neg h22_103, if_neg h22_108, if_neg h22_111, if_neg h22_112, if_neg h22_114, if_pos h22_117, if_neg c_272] <;> rfl
        rw [e0]
        exact hP
      exact kr_sz hx hb hr hlocks dX2_take_291 rfl hP hS (sameAd_cons (bX2_ad _ _ _ _) (sameAd_cons (row_ad _ _ _) sameAd_nil)) ⟨by simp only [k_X2_take, if_neg h22_100, if_neg h22_103, if_neg h22_108, if_neg h22_111, if_neg h22_112, if_neg h22_114, if_pos h22_117, if_neg c_272] <;> rfl, rfl⟩
    · refine lv_aload_n hx hb dX2_take_275 rfl (lv_at hl 3 rfl) ?_
      refine lv_iload hx hb dX2_take_276 (lv_at hl 2 rfl) ?_
      refine lv_iload hx hb dX2_take_278 (lv_at hl 1 rfl) ?_
      refine kcV_s hx hb hml hown hts hX hP hD hS (c_X2_takeDraught l G b w (rAt f 3 0) (rAt f 3 1)) gX2_take_X2_takeDraught 2 rfl rfl rfl hd_X2_takeDraught ⟨Nat.le_of_ble_eq_true rfl, Nat.le_of_ble_eq_true rfl⟩ [0] (by decide) rfl 0 rfl rfl rfl hl.1 rfl rfl (Nat.le_of_ble_eq_true rfl) dX2_take_280 ⟨Nat.zero_le _, Nat.zero_le _⟩ (fun r_ bc_ hq_7 H locs hP hD hS => ?_)
      obtain ⟨rfl, rfl⟩ := hq_7
      have hP : PP G [bX2 b G (f_X2_takeDraught w (rAt f 3 0) (rAt f 3 1)), [(c0, .inl (G.2.1, 3, .inl f))]] H := hP
      have hD : DD (AA (List.flatten [bX2 b G w, [(c0, .inl (G.2.1, 3, .inl f))]])) [bX2 b G (f_X2_takeDraught w (rAt f 3 0) (rAt f 3 1)), [(c0, .inl (G.2.1, 3, .inl f))]] := D_re hD (adc (bX2_ad _ _ _ _) (adc (row_ad _ _ _) adn))
      refine lv_if_eq (tgt := 290) hx hb dX2_take_283 (by decide) (fun c_283r => ?_) (fun c_283r => ?_)
      · have c_283 := b2i_fN c_283r
        refine lv_iconst (v := 0) hx hb dX2_take_290 (by decide) ?_
        have hP : PP G [bX2 b G (f_X2_take w x1 x2 f), [(c0, .inl (G.2.1, 3, .inl f))]] H := by
          have e0 : (f_X2_take w x1 x2 f) = (f_X2_takeDraught w (rAt f 3 0) (rAt f 3 1)) := by simp only [f_X2_take, if_neg h22_100, if_neg h22_103, if_neg h22_108, if_neg h22_111, if_neg h22_112, if_neg h22_114, if_pos h22_117, if_pos c_272, if_neg c_283] <;> rfl
          rw [e0]
          exact hP
        exact kr_sz hx hb hr hlocks dX2_take_291 rfl hP hS (sameAd_cons (bX2_ad _ _ _ _) (sameAd_cons (row_ad _ _ _) sameAd_nil)) ⟨by simp only [k_X2_take, if_neg h22_100, if_neg h22_103, if_neg h22_108, if_neg h22_111, if_neg h22_112, if_neg h22_114, if_pos h22_117, if_pos c_272, if_neg c_283] <;> rfl, rfl⟩
      · have c_283 := b2i_tP c_283r
        refine lv_iconst (v := 1) hx hb dX2_take_286 (by decide) ?_
        refine lv_goto (tgt := 291) hx hb dX2_take_287 (by decide) ?_
        have hP : PP G [bX2 b G (f_X2_take w x1 x2 f), [(c0, .inl (G.2.1, 3, .inl f))]] H := by
          have e0 : (f_X2_take w x1 x2 f) = (f_X2_takeDraught w (rAt f 3 0) (rAt f 3 1)) := by simp only [f_X2_take, if_neg h22_100, if_neg h22_103, if_neg h22_108, if_neg h22_111, if_neg h22_112, if_neg h22_114, if_pos h22_117, if_pos c_272, if_pos c_283] <;> rfl
          rw [e0]
          exact hP
        exact kr_sz hx hb hr hlocks dX2_take_291 rfl hP hS (sameAd_cons (bX2_ad _ _ _ _) (sameAd_cons (row_ad _ _ _) sameAd_nil)) ⟨by simp only [k_X2_take, if_neg h22_100, if_neg h22_103, if_neg h22_108, if_neg h22_111, if_neg h22_112, if_neg h22_114, if_pos h22_117, if_pos c_272, if_pos c_283] <;> rfl, rfl⟩
  by_cases h22_119 : x1 = 119
  · refine kb_tIn (tgt := 230) hx hb h22_119 dX2_take_22 (by decide) (by decide) rfl (by decide) ?_
    refine lv_iload_n hx hb dX2_take_230 rfl (lv_at hl 5 rfl) ?_
    refine lv_iconst (v := 1) hx hb dX2_take_231 (by decide) ?_
    refine lv_icmp_ne (tgt := 248) hx hb dX2_take_232 (by decide) (fun c_232 => ?_) (fun c_232 => ?_)
    · refine lv_iconst (v := 0) hx hb dX2_take_248 (by decide) ?_
      have hP : PP G [bX2 b G (f_X2_take w x1 x2 f), [(c0, .inl (G.2.1, 3, .inl f))]] H := by
        have e0 : (f_X2_take w x1 x2 f) = w := by simp only [f_X2_take, if_neg h22_100, if_neg h22_103, if_neg h22_108, if_neg h22_111, if_neg h22_112, if_neg h22_114, if_neg h22_117, if_pos h22_119, if_neg c_232] <;> rfl
        rw [e0]
        exact hP
      exact kr_sz hx hb hr hlocks dX2_take_249 rfl hP hS (sameAd_cons (bX2_ad _ _ _ _) (sameAd_cons (row_ad _ _ _) sameAd_nil)) ⟨by simp only [k_X2_take, if_neg h22_100, if_neg h22_103, if_neg h22_108, if_neg h22_111, if_neg h22_112, if_neg h22_114, if_neg h22_117, if_pos h22_119, if_neg c_232] <;> rfl, rfl⟩
    · refine lv_aload_n hx hb dX2_take_235 rfl (lv_at hl 3 rfl) ?_
      refine lv_iload hx hb dX2_take_236 (lv_at hl 2 rfl) ?_
      refine kcV_s hx hb hml hown hts hX hP hD hS (c_X2_takeWear l G b w (rAt f 3 0)) gX2_take_X2_takeWear 1 rfl rfl rfl hd_X2_takeWear ⟨Nat.le_of_ble_eq_true rfl, Nat.le_of_ble_eq_true rfl⟩ [0] (by decide) rfl 0 rfl rfl rfl hl.1 rfl rfl (Nat.le_of_ble_eq_true rfl) dX2_take_238 ⟨Nat.zero_le _, Nat.zero_le _⟩ (fun r_ bc_ hq_8 H locs hP hD hS => ?_)
      obtain ⟨rfl, rfl⟩ := hq_8
      have hP : PP G [bX2 b G (f_X2_takeWear w (rAt f 3 0)), [(c0, .inl (G.2.1, 3, .inl f))]] H := hP
      have hD : DD (AA (List.flatten [bX2 b G w, [(c0, .inl (G.2.1, 3, .inl f))]])) [bX2 b G (f_X2_takeWear w (rAt f 3 0)), [(c0, .inl (G.2.1, 3, .inl f))]] := D_re hD (adc (bX2_ad _ _ _ _) (adc (row_ad _ _ _) adn))
      refine lv_if_eq (tgt := 248) hx hb dX2_take_241 (by decide) (fun c_241r => ?_) (fun c_241r => ?_)
      · have c_241 := b2i_fN c_241r
        refine lv_iconst (v := 0) hx hb dX2_take_248 (by decide) ?_
        have hP : PP G [bX2 b G (f_X2_take w x1 x2 f), [(c0, .inl (G.2.1, 3, .inl f))]] H := by
          have e0 : (f_X2_take w x1 x2 f) = (f_X2_takeWear w (rAt f 3 0)) := by simp only [f_X2_take, if_neg h22_100, if_neg h22_103, if_neg h22_108, if_neg h22_111, if_neg h22_112, if_neg h22_114, if_neg h22_117, if_pos h22_119, if_pos c_232, if_neg c_241] <;> rfl
          rw [e0]
          exact hP
        exact kr_sz hx hb hr hlocks dX2_take_249 rfl hP hS (sameAd_cons (bX2_ad _ _ _ _) (sameAd_cons (row_ad _ _ _) sameAd_nil)) ⟨by simp only [k_X2_take, if_neg h22_100, if_neg h22_103, if_neg h22_108, if_neg h22_111, if_neg h22_112, if_neg h22_114, if_neg h22_117, if_pos h22_119, if_pos c_232, if_neg c_241] <;> rfl, rfl⟩
      · have c_241 := b2i_tP c_241r
        refine lv_iconst (v := 1) hx hb dX2_take_244 (by decide) ?_
        refine lv_goto (tgt := 249) hx hb dX2_take_245 (by decide) ?_
        have hP : PP G [bX2 b G (f_X2_take w x1 x2 f), [(c0, .inl (G.2.1, 3, .inl f))]] H := by
          have e0 : (f_X2_take w x1 x2 f) = (f_X2_takeWear w (rAt f 3 0)) := by simp only [f_X2_take, if_neg h22_100, if_neg h22_103, if_neg h22_108, if_neg h22_111, if_neg h22_112, if_neg h22_114, if_neg h22_117, if_pos h22_119, if_pos c_232, if_pos c_241] <;> rfl
          rw [e0]
          exact hP
        exact kr_sz hx hb hr hlocks dX2_take_249 rfl hP hS (sameAd_cons (bX2_ad _ _ _ _) (sameAd_cons (row_ad _ _ _) sameAd_nil)) ⟨by simp only [k_X2_take, if_neg h22_100, if_neg h22_103, if_neg h22_108, if_neg h22_111, if_neg h22_112, if_neg h22_114, if_neg h22_117, if_pos h22_119, if_pos c_232, if_pos c_241] <;> rfl, rfl⟩
  by_cases h22_101 : x1 = 101
  · refine kb_tIn (tgt := 292) hx hb h22_101 dX2_take_22 (by decide) (by decide) rfl (by decide) ?_
    refine lv_iconst (v := 0) hx hb dX2_take_292 (by decide) ?_
    have hP : PP G [bX2 b G (f_X2_take w x1 x2 f), [(c0, .inl (G.2.1, 3, .inl f))]] H := by
      have e0 : (f_X2_take w x1 x2 f) = w := by simp only [f_X2_take, if_neg h22_100, if_neg h22_103, if_neg h22_108, if_neg h22_111, if_neg h22_112, if_neg h22_114, if_neg h22_117, if_neg h22_119, if_pos h22_101] <;> rfl
      rw [e0]
      exact hP
    exact kr_sz hx hb hr hlocks dX2_take_293 rfl hP hS (sameAd_cons (bX2_ad _ _ _ _) (sameAd_cons (row_ad _ _ _) sameAd_nil)) ⟨by simp only [k_X2_take, if_neg h22_100, if_neg h22_103, if_neg h22_108, if_neg h22_111, if_neg h22_112, if_neg h22_114, if_neg h22_117, if_neg h22_119, if_pos h22_101] <;> rfl, rfl⟩
  by_cases h22_102 : x1 = 102
  · refine kb_tIn (tgt := 292) hx hb h22_102 dX2_take_22 (by decide) (by decide) rfl (by decide) ?_
    refine lv_iconst (v := 0) hx hb dX2_take_292 (by decide) ?_
    have hP : PP G [bX2 b G (f_X2_take w x1 x2 f), [(c0, .inl (G.2.1, 3, .inl f))]] H := by
      have e0 : (f_X2_take w x1 x2 f) = w := by simp only [f_X2_take, if_neg h22_100, if_neg h22_103, if_neg h22_108, if_neg h22_111, if_neg h22_112, if_neg h22_114, if_neg h22_117, if_neg h22_119, if_neg h22_101, if_pos h22_102] <;> rfl
      rw [e0]
      exact hP
    exact kr_sz hx hb hr hlocks dX2_take_293 rfl hP hS (sameAd_cons (bX2_ad _ _ _ _) (sameAd_cons (row_ad _ _ _) sameAd_nil)) ⟨by simp only [k_X2_take, if_neg h22_100, if_neg h22_103, if_neg h22_108, if_neg h22_111, if_neg h22_112, if_neg h22_114, if_neg h22_117, if_neg h22_119, if_neg h22_101, if_pos h22_102] <;> rfl, rfl⟩
  by_cases h22_104 : x1 = 104
  · refine kb_tIn (tgt := 292) hx hb h22_104 dX2_take_22 (by decide) (by decide) rfl (by decide) ?_
    refine lv_iconst (v := 0) hx hb dX2_take_292 (by decide) ?_
    have hP : PP G [bX2 b G (f_X2_take w x1 x2 f), [(c0, .inl (G.2.1, 3, .inl f))]] H := by
      have e0 : (f_X2_take w x1 x2 f) = w := by simp only [f_X2_take, if_neg h22_100, if_neg h22_103, if_neg h22_108, if_neg h22_111, if_neg h22_112, if_neg h22_114, if_neg h22_117, if_neg h22_119, if_neg h22_101, if_neg h22_102, if_pos h22_104] <;> rfl
      rw [e0]
      exact hP
    exact kr_sz hx hb hr hlocks dX2_take_293 rfl hP hS (sameAd_cons (bX2_ad _ _ _ _) (sameAd_cons (row_ad _ _ _) sameAd_nil)) ⟨by simp only [k_X2_take, if_neg h22_100, if_neg h22_103, if_neg h22_108, if_neg h22_111, if_neg h22_112, if_neg h22_114, if_neg h22_117, if_neg h22_119, if_neg h22_101, if_neg h22_102, if_pos h22_104] <;> rfl, rfl⟩
  by_cases h22_105 : x1 = 105
  · refine kb_tIn (tgt := 292) hx hb h22_105 dX2_take_22 (by decide) (by decide) rfl (by decide) ?_
    refine lv_iconst (v := 0) hx hb dX2_take_292 (by decide) ?_
    have hP : PP G [bX2 b G (f_X2_take w x1 x2 f), [(c0, .inl (G.2.1, 3, .inl f))]] H := by
      have e0 : (f_X2_take w x1 x2 f) = w := by simp only [f_X2_take, if_neg h22_100, if_neg h22_103, if_neg h22_108, if_neg h22_111, if_neg h22_112, if_neg h22_114, if_neg h22_117, if_neg h22_119, if_neg h22_101, if_neg h22_102, if_neg h22_104, if_pos h22_105] <;> rfl
      rw [e0]
      exact hP
    exact kr_sz hx hb hr hlocks dX2_take_293 rfl hP hS (sameAd_cons (bX2_ad _ _ _ _) (sameAd_cons (row_ad _ _ _) sameAd_nil)) ⟨by simp only [k_X2_take, if_neg h22_100, if_neg h22_103, if_neg h22_108, if_neg h22_111, if_neg h22_112, if_neg h22_114, if_neg h22_117, if_neg h22_119, if_neg h22_101, if_neg h22_102, if_neg h22_104, if_pos h22_105] <;> rfl, rfl⟩
  by_cases h22_106 : x1 = 106
  · refine kb_tIn (tgt := 292) hx hb h22_106 dX2_take_22 (by decide) (by decide) rfl (by decide) ?_
    refine lv_iconst (v := 0) hx hb dX2_take_292 (by decide) ?_
    have hP : PP G [bX2 b G (f_X2_take w x1 x2 f), [(c0, .inl (G.2.1, 3, .inl f))]] H := by
      have e0 : (f_X2_take w x1 x2 f) = w := by simp only [f_X2_take, if_neg h22_100, if_neg h22_103, if_neg h22_108, if_neg h22_111, if_neg h22_112, if_neg h22_114, if_neg h22_117, if_neg h22_119, if_neg h22_101, if_neg h22_102, if_neg h22_104, if_neg h22_105, if_pos h22_106] <;> rfl
      rw [e0]
      exact hP
    exact kr_sz hx hb hr hlocks dX2_take_293 rfl hP hS (sameAd_cons (bX2_ad _ _ _ _) (sameAd_cons (row_ad _ _ _) sameAd_nil)) ⟨by simp only [k_X2_take, if_neg h22_100, if_neg h22_103, if_neg h22_108, if_neg h22_111, if_neg h22_112, if_neg h22_114, if_neg h22_117, if_neg h22_119, if_neg h22_101, if_neg h22_102, if_neg h22_104, if_neg h22_105, if_pos h22_106] <;> rfl, rfl⟩
  by_cases h22_107 : x1 = 107
  · refine kb_tIn (tgt := 292) hx hb h22_107 dX2_take_22 (by decide) (by decide) rfl (by decide) ?_
    refine lv_iconst (v := 0) hx hb dX2_take_292 (by decide) ?_
    have hP : PP G [bX2 b G (f_X2_take w x1 x2 f), [(c0, .inl (G.2.1, 3, .inl f))]] H := by
      have e0 : (f_X2_take w x1 x2 f) = w := by simp only [f_X2_take, if_neg h22_100, if_neg h22_103, if_neg h22_108, if_neg h22_111, if_neg h22_112, if_neg h22_114, if_neg h22_117, if_neg h22_119, if_neg h22_101, if_neg h22_102, if_neg h22_104, if_neg h22_105, if_neg h22_106, if_pos h22_107] <;> rfl
      rw [e0]
      exact hP
    exact kr_sz hx hb hr hlocks dX2_take_293 rfl hP hS (sameAd_cons (bX2_ad _ _ _ _) (sameAd_cons (row_ad _ _ _) sameAd_nil)) ⟨by simp only [k_X2_take, if_neg h22_100, if_neg h22_103, if_neg h22_108, if_neg h22_111, if_neg h22_112, if_neg h22_114, if_neg h22_117, if_neg h22_119, if_neg h22_101, if_neg h22_102, if_neg h22_104, if_neg h22_105, if_neg h22_106, if_pos h22_107] <;> rfl, rfl⟩
  by_cases h22_109 : x1 = 109
  · refine kb_tIn (tgt := 292) hx hb h22_109 dX2_take_22 (by decide) (by decide) rfl (by decide) ?_
    refine lv_iconst (v := 0) hx hb dX2_take_292 (by decide) ?_
    have hP : PP G [bX2 b G (f_X2_take w x1 x2 f), [(c0, .inl (G.2.1, 3, .inl f))]] H := by
      have e0 : (f_X2_take w x1 x2 f) = w := by simp only [f_X2_take, if_neg h22_100, if_neg h22_103, if_neg h22_108, if_neg h22_111, if_neg h22_112, if_neg h22_114, if_neg h22_117, if_neg h22_119, if_neg h22_101, if_neg h22_102, if_neg h22_104, if_neg h22_105, if_neg h22_106, if_neg h22_107, if_pos h22_109] <;> rfl
      rw [e0]
      exact hP
    exact kr_sz hx hb hr hlocks dX2_take_293 rfl hP hS (sameAd_cons (bX2_ad _ _ _ _) (sameAd_cons (row_ad _ _ _) sameAd_nil)) ⟨by simp only [k_X2_take, if_neg h22_100, if_neg h22_103, if_neg h22_108, if_neg h22_111, if_neg h22_112, if_neg h22_114, if_neg h22_117, if_neg h22_119, if_neg h22_101, if_neg h22_102, if_neg h22_104, if_neg h22_105, if_neg h22_106, if_neg h22_107, if_pos h22_109] <;> rfl, rfl⟩
  by_cases h22_110 : x1 = 110
  · refine kb_tIn (tgt := 292) hx hb h22_110 dX2_take_22 (by decide) (by decide) rfl (by decide) ?_
    refine lv_iconst (v := 0) hx hb dX2_take_292 (by decide) ?_
    have hP : PP G [bX2 b G (f_X2_take w x1 x2 f), [(c0, .inl (G.2.1, 3, .inl f))]] H := by
      have e0 : (f_X2_take w x1 x2 f) = w := by simp only [f_X2_take, if_neg h22_100, if_neg h22_103, if_neg h22_108, if_neg h22_111, if_neg h22_112, if_neg h22_114, if_neg h22_117, if_neg h22_119, if_neg h22_101, if_neg h22_102, if_neg h22_104, if_neg h22_105, if_neg h22_106, if_neg h22_107, if_neg h22_109, if_pos h22_110] <;> rfl
      rw [e0]
      exact hP
    exact kr_sz hx hb hr hlocks dX2_take_293 rfl hP hS (sameAd_cons (bX2_ad _ _ _ _) (sameAd_cons (row_ad _ _ _) sameAd_nil)) ⟨by simp only [k_X2_take, if_neg h22_100, if_neg h22_103, if_neg h22_108, if_neg h22_111, if_neg h22_112, if_neg h22_114, if_neg h22_117, if_neg h22_119, if_neg h22_101, if_neg h22_102, if_neg h22_104, if_neg h22_105, if_neg h22_106, if_neg h22_107, if_neg h22_109, if_pos h22_110] <;> rfl, rfl⟩
  by_cases h22_113 : x1 = 113
  · refine kb_tIn (tgt := 292) hx hb h22_113 dX2_take_22 (by decide) (by decide) rfl (by decide) ?_
    refine lv_iconst (v := 0) hx hb dX2_take_292 (by decide) ?_
    have hP : PP G [bX2 b G (f_X2_take w x1 x2 f), [(c0, .inl (G.2.1, 3, .inl f))]] H := by
      have e0 : (f_X2_take w x1 x2 f) = w := by simp only [f_X2_take, if_neg h22_100, if_neg h22_103, if_neg h22_108, if_neg h22_111, if_neg h22_112, if_neg h22_114, if_neg h22_117, if_neg h22_119, if_neg h22_101, if_neg h22_102, if_neg h22_104, if_neg h22_105, if_neg h22_106, if_neg h22_107, if_neg h22_109, if_neg h22_110, if_pos h22_113] <;> rfl
      rw [e0]
      exact hP
    exact kr_sz hx hb hr hlocks dX2_take_293 rfl hP hS (sameAd_cons (bX2_ad _ _ _ _) (sameAd_cons (row_ad _ _ _) sameAd_nil)) ⟨by simp only [k_X2_take, if_neg h22_100, if_neg h22_103, if_neg h22_108, if_neg h22_111, if_neg h22_112, if_neg h22_114, if_neg h22_117, if_neg h22_119, if_neg h22_101, if_neg h22_102, if_neg h22_104, if_neg h22_105, if_neg h22_106, if_neg h22_107, if_neg h22_109, if_neg h22_110, if_pos h22_113] <;> rfl, rfl⟩
  by_cases h22_115 : x1 = 115
  · refine kb_tIn (tgt := 292) hx hb h22_115 dX2_take_22 (by decide) (by decide) rfl (by decide) ?_
    refine lv_iconst (v := 0) hx hb dX2_take_292 (by decide) ?_
    have hP : PP G [bX2 b G (f_X2_take w x1 x2 f), [(c0, .inl (G.2.1, 3, .inl f))]] H := by
      have e0 : (f_X2_take w x1 x2 f) = w := by simp only [f_X2_take, if_neg h22_100, if_neg h22_103, if_neg h22_108, if_neg h22_111, if_neg h22_112, if_neg h22_114, if_neg h22_117, if_neg h22_119, if_neg h22_101, if_neg h22_102, if_neg h22_104, if_neg h22_105, if_neg h22_106, if_neg h22_107, if_neg h22_109, if_neg h22_110, if_neg h22_113, if_pos h22_115] <;> rfl
      rw [e0]
      exact hP
    exact kr_sz hx hb hr hlocks dX2_take_293 rfl hP hS (sameAd_cons (bX2_ad _ _ _ _) (sameAd_cons (row_ad _ _ _) sameAd_nil)) ⟨by simp only [k_X2_take, if_neg h22_100, if_neg h22_103, if_neg h22_108, if_neg h22_111, if_neg h22_112, if_neg h22_114, if_neg h22_117, if_neg h22_119, if_neg h22_101, if_neg h22_102, if_neg h22_104, if_neg h22_105, if_neg h22_106, if_neg h22_107, if_neg h22_109, if_neg h22_110, if_neg h22_113, if_pos h22_115] <;> rfl, rfl⟩
  by_cases h22_116 : x1 = 116
  · refine kb_tIn (tgt := 292) hx hb h22_116 dX2_take_22 (by decide) (by decide) rfl (by decide) ?_
    refine lv_iconst (v := 0) hx hb dX2_take_292 (by decide) ?_
    have hP : PP G [bX2 b G (f_X2_take w x1 x2 f), [(c0, .inl (G.2.1, 3, .inl f))]] H := by
      have e0 : (f_X2_take w x1 x2 f) = w := by simp only [f_X2_take, if_neg h22_100, if_neg h22_103, if_neg h22_108, if_neg h22_111, if_neg h22_112, if_neg h22_114, if_neg h22_117, if_neg h22_119, if_neg h22_101, if_neg h22_102, if_neg h22_104, if_neg h22_105, if_neg h22_106, if_neg h22_107, if_neg h22_109, if_neg h22_110, if_neg h22_113, if_neg h22_115, if_pos h22_116] <;> rfl
      rw [e0]
      exact hP
    exact kr_sz hx hb hr hlocks dX2_take_293 rfl hP hS (sameAd_cons (bX2_ad _ _ _ _) (sameAd_cons (row_ad _ _ _) sameAd_nil)) ⟨by simp only [k_X2_take, if_neg h22_100, if_neg h22_103, if_neg h22_108, if_neg h22_111, if_neg h22_112, if_neg h22_114, if_neg h22_117, if_neg h22_119, if_neg h22_101, if_neg h22_102, if_neg h22_104, if_neg h22_105, if_neg h22_106, if_neg h22_107, if_neg h22_109, if_neg h22_110, if_neg h22_113, if_neg h22_115, if_pos h22_116] <;> rfl, rfl⟩
  by_cases h22_118 : x1 = 118
  · refine kb_tIn (tgt := 292) hx hb h22_118 dX2_take_22 (by decide) (by decide) rfl (by decide) ?_
    refine lv_iconst (v := 0) hx hb dX2_take_292 (by decide) ?_
    have hP : PP G [bX2 b G (f_X2_take w x1 x2 f), [(c0, .inl (G.2.1, 3, .inl f))]] H := by
      have e0 : (f_X2_take w x1 x2 f) = w := by simp only [f_X2_take, if_neg h22_100, if_neg h22_103, if_neg h22_108, if_neg h22_111, if_neg h22_112, if_neg h22_114, if_neg h22_117, if_neg h22_119, if_neg h22_101, if_neg h22_102, if_neg h22_104, if_neg h22_105, if_neg h22_106, if_neg h22_107, if_neg h22_109, if_neg h22_110, if_neg h22_113, if_neg h22_115, if_neg h22_116, if_pos h22_118] <;> rfl
      rw [e0]
      exact hP
    exact kr_sz hx hb hr hlocks dX2_take_293 rfl hP hS (sameAd_cons (bX2_ad _ _ _ _) (sameAd_cons (row_ad _ _ _) sameAd_nil)) ⟨by simp only [k_X2_take, if_neg h22_100, if_neg h22_103, if_neg h22_108, if_neg h22_111, if_neg h22_112, if_neg h22_114, if_neg h22_117, if_neg h22_119, if_neg h22_101, if_neg h22_102, if_neg h22_104, if_neg h22_105, if_neg h22_106, if_neg h22_107, if_neg h22_109, if_neg h22_110, if_neg h22_113, if_neg h22_115, if_neg h22_116, if_pos h22_118] <;> rfl, rfl⟩
  have t22_100 : x1.toInt ≠ 100 := fun e => h22_100 (Int32.toInt_inj.mp (e.trans (by decide)))
  have t22_101 : x1.toInt ≠ 101 := fun e => h22_101 (Int32.toInt_inj.mp (e.trans (by decide)))
  have t22_102 : x1.toInt ≠ 102 := fun e => h22_102 (Int32.toInt_inj.mp (e.trans (by decide)))
  have t22_103 : x1.toInt ≠ 103 := fun e => h22_103 (Int32.toInt_inj.mp (e.trans (by decide)))
  have t22_104 : x1.toInt ≠ 104 := fun e => h22_104 (Int32.toInt_inj.mp (e.trans (by decide)))
  have t22_105 : x1.toInt ≠ 105 := fun e => h22_105 (Int32.toInt_inj.mp (e.trans (by decide)))
  have t22_106 : x1.toInt ≠ 106 := fun e => h22_106 (Int32.toInt_inj.mp (e.trans (by decide)))
  have t22_107 : x1.toInt ≠ 107 := fun e => h22_107 (Int32.toInt_inj.mp (e.trans (by decide)))
  have t22_108 : x1.toInt ≠ 108 := fun e => h22_108 (Int32.toInt_inj.mp (e.trans (by decide)))
  have t22_109 : x1.toInt ≠ 109 := fun e => h22_109 (Int32.toInt_inj.mp (e.trans (by decide)))
  have t22_110 : x1.toInt ≠ 110 := fun e => h22_110 (Int32.toInt_inj.mp (e.trans (by decide)))
  have t22_111 : x1.toInt ≠ 111 := fun e => h22_111 (Int32.toInt_inj.mp (e.trans (by decide)))
  have t22_112 : x1.toInt ≠ 112 := fun e => h22_112 (Int32.toInt_inj.mp (e.trans (by decide)))
  have t22_113 : x1.toInt ≠ 113 := fun e => h22_113 (Int32.toInt_inj.mp (e.trans (by decide)))
  have t22_114 : x1.toInt ≠ 114 := fun e => h22_114 (Int32.toInt_inj.mp (e.trans (by decide)))
  have t22_115 : x1.toInt ≠ 115 := fun e => h22_115 (Int32.toInt_inj.mp (e.trans (by decide)))
  have t22_116 : x1.toInt ≠ 116 := fun e => h22_116 (Int32.toInt_inj.mp (e.trans (by decide)))
  have t22_117 : x1.toInt ≠ 117 := fun e => h22_117 (Int32.toInt_inj.mp (e.trans (by decide)))
  have t22_118 : x1.toInt ≠ 118 := fun e => h22_118 (Int32.toInt_inj.mp (e.trans (by decide)))
  have t22_119 : x1.toInt ≠ 119 := fun e => h22_119 (Int32.toInt_inj.mp (e.trans (by decide)))
  refine kb_tOut (tgt := 292) hx hb dX2_take_22 (by omega) (by decide) ?_
  refine lv_iconst (v := 0) hx hb dX2_take_292 (by decide) ?_
  have hP : PP G [bX2 b G (f_X2_take w x1 x2 f), [(c0, .inl (G.2.1, 3, .inl f))]] H := by
    have e0 : (f_X2_take w x1 x2 f) = w := by simp only [f_X2_take, if_neg h22_100, if_neg h22_103, if_neg h22_108, if_neg h22_111, if_neg h22_112, if_neg h22_114, if_neg h22_117, if_neg h22_119, if_neg h22_101, if_neg h22_102, if_neg h22_104, if_neg h22_105, if_neg h22_106, if_neg h22_107, if_neg h22_109, if_neg h22_110, if_neg h22_113, if_neg h22_115, if_neg h22_116, if_neg h22_118] <;> rfl
    rw [e0]
    exact hP
  exact kr_sz hx hb hr hlocks dX2_take_293 rfl hP hS (sameAd_cons (bX2_ad _ _ _ _) (sameAd_cons (row_ad _ _ _) sameAd_nil)) ⟨by simp only [k_X2_take, if_neg h22_100, if_neg h22_103, if_neg h22_108, if_neg h22_111, if_neg h22_112, if_neg h22_114, if_neg h22_117, if_neg h22_119, if_neg h22_101, if_neg h22_102, if_neg h22_104, if_neg h22_105, if_neg h22_106, if_neg h22_107, if_neg h22_109, if_neg h22_110, if_neg h22_113, if_neg h22_115, if_neg h22_116, if_neg h22_118] <;> rfl, rfl⟩

def rm_X2_canStand : Room := { frames := 1, cells := 0, slots := 0, locals := 21 }
theorem hd_X2_canStand : yX2_canStand.cls = RX2 ∧ yX2_canStand.cls ≠ "java/lang/invoke/MethodHandle" ∧ yX2_canStand.cls ≠ "java/lang/invoke/VarHandle" ∧ (parseMethodDescriptor yX2_canStand.desc).map (fun d => d.parameters.length) = some 0 := by decide +kernel
set_option maxRecDepth 100000 in
set_option maxHeartbeats 4000000 in
theorem c_X2_canStand (l : Launch) (G : GD) (b : Nat → Nat) (w : OV)  : MetP l yX2_canStand wsX2_canStand rm_X2_canStand G [bX2 b G w] [.ref (b 0)] (some (.int (b2i (f_X2_canStand w)))) := by
  refine kb_beginP (cc := cX2_canStand) (maxL := 2) (ret := (some .boolean)) (by decide) rfl (Nat.le_of_ble_eq_true rfl) ?_
  intro p e s m below meth c hx hb hr hml hown hts hlocks hX hP ls hl
  have hown : s.vm.findClass RX2 = some m.cls := hown
  have hl : lv_has ls 2 [(0, .ref (b 0))] := hl
  have hin2 : ∀ w ∈ u_ws RX2 TX2 15, w ∈ wsX2_canStand := (fun _ h => List.mem_cons_of_mem _ (List.mem_append_right _ (h)))
  refine lv_iconst (v := 0) hx hb dX2_canStand_0 (by decide) ?_
  refine lv_istore_n (lv' := [(1, .int 0), (0, .ref (b 0))]) hx hb dX2_canStand_1 rfl hl (by decide) rfl (fun ls hl => ?_)
  refine lp_up (N := (w.2 9).toNatClampNeg) (P := fun k => ∀ (ls : Array Slot), lv_has ls 2 [(1, .int (nI k)), (0, .ref (b 0))] → (∀ j, j < k → p_stD w j = false) → W p l e (headSpec wsX2_canStand rm_X2_canStand).room s m ([.ref (b 0)] : List Value).toArray below meth c s.heap [] 0 0 (MQ below (kQp (some (.int (b2i (f_X2_canStand w))))) ([.ref (b 0)] : List Value).toArray s 0 0 (fun _ => False)) (F0 m 2 ls [])) ?_ ?_ 0 (Nat.zero_le _)  _ (lv_sub hl [0, 1] rfl) (fun j hj => absurd hj (Nat.not_lt_zero _))
  · skip
    intro ls hl hf
    refine lv_iload_n hx hb dX2_canStand_2 rfl (lv_at hl 0 rfl) ?_
    refine lv_aload_n hx hb dX2_canStand_3 rfl (lv_at hl 1 rfl) ?_
    refine kb_get (own := RX2) (C := RX2) (T := TX2) (N := 15) (v := .int (w.2 9)) hx hb hts hin2 hown hX hP 0 rfl rfl rfl 9 (by decide) rfl (by decide +kernel) rfl dX2_canStand_4 ?_
    refine lv_icmp_ge (tgt := 33) hx hb dX2_canStand_7 (by decide) (fun c_7 => ?_) (fun c_7 => absurd (lpx_c _) c_7)
    refine lv_iconst (v := 0) hx hb dX2_canStand_33 (by decide) ?_
    refine lv_istore_n (lv' := [(1, .int 0), (0, .ref (b 0))]) hx hb dX2_canStand_34 rfl hl (by decide) rfl (fun ls hl => ?_)
    refine lp_up (N := (w.2 10).toNatClampNeg) (P := fun k => ∀ (ls : Array Slot), lv_has ls 2 [(1, .int (nI k)), (0, .ref (b 0))] → (∀ j, j < k → p_stL w j = false) → W p l e (headSpec wsX2_canStand rm_X2_canStand).room s m ([.ref (b 0)] : List Value).toArray below meth c s.heap [] 0 0 (MQ below (kQp (some (.int (b2i (f_X2_canStand w))))) ([.ref (b 0)] : List Value).toArray s 0 0 (fun _ => False)) (F0 m 35 ls [])) ?_ ?_ 0 (Nat.zero_le _)  _ (lv_sub hl [0, 1] rfl) (fun j hj => absurd hj (Nat.not_lt_zero _))
    · skip
      intro ls hl hg
      refine lv_iload_n hx hb dX2_canStand_35 rfl (lv_at hl 0 rfl) ?_
      refine lv_aload_n hx hb dX2_canStand_36 rfl (lv_at hl 1 rfl) ?_
      refine kb_get (own := RX2) (C := RX2) (T := TX2) (N := 15) (v := .int (w.2 10)) hx hb hts hin2 hown hX hP 0 rfl rfl rfl 10 (by decide) rfl (by decide +kernel) rfl dX2_canStand_37 ?_
      refine lv_icmp_ge (tgt := 81) hx hb dX2_canStand_40 (by decide) (fun c_40 => ?_) (fun c_40 => absurd (lpx_c _) c_40)
      refine lv_aload_n hx hb dX2_canStand_81 rfl (lv_at hl 1 rfl) ?_
      refine kb_get (own := RX2) (C := RX2) (T := TX2) (N := 15) (v := .int (w.2 9)) hx hb hts hin2 hown hX hP 0 rfl rfl rfl 9 (by decide) rfl (by decide +kernel) rfl dX2_canStand_82 ?_
      refine lv_if_le (tgt := 99) hx hb dX2_canStand_85 (by decide) (fun c_85 => ?_) (fun c_85 => ?_)
      · refine lv_iconst (v := 0) hx hb dX2_canStand_99 (by decide) ?_
        exact kr_pz hx hb hr hlocks dX2_canStand_100 rfl (by rw [f_X2_canStand, fnd_none hf, fnd_none hg]; simp only [Option.isSome_none, if_pos c_7, if_pos c_40, if_pos c_85]; rfl)
      · refine lv_aload_n hx hb dX2_canStand_88 rfl (lv_at hl 1 rfl) ?_
        refine kb_get (own := RX2) (C := RX2) (T := TX2) (N := 15) (v := .int (w.2 10)) hx hb hts hin2 hown hX hP 0 rfl rfl rfl 10 (by decide) rfl (by decide +kernel) rfl dX2_canStand_89 ?_
        refine lv_if_le (tgt := 99) hx hb dX2_canStand_92 (by decide) (fun c_92 => ?_) (fun c_92 => ?_)
        · refine lv_iconst (v := 0) hx hb dX2_canStand_99 (by decide) ?_
          exact kr_pz hx hb hr hlocks dX2_canStand_100 rfl (by rw [f_X2_canStand, fnd_none hf, fnd_none hg]; simp only [Option.isSome_none, if_pos c_7, if_pos c_40, if_neg c_85, if_pos c_92]; rfl)
        · refine lv_iconst (v := 1) hx hb dX2_canStand_95 (by decide) ?_
          refine lv_goto (tgt := 100) hx hb dX2_canStand_96 (by decide) ?_
          exact kr_pz hx hb hr hlocks dX2_canStand_100 rfl (by rw [f_X2_canStand, fnd_none hf, fnd_none hg]; simp only [Option.isSome_none, if_pos c_7, if_pos c_40, if_neg c_85, if_neg c_92]; rfl)
    · skip
      intro k hk_k ih_35 ls hl hg
      refine lv_iload_n hx hb dX2_canStand_35 rfl (lv_at hl 0 rfl) ?_
      refine lv_aload_n hx hb dX2_canStand_36 rfl (lv_at hl 1 rfl) ?_
      refine kb_get (own := RX2) (C := RX2) (T := TX2) (N := 15) (v := .int (w.2 10)) hx hb hts hin2 hown hX hP 0 rfl rfl rfl 10 (by decide) rfl (by decide +kernel) rfl dX2_canStand_37 ?_
      refine lv_icmp_ge (tgt := 81) hx hb dX2_canStand_40 (by decide) (fun c_40 => absurd c_40 (lps_c hk_k)) (fun c_40 => ?_)
      refine lv_aload_n hx hb dX2_canStand_43 rfl (lv_at hl 1 rfl) ?_
      refine kb_get (own := RX2) (C := RX2) (T := TX2) (N := 15) (v := .ref (b 5)) hx hb hts hin2 hown hX hP 0 rfl rfl rfl 4 (by decide) rfl (by decide +kernel) rfl dX2_canStand_44 ?_
      refine lv_iload_n hx hb dX2_canStand_47 rfl (lv_at hl 0 rfl) ?_
      refine kcN_p hx hb hml hown hts hX hP (c_X6_at l G (b 5) 4 (w.1 4) (nI k) (by decide)) gX2_canStand_X6_at_n66 (by decide +kernel) (by decide +kernel) (by decide +kernel) 2 rfl rfl rfl hdS_X6_at ⟨Nat.le_of_ble_eq_true rfl, Nat.le_of_ble_eq_true rfl⟩ (cell_in (i := 0) (j := 5) rfl rfl) hl.1 rfl rfl (Nat.le_of_ble_eq_true rfl) dX2_canStand_48 ⟨Nat.zero_le _, Nat.zero_le _⟩ ?_
      refine lv_aload_n hx hb dX2_canStand_51 rfl (lv_at hl 1 rfl) ?_
      refine kb_get (own := RX2) (C := RX2) (T := TX2) (N := 15) (v := .int (w.2 8)) hx hb hts hin2 hown hX hP 0 rfl rfl rfl 8 (by decide) rfl (by decide +kernel) rfl dX2_canStand_52 ?_
      refine lv_icmp_ge (tgt := 73) hx hb dX2_canStand_55 (by decide) (fun c_55 => ?_) (fun c_55 => ?_)
      · refine lv_iconst (v := 0) hx hb dX2_canStand_73 (by decide) ?_
        exact kr_pz hx hb hr hlocks dX2_canStand_74 rfl (by rw [f_X2_canStand, fnd_none hf, fnd_some hk_k hg (by simp only [p_stL, if_pos c_7, if_neg c_40, if_pos c_55])]; rfl)
      · refine lv_aload_n hx hb dX2_canStand_58 rfl (lv_at hl 1 rfl) ?_
        refine kb_get (own := RX2) (C := RX2) (T := TX2) (N := 15) (v := .ref (b 7)) hx hb hts hin2 hown hX hP 0 rfl rfl rfl 6 (by decide) rfl (by decide +kernel) rfl dX2_canStand_59 ?_
        refine lv_iload_n hx hb dX2_canStand_62 rfl (lv_at hl 0 rfl) ?_
        refine kcN_p hx hb hml hown hts hX hP (c_X6_at l G (b 7) 4 (w.1 6) (nI k) (by decide)) gX2_canStand_X6_at_n66 (by decide +kernel) (by decide +kernel) (by decide +kernel) 2 rfl rfl rfl hdS_X6_at ⟨Nat.le_of_ble_eq_true rfl, Nat.le_of_ble_eq_true rfl⟩ (cell_in (i := 0) (j := 7) rfl rfl) hl.1 rfl rfl (Nat.le_of_ble_eq_true rfl) dX2_canStand_63 ⟨Nat.zero_le _, Nat.zero_le _⟩ ?_
        refine lv_aload_n hx hb dX2_canStand_66 rfl (lv_at hl 1 rfl) ?_
        refine kb_get (own := RX2) (C := RX2) (T := TX2) (N := 15) (v := .int (w.2 8)) hx hb hts hin2 hown hX hP 0 rfl rfl rfl 8 (by decide) rfl (by decide +kernel) rfl dX2_canStand_67 ?_
        refine lv_icmp_lt (tgt := 75) hx hb dX2_canStand_70 (by decide) (fun c_70 => ?_) (fun c_70 => ?_)
        · refine lv_iinc (v := nI (k + 1)) (lv' := [(1, .int (nI (k + 1))), (0, .ref (b 0))]) hx hb dX2_canStand_75 hl (k := 0) rfl (nI_1 _) (by decide) rfl (fun ls hl => ?_)
          refine lv_goto (tgt := 35) hx hb dX2_canStand_78 (by decide) ?_
          exact ih_35  _ (show lv_has ls 2 [(1, .int (nI (k + 1))), (0, .ref (b 0))] from lv_sub hl [0, 1] rfl) (lt_s hg (by simp only [p_stL, if_pos c_7, if_neg c_40, if_neg c_55, if_pos c_70]))
        · refine lv_iconst (v := 0) hx hb dX2_canStand_73 (by decide) ?_
          exact kr_pz hx hb hr hlocks dX2_canStand_74 rfl (by rw [f_X2_canStand, fnd_none hf, fnd_some hk_k hg (by simp only [p_stL, if_pos c_7, if_neg c_40, if_neg c_55, if_neg c_70])]; rfl)
  · skip
    intro k hk_k ih_2 ls hl hf
    refine lv_iload_n hx hb dX2_canStand_2 rfl (lv_at hl 0 rfl) ?_
    refine lv_aload_n hx hb dX2_canStand_3 rfl (lv_at hl 1 rfl) ?_
    refine kb_get (own := RX2) (C := RX2) (T := TX2) (N := 15) (v := .int (w.2 9)) hx hb hts hin2 hown hX hP 0 rfl rfl rfl 9 (by decide) rfl (by decide +kernel) rfl dX2_canStand_4 ?_
    refine lv_icmp_ge (tgt := 33) hx hb dX2_canStand_7 (by decide) (fun c_7 => absurd c_7 (lps_c hk_k)) (fun c_7 => ?_)
    refine lv_aload_n hx hb dX2_canStand_10 rfl (lv_at hl 1 rfl) ?_
    refine kb_get (own := RX2) (C := RX2) (T := TX2) (N := 15) (v := .ref (b 3)) hx hb hts hin2 hown hX hP 0 rfl rfl rfl 2 (by decide) rfl (by decide +kernel) rfl dX2_canStand_11 ?_
    refine lv_iload_n hx hb dX2_canStand_14 rfl (lv_at hl 0 rfl) ?_
    refine kcN_p hx hb hml hown hts hX hP (c_X6_at l G (b 3) 8 (w.1 2) (nI k) (by decide)) gX2_canStand_X6_at_n66 (by decide +kernel) (by decide +kernel) (by decide +kernel) 2 rfl rfl rfl hdS_X6_at ⟨Nat.le_of_ble_eq_true rfl, Nat.le_of_ble_eq_true rfl⟩ (cell_in (i := 0) (j := 3) rfl rfl) hl.1 rfl rfl (Nat.le_of_ble_eq_true rfl) dX2_canStand_15 ⟨Nat.zero_le _, Nat.zero_le _⟩ ?_
    refine lv_aload_n hx hb dX2_canStand_18 rfl (lv_at hl 1 rfl) ?_
    refine kb_get (own := RX2) (C := RX2) (T := TX2) (N := 15) (v := .int (w.2 9)) hx hb hts hin2 hown hX hP 0 rfl rfl rfl 9 (by decide) rfl (by decide +kernel) rfl dX2_canStand_19 ?_
    refine lv_icmp_lt (tgt := 27) hx hb dX2_canStand_22 (by decide) (fun c_22 => ?_) (fun c_22 => ?_)
    · refine lv_iinc (v := nI (k + 1)) (lv' := [(1, .int (nI (k + 1))), (0, .ref (b 0))]) hx hb dX2_canStand_27 hl (k := 0) rfl (nI_1 _) (by decide) rfl (fun ls hl => ?_)
      refine lv_goto (tgt := 2) hx hb dX2_canStand_30 (by decide) ?_
      exact ih_2  _ (show lv_has ls 2 [(1, .int (nI (k + 1))), (0, .ref (b 0))] from lv_sub hl [0, 1] rfl) (lt_s hf (by simp only [p_stD, if_neg c_7, if_pos c_22]))
    · refine lv_iconst (v := 0) hx hb dX2_canStand_25 (by decide) ?_
      exact kr_pz hx hb hr hlocks dX2_canStand_26 rfl (by rw [f_X2_canStand, fnd_some hk_k hf (by simp only [p_stD, if_neg c_7, if_neg c_22])]; rfl)
