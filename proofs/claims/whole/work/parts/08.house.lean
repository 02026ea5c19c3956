/-! the house: what its methods answer and do -/
def f_X0_grudgeOf (v : OV) (d i : Int32) : Int32 := rAt (v.1 0) 32 (i * 8 + d)
def f_X0_setGrudge (v : OV) (d i g : Int32) : OV := setA v 0 (rPut (v.1 0) 32 (i * 8 + d) g)
def f_X0_isOiled (v : OV) (d : Int32) : Bool := if rAt (v.1 2) 8 d ≤ 0 then false else true
def f_X0_beginAs (v w : OV) : OV := setI (setI (setA (setA (setA v 0 (rCopy (w.1 7) (v.1 0) 32)) 3 (rCopy (w.1 4) (v.1 3) 4)) 2 (rFill (v.1 2) 0 8)) 4 0) 5 0
def f_X0_become (v w : OV) : OV := setI (setI (setA (setA (setA v 0 (rCopy (w.1 0) (v.1 0) 32)) 2 (rCopy (w.1 2) (v.1 2) 8)) 3 (rCopy (w.1 3) (v.1 3) 4)) 4 (w.2 4)) 5 (w.2 5)
def s_oiled (v : OV) (k : Nat) (n : Int32) : Int32 := n + (if f_X0_isOiled v (nI k) = true then 1 else 0)
def f_X0_oiledDoors (v : OV) : Int32 := itN (s_oiled v) 0 8
def f_X0_minutesThrough (v : OV) (d i : Int32) : Int32 := if f_X0_isOiled v d = true then 1 else 1 + f_X0_grudgeOf v d i
def f_X2_otherSide (w : OV) (d r : Int32) : Int32 := if rAt (w.1 0) 8 d = r then rAt (w.1 1) 8 d else if rAt (w.1 1) 8 d = r then rAt (w.1 0) 8 d else -1
def f_X2_grudgeNext (w : OV) (g i z : Int32) : Int32 := if z = 0 then fWorn g (w.2 13) else fGrown g (rAt (w.1 5) 4 i)
def f_X0_passThrough (v w : OV) (i d z : Int32) : OV :=
  f_X0_setGrudge (setA (setI v 4 (v.2 4 + f_X0_minutesThrough v d i)) 3 (rPut (v.1 3) 4 i (f_X2_otherSide w d (rAt (v.1 3) 4 i)))) d i (f_X2_grudgeNext w (f_X0_grudgeOf (setA (setI v 4 (v.2 4 + f_X0_minutesThrough v d i)) 3 (rPut (v.1 3) 4 i (f_X2_otherSide w d (rAt (v.1 3) 4 i)))) d i) i z)
def s_dry (k : Nat) (u : OV) : OV := setA u 2 (rPut (u.1 2) 8 (nI k) (if 0 < rAt (u.1 2) 8 (nI k) - 1 then rAt (u.1 2) 8 (nI k) - 1 else 0))
def f_X0_dryOil (v : OV) : OV := itN s_dry v 8
def fPart (u w : OV) (k : Nat) (i : Int32) : Int32 := f_X0_grudgeOf u (nI k) i * w.2 11 / 10
def u_pass (u w : OV) (k : Nat) (i : Int32) : OV := setA u 1 (rPut (u.1 1) 8 (nI k) (rAt (u.1 1) 8 (nI k) - fPart u w k i))
def s_pass (w : OV) (i : Int32) (k : Nat) (u : OV) : OV :=
  if rAt (w.1 2) 8 (nI k) = nI k then u else if f_X0_isOiled u (nI k) = true then u else if f_X0_isOiled u (rAt (w.1 2) 8 (nI k)) = true then u else
    setA (u_pass u w k i) 1 (rPut (rPut (u.1 1) 8 (nI k) (rAt (u.1 1) 8 (nI k) - fPart u w k i)) 8 (rAt (w.1 2) 8 (nI k)) (rAt (rPut (u.1 1) 8 (nI k) (rAt (u.1 1) 8 (nI k) - fPart u w k i)) 8 (rAt (w.1 2) 8 (nI k)) + fPart u w k i))
def s_fade (w : OV) (i : Int32) (k : Nat) (u : OV) : OV :=
  f_X0_setGrudge u (nI k) i (fGrown (fWorn (f_X0_grudgeOf u (nI k) i + rAt (u.1 1) 8 (nI k)) (w.2 12)) (rAt (w.1 3) 8 (nI k)))
def f_pass1 (v w : OV) (i : Int32) : OV := itN (s_pass w i) (setA v 1 (rFill (v.1 1) 0 8)) (w.2 9).toNatClampNeg
def f_X0_passOn (v w : OV) (i : Int32) : OV := itN (s_fade w i) (f_pass1 v w i) (w.2 9).toNatClampNeg
def s_sleep (w : OV) (k : Nat) (u : OV) : OV := f_X0_passOn u w (nI k)
def f_X0_sleep (v w : OV) : OV := setI (f_X0_dryOil (itN (s_sleep w) v (w.2 10).toNatClampNeg)) 5 ((f_X0_dryOil (itN (s_sleep w) v (w.2 10).toNatClampNeg)).2 5 + 1)
def s_sleep1 (w : OV) (i : Int32) (_ : Nat) (u : OV) : OV := f_X0_dryOil (f_X0_passOn u w i)
def f_X0_sleepAgainstOne (v w : OV) (n i : Int32) : OV := itN (s_sleep1 w i) v n.toNatClampNeg
def s_gsum (v : OV) (d : Int32) (k : Nat) (n : Int32) : Int32 := n + f_X0_grudgeOf v d (nI k)
def f_X0_grudgesOfDoor (v w : OV) (d : Int32) : Int32 := itN (s_gsum v d) 0 (w.2 10).toNatClampNeg
def s_gall (v w : OV) (k : Nat) (n : Int32) : Int32 := n + f_X0_grudgesOfDoor v w (nI k)
def f_X0_allGrudges (v w : OV) : Int32 := itN (s_gall v w) 0 (w.2 9).toNatClampNeg
def s_after (w : OV) (i x : Int32) (k : Nat) (g : Int32) : Int32 := f_X2_grudgeNext w g i (b2i (fHolds x (nI k)))
def f_X2_grudgeAfter (w : OV) (d i t x : Int32) : Int32 := itN (s_after w i x) (rAt (w.1 7) 32 (i * 8 + d)) t.toNatClampNeg

def rm_X0_grudgeOf : Room := { frames := 1, cells := 0, slots := 0, locals := 21 }
theorem hd_X0_grudgeOf : yX0_grudgeOf.cls = RX0 ∧ yX0_grudgeOf.cls ≠ "java/lang/invoke/MethodHandle" ∧ yX0_grudgeOf.cls ≠ "java/lang/invoke/VarHandle" ∧ (parseMethodDescriptor yX0_grudgeOf.desc).map (fun d => d.parameters.length) = some 2 := by decide +kernel
set_option maxRecDepth 100000 in
set_option maxHeartbeats 4000000 in
theorem c_X0_grudgeOf (l : Launch) (G : GD) (a : Nat → Nat) (v : OV) (x1 : Int32) (x2 : Int32)  : MetP l yX0_grudgeOf wsX0_grudgeOf rm_X0_grudgeOf G [bX0 a G v] [.ref (a 0), .int x1, .int x2] (some (.int (f_X0_grudgeOf v x1 x2))) := by
  refine kb_beginP (cc := cX0_grudgeOf) (maxL := 3) (ret := (some .int)) (by decide) rfl (Nat.le_of_ble_eq_true rfl) ?_
  intro p e s m below meth c hx hb hr hml hown hts hlocks hX hP ls hl
  have hown : s.vm.findClass RX0 = some m.cls := hown
  have hl : lv_has ls 3 [(0, .ref (a 0)), (1, .int x1), (2, .int x2)] := hl
  have hin0 : ∀ w ∈ u_ws RX0 TX0 6, w ∈ wsX0_grudgeOf := (fun _ h => List.mem_cons_of_mem _ (List.mem_append_right _ (h)))
  refine lv_aload_n hx hb dX0_grudgeOf_0 rfl (lv_at hl 0 rfl) ?_
  refine kb_get (own := RX0) (C := RX0) (T := TX0) (N := 6) (v := .ref (a 1)) hx hb hts hin0 hown hX hP 0 rfl rfl rfl 0 (by decide) rfl (by decide +kernel) rfl dX0_grudgeOf_1 ?_
  refine lv_iload_n hx hb dX0_grudgeOf_4 rfl (lv_at hl 2 rfl) ?_
  refine lv_bipush (v := 8) hx hb dX0_grudgeOf_5 (by decide) ?_
  refine lv_imul hx hb dX0_grudgeOf_7 ?_
  refine lv_iload_n hx hb dX0_grudgeOf_8 rfl (lv_at hl 1 rfl) ?_
  refine lv_iadd hx hb dX0_grudgeOf_9 ?_
  refine kcN_p hx hb hml hown hts hX hP (c_X6_at l G (a 1) 32 (v.1 0) ((x2 * 8) + x1) (by decide)) gX0_grudgeOf_X6_at_n47 (by decide +kernel) (by decide +kernel) (by decide +kernel) 2 rfl rfl rfl hdS_X6_at ⟨Nat.le_of_ble_eq_true rfl, Nat.le_of_ble_eq_true rfl⟩ (cell_in (i := 0) (j := 1) rfl rfl) hl.1 rfl rfl (Nat.le_of_ble_eq_true rfl) dX0_grudgeOf_10 ⟨Nat.zero_le _, Nat.zero_le _⟩ ?_
  exact kr_pi hx hb hr hlocks dX0_grudgeOf_13 (by rfl)

def rm_X0_setGrudge : Room := { frames := 1, cells := 0, slots := 0, locals := 22 }
theorem hd_X0_setGrudge : yX0_setGrudge.cls = RX0 ∧ yX0_setGrudge.cls ≠ "java/lang/invoke/MethodHandle" ∧ yX0_setGrudge.cls ≠ "java/lang/invoke/VarHandle" ∧ (parseMethodDescriptor yX0_setGrudge.desc).map (fun d => d.parameters.length) = some 3 := by decide +kernel
set_option maxRecDepth 100000 in
set_option maxHeartbeats 4000000 in
theorem c_X0_setGrudge (l : Launch) (G : GD) (a : Nat → Nat) (v : OV) (x1 : Int32) (x2 : Int32) (x3 : Int32)  : MetS l yX0_setGrudge wsX0_setGrudge rm_X0_setGrudge G [bX0 a G v] [.ref (a 0), .int x1, .int x2, .int x3] (fun r bc => r = none ∧ bc = [bX0 a G (f_X0_setGrudge v x1 x2 x3)]) := by
  refine kb_beginS (cc := cX0_setGrudge) (maxL := 4) (ret := none) (by decide) rfl (Nat.le_of_ble_eq_true rfl) ?_
  intro p e s m below meth c hx hb hr hml hown hts hlocks hX H locs hP hD hS ls hl
  have hown : s.vm.findClass RX0 = some m.cls := hown
  have hl : lv_has ls 4 [(0, .ref (a 0)), (1, .int x1), (2, .int x2), (3, .int x3)] := hl
  have hin0 : ∀ w ∈ u_ws RX0 TX0 6, w ∈ wsX0_setGrudge := (fun _ h => List.mem_cons_of_mem _ (List.mem_append_right _ (h)))
  refine lv_aload_n hx hb dX0_setGrudge_0 rfl (lv_at hl 0 rfl) ?_
  refine kb_get (own := RX0) (C := RX0) (T := TX0) (N := 6) (v := .ref (a 1)) hx hb hts hin0 hown hX hP 0 rfl rfl rfl 0 (by decide) rfl (by decide +kernel) rfl dX0_setGrudge_1 ?_
  refine lv_iload_n hx hb dX0_setGrudge_4 rfl (lv_at hl 2 rfl) ?_
  refine lv_bipush (v := 8) hx hb dX0_setGrudge_5 (by decide) ?_
  refine lv_imul hx hb dX0_setGrudge_7 ?_
  refine lv_iload_n hx hb dX0_setGrudge_8 rfl (lv_at hl 1 rfl) ?_
  refine lv_iadd hx hb dX0_setGrudge_9 ?_
  refine lv_iload_n hx hb dX0_setGrudge_10 rfl (lv_at hl 3 rfl) ?_
  refine kcN_c hx hb hml hown hts hX hP hD hS (c_X6_put l G (a 1) 32 (v.1 0) ((x2 * 8) + x1) x3 (by decide)) gX0_setGrudge_X6_put_n51 (by decide +kernel) (by decide +kernel) (by decide +kernel) 3 rfl rfl rfl hdS_X6_put ⟨Nat.le_of_ble_eq_true rfl, Nat.le_of_ble_eq_true rfl⟩ 0 1 rfl rfl (bX0_A0 a G v (rPut (v.1 0) 32 ((x2 * 8) + x1) x3)) hl.1 rfl rfl (Nat.le_of_ble_eq_true rfl) dX0_setGrudge_11 ⟨Nat.zero_le _, Nat.zero_le _⟩ (fun H locs hP hD hS => ?_)
  have hP : PP G [bX0 a G (setA v 0 (rPut (v.1 0) 32 ((x2 * 8) + x1) x3))] H := hP
  have hD : DD (AA (List.flatten [bX0 a G v])) [bX0 a G (setA v 0 (rPut (v.1 0) 32 ((x2 * 8) + x1) x3))] := D_re hD (adc (bX0_ad _ _ _ _) adn)
  have hP : PP G [bX0 a G (f_X0_setGrudge v x1 x2 x3)] H := hP
  exact kr_sv hx hb hr hlocks dX0_setGrudge_14 hP hS (sameAd_cons (bX0_ad _ _ _ _) sameAd_nil) ⟨rfl, rfl⟩

def rm_X0_isOiled : Room := { frames := 1, cells := 0, slots := 0, locals := 21 }
theorem hd_X0_isOiled : yX0_isOiled.cls = RX0 ∧ yX0_isOiled.cls ≠ "java/lang/invoke/MethodHandle" ∧ yX0_isOiled.cls ≠ "java/lang/invoke/VarHandle" ∧ (parseMethodDescriptor yX0_isOiled.desc).map (fun d => d.parameters.length) = some 1 := by decide +kernel
set_option maxRecDepth 100000 in
set_option maxHeartbeats 4000000 in
theorem c_X0_isOiled (l : Launch) (G : GD) (a : Nat → Nat) (v : OV) (x1 : Int32)  : MetP l yX0_isOiled wsX0_isOiled rm_X0_isOiled G [bX0 a G v] [.ref (a 0), .int x1] (some (.int (b2i (f_X0_isOiled v x1)))) := by
  refine kb_beginP (cc := cX0_isOiled) (maxL := 2) (ret := (some .boolean)) (by decide) rfl (Nat.le_of_ble_eq_true rfl) ?_
  intro p e s m below meth c hx hb hr hml hown hts hlocks hX hP ls hl
  have hown : s.vm.findClass RX0 = some m.cls := hown
  have hl : lv_has ls 2 [(0, .ref (a 0)), (1, .int x1)] := hl
  have hin0 : ∀ w ∈ u_ws RX0 TX0 6, w ∈ wsX0_isOiled := (fun _ h => List.mem_cons_of_mem _ (List.mem_append_right _ (h)))
  refine lv_aload_n hx hb dX0_isOiled_0 rfl (lv_at hl 0 rfl) ?_
  refine kb_get (own := RX0) (C := RX0) (T := TX0) (N := 6) (v := .ref (a 3)) hx hb hts hin0 hown hX hP 0 rfl rfl rfl 2 (by decide) rfl (by decide +kernel) rfl dX0_isOiled_1 ?_
  refine lv_iload_n hx hb dX0_isOiled_4 rfl (lv_at hl 1 rfl) ?_
  refine kcN_p hx hb hml hown hts hX hP (c_X6_at l G (a 3) 8 (v.1 2) x1 (by decide)) gX0_isOiled_X6_at_n47 (by decide +kernel) (by decide +kernel) (by decide +kernel) 2 rfl rfl rfl hdS_X6_at ⟨Nat.le_of_ble_eq_true rfl, Nat.le_of_ble_eq_true rfl⟩ (cell_in (i := 0) (j := 3) rfl rfl) hl.1 rfl rfl (Nat.le_of_ble_eq_true rfl) dX0_isOiled_5 ⟨Nat.zero_le _, Nat.zero_le _⟩ ?_
  refine lv_if_le (tgt := 15) hx hb dX0_isOiled_8 (by decide) (fun c_8 => ?_) (fun c_8 => ?_)
  · refine lv_iconst (v := 0) hx hb dX0_isOiled_15 (by decide) ?_
    exact kr_pz hx hb hr hlocks dX0_isOiled_16 rfl (by simp only [f_X0_isOiled, if_pos c_8] <;> rfl)
  · refine lv_iconst (v := 1) hx hb dX0_isOiled_11 (by decide) ?_
    refine lv_goto (tgt := 16) hx hb dX0_isOiled_12 (by decide) ?_
    exact kr_pz hx hb hr hlocks dX0_isOiled_16 rfl (by simp only [f_X0_isOiled, if_neg c_8] <;> rfl)

def rm_X0_beginAs : Room := { frames := 1, cells := 0, slots := 0, locals := 22 }
theorem hd_X0_beginAs : yX0_beginAs.cls = RX0 ∧ yX0_beginAs.cls ≠ "java/lang/invoke/MethodHandle" ∧ yX0_beginAs.cls ≠ "java/lang/invoke/VarHandle" ∧ (parseMethodDescriptor yX0_beginAs.desc).map (fun d => d.parameters.length) = some 1 := by decide +kernel
set_option maxRecDepth 100000 in
set_option maxHeartbeats 4000000 in
theorem c_X0_beginAs (l : Launch) (G : GD) (a : Nat → Nat) (v : OV) (b : Nat → Nat) (w : OV)  : MetS l yX0_beginAs wsX0_beginAs rm_X0_beginAs G [bX0 a G v, bX2 b G w] [.ref (a 0), .ref (b 0)] (fun r bc => r = none ∧ bc = [bX0 a G (f_X0_beginAs v w), bX2 b G w]) := by
  refine kb_beginS (cc := cX0_beginAs) (maxL := 2) (ret := none) (by decide) rfl (Nat.le_of_ble_eq_true rfl) ?_
  intro p e s m below meth c hx hb hr hml hown hts hlocks hX H locs hP hD hS ls hl
  have hown : s.vm.findClass RX0 = some m.cls := hown
  have hl : lv_has ls 2 [(0, .ref (a 0)), (1, .ref (b 0))] := hl
  have hin0 : ∀ w ∈ u_ws RX0 TX0 6, w ∈ wsX0_beginAs := (fun _ h => List.mem_cons_of_mem _ (List.mem_append_right _ (h)))
  have hin2 : ∀ w ∈ u_ws RX2 TX2 15, w ∈ wsX0_beginAs := (fun _ h => List.mem_cons_of_mem _ (List.mem_append_left _ (List.mem_append_right _ (h))))
  refine lv_aload_n hx hb dX0_beginAs_0 rfl (lv_at hl 1 rfl) ?_
  refine kb_getN (own := RX0) (C := RX2) (T := TX2) (N := 15) (v := .ref (b 8)) hx hb hts hin2 hown hX hP 1 rfl rfl rfl 7 (by decide) rfl (by decide +kernel) rfl dX0_beginAs_1 ?_
  refine lv_aload_n hx hb dX0_beginAs_4 rfl (lv_at hl 0 rfl) ?_
  refine kb_get (own := RX0) (C := RX0) (T := TX0) (N := 6) (v := .ref (a 1)) hx hb hts hin0 hown hX hP 0 rfl rfl rfl 0 (by decide) rfl (by decide +kernel) rfl dX0_beginAs_5 ?_
  refine kcN_c2 hx hb hml hown hts hX hP hD hS (c_X6_copy l G (b 8) 32 (w.1 7) (a 1) 32 (v.1 0) (by decide) rfl) gX0_beginAs_X6_copy_n29 (by decide +kernel) (by decide +kernel) (by decide +kernel) 2 rfl rfl rfl hdS_X6_copy ⟨Nat.le_of_ble_eq_true rfl, Nat.le_of_ble_eq_true rfl⟩ 1 8 rfl rfl 0 1 rfl rfl (bX0_A0 a G v (rCopy (w.1 7) (v.1 0) 32)) (by decide) hl.1 rfl rfl (Nat.le_of_ble_eq_true rfl) dX0_beginAs_8 ⟨Nat.zero_le _, Nat.zero_le _⟩ (fun H locs hP hD hS => ?_)
  have hP : PP G [bX0 a G (setA v 0 (rCopy (w.1 7) (v.1 0) 32)), bX2 b G w] H := hP
  have hD : DD (AA (List.flatten [bX0 a G v, bX2 b G w])) [bX0 a G (setA v 0 (rCopy (w.1 7) (v.1 0) 32)), bX2 b G w] := D_re hD (adc (bX0_ad _ _ _ _) (adc (bX2_ad _ _ _ _) adn))
  refine lv_aload_n hx hb dX0_beginAs_11 rfl (lv_at hl 1 rfl) ?_
  refine kb_getN (own := RX0) (C := RX2) (T := TX2) (N := 15) (v := .ref (b 5)) hx hb hts hin2 hown hX hP 1 rfl rfl rfl 4 (by decide) rfl (by decide +kernel) rfl dX0_beginAs_12 ?_
  refine lv_aload_n hx hb dX0_beginAs_15 rfl (lv_at hl 0 rfl) ?_
  refine kb_get (own := RX0) (C := RX0) (T := TX0) (N := 6) (v := .ref (a 4)) hx hb hts hin0 hown hX hP 0 rfl rfl rfl 3 (by decide) rfl (by decide +kernel) rfl dX0_beginAs_16 ?_
  refine kcN_c2 hx hb hml hown hts hX hP hD hS (c_X6_copy l G (b 5) 4 (w.1 4) (a 4) 4 (v.1 3) (by decide) rfl) gX0_beginAs_X6_copy_n29 (by decide +kernel) (by decide +kernel) (by decide +kernel) 2 rfl rfl rfl hdS_X6_copy ⟨Nat.le_of_ble_eq_true rfl, Nat.le_of_ble_eq_true rfl⟩ 1 5 rfl rfl 0 4 rfl rfl (bX0_A3 a G (setA v 0 (rCopy (w.1 7) (v.1 0) 32)) (rCopy (w.1 4) (v.1 3) 4)) (by decide) hl.1 rfl rfl (Nat.le_of_ble_eq_true rfl) dX0_beginAs_19 ⟨Nat.zero_le _, Nat.zero_le _⟩ (fun H locs hP hD hS => ?_)
  have hP : PP G [bX0 a G (setA (setA v 0 (rCopy (w.1 7) (v.1 0) 32)) 3 (rCopy (w.1 4) (v.1 3) 4)), bX2 b G w] H := hP
  have hD : DD (AA (List.flatten [bX0 a G v, bX2 b G w])) [bX0 a G (setA (setA v 0 (rCopy (w.1 7) (v.1 0) 32)) 3 (rCopy (w.1 4) (v.1 3) 4)), bX2 b G w] := D_re hD (adc (bX0_ad _ _ _ _) (adc (bX2_ad _ _ _ _) adn))
  refine lv_aload_n hx hb dX0_beginAs_22 rfl (lv_at hl 0 rfl) ?_
  refine kb_get (own := RX0) (C := RX0) (T := TX0) (N := 6) (v := .ref (a 3)) hx hb hts hin0 hown hX hP 0 rfl rfl rfl 2 (by decide) rfl (by decide +kernel) rfl dX0_beginAs_23 ?_
  refine lv_iconst (v := 0) hx hb dX0_beginAs_26 (by decide) ?_
  refine kcN_c hx hb hml hown hts hX hP hD hS (c_X6_fill l G (a 3) 8 (v.1 2) 0 (by decide)) gX0_beginAs_X6_fill_n36 (by decide +kernel) (by decide +kernel) (by decide +kernel) 2 rfl rfl rfl hdS_X6_fill ⟨Nat.le_of_ble_eq_true rfl, Nat.le_of_ble_eq_true rfl⟩ 0 3 rfl rfl (bX0_A2 a G (setA (setA v 0 (rCopy (w.1 7) (v.1 0) 32)) 3 (rCopy (w.1 4) (v.1 3) 4)) (rFill (v.1 2) 0 8)) hl.1 rfl rfl (Nat.le_of_ble_eq_true rfl) dX0_beginAs_27 ⟨Nat.zero_le _, Nat.zero_le _⟩ (fun H locs hP hD hS => ?_)
  have hP : PP G [bX0 a G (setA (setA (setA v 0 (rCopy (w.1 7) (v.1 0) 32)) 3 (rCopy (w.1 4) (v.1 3) 4)) 2 (rFill (v.1 2) 0 8)), bX2 b G w] H := hP
  have hD : DD (AA (List.flatten [bX0 a G v, bX2 b G w])) [bX0 a G (setA (setA (setA v 0 (rCopy (w.1 7) (v.1 0) 32)) 3 (rCopy (w.1 4) (v.1 3) 4)) 2 (rFill (v.1 2) 0 8)), bX2 b G w] := D_re hD (adc (bX0_ad _ _ _ _) (adc (bX2_ad _ _ _ _) adn))
  refine lv_aload_n hx hb dX0_beginAs_30 rfl (lv_at hl 0 rfl) ?_
  refine lv_iconst (v := 0) hx hb dX0_beginAs_31 (by decide) ?_
  refine kb_put (own := RX0) (C := RX0) (T := TX0) (N := 6) hx hb hts hin0 tyX0 tyX0_ok nmX0 (ty := .int) hown hX hP hD hS 0 rfl rfl rfl 4 (by decide) rfl (by decide +kernel) (by decide +kernel) rfl rfl (Nat.le_of_ble_eq_true rfl) dX0_beginAs_32 (bX0_I4 a G (setA (setA (setA v 0 (rCopy (w.1 7) (v.1 0) 32)) 3 (rCopy (w.1 4) (v.1 3) 4)) 2 (rFill (v.1 2) 0 8)) 0) (fun H locs hP hD hS => ?_)
  have hP : PP G [bX0 a G (setI (setA (setA (setA v 0 (rCopy (w.1 7) (v.1 0) 32)) 3 (rCopy (w.1 4) (v.1 3) 4)) 2 (rFill (v.1 2) 0 8)) 4 0), bX2 b G w] H := hP
  have hD : DD (AA (List.flatten [bX0 a G v, bX2 b G w])) [bX0 a G (setI (setA (setA (setA v 0 (rCopy (w.1 7) (v.1 0) 32)) 3 (rCopy (w.1 4) (v.1 3) 4)) 2 (rFill (v.1 2) 0 8)) 4 0), bX2 b G w] := D_re hD (adc (bX0_ad _ _ _ _) (adc (bX2_ad _ _ _ _) adn))
  refine lv_aload_n hx hb dX0_beginAs_35 rfl (lv_at hl 0 rfl) ?_
  refine lv_iconst (v := 0) hx hb dX0_beginAs_36 (by decide) ?_
  refine kb_put (own := RX0) (C := RX0) (T := TX0) (N := 6) hx hb hts hin0 tyX0 tyX0_ok nmX0 (ty := .int) hown hX hP hD hS 0 rfl rfl rfl 5 (by decide) rfl (by decide +kernel) (by decide +kernel) rfl rfl (Nat.le_of_ble_eq_true rfl) dX0_beginAs_37 (bX0_I5 a G (setI (setA (setA (setA v 0 (rCopy (w.1 7) (v.1 0) 32)) 3 (rCopy (w.1 4) (v.1 3) 4)) 2 (rFill (v.1 2) 0 8)) 4 0) 0) (fun H locs hP hD hS => ?_)
  have hP : PP G [bX0 a G (setI (setI (setA (setA (setA v 0 (rCopy (w.1 7) (v.1 0) 32)) 3 (rCopy (w.1 4) (v.1 3) 4)) 2 (rFill (v.1 2) 0 8)) 4 0) 5 0), bX2 b G w] H := hP
  have hD : DD (AA (List.flatten [bX0 a G v, bX2 b G w])) [bX0 a G (setI (setI (setA (setA (setA v 0 (rCopy (w.1 7) (v.1 0) 32)) 3 (rCopy (w.1 4) (v.1 3) 4)) 2 (rFill (v.1 2) 0 8)) 4 0) 5 0), bX2 b G w] := D_re hD (adc (bX0_ad _ _ _ _) (adc (bX2_ad _ _ _ _) adn))
  have hP : PP G [bX0 a G (f_X0_beginAs v w), bX2 b G w] H := hP
  exact kr_sv hx hb hr hlocks dX0_beginAs_40 hP hS (sameAd_cons (bX0_ad _ _ _ _) (sameAd_cons (bX2_ad _ _ _ _) sameAd_nil)) ⟨rfl, rfl⟩

def rm_X0_become : Room := { frames := 1, cells := 0, slots := 0, locals := 22 }
theorem hd_X0_become : yX0_become.cls = RX0 ∧ yX0_become.cls ≠ "java/lang/invoke/MethodHandle" ∧ yX0_become.cls ≠ "java/lang/invoke/VarHandle" ∧ (parseMethodDescriptor yX0_become.desc).map (fun d => d.parameters.length) = some 1 := by decide +kernel
set_option maxRecDepth 100000 in
set_option maxHeartbeats 4000000 in
theorem c_X0_become (l : Launch) (G : GD) (a : Nat → Nat) (v : OV) (b : Nat → Nat) (w : OV)  : MetS l yX0_become wsX0_become rm_X0_become G [bX0 a G v, bX0 b G w] [.ref (a 0), .ref (b 0)] (fun r bc => r = none ∧ bc = [bX0 a G (f_X0_become v w), bX0 b G w]) := by
  refine kb_beginS (cc := cX0_become) (maxL := 2) (ret := none) (by decide) rfl (Nat.le_of_ble_eq_true rfl) ?_
  intro p e s m below meth c hx hb hr hml hown hts hlocks hX H locs hP hD hS ls hl
  have hown : s.vm.findClass RX0 = some m.cls := hown
  have hl : lv_has ls 2 [(0, .ref (a 0)), (1, .ref (b 0))] := hl
  have hin0 : ∀ w ∈ u_ws RX0 TX0 6, w ∈ wsX0_become := (fun _ h => List.mem_cons_of_mem _ (List.mem_append_right _ (h)))
  refine lv_aload_n hx hb dX0_become_0 rfl (lv_at hl 1 rfl) ?_
  refine kb_get (own := RX0) (C := RX0) (T := TX0) (N := 6) (v := .ref (b 1)) hx hb hts hin0 hown hX hP 1 rfl rfl rfl 0 (by decide) rfl (by decide +kernel) rfl dX0_become_1 ?_
  refine lv_aload_n hx hb dX0_become_4 rfl (lv_at hl 0 rfl) ?_
  refine kb_get (own := RX0) (C := RX0) (T := TX0) (N := 6) (v := .ref (a 1)) hx hb hts hin0 hown hX hP 0 rfl rfl rfl 0 (by decide) rfl (by decide +kernel) rfl dX0_become_5 ?_
  refine kcN_c2 hx hb hml hown hts hX hP hD hS (c_X6_copy l G (b 1) 32 (w.1 0) (a 1) 32 (v.1 0) (by decide) rfl) gX0_become_X6_copy_n29 (by decide +kernel) (by decide +kernel) (by decide +kernel) 2 rfl rfl rfl hdS_X6_copy ⟨Nat.le_of_ble_eq_true rfl, Nat.le_of_ble_eq_true rfl⟩ 1 1 rfl rfl 0 1 rfl rfl (bX0_A0 a G v (rCopy (w.1 0) (v.1 0) 32)) (by decide) hl.1 rfl rfl (Nat.le_of_ble_eq_true rfl) dX0_become_8 ⟨Nat.zero_le _, Nat.zero_le _⟩ (fun H locs hP hD hS => ?_)
  have hP : PP G [bX0 a G (setA v 0 (rCopy (w.1 0) (v.1 0) 32)), bX0 b G w] H := hP
  have hD : DD (AA (List.flatten [bX0 a G v, bX0 b G w])) [bX0 a G (setA v 0 (rCopy (w.1 0) (v.1 0) 32)), bX0 b G w] := D_re hD (adc (bX0_ad _ _ _ _) (adc (bX0_ad _ _ _ _) adn))
  refine lv_aload_n hx hb dX0_become_11 rfl (lv_at hl 1 rfl) ?_
  refine kb_get (own := RX0) (C := RX0) (T := TX0) (N := 6) (v := .ref (b 3)) hx hb hts hin0 hown hX hP 1 rfl rfl rfl 2 (by decide) rfl (by decide +kernel) rfl dX0_become_12 ?_
  refine lv_aload_n hx hb dX0_become_15 rfl (lv_at hl 0 rfl) ?_
  refine kb_get (own := RX0) (C := RX0) (T := TX0) (N := 6) (v := .ref (a 3)) hx hb hts hin0 hown hX hP 0 rfl rfl rfl 2 (by decide) rfl (by decide +kernel) rfl dX0_become_16 ?_
  refine kcN_c2 hx hb hml hown hts hX hP hD hS (c_X6_copy l G (b 3) 8 (w.1 2) (a 3) 8 (v.1 2) (by decide) rfl) gX0_become_X6_copy_n29 (by decide +kernel) (by decide +kernel) (by decide +kernel) 2 rfl rfl rfl hdS_X6_copy ⟨Nat.le_of_ble_eq_true rfl, Nat.le_of_ble_eq_true rfl⟩ 1 3 rfl rfl 0 3 rfl rfl (bX0_A2 a G (setA v 0 (rCopy (w.1 0) (v.1 0) 32)) (rCopy (w.1 2) (v.1 2) 8)) (by decide) hl.1 rfl rfl (Nat.le_of_ble_eq_true rfl) dX0_become_19 ⟨Nat.zero_le _, Nat.zero_le _⟩ (fun H locs hP hD hS => ?_)
  have hP : PP G [bX0 a G (setA (setA v 0 (rCopy (w.1 0) (v.1 0) 32)) 2 (rCopy (w.1 2) (v.1 2) 8)), bX0 b G w] H := hP
  have hD : DD (AA (List.flatten [bX0 a G v, bX0 b G w])) [bX0 a G (setA (setA v 0 (rCopy (w.1 0) (v.1 0) 32)) 2 (rCopy (w.1 2) (v.1 2) 8)), bX0 b G w] := D_re hD (adc (bX0_ad _ _ _ _) (adc (bX0_ad _ _ _ _) adn))
  refine lv_aload_n hx hb dX0_become_22 rfl (lv_at hl 1 rfl) ?_
  refine kb_get (own := RX0) (C := RX0) (T := TX0) (N := 6) (v := .ref (b 4)) hx hb hts hin0 hown hX hP 1 rfl rfl rfl 3 (by decide) rfl (by decide +kernel) rfl dX0_become_23 ?_
  refine lv_aload_n hx hb dX0_become_26 rfl (lv_at hl 0 rfl) ?_
  refine kb_get (own := RX0) (C := RX0) (T := TX0) (N := 6) (v := .ref (a 4)) hx hb hts hin0 hown hX hP 0 rfl rfl rfl 3 (by decide) rfl (by decide +kernel) rfl dX0_become_27 ?_
  refine kcN_c2 hx hb hml hown hts hX hP hD hS (c_X6_copy l G (b 4) 4 (w.1 3) (a 4) 4 (v.1 3) (by decide) rfl) gX0_become_X6_copy_n29 (by decide +kernel) (by decide +kernel) (by decide +kernel) 2 rfl rfl rfl hdS_X6_copy ⟨Nat.le_of_ble_eq_true rfl, Nat.le_of_ble_eq_true rfl⟩ 1 4 rfl rfl 0 4 rfl rfl (bX0_A3 a G (setA (setA v 0 (rCopy (w.1 0) (v.1 0) 32)) 2 (rCopy (w.1 2) (v.1 2) 8)) (rCopy (w.1 3) (v.1 3) 4)) (by decide) hl.1 rfl rfl (Nat.le_of_ble_eq_true rfl) dX0_become_30 ⟨Nat.zero_le _, Nat.zero_le _⟩ (fun H locs hP hD hS => ?_)
  have hP : PP G [bX0 a G (setA (setA (setA v 0 (rCopy (w.1 0) (v.1 0) 32)) 2 (rCopy (w.1 2) (v.1 2) 8)) 3 (rCopy (w.1 3) (v.1 3) 4)), bX0 b G w] H := hP
  have hD : DD (AA (List.flatten [bX0 a G v, bX0 b G w])) [bX0 a G (setA (setA (setA v 0 (rCopy (w.1 0) (v.1 0) 32)) 2 (rCopy (w.1 2) (v.1 2) 8)) 3 (rCopy (w.1 3) (v.1 3) 4)), bX0 b G w] := D_re hD (adc (bX0_ad _ _ _ _) (adc (bX0_ad _ _ _ _) adn))
  refine lv_aload_n hx hb dX0_become_33 rfl (lv_at hl 0 rfl) ?_
  refine lv_aload_n hx hb dX0_become_34 rfl (lv_at hl 1 rfl) ?_
  refine kb_get (own := RX0) (C := RX0) (T := TX0) (N := 6) (v := .int (w.2 4)) hx hb hts hin0 hown hX hP 1 rfl rfl rfl 4 (by decide) rfl (by decide +kernel) rfl dX0_become_35 ?_
  refine kb_put (own := RX0) (C := RX0) (T := TX0) (N := 6) hx hb hts hin0 tyX0 tyX0_ok nmX0 (ty := .int) hown hX hP hD hS 0 rfl rfl rfl 4 (by decide) rfl (by decide +kernel) (by decide +kernel) rfl rfl (Nat.le_of_ble_eq_true rfl) dX0_become_38 (bX0_I4 a G (setA (setA (setA v 0 (rCopy (w.1 0) (v.1 0) 32)) 2 (rCopy (w.1 2) (v.1 2) 8)) 3 (rCopy (w.1 3) (v.1 3) 4)) (w.2 4)) (fun H locs hP hD hS => ?_)
  have hP : PP G [bX0 a G (setI (setA (setA (setA v 0 (rCopy (w.1 0) (v.1 0) 32)) 2 (rCopy (w.1 2) (v.1 2) 8)) 3 (rCopy (w.1 3) (v.1 3) 4)) 4 (w.2 4)), bX0 b G w] H := hP
  have hD : DD (AA (List.flatten [bX0 a G v, bX0 b G w])) [bX0 a G (setI (setA (setA (setA v 0 (rCopy (w.1 0) (v.1 0) 32)) 2 (rCopy (w.1 2) (v.1 2) 8)) 3 (rCopy (w.1 3) (v.1 3) 4)) 4 (w.2 4)), bX0 b G w] := D_re hD (adc (bX0_ad _ _ _ _) (adc (bX0_ad _ _ _ _) adn))
  refine lv_aload_n hx hb dX0_become_41 rfl (lv_at hl 0 rfl) ?_
  refine lv_aload_n hx hb dX0_become_42 rfl (lv_at hl 1 rfl) ?_
  refine kb_get (own := RX0) (C := RX0) (T := TX0) (N := 6) (v := .int (w.2 5)) hx hb hts hin0 hown hX hP 1 rfl rfl rfl 5 (by decide) rfl (by decide +kernel) rfl dX0_become_43 ?_
  refine kb_put (own := RX0) (C := RX0) (T := TX0) (N := 6) hx hb hts hin0 tyX0 tyX0_ok nmX0 (ty := .int) hown hX hP hD hS 0 rfl rfl rfl 5 (by decide) rfl (by decide +kernel) (by decide +kernel) rfl rfl (Nat.le_of_ble_eq_true rfl) dX0_become_46 (bX0_I5 a G (setI (setA (setA (setA v 0 (rCopy (w.1 0) (v.1 0) 32)) 2 (rCopy (w.1 2) (v.1 2) 8)) 3 (rCopy (w.1 3) (v.1 3) 4)) 4 (w.2 4)) (w.2 5)) (fun H locs hP hD hS => ?_)
  have hP : PP G [bX0 a G (setI (setI (setA (setA (setA v 0 (rCopy (w.1 0) (v.1 0) 32)) 2 (rCopy (w.1 2) (v.1 2) 8)) 3 (rCopy (w.1 3) (v.1 3) 4)) 4 (w.2 4)) 5 (w.2 5)), bX0 b G w] H := hP
  have hD : DD (AA (List.flatten [bX0 a G v, bX0 b G w])) [bX0 a G (setI (setI (setA (setA (setA v 0 (rCopy (w.1 0) (v.1 0) 32)) 2 (rCopy (w.1 2) (v.1 2) 8)) 3 (rCopy (w.1 3) (v.1 3) 4)) 4 (w.2 4)) 5 (w.2 5)), bX0 b G w] := D_re hD (adc (bX0_ad _ _ _ _) (adc (bX0_ad _ _ _ _) adn))
  have hP : PP G [bX0 a G (f_X0_become v w), bX0 b G w] H := hP
  exact kr_sv hx hb hr hlocks dX0_become_49 hP hS (sameAd_cons (bX0_ad _ _ _ _) (sameAd_cons (bX0_ad _ _ _ _) sameAd_nil)) ⟨rfl, rfl⟩

def rm_X0_oiledDoors : Room := { frames := 2, cells := 0, slots := 0, locals := 42 }
theorem hd_X0_oiledDoors : yX0_oiledDoors.cls = RX0 ∧ yX0_oiledDoors.cls ≠ "java/lang/invoke/MethodHandle" ∧ yX0_oiledDoors.cls ≠ "java/lang/invoke/VarHandle" ∧ (parseMethodDescriptor yX0_oiledDoors.desc).map (fun d => d.parameters.length) = some 0 := by decide +kernel
set_option maxRecDepth 100000 in
set_option maxHeartbeats 4000000 in
theorem c_X0_oiledDoors (l : Launch) (G : GD) (a : Nat → Nat) (v : OV)  : MetP l yX0_oiledDoors wsX0_oiledDoors rm_X0_oiledDoors G [bX0 a G v] [.ref (a 0)] (some (.int (f_X0_oiledDoors v))) := by
  refine kb_beginP (cc := cX0_oiledDoors) (maxL := 3) (ret := (some .int)) (by decide) rfl (Nat.le_of_ble_eq_true rfl) ?_
  intro p e s m below meth c hx hb hr hml hown hts hlocks hX hP ls hl
  have hown : s.vm.findClass RX0 = some m.cls := hown
  have hl : lv_has ls 3 [(0, .ref (a 0))] := hl
  refine lv_iconst (v := 0) hx hb dX0_oiledDoors_0 (by decide) ?_
  refine lv_istore_n (lv' := [(1, .int 0), (0, .ref (a 0))]) hx hb dX0_oiledDoors_1 rfl hl (by decide) rfl (fun ls hl => ?_)
  refine lv_iconst (v := 0) hx hb dX0_oiledDoors_2 (by decide) ?_
  refine lv_istore_n (lv' := [(2, .int 0), (1, .int 0), (0, .ref (a 0))]) hx hb dX0_oiledDoors_3 rfl hl (by decide) rfl (fun ls hl => ?_)
  refine lp_up (N := 8) (P := fun k => ∀ (ls : Array Slot), lv_has ls 3 [(2, .int (nI k)), (1, .int (itN (s_oiled v) 0 k)), (0, .ref (a 0))] →  W p l e (headSpec wsX0_oiledDoors rm_X0_oiledDoors).room s m ([.ref (a 0)] : List Value).toArray below meth c s.heap [] 0 0 (MQ below (kQp (some (.int (f_X0_oiledDoors v)))) ([.ref (a 0)] : List Value).toArray s 0 0 (fun _ => False)) (F0 m 4 ls [])) ?_ ?_ 0 (Nat.zero_le _)  _ (lv_sub hl [0, 1, 2] rfl) 
  · skip
    intro ls hl 
    refine lv_iload_n hx hb dX0_oiledDoors_4 rfl (lv_at hl 0 rfl) ?_
    refine lv_bipush (v := 8) hx hb dX0_oiledDoors_5 (by decide) ?_
    refine lv_icmp_ge (tgt := 32) hx hb dX0_oiledDoors_7 (by decide) (fun c_7 => ?_) (fun c_7 => absurd ((by decide : (8 : Int32) ≤ nI 8)) c_7)
    refine lv_iload_n hx hb dX0_oiledDoors_32 rfl (lv_at hl 1 rfl) ?_
    exact kr_pi hx hb hr hlocks dX0_oiledDoors_33 (by rfl)
  · skip
    intro k hk_k ih_4 ls hl 
    refine lv_iload_n hx hb dX0_oiledDoors_4 rfl (lv_at hl 0 rfl) ?_
    refine lv_bipush (v := 8) hx hb dX0_oiledDoors_5 (by decide) ?_
    refine lv_icmp_ge (tgt := 32) hx hb dX0_oiledDoors_7 (by decide) (fun c_7 => absurd c_7 (nI_ge (b := 8) hk_k (by decide))) (fun c_7 => ?_)
    refine lv_iload_n hx hb dX0_oiledDoors_10 rfl (lv_at hl 1 rfl) ?_
    refine lv_aload_n hx hb dX0_oiledDoors_11 rfl (lv_at hl 2 rfl) ?_
    refine lv_iload_n hx hb dX0_oiledDoors_12 rfl (lv_at hl 0 rfl) ?_
    refine kcV_p hx hb hml hown hts hX hP (c_X0_isOiled l G a v (nI k)) gX0_oiledDoors_X0_isOiled 1 rfl rfl rfl hd_X0_isOiled ⟨Nat.le_of_ble_eq_true rfl, Nat.le_of_ble_eq_true rfl⟩ [0] rfl 0 rfl rfl rfl hl.1 rfl rfl (Nat.le_of_ble_eq_true rfl) dX0_oiledDoors_13 ⟨Nat.zero_le _, Nat.zero_le _⟩ ?_
    refine lv_if_eq (tgt := 23) hx hb dX0_oiledDoors_16 (by decide) (fun c_16r => ?_) (fun c_16r => ?_)
    · have c_16 := b2i_fN c_16r
      refine lv_iconst (v := 0) hx hb dX0_oiledDoors_23 (by decide) ?_
      refine lv_iadd hx hb dX0_oiledDoors_24 ?_
      refine lv_istore_n (lv' := [(1, .int ((itN (s_oiled v) 0 k) + 0)), (2, .int (nI k)), (0, .ref (a 0))]) hx hb dX0_oiledDoors_25 rfl hl (by decide) rfl (fun ls hl => ?_)
      refine lv_iinc (v := nI (k + 1)) (lv' := [(2, .int (nI (k + 1))), (1, .int ((itN (s_oiled v) 0 k) + 0)), (0, .ref (a 0))]) hx hb dX0_oiledDoors_26 hl (k := 1) rfl (nI_1 _) (by decide) rfl (fun ls hl => ?_)
      refine lv_goto (tgt := 4) hx hb dX0_oiledDoors_29 (by decide) ?_
      exact ih_4  _ (by rw [itN_s]; simp only [s_oiled, if_neg c_7, if_neg c_16]; exact lv_sub hl [0, 1, 2] rfl) 
    · have c_16 := b2i_tP c_16r
      refine lv_iconst (v := 1) hx hb dX0_oiledDoors_19 (by decide) ?_
      refine lv_goto (tgt := 24) hx hb dX0_oiledDoors_20 (by decide) ?_
      refine lv_iadd hx hb dX0_oiledDoors_24 ?_
      refine lv_istore_n (lv' := [(1, .int ((itN (s_oiled v) 0 k) + 1)), (2, .int (nI k)), (0, .ref (a 0))]) hx hb dX0_oiledDoors_25 rfl hl (by decide) rfl (fun ls hl => ?_)
      refine lv_iinc (v := nI (k + 1)) (lv' := [(2, .int (nI (k + 1))), (1, .int ((itN (s_oiled v) 0 k) + 1)), (0, .ref (a 0))]) hx hb dX0_oiledDoors_26 hl (k := 1) rfl (nI_1 _) (by decide) rfl (fun ls hl => ?_)
      refine lv_goto (tgt := 4) hx hb dX0_oiledDoors_29 (by decide) ?_
      exact ih_4  _ (by rw [itN_s]; simp only [s_oiled, if_neg c_7, if_pos c_16]; exact lv_sub hl [0, 1, 2] rfl) 

def rm_X0_minutesThrough : Room := { frames := 2, cells := 0, slots := 0, locals := 43 }
theorem hd_X0_minutesThrough : yX0_minutesThrough.cls = RX0 ∧ yX0_minutesThrough.cls ≠ "java/lang/invoke/MethodHandle" ∧ yX0_minutesThrough.cls ≠ "java/lang/invoke/VarHandle" ∧ (parseMethodDescriptor yX0_minutesThrough.desc).map (fun d => d.parameters.length) = some 2 := by decide +kernel
set_option maxRecDepth 100000 in
set_option maxHeartbeats 4000000 in
theorem c_X0_minutesThrough (l : Launch) (G : GD) (a : Nat → Nat) (v : OV) (x1 : Int32) (x2 : Int32)  : MetP l yX0_minutesThrough wsX0_minutesThrough rm_X0_minutesThrough G [bX0 a G v] [.ref (a 0), .int x1, .int x2] (some (.int (f_X0_minutesThrough v x1 x2))) := by
  refine kb_beginP (cc := cX0_minutesThrough) (maxL := 3) (ret := (some .int)) (by decide) rfl (Nat.le_of_ble_eq_true rfl) ?_
  intro p e s m below meth c hx hb hr hml hown hts hlocks hX hP ls hl
  have hown : s.vm.findClass RX0 = some m.cls := hown
  have hl : lv_has ls 3 [(0, .ref (a 0)), (1, .int x1), (2, .int x2)] := hl
  refine lv_aload_n hx hb dX0_minutesThrough_0 rfl (lv_at hl 0 rfl) ?_
  refine lv_iload_n hx hb dX0_minutesThrough_1 rfl (lv_at hl 1 rfl) ?_
  refine kcV_p hx hb hml hown hts hX hP (c_X0_isOiled l G a v x1) gX0_minutesThrough_X0_isOiled 1 rfl rfl rfl hd_X0_isOiled ⟨Nat.le_of_ble_eq_true rfl, Nat.le_of_ble_eq_true rfl⟩ [0] rfl 0 rfl rfl rfl hl.1 rfl rfl (Nat.le_of_ble_eq_true rfl) dX0_minutesThrough_2 ⟨Nat.zero_le _, Nat.zero_le _⟩ ?_
  refine lv_if_eq (tgt := 12) hx hb dX0_minutesThrough_5 (by decide) (fun c_5r => ?_) (fun c_5r => ?_)
  · have c_5 := b2i_fN c_5r
    refine lv_iconst (v := 1) hx hb dX0_minutesThrough_12 (by decide) ?_
    refine lv_aload_n hx hb dX0_minutesThrough_13 rfl (lv_at hl 0 rfl) ?_
    refine lv_iload_n hx hb dX0_minutesThrough_14 rfl (lv_at hl 1 rfl) ?_
    refine lv_iload_n hx hb dX0_minutesThrough_15 rfl (lv_at hl 2 rfl) ?_
    refine kcV_p hx hb hml hown hts hX hP (c_X0_grudgeOf l G a v x1 x2) gX0_minutesThrough_X0_grudgeOf 2 rfl rfl rfl hd_X0_grudgeOf ⟨Nat.le_of_ble_eq_true rfl, Nat.le_of_ble_eq_true rfl⟩ [0] rfl 0 rfl rfl rfl hl.1 rfl rfl (Nat.le_of_ble_eq_true rfl) dX0_minutesThrough_16 ⟨Nat.zero_le _, Nat.zero_le _⟩ ?_
    refine lv_iadd hx hb dX0_minutesThrough_19 ?_
    exact kr_pi hx hb hr hlocks dX0_minutesThrough_20 (by simp only [f_X0_minutesThrough, if_neg c_5] <;> rfl)
  · have c_5 := b2i_tP c_5r
    refine lv_iconst (v := 1) hx hb dX0_minutesThrough_8 (by decide) ?_
    refine lv_goto (tgt := 20) hx hb dX0_minutesThrough_9 (by decide) ?_
    exact kr_pi hx hb hr hlocks dX0_minutesThrough_20 (by simp only [f_X0_minutesThrough, if_pos c_5] <;> rfl)

def rm_X2_otherSide : Room := { frames := 1, cells := 0, slots := 0, locals := 21 }
theorem hd_X2_otherSide : yX2_otherSide.cls = RX2 ∧ yX2_otherSide.cls ≠ "java/lang/invoke/MethodHandle" ∧ yX2_otherSide.cls ≠ "java/lang/invoke/VarHandle" ∧ (parseMethodDescriptor yX2_otherSide.desc).map (fun d => d.parameters.length) = some 2 := by decide +kernel
set_option maxRecDepth 100000 in
set_option maxHeartbeats 4000000 in
theorem c_X2_otherSide (l : Launch) (G : GD) (b : Nat → Nat) (w : OV) (x1 : Int32) (x2 : Int32)  : MetP l yX2_otherSide wsX2_otherSide rm_X2_otherSide G [bX2 b G w] [.ref (b 0), .int x1, .int x2] (some (.int (f_X2_otherSide w x1 x2))) := by
  refine kb_beginP (cc := cX2_otherSide) (maxL := 3) (ret := (some .int)) (by decide) rfl (Nat.le_of_ble_eq_true rfl) ?_
  intro p e s m below meth c hx hb hr hml hown hts hlocks hX hP ls hl
  have hown : s.vm.findClass RX2 = some m.cls := hown
  have hl : lv_has ls 3 [(0, .ref (b 0)), (1, .int x1), (2, .int x2)] := hl
  have hin2 : ∀ w ∈ u_ws RX2 TX2 15, w ∈ wsX2_otherSide := (fun _ h => List.mem_cons_of_mem _ (List.mem_append_right _ (h)))
  refine lv_aload_n hx hb dX2_otherSide_0 rfl (lv_at hl 0 rfl) ?_
  refine kb_get (own := RX2) (C := RX2) (T := TX2) (N := 15) (v := .ref (b 1)) hx hb hts hin2 hown hX hP 0 rfl rfl rfl 0 (by decide) rfl (by decide +kernel) rfl dX2_otherSide_1 ?_
  refine lv_iload_n hx hb dX2_otherSide_4 rfl (lv_at hl 1 rfl) ?_
  refine kcN_p hx hb hml hown hts hX hP (c_X6_at l G (b 1) 8 (w.1 0) x1 (by decide)) gX2_otherSide_X6_at_n66 (by decide +kernel) (by decide +kernel) (by decide +kernel) 2 rfl rfl rfl hdS_X6_at ⟨Nat.le_of_ble_eq_true rfl, Nat.le_of_ble_eq_true rfl⟩ (cell_in (i := 0) (j := 1) rfl rfl) hl.1 rfl rfl (Nat.le_of_ble_eq_true rfl) dX2_otherSide_5 ⟨Nat.zero_le _, Nat.zero_le _⟩ ?_
  refine lv_iload_n hx hb dX2_otherSide_8 rfl (lv_at hl 2 rfl) ?_
  refine lv_icmp_ne (tgt := 21) hx hb dX2_otherSide_9 (by decide) (fun c_9 => ?_) (fun c_9 => ?_)
  · refine lv_aload_n hx hb dX2_otherSide_21 rfl (lv_at hl 0 rfl) ?_
    refine kb_get (own := RX2) (C := RX2) (T := TX2) (N := 15) (v := .ref (b 2)) hx hb hts hin2 hown hX hP 0 rfl rfl rfl 1 (by decide) rfl (by decide +kernel) rfl dX2_otherSide_22 ?_
    refine lv_iload_n hx hb dX2_otherSide_25 rfl (lv_at hl 1 rfl) ?_
    refine kcN_p hx hb hml hown hts hX hP (c_X6_at l G (b 2) 8 (w.1 1) x1 (by decide)) gX2_otherSide_X6_at_n66 (by decide +kernel) (by decide +kernel) (by decide +kernel) 2 rfl rfl rfl hdS_X6_at ⟨Nat.le_of_ble_eq_true rfl, Nat.le_of_ble_eq_true rfl⟩ (cell_in (i := 0) (j := 2) rfl rfl) hl.1 rfl rfl (Nat.le_of_ble_eq_true rfl) dX2_otherSide_26 ⟨Nat.zero_le _, Nat.zero_le _⟩ ?_
    refine lv_iload_n hx hb dX2_otherSide_29 rfl (lv_at hl 2 rfl) ?_
    refine lv_icmp_ne (tgt := 44) hx hb dX2_otherSide_30 (by decide) (fun c_30 => ?_) (fun c_30 => ?_)
    · refine lv_iconst (v := (-1)) hx hb dX2_otherSide_44 (by decide) ?_
      exact kr_pi hx hb hr hlocks dX2_otherSide_45 (by simp only [f_X2_otherSide, if_neg c_9, if_neg c_30] <;> rfl)
    · refine lv_aload_n hx hb dX2_otherSide_33 rfl (lv_at hl 0 rfl) ?_
      refine kb_get (own := RX2) (C := RX2) (T := TX2) (N := 15) (v := .ref (b 1)) hx hb hts hin2 hown hX hP 0 rfl rfl rfl 0 (by decide) rfl (by decide +kernel) rfl dX2_otherSide_34 ?_
      refine lv_iload_n hx hb dX2_otherSide_37 rfl (lv_at hl 1 rfl) ?_
      refine kcN_p hx hb hml hown hts hX hP (c_X6_at l G (b 1) 8 (w.1 0) x1 (by decide)) gX2_otherSide_X6_at_n66 (by decide +kernel) (by decide +kernel) (by decide +kernel) 2 rfl rfl rfl hdS_X6_at ⟨Nat.le_of_ble_eq_true rfl, Nat.le_of_ble_eq_true rfl⟩ (cell_in (i := 0) (j := 1) rfl rfl) hl.1 rfl rfl (Nat.le_of_ble_eq_true rfl) dX2_otherSide_38 ⟨Nat.zero_le _, Nat.zero_le _⟩ ?_
      refine lv_goto (tgt := 45) hx hb dX2_otherSide_41 (by decide) ?_
      exact kr_pi hx hb hr hlocks dX2_otherSide_45 (by simp only [f_X2_otherSide, if_neg c_9, if_pos c_30] <;> rfl)
  · refine lv_aload_n hx hb dX2_otherSide_12 rfl (lv_at hl 0 rfl) ?_
    refine kb_get (own := RX2) (C := RX2) (T := TX2) (N := 15) (v := .ref (b 2)) hx hb hts hin2 hown hX hP 0 rfl rfl rfl 1 (by decide) rfl (by decide +kernel) rfl dX2_otherSide_13 ?_
    refine lv_iload_n hx hb dX2_otherSide_16 rfl (lv_at hl 1 rfl) ?_
    refine kcN_p hx hb hml hown hts hX hP (c_X6_at l G (b 2) 8 (w.1 1) x1 (by decide)) gX2_otherSide_X6_at_n66 (by decide +kernel) (by decide +kernel) (by decide +kernel) 2 rfl rfl rfl hdS_X6_at ⟨Nat.le_of_ble_eq_true rfl, Nat.le_of_ble_eq_true rfl⟩ (cell_in (i := 0) (j := 2) rfl rfl) hl.1 rfl rfl (Nat.le_of_ble_eq_true rfl) dX2_otherSide_17 ⟨Nat.zero_le _, Nat.zero_le _⟩ ?_
    exact kr_pi hx hb hr hlocks dX2_otherSide_20 (by simp only [f_X2_otherSide, if_pos c_9] <;> rfl)

def rm_X2_grudgeNext : Room := { frames := 2, cells := 0, slots := 0, locals := 34 }
theorem hd_X2_grudgeNext : yX2_grudgeNext.cls = RX2 ∧ yX2_grudgeNext.cls ≠ "java/lang/invoke/MethodHandle" ∧ yX2_grudgeNext.cls ≠ "java/lang/invoke/VarHandle" ∧ (parseMethodDescriptor yX2_grudgeNext.desc).map (fun d => d.parameters.length) = some 3 := by decide +kernel
set_option maxRecDepth 100000 in
set_option maxHeartbeats 4000000 in
theorem c_X2_grudgeNext (l : Launch) (G : GD) (b : Nat → Nat) (w : OV) (x1 : Int32) (x2 : Int32) (x3 : Int32)  : MetP l yX2_grudgeNext wsX2_grudgeNext rm_X2_grudgeNext G [bX2 b G w] [.ref (b 0), .int x1, .int x2, .int x3] (some (.int (f_X2_grudgeNext w x1 x2 x3))) := by
  refine kb_beginP (cc := cX2_grudgeNext) (maxL := 4) (ret := (some .int)) (by decide) rfl (Nat.le_of_ble_eq_true rfl) ?_
  intro p e s m below meth c hx hb hr hml hown hts hlocks hX hP ls hl
  have hown : s.vm.findClass RX2 = some m.cls := hown
  have hl : lv_has ls 4 [(0, .ref (b 0)), (1, .int x1), (2, .int x2), (3, .int x3)] := hl
  have hin2 : ∀ w ∈ u_ws RX2 TX2 15, w ∈ wsX2_grudgeNext := (fun _ h => List.mem_cons_of_mem _ (List.mem_append_right _ (h)))
  refine lv_iload_n hx hb dX2_grudgeNext_0 rfl (lv_at hl 3 rfl) ?_
  refine lv_if_eq (tgt := 19) hx hb dX2_grudgeNext_1 (by decide) (fun c_1 => ?_) (fun c_1 => ?_)
  · refine lv_iload_n hx hb dX2_grudgeNext_19 rfl (lv_at hl 1 rfl) ?_
    refine lv_aload_n hx hb dX2_grudgeNext_20 rfl (lv_at hl 0 rfl) ?_
    refine kb_get (own := RX2) (C := RX2) (T := TX2) (N := 15) (v := .int (w.2 13)) hx hb hts hin2 hown hX hP 0 rfl rfl rfl 13 (by decide) rfl (by decide +kernel) rfl dX2_grudgeNext_21 ?_
    refine kcN_p hx hb hml hown hts hX hP (c_X6_worn l G x1 (w.2 13)) gX2_grudgeNext_X6_worn_n111 (by decide +kernel) (by decide +kernel) (by decide +kernel) 2 rfl rfl rfl hdS_X6_worn ⟨Nat.le_of_ble_eq_true rfl, Nat.le_of_ble_eq_true rfl⟩ (fun q hq => absurd hq List.not_mem_nil) hl.1 rfl rfl (Nat.le_of_ble_eq_true rfl) dX2_grudgeNext_24 ⟨Nat.zero_le _, Nat.zero_le _⟩ ?_
    exact kr_pi hx hb hr hlocks dX2_grudgeNext_27 (by simp only [f_X2_grudgeNext, if_pos c_1] <;> rfl)
  · refine lv_iload_n hx hb dX2_grudgeNext_4 rfl (lv_at hl 1 rfl) ?_
    refine lv_aload_n hx hb dX2_grudgeNext_5 rfl (lv_at hl 0 rfl) ?_
    refine kb_get (own := RX2) (C := RX2) (T := TX2) (N := 15) (v := .ref (b 6)) hx hb hts hin2 hown hX hP 0 rfl rfl rfl 5 (by decide) rfl (by decide +kernel) rfl dX2_grudgeNext_6 ?_
    refine lv_iload_n hx hb dX2_grudgeNext_9 rfl (lv_at hl 2 rfl) ?_
    refine kcN_p hx hb hml hown hts hX hP (c_X6_at l G (b 6) 4 (w.1 5) x2 (by decide)) gX2_grudgeNext_X6_at_n66 (by decide +kernel) (by decide +kernel) (by decide +kernel) 2 rfl rfl rfl hdS_X6_at ⟨Nat.le_of_ble_eq_true rfl, Nat.le_of_ble_eq_true rfl⟩ (cell_in (i := 0) (j := 6) rfl rfl) hl.1 rfl rfl (Nat.le_of_ble_eq_true rfl) dX2_grudgeNext_10 ⟨Nat.zero_le _, Nat.zero_le _⟩ ?_
    refine kcN_p hx hb hml hown hts hX hP (c_X6_grown l G x1 (rAt (w.1 5) 4 x2)) gX2_grudgeNext_X6_grown_n107 (by decide +kernel) (by decide +kernel) (by decide +kernel) 2 rfl rfl rfl hdS_X6_grown ⟨Nat.le_of_ble_eq_true rfl, Nat.le_of_ble_eq_true rfl⟩ (fun q hq => absurd hq List.not_mem_nil) hl.1 rfl rfl (Nat.le_of_ble_eq_true rfl) dX2_grudgeNext_13 ⟨Nat.zero_le _, Nat.zero_le _⟩ ?_
    refine lv_goto (tgt := 27) hx hb dX2_grudgeNext_16 (by decide) ?_
    exact kr_pi hx hb hr hlocks dX2_grudgeNext_27 (by simp only [f_X2_grudgeNext, if_neg c_1] <;> rfl)

def rm_X0_passThrough : Room := { frames := 3, cells := 0, slots := 0, locals := 65 }
theorem hd_X0_passThrough : yX0_passThrough.cls = RX0 ∧ yX0_passThrough.cls ≠ "java/lang/invoke/MethodHandle" ∧ yX0_passThrough.cls ≠ "java/lang/invoke/VarHandle" ∧ (parseMethodDescriptor yX0_passThrough.desc).map (fun d => d.parameters.length) = some 4 := by decide +kernel
set_option maxRecDepth 100000 in
set_option maxHeartbeats 4000000 in
theorem c_X0_passThrough (l : Launch) (G : GD) (a : Nat → Nat) (v : OV) (b : Nat → Nat) (w : OV) (x1 : Int32) (x2 : Int32) (x3 : Int32)  : MetS l yX0_passThrough wsX0_passThrough rm_X0_passThrough G [bX0 a G v, bX2 b G w] [.ref (a 0), .ref (b 0), .int x1, .int x2, .int x3] (fun r bc => r = some (.int (f_X0_minutesThrough v x2 x1)) ∧ bc = [bX0 a G (f_X0_passThrough v w x1 x2 x3), bX2 b G w]) := by
  refine kb_beginS (cc := cX0_passThrough) (maxL := 6) (ret := (some .int)) (by decide) rfl (Nat.le_of_ble_eq_true rfl) ?_
  intro p e s m below meth c hx hb hr hml hown hts hlocks hX H locs hP hD hS ls hl
  have hown : s.vm.findClass RX0 = some m.cls := hown
  have hl : lv_has ls 6 [(0, .ref (a 0)), (1, .ref (b 0)), (2, .int x1), (3, .int x2), (4, .int x3)] := hl
  have hin0 : ∀ w ∈ u_ws RX0 TX0 6, w ∈ wsX0_passThrough := (fun _ h => List.mem_cons_of_mem _ (List.mem_append_left _ (List.mem_append_right _ (h))))
  refine lv_aload_n hx hb dX0_passThrough_0 rfl (lv_at hl 0 rfl) ?_
  refine lv_iload_n hx hb dX0_passThrough_1 rfl (lv_at hl 3 rfl) ?_
  refine lv_iload_n hx hb dX0_passThrough_2 rfl (lv_at hl 2 rfl) ?_
  refine kcV_p hx hb hml hown hts hX hP (c_X0_minutesThrough l G a v x2 x1) gX0_passThrough_X0_minutesThrough 2 rfl rfl rfl hd_X0_minutesThrough ⟨Nat.le_of_ble_eq_true rfl, Nat.le_of_ble_eq_true rfl⟩ [0] rfl 0 rfl rfl rfl hl.1 rfl rfl (Nat.le_of_ble_eq_true rfl) dX0_passThrough_3 ⟨Nat.zero_le _, Nat.zero_le _⟩ ?_
  refine lv_istore (lv' := [(5, .int (f_X0_minutesThrough v x2 x1)), (0, .ref (a 0)), (1, .ref (b 0)), (2, .int x1), (3, .int x2), (4, .int x3)]) hx hb dX0_passThrough_6 hl (by decide) rfl (fun ls hl => ?_)
  refine lv_aload_n hx hb dX0_passThrough_8 rfl (lv_at hl 1 rfl) ?_
  refine lv_dup hx hb dX0_passThrough_9 rfl ?_
  refine kb_get (own := RX0) (C := RX0) (T := TX0) (N := 6) (v := .int (v.2 4)) hx hb hts hin0 hown hX hP 0 rfl rfl rfl 4 (by decide) rfl (by decide +kernel) rfl dX0_passThrough_10 ?_
  refine lv_iload hx hb dX0_passThrough_13 (lv_at hl 0 rfl) ?_
  refine lv_iadd hx hb dX0_passThrough_15 ?_
  refine kb_put (own := RX0) (C := RX0) (T := TX0) (N := 6) hx hb hts hin0 tyX0 tyX0_ok nmX0 (ty := .int) hown hX hP hD hS 0 rfl rfl rfl 4 (by decide) rfl (by decide +kernel) (by decide +kernel) rfl rfl (Nat.le_of_ble_eq_true rfl) dX0_passThrough_16 (bX0_I4 a G v ((v.2 4) + (f_X0_minutesThrough v x2 x1))) (fun H locs hP hD hS => ?_)
  have hP : PP G [bX0 a G (setI v 4 ((v.2 4) + (f_X0_minutesThrough v x2 x1))), bX2 b G w] H := hP
  have hD : DD (AA (List.flatten [bX0 a G v, bX2 b G w])) [bX0 a G (setI v 4 ((v.2 4) + (f_X0_minutesThrough v x2 x1))), bX2 b G w] := D_re hD (adc (bX0_ad _ _ _ _) (adc (bX2_ad _ _ _ _) adn))
  refine lv_aload_n hx hb dX0_passThrough_19 rfl (lv_at hl 1 rfl) ?_
  refine kb_get (own := RX0) (C := RX0) (T := TX0) (N := 6) (v := .ref (a 4)) hx hb hts hin0 hown hX hP 0 rfl rfl rfl 3 (by decide) rfl (by decide +kernel) rfl dX0_passThrough_20 ?_
  refine lv_iload_n hx hb dX0_passThrough_23 rfl (lv_at hl 3 rfl) ?_
  refine lv_aload_n hx hb dX0_passThrough_24 rfl (lv_at hl 2 rfl) ?_
  refine lv_iload_n hx hb dX0_passThrough_25 rfl (lv_at hl 4 rfl) ?_
  refine lv_aload_n hx hb dX0_passThrough_26 rfl (lv_at hl 1 rfl) ?_
  refine kb_get (own := RX0) (C := RX0) (T := TX0) (N := 6) (v := .ref (a 4)) hx hb hts hin0 hown hX hP 0 rfl rfl rfl 3 (by decide) rfl (by decide +kernel) rfl dX0_passThrough_27 ?_
  refine lv_iload_n hx hb dX0_passThrough_30 rfl (lv_at hl 3 rfl) ?_
  refine kcN_p hx hb hml hown hts hX hP (c_X6_at l G (a 4) 4 (v.1 3) x1 (by decide)) gX0_passThrough_X6_at_n47 (by decide +kernel) (by decide +kernel) (by decide +kernel) 2 rfl rfl rfl hdS_X6_at ⟨Nat.le_of_ble_eq_true rfl, Nat.le_of_ble_eq_true rfl⟩ (cell_in (i := 0) (j := 4) rfl rfl) hl.1 rfl rfl (Nat.le_of_ble_eq_true rfl) dX0_passThrough_31 ⟨Nat.zero_le _, Nat.zero_le _⟩ ?_
  refine kcV_p hx hb hml hown hts hX hP (c_X2_otherSide l G b w x2 (rAt (v.1 3) 4 x1)) gX0_passThrough_X2_otherSide 2 rfl rfl rfl hd_X2_otherSide ⟨Nat.le_of_ble_eq_true rfl, Nat.le_of_ble_eq_true rfl⟩ [1] rfl 1 rfl rfl rfl hl.1 rfl rfl (Nat.le_of_ble_eq_true rfl) dX0_passThrough_34 ⟨Nat.zero_le _, Nat.zero_le _⟩ ?_
  refine kcN_c hx hb hml hown hts hX hP hD hS (c_X6_put l G (a 4) 4 (v.1 3) x1 (f_X2_otherSide w x2 (rAt (v.1 3) 4 x1)) (by decide)) gX0_passThrough_X6_put_n51 (by decide +kernel) (by decide +kernel) (by decide +kernel) 3 rfl rfl rfl hdS_X6_put ⟨Nat.le_of_ble_eq_true rfl, Nat.le_of_ble_eq_true rfl⟩ 0 4 rfl rfl (bX0_A3 a G (setI v 4 ((v.2 4) + (f_X0_minutesThrough v x2 x1))) (rPut (v.1 3) 4 x1 (f_X2_otherSide w x2 (rAt (v.1 3) 4 x1)))) hl.1 rfl rfl (Nat.le_of_ble_eq_true rfl) dX0_passThrough_37 ⟨Nat.zero_le _, Nat.zero_le _⟩ (fun H locs hP hD hS => ?_)
  have hP : PP G [bX0 a G (setA (setI v 4 ((v.2 4) + (f_X0_minutesThrough v x2 x1))) 3 (rPut (v.1 3) 4 x1 (f_X2_otherSide w x2 (rAt (v.1 3) 4 x1)))), bX2 b G w] H := hP
  have hD : DD (AA (List.flatten [bX0 a G v, bX2 b G w])) [bX0 a G (setA (setI v 4 ((v.2 4) + (f_X0_minutesThrough v x2 x1))) 3 (rPut (v.1 3) 4 x1 (f_X2_otherSide w x2 (rAt (v.1 3) 4 x1)))), bX2 b G w] := D_re hD (adc (bX0_ad _ _ _ _) (adc (bX2_ad _ _ _ _) adn))
  refine lv_aload_n hx hb dX0_passThrough_40 rfl (lv_at hl 1 rfl) ?_
  refine lv_iload_n hx hb dX0_passThrough_41 rfl (lv_at hl 4 rfl) ?_
  refine lv_iload_n hx hb dX0_passThrough_42 rfl (lv_at hl 3 rfl) ?_
  refine lv_aload_n hx hb dX0_passThrough_43 rfl (lv_at hl 2 rfl) ?_
  refine lv_aload_n hx hb dX0_passThrough_44 rfl (lv_at hl 1 rfl) ?_
  refine lv_iload_n hx hb dX0_passThrough_45 rfl (lv_at hl 4 rfl) ?_
  refine lv_iload_n hx hb dX0_passThrough_46 rfl (lv_at hl 3 rfl) ?_
  refine kcV_p hx hb hml hown hts hX hP (c_X0_grudgeOf l G a (setA (setI v 4 ((v.2 4) + (f_X0_minutesThrough v x2 x1))) 3 (rPut (v.1 3) 4 x1 (f_X2_otherSide w x2 (rAt (v.1 3) 4 x1)))) x2 x1) gX0_passThrough_X0_grudgeOf 2 rfl rfl rfl hd_X0_grudgeOf ⟨Nat.le_of_ble_eq_true rfl, Nat.le_of_ble_eq_true rfl⟩ [0] rfl 0 rfl rfl rfl hl.1 rfl rfl (Nat.le_of_ble_eq_true rfl) dX0_passThrough_47 ⟨Nat.zero_le _, Nat.zero_le _⟩ ?_
  refine lv_iload_n hx hb dX0_passThrough_50 rfl (lv_at hl 3 rfl) ?_
  refine lv_iload hx hb dX0_passThrough_51 (lv_at hl 5 rfl) ?_
  refine kcV_p hx hb hml hown hts hX hP (c_X2_grudgeNext l G b w (f_X0_grudgeOf (setA (setI v 4 ((v.2 4) + (f_X0_minutesThrough v x2 x1))) 3 (rPut (v.1 3) 4 x1 (f_X2_otherSide w x2 (rAt (v.1 3) 4 x1)))) x2 x1) x1 x3) gX0_passThrough_X2_grudgeNext 3 rfl rfl rfl hd_X2_grudgeNext ⟨Nat.le_of_ble_eq_true rfl, Nat.le_of_ble_eq_true rfl⟩ [1] rfl 1 rfl rfl rfl hl.1 rfl rfl (Nat.le_of_ble_eq_true rfl) dX0_passThrough_53 ⟨Nat.zero_le _, Nat.zero_le _⟩ ?_
  refine kcV_s hx hb hml hown hts hX hP hD hS (c_X0_setGrudge l G a (setA (setI v 4 ((v.2 4) + (f_X0_minutesThrough v x2 x1))) 3 (rPut (v.1 3) 4 x1 (f_X2_otherSide w x2 (rAt (v.1 3) 4 x1)))) x2 x1 (f_X2_grudgeNext w (f_X0_grudgeOf (setA (setI v 4 ((v.2 4) + (f_X0_minutesThrough v x2 x1))) 3 (rPut (v.1 3) 4 x1 (f_X2_otherSide w x2 (rAt (v.1 3) 4 x1)))) x2 x1) x1 x3)) gX0_passThrough_X0_setGrudge 3 rfl rfl rfl hd_X0_setGrudge ⟨Nat.le_of_ble_eq_true rfl, Nat.le_of_ble_eq_true rfl⟩ [0] (by decide) rfl 0 rfl rfl rfl hl.1 rfl rfl (Nat.le_of_ble_eq_true rfl) dX0_passThrough_56 ⟨Nat.zero_le _, Nat.zero_le _⟩ (fun r_ bc_ hq_1 H locs hP hD hS => ?_)
  obtain ⟨rfl, rfl⟩ := hq_1
  have hP : PP G [bX0 a G (f_X0_setGrudge (setA (setI v 4 ((v.2 4) + (f_X0_minutesThrough v x2 x1))) 3 (rPut (v.1 3) 4 x1 (f_X2_otherSide w x2 (rAt (v.1 3) 4 x1)))) x2 x1 (f_X2_grudgeNext w (f_X0_grudgeOf (setA (setI v 4 ((v.2 4) + (f_X0_minutesThrough v x2 x1))) 3 (rPut (v.1 3) 4 x1 (f_X2_otherSide w x2 (rAt (v.1 3) 4 x1)))) x2 x1) x1 x3)), bX2 b G w] H := hP
  have hD : DD (AA (List.flatten [bX0 a G v, bX2 b G w])) [bX0 a G (f_X0_setGrudge (setA (setI v 4 ((v.2 4) + (f_X0_minutesThrough v x2 x1))) 3 (rPut (v.1 3) 4 x1 (f_X2_otherSide w x2 (rAt (v.1 3) 4 x1)))) x2 x1 (f_X2_grudgeNext w (f_X0_grudgeOf (setA (setI v 4 ((v.2 4) + (f_X0_minutesThrough v x2 x1))) 3 (rPut (v.1 3) 4 x1 (f_X2_otherSide w x2 (rAt (v.1 3) 4 x1)))) x2 x1) x1 x3)), bX2 b G w] := D_re hD (adc (bX0_ad _ _ _ _) (adc (bX2_ad _ _ _ _) adn))
  refine lv_iload hx hb dX0_passThrough_59 (lv_at hl 0 rfl) ?_
  have hP : PP G [bX0 a G (f_X0_passThrough v w x1 x2 x3), bX2 b G w] H := hP
  exact kr_si hx hb hr hlocks dX0_passThrough_61 hP hS (sameAd_cons (bX0_ad _ _ _ _) (sameAd_cons (bX2_ad _ _ _ _) sameAd_nil)) ⟨rfl, rfl⟩

def rm_X0_dryOil : Room := { frames := 1, cells := 0, slots := 0, locals := 22 }
theorem hd_X0_dryOil : yX0_dryOil.cls = RX0 ∧ yX0_dryOil.cls ≠ "java/lang/invoke/MethodHandle" ∧ yX0_dryOil.cls ≠ "java/lang/invoke/VarHandle" ∧ (parseMethodDescriptor yX0_dryOil.desc).map (fun d => d.parameters.length) = some 0 := by decide +kernel
set_option maxRecDepth 100000 in
set_option maxHeartbeats 4000000 in
theorem c_X0_dryOil (l : Launch) (G : GD) (a : Nat → Nat) (v : OV)  : MetS l yX0_dryOil wsX0_dryOil rm_X0_dryOil G [bX0 a G v] [.ref (a 0)] (fun r bc => r = none ∧ bc = [bX0 a G (f_X0_dryOil v)]) := by
  refine kb_beginS (cc := cX0_dryOil) (maxL := 2) (ret := none) (by decide) rfl (Nat.le_of_ble_eq_true rfl) ?_
  intro p e s m below meth c hx hb hr hml hown hts hlocks hX H locs hP hD hS ls hl
  have hown : s.vm.findClass RX0 = some m.cls := hown
  have hl : lv_has ls 2 [(0, .ref (a 0))] := hl
  have hin0 : ∀ w ∈ u_ws RX0 TX0 6, w ∈ wsX0_dryOil := (fun _ h => List.mem_cons_of_mem _ (List.mem_append_right _ (h)))
  refine lv_iconst (v := 0) hx hb dX0_dryOil_0 (by decide) ?_
  refine lv_istore_n (lv' := [(1, .int 0), (0, .ref (a 0))]) hx hb dX0_dryOil_1 rfl hl (by decide) rfl (fun ls hl => ?_)
  refine lp_up (N := 8) (P := fun k => ∀ (H : Heap) (locs : List Loc) (ls : Array Slot), PP G [bX0 a G (itN s_dry v k)] H → DD (AA (List.flatten [bX0 a G v])) [bX0 a G (itN s_dry v k)] → va_S (AA (List.flatten [bX0 a G v])) s.heap H locs → lv_has ls 2 [(1, .int (nI k)), (0, .ref (a 0))] →  W p l e (headSpec wsX0_dryOil rm_X0_dryOil).room s m ([.ref (a 0)] : List Value).toArray below meth c H locs 0 0 (MQ below (kQs G [bX0 a G v] (fun r bc => r = none ∧ bc = [bX0 a G (f_X0_dryOil v)])) ([.ref (a 0)] : List Value).toArray s 0 0 (AA (List.flatten [bX0 a G v]))) (F0 m 2 ls [])) ?_ ?_ 0 (Nat.zero_le _)  _ _ _ hP hD hS (lv_sub hl [0, 1] rfl) 
  · skip
    intro H locs ls hP hD hS hl 
    refine lv_iload_n hx hb dX0_dryOil_2 rfl (lv_at hl 0 rfl) ?_
    refine lv_bipush (v := 8) hx hb dX0_dryOil_3 (by decide) ?_
    refine lv_icmp_ge (tgt := 36) hx hb dX0_dryOil_5 (by decide) (fun c_5 => ?_) (fun c_5 => absurd ((by decide : (8 : Int32) ≤ nI 8)) c_5)
    have hP : PP G [bX0 a G (f_X0_dryOil v)] H := by
      have e0 : (f_X0_dryOil v) = (itN s_dry v 8) := by simp only [f_X0_dryOil, if_pos c_5] <;> rfl
      rw [e0]
      exact hP
    exact kr_sv hx hb hr hlocks dX0_dryOil_36 hP hS (sameAd_cons (bX0_ad _ _ _ _) sameAd_nil) ⟨rfl, rfl⟩
  · skip
    intro k hk_k ih_2 H locs ls hP hD hS hl 
    refine lv_iload_n hx hb dX0_dryOil_2 rfl (lv_at hl 0 rfl) ?_
    refine lv_bipush (v := 8) hx hb dX0_dryOil_3 (by decide) ?_
    refine lv_icmp_ge (tgt := 36) hx hb dX0_dryOil_5 (by decide) (fun c_5 => absurd c_5 (nI_ge (b := 8) hk_k (by decide))) (fun c_5 => ?_)
    refine lv_aload_n hx hb dX0_dryOil_8 rfl (lv_at hl 1 rfl) ?_
    refine kb_get (own := RX0) (C := RX0) (T := TX0) (N := 6) (v := .ref (a 3)) hx hb hts hin0 hown hX hP 0 rfl rfl rfl 2 (by decide) rfl (by decide +kernel) rfl dX0_dryOil_9 ?_
    refine lv_iload_n hx hb dX0_dryOil_12 rfl (lv_at hl 0 rfl) ?_
    refine lv_iconst (v := 0) hx hb dX0_dryOil_13 (by decide) ?_
    refine lv_aload_n hx hb dX0_dryOil_14 rfl (lv_at hl 1 rfl) ?_
    refine kb_get (own := RX0) (C := RX0) (T := TX0) (N := 6) (v := .ref (a 3)) hx hb hts hin0 hown hX hP 0 rfl rfl rfl 2 (by decide) rfl (by decide +kernel) rfl dX0_dryOil_15 ?_
    refine lv_iload_n hx hb dX0_dryOil_18 rfl (lv_at hl 0 rfl) ?_
    refine kcN_p hx hb hml hown hts hX hP (c_X6_at l G (a 3) 8 ((itN s_dry v k).1 2) (nI k) (by decide)) gX0_dryOil_X6_at_n47 (by decide +kernel) (by decide +kernel) (by decide +kernel) 2 rfl rfl rfl hdS_X6_at ⟨Nat.le_of_ble_eq_true rfl, Nat.le_of_ble_eq_true rfl⟩ (cell_in (i := 0) (j := 3) rfl rfl) hl.1 rfl rfl (Nat.le_of_ble_eq_true rfl) dX0_dryOil_19 ⟨Nat.zero_le _, Nat.zero_le _⟩ ?_
    refine lv_iconst (v := 1) hx hb dX0_dryOil_22 (by decide) ?_
    refine lv_isub hx hb dX0_dryOil_23 ?_
    refine va_mmax hx hb (hml.trans hl.1.symm) hown (hts (.methodLink RX0 108 Lib.Math.max.name) (by decide +kernel)) (hts (.static Lib.Math.max.name) (by decide +kernel)) (hts (.initialized "java/lang/Math") (by decide +kernel)) (hts (.code Lib.Math.max.name Lib.Math.max.code 2 (some .int)) (by decide +kernel)) (Nat.le_of_ble_eq_true rfl) (Nat.le_of_ble_eq_true rfl) (Nat.zero_le _) (Nat.zero_le _) dX0_dryOil_24 ?_
    refine kcN_c hx hb hml hown hts hX hP hD hS (c_X6_put l G (a 3) 8 ((itN s_dry v k).1 2) (nI k) (if 0 < (rAt ((itN s_dry v k).1 2) 8 (nI k)) - 1 then (rAt ((itN s_dry v k).1 2) 8 (nI k)) - 1 else 0) (by decide)) gX0_dryOil_X6_put_n51 (by decide +kernel) (by decide +kernel) (by decide +kernel) 3 rfl rfl rfl hdS_X6_put ⟨Nat.le_of_ble_eq_true rfl, Nat.le_of_ble_eq_true rfl⟩ 0 3 rfl rfl (bX0_A2 a G (itN s_dry v k) (rPut ((itN s_dry v k).1 2) 8 (nI k) (if 0 < (rAt ((itN s_dry v k).1 2) 8 (nI k)) - 1 then (rAt ((itN s_dry v k).1 2) 8 (nI k)) - 1 else 0))) hl.1 rfl rfl (Nat.le_of_ble_eq_true rfl) dX0_dryOil_27 ⟨Nat.zero_le _, Nat.zero_le _⟩ (fun H locs hP hD hS => ?_)
    have hP : PP G [bX0 a G (setA (itN s_dry v k) 2 (rPut ((itN s_dry v k).1 2) 8 (nI k) (if 0 < (rAt ((itN s_dry v k).1 2) 8 (nI k)) - 1 then (rAt ((itN s_dry v k).1 2) 8 (nI k)) - 1 else 0)))] H := hP
    have hD : DD (AA (List.flatten [bX0 a G v])) [bX0 a G (setA (itN s_dry v k) 2 (rPut ((itN s_dry v k).1 2) 8 (nI k) (if 0 < (rAt ((itN s_dry v k).1 2) 8 (nI k)) - 1 then (rAt ((itN s_dry v k).1 2) 8 (nI k)) - 1 else 0)))] := D_re hD (adc (bX0_ad _ _ _ _) adn)
    refine lv_iinc (v := nI (k + 1)) (lv' := [(1, .int (nI (k + 1))), (0, .ref (a 0))]) hx hb dX0_dryOil_30 hl (k := 0) rfl (nI_1 _) (by decide) rfl (fun ls hl => ?_)
    refine lv_goto (tgt := 2) hx hb dX0_dryOil_33 (by decide) ?_
    have hP : PP G [bX0 a G (itN s_dry v (k + 1))] H := hP
    have hD : DD (AA (List.flatten [bX0 a G v])) [bX0 a G (itN s_dry v (k + 1))] := D_re hD (adc (bX0_ad _ _ _ _) adn)
    exact ih_2  _ _ _ hP hD hS (show lv_has ls 2 [(1, .int (nI (k + 1))), (0, .ref (a 0))] from lv_sub hl [0, 1] rfl) 

def rm_X0_passOn : Room := { frames := 2, cells := 0, slots := 0, locals := 45 }
theorem hd_X0_passOn : yX0_passOn.cls = RX0 ∧ yX0_passOn.cls ≠ "java/lang/invoke/MethodHandle" ∧ yX0_passOn.cls ≠ "java/lang/invoke/VarHandle" ∧ (parseMethodDescriptor yX0_passOn.desc).map (fun d => d.parameters.length) = some 2 := by decide +kernel
set_option maxRecDepth 100000 in
set_option maxHeartbeats 4000000 in
theorem c_X0_passOn (l : Launch) (G : GD) (a : Nat → Nat) (v : OV) (b : Nat → Nat) (w : OV) (x1 : Int32)  : MetS l yX0_passOn wsX0_passOn rm_X0_passOn G [bX0 a G v, bX2 b G w] [.ref (a 0), .ref (b 0), .int x1] (fun r bc => r = none ∧ bc = [bX0 a G (f_X0_passOn v w x1), bX2 b G w]) := by
  refine kb_beginS (cc := cX0_passOn) (maxL := 6) (ret := none) (by decide) rfl (Nat.le_of_ble_eq_true rfl) ?_
  intro p e s m below meth c hx hb hr hml hown hts hlocks hX H locs hP hD hS ls hl
  have hown : s.vm.findClass RX0 = some m.cls := hown
  have hl : lv_has ls 6 [(0, .ref (a 0)), (1, .ref (b 0)), (2, .int x1)] := hl
  have hin0 : ∀ w ∈ u_ws RX0 TX0 6, w ∈ wsX0_passOn := (fun _ h => List.mem_cons_of_mem _ (List.mem_append_left _ (List.mem_append_right _ (h))))
  have hin2 : ∀ w ∈ u_ws RX2 TX2 15, w ∈ wsX0_passOn := (fun _ h => List.mem_cons_of_mem _ (List.mem_append_right _ (h)))
  refine lv_aload_n hx hb dX0_passOn_0 rfl (lv_at hl 0 rfl) ?_
  refine kb_get (own := RX0) (C := RX0) (T := TX0) (N := 6) (v := .ref (a 2)) hx hb hts hin0 hown hX hP 0 rfl rfl rfl 1 (by decide) rfl (by decide +kernel) rfl dX0_passOn_1 ?_
  refine lv_iconst (v := 0) hx hb dX0_passOn_4 (by decide) ?_
  refine kcN_c hx hb hml hown hts hX hP hD hS (c_X6_fill l G (a 2) 8 (v.1 1) 0 (by decide)) gX0_passOn_X6_fill_n36 (by decide +kernel) (by decide +kernel) (by decide +kernel) 2 rfl rfl rfl hdS_X6_fill ⟨Nat.le_of_ble_eq_true rfl, Nat.le_of_ble_eq_true rfl⟩ 0 2 rfl rfl (bX0_A1 a G v (rFill (v.1 1) 0 8)) hl.1 rfl rfl (Nat.le_of_ble_eq_true rfl) dX0_passOn_5 ⟨Nat.zero_le _, Nat.zero_le _⟩ (fun H locs hP hD hS => ?_)
  have hP : PP G [bX0 a G (setA v 1 (rFill (v.1 1) 0 8)), bX2 b G w] H := hP
  have hD : DD (AA (List.flatten [bX0 a G v, bX2 b G w])) [bX0 a G (setA v 1 (rFill (v.1 1) 0 8)), bX2 b G w] := D_re hD (adc (bX0_ad _ _ _ _) (adc (bX2_ad _ _ _ _) adn))
  refine lv_iconst (v := 0) hx hb dX0_passOn_8 (by decide) ?_
  refine lv_istore_n (lv' := [(3, .int 0), (0, .ref (a 0)), (1, .ref (b 0)), (2, .int x1)]) hx hb dX0_passOn_9 rfl hl (by decide) rfl (fun ls hl => ?_)
  refine lp_up (N := (w.2 9).toNatClampNeg) (P := fun k => ∀ (H : Heap) (locs : List Loc) (ls : Array Slot), PP G [bX0 a G (itN (s_pass w x1) (setA v 1 (rFill (v.1 1) 0 8)) k), bX2 b G w] H → DD (AA (List.flatten [bX0 a G v, bX2 b G w])) [bX0 a G (itN (s_pass w x1) (setA v 1 (rFill (v.1 1) 0 8)) k), bX2 b G w] → va_S (AA (List.flatten [bX0 a G v, bX2 b G w])) s.heap H locs → lv_has ls 6 [(3, .int (nI k)), (0, .ref (a 0)), (1, .ref (b 0)), (2, .int x1)] →  W p l e (headSpec wsX0_passOn rm_X0_passOn).room s m ([.ref (a 0), .ref (b 0), .int x1] : List Value).toArray below meth c H locs 0 0 (MQ below (kQs G [bX0 a G v, bX2 b G w] (fun r bc => r = none ∧ bc = [bX0 a G (f_X0_passOn v w x1), bX2 b G w])) ([.ref (a 0), .ref (b 0), .int x1] : List Value).toArray s 0 0 (AA (List.flatten [bX0 a G v, bX2 b G w]))) (F0 m 10 ls [])) ?_ ?_ 0 (Nat.zero_le _)  _ _ _ hP hD hS (lv_sub hl [0, 1, 2, 3] rfl) 
  · skip
    intro H locs ls hP hD hS hl 
    refine lv_iload_n hx hb dX0_passOn_10 rfl (lv_at hl 0 rfl) ?_
    refine lv_aload_n hx hb dX0_passOn_11 rfl (lv_at hl 2 rfl) ?_
    refine kb_getN (own := RX0) (C := RX2) (T := TX2) (N := 15) (v := .int (w.2 9)) hx hb hts hin2 hown hX hP 1 rfl rfl rfl 9 (by decide) rfl (by decide +kernel) rfl dX0_passOn_12 ?_
    refine lv_icmp_ge (tgt := 113) hx hb dX0_passOn_15 (by decide) (fun c_15 => ?_) (fun c_15 => absurd (lpx_c _) c_15)
    refine lv_iconst (v := 0) hx hb dX0_passOn_113 (by decide) ?_
    refine lv_istore_n (lv' := [(3, .int 0), (0, .ref (a 0)), (1, .ref (b 0)), (2, .int x1)]) hx hb dX0_passOn_114 rfl hl (by decide) rfl (fun ls hl => ?_)
    refine lp_up (N := (w.2 9).toNatClampNeg) (P := fun k => ∀ (H : Heap) (locs : List Loc) (ls : Array Slot), PP G [bX0 a G (itN (s_fade w x1) (f_pass1 v w x1) k), bX2 b G w] H → DD (AA (List.flatten [bX0 a G v, bX2 b G w])) [bX0 a G (itN (s_fade w x1) (f_pass1 v w x1) k), bX2 b G w] → va_S (AA (List.flatten [bX0 a G v, bX2 b G w])) s.heap H locs → lv_has ls 6 [(3, .int (nI k)), (0, .ref (a 0)), (1, .ref (b 0)), (2, .int x1)] →  W p l e (headSpec wsX0_passOn rm_X0_passOn).room s m ([.ref (a 0), .ref (b 0), .int x1] : List Value).toArray below meth c H locs 0 0 (MQ below (kQs G [bX0 a G v, bX2 b G w] (fun r bc => r = none ∧ bc = [bX0 a G (f_X0_passOn v w x1), bX2 b G w])) ([.ref (a 0), .ref (b 0), .int x1] : List Value).toArray s 0 0 (AA (List.flatten [bX0 a G v, bX2 b G w]))) (F0 m 115 ls [])) ?_ ?_ 0 (Nat.zero_le _)  _ _ _ hP hD hS (lv_sub hl [0, 1, 2, 3] rfl) 
    · skip
      intro H locs ls hP hD hS hl 
      refine lv_iload_n hx hb dX0_passOn_115 rfl (lv_at hl 0 rfl) ?_
      refine lv_aload_n hx hb dX0_passOn_116 rfl (lv_at hl 2 rfl) ?_
      refine kb_getN (own := RX0) (C := RX2) (T := TX2) (N := 15) (v := .int (w.2 9)) hx hb hts hin2 hown hX hP 1 rfl rfl rfl 9 (by decide) rfl (by decide +kernel) rfl dX0_passOn_117 ?_
      refine lv_icmp_ge (tgt := 172) hx hb dX0_passOn_120 (by decide) (fun c_120 => ?_) (fun c_120 => absurd (lpx_c _) c_120)
      have hP : PP G [bX0 a G (f_X0_passOn v w x1), bX2 b G w] H := by
        have e0 : (f_X0_passOn v w x1) = (itN (s_fade w x1) (f_pass1 v w x1) ((w.2 9).toNatClampNeg)) := by simp only [f_X0_passOn, if_pos c_15, if_pos c_120] <;> rfl
        rw [e0]
        exact hP
      exact kr_sv hx hb hr hlocks dX0_passOn_172 hP hS (sameAd_cons (bX0_ad _ _ _ _) (sameAd_cons (bX2_ad _ _ _ _) sameAd_nil)) ⟨rfl, rfl⟩
    · skip
      intro k hk_k ih_115 H locs ls hP hD hS hl 
      refine lv_iload_n hx hb dX0_passOn_115 rfl (lv_at hl 0 rfl) ?_
      refine lv_aload_n hx hb dX0_passOn_116 rfl (lv_at hl 2 rfl) ?_
      refine kb_getN (own := RX0) (C := RX2) (T := TX2) (N := 15) (v := .int (w.2 9)) hx hb hts hin2 hown hX hP 1 rfl rfl rfl 9 (by decide) rfl (by decide +kernel) rfl dX0_passOn_117 ?_
      refine lv_icmp_ge (tgt := 172) hx hb dX0_passOn_120 (by decide) (fun c_120 => absurd c_120 (lps_c hk_k)) (fun c_120 => ?_)
      refine lv_aload_n hx hb dX0_passOn_123 rfl (lv_at hl 1 rfl) ?_
      refine lv_iload_n hx hb dX0_passOn_124 rfl (lv_at hl 0 rfl) ?_
      refine lv_iload_n hx hb dX0_passOn_125 rfl (lv_at hl 3 rfl) ?_
      refine kcV_p hx hb hml hown hts hX hP (c_X0_grudgeOf l G a (itN (s_fade w x1) (f_pass1 v w x1) k) (nI k) x1) gX0_passOn_X0_grudgeOf 2 rfl rfl rfl hd_X0_grudgeOf ⟨Nat.le_of_ble_eq_true rfl, Nat.le_of_ble_eq_true rfl⟩ [0] rfl 0 rfl rfl rfl hl.1 rfl rfl (Nat.le_of_ble_eq_true rfl) dX0_passOn_126 ⟨Nat.zero_le _, Nat.zero_le _⟩ ?_
      refine lv_aload_n hx hb dX0_passOn_129 rfl (lv_at hl 1 rfl) ?_
      refine kb_get (own := RX0) (C := RX0) (T := TX0) (N := 6) (v := .ref (a 2)) hx hb hts hin0 hown hX hP 0 rfl rfl rfl 1 (by decide) rfl (by decide +kernel) rfl dX0_passOn_130 ?_
      refine lv_iload_n hx hb dX0_passOn_133 rfl (lv_at hl 0 rfl) ?_
      refine kcN_p hx hb hml hown hts hX hP (c_X6_at l G (a 2) 8 ((itN (s_fade w x1) (f_pass1 v w x1) k).1 1) (nI k) (by decide)) gX0_passOn_X6_at_n47 (by decide +kernel) (by decide +kernel) (by decide +kernel) 2 rfl rfl rfl hdS_X6_at ⟨Nat.le_of_ble_eq_true rfl, Nat.le_of_ble_eq_true rfl⟩ (cell_in (i := 0) (j := 2) rfl rfl) hl.1 rfl rfl (Nat.le_of_ble_eq_true rfl) dX0_passOn_134 ⟨Nat.zero_le _, Nat.zero_le _⟩ ?_
      refine lv_iadd hx hb dX0_passOn_137 ?_
      refine lv_aload_n hx hb dX0_passOn_138 rfl (lv_at hl 2 rfl) ?_
      refine kb_getN (own := RX0) (C := RX2) (T := TX2) (N := 15) (v := .int (w.2 12)) hx hb hts hin2 hown hX hP 1 rfl rfl rfl 12 (by decide) rfl (by decide +kernel) rfl dX0_passOn_139 ?_
      refine kcN_p hx hb hml hown hts hX hP (c_X6_worn l G ((f_X0_grudgeOf (itN (s_fade w x1) (f_pass1 v w x1) k) (nI k) x1) + (rAt ((itN (s_fade w x1) (f_pass1 v w x1) k).1 1) 8 (nI k))) (w.2 12)) gX0_passOn_X6_worn_n99 (by decide +kernel) (by decide +kernel) (by decide +kernel) 2 rfl rfl rfl hdS_X6_worn ⟨Nat.le_of_ble_eq_true rfl, Nat.le_of_ble_eq_true rfl⟩ (fun q hq => absurd hq List.not_mem_nil) hl.1 rfl rfl (Nat.le_of_ble_eq_true rfl) dX0_passOn_142 ⟨Nat.zero_le _, Nat.zero_le _⟩ ?_
      refine lv_istore (lv' := [(4, .int (fWorn ((f_X0_grudgeOf (itN (s_fade w x1) (f_pass1 v w x1) k) (nI k) x1) + (rAt ((itN (s_fade w x1) (f_pass1 v w x1) k).1 1) 8 (nI k))) (w.2 12))), (3, .int (nI k)), (0, .ref (a 0)), (1, .ref (b 0)), (2, .int x1)]) hx hb dX0_passOn_145 hl (by decide) rfl (fun ls hl => ?_)
      refine lv_aload_n hx hb dX0_passOn_147 rfl (lv_at hl 2 rfl) ?_
      refine lv_iload_n hx hb dX0_passOn_148 rfl (lv_at hl 1 rfl) ?_
      refine lv_iload_n hx hb dX0_passOn_149 rfl (lv_at hl 4 rfl) ?_
      refine lv_iload hx hb dX0_passOn_150 (lv_at hl 0 rfl) ?_
      refine lv_aload_n hx hb dX0_passOn_152 rfl (lv_at hl 3 rfl) ?_
      refine kb_getN (own := RX0) (C := RX2) (T := TX2) (N := 15) (v := .ref (b 4)) hx hb hts hin2 hown hX hP 1 rfl rfl rfl 3 (by decide) rfl (by decide +kernel) rfl dX0_passOn_153 ?_
      refine lv_iload_n hx hb dX0_passOn_156 rfl (lv_at hl 1 rfl) ?_
      refine kcN_p hx hb hml hown hts hX hP (c_X6_at l G (b 4) 8 (w.1 3) (nI k) (by decide)) gX0_passOn_X6_at_n47 (by decide +kernel) (by decide +kernel) (by decide +kernel) 2 rfl rfl rfl hdS_X6_at ⟨Nat.le_of_ble_eq_true rfl, Nat.le_of_ble_eq_true rfl⟩ (cell_in (i := 1) (j := 4) rfl rfl) hl.1 rfl rfl (Nat.le_of_ble_eq_true rfl) dX0_passOn_157 ⟨Nat.zero_le _, Nat.zero_le _⟩ ?_
      refine kcN_p hx hb hml hown hts hX hP (c_X6_grown l G (fWorn ((f_X0_grudgeOf (itN (s_fade w x1) (f_pass1 v w x1) k) (nI k) x1) + (rAt ((itN (s_fade w x1) (f_pass1 v w x1) k).1 1) 8 (nI k))) (w.2 12)) (rAt (w.1 3) 8 (nI k))) gX0_passOn_X6_grown_n105 (by decide +kernel) (by decide +kernel) (by decide +kernel) 2 rfl rfl rfl hdS_X6_grown ⟨Nat.le_of_ble_eq_true rfl, Nat.le_of_ble_eq_true rfl⟩ (fun q hq => absurd hq List.not_mem_nil) hl.1 rfl rfl (Nat.le_of_ble_eq_true rfl) dX0_passOn_160 ⟨Nat.zero_le _, Nat.zero_le _⟩ ?_
      refine kcV_s hx hb hml hown hts hX hP hD hS (c_X0_setGrudge l G a (itN (s_fade w x1) (f_pass1 v w x1) k) (nI k) x1 (fGrown (fWorn ((f_X0_grudgeOf (itN (s_fade w x1) (f_pass1 v w x1) k) (nI k) x1) + (rAt ((itN (s_fade w x1) (f_pass1 v w x1) k).1 1) 8 (nI k))) (w.2 12)) (rAt (w.1 3) 8 (nI k)))) gX0_passOn_X0_setGrudge 3 rfl rfl rfl hd_X0_setGrudge ⟨Nat.le_of_ble_eq_true rfl, Nat.le_of_ble_eq_true rfl⟩ [0] (by decide) rfl 0 rfl rfl rfl hl.1 rfl rfl (Nat.le_of_ble_eq_true rfl) dX0_passOn_163 ⟨Nat.zero_le _, Nat.zero_le _⟩ (fun r_ bc_ hq_1 H locs hP hD hS => ?_)
      obtain ⟨rfl, rfl⟩ := hq_1
      have hP : PP G [bX0 a G (f_X0_setGrudge (itN (s_fade w x1) (f_pass1 v w x1) k) (nI k) x1 (fGrown (fWorn ((f_X0_grudgeOf (itN (s_fade w x1) (f_pass1 v w x1) k) (nI k) x1) + (rAt ((itN (s_fade w x1) (f_pass1 v w x1) k).1 1) 8 (nI k))) (w.2 12)) (rAt (w.1 3) 8 (nI k)))), bX2 b G w] H := hP
      have hD : DD (AA (List.flatten [bX0 a G v, bX2 b G w])) [bX0 a G (f_X0_setGrudge (itN (s_fade w x1) (f_pass1 v w x1) k) (nI k) x1 (fGrown (fWorn ((f_X0_grudgeOf (itN (s_fade w x1) (f_pass1 v w x1) k) (nI k) x1) + (rAt ((itN (s_fade w x1) (f_pass1 v w x1) k).1 1) 8 (nI k))) (w.2 12)) (rAt (w.1 3) 8 (nI k)))), bX2 b G w] := D_re hD (adc (bX0_ad _ _ _ _) (adc (bX2_ad _ _ _ _) adn))
      refine lv_iinc (v := nI (k + 1)) (lv' := [(3, .int (nI (k + 1))), (4, .int (fWorn ((f_X0_grudgeOf (itN (s_fade w x1) (f_pass1 v w x1) k) (nI k) x1) + (rAt ((itN (s_fade w x1) (f_pass1 v w x1) k).1 1) 8 (nI k))) (w.2 12))), (0, .ref (a 0)), (1, .ref (b 0)), (2, .int x1)]) hx hb dX0_passOn_166 hl (k := 1) rfl (nI_1 _) (by decide) rfl (fun ls hl => ?_)
      refine lv_goto (tgt := 115) hx hb dX0_passOn_169 (by decide) ?_
      have hP : PP G [bX0 a G (itN (s_fade w x1) (f_pass1 v w x1) (k + 1)), bX2 b G w] H := hP
      have hD : DD (AA (List.flatten [bX0 a G v, bX2 b G w])) [bX0 a G (itN (s_fade w x1) (f_pass1 v w x1) (k + 1)), bX2 b G w] := D_re hD (adc (bX0_ad _ _ _ _) (adc (bX2_ad _ _ _ _) adn))
      exact ih_115  _ _ _ hP hD hS (show lv_has ls 6 [(3, .int (nI (k + 1))), (0, .ref (a 0)), (1, .ref (b 0)), (2, .int x1)] from lv_sub hl [0, 2, 3, 4] rfl) 
  · skip
    intro k hk_k ih_10 H locs ls hP hD hS hl 
    refine lv_iload_n hx hb dX0_passOn_10 rfl (lv_at hl 0 rfl) ?_
    refine lv_aload_n hx hb dX0_passOn_11 rfl (lv_at hl 2 rfl) ?_
    refine kb_getN (own := RX0) (C := RX2) (T := TX2) (N := 15) (v := .int (w.2 9)) hx hb hts hin2 hown hX hP 1 rfl rfl rfl 9 (by decide) rfl (by decide +kernel) rfl dX0_passOn_12 ?_
    refine lv_icmp_ge (tgt := 113) hx hb dX0_passOn_15 (by decide) (fun c_15 => absurd c_15 (lps_c hk_k)) (fun c_15 => ?_)
    refine lv_aload_n hx hb dX0_passOn_18 rfl (lv_at hl 2 rfl) ?_
    refine kb_getN (own := RX0) (C := RX2) (T := TX2) (N := 15) (v := .ref (b 3)) hx hb hts hin2 hown hX hP 1 rfl rfl rfl 2 (by decide) rfl (by decide +kernel) rfl dX0_passOn_19 ?_
    refine lv_iload_n hx hb dX0_passOn_22 rfl (lv_at hl 0 rfl) ?_
    refine kcN_p hx hb hml hown hts hX hP (c_X6_at l G (b 3) 8 (w.1 2) (nI k) (by decide)) gX0_passOn_X6_at_n47 (by decide +kernel) (by decide +kernel) (by decide +kernel) 2 rfl rfl rfl hdS_X6_at ⟨Nat.le_of_ble_eq_true rfl, Nat.le_of_ble_eq_true rfl⟩ (cell_in (i := 1) (j := 3) rfl rfl) hl.1 rfl rfl (Nat.le_of_ble_eq_true rfl) dX0_passOn_23 ⟨Nat.zero_le _, Nat.zero_le _⟩ ?_
    refine lv_istore (lv' := [(4, .int (rAt (w.1 2) 8 (nI k))), (3, .int (nI k)), (0, .ref (a 0)), (1, .ref (b 0)), (2, .int x1)]) hx hb dX0_passOn_26 hl (by decide) rfl (fun ls hl => ?_)
    refine lv_iload hx hb dX0_passOn_28 (lv_at hl 0 rfl) ?_
    refine lv_iload_n hx hb dX0_passOn_30 rfl (lv_at hl 1 rfl) ?_
    refine lv_icmp_eq (tgt := 107) hx hb dX0_passOn_31 (by decide) (fun c_31 => ?_) (fun c_31 => ?_)
    · refine lv_iinc (v := nI (k + 1)) (lv' := [(3, .int (nI (k + 1))), (4, .int (rAt (w.1 2) 8 (nI k))), (0, .ref (a 0)), (1, .ref (b 0)), (2, .int x1)]) hx hb dX0_passOn_107 hl (k := 1) rfl (nI_1 _) (by decide) rfl (fun ls hl => ?_)
      refine lv_goto (tgt := 10) hx hb dX0_passOn_110 (by decide) ?_
      have hP : PP G [bX0 a G (itN (s_pass w x1) (setA v 1 (rFill (v.1 1) 0 8)) (k + 1)), bX2 b G w] H := by
        have e0 : itN (s_pass w x1) (setA v 1 (rFill (v.1 1) 0 8)) (k + 1) = (itN (s_pass w x1) (setA v 1 (rFill (v.1 1) 0 8)) k) := by rw [itN_s]; simp only [s_pass, u_pass, fPart, if_neg c_15, if_pos c_31]
        rw [e0]
        exact hP
      have hD : DD (AA (List.flatten [bX0 a G v, bX2 b G w])) [bX0 a G (itN (s_pass w x1) (setA v 1 (rFill (v.1 1) 0 8)) (k + 1)), bX2 b G w] := D_re hD (adc (bX0_ad _ _ _ _) (adc (bX2_ad _ _ _ _) adn))
      exact ih_10  _ _ _ hP hD hS (show lv_has ls 6 [(3, .int (nI (k + 1))), (0, .ref (a 0)), (1, .ref (b 0)), (2, .int x1)] from lv_sub hl [0, 2, 3, 4] rfl) 
    · refine lv_aload_n hx hb dX0_passOn_34 rfl (lv_at hl 2 rfl) ?_
      refine lv_iload_n hx hb dX0_passOn_35 rfl (lv_at hl 1 rfl) ?_
      refine kcV_p hx hb hml hown hts hX hP (c_X0_isOiled l G a (itN (s_pass w x1) (setA v 1 (rFill (v.1 1) 0 8)) k) (nI k)) gX0_passOn_X0_isOiled 1 rfl rfl rfl hd_X0_isOiled ⟨Nat.le_of_ble_eq_true rfl, Nat.le_of_ble_eq_true rfl⟩ [0] rfl 0 rfl rfl rfl hl.1 rfl rfl (Nat.le_of_ble_eq_true rfl) dX0_passOn_36 ⟨Nat.zero_le _, Nat.zero_le _⟩ ?_
      refine lv_if_ne (tgt := 107) hx hb dX0_passOn_39 (by decide) (fun c_39r => ?_) (fun c_39r => ?_)
      · have c_39 := b2i_tP c_39r
        refine lv_iinc (v := nI (k + 1)) (lv' := [(3, .int (nI (k + 1))), (4, .int (rAt (w.1 2) 8 (nI k))), (0, .ref (a 0)), (1, .ref (b 0)), (2, .int x1)]) hx hb dX0_passOn_107 hl (k := 1) rfl (nI_1 _) (by decide) rfl (fun ls hl => ?_)
        refine lv_goto (tgt := 10) hx hb dX0_passOn_110 (by decide) ?_
        have hP : PP G [bX0 a G (itN (s_pass w x1) (setA v 1 (rFill (v.1 1) 0 8)) (k + 1)), bX2 b G w] H := by
          have e0 : itN (s_pass w x1) (setA v 1 (rFill (v.1 1) 0 8)) (k + 1) = (itN (s_pass w x1) (setA v 1 (rFill (v.1 1) 0 8)) k) := by rw [itN_s]; simp only [s_pass, u_pass, fPart, if_neg c_15, if_neg c_31, if_pos c_39]
          rw [e0]
          exact hP
        have hD : DD (AA (List.flatten [bX0 a G v, bX2 b G w])) [bX0 a G (itN (s_pass w x1) (setA v 1 (rFill (v.1 1) 0 8)) (k + 1)), bX2 b G w] := D_re hD (adc (bX0_ad _ _ _ _) (adc (bX2_ad _ _ _ _) adn))
        exact ih_10  _ _ _ hP hD hS (show lv_has ls 6 [(3, .int (nI (k + 1))), (0, .ref (a 0)), (1, .ref (b 0)), (2, .int x1)] from lv_sub hl [0, 2, 3, 4] rfl) 
      · have c_39 := b2i_fN c_39r
        refine lv_aload_n hx hb dX0_passOn_42 rfl (lv_at hl 2 rfl) ?_
        refine lv_iload hx hb dX0_passOn_43 (lv_at hl 0 rfl) ?_
        refine kcV_p hx hb hml hown hts hX hP (c_X0_isOiled l G a (itN (s_pass w x1) (setA v 1 (rFill (v.1 1) 0 8)) k) (rAt (w.1 2) 8 (nI k))) gX0_passOn_X0_isOiled 1 rfl rfl rfl hd_X0_isOiled ⟨Nat.le_of_ble_eq_true rfl, Nat.le_of_ble_eq_true rfl⟩ [0] rfl 0 rfl rfl rfl hl.1 rfl rfl (Nat.le_of_ble_eq_true rfl) dX0_passOn_45 ⟨Nat.zero_le _, Nat.zero_le _⟩ ?_
        refine lv_if_ne (tgt := 107) hx hb dX0_passOn_48 (by decide) (fun c_48r => ?_) (fun c_48r => ?_)
        · have c_48 := b2i_tP c_48r
          refine lv_iinc (v := nI (k + 1)) (lv' := [(3, .int (nI (k + 1))), (4, .int (rAt (w.1 2) 8 (nI k))), (0, .ref (a 0)), (1, .ref (b 0)), (2, .int x1)]) hx hb dX0_passOn_107 hl (k := 1) rfl (nI_1 _) (by decide) rfl (fun ls hl => ?_)
          refine lv_goto (tgt := 10) hx hb dX0_passOn_110 (by decide) ?_
          have hP : PP G [bX0 a G (itN (s_pass w x1) (setA v 1 (rFill (v.1 1) 0 8)) (k + 1)), bX2 b G w] H := by
            have e0 : itN (s_pass w x1) (setA v 1 (rFill (v.1 1) 0 8)) (k + 1) = (itN (s_pass w x1) (setA v 1 (rFill (v.1 1) 0 8)) k) := by rw [itN_s]; simp only [s_pass, u_pass, fPart, if_neg c_15, if_neg c_31, if_neg c_39, if_pos c_48]
            rw [e0]
            exact hP
          have hD : DD (AA (List.flatten [bX0 a G v, bX2 b G w])) [bX0 a G (itN (s_pass w x1) (setA v 1 (rFill (v.1 1) 0 8)) (k + 1)), bX2 b G w] := D_re hD (adc (bX0_ad _ _ _ _) (adc (bX2_ad _ _ _ _) adn))
          exact ih_10  _ _ _ hP hD hS (show lv_has ls 6 [(3, .int (nI (k + 1))), (0, .ref (a 0)), (1, .ref (b 0)), (2, .int x1)] from lv_sub hl [0, 2, 3, 4] rfl) 
        · have c_48 := b2i_fN c_48r
          refine lv_aload_n hx hb dX0_passOn_51 rfl (lv_at hl 2 rfl) ?_
          refine lv_iload_n hx hb dX0_passOn_52 rfl (lv_at hl 1 rfl) ?_
          refine lv_iload_n hx hb dX0_passOn_53 rfl (lv_at hl 4 rfl) ?_
          refine kcV_p hx hb hml hown hts hX hP (c_X0_grudgeOf l G a (itN (s_pass w x1) (setA v 1 (rFill (v.1 1) 0 8)) k) (nI k) x1) gX0_passOn_X0_grudgeOf 2 rfl rfl rfl hd_X0_grudgeOf ⟨Nat.le_of_ble_eq_true rfl, Nat.le_of_ble_eq_true rfl⟩ [0] rfl 0 rfl rfl rfl hl.1 rfl rfl (Nat.le_of_ble_eq_true rfl) dX0_passOn_54 ⟨Nat.zero_le _, Nat.zero_le _⟩ ?_
          refine lv_aload_n hx hb dX0_passOn_57 rfl (lv_at hl 3 rfl) ?_
          refine kb_getN (own := RX0) (C := RX2) (T := TX2) (N := 15) (v := .int (w.2 11)) hx hb hts hin2 hown hX hP 1 rfl rfl rfl 11 (by decide) rfl (by decide +kernel) rfl dX0_passOn_58 ?_
          refine lv_imul hx hb dX0_passOn_61 ?_
          refine lv_bipush (v := 10) hx hb dX0_passOn_62 (by decide) ?_
          refine lv_idiv hx hb dX0_passOn_64 (by decide) ?_
          refine lv_istore (lv' := [(5, .int (((f_X0_grudgeOf (itN (s_pass w x1) (setA v 1 (rFill (v.1 1) 0 8)) k) (nI k) x1) * (w.2 11)) / 10)), (4, .int (rAt (w.1 2) 8 (nI k))), (3, .int (nI k)), (0, .ref (a 0)), (1, .ref (b 0)), (2, .int x1)]) hx hb dX0_passOn_65 hl (by decide) rfl (fun ls hl => ?_)
          refine lv_aload_n hx hb dX0_passOn_67 rfl (lv_at hl 3 rfl) ?_
          refine kb_get (own := RX0) (C := RX0) (T := TX0) (N := 6) (v := .ref (a 2)) hx hb hts hin0 hown hX hP 0 rfl rfl rfl 1 (by decide) rfl (by decide +kernel) rfl dX0_passOn_68 ?_
          refine lv_iload_n hx hb dX0_passOn_71 rfl (lv_at hl 2 rfl) ?_
          refine lv_aload_n hx hb dX0_passOn_72 rfl (lv_at hl 3 rfl) ?_
          refine kb_get (own := RX0) (C := RX0) (T := TX0) (N := 6) (v := .ref (a 2)) hx hb hts hin0 hown hX hP 0 rfl rfl rfl 1 (by decide) rfl (by decide +kernel) rfl dX0_passOn_73 ?_
          refine lv_iload_n hx hb dX0_passOn_76 rfl (lv_at hl 2 rfl) ?_
          refine kcN_p hx hb hml hown hts hX hP (c_X6_at l G (a 2) 8 ((itN (s_pass w x1) (setA v 1 (rFill (v.1 1) 0 8)) k).1 1) (nI k) (by decide)) gX0_passOn_X6_at_n47 (by decide +kernel) (by decide +kernel) (by decide +kernel) 2 rfl rfl rfl hdS_X6_at ⟨Nat.le_of_ble_eq_true rfl, Nat.le_of_ble_eq_true rfl⟩ (cell_in (i := 0) (j := 2) rfl rfl) hl.1 rfl rfl (Nat.le_of_ble_eq_true rfl) dX0_passOn_77 ⟨Nat.zero_le _, Nat.zero_le _⟩ ?_
          refine lv_iload hx hb dX0_passOn_80 (lv_at hl 0 rfl) ?_
          refine lv_isub hx hb dX0_passOn_82 ?_
          refine kcN_c hx hb hml hown hts hX hP hD hS (c_X6_put l G (a 2) 8 ((itN (s_pass w x1) (setA v 1 (rFill (v.1 1) 0 8)) k).1 1) (nI k) ((rAt ((itN (s_pass w x1) (setA v 1 (rFill (v.1 1) 0 8)) k).1 1) 8 (nI k)) - (((f_X0_grudgeOf (itN (s_pass w x1) (setA v 1 (rFill (v.1 1) 0 8)) k) (nI k) x1) * (w.2 11)) / 10)) (by decide)) gX0_passOn_X6_put_n51 (by decide +kernel) (by decide +kernel) (by decide +kernel) 3 rfl rfl rfl hdS_X6_put ⟨Nat.le_of_ble_eq_true rfl, Nat.le_of_ble_eq_true rfl⟩ 0 2 rfl rfl (bX0_A1 a G (itN (s_pass w x1) (setA v 1 (rFill (v.1 1) 0 8)) k) (rPut ((itN (s_pass w x1) (setA v 1 (rFill (v.1 1) 0 8)) k).1 1) 8 (nI k) ((rAt ((itN (s_pass w x1) (setA v 1 (rFill (v.1 1) 0 8)) k).1 1) 8 (nI k)) - (((f_X0_grudgeOf (itN (s_pass w x1) (setA v 1 (rFill (v.1 1) 0 8)) k) (nI k) x1) * (w.2 11)) / 10)))) hl.1 rfl rfl (Nat.le_of_ble_eq_true rfl) dX0_passOn_83 ⟨Nat.zero_le _, Nat.zero_le _⟩ (fun H locs hP hD hS => ?_)
          have hP : PP G [bX0 a G (setA (itN (s_pass w x1) (setA v 1 (rFill (v.1 1) 0 8)) k) 1 (rPut ((itN (s_pass w x1) (setA v 1 (rFill (v.1 1) 0 8)) k).1 1) 8 (nI k) ((rAt ((itN (s_pass w x1) (setA v 1 (rFill (v.1 1) 0 8)) k).1 1) 8 (nI k)) - (((f_X0_grudgeOf (itN (s_pass w x1) (setA v 1 (rFill (v.1 1) 0 8)) k) (nI k) x1) * (w.2 11)) / 10)))), bX2 b G w] H := hP
          have hD : DD (AA (List.flatten [bX0 a G v, bX2 b G w])) [bX0 a G (setA (itN (s_pass w x1) (setA v 1 (rFill (v.1 1) 0 8)) k) 1 (rPut ((itN (s_pass w x1) (setA v 1 (rFill (v.1 1) 0 8)) k).1 1) 8 (nI k) ((rAt ((itN (s_pass w x1) (setA v 1 (rFill (v.1 1) 0 8)) k).1 1) 8 (nI k)) - (((f_X0_grudgeOf (itN (s_pass w x1) (setA v 1 (rFill (v.1 1) 0 8)) k) (nI k) x1) * (w.2 11)) / 10)))), bX2 b G w] := D_re hD (adc (bX0_ad _ _ _ _) (adc (bX2_ad _ _ _ _) adn))
          refine lv_aload_n hx hb dX0_passOn_86 rfl (lv_at hl 3 rfl) ?_
          refine kb_get (own := RX0) (C := RX0) (T := TX0) (N := 6) (v := .ref (a 2)) hx hb hts hin0 hown hX hP 0 rfl rfl rfl 1 (by decide) rfl (by decide +kernel) rfl dX0_passOn_87 ?_
          refine lv_iload hx hb dX0_passOn_90 (lv_at hl 1 rfl) ?_
          refine lv_aload_n hx hb dX0_passOn_92 rfl (lv_at hl 3 rfl) ?_
          refine kb_get (own := RX0) (C := RX0) (T := TX0) (N := 6) (v := .ref (a 2)) hx hb hts hin0 hown hX hP 0 rfl rfl rfl 1 (by decide) rfl (by decide +kernel) rfl dX0_passOn_93 ?_
          refine lv_iload hx hb dX0_passOn_96 (lv_at hl 1 rfl) ?_
          refine kcN_p hx hb hml hown hts hX hP (c_X6_at l G (a 2) 8 (rPut ((itN (s_pass w x1) (setA v 1 (rFill (v.1 1) 0 8)) k).1 1) 8 (nI k) ((rAt ((itN (s_pass w x1) (setA v 1 (rFill (v.1 1) 0 8)) k).1 1) 8 (nI k)) - (((f_X0_grudgeOf (itN (s_pass w x1) (setA v 1 (rFill (v.1 1) 0 8)) k) (nI k) x1) * (w.2 11)) / 10))) (rAt (w.1 2) 8 (nI k)) (by decide)) gX0_passOn_X6_at_n47 (by decide +kernel) (by decide +kernel) (by decide +kernel) 2 rfl rfl rfl hdS_X6_at ⟨Nat.le_of_ble_eq_true rfl, Nat.le_of_ble_eq_true rfl⟩ (cell_in (i := 0) (j := 2) rfl rfl) hl.1 rfl rfl (Nat.le_of_ble_eq_true rfl) dX0_passOn_98 ⟨Nat.zero_le _, Nat.zero_le _⟩ ?_
          refine lv_iload hx hb dX0_passOn_101 (lv_at hl 0 rfl) ?_
          refine lv_iadd hx hb dX0_passOn_103 ?_
          refine kcN_c hx hb hml hown hts hX hP hD hS (c_X6_put l G (a 2) 8 (rPut ((itN (s_pass w x1) (setA v 1 (rFill (v.1 1) 0 8)) k).1 1) 8 (nI k) ((rAt ((itN (s_pass w x1) (setA v 1 (rFill (v.1 1) 0 8)) k).1 1) 8 (nI k)) - (((f_X0_grudgeOf (itN (s_pass w x1) (setA v 1 (rFill (v.1 1) 0 8)) k) (nI k) x1) * (w.2 11)) / 10))) (rAt (w.1 2) 8 (nI k)) ((rAt (rPut ((itN (s_pass w x1) (setA v 1 (rFill (v.1 1) 0 8)) k).1 1) 8 (nI k) ((rAt ((itN (s_pass w x1) (setA v 1 (rFill (v.1 1) 0 8)) k).1 1) 8 (nI k)) - (((f_X0_grudgeOf (itN (s_pass w x1) (setA v 1 (rFill (v.1 1) 0 8)) k) (nI k) x1) * (w.2 11)) / 10))) 8 (rAt (w.1 2) 8 (nI k))) + (((f_X0_grudgeOf (itN (s_pass w x1) (setA v 1 (rFill (v.1 1) 0 8)) k) (nI k) x1) * (w.2 11)) / 10)) (by decide)) gX0_passOn_X6_put_n51 (by decide +kernel) (by decide +kernel) (by decide +kernel) 3 rfl rfl rfl hdS_X6_put ⟨Nat.le_of_ble_eq_true rfl, Nat.le_of_ble_eq_true rfl⟩ 0 2 rfl rfl (bX0_A1 a G (setA (itN (s_pass w x1) (setA v 1 (rFill (v.1 1) 0 8)) k) 1 (rPut ((itN (s_pass w x1) (setA v 1 (rFill (v.1 1) 0 8)) k).1 1) 8 (nI k) ((rAt ((itN (s_pass w x1) (setA v 1 (rFill (v.1 1) 0 8)) k).1 1) 8 (nI k)) - (((f_X0_grudgeOf (itN (s_pass w x1) (setA v 1 (rFill (v.1 1) 0 8)) k) (nI k) x1) * (w.2 11)) / 10)))) (rPut (rPut ((itN (s_pass w x1) (setA v 1 (rFill (v.1 1) 0 8)) k).1 1) 8 (nI k) ((rAt ((itN (s_pass w x1) (setA v 1 (rFill (v.1 1) 0 8)) k).1 1) 8 (nI k)) - (((f_X0_grudgeOf (itN (s_pass w x1) (setA v 1 (rFill (v.1 1) 0 8)) k) (nI k) x1) * (w.2 11)) / 10))) 8 (rAt (w.1 2) 8 (nI k)) ((rAt (rPut ((itN (s_pass w x1) (setA v 1 (rFill (v.1 1) 0 8)) k).1 1) 8 (nI k) ((rAt ((itN (s_pass w x1) (setA v 1 (rFill (v.1 1) 0 8)) k).1 1) 8 (nI k)) - (((f_X0_grudgeOf (itN (s_pass w x1) (setA v 1 (rFill (v.1 1) 0 8)) k) (nI k) x1) * (w.2 11)) / 10))) 8 (rAt (w.1 2) 8 (nI k))) + (((f_X0_grudgeOf (itN (s_pass w x1) (setA v 1 (rFill (v.1 1) 0 8)) k) (nI k) x1) * (w.2 11)) / 10)))) hl.1 rfl rfl (Nat.le_of_ble_eq_true rfl) dX0_passOn_104 ⟨Nat.zero_le _, Nat.zero_le _⟩ (fun H locs hP hD hS => ?_)
          have hP : PP G [bX0 a G (setA (setA (itN (s_pass w x1) (setA v 1 (rFill (v.1 1) 0 8)) k) 1 (rPut ((itN (s_pass w x1) (setA v 1 (rFill (v.1 1) 0 8)) k).1 1) 8 (nI k) ((rAt ((itN (s_pass w x1) (setA v 1 (rFill (v.1 1) 0 8)) k).1 1) 8 (nI k)) - (((f_X0_grudgeOf (itN (s_pass w x1) (setA v 1 (rFill (v.1 1) 0 8)) k) (nI k) x1) * (w.2 11)) / 10)))) 1 (rPut (rPut ((itN (s_pass w x1) (setA v 1 (rFill (v.1 1) 0 8)) k).1 1) 8 (nI k) ((rAt ((itN (s_pass w x1) (setA v 1 (rFill (v.1 1) 0 8)) k).1 1) 8 (nI k)) - (((f_X0_grudgeOf (itN (s_pass w x1) (setA v 1 (rFill (v.1 1) 0 8)) k) (nI k) x1) * (w.2 11)) / 10))) 8 (rAt (w.1 2) 8 (nI k)) ((rAt (rPut ((itN (s_pass w x1) (setA v 1 (rFill (v.1 1) 0 8)) k).1 1) 8 (nI k) ((rAt ((itN (s_pass w x1) (setA v 1 (rFill (v.1 1) 0 8)) k).1 1) 8 (nI k)) - (((f_X0_grudgeOf (itN (s_pass w x1) (setA v 1 (rFill (v.1 1) 0 8)) k) (nI k) x1) * (w.2 11)) / 10))) 8 (rAt (w.1 2) 8 (nI k))) + (((f_X0_grudgeOf (itN (s_pass w x1) (setA v 1 (rFill (v.1 1) 0 8)) k) (nI k) x1) * (w.2 11)) / 10)))), bX2 b G w] H := hP
          have hD : DD (AA (List.flatten [bX0 a G v, bX2 b G w])) [bX0 a G (setA (setA (itN (s_pass w x1) (setA v 1 (rFill (v.1 1) 0 8)) k) 1 (rPut ((itN (s_pass w x1) (setA v 1 (rFill (v.1 1) 0 8)) k).1 1) 8 (nI k) ((rAt ((itN (s_pass w x1) (setA v 1 (rFill (v.1 1) 0 8)) k).1 1) 8 (nI k)) - (((f_X0_grudgeOf (itN (s_pass w x1) (setA v 1 (rFill (v.1 1) 0 8)) k) (nI k) x1) * (w.2 11)) / 10)))) 1 (rPut (rPut ((itN (s_pass w x1) (setA v 1 (rFill (v.1 1) 0 8)) k).1 1) 8 (nI k) ((rAt ((itN (s_pass w x1) (setA v 1 (rFill (v.1 1) 0 8)) k).1 1) 8 (nI k)) - (((f_X0_grudgeOf (itN (s_pass w x1) (setA v 1 (rFill (v.1 1) 0 8)) k) (nI k) x1) * (w.2 11)) / 10))) 8 (rAt (w.1 2) 8 (nI k)) ((rAt (rPut ((itN (s_pass w x1) (setA v 1 (rFill (v.1 1) 0 8)) k).1 1) 8 (nI k) ((rAt ((itN (s_pass w x1) (setA v 1 (rFill (v.1 1) 0 8)) k).1 1) 8 (nI k)) - (((f_X0_grudgeOf (itN (s_pass w x1) (setA v 1 (rFill (v.1 1) 0 8)) k) (nI k) x1) * (w.2 11)) / 10))) 8 (rAt (w.1 2) 8 (nI k))) + (((f_X0_grudgeOf (itN (s_pass w x1) (setA v 1 (rFill (v.1 1) 0 8)) k) (nI k) x1) * (w.2 11)) / 10)))), bX2 b G w] := D_re hD (adc (bX0_ad _ _ _ _) (adc (bX2_ad _ _ _ _) adn))
          refine lv_iinc (v := nI (k + 1)) (lv' := [(3, .int (nI (k + 1))), (5, .int (((f_X0_grudgeOf (itN (s_pass w x1) (setA v 1 (rFill (v.1 1) 0 8)) k) (nI k) x1) * (w.2 11)) / 10)), (4, .int (rAt (w.1 2) 8 (nI k))), (0, .ref (a 0)), (1, .ref (b 0)), (2, .int x1)]) hx hb dX0_passOn_107 hl (k := 2) rfl (nI_1 _) (by decide) rfl (fun ls hl => ?_)
          refine lv_goto (tgt := 10) hx hb dX0_passOn_110 (by decide) ?_
          have hP : PP G [bX0 a G (itN (s_pass w x1) (setA v 1 (rFill (v.1 1) 0 8)) (k + 1)), bX2 b G w] H := by
            have e0 : itN (s_pass w x1) (setA v 1 (rFill (v.1 1) 0 8)) (k + 1) = (setA (setA (itN (s_pass w x1) (setA v 1 (rFill (v.1 1) 0 8)) k) 1 (rPut ((itN (s_pass w x1) (setA v 1 (rFill (v.1 1) 0 8)) k).1 1) 8 (nI k) ((rAt ((itN (s_pass w x1) (setA v 1 (rFill (v.1 1) 0 8)) k).1 1) 8 (nI k)) - (((f_X0_grudgeOf (itN (s_pass w x1) (setA v 1 (rFill (v.1 1) 0 8)) k) (nI k) x1) * (w.2 11)) / 10)))) 1 (rPut (rPut ((itN (s_pass w x1) (setA v 1 (rFill (v.1 1) 0 8)) k).1 1) 8 (nI k) ((rAt ((itN (s_pass w x1) (setA v 1 (rFill (v.1 1) 0 8)) k).1 1) 8 (nI k)) - (((f_X0_grudgeOf (itN (s_pass w x1) (setA v 1 (rFill (v.1 1) 0 8)) k) (nI k) x1) * (w.2 11)) / 10))) 8 (rAt (w.1 2) 8 (nI k)) ((rAt (rPut ((itN (s_pass w x1) (setA v 1 (rFill (v.1 1) 0 8)) k).1 1) 8 (nI k) ((rAt ((itN (s_pass w x1) (setA v 1 (rFill (v.1 1) 0 8)) k).1 1) 8 (nI k)) - (((f_X0_grudgeOf (itN (s_pass w x1) (setA v 1 (rFill (v.1 1) 0 8)) k) (nI k) x1) * (w.2 11)) / 10))) 8 (rAt (w.1 2) 8 (nI k))) + (((f_X0_grudgeOf (itN (s_pass w x1) (setA v 1 (rFill (v.1 1) 0 8)) k) (nI k) x1) * (w.2 11)) / 10)))) := by rw [itN_s]; simp only [s_pass, u_pass, fPart, if_neg c_15, if_neg c_31, if_neg c_39, if_neg c_48]
            rw [e0]
            exact hP
          have hD : DD (AA (List.flatten [bX0 a G v, bX2 b G w])) [bX0 a G (itN (s_pass w x1) (setA v 1 (rFill (v.1 1) 0 8)) (k + 1)), bX2 b G w] := D_re hD (adc (bX0_ad _ _ _ _) (adc (bX2_ad _ _ _ _) adn))
          exact ih_10  _ _ _ hP hD hS (show lv_has ls 6 [(3, .int (nI (k + 1))), (0, .ref (a 0)), (1, .ref (b 0)), (2, .int x1)] from lv_sub hl [0, 3, 4, 5] rfl) 

def rm_X0_sleep : Room := { frames := 3, cells := 0, slots := 0, locals := 70 }
theorem hd_X0_sleep : yX0_sleep.cls = RX0 ∧ yX0_sleep.cls ≠ "java/lang/invoke/MethodHandle" ∧ yX0_sleep.cls ≠ "java/lang/invoke/VarHandle" ∧ (parseMethodDescriptor yX0_sleep.desc).map (fun d => d.parameters.length) = some 1 := by decide +kernel
set_option maxRecDepth 100000 in
set_option maxHeartbeats 4000000 in
theorem c_X0_sleep (l : Launch) (G : GD) (a : Nat → Nat) (v : OV) (b : Nat → Nat) (w : OV)  : MetS l yX0_sleep wsX0_sleep rm_X0_sleep G [bX0 a G v, bX2 b G w] [.ref (a 0), .ref (b 0)] (fun r bc => r = none ∧ bc = [bX0 a G (f_X0_sleep v w), bX2 b G w]) := by
  refine kb_beginS (cc := cX0_sleep) (maxL := 3) (ret := none) (by decide) rfl (Nat.le_of_ble_eq_true rfl) ?_
  intro p e s m below meth c hx hb hr hml hown hts hlocks hX H locs hP hD hS ls hl
  have hown : s.vm.findClass RX0 = some m.cls := hown
  have hl : lv_has ls 3 [(0, .ref (a 0)), (1, .ref (b 0))] := hl
  have hin0 : ∀ w ∈ u_ws RX0 TX0 6, w ∈ wsX0_sleep := (fun _ h => List.mem_cons_of_mem _ (List.mem_append_right _ (h)))
  have hin2 : ∀ w ∈ u_ws RX2 TX2 15, w ∈ wsX0_sleep := (fun _ h => List.mem_cons_of_mem _ (List.mem_append_left _ (List.mem_append_right _ (h))))
  refine lv_iconst (v := 0) hx hb dX0_sleep_0 (by decide) ?_
  refine lv_istore_n (lv' := [(2, .int 0), (0, .ref (a 0)), (1, .ref (b 0))]) hx hb dX0_sleep_1 rfl hl (by decide) rfl (fun ls hl => ?_)
  refine lp_up (N := (w.2 10).toNatClampNeg) (P := fun k => ∀ (H : Heap) (locs : List Loc) (ls : Array Slot), PP G [bX0 a G (itN (s_sleep w) v k), bX2 b G w] H → DD (AA (List.flatten [bX0 a G v, bX2 b G w])) [bX0 a G (itN (s_sleep w) v k), bX2 b G w] → va_S (AA (List.flatten [bX0 a G v, bX2 b G w])) s.heap H locs → lv_has ls 3 [(2, .int (nI k)), (0, .ref (a 0)), (1, .ref (b 0))] →  W p l e (headSpec wsX0_sleep rm_X0_sleep).room s m ([.ref (a 0), .ref (b 0)] : List Value).toArray below meth c H locs 0 0 (MQ below (kQs G [bX0 a G v, bX2 b G w] (fun r bc => r = none ∧ bc = [bX0 a G (f_X0_sleep v w), bX2 b G w])) ([.ref (a 0), .ref (b 0)] : List Value).toArray s 0 0 (AA (List.flatten [bX0 a G v, bX2 b G w]))) (F0 m 2 ls [])) ?_ ?_ 0 (Nat.zero_le _)  _ _ _ hP hD hS (lv_sub hl [0, 1, 2] rfl) 
  · skip
    intro H locs ls hP hD hS hl 
    refine lv_iload_n hx hb dX0_sleep_2 rfl (lv_at hl 0 rfl) ?_
    refine lv_aload_n hx hb dX0_sleep_3 rfl (lv_at hl 2 rfl) ?_
    refine kb_getN (own := RX0) (C := RX2) (T := TX2) (N := 15) (v := .int (w.2 10)) hx hb hts hin2 hown hX hP 1 rfl rfl rfl 10 (by decide) rfl (by decide +kernel) rfl dX0_sleep_4 ?_
    refine lv_icmp_ge (tgt := 22) hx hb dX0_sleep_7 (by decide) (fun c_7 => ?_) (fun c_7 => absurd (lpx_c _) c_7)
    refine lv_aload_n hx hb dX0_sleep_22 rfl (lv_at hl 1 rfl) ?_
    refine kcV_s hx hb hml hown hts hX hP hD hS (c_X0_dryOil l G a (itN (s_sleep w) v ((w.2 10).toNatClampNeg))) gX0_sleep_X0_dryOil 0 rfl rfl rfl hd_X0_dryOil ⟨Nat.le_of_ble_eq_true rfl, Nat.le_of_ble_eq_true rfl⟩ [0] (by decide) rfl 0 rfl rfl rfl hl.1 rfl rfl (Nat.le_of_ble_eq_true rfl) dX0_sleep_23 ⟨Nat.zero_le _, Nat.zero_le _⟩ (fun r_ bc_ hq_1 H locs hP hD hS => ?_)
    obtain ⟨rfl, rfl⟩ := hq_1
    have hP : PP G [bX0 a G (f_X0_dryOil (itN (s_sleep w) v ((w.2 10).toNatClampNeg))), bX2 b G w] H := hP
    have hD : DD (AA (List.flatten [bX0 a G v, bX2 b G w])) [bX0 a G (f_X0_dryOil (itN (s_sleep w) v ((w.2 10).toNatClampNeg))), bX2 b G w] := D_re hD (adc (bX0_ad _ _ _ _) (adc (bX2_ad _ _ _ _) adn))
    refine lv_aload_n hx hb dX0_sleep_26 rfl (lv_at hl 1 rfl) ?_
    refine lv_dup hx hb dX0_sleep_27 rfl ?_
    refine kb_get (own := RX0) (C := RX0) (T := TX0) (N := 6) (v := .int ((f_X0_dryOil (itN (s_sleep w) v ((w.2 10).toNatClampNeg))).2 5)) hx hb hts hin0 hown hX hP 0 rfl rfl rfl 5 (by decide) rfl (by decide +kernel) rfl dX0_sleep_28 ?_
    refine lv_iconst (v := 1) hx hb dX0_sleep_31 (by decide) ?_
    refine lv_iadd hx hb dX0_sleep_32 ?_
    refine kb_put (own := RX0) (C := RX0) (T := TX0) (N := 6) hx hb hts hin0 tyX0 tyX0_ok nmX0 (ty := .int) hown hX hP hD hS 0 rfl rfl rfl 5 (by decide) rfl (by decide +kernel) (by decide +kernel) rfl rfl (Nat.le_of_ble_eq_true rfl) dX0_sleep_33 (bX0_I5 a G (f_X0_dryOil (itN (s_sleep w) v ((w.2 10).toNatClampNeg))) (((f_X0_dryOil (itN (s_sleep w) v ((w.2 10).toNatClampNeg))).2 5) + 1)) (fun H locs hP hD hS => ?_)
    have hP : PP G [bX0 a G (setI (f_X0_dryOil (itN (s_sleep w) v ((w.2 10).toNatClampNeg))) 5 (((f_X0_dryOil (itN (s_sleep w) v ((w.2 10).toNatClampNeg))).2 5) + 1)), bX2 b G w] H := hP
    have hD : DD (AA (List.flatten [bX0 a G v, bX2 b G w])) [bX0 a G (setI (f_X0_dryOil (itN (s_sleep w) v ((w.2 10).toNatClampNeg))) 5 (((f_X0_dryOil (itN (s_sleep w) v ((w.2 10).toNatClampNeg))).2 5) + 1)), bX2 b G w] := D_re hD (adc (bX0_ad _ _ _ _) (adc (bX2_ad _ _ _ _) adn))
    have hP : PP G [bX0 a G (f_X0_sleep v w), bX2 b G w] H := by
      have e0 : (f_X0_sleep v w) = (setI (f_X0_dryOil (itN (s_sleep w) v ((w.2 10).toNatClampNeg))) 5 (((f_X0_dryOil (itN (s_sleep w) v ((w.2 10).toNatClampNeg))).2 5) + 1)) := by simp only [f_X0_sleep, if_pos c_7] <;> rfl
      rw [e0]
      exact hP
    exact kr_sv hx hb hr hlocks dX0_sleep_36 hP hS (sameAd_cons (bX0_ad _ _ _ _) (sameAd_cons (bX2_ad _ _ _ _) sameAd_nil)) ⟨rfl, rfl⟩
  · skip
    intro k hk_k ih_2 H locs ls hP hD hS hl 
    refine lv_iload_n hx hb dX0_sleep_2 rfl (lv_at hl 0 rfl) ?_
    refine lv_aload_n hx hb dX0_sleep_3 rfl (lv_at hl 2 rfl) ?_
    refine kb_getN (own := RX0) (C := RX2) (T := TX2) (N := 15) (v := .int (w.2 10)) hx hb hts hin2 hown hX hP 1 rfl rfl rfl 10 (by decide) rfl (by decide +kernel) rfl dX0_sleep_4 ?_
    refine lv_icmp_ge (tgt := 22) hx hb dX0_sleep_7 (by decide) (fun c_7 => absurd c_7 (lps_c hk_k)) (fun c_7 => ?_)
    refine lv_aload_n hx hb dX0_sleep_10 rfl (lv_at hl 1 rfl) ?_
    refine lv_aload_n hx hb dX0_sleep_11 rfl (lv_at hl 2 rfl) ?_
    refine lv_iload_n hx hb dX0_sleep_12 rfl (lv_at hl 0 rfl) ?_
    refine kcV_s hx hb hml hown hts hX hP hD hS (c_X0_passOn l G a (itN (s_sleep w) v k) b w (nI k)) gX0_sleep_X0_passOn 2 rfl rfl rfl hd_X0_passOn ⟨Nat.le_of_ble_eq_true rfl, Nat.le_of_ble_eq_true rfl⟩ [0, 1] (by decide) rfl 0 rfl rfl rfl hl.1 rfl rfl (Nat.le_of_ble_eq_true rfl) dX0_sleep_13 ⟨Nat.zero_le _, Nat.zero_le _⟩ (fun r_ bc_ hq_2 H locs hP hD hS => ?_)
    obtain ⟨rfl, rfl⟩ := hq_2
    have hP : PP G [bX0 a G (f_X0_passOn (itN (s_sleep w) v k) w (nI k)), bX2 b G w] H := hP
    have hD : DD (AA (List.flatten [bX0 a G v, bX2 b G w])) [bX0 a G (f_X0_passOn (itN (s_sleep w) v k) w (nI k)), bX2 b G w] := D_re hD (adc (bX0_ad _ _ _ _) (adc (bX2_ad _ _ _ _) adn))
    refine lv_iinc (v := nI (k + 1)) (lv' := [(2, .int (nI (k + 1))), (0, .ref (a 0)), (1, .ref (b 0))]) hx hb dX0_sleep_16 hl (k := 0) rfl (nI_1 _) (by decide) rfl (fun ls hl => ?_)
    refine lv_goto (tgt := 2) hx hb dX0_sleep_19 (by decide) ?_
    have hP : PP G [bX0 a G (itN (s_sleep w) v (k + 1)), bX2 b G w] H := hP
    have hD : DD (AA (List.flatten [bX0 a G v, bX2 b G w])) [bX0 a G (itN (s_sleep w) v (k + 1)), bX2 b G w] := D_re hD (adc (bX0_ad _ _ _ _) (adc (bX2_ad _ _ _ _) adn))
    exact ih_2  _ _ _ hP hD hS (show lv_has ls 3 [(2, .int (nI (k + 1))), (0, .ref (a 0)), (1, .ref (b 0))] from lv_sub hl [0, 1, 2] rfl) 

def rm_X0_sleepAgainstOne : Room := { frames := 3, cells := 0, slots := 0, locals := 70 }
theorem hd_X0_sleepAgainstOne : yX0_sleepAgainstOne.cls = RX0 ∧ yX0_sleepAgainstOne.cls ≠ "java/lang/invoke/MethodHandle" ∧ yX0_sleepAgainstOne.cls ≠ "java/lang/invoke/VarHandle" ∧ (parseMethodDescriptor yX0_sleepAgainstOne.desc).map (fun d => d.parameters.length) = some 3 := by decide +kernel
set_option maxRecDepth 100000 in
set_option maxHeartbeats 4000000 in
theorem c_X0_sleepAgainstOne (l : Launch) (G : GD) (a : Nat → Nat) (v : OV) (b : Nat → Nat) (w : OV) (x1 : Int32) (x2 : Int32)  : MetS l yX0_sleepAgainstOne wsX0_sleepAgainstOne rm_X0_sleepAgainstOne G [bX0 a G v, bX2 b G w] [.ref (a 0), .ref (b 0), .int x1, .int x2] (fun r bc => r = none ∧ bc = [bX0 a G (f_X0_sleepAgainstOne v w x1 x2), bX2 b G w]) := by
  refine kb_beginS (cc := cX0_sleepAgainstOne) (maxL := 5) (ret := none) (by decide) rfl (Nat.le_of_ble_eq_true rfl) ?_
  intro p e s m below meth c hx hb hr hml hown hts hlocks hX H locs hP hD hS ls hl
  have hown : s.vm.findClass RX0 = some m.cls := hown
  have hl : lv_has ls 5 [(0, .ref (a 0)), (1, .ref (b 0)), (2, .int x1), (3, .int x2)] := hl
  refine lv_iconst (v := 0) hx hb dX0_sleepAgainstOne_0 (by decide) ?_
  refine lv_istore (lv' := [(4, .int 0), (0, .ref (a 0)), (1, .ref (b 0)), (2, .int x1), (3, .int x2)]) hx hb dX0_sleepAgainstOne_1 hl (by decide) rfl (fun ls hl => ?_)
  refine lp_up (N := x1.toNatClampNeg) (P := fun k => ∀ (H : Heap) (locs : List Loc) (ls : Array Slot), PP G [bX0 a G (itN (s_sleep1 w x2) v k), bX2 b G w] H → DD (AA (List.flatten [bX0 a G v, bX2 b G w])) [bX0 a G (itN (s_sleep1 w x2) v k), bX2 b G w] → va_S (AA (List.flatten [bX0 a G v, bX2 b G w])) s.heap H locs → lv_has ls 5 [(4, .int (nI k)), (0, .ref (a 0)), (1, .ref (b 0)), (2, .int x1), (3, .int x2)] →  W p l e (headSpec wsX0_sleepAgainstOne rm_X0_sleepAgainstOne).room s m ([.ref (a 0), .ref (b 0), .int x1, .int x2] : List Value).toArray below meth c H locs 0 0 (MQ below (kQs G [bX0 a G v, bX2 b G w] (fun r bc => r = none ∧ bc = [bX0 a G (f_X0_sleepAgainstOne v w x1 x2), bX2 b G w])) ([.ref (a 0), .ref (b 0), .int x1, .int x2] : List Value).toArray s 0 0 (AA (List.flatten [bX0 a G v, bX2 b G w]))) (F0 m 3 ls [])) ?_ ?_ 0 (Nat.zero_le _)  _ _ _ hP hD hS (lv_sub hl [0, 1, 2, 3, 4] rfl) 
  · skip
    intro H locs ls hP hD hS hl 
    refine lv_iload hx hb dX0_sleepAgainstOne_3 (lv_at hl 0 rfl) ?_
    refine lv_iload_n hx hb dX0_sleepAgainstOne_5 rfl (lv_at hl 3 rfl) ?_
    refine lv_icmp_ge (tgt := 25) hx hb dX0_sleepAgainstOne_6 (by decide) (fun c_6 => ?_) (fun c_6 => absurd (lpx_c _) c_6)
    have hP : PP G [bX0 a G (f_X0_sleepAgainstOne v w x1 x2), bX2 b G w] H := by
      have e0 : (f_X0_sleepAgainstOne v w x1 x2) = (itN (s_sleep1 w x2) v x1.toNatClampNeg) := by simp only [f_X0_sleepAgainstOne, if_pos c_6] <;> rfl
      rw [e0]
      exact hP
    exact kr_sv hx hb hr hlocks dX0_sleepAgainstOne_25 hP hS (sameAd_cons (bX0_ad _ _ _ _) (sameAd_cons (bX2_ad _ _ _ _) sameAd_nil)) ⟨rfl, rfl⟩
  · skip
    intro k hk_k ih_3 H locs ls hP hD hS hl 
    refine lv_iload hx hb dX0_sleepAgainstOne_3 (lv_at hl 0 rfl) ?_
    refine lv_iload_n hx hb dX0_sleepAgainstOne_5 rfl (lv_at hl 3 rfl) ?_
    refine lv_icmp_ge (tgt := 25) hx hb dX0_sleepAgainstOne_6 (by decide) (fun c_6 => absurd c_6 (lps_c hk_k)) (fun c_6 => ?_)
    refine lv_aload_n hx hb dX0_sleepAgainstOne_9 rfl (lv_at hl 1 rfl) ?_
    refine lv_aload_n hx hb dX0_sleepAgainstOne_10 rfl (lv_at hl 2 rfl) ?_
    refine lv_iload_n hx hb dX0_sleepAgainstOne_11 rfl (lv_at hl 4 rfl) ?_
    refine kcV_s hx hb hml hown hts hX hP hD hS (c_X0_passOn l G a (itN (s_sleep1 w x2) v k) b w x2) gX0_sleepAgainstOne_X0_passOn 2 rfl rfl rfl hd_X0_passOn ⟨Nat.le_of_ble_eq_true rfl, Nat.le_of_ble_eq_true rfl⟩ [0, 1] (by decide) rfl 0 rfl rfl rfl hl.1 rfl rfl (Nat.le_of_ble_eq_true rfl) dX0_sleepAgainstOne_12 ⟨Nat.zero_le _, Nat.zero_le _⟩ (fun r_ bc_ hq_1 H locs hP hD hS => ?_)
    obtain ⟨rfl, rfl⟩ := hq_1
    have hP : PP G [bX0 a G (f_X0_passOn (itN (s_sleep1 w x2) v k) w x2), bX2 b G w] H := hP
    have hD : DD (AA (List.flatten [bX0 a G v, bX2 b G w])) [bX0 a G (f_X0_passOn (itN (s_sleep1 w x2) v k) w x2), bX2 b G w] := D_re hD (adc (bX0_ad _ _ _ _) (adc (bX2_ad _ _ _ _) adn))
    refine lv_aload_n hx hb dX0_sleepAgainstOne_15 rfl (lv_at hl 1 rfl) ?_
    refine kcV_s hx hb hml hown hts hX hP hD hS (c_X0_dryOil l G a (f_X0_passOn (itN (s_sleep1 w x2) v k) w x2)) gX0_sleepAgainstOne_X0_dryOil 0 rfl rfl rfl hd_X0_dryOil ⟨Nat.le_of_ble_eq_true rfl, Nat.le_of_ble_eq_true rfl⟩ [0] (by decide) rfl 0 rfl rfl rfl hl.1 rfl rfl (Nat.le_of_ble_eq_true rfl) dX0_sleepAgainstOne_16 ⟨Nat.zero_le _, Nat.zero_le _⟩ (fun r_ bc_ hq_2 H locs hP hD hS => ?_)
    obtain ⟨rfl, rfl⟩ := hq_2
    have hP : PP G [bX0 a G (f_X0_dryOil (f_X0_passOn (itN (s_sleep1 w x2) v k) w x2)), bX2 b G w] H := hP
    have hD : DD (AA (List.flatten [bX0 a G v, bX2 b G w])) [bX0 a G (f_X0_dryOil (f_X0_passOn (itN (s_sleep1 w x2) v k) w x2)), bX2 b G w] := D_re hD (adc (bX0_ad _ _ _ _) (adc (bX2_ad _ _ _ _) adn))
    refine lv_iinc (v := nI (k + 1)) (lv' := [(4, .int (nI (k + 1))), (0, .ref (a 0)), (1, .ref (b 0)), (2, .int x1), (3, .int x2)]) hx hb dX0_sleepAgainstOne_19 hl (k := 0) rfl (nI_1 _) (by decide) rfl (fun ls hl => ?_)
    refine lv_goto (tgt := 3) hx hb dX0_sleepAgainstOne_22 (by decide) ?_
    have hP : PP G [bX0 a G (itN (s_sleep1 w x2) v (k + 1)), bX2 b G w] H := hP
    have hD : DD (AA (List.flatten [bX0 a G v, bX2 b G w])) [bX0 a G (itN (s_sleep1 w x2) v (k + 1)), bX2 b G w] := D_re hD (adc (bX0_ad _ _ _ _) (adc (bX2_ad _ _ _ _) adn))
    exact ih_3  _ _ _ hP hD hS (show lv_has ls 5 [(4, .int (nI (k + 1))), (0, .ref (a 0)), (1, .ref (b 0)), (2, .int x1), (3, .int x2)] from lv_sub hl [0, 1, 2, 3, 4] rfl) 

def rm_X0_grudgesOfDoor : Room := { frames := 2, cells := 0, slots := 0, locals := 43 }
theorem hd_X0_grudgesOfDoor : yX0_grudgesOfDoor.cls = RX0 ∧ yX0_grudgesOfDoor.cls ≠ "java/lang/invoke/MethodHandle" ∧ yX0_grudgesOfDoor.cls ≠ "java/lang/invoke/VarHandle" ∧ (parseMethodDescriptor yX0_grudgesOfDoor.desc).map (fun d => d.parameters.length) = some 2 := by decide +kernel
set_option maxRecDepth 100000 in
set_option maxHeartbeats 4000000 in
theorem c_X0_grudgesOfDoor (l : Launch) (G : GD) (a : Nat → Nat) (v : OV) (b : Nat → Nat) (w : OV) (x1 : Int32)  : MetP l yX0_grudgesOfDoor wsX0_grudgesOfDoor rm_X0_grudgesOfDoor G [bX0 a G v, bX2 b G w] [.ref (a 0), .ref (b 0), .int x1] (some (.int (f_X0_grudgesOfDoor v w x1))) := by
  refine kb_beginP (cc := cX0_grudgesOfDoor) (maxL := 5) (ret := (some .int)) (by decide) rfl (Nat.le_of_ble_eq_true rfl) ?_
  intro p e s m below meth c hx hb hr hml hown hts hlocks hX hP ls hl
  have hown : s.vm.findClass RX0 = some m.cls := hown
  have hl : lv_has ls 5 [(0, .ref (a 0)), (1, .ref (b 0)), (2, .int x1)] := hl
  have hin2 : ∀ w ∈ u_ws RX2 TX2 15, w ∈ wsX0_grudgesOfDoor := (fun _ h => List.mem_cons_of_mem _ (List.mem_append_left _ (List.mem_append_right _ (h))))
  refine lv_iconst (v := 0) hx hb dX0_grudgesOfDoor_0 (by decide) ?_
  refine lv_istore_n (lv' := [(3, .int 0), (0, .ref (a 0)), (1, .ref (b 0)), (2, .int x1)]) hx hb dX0_grudgesOfDoor_1 rfl hl (by decide) rfl (fun ls hl => ?_)
  refine lv_iconst (v := 0) hx hb dX0_grudgesOfDoor_2 (by decide) ?_
  refine lv_istore (lv' := [(4, .int 0), (3, .int 0), (0, .ref (a 0)), (1, .ref (b 0)), (2, .int x1)]) hx hb dX0_grudgesOfDoor_3 hl (by decide) rfl (fun ls hl => ?_)
  refine lp_up (N := (w.2 10).toNatClampNeg) (P := fun k => ∀ (ls : Array Slot), lv_has ls 5 [(4, .int (nI k)), (3, .int (itN (s_gsum v x1) 0 k)), (0, .ref (a 0)), (1, .ref (b 0)), (2, .int x1)] →  W p l e (headSpec wsX0_grudgesOfDoor rm_X0_grudgesOfDoor).room s m ([.ref (a 0), .ref (b 0), .int x1] : List Value).toArray below meth c s.heap [] 0 0 (MQ below (kQp (some (.int (f_X0_grudgesOfDoor v w x1)))) ([.ref (a 0), .ref (b 0), .int x1] : List Value).toArray s 0 0 (fun _ => False)) (F0 m 5 ls [])) ?_ ?_ 0 (Nat.zero_le _)  _ (lv_sub hl [0, 1, 2, 3, 4] rfl) 
  · skip
    intro ls hl 
    refine lv_iload hx hb dX0_grudgesOfDoor_5 (lv_at hl 0 rfl) ?_
    refine lv_aload_n hx hb dX0_grudgesOfDoor_7 rfl (lv_at hl 3 rfl) ?_
    refine kb_getN (own := RX0) (C := RX2) (T := TX2) (N := 15) (v := .int (w.2 10)) hx hb hts hin2 hown hX hP 1 rfl rfl rfl 10 (by decide) rfl (by decide +kernel) rfl dX0_grudgesOfDoor_8 ?_
    refine lv_icmp_ge (tgt := 30) hx hb dX0_grudgesOfDoor_11 (by decide) (fun c_11 => ?_) (fun c_11 => absurd (lpx_c _) c_11)
    refine lv_iload_n hx hb dX0_grudgesOfDoor_30 rfl (lv_at hl 1 rfl) ?_
    exact kr_pi hx hb hr hlocks dX0_grudgesOfDoor_31 (by rfl)
  · skip
    intro k hk_k ih_5 ls hl 
    refine lv_iload hx hb dX0_grudgesOfDoor_5 (lv_at hl 0 rfl) ?_
    refine lv_aload_n hx hb dX0_grudgesOfDoor_7 rfl (lv_at hl 3 rfl) ?_
    refine kb_getN (own := RX0) (C := RX2) (T := TX2) (N := 15) (v := .int (w.2 10)) hx hb hts hin2 hown hX hP 1 rfl rfl rfl 10 (by decide) rfl (by decide +kernel) rfl dX0_grudgesOfDoor_8 ?_
    refine lv_icmp_ge (tgt := 30) hx hb dX0_grudgesOfDoor_11 (by decide) (fun c_11 => absurd c_11 (lps_c hk_k)) (fun c_11 => ?_)
    refine lv_iload_n hx hb dX0_grudgesOfDoor_14 rfl (lv_at hl 1 rfl) ?_
    refine lv_aload_n hx hb dX0_grudgesOfDoor_15 rfl (lv_at hl 2 rfl) ?_
    refine lv_iload_n hx hb dX0_grudgesOfDoor_16 rfl (lv_at hl 4 rfl) ?_
    refine lv_iload hx hb dX0_grudgesOfDoor_17 (lv_at hl 0 rfl) ?_
    refine kcV_p hx hb hml hown hts hX hP (c_X0_grudgeOf l G a v x1 (nI k)) gX0_grudgesOfDoor_X0_grudgeOf 2 rfl rfl rfl hd_X0_grudgeOf ⟨Nat.le_of_ble_eq_true rfl, Nat.le_of_ble_eq_true rfl⟩ [0] rfl 0 rfl rfl rfl hl.1 rfl rfl (Nat.le_of_ble_eq_true rfl) dX0_grudgesOfDoor_19 ⟨Nat.zero_le _, Nat.zero_le _⟩ ?_
    refine lv_iadd hx hb dX0_grudgesOfDoor_22 ?_
    refine lv_istore_n (lv' := [(3, .int ((itN (s_gsum v x1) 0 k) + (f_X0_grudgeOf v x1 (nI k)))), (4, .int (nI k)), (0, .ref (a 0)), (1, .ref (b 0)), (2, .int x1)]) hx hb dX0_grudgesOfDoor_23 rfl hl (by decide) rfl (fun ls hl => ?_)
    refine lv_iinc (v := nI (k + 1)) (lv' := [(4, .int (nI (k + 1))), (3, .int ((itN (s_gsum v x1) 0 k) + (f_X0_grudgeOf v x1 (nI k)))), (0, .ref (a 0)), (1, .ref (b 0)), (2, .int x1)]) hx hb dX0_grudgesOfDoor_24 hl (k := 1) rfl (nI_1 _) (by decide) rfl (fun ls hl => ?_)
    refine lv_goto (tgt := 5) hx hb dX0_grudgesOfDoor_27 (by decide) ?_
    exact ih_5  _ (show lv_has ls 5 [(4, .int (nI (k + 1))), (3, .int (itN (s_gsum v x1) 0 (k + 1))), (0, .ref (a 0)), (1, .ref (b 0)), (2, .int x1)] from lv_sub hl [0, 1, 2, 3, 4] rfl) 

def rm_X0_allGrudges : Room := { frames := 3, cells := 0, slots := 0, locals := 67 }
theorem hd_X0_allGrudges : yX0_allGrudges.cls = RX0 ∧ yX0_allGrudges.cls ≠ "java/lang/invoke/MethodHandle" ∧ yX0_allGrudges.cls ≠ "java/lang/invoke/VarHandle" ∧ (parseMethodDescriptor yX0_allGrudges.desc).map (fun d => d.parameters.length) = some 1 := by decide +kernel
set_option maxRecDepth 100000 in
set_option maxHeartbeats 4000000 in
theorem c_X0_allGrudges (l : Launch) (G : GD) (a : Nat → Nat) (v : OV) (b : Nat → Nat) (w : OV)  : MetP l yX0_allGrudges wsX0_allGrudges rm_X0_allGrudges G [bX0 a G v, bX2 b G w] [.ref (a 0), .ref (b 0)] (some (.int (f_X0_allGrudges v w))) := by
  refine kb_beginP (cc := cX0_allGrudges) (maxL := 4) (ret := (some .int)) (by decide) rfl (Nat.le_of_ble_eq_true rfl) ?_
  intro p e s m below meth c hx hb hr hml hown hts hlocks hX hP ls hl
  have hown : s.vm.findClass RX0 = some m.cls := hown
  have hl : lv_has ls 4 [(0, .ref (a 0)), (1, .ref (b 0))] := hl
  have hin2 : ∀ w ∈ u_ws RX2 TX2 15, w ∈ wsX0_allGrudges := (fun _ h => List.mem_cons_of_mem _ (List.mem_append_left _ (List.mem_append_right _ (h))))
  refine lv_iconst (v := 0) hx hb dX0_allGrudges_0 (by decide) ?_
  refine lv_istore_n (lv' := [(2, .int 0), (0, .ref (a 0)), (1, .ref (b 0))]) hx hb dX0_allGrudges_1 rfl hl (by decide) rfl (fun ls hl => ?_)
  refine lv_iconst (v := 0) hx hb dX0_allGrudges_2 (by decide) ?_
  refine lv_istore_n (lv' := [(3, .int 0), (2, .int 0), (0, .ref (a 0)), (1, .ref (b 0))]) hx hb dX0_allGrudges_3 rfl hl (by decide) rfl (fun ls hl => ?_)
  refine lp_up (N := (w.2 9).toNatClampNeg) (P := fun k => ∀ (ls : Array Slot), lv_has ls 4 [(3, .int (nI k)), (2, .int (itN (s_gall v w) 0 k)), (0, .ref (a 0)), (1, .ref (b 0))] →  W p l e (headSpec wsX0_allGrudges rm_X0_allGrudges).room s m ([.ref (a 0), .ref (b 0)] : List Value).toArray below meth c s.heap [] 0 0 (MQ below (kQp (some (.int (f_X0_allGrudges v w)))) ([.ref (a 0), .ref (b 0)] : List Value).toArray s 0 0 (fun _ => False)) (F0 m 4 ls [])) ?_ ?_ 0 (Nat.zero_le _)  _ (lv_sub hl [0, 1, 2, 3] rfl) 
  · skip
    intro ls hl 
    refine lv_iload_n hx hb dX0_allGrudges_4 rfl (lv_at hl 0 rfl) ?_
    refine lv_aload_n hx hb dX0_allGrudges_5 rfl (lv_at hl 3 rfl) ?_
    refine kb_getN (own := RX0) (C := RX2) (T := TX2) (N := 15) (v := .int (w.2 9)) hx hb hts hin2 hown hX hP 1 rfl rfl rfl 9 (by decide) rfl (by decide +kernel) rfl dX0_allGrudges_6 ?_
    refine lv_icmp_ge (tgt := 27) hx hb dX0_allGrudges_9 (by decide) (fun c_9 => ?_) (fun c_9 => absurd (lpx_c _) c_9)
    refine lv_iload_n hx hb dX0_allGrudges_27 rfl (lv_at hl 1 rfl) ?_
    exact kr_pi hx hb hr hlocks dX0_allGrudges_28 (by rfl)
  · skip
    intro k hk_k ih_4 ls hl 
    refine lv_iload_n hx hb dX0_allGrudges_4 rfl (lv_at hl 0 rfl) ?_
    refine lv_aload_n hx hb dX0_allGrudges_5 rfl (lv_at hl 3 rfl) ?_
    refine kb_getN (own := RX0) (C := RX2) (T := TX2) (N := 15) (v := .int (w.2 9)) hx hb hts hin2 hown hX hP 1 rfl rfl rfl 9 (by decide) rfl (by decide +kernel) rfl dX0_allGrudges_6 ?_
    refine lv_icmp_ge (tgt := 27) hx hb dX0_allGrudges_9 (by decide) (fun c_9 => absurd c_9 (lps_c hk_k)) (fun c_9 => ?_)
    refine lv_iload_n hx hb dX0_allGrudges_12 rfl (lv_at hl 1 rfl) ?_
    refine lv_aload_n hx hb dX0_allGrudges_13 rfl (lv_at hl 2 rfl) ?_
    refine lv_aload_n hx hb dX0_allGrudges_14 rfl (lv_at hl 3 rfl) ?_
    refine lv_iload_n hx hb dX0_allGrudges_15 rfl (lv_at hl 0 rfl) ?_
    refine kcV_p hx hb hml hown hts hX hP (c_X0_grudgesOfDoor l G a v b w (nI k)) gX0_allGrudges_X0_grudgesOfDoor 2 rfl rfl rfl hd_X0_grudgesOfDoor ⟨Nat.le_of_ble_eq_true rfl, Nat.le_of_ble_eq_true rfl⟩ [0, 1] rfl 0 rfl rfl rfl hl.1 rfl rfl (Nat.le_of_ble_eq_true rfl) dX0_allGrudges_16 ⟨Nat.zero_le _, Nat.zero_le _⟩ ?_
    refine lv_iadd hx hb dX0_allGrudges_19 ?_
    refine lv_istore_n (lv' := [(2, .int ((itN (s_gall v w) 0 k) + (f_X0_grudgesOfDoor v w (nI k)))), (3, .int (nI k)), (0, .ref (a 0)), (1, .ref (b 0))]) hx hb dX0_allGrudges_20 rfl hl (by decide) rfl (fun ls hl => ?_)
    refine lv_iinc (v := nI (k + 1)) (lv' := [(3, .int (nI (k + 1))), (2, .int ((itN (s_gall v w) 0 k) + (f_X0_grudgesOfDoor v w (nI k)))), (0, .ref (a 0)), (1, .ref (b 0))]) hx hb dX0_allGrudges_21 hl (k := 1) rfl (nI_1 _) (by decide) rfl (fun ls hl => ?_)
    refine lv_goto (tgt := 4) hx hb dX0_allGrudges_24 (by decide) ?_
    exact ih_4  _ (show lv_has ls 4 [(3, .int (nI (k + 1))), (2, .int (itN (s_gall v w) 0 (k + 1))), (0, .ref (a 0)), (1, .ref (b 0))] from lv_sub hl [0, 1, 2, 3] rfl) 

def rm_X2_grudgeAfter : Room := { frames := 3, cells := 0, slots := 0, locals := 57 }
theorem hd_X2_grudgeAfter : yX2_grudgeAfter.cls = RX2 ∧ yX2_grudgeAfter.cls ≠ "java/lang/invoke/MethodHandle" ∧ yX2_grudgeAfter.cls ≠ "java/lang/invoke/VarHandle" ∧ (parseMethodDescriptor yX2_grudgeAfter.desc).map (fun d => d.parameters.length) = some 4 := by decide +kernel
set_option maxRecDepth 100000 in
set_option maxHeartbeats 4000000 in
theorem c_X2_grudgeAfter (l : Launch) (G : GD) (b : Nat → Nat) (w : OV) (x1 : Int32) (x2 : Int32) (x3 : Int32) (x4 : Int32)  : MetP l yX2_grudgeAfter wsX2_grudgeAfter rm_X2_grudgeAfter G [bX2 b G w] [.ref (b 0), .int x1, .int x2, .int x3, .int x4] (some (.int (f_X2_grudgeAfter w x1 x2 x3 x4))) := by
  refine kb_beginP (cc := cX2_grudgeAfter) (maxL := 7) (ret := (some .int)) (by decide) rfl (Nat.le_of_ble_eq_true rfl) ?_
  intro p e s m below meth c hx hb hr hml hown hts hlocks hX hP ls hl
  have hown : s.vm.findClass RX2 = some m.cls := hown
  have hl : lv_has ls 7 [(0, .ref (b 0)), (1, .int x1), (2, .int x2), (3, .int x3), (4, .int x4)] := hl
  have hin2 : ∀ w ∈ u_ws RX2 TX2 15, w ∈ wsX2_grudgeAfter := (fun _ h => List.mem_cons_of_mem _ (List.mem_append_right _ (h)))
  refine lv_aload_n hx hb dX2_grudgeAfter_0 rfl (lv_at hl 0 rfl) ?_
  refine kb_get (own := RX2) (C := RX2) (T := TX2) (N := 15) (v := .ref (b 8)) hx hb hts hin2 hown hX hP 0 rfl rfl rfl 7 (by decide) rfl (by decide +kernel) rfl dX2_grudgeAfter_1 ?_
  refine lv_iload_n hx hb dX2_grudgeAfter_4 rfl (lv_at hl 2 rfl) ?_
  refine lv_bipush (v := 8) hx hb dX2_grudgeAfter_5 (by decide) ?_
  refine lv_imul hx hb dX2_grudgeAfter_7 ?_
  refine lv_iload_n hx hb dX2_grudgeAfter_8 rfl (lv_at hl 1 rfl) ?_
  refine lv_iadd hx hb dX2_grudgeAfter_9 ?_
  refine kcN_p hx hb hml hown hts hX hP (c_X6_at l G (b 8) 32 (w.1 7) ((x2 * 8) + x1) (by decide)) gX2_grudgeAfter_X6_at_n66 (by decide +kernel) (by decide +kernel) (by decide +kernel) 2 rfl rfl rfl hdS_X6_at ⟨Nat.le_of_ble_eq_true rfl, Nat.le_of_ble_eq_true rfl⟩ (cell_in (i := 0) (j := 8) rfl rfl) hl.1 rfl rfl (Nat.le_of_ble_eq_true rfl) dX2_grudgeAfter_10 ⟨Nat.zero_le _, Nat.zero_le _⟩ ?_
  refine lv_istore (lv' := [(5, .int (rAt (w.1 7) 32 ((x2 * 8) + x1))), (0, .ref (b 0)), (1, .int x1), (2, .int x2), (3, .int x3), (4, .int x4)]) hx hb dX2_grudgeAfter_13 hl (by decide) rfl (fun ls hl => ?_)
  refine lv_iconst (v := 0) hx hb dX2_grudgeAfter_15 (by decide) ?_
  refine lv_istore (lv' := [(6, .int 0), (5, .int (rAt (w.1 7) 32 ((x2 * 8) + x1))), (0, .ref (b 0)), (1, .int x1), (2, .int x2), (3, .int x3), (4, .int x4)]) hx hb dX2_grudgeAfter_16 hl (by decide) rfl (fun ls hl => ?_)
  refine lp_up (N := x3.toNatClampNeg) (P := fun k => ∀ (ls : Array Slot), lv_has ls 7 [(6, .int (nI k)), (5, .int (itN (s_after w x2 x4) (rAt (w.1 7) 32 (x2 * 8 + x1)) k)), (0, .ref (b 0)), (1, .int x1), (2, .int x2), (3, .int x3), (4, .int x4)] →  W p l e (headSpec wsX2_grudgeAfter rm_X2_grudgeAfter).room s m ([.ref (b 0), .int x1, .int x2, .int x3, .int x4] : List Value).toArray below meth c s.heap [] 0 0 (MQ below (kQp (some (.int (f_X2_grudgeAfter w x1 x2 x3 x4)))) ([.ref (b 0), .int x1, .int x2, .int x3, .int x4] : List Value).toArray s 0 0 (fun _ => False)) (F0 m 18 ls [])) ?_ ?_ 0 (Nat.zero_le _)  _ (lv_sub hl [0, 1, 2, 3, 4, 5, 6] rfl) 
  · skip
    intro ls hl 
    refine lv_iload hx hb dX2_grudgeAfter_18 (lv_at hl 0 rfl) ?_
    refine lv_iload_n hx hb dX2_grudgeAfter_20 rfl (lv_at hl 5 rfl) ?_
    refine lv_icmp_ge (tgt := 46) hx hb dX2_grudgeAfter_21 (by decide) (fun c_21 => ?_) (fun c_21 => absurd (lpx_c _) c_21)
    refine lv_iload hx hb dX2_grudgeAfter_46 (lv_at hl 1 rfl) ?_
    exact kr_pi hx hb hr hlocks dX2_grudgeAfter_48 (by rfl)
  · skip
    intro k hk_k ih_18 ls hl 
    refine lv_iload hx hb dX2_grudgeAfter_18 (lv_at hl 0 rfl) ?_
    refine lv_iload_n hx hb dX2_grudgeAfter_20 rfl (lv_at hl 5 rfl) ?_
    refine lv_icmp_ge (tgt := 46) hx hb dX2_grudgeAfter_21 (by decide) (fun c_21 => absurd c_21 (lps_c hk_k)) (fun c_21 => ?_)
    refine lv_aload_n hx hb dX2_grudgeAfter_24 rfl (lv_at hl 2 rfl) ?_
    refine lv_iload hx hb dX2_grudgeAfter_25 (lv_at hl 1 rfl) ?_
    refine lv_iload_n hx hb dX2_grudgeAfter_27 rfl (lv_at hl 4 rfl) ?_
    refine lv_iload hx hb dX2_grudgeAfter_28 (lv_at hl 6 rfl) ?_
    refine lv_iload hx hb dX2_grudgeAfter_30 (lv_at hl 0 rfl) ?_
    refine kcN_p hx hb hml hown hts hX hP (c_X6_holds l G x4 (nI k)) gX2_grudgeAfter_X6_holds_n114 (by decide +kernel) (by decide +kernel) (by decide +kernel) 2 rfl rfl rfl hdS_X6_holds ⟨Nat.le_of_ble_eq_true rfl, Nat.le_of_ble_eq_true rfl⟩ (fun q hq => absurd hq List.not_mem_nil) hl.1 rfl rfl (Nat.le_of_ble_eq_true rfl) dX2_grudgeAfter_32 ⟨Nat.zero_le _, Nat.zero_le _⟩ ?_
    refine kcV_p hx hb hml hown hts hX hP (c_X2_grudgeNext l G b w (itN (s_after w x2 x4) (rAt (w.1 7) 32 (x2 * 8 + x1)) k) x2 (b2i (fHolds x4 (nI k)))) gX2_grudgeAfter_X2_grudgeNext 3 rfl rfl rfl hd_X2_grudgeNext ⟨Nat.le_of_ble_eq_true rfl, Nat.le_of_ble_eq_true rfl⟩ [0] rfl 0 rfl rfl rfl hl.1 rfl rfl (Nat.le_of_ble_eq_true rfl) dX2_grudgeAfter_35 ⟨Nat.zero_le _, Nat.zero_le _⟩ ?_
    refine lv_istore (lv' := [(5, .int (f_X2_grudgeNext w (itN (s_after w x2 x4) (rAt (w.1 7) 32 (x2 * 8 + x1)) k) x2 (b2i (fHolds x4 (nI k))))), (6, .int (nI k)), (0, .ref (b 0)), (1, .int x1), (2, .int x2), (3, .int x3), (4, .int x4)]) hx hb dX2_grudgeAfter_38 hl (by decide) rfl (fun ls hl => ?_)
    refine lv_iinc (v := nI (k + 1)) (lv' := [(6, .int (nI (k + 1))), (5, .int (f_X2_grudgeNext w (itN (s_after w x2 x4) (rAt (w.1 7) 32 (x2 * 8 + x1)) k) x2 (b2i (fHolds x4 (nI k))))), (0, .ref (b 0)), (1, .int x1), (2, .int x2), (3, .int x3), (4, .int x4)]) hx hb dX2_grudgeAfter_40 hl (k := 1) rfl (nI_1 _) (by decide) rfl (fun ls hl => ?_)
    refine lv_goto (tgt := 18) hx hb dX2_grudgeAfter_43 (by decide) ?_
    exact ih_18  _ (show lv_has ls 7 [(6, .int (nI (k + 1))), (5, .int (itN (s_after w x2 x4) (rAt (w.1 7) 32 (x2 * 8 + x1)) (k + 1))), (0, .ref (b 0)), (1, .int x1), (2, .int x2), (3, .int x3), (4, .int x4)] from lv_sub hl [0, 1, 2, 3, 4, 5, 6] rfl) 
