/-! the reference: the text -/
theorem ov_putI {v : OV} {t : Nat} {x : Int32} (h : v.2 t = x) : setI v t x = v := by
  refine Prod.ext rfl (funext fun u => ?_)
  simp only [setI]
  split
  · rename_i h1; rw [h1, h]
  · rfl
theorem nI_add_le {m n K : Nat} (hm : m < 2 ^ 29) (hn : n < 2 ^ 29) (hK : K < 2 ^ 29) (h : nI m + nI n ≤ nI K) : m + n ≤ K := by
  rw [nI_add, nI_leI (by omega) (by omega)] at h
  exact h
def byteOf (x : Int64) (k : Nat) : Int32 := vp_nar .byte ((x >>> ((8 * nI k : Int32).toInt64 &&& 63) : Int64).toInt32 : Int32).toInt8.toInt32
def wrGo (x : Int64) : Nat → (Nat → Int32) → Nat → (Nat → Int32) × Nat
  | 0, F, q => (F, q)
  | j + 1, F, q => wrGo x j (upd F q (byteOf x j)) (q + 1)
def g_writeR (T : Nat → Int32) (len : Nat) (n : Int32) (x : Int64) : Int32 := if gIn n.toInt64 1 8 = true then (if nI len + nI n.toNatClampNeg ≤ 300 then nI (wrGo x n.toNatClampNeg T len).2 else -3) else -1
def g_writeV (v : OV) (len : Nat) (n : Int32) (x : Int64) : OV := if gIn n.toInt64 1 8 = true then (if nI len + nI n.toNatClampNeg ≤ 300 then setA (setI v 0 (nI (wrGo x n.toNatClampNeg (v.1 1) len).2)) 1 (wrGo x n.toNatClampNeg (v.1 1) len).1 else v) else v
def numGo (T : Nat → Int32) : Nat → Nat → Int32 → Int32 → Nat × Int32 × Int32
  | 0, k, g, f => (k, g, f)
  | n + 1, k, g, f => if gIn (T k).toInt64 48 57 = true then (if 2 ≤ f then numGo T n (k + 1) g (f + 1) else numGo T n (k + 1) (10 * g + T k - 48) (f + 1)) else (k, g, f)
def g_numberP (T : Nat → Int32) (len q : Nat) : Nat := (numGo T (len - q) q 0 0).1
def g_numberR (T : Nat → Int32) (len q : Nat) : Int32 := if gIn (numGo T (len - q) q 0 0).2.2.toInt64 1 2 = true then (numGo T (len - q) q 0 0).2.1 else -1
theorem fuel_s {len k : Nat} (h : k < len) : len - k = (len - (k + 1)) + 1 := by omega

def rm_X7_wipe : Room := { frames := 0, cells := 0, slots := 0, locals := 0 }
theorem hd_X7_wipe : yX7_wipe.cls = RX7 ∧ yX7_wipe.cls ≠ "java/lang/invoke/MethodHandle" ∧ yX7_wipe.cls ≠ "java/lang/invoke/VarHandle" ∧ (parseMethodDescriptor yX7_wipe.desc).map (fun d => d.parameters.length) = some 0 := by decide +kernel
set_option maxRecDepth 100000 in
set_option maxHeartbeats 4000000 in
theorem c_X7_wipe (l : Launch) (G : GD) (a : Nat → Nat) (v : OV)  : MetS l yX7_wipe wsX7_wipe rm_X7_wipe G [bX7 a G v] [.ref (a 0)] (fun r bc => r = some (.int ((v.2 0))) ∧ bc = [bX7 a G (setI v 0 0)]) := by
  refine kb_beginS (cc := cX7_wipe) (maxL := 2) (ret := (some .int)) (by decide) rfl (Nat.le_of_ble_eq_true rfl) ?_
  intro p e s m below meth c hx hb hr hml hown hts hlocks hX H locs hP hD hS ls hl
  have hown : s.vm.findClass RX7 = some m.cls := hown
  have hl : lv_has ls 2 [(0, .ref (a 0))] := hl
  have hin7 : ∀ w ∈ u_ws RX7 TX7 19, w ∈ wsX7_wipe := (fun _ h => List.mem_cons_of_mem _ (List.mem_append_right _ (h)))
  refine lv_aload_n hx hb dX7_wipe_0 rfl (lv_at hl 0 rfl) ?_
  refine kb_get (own := RX7) (C := RX7) (T := TX7) (N := 19) (v := .int (v.2 0)) hx hb hts hin7 hown hX hP 0 rfl rfl rfl 0 (by decide) rfl (by decide +kernel) rfl dX7_wipe_1 ?_
  refine lv_istore_n (lv' := [(1, .int (v.2 0)), (0, .ref (a 0))]) hx hb dX7_wipe_4 rfl hl (by decide) rfl (fun ls hl => ?_)
  refine lv_aload_n hx hb dX7_wipe_5 rfl (lv_at hl 1 rfl) ?_
  refine lv_iconst (v := 0) hx hb dX7_wipe_6 (by decide) ?_
  refine kb_put (own := RX7) (C := RX7) (T := TX7) (N := 19) hx hb hts hin7 tyX7 tyX7_ok nmX7 (ty := .int) hown hX hP hD hS 0 rfl rfl rfl 0 (by decide) rfl (by decide +kernel) (by decide +kernel) rfl rfl (Nat.le_of_ble_eq_true rfl) dX7_wipe_7 (bX7_I0 a G v 0) (fun H locs hP hD hS => ?_)
  have hP : PP G [bX7 a G (setI v 0 0)] H := hP
  have hD : DD (AA (List.flatten [bX7 a G v])) [bX7 a G (setI v 0 0)] := D_re hD rfl
  refine lv_iload_n hx hb dX7_wipe_10 rfl (lv_at hl 0 rfl) ?_
  have hP : PP G [bX7 a G (setI v 0 0)] H := by
    exact hP
  exact kr_si hx hb hr hlocks dX7_wipe_11 hP hS (sameAd_rf rfl) ⟨rfl, rfl⟩

def rm_X7_write : Room := { frames := 1, cells := 0, slots := 0, locals := 25 }
theorem hd_X7_write : yX7_write.cls = RX7 ∧ yX7_write.cls ≠ "java/lang/invoke/MethodHandle" ∧ yX7_write.cls ≠ "java/lang/invoke/VarHandle" ∧ (parseMethodDescriptor yX7_write.desc).map (fun d => d.parameters.length) = some 2 := by decide +kernel
set_option maxRecDepth 100000 in
set_option maxHeartbeats 4000000 in
theorem c_X7_write (l : Launch) (G : GD) (a : Nat → Nat) (v : OV) (x1 : Int32) (x2 : Int64) (len : Nat) (hlen : v.2 0 = nI len) (hl300 : len ≤ 300) : MetS l yX7_write wsX7_write rm_X7_write G [bX7 a G v] [.ref (a 0), .int x1, .long x2] (fun r bc => r = some (.int (g_writeR ((v.1 1)) len x1 x2)) ∧ bc = [bX7 a G (g_writeV v len x1 x2)]) := by
  refine kb_beginS (cc := cX7_write) (maxL := 5) (ret := (some .int)) (by decide) rfl (Nat.le_of_ble_eq_true rfl) ?_
  intro p e s m below meth c hx hb hr hml hown hts hlocks hX H locs hP hD hS ls hl
  have hown : s.vm.findClass RX7 = some m.cls := hown
  have hl : lv_has ls 5 [(0, .ref (a 0)), (1, .int x1), (2, .long x2)] := hl
  have hin7 : ∀ w ∈ u_ws RX7 TX7 19, w ∈ wsX7_write := (fun _ h => List.mem_cons_of_mem _ (List.mem_append_right _ (h)))
  refine lv_iload_n hx hb dX7_write_0 rfl (lv_at hl 1 rfl) ?_
  refine lv_i2l (v := (x1 : Int32).toInt64) hx hb dX7_write_1 rfl ?_
  refine lv_lconst (v := 1) hx hb dX7_write_2 (by decide) ?_
  refine lv_ldc2 (own := RX7) (v := 8) hx hb hown (hts (.constantLong RX7 59 8) (by decide +kernel)) dX7_write_3 ?_
  refine kcS_p hx hb hml hown hts hX hP (c_X7_in l G ((x1 : Int32).toInt64) 1 8) gX7_write_X7_in 3 rfl rfl rfl hdS_X7_in ⟨Nat.le_of_ble_eq_true rfl, Nat.le_of_ble_eq_true rfl⟩ (fun q hq => absurd hq List.not_mem_nil) hl.1 rfl rfl (Nat.le_of_ble_eq_true rfl) dX7_write_6 ⟨Nat.zero_le _, Nat.zero_le _⟩ ?_
  refine lv_if_ne (tgt := 14) hx hb dX7_write_9 (by decide) (fun c_9 => ?_) (fun c_9 => ?_)
  · have c_9 := b2i_tP c_9
    refine lv_aload_n hx hb dX7_write_14 rfl (lv_at hl 0 rfl) ?_
    have hn_x1 := (in1_n (n := 8) c_9 rfl (by decide)).1
    refine kb_get (own := RX7) (C := RX7) (T := TX7) (N := 19) (v := .int (v.2 0)) hx hb hts hin7 hown hX hP 0 rfl rfl rfl 0 (by decide) rfl (by decide +kernel) rfl dX7_write_15 ?_
    refine kb_rw (y := nI len) hlen ?_
    refine lv_iload_n hx hb dX7_write_18 rfl (lv_at hl 1 rfl) ?_
    refine kb_nat hn_x1 ?_
    refine lv_iadd hx hb dX7_write_19 ?_
    refine lv_sipush (v := 300) hx hb dX7_write_20 (by decide) ?_
    refine lv_icmp_le (tgt := 29) hx hb dX7_write_23 (by decide) (fun c_23 => ?_) (fun c_23 => ?_)
    · have hP : PP G [bX7 a G (setA (setI v 0 (nI len)) 1 (v.1 1))] H := by rw [ov_putI hlen, ov_id]; exact hP
      have hD : DD (AA (List.flatten [bX7 a G v])) [bX7 a G (setA (setI v 0 (nI len)) 1 (v.1 1))] := D_re hD rfl
      have hn1 := in1_n (n := 8) c_9 rfl (by decide)
      have hfit := nI_add_le (m := len) (n := x1.toNatClampNeg) (K := 300) (by omega) (by omega) (by decide) c_23
      refine lv_iload_n hx hb dX7_write_29 rfl (lv_at hl 1 rfl) ?_
      refine kb_nat hn_x1 ?_
      refine lv_iconst (v := 1) hx hb dX7_write_30 (by decide) ?_
      refine lv_isub hx hb dX7_write_31 ?_
      refine lv_istore (lv' := [(4, .int ((nI x1.toNatClampNeg) - 1)), (0, .ref (a 0)), (1, .int x1), (2, .long x2)]) hx hb dX7_write_32 hl (by decide) rfl (fun ls hl => ?_)
      refine lp_dn (P := fun k => ∀ (q1 : Nat), ∀ (F : Nat → Int32), ∀ (H : Heap) (locs : List Loc) (ls : Array Slot), PP G [bX7 a G (setA (setI v 0 (nI q1)) 1 F)] H → DD (AA (List.flatten [bX7 a G v])) [bX7 a G (setA (setI v 0 (nI q1)) 1 F)] → va_S (AA (List.flatten [bX7 a G v])) s.heap H locs → lv_has ls 5 [(4, .int (nI k - 1)), (0, .ref (a 0)), (1, .int x1), (2, .long x2)] → (q1 + k ≤ 300) → (wrGo x2 x1.toNatClampNeg (v.1 1) len = wrGo x2 k F q1) → W p l e (headSpec wsX7_write rm_X7_write).room s m ([.ref (a 0), .int x1, .long x2] : List Value).toArray below meth c H locs 0 0 (MQ below (kQs G [bX7 a G v] (fun r bc => r = some (.int (g_writeR ((v.1 1)) len x1 x2)) ∧ bc = [bX7 a G (g_writeV v len x1 x2)])) ([.ref (a 0), .int x1, .long x2] : List Value).toArray s 0 0 (AA (List.flatten [bX7 a G v]))) (F0 m 34 ls [])) ?_ ?_ x1.toNatClampNeg len (v.1 1) _ _ _ hP hD hS (lv_sub hl [0, 1, 2, 3] rfl) (hfit) (rfl)
      · skip
        intro q1 F H locs ls hP hD hS hl hfb hs
        refine lv_iload hx hb dX7_write_34 (lv_at hl 0 rfl) ?_
        refine lv_if_lt (tgt := 73) hx hb dX7_write_36 (by decide) (fun c_36 => ?_) (fun c_36 => absurd ((by decide : nI 0 - 1 < 0)) c_36)
        refine lv_aload_n hx hb dX7_write_73 rfl (lv_at hl 1 rfl) ?_
        refine kb_get (own := RX7) (C := RX7) (T := TX7) (N := 19) (v := .int (nI q1)) hx hb hts hin7 hown hX hP 0 rfl rfl rfl 0 (by decide) rfl (by decide +kernel) rfl dX7_write_74 ?_
        have hP : PP G [bX7 a G (g_writeV v len x1 x2)] H := by
          unfold g_writeV
          rw [if_pos c_9, if_pos c_23, hs]
          exact hP
        exact kr_si hx hb hr hlocks dX7_write_77 hP hS (sameAd_rf rfl) ⟨by rw [g_writeR, if_pos c_9, if_pos c_23, hs]; rfl, rfl⟩
      · skip
        intro k ih_34 q1 F H locs ls hP hD hS hl hfb hs
        rw [nI_pred] at hl
        refine lv_iload hx hb dX7_write_34 (lv_at hl 0 rfl) ?_
        refine lv_if_lt (tgt := 73) hx hb dX7_write_36 (by decide) (fun c_36 => absurd c_36 (nI_pos (show k < 2 ^ 31 by omega))) (fun c_36 => ?_)
        refine lv_aload_n hx hb dX7_write_39 rfl (lv_at hl 1 rfl) ?_
        refine kb_get (own := RX7) (C := RX7) (T := TX7) (N := 19) (v := .ref (a 1)) hx hb hts hin7 hown hX hP 0 rfl rfl rfl 1 (by decide) rfl (by decide +kernel) rfl dX7_write_40 ?_
        refine lv_aload_n hx hb dX7_write_43 rfl (lv_at hl 1 rfl) ?_
        refine kb_get (own := RX7) (C := RX7) (T := TX7) (N := 19) (v := .int (nI q1)) hx hb hts hin7 hown hX hP 0 rfl rfl rfl 0 (by decide) rfl (by decide +kernel) rfl dX7_write_44 ?_
        refine lv_lload_n hx hb dX7_write_47 rfl (lv_at hl 3 rfl) ?_
        refine lv_bipush (v := 8) hx hb dX7_write_48 (by decide) ?_
        refine lv_iload hx hb dX7_write_50 (lv_at hl 0 rfl) ?_
        refine lv_imul hx hb dX7_write_52 ?_
        refine lv_lshr hx hb dX7_write_53 rfl ?_
        refine lv_l2i (v := (x2 >>> ((8 * (nI k) : Int32).toInt64 &&& 63) : Int64).toInt32) hx hb dX7_write_54 rfl ?_
        refine lv_i2b (v := ((x2 >>> ((8 * (nI k) : Int32).toInt64 &&& 63) : Int64).toInt32 : Int32).toInt8.toInt32) hx hb dX7_write_55 rfl ?_
        refine kb_bastN (jn := q1) (n := 300) (f := F) hx hb hX hP hD hS 0 1 rfl rfl rfl (by omega) (by decide) dX7_write_56 (bX7_A1 a G (setA (setI v 0 (nI q1)) 1 F) (upd F q1 (vp_nar .byte (((x2 >>> ((8 * (nI k) : Int32).toInt64 &&& 63) : Int64).toInt32 : Int32).toInt8.toInt32)))) (fun H locs hP hD hS => ?_)
        have hP : PP G [bX7 a G (setA (setA (setI v 0 (nI q1)) 1 F) 1 (upd F q1 (vp_nar .byte (((x2 >>> ((8 * (nI k) : Int32).toInt64 &&& 63) : Int64).toInt32 : Int32).toInt8.toInt32))))] H := hP
        have hD : DD (AA (List.flatten [bX7 a G v])) [bX7 a G (setA (setA (setI v 0 (nI q1)) 1 F) 1 (upd F q1 (vp_nar .byte (((x2 >>> ((8 * (nI k) : Int32).toInt64 &&& 63) : Int64).toInt32 : Int32).toInt8.toInt32))))] := D_re hD rfl
        refine lv_aload_n hx hb dX7_write_57 rfl (lv_at hl 1 rfl) ?_
        refine lv_dup hx hb dX7_write_58 rfl ?_
        refine kb_get (own := RX7) (C := RX7) (T := TX7) (N := 19) (v := .int (nI q1)) hx hb hts hin7 hown hX hP 0 rfl rfl rfl 0 (by decide) rfl (by decide +kernel) rfl dX7_write_59 ?_
        refine lv_iconst (v := 1) hx hb dX7_write_62 (by decide) ?_
        refine lv_iadd hx hb dX7_write_63 ?_
        refine kb_rw (y := nI (q1 + 1)) (nI_1 _) ?_
        refine kb_put (own := RX7) (C := RX7) (T := TX7) (N := 19) hx hb hts hin7 tyX7 tyX7_ok nmX7 (ty := .int) hown hX hP hD hS 0 rfl rfl rfl 0 (by decide) rfl (by decide +kernel) (by decide +kernel) rfl rfl (Nat.le_of_ble_eq_true rfl) dX7_write_64 (bX7_I0 a G (setA (setA (setI v 0 (nI q1)) 1 F) 1 (upd F q1 (vp_nar .byte (((x2 >>> ((8 * (nI k) : Int32).toInt64 &&& 63) : Int64).toInt32 : Int32).toInt8.toInt32)))) (nI (q1 + 1))) (fun H locs hP hD hS => ?_)
        have hP : PP G [bX7 a G (setI (setA (setA (setI v 0 (nI q1)) 1 F) 1 (upd F q1 (vp_nar .byte (((x2 >>> ((8 * (nI k) : Int32).toInt64 &&& 63) : Int64).toInt32 : Int32).toInt8.toInt32)))) 0 (nI (q1 + 1)))] H := hP
        have hD : DD (AA (List.flatten [bX7 a G v])) [bX7 a G (setI (setA (setA (setI v 0 (nI q1)) 1 F) 1 (upd F q1 (vp_nar .byte (((x2 >>> ((8 * (nI k) : Int32).toInt64 &&& 63) : Int64).toInt32 : Int32).toInt8.toInt32)))) 0 (nI (q1 + 1)))] := D_re hD rfl
        refine lv_iinc (v := (nI k) - 1) (lv' := [(4, .int ((nI k) - 1)), (0, .ref (a 0)), (1, .int x1), (2, .long x2)]) hx hb dX7_write_67 hl (k := 0) rfl (dec1 _) (by decide) rfl (fun ls hl => ?_)
        refine lv_goto (tgt := 34) hx hb dX7_write_70 (by decide) ?_
        have hP : PP G [bX7 a G (setI (setA (setA (setI v 0 (nI q1)) 1 F) 1 (upd F q1 (vp_nar .byte (((x2 >>> ((8 * (nI k) : Int32).toInt64 &&& 63) : Int64).toInt32 : Int32).toInt8.toInt32)))) 0 (nI (q1 + 1)))] H := hP
        have hD : DD (AA (List.flatten [bX7 a G v])) [bX7 a G (setI (setA (setA (setI v 0 (nI q1)) 1 F) 1 (upd F q1 (vp_nar .byte (((x2 >>> ((8 * (nI k) : Int32).toInt64 &&& 63) : Int64).toInt32 : Int32).toInt8.toInt32)))) 0 (nI (q1 + 1)))] := D_re hD rfl
        exact ih_34 (q1 + 1) (upd F q1 (vp_nar .byte (((x2 >>> ((8 * (nI k) : Int32).toInt64 &&& 63) : Int64).toInt32 : Int32).toInt8.toInt32))) _ _ _ hP hD hS (show lv_has ls 5 [(4, .int ((nI k) - 1)), (0, .ref (a 0)), (1, .int x1), (2, .long x2)] from lv_sub hl [0, 1, 2, 3] rfl) (by omega) (hs)
    · refine lv_bipush (v := (-3)) hx hb dX7_write_26 (by decide) ?_
      have hP : PP G [bX7 a G (g_writeV v len x1 x2)] H := by
        simp only [g_writeV, if_pos c_9, if_neg c_23]
        try simp only [ov_n1, ov_m1, ov_nc, ov_mc, ov_c] at hP ⊢
        exact hP
      exact kr_si hx hb hr hlocks dX7_write_28 hP hS (sameAd_rf rfl) ⟨by simp only [g_writeR, if_pos c_9, if_neg c_23] <;> rfl, rfl⟩
  · have c_9 := b2i_fN c_9
    refine lv_iconst (v := (-1)) hx hb dX7_write_12 (by decide) ?_
    have hP : PP G [bX7 a G (g_writeV v len x1 x2)] H := by
      simp only [g_writeV, if_neg c_9]
      try simp only [ov_n1, ov_m1, ov_nc, ov_mc, ov_c] at hP ⊢
      exact hP
    exact kr_si hx hb hr hlocks dX7_write_13 hP hS (sameAd_rf rfl) ⟨by simp only [g_writeR, if_neg c_9] <;> rfl, rfl⟩

def rm_X7_number : Room := { frames := 1, cells := 0, slots := 0, locals := 25 }
theorem hd_X7_number : yX7_number.cls = RX7 ∧ yX7_number.cls ≠ "java/lang/invoke/MethodHandle" ∧ yX7_number.cls ≠ "java/lang/invoke/VarHandle" ∧ (parseMethodDescriptor yX7_number.desc).map (fun d => d.parameters.length) = some 0 := by decide +kernel
set_option maxRecDepth 100000 in
set_option maxHeartbeats 4000000 in
theorem c_X7_number (l : Launch) (G : GD) (a : Nat → Nat) (v : OV) (q len : Nat) (hq : v.2 2 = nI q) (hlen : v.2 0 = nI len) (hl300 : len ≤ 300) (hqle : q ≤ len) : MetS l yX7_number wsX7_number rm_X7_number G [bX7 a G v] [.ref (a 0)] (fun r bc => r = some (.int (g_numberR ((v.1 1)) len q)) ∧ bc = [bX7 a G (setI v 2 (nI (g_numberP ((v.1 1)) len q)))]) := by
  refine kb_beginS (cc := cX7_number) (maxL := 3) (ret := (some .int)) (by decide) rfl (Nat.le_of_ble_eq_true rfl) ?_
  intro p e s m below meth c hx hb hr hml hown hts hlocks hX H locs hP hD hS ls hl
  have hown : s.vm.findClass RX7 = some m.cls := hown
  have hl : lv_has ls 3 [(0, .ref (a 0))] := hl
  have hin7 : ∀ w ∈ u_ws RX7 TX7 19, w ∈ wsX7_number := (fun _ h => List.mem_cons_of_mem _ (List.mem_append_right _ (h)))
  have hP : PP G [bX7 a G (setI v 2 (nI q))] H := by rw [ov_putI hq]; exact hP
  have hD : DD (AA (List.flatten [bX7 a G v])) [bX7 a G (setI v 2 (nI q))] := D_re hD rfl
  refine lv_iconst (v := 0) hx hb dX7_number_0 (by decide) ?_
  refine lv_istore_n (lv' := [(1, .int 0), (0, .ref (a 0))]) hx hb dX7_number_1 rfl hl (by decide) rfl (fun ls hl => ?_)
  refine lv_iconst (v := 0) hx hb dX7_number_2 (by decide) ?_
  refine lv_istore_n (lv' := [(2, .int 0), (1, .int 0), (0, .ref (a 0))]) hx hb dX7_number_3 rfl hl (by decide) rfl (fun ls hl => ?_)
  refine lp_up (N := len) (P := fun k => ∀ (g : Int32), ∀ (fg : Int32), ∀ (H : Heap) (locs : List Loc) (ls : Array Slot), PP G [bX7 a G (setI v 2 (nI k))] H → DD (AA (List.flatten [bX7 a G v])) [bX7 a G (setI v 2 (nI k))] → va_S (AA (List.flatten [bX7 a G v])) s.heap H locs → lv_has ls 3 [(2, .int fg), (1, .int g), (0, .ref (a 0))] → (numGo (v.1 1) (len - q) q 0 0 = numGo (v.1 1) (len - k) k g fg) → W p l e (headSpec wsX7_number rm_X7_number).room s m ([.ref (a 0)] : List Value).toArray below meth c H locs 0 0 (MQ below (kQs G [bX7 a G v] (fun r bc => r = some (.int (g_numberR ((v.1 1)) len q)) ∧ bc = [bX7 a G (setI v 2 (nI (g_numberP ((v.1 1)) len q)))])) ([.ref (a 0)] : List Value).toArray s 0 0 (AA (List.flatten [bX7 a G v]))) (F0 m 4 ls [])) ?_ ?_ q hqle 0 0 _ _ _ hP hD hS (lv_sub hl [0, 1, 2] rfl) (rfl)
  · skip
    intro g fg H locs ls hP hD hS hl hs
    refine lv_aload_n hx hb dX7_number_4 rfl (lv_at hl 2 rfl) ?_
    refine kb_get (own := RX7) (C := RX7) (T := TX7) (N := 19) (v := .int (nI len)) hx hb hts hin7 hown hX hP 0 rfl rfl rfl 2 (by decide) rfl (by decide +kernel) rfl dX7_number_5 ?_
    refine lv_aload_n hx hb dX7_number_8 rfl (lv_at hl 2 rfl) ?_
    refine kb_get (own := RX7) (C := RX7) (T := TX7) (N := 19) (v := .int (v.2 0)) hx hb hts hin7 hown hX hP 0 rfl rfl rfl 0 (by decide) rfl (by decide +kernel) rfl dX7_number_9 ?_
    refine kb_rw (y := nI len) hlen ?_
    refine lv_icmp_ge (tgt := 80) hx hb dX7_number_12 (by decide) (fun c_12 => ?_) (fun c_12 => absurd (lpx _) c_12)
    have hr2 : numGo (v.1 1) (len - q) q 0 0 = (len, g, fg) := by rw [hs, Nat.sub_self]; rfl
    refine lv_iload_n hx hb dX7_number_80 rfl (lv_at hl 0 rfl) ?_
    refine lv_i2l (v := (fg : Int32).toInt64) hx hb dX7_number_81 rfl ?_
    refine lv_lconst (v := 1) hx hb dX7_number_82 (by decide) ?_
    refine lv_ldc2 (own := RX7) (v := 2) hx hb hown (hts (.constantLong RX7 76 2) (by decide +kernel)) dX7_number_83 ?_
    refine kcS_p hx hb hml hown hts hX hP (c_X7_in l G ((fg : Int32).toInt64) 1 2) gX7_number_X7_in 3 rfl rfl rfl hdS_X7_in ⟨Nat.le_of_ble_eq_true rfl, Nat.le_of_ble_eq_true rfl⟩ (fun q hq => absurd hq List.not_mem_nil) hl.1 rfl rfl (Nat.le_of_ble_eq_true rfl) dX7_number_86 ⟨Nat.zero_le _, Nat.zero_le _⟩ ?_
    refine lv_if_eq (tgt := 96) hx hb dX7_number_89 (by decide) (fun c_89 => ?_) (fun c_89 => ?_)
    · have c_89 := b2i_fN c_89
      refine lv_iconst (v := (-1)) hx hb dX7_number_96 (by decide) ?_
      have hP : PP G [bX7 a G (setI v 2 (nI (g_numberP ((v.1 1)) len q)))] H := by
        rw [g_numberP, hr2]
        exact hP
      exact kr_si hx hb hr hlocks dX7_number_97 hP hS (sameAd_rf rfl) ⟨by rw [g_numberR, hr2, if_neg c_89], rfl⟩
    · have c_89 := b2i_tP c_89
      refine lv_iload_n hx hb dX7_number_92 rfl (lv_at hl 1 rfl) ?_
      refine lv_goto (tgt := 97) hx hb dX7_number_93 (by decide) ?_
      have hP : PP G [bX7 a G (setI v 2 (nI (g_numberP ((v.1 1)) len q)))] H := by
        rw [g_numberP, hr2]
        exact hP
      exact kr_si hx hb hr hlocks dX7_number_97 hP hS (sameAd_rf rfl) ⟨by rw [g_numberR, hr2, if_pos c_89], rfl⟩
  · skip
    intro k hk_k ih_4 g fg H locs ls hP hD hS hl hs
    refine lv_aload_n hx hb dX7_number_4 rfl (lv_at hl 2 rfl) ?_
    refine kb_get (own := RX7) (C := RX7) (T := TX7) (N := 19) (v := .int (nI k)) hx hb hts hin7 hown hX hP 0 rfl rfl rfl 2 (by decide) rfl (by decide +kernel) rfl dX7_number_5 ?_
    refine lv_aload_n hx hb dX7_number_8 rfl (lv_at hl 2 rfl) ?_
    refine kb_get (own := RX7) (C := RX7) (T := TX7) (N := 19) (v := .int (v.2 0)) hx hb hts hin7 hown hX hP 0 rfl rfl rfl 0 (by decide) rfl (by decide +kernel) rfl dX7_number_9 ?_
    refine kb_rw (y := nI len) hlen ?_
    refine lv_icmp_ge (tgt := 80) hx hb dX7_number_12 (by decide) (fun c_12 => absurd c_12 (nI_ge hk_k (by omega))) (fun c_12 => ?_)
    refine lv_aload_n hx hb dX7_number_15 rfl (lv_at hl 2 rfl) ?_
    refine kb_get (own := RX7) (C := RX7) (T := TX7) (N := 19) (v := .ref (a 1)) hx hb hts hin7 hown hX hP 0 rfl rfl rfl 1 (by decide) rfl (by decide +kernel) rfl dX7_number_16 ?_
    refine lv_aload_n hx hb dX7_number_19 rfl (lv_at hl 2 rfl) ?_
    refine kb_get (own := RX7) (C := RX7) (T := TX7) (N := 19) (v := .int (nI k)) hx hb hts hin7 hown hX hP 0 rfl rfl rfl 2 (by decide) rfl (by decide +kernel) rfl dX7_number_20 ?_
    refine kb_baldN (jn := k) (n := 300) (f := v.1 1) hx hb hX hP 0 1 rfl rfl rfl (by omega) (by decide) dX7_number_23 ?_
    refine lv_i2l (v := ((v.1 1) k : Int32).toInt64) hx hb dX7_number_24 rfl ?_
    refine lv_ldc2 (own := RX7) (v := 48) hx hb hown (hts (.constantLong RX7 72 48) (by decide +kernel)) dX7_number_25 ?_
    refine lv_ldc2 (own := RX7) (v := 57) hx hb hown (hts (.constantLong RX7 74 57) (by decide +kernel)) dX7_number_28 ?_
    refine kcS_p hx hb hml hown hts hX hP (c_X7_in l G (((v.1 1) k : Int32).toInt64) 48 57) gX7_number_X7_in 3 rfl rfl rfl hdS_X7_in ⟨Nat.le_of_ble_eq_true rfl, Nat.le_of_ble_eq_true rfl⟩ (fun q hq => absurd hq List.not_mem_nil) hl.1 rfl rfl (Nat.le_of_ble_eq_true rfl) dX7_number_31 ⟨Nat.zero_le _, Nat.zero_le _⟩ ?_
    refine lv_if_eq (tgt := 80) hx hb dX7_number_34 (by decide) (fun c_34 => ?_) (fun c_34 => ?_)
    · have c_34 := b2i_fN c_34
      have hr2 : numGo (v.1 1) (len - q) q 0 0 = (k, g, fg) := by rw [hs, fuel_s hk_k]; simp only [numGo, if_neg c_12, if_neg c_34]
      refine lv_iload_n hx hb dX7_number_80 rfl (lv_at hl 0 rfl) ?_
      refine lv_i2l (v := (fg : Int32).toInt64) hx hb dX7_number_81 rfl ?_
      refine lv_lconst (v := 1) hx hb dX7_number_82 (by decide) ?_
      refine lv_ldc2 (own := RX7) (v := 2) hx hb hown (hts (.constantLong RX7 76 2) (by decide +kernel)) dX7_number_83 ?_
      refine kcS_p hx hb hml hown hts hX hP (c_X7_in l G ((fg : Int32).toInt64) 1 2) gX7_number_X7_in 3 rfl rfl rfl hdS_X7_in ⟨Nat.le_of_ble_eq_true rfl, Nat.le_of_ble_eq_true rfl⟩ (fun q hq => absurd hq List.not_mem_nil) hl.1 rfl rfl (Nat.le_of_ble_eq_true rfl) dX7_number_86 ⟨Nat.zero_le _, Nat.zero_le _⟩ ?_
      refine lv_if_eq (tgt := 96) hx hb dX7_number_89 (by decide) (fun c_89 => ?_) (fun c_89 => ?_)
      · have c_89 := b2i_fN c_89
        refine lv_iconst (v := (-1)) hx hb dX7_number_96 (by decide) ?_
        have hP : PP G [bX7 a G (setI v 2 (nI (g_numberP ((v.1 1)) len q)))] H := by
          rw [g_numberP, hr2]
          exact hP
        exact kr_si hx hb hr hlocks dX7_number_97 hP hS (sameAd_rf rfl) ⟨by rw [g_numberR, hr2, if_neg c_89], rfl⟩
      · have c_89 := b2i_tP c_89
        refine lv_iload_n hx hb dX7_number_92 rfl (lv_at hl 1 rfl) ?_
        refine lv_goto (tgt := 97) hx hb dX7_number_93 (by decide) ?_
        have hP : PP G [bX7 a G (setI v 2 (nI (g_numberP ((v.1 1)) len q)))] H := by
          rw [g_numberP, hr2]
          exact hP
        exact kr_si hx hb hr hlocks dX7_number_97 hP hS (sameAd_rf rfl) ⟨by rw [g_numberR, hr2, if_pos c_89], rfl⟩
    · have c_34 := b2i_tP c_34
      refine lv_iload_n hx hb dX7_number_37 rfl (lv_at hl 0 rfl) ?_
      refine lv_iconst (v := 2) hx hb dX7_number_38 (by decide) ?_
      refine lv_icmp_ge (tgt := 62) hx hb dX7_number_39 (by decide) (fun c_39 => ?_) (fun c_39 => ?_)
      · refine lv_iload_n hx hb dX7_number_62 rfl (lv_at hl 1 rfl) ?_
        refine lv_istore_n (lv' := [(1, .int g), (2, .int fg), (0, .ref (a 0))]) hx hb dX7_number_63 rfl hl (by decide) rfl (fun ls hl => ?_)
        refine lv_iinc (v := fg + 1) (lv' := [(2, .int (fg + 1)), (1, .int g), (0, .ref (a 0))]) hx hb dX7_number_64 hl (k := 1) rfl rfl (by decide) rfl (fun ls hl => ?_)
        refine lv_aload_n hx hb dX7_number_67 rfl (lv_at hl 2 rfl) ?_
        refine lv_dup hx hb dX7_number_68 rfl ?_
        refine kb_get (own := RX7) (C := RX7) (T := TX7) (N := 19) (v := .int (nI k)) hx hb hts hin7 hown hX hP 0 rfl rfl rfl 2 (by decide) rfl (by decide +kernel) rfl dX7_number_69 ?_
        refine lv_iconst (v := 1) hx hb dX7_number_72 (by decide) ?_
        refine lv_iadd hx hb dX7_number_73 ?_
        refine kb_rw (y := nI (k + 1)) (nI_1 _) ?_
        refine kb_put (own := RX7) (C := RX7) (T := TX7) (N := 19) hx hb hts hin7 tyX7 tyX7_ok nmX7 (ty := .int) hown hX hP hD hS 0 rfl rfl rfl 2 (by decide) rfl (by decide +kernel) (by decide +kernel) rfl rfl (Nat.le_of_ble_eq_true rfl) dX7_number_74 (bX7_I2 a G (setI v 2 (nI k)) (nI (k + 1))) (fun H locs hP hD hS => ?_)
        have hP : PP G [bX7 a G (setI (setI v 2 (nI k)) 2 (nI (k + 1)))] H := hP
        have hD : DD (AA (List.flatten [bX7 a G v])) [bX7 a G (setI (setI v 2 (nI k)) 2 (nI (k + 1)))] := D_re hD rfl
        refine lv_goto (tgt := 4) hx hb dX7_number_77 (by decide) ?_
        have hP : PP G [bX7 a G (setI (setI v 2 (nI k)) 2 (nI (k + 1)))] H := hP
        have hD : DD (AA (List.flatten [bX7 a G v])) [bX7 a G (setI (setI v 2 (nI k)) 2 (nI (k + 1)))] := D_re hD rfl
        exact ih_4 g (fg + 1) _ _ _ hP hD hS (show lv_has ls 3 [(2, .int (fg + 1)), (1, .int g), (0, .ref (a 0))] from lv_sub hl [0, 1, 2] rfl) (hs.trans (by rw [fuel_s hk_k]; simp only [numGo, if_neg c_12, if_pos c_34, if_pos c_39]))
      · refine lv_bipush (v := 10) hx hb dX7_number_42 (by decide) ?_
        refine lv_iload_n hx hb dX7_number_44 rfl (lv_at hl 1 rfl) ?_
        refine lv_imul hx hb dX7_number_45 ?_
        refine lv_aload_n hx hb dX7_number_46 rfl (lv_at hl 2 rfl) ?_
        refine kb_get (own := RX7) (C := RX7) (T := TX7) (N := 19) (v := .ref (a 1)) hx hb hts hin7 hown hX hP 0 rfl rfl rfl 1 (by decide) rfl (by decide +kernel) rfl dX7_number_47 ?_
        refine lv_aload_n hx hb dX7_number_50 rfl (lv_at hl 2 rfl) ?_
        refine kb_get (own := RX7) (C := RX7) (T := TX7) (N := 19) (v := .int (nI k)) hx hb hts hin7 hown hX hP 0 rfl rfl rfl 2 (by decide) rfl (by decide +kernel) rfl dX7_number_51 ?_
        refine kb_baldN (jn := k) (n := 300) (f := v.1 1) hx hb hX hP 0 1 rfl rfl rfl (by omega) (by decide) dX7_number_54 ?_
        refine lv_iadd hx hb dX7_number_55 ?_
        refine lv_bipush (v := 48) hx hb dX7_number_56 (by decide) ?_
        refine lv_isub hx hb dX7_number_58 ?_
        refine lv_goto (tgt := 63) hx hb dX7_number_59 (by decide) ?_
        refine lv_istore_n (lv' := [(1, .int (((10 * g) + ((v.1 1) k)) - 48)), (2, .int fg), (0, .ref (a 0))]) hx hb dX7_number_63 rfl hl (by decide) rfl (fun ls hl => ?_)
        refine lv_iinc (v := fg + 1) (lv' := [(2, .int (fg + 1)), (1, .int (((10 * g) + ((v.1 1) k)) - 48)), (0, .ref (a 0))]) hx hb dX7_number_64 hl (k := 1) rfl rfl (by decide) rfl (fun ls hl => ?_)
        refine lv_aload_n hx hb dX7_number_67 rfl (lv_at hl 2 rfl) ?_
        refine lv_dup hx hb dX7_number_68 rfl ?_
        refine kb_get (own := RX7) (C := RX7) (T := TX7) (N := 19) (v := .int (nI k)) hx hb hts hin7 hown hX hP 0 rfl rfl rfl 2 (by decide) rfl (by decide +kernel) rfl dX7_number_69 ?_
        refine lv_iconst (v := 1) hx hb dX7_number_72 (by decide) ?_
        refine lv_iadd hx hb dX7_number_73 ?_
        refine kb_rw (y := nI (k + 1)) (nI_1 _) ?_
        refine kb_put (own := RX7) (C := RX7) (T := TX7) (N := 19) hx hb hts hin7 tyX7 tyX7_ok nmX7 (ty := .int) hown hX hP hD hS 0 rfl rfl rfl 2 (by decide) rfl (by decide +kernel) (by decide +kernel) rfl rfl (Nat.le_of_ble_eq_true rfl) dX7_number_74 (bX7_I2 a G (setI v 2 (nI k)) (nI (k + 1))) (fun H locs hP hD hS => ?_)
        have hP : PP G [bX7 a G (setI (setI v 2 (nI k)) 2 (nI (k + 1)))] H := hP
        have hD : DD (AA (List.flatten [bX7 a G v])) [bX7 a G (setI (setI v 2 (nI k)) 2 (nI (k + 1)))] := D_re hD rfl
        refine lv_goto (tgt := 4) hx hb dX7_number_77 (by decide) ?_
        have hP : PP G [bX7 a G (setI (setI v 2 (nI k)) 2 (nI (k + 1)))] H := hP
        have hD : DD (AA (List.flatten [bX7 a G v])) [bX7 a G (setI (setI v 2 (nI k)) 2 (nI (k + 1)))] := D_re hD rfl
        exact ih_4 (((10 * g) + ((v.1 1) k)) - 48) (fg + 1) _ _ _ hP hD hS (show lv_has ls 3 [(2, .int (fg + 1)), (1, .int (((10 * g) + ((v.1 1) k)) - 48)), (0, .ref (a 0))] from lv_sub hl [0, 1, 2] rfl) (hs.trans (by rw [fuel_s hk_k]; simp only [numGo, if_neg c_12, if_pos c_34, if_neg c_39]))
