/-! the reference: the text -/
theorem ov_putI {v : OV} {t : Nat} {x : Int32} (h : v.2 t = x) : setI v t x = v := by
  refine Prod.ext rfl (funext fun u => ?_)
  simp only [setI]
  split
  · rename_i h1; rw [h1, h]
  · rfl
theorem nI_add_le {m n K : Nat} (hm : m < 2 ^ 29) (hn : n < 2 ^ 29) (hK : K < 2 ^ 29) (h : nI m + nI n ≤ nI K) : m + n ≤ K := by
  rw [nI_add, nI_leI (by omega) (by omega)] at h
  exact h
def byteOf (x : Int64) (k : Nat) : Int32 := vp_nar .byte ((x >>> ((8 * nI k : Int32).toInt64 &&& 63) : Int64).toInt32 : Int32).toInt8.toInt32
def wrGo (x : Int64) : Nat → (Nat → Int32) → Nat → (Nat → Int32) × Nat
  | 0, F, q => (F, q)
  | j + 1, F, q => wrGo x j (upd F q (byteOf x j)) (q + 1)
def g_writeR (T : Nat → Int32) (len : Nat) (n : Int32) (x : Int64) : Int32 := if gIn n.toInt64 1 8 = true then (if nI len + nI n.toNatClampNeg ≤ 300 then nI (wrGo x n.toNatClampNeg T len).2 else -3) else -1
def g_writeV (v : OV) (len : Nat) (n : Int32) (x : Int64) : OV := if gIn n.toInt64 1 8 = true then (if nI len + nI n.toNatClampNeg ≤ 300 then setA (setI v 0 (nI (wrGo x n.toNatClampNeg (v.1 1) len).2)) 1 (wrGo x n.toNatClampNeg (v.1 1) len).1 else v) else v
def numGo (T : Nat → Int32) : Nat → Nat → Int32 → Int32 → Nat × Int32 × Int32
  | 0, k, g, f => (k, g, f)
  | n + 1, k, g, f => if gIn (T k).toInt64 48 57 = true then (if 2 ≤ f then numGo T n (k + 1) g (f + 1) else numGo T n (k + 1) (10 * g + T k - 48) (f + 1)) else (k, g, f)
def g_numberP (T : Nat → Int32) (len q : Nat) : Nat := (numGo T (len - q) q 0 0).1
def g_numberR (T : Nat → Int32) (len q : Nat) : Int32 := if gIn (numGo T (len - q) q 0 0).2.2.toInt64 1 2 = true then (numGo T (len - q) q 0 0).2.1 else -1
theorem fuel_s {len k : Nat} (h : k < len) : len - k = (len - (k + 1)) + 1 := by omega

def rm_X7_wipe : Room := { frames := 0, cells := 0, slots := 0, locals := 0 }
theorem hd_X7_wipe : yX7_wipe.cls = RX7 ∧ yX7_wipe.cls ≠ "java/lang/invoke/MethodHandle" ∧ yX7_wipe.cls ≠ "java/lang/invoke/VarHandle" ∧ (parseMethodDescriptor yX7_wipe.desc).map (fun d => d.parameters.length) = some 0 := by decide +kernel
set_option maxRecDepth 100000 in
set_option maxHeartbeats 4000000 in
theorem c_X7_wipe (l : Launch) (G : GD) (a : Nat → Nat) (v : OV)  : MetS l yX7_wipe wsX7_wipe rm_X7_wipe G [bX7 a G v] [.ref (a 0)] (fun r bc => r = some (.int ((v.2 0))) ∧ bc = [bX7 a G (setI v 0 0)]) := by
  refine kb_beginS (cc := cX7_wipe) (maxL := 2) (ret := (some .int)) (by decide) rfl (Nat.le_of_ble_eq_true rfl) ?_
  intro p e s m below meth c hx hb hr hml hown hts hlocks hX H locs hP hD hS ls hl
  have hown : s.vm.findClass RX7 = some m.cls := hown
  have hl : lv_has ls 2 [(0, .ref (a 0))] := hl
  have hin7 : ∀ w ∈ u_ws RX7 TX7 19, w ∈ wsX7_wipe := (fun _ h => List.mem_cons_of_mem _ (List.mem_append_right _ (h)))
  refine lv_aload_n hx hb dX7_wipe_0 rfl (lv_at hl 0 rfl) ?_
  refine kb_get (own := RX7) (C := RX7) (T := TX7) (N := 19) (v := .int (v.2 0)) hx hb hts hin7 hown hX hP 0 rfl rfl rfl 0 (by decide) rfl (by decide +kernel) rfl dX7_wipe_1 ?_
  refine lv_istore_n (lv' := [(1, .int (v.2 0)), (0, .ref (a 0))]) hx hb dX7_wipe_4 rfl hl (by decide) rfl (fun ls hl => ?_)
  refine lv_aload_n hx hb dX7_wipe_5 rfl (lv_at hl 1 rfl) ?_
  refine lv_iconst (v := 0) hx hb dX7_wipe_6 (by decide) ?_
  refine kb_put (own := RX7) (C := RX7) (T := TX7) (N := 19) hx hb hts hin7 tyX7 tyX7_ok nmX7 (ty := .int) hown hX hP hD hS 0 rfl rfl rfl 0 (by decide) rfl (by decide +kernel) (by decide +kernel) rfl rfl (Nat.le_of_ble_eq_true rfl) dX7_wipe_7 (bX7_I0 a G v 0) (fun H locs hP hD hS => ?_)
  have hP : PP G [bX7 a G (setI v 0 0)] H := hP
  have hD : DD (AA (List.flatten [bX7 a G v])) [bX7 a G (setI v 0 0)] := D_re hD (adc (bX7_ad _ _ _ _) adn)
  refine lv_iload_n hx hb dX7_wipe_10 rfl (lv_at hl 0 rfl) ?_
  have hP : PP G [bX7 a G (setI v 0 0)] H := by
    exact hP
  exact kr_si hx hb hr hlocks dX7_wipe_11 hP hS (sameAd_cons (bX7_ad _ _ _ _) sameAd_nil) ⟨rfl, rfl⟩

def rm_X7_write : Room := { frames := 1, cells := 0, slots := 0, locals := 25 }
theorem hd_X7_write : yX7_write.cls = RX7 ∧ yX7_write.cls ≠ "java/lang/invoke/MethodHandle" ∧ yX7_write.cls ≠ "java/lang/invoke/VarHandle" ∧ (parseMethodDescriptor yX7_write.desc).map (fun d => d.parameters.length) = some 2 := by decide +kernel
set_option maxRecDepth 100000 in
set_option maxHeartbeats 4000000 in
theorem c_X7_write (l : Launch) (G : GD) (a : Nat → Nat) (v : OV) (x1 : Int32) (x2 : Int64) (len : Nat) (hlen : v.2 0 = nI len) (hl300 : len ≤ 300) : MetS l yX7_write wsX7_write rm_X7_write G [bX7 a G v] [.ref (a 0), .int x1, .long x2] (fun r bc => r = some (.int (g_writeR ((v.1 1)) len x1 x2)) ∧ bc = [bX7 a G (g_writeV v len x1 x2)]) := by
  refine kb_beginS (cc := cX7_write) (maxL := 5) (ret := (some .int)) (by decide) rfl (Nat.le_of_ble_eq_true rfl) ?_
  intro p e s m below meth c hx hb hr hml hown hts hlocks hX H locs hP hD hS ls hl
  have hown : s.vm.findClass RX7 = some m.cls := hown
  have hl : lv_has ls 5 [(0, .ref (a 0)), (1, .int x1), (2, .long x2)] := hl
  have hin7 : ∀ w ∈ u_ws RX7 TX7 19, w ∈ wsX7_write := (fun _ h => List.mem_cons_of_mem _ (List.mem_append_right _ (h)))
  refine lv_iload_n hx hb dX7_write_0 rfl (lv_at hl 1 rfl) ?_
  refine lv_i2l (v := (x1 : Int32).toInt64) hx hb dX7_write_1 rfl ?_
  refine lv_lconst (v := 1) hx hb dX7_write_2 (by decide) ?_
  refine lv_ldc2 (own := RX7) (v := 8) hx hb hown (hts (.constantLong RX7 59 8) (by decide +kernel)) dX7_write_3 ?_
  refine kcS_p hx hb hml hown hts hX hP (c_X7_in l G ((x1 : Int32).toInt64) 1 8) gX7_write_X7_in 3 rfl rfl rfl hdS_X7_in ⟨Nat.le_of_ble_eq_true rfl, Nat.le_of_ble_eq_true rfl⟩ (fun q hq => absurd hq List.not_mem_nil) hl.1 rfl rfl (Nat.le_of_ble_eq_true rfl) dX7_write_6 ⟨Nat.zero_le _, Nat.zero_le _⟩ ?_
  refine lv_if_ne (tgt := 14) hx hb dX7_write_9 (by decide) (fun c_9r => ?_) (fun c_9r => ?_)
  · have c_9 := b2i_tP c_9r
    refine lv_aload_n hx hb dX7_write_14 rfl (lv_at hl 0 rfl) ?_
    have hn_x1 := (in1_n (n := 8) c_9 rfl (by decide)).1
    refine kb_get (own := RX7) (C := RX7) (T := TX7) (N := 19) (v := .int (v.2 0)) hx hb hts hin7 hown hX hP 0 rfl rfl rfl 0 (by decide) rfl (by decide +kernel) rfl dX7_write_15 ?_
    refine kb_rw (y := nI len) hlen ?_
    refine lv_iload_n hx hb dX7_write_18 rfl (lv_at hl 1 rfl) ?_
    refine kb_nat hn_x1 ?_
    refine lv_iadd hx hb dX7_write_19 ?_
    refine lv_sipush (v := 300) hx hb dX7_write_20 (by decide) ?_
    refine lv_icmp_le (tgt := 29) hx hb dX7_write_23 (by decide) (fun c_23 => ?_) (fun c_23 => ?_)
    · have hP : PP G [bX7 a G (setA (setI v 0 (nI len)) 1 (v.1 1))] H := by rw [ov_putI hlen, ov_id]; exact hP
      have hD : DD (AA (List.flatten [bX7 a G v])) [bX7 a G (setA (setI v 0 (nI len)) 1 (v.1 1))] := D_re hD (adc (bX7_ad _ _ _ _) adn)
      have hn1 := in1_n (n := 8) c_9 rfl (by decide)
      have hfit := nI_add_le (m := len) (n := x1.toNatClampNeg) (K := 300) (by omega) (by omega) (by decide) c_23
      refine lv_iload_n hx hb dX7_write_29 rfl (lv_at hl 1 rfl) ?_
      refine kb_nat hn_x1 ?_
      refine lv_iconst (v := 1) hx hb dX7_write_30 (by decide) ?_
      refine lv_isub hx hb dX7_write_31 ?_
      refine lv_istore (lv' := [(4, .int ((nI x1.toNatClampNeg) - 1)), (0, .ref (a 0)), (1, .int x1), (2, .long x2)]) hx hb dX7_write_32 hl (by decide) rfl (fun ls hl => ?_)
      refine lp_dn (P := fun k => ∀ (q1 : Nat), ∀ (F : Nat → Int32), ∀ (H : Heap) (locs : List Loc) (ls : Array Slot), PP G [bX7 a G (setA (setI v 0 (nI q1)) 1 F)] H → DD (AA (List.flatten [bX7 a G v])) [bX7 a G (setA (setI v 0 (nI q1)) 1 F)] → va_S (AA (List.flatten [bX7 a G v])) s.heap H locs → lv_has ls 5 [(4, .int (nI k - 1)), (0, .ref (a 0)), (1, .int x1), (2, .long x2)] → (q1 + k ≤ 300) → (wrGo x2 x1.toNatClampNeg (v.1 1) len = wrGo x2 k F q1) → W p l e (headSpec wsX7_write rm_X7_write).room s m ([.ref (a 0), .int x1, .long x2] : List Value).toArray below meth c H locs 0 0 (MQ below (kQs G [bX7 a G v] (fun r bc => r = some (.int (g_writeR ((v.1 1)) len x1 x2)) ∧ bc = [bX7 a G (g_writeV v len x1 x2)])) ([.ref (a 0), .int x1, .long x2] : List Value).toArray s 0 0 (AA (List.flatten [bX7 a G v]))) (F0 m 34 ls [])) ?_ ?_ x1.toNatClampNeg len (v.1 1) _ _ _ hP hD hS (lv_sub hl [0, 1, 2, 3] rfl) (hfit) (rfl)
      · skip
        intro q1 F H locs ls hP hD hS hl hfb hs
        refine lv_iload hx hb dX7_write_34 (lv_at hl 0 rfl) ?_
        refine lv_if_lt (tgt := 73) hx hb dX7_write_36 (by decide) (fun c_36 => ?_) (fun c_36 => absurd ((by decide : nI 0 - 1 < 0)) c_36)
        refine lv_aload_n hx hb dX7_write_73 rfl (lv_at hl 1 rfl) ?_
        refine kb_get (own := RX7) (C := RX7) (T := TX7) (N := 19) (v := .int (nI q1)) hx hb hts hin7 hown hX hP 0 rfl rfl rfl 0 (by decide) rfl (by decide +kernel) rfl dX7_write_74 ?_
        have hP : PP G [bX7 a G (g_writeV v len x1 x2)] H := by
          unfold g_writeV
          rw [if_pos c_9, if_pos c_23, hs]
          exact hP
        exact kr_si hx hb hr hlocks dX7_write_77 hP hS (sameAd_cons (bX7_ad _ _ _ _) sameAd_nil) ⟨by rw [g_writeR, if_pos c_9, if_pos c_23, hs]; rfl, rfl⟩
      · skip
        intro k ih_34 q1 F H locs ls hP hD hS hl hfb hs
        rw [nI_pred] at hl
        refine lv_iload hx hb dX7_write_34 (lv_at hl 0 rfl) ?_
        refine lv_if_lt (tgt := 73) hx hb dX7_write_36 (by decide) (fun c_36 => absurd c_36 (nI_pos (show k < 2 ^ 31 by omega))) (fun c_36 => ?_)
        refine lv_aload_n hx hb dX7_write_39 rfl (lv_at hl 1 rfl) ?_
        refine kb_get (own := RX7) (C := RX7) (T := TX7) (N := 19) (v := .ref (a 1)) hx hb hts hin7 hown hX hP 0 rfl rfl rfl 1 (by decide) rfl (by decide +kernel) rfl dX7_write_40 ?_
        refine lv_aload_n hx hb dX7_write_43 rfl (lv_at hl 1 rfl) ?_
        refine kb_get (own := RX7) (C := RX7) (T := TX7) (N := 19) (v := .int (nI q1)) hx hb hts hin7 hown hX hP 0 rfl rfl rfl 0 (by decide) rfl (by decide +kernel) rfl dX7_write_44 ?_
        refine lv_lload_n hx hb dX7_write_47 rfl (lv_at hl 3 rfl) ?_
        refine lv_bipush (v := 8) hx hb dX7_write_48 (by decide) ?_
        refine lv_iload hx hb dX7_write_50 (lv_at hl 0 rfl) ?_
        refine lv_imul hx hb dX7_write_52 ?_
        refine lv_lshr hx hb dX7_write_53 rfl ?_
        refine lv_l2i (v := (x2 >>> ((8 * (nI k) : Int32).toInt64 &&& 63) : Int64).toInt32) hx hb dX7_write_54 rfl ?_
        refine lv_i2b (v := ((x2 >>> ((8 * (nI k) : Int32).toInt64 &&& 63) : Int64).toInt32 : Int32).toInt8.toInt32) hx hb dX7_write_55 rfl ?_
        refine kb_bastN (jn := q1) (n := 300) (f := F) hx hb hX hP hD hS 0 1 rfl rfl rfl (by omega) (by decide) dX7_write_56 (bX7_A1 a G (setA (setI v 0 (nI q1)) 1 F) (upd F q1 (vp_nar .byte (((x2 >>> ((8 * (nI k) : Int32).toInt64 &&& 63) : Int64).toInt32 : Int32).toInt8.toInt32)))) (fun H locs hP hD hS => ?_)
        have hP : PP G [bX7 a G (setA (setA (setI v 0 (nI q1)) 1 F) 1 (upd F q1 (vp_nar .byte (((x2 >>> ((8 * (nI k) : Int32).toInt64 &&& 63) : Int64).toInt32 : Int32).toInt8.toInt32))))] H := hP
        have hD : DD (AA (List.flatten [bX7 a G v])) [bX7 a G (setA (setA (setI v 0 (nI q1)) 1 F) 1 (upd F q1 (vp_nar .byte (((x2 >>> ((8 * (nI k) : Int32).toInt64 &&& 63) : Int64).toInt32 : Int32).toInt8.toInt32))))] := D_re hD (adc (bX7_ad _ _ _ _) adn)
        refine lv_aload_n hx hb dX7_write_57 rfl (lv_at hl 1 rfl) ?_
        refine lv_dup hx hb dX7_write_58 rfl ?_
        refine kb_get (own := RX7) (C := RX7) (T := TX7) (N := 19) (v := .int (nI q1)) hx hb hts hin7 hown hX hP 0 rfl rfl rfl 0 (by decide) rfl (by decide +kernel) rfl dX7_write_59 ?_
        refine lv_iconst (v := 1) hx hb dX7_write_62 (by decide) ?_
        refine lv_iadd hx hb dX7_write_63 ?_
        refine kb_rw (y := nI (q1 + 1)) (nI_1 _) ?_
        refine kb_put (own := RX7) (C := RX7) (T := TX7) (N := 19) hx hb hts hin7 tyX7 tyX7_ok nmX7 (ty := .int) hown hX hP hD hS 0 rfl rfl rfl 0 (by decide) rfl (by decide +kernel) (by decide +kernel) rfl rfl (Nat.le_of_ble_eq_true rfl) dX7_write_64 (bX7_I0 a G (setA (setA (setI v 0 (nI q1)) 1 F) 1 (upd F q1 (vp_nar .byte (((x2 >>> ((8 * (nI k) : Int32).toInt64 &&& 63) : Int64).toInt32 : Int32).toInt8.toInt32)))) (nI (q1 + 1))) (fun H locs hP hD hS => ?_)
        have hP : PP G [bX7 a G (setI (setA (setA (setI v 0 (nI q1)) 1 F) 1 (upd F q1 (vp_nar .byte (((x2 >>> ((8 * (nI k) : Int32).toInt64 &&& 63) : Int64).toInt32 : Int32).toInt8.toInt32)))) 0 (nI (q1 + 1)))] H := hP
        have hD : DD (AA (List.flatten [bX7 a G v])) [bX7 a G (setI (setA (setA (setI v 0 (nI q1)) 1 F) 1 (upd F q1 (vp_nar .byte (((x2 >>> ((8 * (nI k) : Int32).toInt64 &&& 63) : Int64).toInt32 : Int32).toInt8.toInt32)))) 0 (nI (q1 + 1)))] := D_re hD (adc (bX7_ad _ _ _ _) adn)
        refine lv_iinc (v := (nI k) - 1) (lv' := [(4, .int ((nI k) - 1)), (0, .ref (a 0)), (1, .int x1), (2, .long x2)]) hx hb dX7_write_67 hl (k := 0) rfl (dec1 _) (by decide) rfl (fun ls hl => ?_)
        refine lv_goto (tgt := 34) hx hb dX7_write_70 (by decide) ?_
        have hP : PP G [bX7 a G (setI (setA (setA (setI v 0 (nI q1)) 1 F) 1 (upd F q1 (vp_nar .byte (((x2 >>> ((8 * (nI k) : Int32).toInt64 &&& 63) : Int64).toInt32 : Int32).toInt8.toInt32)))) 0 (nI (q1 + 1)))] H := hP
        have hD : DD (AA (List.flatten [bX7 a G v])) [bX7 a G (setI (setA (setA (setI v 0 (nI q1)) 1 F) 1 (upd F q1 (vp_nar .byte (((x2 >>> ((8 * (nI k) : Int32).toInt64 &&& 63) : Int64).toInt32 : Int32).toInt8.toInt32)))) 0 (nI (q1 + 1)))] := D_re hD (adc (bX7_ad _ _ _ _) adn)
        exact ih_34 (q1 + 1) (upd F q1 (vp_nar .byte (((x2 >>> ((8 * (nI k) : Int32).toInt64 &&& 63) : Int64).toInt32 : Int32).toInt8.toInt32))) _ _ _ hP hD hS (show lv_has ls 5 [(4, .int ((nI k) - 1)), (0, .ref (a 0)), (1, .int x1), (2, .long x2)] from lv_sub hl [0, 1, 2, 3] rfl) (by omega) (hs)
    · refine lv_bipush (v := (-3)) hx hb dX7_write_26 (by decide) ?_
      have hP : PP G [bX7 a G (g_writeV v len x1 x2)] H := by
        simp only [g_writeV, if_pos c_9, if_neg c_23]
        try simp only [ov_n1, ov_m1, ov_nc, ov_mc, ov_c] at hP ⊢
        exact hP
      exact kr_si hx hb hr hlocks dX7_write_28 hP hS (sameAd_cons (bX7_ad _ _ _ _) sameAd_nil) ⟨by simp only [g_writeR, if_pos c_9, if_neg c_23] <;> rfl, rfl⟩
  · have c_9 := b2i_fN c_9r
    refine lv_iconst (v := (-1)) hx hb dX7_write_12 (by decide) ?_
    have hP : PP G [bX7 a G (g_writeV v len x1 x2)] H := by
      simp only [g_writeV, if_neg c_9]
      try simp only [ov_n1, ov_m1, ov_nc, ov_mc, ov_c] at hP ⊢
      exact hP
    exact kr_si hx hb hr hlocks dX7_write_13 hP hS (sameAd_cons (bX7_ad _ _ _ _) sameAd_nil) ⟨by simp only [g_writeR, if_neg c_9] <;> rfl, rfl⟩

def rm_X7_number : Room := { frames := 1, cells := 0, slots := 0, locals := 25 }
theorem hd_X7_number : yX7_number.cls = RX7 ∧ yX7_number.cls ≠ "java/lang/invoke/MethodHandle" ∧ yX7_number.cls ≠ "java/lang/invoke/VarHandle" ∧ (parseMethodDescriptor yX7_number.desc).map (fun d => d.parameters.length) = some 0 := by decide +kernel
set_option maxRecDepth 100000 in
set_option maxHeartbeats 4000000 in
theorem c_X7_number (l : Launch) (G : GD) (a : Nat → Nat) (v : OV) (q len : Nat) (hq : v.2 2 = nI q) (hlen : v.2 0 = nI len) (hl300 : len ≤ 300) (hqle : q ≤ len) : MetS l yX7_number wsX7_number rm_X7_number G [bX7 a G v] [.ref (a 0)] (fun r bc => r = some (.int (g_numberR ((v.1 1)) len q)) ∧ bc = [bX7 a G (setI v 2 (nI (g_numberP ((v.1 1)) len q)))]) := by
  refine kb_beginS (cc := cX7_number) (maxL := 3) (ret := (some .int)) (by decide) rfl (Nat.le_of_ble_eq_true rfl) ?_
  intro p e s m below meth c hx hb hr hml hown hts hlocks hX H locs hP hD hS ls hl
  have hown : s.vm.findClass RX7 = some m.cls := hown
  have hl : lv_has ls 3 [(0, .ref (a 0))] := hl
  have hin7 : ∀ w ∈ u_ws RX7 TX7 19, w ∈ wsX7_number := (fun _ h => List.mem_cons_of_mem _ (List.mem_append_right _ (h)))
  have hP : PP G [bX7 a G (setI v 2 (nI q))] H := by rw [ov_putI hq]; exact hP
  have hD : DD (AA (List.flatten [bX7 a G v])) [bX7 a G (setI v 2 (nI q))] := D_re hD (adc (bX7_ad _ _ _ _) adn)
  refine lv_iconst (v := 0) hx hb dX7_number_0 (by decide) ?_
  refine lv_istore_n (lv' := [(1, .int 0), (0, .ref (a 0))]) hx hb dX7_number_1 rfl hl (by decide) rfl (fun ls hl => ?_)
  refine lv_iconst (v := 0) hx hb dX7_number_2 (by decide) ?_
  refine lv_istore_n (lv' := [(2, .int 0), (1, .int 0), (0, .ref (a 0))]) hx hb dX7_number_3 rfl hl (by decide) rfl (fun ls hl => ?_)
  refine lp_up (N := len) (P := fun k => ∀ (g : Int32), ∀ (fg : Int32), ∀ (H : Heap) (locs : List Loc) (ls : Array Slot), PP G [bX7 a G (setI v 2 (nI k))] H → DD (AA (List.flatten [bX7 a G v])) [bX7 a G (setI v 2 (nI k))] → va_S (AA (List.flatten [bX7 a G v])) s.heap H locs → lv_has ls 3 [(2, .int fg), (1, .int g), (0, .ref (a 0))] → (numGo (v.1 1) (len - q) q 0 0 = numGo (v.1 1) (len - k) k g fg) → W p l e (headSpec wsX7_number rm_X7_number).room s m ([.ref (a 0)] : List Value).toArray below meth c H locs 0 0 (MQ below (kQs G [bX7 a G v] (fun r bc => r = some (.int (g_numberR ((v.1 1)) len q)) ∧ bc = [bX7 a G (setI v 2 (nI (g_numberP ((v.1 1)) len q)))])) ([.ref (a 0)] : List Value).toArray s 0 0 (AA (List.flatten [bX7 a G v]))) (F0 m 4 ls [])) ?_ ?_ q hqle 0 0 _ _ _ hP hD hS (lv_sub hl [0, 1, 2] rfl) (rfl)
  · skip
    intro g fg H locs ls hP hD hS hl hs
    refine lv_aload_n hx hb dX7_number_4 rfl (lv_at hl 2 rfl) ?_
    refine kb_get (own := RX7) (C := RX7) (T := TX7) (N := 19) (v := .int (nI len)) hx hb hts hin7 hown hX hP 0 rfl rfl rfl 2 (by decide) rfl (by decide +kernel) rfl dX7_number_5 ?_
    refine lv_aload_n hx hb dX7_number_8 rfl (lv_at hl 2 rfl) ?_
    refine kb_get (own := RX7) (C := RX7) (T := TX7) (N := 19) (v := .int (v.2 0)) hx hb hts hin7 hown hX hP 0 rfl rfl rfl 0 (by decide) rfl (by decide +kernel) rfl dX7_number_9 ?_
    refine kb_rw (y := nI len) hlen ?_
    refine lv_icmp_ge (tgt := 80) hx hb dX7_number_12 (by decide) (fun c_12 => ?_) (fun c_12 => absurd (lpx _) c_12)
    have hr2 : numGo (v.1 1) (len - q) q 0 0 = (len, g, fg) := by rw [hs, Nat.sub_self]; rfl
    refine lv_iload_n hx hb dX7_number_80 rfl (lv_at hl 0 rfl) ?_
    refine lv_i2l (v := (fg : Int32).toInt64) hx hb dX7_number_81 rfl ?_
    refine lv_lconst (v := 1) hx hb dX7_number_82 (by decide) ?_
    refine lv_ldc2 (own := RX7) (v := 2) hx hb hown (hts (.constantLong RX7 76 2) (by decide +kernel)) dX7_number_83 ?_
    refine kcS_p hx hb hml hown hts hX hP (c_X7_in l G ((fg : Int32).toInt64) 1 2) gX7_number_X7_in 3 rfl rfl rfl hdS_X7_in ⟨Nat.le_of_ble_eq_true rfl, Nat.le_of_ble_eq_true rfl⟩ (fun q hq => absurd hq List.not_mem_nil) hl.1 rfl rfl (Nat.le_of_ble_eq_true rfl) dX7_number_86 ⟨Nat.zero_le _, Nat.zero_le _⟩ ?_
    refine lv_if_eq (tgt := 96) hx hb dX7_number_89 (by decide) (fun c_89r => ?_) (fun c_89r => ?_)
    · have c_89 := b2i_fN c_89r
      refine lv_iconst (v := (-1)) hx hb dX7_number_96 (by decide) ?_
      have hP : PP G [bX7 a G (setI v 2 (nI (g_numberP ((v.1 1)) len q)))] H := by
        rw [g_numberP, hr2]
        exact hP
      exact kr_si hx hb hr hlocks dX7_number_97 hP hS (sameAd_cons (bX7_ad _ _ _ _) sameAd_nil) ⟨by rw [g_numberR, hr2, if_neg c_89], rfl⟩
    · have c_89 := b2i_tP c_89r
      refine lv_iload_n hx hb dX7_number_92 rfl (lv_at hl 1 rfl) ?_
      refine lv_goto (tgt := 97) hx hb dX7_number_93 (by decide) ?_
      have hP : PP G [bX7 a G (setI v 2 (nI (g_numberP ((v.1 1)) len q)))] H := by
        rw [g_numberP, hr2]
        exact hP
      exact kr_si hx hb hr hlocks dX7_number_97 hP hS (sameAd_cons (bX7_ad _ _ _ _) sameAd_nil) ⟨by rw [g_numberR, hr2, if_pos c_89], rfl⟩
  · skip
    intro k hk_k ih_4 g fg H locs ls hP hD hS hl hs
    refine lv_aload_n hx hb dX7_number_4 rfl (lv_at hl 2 rfl) ?_
    refine kb_get (own := RX7) (C := RX7) (T := TX7) (N := 19) (v := .int (nI k)) hx hb hts hin7 hown hX hP 0 rfl rfl rfl 2 (by decide) rfl (by decide +kernel) rfl dX7_number_5 ?_
    refine lv_aload_n hx hb dX7_number_8 rfl (lv_at hl 2 rfl) ?_
    refine kb_get (own := RX7) (C := RX7) (T := TX7) (N := 19) (v := .int (v.2 0)) hx hb hts hin7 hown hX hP 0 rfl rfl rfl 0 (by decide) rfl (by decide +kernel) rfl dX7_number_9 ?_
    refine kb_rw (y := nI len) hlen ?_
    refine lv_icmp_ge (tgt := 80) hx hb dX7_number_12 (by decide) (fun c_12 => absurd c_12 (nI_ge hk_k (by omega))) (fun c_12 => ?_)
    refine lv_aload_n hx hb dX7_number_15 rfl (lv_at hl 2 rfl) ?_
    refine kb_get (own := RX7) (C := RX7) (T := TX7) (N := 19) (v := .ref (a 1)) hx hb hts hin7 hown hX hP 0 rfl rfl rfl 1 (by decide) rfl (by decide +kernel) rfl dX7_number_16 ?_
    refine lv_aload_n hx hb dX7_number_19 rfl (lv_at hl 2 rfl) ?_
    refine kb_get (own := RX7) (C := RX7) (T := TX7) (N := 19) (v := .int (nI k)) hx hb hts hin7 hown hX hP 0 rfl rfl rfl 2 (by decide) rfl (by decide +kernel) rfl dX7_number_20 ?_
    refine kb_baldN (jn := k) (n := 300) (f := v.1 1) hx hb hX hP 0 1 rfl rfl rfl (by omega) (by decide) dX7_number_23 ?_
    refine lv_i2l (v := ((v.1 1) k : Int32).toInt64) hx hb dX7_number_24 rfl ?_
    refine lv_ldc2 (own := RX7) (v := 48) hx hb hown (hts (.constantLong RX7 72 48) (by decide +kernel)) dX7_number_25 ?_
    refine lv_ldc2 (own := RX7) (v := 57) hx hb hown (hts (.constantLong RX7 74 57) (by decide +kernel)) dX7_number_28 ?_
    refine kcS_p hx hb hml hown hts hX hP (c_X7_in l G (((v.1 1) k : Int32).toInt64) 48 57) gX7_number_X7_in 3 rfl rfl rfl hdS_X7_in ⟨Nat.le_of_ble_eq_true rfl, Nat.le_of_ble_eq_true rfl⟩ (fun q hq => absurd hq List.not_mem_nil) hl.1 rfl rfl (Nat.le_of_ble_eq_true rfl) dX7_number_31 ⟨Nat.zero_le _, Nat.zero_le _⟩ ?_
    refine lv_if_eq (tgt := 80) hx hb dX7_number_34 (by decide) (fun c_34r => ?_) (fun c_34r => ?_)
    · have c_34 := b2i_fN c_34r
      have hr2 : numGo (v.1 1) (len - q) q 0 0 = (k, g, fg) := by rw [hs, fuel_s hk_k]; simp only [numGo, if_neg c_12, if_neg c_34]
      refine lv_iload_n hx hb dX7_number_80 rfl (lv_at hl 0 rfl) ?_
      refine lv_i2l (v := (fg : Int32).toInt64) hx hb dX7_number_81 rfl ?_
      refine lv_lconst (v := 1) hx hb dX7_number_82 (by decide) ?_
      refine lv_ldc2 (own := RX7) (v := 2) hx hb hown (hts (.constantLong RX7 76 2) (by decide +kernel)) dX7_number_83 ?_
      refine kcS_p hx hb hml hown hts hX hP (c_X7_in l G ((fg : Int32).toInt64) 1 2) gX7_number_X7_in 3 rfl rfl rfl hdS_X7_in ⟨Nat.le_of_ble_eq_true rfl, Nat.le_of_ble_eq_true rfl⟩ (fun q hq => absurd hq List.not_mem_nil) hl.1 rfl rfl (Nat.le_of_ble_eq_true rfl) dX7_number_86 ⟨Nat.zero_le _, Nat.zero_le _⟩ ?_
      refine lv_if_eq (tgt := 96) hx hb dX7_number_89 (by decide) (fun c_89r => ?_) (fun c_89r => ?_)
      · have c_89 := b2i_fN c_89r
        refine lv_iconst (v := (-1)) hx hb dX7_number_96 (by decide) ?_
        have hP : PP G [bX7 a G (setI v 2 (nI (g_numberP ((v.1 1)) len q)))] H := by
          rw [g_numberP, hr2]
          exact hP
        exact kr_si hx hb hr hlocks dX7_number_97 hP hS (sameAd_cons (bX7_ad _ _ _ _) sameAd_nil) ⟨by rw [g_numberR, hr2, if_neg c_89], rfl⟩
      · have c_89 := b2i_tP c_89r
        refine lv_iload_n hx hb dX7_number_92 rfl (lv_at hl 1 rfl) ?_
        refine lv_goto (tgt := 97) hx hb dX7_number_93 (by decide) ?_
        have hP : PP G [bX7 a G (setI v 2 (nI (g_numberP ((v.1 1)) len q)))] H := by
          rw [g_numberP, hr2]
          exact hP
        exact kr_si hx hb hr hlocks dX7_number_97 hP hS (sameAd_cons (bX7_ad _ _ _ _) sameAd_nil) ⟨by rw [g_numberR, hr2, if_pos c_89], rfl⟩
    · have c_34 := b2i_tP c_34r
      refine lv_iload_n hx hb dX7_number_37 rfl (lv_at hl 0 rfl) ?_
      refine lv_iconst (v := 2) hx hb dX7_number_38 (by decide) ?_
      refine lv_icmp_ge (tgt := 62) hx hb dX7_number_39 (by decide) (fun c_39 => ?_) (fun c_39 => ?_)
      · refine lv_iload_n hx hb dX7_number_62 rfl (lv_at hl 1 rfl) ?_
        refine lv_istore_n (lv' := [(1, .int g), (2, .int fg), (0, .ref (a 0))]) hx hb dX7_number_63 rfl hl (by decide) rfl (fun ls hl => ?_)
        refine lv_iinc (v := fg + 1) (lv' := [(2, .int (fg + 1)), (1, .int g), (0, .ref (a 0))]) hx hb dX7_number_64 hl (k := 1) rfl rfl (by decide) rfl (fun ls hl => ?_)
        refine lv_aload_n hx hb dX7_number_67 rfl (lv_at hl 2 rfl) ?_
        refine lv_dup hx hb dX7_number_68 rfl ?_
        refine kb_get (own := RX7) (C := RX7) (T := TX7) (N := 19) (v := .int (nI k)) hx hb hts hin7 hown hX hP 0 rfl rfl rfl 2 (by decide) rfl (by decide +kernel) rfl dX7_number_69 ?_
        refine lv_iconst (v := 1) hx hb dX7_number_72 (by decide) ?_
        refine lv_iadd hx hb dX7_number_73 ?_
        refine kb_rw (y := nI (k + 1)) (nI_1 _) ?_
        refine kb_put (own := RX7) (C := RX7) (T := TX7) (N := 19) hx hb hts hin7 tyX7 tyX7_ok nmX7 (ty := .int) hown hX hP hD hS 0 rfl rfl rfl 2 (by decide) rfl (by decide +kernel) (by decide +kernel) rfl rfl (Nat.le_of_ble_eq_true rfl) dX7_number_74 (bX7_I2 a G (setI v 2 (nI k)) (nI (k + 1))) (fun H locs hP hD hS => ?_)
        have hP : PP G [bX7 a G (setI (setI v 2 (nI k)) 2 (nI (k + 1)))] H := hP
        have hD : DD (AA (List.flatten [bX7 a G v])) [bX7 a G (setI (setI v 2 (nI k)) 2 (nI (k + 1)))] := D_re hD (adc (bX7_ad _ _ _ _) adn)
        refine lv_goto (tgt := 4) hx hb dX7_number_77 (by decide) ?_
        have hP : PP G [bX7 a G (setI (setI v 2 (nI k)) 2 (nI (k + 1)))] H := hP
        have hD : DD (AA (List.flatten [bX7 a G v])) [bX7 a G (setI (setI v 2 (nI k)) 2 (nI (k + 1)))] := D_re hD (adc (bX7_ad _ _ _ _) adn)
        exact ih_4 g (fg + 1) _ _ _ hP hD hS (show lv_has ls 3 [(2, .int (fg + 1)), (1, .int g), (0, .ref (a 0))] from lv_sub hl [0, 1, 2] rfl) (hs.trans (by rw [fuel_s hk_k]; simp only [numGo, if_neg c_12, if_pos c_34, if_pos c_39]))
      · refine lv_bipush (v := 10) hx hb dX7_number_42 (by decide) ?_
        refine lv_iload_n hx hb dX7_number_44 rfl (lv_at hl 1 rfl) ?_
        refine lv_imul hx hb dX7_number_45 ?_
        refine lv_aload_n hx hb dX7_number_46 rfl (lv_at hl 2 rfl) ?_
        refine kb_get (own := RX7) (C := RX7) (T := TX7) (N := 19) (v := .ref (a 1)) hx hb hts hin7 hown hX hP 0 rfl rfl rfl 1 (by decide) rfl (by decide +kernel) rfl dX7_number_47 ?_
        refine lv_aload_n hx hb dX7_number_50 rfl (lv_at hl 2 rfl) ?_
        refine kb_get (own := RX7) (C := RX7) (T := TX7) (N := 19) (v := .int (nI k)) hx hb hts hin7 hown hX hP 0 rfl rfl rfl 2 (by decide) rfl (by decide +kernel) rfl dX7_number_51 ?_
        refine kb_baldN (jn := k) (n := 300) (f := v.1 1) hx hb hX hP 0 1 rfl rfl rfl (by omega) (by decide) dX7_number_54 ?_
        refine lv_iadd hx hb dX7_number_55 ?_
        refine lv_bipush (v := 48) hx hb dX7_number_56 (by decide) ?_
        refine lv_isub hx hb dX7_number_58 ?_
        refine lv_goto (tgt := 63) hx hb dX7_number_59 (by decide) ?_
        refine lv_istore_n (lv' := [(1, .int (((10 * g) + ((v.1 1) k)) - 48)), (2, .int fg), (0, .ref (a 0))]) hx hb dX7_number_63 rfl hl (by decide) rfl (fun ls hl => ?_)
        refine lv_iinc (v := fg + 1) (lv' := [(2, .int (fg + 1)), (1, .int (((10 * g) + ((v.1 1) k)) - 48)), (0, .ref (a 0))]) hx hb dX7_number_64 hl (k := 1) rfl rfl (by decide) rfl (fun ls hl => ?_)
        refine lv_aload_n hx hb dX7_number_67 rfl (lv_at hl 2 rfl) ?_
        refine lv_dup hx hb dX7_number_68 rfl ?_
        refine kb_get (own := RX7) (C := RX7) (T := TX7) (N := 19) (v := .int (nI k)) hx hb hts hin7 hown hX hP 0 rfl rfl rfl 2 (by decide) rfl (by decide +kernel) rfl dX7_number_69 ?_
        refine lv_iconst (v := 1) hx hb dX7_number_72 (by decide) ?_
        refine lv_iadd hx hb dX7_number_73 ?_
        refine kb_rw (y := nI (k + 1)) (nI_1 _) ?_
        refine kb_put (own := RX7) (C := RX7) (T := TX7) (N := 19) hx hb hts hin7 tyX7 tyX7_ok nmX7 (ty := .int) hown hX hP hD hS 0 rfl rfl rfl 2 (by decide) rfl (by decide +kernel) (by decide +kernel) rfl rfl (Nat.le_of_ble_eq_true rfl) dX7_number_74 (bX7_I2 a G (setI v 2 (nI k)) (nI (k + 1))) (fun H locs hP hD hS => ?_)
        have hP : PP G [bX7 a G (setI (setI v 2 (nI k)) 2 (nI (k + 1)))] H := hP
        have hD : DD (AA (List.flatten [bX7 a G v])) [bX7 a G (setI (setI v 2 (nI k)) 2 (nI (k + 1)))] := D_re hD (adc (bX7_ad _ _ _ _) adn)
        refine lv_goto (tgt := 4) hx hb dX7_number_77 (by decide) ?_
        have hP : PP G [bX7 a G (setI (setI v 2 (nI k)) 2 (nI (k + 1)))] H := hP
        have hD : DD (AA (List.flatten [bX7 a G v])) [bX7 a G (setI (setI v 2 (nI k)) 2 (nI (k + 1)))] := D_re hD (adc (bX7_ad _ _ _ _) adn)
        exact ih_4 (((10 * g) + ((v.1 1) k)) - 48) (fg + 1) _ _ _ hP hD hS (show lv_has ls 3 [(2, .int (fg + 1)), (1, .int (((10 * g) + ((v.1 1) k)) - 48)), (0, .ref (a 0))] from lv_sub hl [0, 1, 2] rfl) (hs.trans (by rw [fuel_s hk_k]; simp only [numGo, if_neg c_12, if_pos c_34, if_neg c_39]))


theorem cl_lt_of {x y : Int32} (hx : ¬ x < 0) (h : ¬ y ≤ x) : x.toNatClampNeg < y.toNatClampNeg := by
  rw [nlt_toInt] at hx
  rw [Int32.le_iff_toInt_le] at h
  show x.toInt.toNat < y.toInt.toNat
  omega
theorem cl_lt_of' {x y : Int32} (hx : ¬ x < 0) (h : x < y) : x.toNatClampNeg < y.toNatClampNeg := cl_lt_of hx (fun e => by
  rw [Int32.lt_iff_toInt_lt] at h
  rw [Int32.le_iff_toInt_le] at e
  omega)
theorem nI_nle_lt {m n : Nat} (hn : n < 2 ^ 31) (h : ¬ nI m ≤ nI n) : n < m := by
  rcases Nat.lt_or_ge n m with h1 | h1
  · exact h1
  · exact absurd (nI_le h1 hn) h
def s_dput (gt : Nat → Int32) (n1 k : Nat) (F : Nat → Int32) : Nat → Int32 := upd F (24 + 3 * n1 + k) (gt k)
def g_dput (gt D R : Nat → Int32) : Nat → Int32 := itN (s_dput gt (D 1).toNatClampNeg) R 3
def s_lput (gt : Nat → Int32) (n1 k : Nat) (F : Nat → Int32) : Nat → Int32 := upd F (12 + 3 * n1 + k) (gt k)
def g_lput (gt L E : Nat → Int32) : Nat → Int32 := itN (s_lput gt (L 1).toNatClampNeg) E 3
def k_good (v : OV) (l : Int32) : Bool :=
  if l = 100 then (if v.1 3 5 ≤ v.1 18 0 then false else if v.1 3 5 ≤ v.1 18 1 then false else if v.1 18 0 = v.1 18 1 then false else if 8 ≤ v.1 18 2 then false else if 8 ≤ v.1 4 1 then false else true)
  else if l = 103 then (if v.1 4 1 ≤ v.1 18 0 then false else if v.1 18 1 < v.1 7 1 then true else false)
  else if l = 108 then (if 6 ≤ v.1 18 0 then false else if gIn (v.1 18 1).toInt64 1 20 = true then (if 6 ≤ v.1 18 2 then false else if 4 ≤ v.1 7 1 then false else true) else false)
  else if l = 111 then gIn (v.1 18 0).toInt64 1 9
  else if l = 112 then (if 11 ≤ v.1 18 0 then false else if 10 ≤ v.1 18 1 then false else true)
  else if l = 114 then (if gIn (v.1 18 0).toInt64 2 6 = true then (if v.1 4 1 = 0 then true else false) else false)
  else if l = 119 then (if 10 ≤ v.1 18 0 then false else true)
  else if l = 117 then (if v.1 4 1 ≤ v.1 18 0 then false else if v.1 18 1 ≤ 20 then true else false)
  else false
def g_goodV (v : OV) (l : Int32) : OV :=
  if l = 100 then (if v.1 3 5 ≤ v.1 18 0 then v else if v.1 3 5 ≤ v.1 18 1 then v else if v.1 18 0 = v.1 18 1 then v else if 8 ≤ v.1 18 2 then v else if 8 ≤ v.1 4 1 then v else setA (setA v 5 (g_dput (v.1 18) (v.1 4) (v.1 5))) 4 (upd (v.1 4) 1 (v.1 4 1 + 1)))
  else if l = 103 then (if v.1 4 1 ≤ v.1 18 0 then v else if v.1 18 1 < v.1 7 1 then setA v 9 (upd (v.1 9) (32 + 4 * (v.1 18 0).toNatClampNeg + (v.1 18 1).toNatClampNeg) (v.1 18 2)) else v)
  else if l = 108 then (if 6 ≤ v.1 18 0 then v else if gIn (v.1 18 1).toInt64 1 20 = true then (if 6 ≤ v.1 18 2 then v else if 4 ≤ v.1 7 1 then v else setA (setA v 8 (g_lput (v.1 18) (v.1 7) (v.1 8))) 7 (upd (v.1 7) 1 (v.1 7 1 + 1))) else v)
  else if l = 111 then setA v 3 (upd (v.1 3) 9 (v.1 18 0))
  else if l = 112 then setA (setA v 3 (upd (v.1 3) 6 (v.1 18 0))) 3 (upd (upd (v.1 3) 6 (v.1 18 0)) 7 (v.1 18 1))
  else if l = 114 then setA v 3 (upd (v.1 3) 5 (v.1 18 0))
  else if l = 119 then setA v 3 (upd (v.1 3) 8 (v.1 18 0))
  else if l = 117 then (if v.1 4 1 ≤ v.1 18 0 then v else if v.1 18 1 ≤ 20 then setA v 6 (upd (v.1 6) (8 + (v.1 18 0).toNatClampNeg) (v.1 18 1)) else v)
  else v

def rm_X7_isDoorPut : Room := { frames := 0, cells := 0, slots := 0, locals := 0 }
theorem hd_X7_isDoorPut : yX7_isDoorPut.cls = RX7 ∧ yX7_isDoorPut.cls ≠ "java/lang/invoke/MethodHandle" ∧ yX7_isDoorPut.cls ≠ "java/lang/invoke/VarHandle" ∧ (parseMethodDescriptor yX7_isDoorPut.desc).map (fun d => d.parameters.length) = some 0 := by decide +kernel
set_option maxRecDepth 100000 in
set_option maxHeartbeats 4000000 in
theorem c_X7_isDoorPut (l : Launch) (G : GD) (a : Nat → Nat) (v : OV) (hd1 : ¬ v.1 4 1 < 0) (hd1b : (v.1 4 1).toNatClampNeg < 8) : MetS l yX7_isDoorPut wsX7_isDoorPut rm_X7_isDoorPut G [bX7 a G v] [.ref (a 0)] (fun r bc => r = some (.int (1)) ∧ bc = [bX7 a G (setA (setA v 5 (g_dput ((v.1 18)) ((v.1 4)) ((v.1 5)))) 4 (upd ((v.1 4)) 1 ((v.1 4) 1 + 1)))]) := by
  refine kb_beginS (cc := cX7_isDoorPut) (maxL := 2) (ret := (some .boolean)) (by decide) rfl (Nat.le_of_ble_eq_true rfl) ?_
  intro p e s m below meth c hx hb hr hml hown hts hlocks hX H locs hP hD hS ls hl
  have hown : s.vm.findClass RX7 = some m.cls := hown
  have hl : lv_has ls 2 [(0, .ref (a 0))] := hl
  have hin7 : ∀ w ∈ u_ws RX7 TX7 19, w ∈ wsX7_isDoorPut := (fun _ h => List.mem_cons_of_mem _ (List.mem_append_right _ (h)))
  refine lv_iconst (v := 0) hx hb dX7_isDoorPut_0 (by decide) ?_
  refine lv_istore_n (lv' := [(1, .int 0), (0, .ref (a 0))]) hx hb dX7_isDoorPut_1 rfl hl (by decide) rfl (fun ls hl => ?_)
  have eOV0 : (setA v 5 (itN (s_dput (v.1 18) (v.1 4 1).toNatClampNeg) (v.1 5) 0)) = v := by
    refine Prod.ext (funext fun u => ?_) (funext fun u => ?_)
    · by_cases h5 : u = 5
      · subst h5; rfl
      · skip
        simp only [setA, setI, if_neg h5]
    · rfl
  have hP : PP G [bX7 a G (setA v 5 (itN (s_dput (v.1 18) (v.1 4 1).toNatClampNeg) (v.1 5) 0))] H := by rw [eOV0]; exact hP
  have hD : DD (AA (List.flatten [bX7 a G v])) [bX7 a G (setA v 5 (itN (s_dput (v.1 18) (v.1 4 1).toNatClampNeg) (v.1 5) 0))] := D_re hD (adc (bX7_ad _ _ _ _) adn)
  refine lp_up (N := 3) (P := fun k => ∀ (H : Heap) (locs : List Loc) (ls : Array Slot), PP G [bX7 a G (setA v 5 (itN (s_dput (v.1 18) (v.1 4 1).toNatClampNeg) (v.1 5) k))] H → DD (AA (List.flatten [bX7 a G v])) [bX7 a G (setA v 5 (itN (s_dput (v.1 18) (v.1 4 1).toNatClampNeg) (v.1 5) k))] → va_S (AA (List.flatten [bX7 a G v])) s.heap H locs → lv_has ls 2 [(1, .int (nI k)), (0, .ref (a 0))] →  W p l e (headSpec wsX7_isDoorPut rm_X7_isDoorPut).room s m ([.ref (a 0)] : List Value).toArray below meth c H locs 0 0 (MQ below (kQs G [bX7 a G v] (fun r bc => r = some (.int (1)) ∧ bc = [bX7 a G (setA (setA v 5 (g_dput ((v.1 18)) ((v.1 4)) ((v.1 5)))) 4 (upd ((v.1 4)) 1 ((v.1 4) 1 + 1)))])) ([.ref (a 0)] : List Value).toArray s 0 0 (AA (List.flatten [bX7 a G v]))) (F0 m 2 ls [])) ?_ ?_ 0 (Nat.zero_le _)  _ _ _ hP hD hS (lv_sub hl [0, 1] rfl) 
  · skip
    intro H locs ls hP hD hS hl 
    refine lv_iload_n hx hb dX7_isDoorPut_2 rfl (lv_at hl 0 rfl) ?_
    refine lv_iconst (v := 3) hx hb dX7_isDoorPut_3 (by decide) ?_
    refine lv_icmp_ge (tgt := 37) hx hb dX7_isDoorPut_4 (by decide) (fun c_4 => ?_) (fun c_4 => absurd ((by decide : (3 : Int32) ≤ nI 3)) c_4)
    refine lv_aload_n hx hb dX7_isDoorPut_37 rfl (lv_at hl 1 rfl) ?_
    refine kb_get (own := RX7) (C := RX7) (T := TX7) (N := 19) (v := .ref (a 3)) hx hb hts hin7 hown hX hP 0 rfl rfl rfl 4 (by decide) rfl (by decide +kernel) rfl dX7_isDoorPut_38 ?_
    refine lv_iconst (v := 1) hx hb dX7_isDoorPut_41 (by decide) ?_
    refine lv_dup2_11 hx hb dX7_isDoorPut_42 rfl rfl ?_
    refine kb_ialdN (jn := 1) (n := 2) (f := v.1 4) hx hb hX hP 0 3 rfl rfl rfl (by omega) (by decide) dX7_isDoorPut_43 ?_
    refine lv_iconst (v := 1) hx hb dX7_isDoorPut_44 (by decide) ?_
    refine lv_iadd hx hb dX7_isDoorPut_45 ?_
    refine kb_iastN (jn := 1) (n := 2) (f := v.1 4) hx hb hX hP hD hS 0 3 rfl rfl rfl (by omega) (by decide) dX7_isDoorPut_46 (bX7_A4 a G (setA v 5 (itN (s_dput (v.1 18) (v.1 4 1).toNatClampNeg) (v.1 5) 3)) (upd (v.1 4) 1 (((v.1 4) 1) + 1))) (fun H locs hP hD hS => ?_)
    have hP : PP G [bX7 a G (setA (setA v 5 (itN (s_dput (v.1 18) (v.1 4 1).toNatClampNeg) (v.1 5) 3)) 4 (upd (v.1 4) 1 (((v.1 4) 1) + 1)))] H := hP
    have hD : DD (AA (List.flatten [bX7 a G v])) [bX7 a G (setA (setA v 5 (itN (s_dput (v.1 18) (v.1 4 1).toNatClampNeg) (v.1 5) 3)) 4 (upd (v.1 4) 1 (((v.1 4) 1) + 1)))] := D_re hD (adc (bX7_ad _ _ _ _) adn)
    refine lv_iconst (v := 1) hx hb dX7_isDoorPut_47 (by decide) ?_
    have hP : PP G [bX7 a G (setA (setA v 5 (g_dput ((v.1 18)) ((v.1 4)) ((v.1 5)))) 4 (upd ((v.1 4)) 1 ((v.1 4) 1 + 1)))] H := by
      exact hP
    exact kr_sz hx hb hr hlocks dX7_isDoorPut_48 rfl hP hS (sameAd_cons (bX7_ad _ _ _ _) sameAd_nil) ⟨rfl, rfl⟩
  · skip
    intro k hk_k ih_2 H locs ls hP hD hS hl 
    refine lv_iload_n hx hb dX7_isDoorPut_2 rfl (lv_at hl 0 rfl) ?_
    refine lv_iconst (v := 3) hx hb dX7_isDoorPut_3 (by decide) ?_
    refine lv_icmp_ge (tgt := 37) hx hb dX7_isDoorPut_4 (by decide) (fun c_4 => absurd c_4 (nI_ge (b := 3) hk_k (by decide))) (fun c_4 => ?_)
    refine lv_aload_n hx hb dX7_isDoorPut_7 rfl (lv_at hl 1 rfl) ?_
    refine kb_get (own := RX7) (C := RX7) (T := TX7) (N := 19) (v := .ref (a 4)) hx hb hts hin7 hown hX hP 0 rfl rfl rfl 5 (by decide) rfl (by decide +kernel) rfl dX7_isDoorPut_8 ?_
    refine lv_bipush (v := 24) hx hb dX7_isDoorPut_11 (by decide) ?_
    refine lv_iconst (v := 3) hx hb dX7_isDoorPut_13 (by decide) ?_
    refine lv_aload_n hx hb dX7_isDoorPut_14 rfl (lv_at hl 1 rfl) ?_
    refine kb_get (own := RX7) (C := RX7) (T := TX7) (N := 19) (v := .ref (a 3)) hx hb hts hin7 hown hX hP 0 rfl rfl rfl 4 (by decide) rfl (by decide +kernel) rfl dX7_isDoorPut_15 ?_
    refine lv_iconst (v := 1) hx hb dX7_isDoorPut_18 (by decide) ?_
    refine kb_ialdN (jn := 1) (n := 2) (f := v.1 4) hx hb hX hP 0 3 rfl rfl rfl (by omega) (by decide) dX7_isDoorPut_19 ?_
    refine kb_nat (hd1) ?_
    refine lv_imul hx hb dX7_isDoorPut_20 ?_
    refine lv_iadd hx hb dX7_isDoorPut_21 ?_
    refine lv_iload_n hx hb dX7_isDoorPut_22 rfl (lv_at hl 0 rfl) ?_
    refine lv_iadd hx hb dX7_isDoorPut_23 ?_
    refine lv_aload_n hx hb dX7_isDoorPut_24 rfl (lv_at hl 1 rfl) ?_
    refine kb_get (own := RX7) (C := RX7) (T := TX7) (N := 19) (v := .ref (a 14)) hx hb hts hin7 hown hX hP 0 rfl rfl rfl 18 (by decide) rfl (by decide +kernel) rfl dX7_isDoorPut_25 ?_
    refine lv_iload_n hx hb dX7_isDoorPut_28 rfl (lv_at hl 0 rfl) ?_
    refine kb_ialdN (jn := k) (n := 3) (f := v.1 18) hx hb hX hP 0 14 rfl rfl rfl (by omega) (by decide) dX7_isDoorPut_29 ?_
    refine kb_iastN (jn := (24 + (3 * (((v.1 4) 1).toNatClampNeg))) + k) (n := 48) (f := itN (s_dput (v.1 18) (v.1 4 1).toNatClampNeg) (v.1 5) k) hx hb hX hP hD hS 0 4 rfl rfl (by simp only [nI_addE, nI_mulE] <;> rfl) (by omega) (by decide) dX7_isDoorPut_30 (bX7_A5 a G (setA v 5 (itN (s_dput (v.1 18) (v.1 4 1).toNatClampNeg) (v.1 5) k)) (upd (itN (s_dput (v.1 18) (v.1 4 1).toNatClampNeg) (v.1 5) k) ((24 + (3 * (((v.1 4) 1).toNatClampNeg))) + k) ((v.1 18) k))) (fun H locs hP hD hS => ?_)
    have hP : PP G [bX7 a G (setA (setA v 5 (itN (s_dput (v.1 18) (v.1 4 1).toNatClampNeg) (v.1 5) k)) 5 (upd (itN (s_dput (v.1 18) (v.1 4 1).toNatClampNeg) (v.1 5) k) ((24 + (3 * (((v.1 4) 1).toNatClampNeg))) + k) ((v.1 18) k)))] H := hP
    have hD : DD (AA (List.flatten [bX7 a G v])) [bX7 a G (setA (setA v 5 (itN (s_dput (v.1 18) (v.1 4 1).toNatClampNeg) (v.1 5) k)) 5 (upd (itN (s_dput (v.1 18) (v.1 4 1).toNatClampNeg) (v.1 5) k) ((24 + (3 * (((v.1 4) 1).toNatClampNeg))) + k) ((v.1 18) k)))] := D_re hD (adc (bX7_ad _ _ _ _) adn)
    refine lv_iinc (v := nI (k + 1)) (lv' := [(1, .int (nI (k + 1))), (0, .ref (a 0))]) hx hb dX7_isDoorPut_31 hl (k := 0) rfl (nI_1 _) (by decide) rfl (fun ls hl => ?_)
    refine lv_goto (tgt := 2) hx hb dX7_isDoorPut_34 (by decide) ?_
    have hP : PP G [bX7 a G (setA v 5 (itN (s_dput (v.1 18) (v.1 4 1).toNatClampNeg) (v.1 5) (k + 1)))] H := by
      try simp only [ov_n1, ov_m1, ov_nc, ov_mc, ov_c] at hP ⊢
      exact hP
    have hD : DD (AA (List.flatten [bX7 a G v])) [bX7 a G (setA v 5 (itN (s_dput (v.1 18) (v.1 4 1).toNatClampNeg) (v.1 5) (k + 1)))] := D_re hD (adc (bX7_ad _ _ _ _) adn)
    exact ih_2  _ _ _ hP hD hS (show lv_has ls 2 [(1, .int (nI (k + 1))), (0, .ref (a 0))] from lv_sub hl [0, 1] rfl) 

def rm_X7_isLodgerPut : Room := { frames := 0, cells := 0, slots := 0, locals := 0 }
theorem hd_X7_isLodgerPut : yX7_isLodgerPut.cls = RX7 ∧ yX7_isLodgerPut.cls ≠ "java/lang/invoke/MethodHandle" ∧ yX7_isLodgerPut.cls ≠ "java/lang/invoke/VarHandle" ∧ (parseMethodDescriptor yX7_isLodgerPut.desc).map (fun d => d.parameters.length) = some 0 := by decide +kernel
set_option maxRecDepth 100000 in
set_option maxHeartbeats 4000000 in
theorem c_X7_isLodgerPut (l : Launch) (G : GD) (a : Nat → Nat) (v : OV) (hd1 : ¬ v.1 7 1 < 0) (hd1b : (v.1 7 1).toNatClampNeg < 4) : MetS l yX7_isLodgerPut wsX7_isLodgerPut rm_X7_isLodgerPut G [bX7 a G v] [.ref (a 0)] (fun r bc => r = some (.int (1)) ∧ bc = [bX7 a G (setA (setA v 8 (g_lput ((v.1 18)) ((v.1 7)) ((v.1 8)))) 7 (upd ((v.1 7)) 1 ((v.1 7) 1 + 1)))]) := by
  refine kb_beginS (cc := cX7_isLodgerPut) (maxL := 2) (ret := (some .boolean)) (by decide) rfl (Nat.le_of_ble_eq_true rfl) ?_
  intro p e s m below meth c hx hb hr hml hown hts hlocks hX H locs hP hD hS ls hl
  have hown : s.vm.findClass RX7 = some m.cls := hown
  have hl : lv_has ls 2 [(0, .ref (a 0))] := hl
  have hin7 : ∀ w ∈ u_ws RX7 TX7 19, w ∈ wsX7_isLodgerPut := (fun _ h => List.mem_cons_of_mem _ (List.mem_append_right _ (h)))
  refine lv_iconst (v := 0) hx hb dX7_isLodgerPut_0 (by decide) ?_
  refine lv_istore_n (lv' := [(1, .int 0), (0, .ref (a 0))]) hx hb dX7_isLodgerPut_1 rfl hl (by decide) rfl (fun ls hl => ?_)
  have eOV0 : (setA v 8 (itN (s_lput (v.1 18) (v.1 7 1).toNatClampNeg) (v.1 8) 0)) = v := by
    refine Prod.ext (funext fun u => ?_) (funext fun u => ?_)
    · by_cases h8 : u = 8
      · subst h8; rfl
      · skip
        simp only [setA, setI, if_neg h8]
    · rfl
  have hP : PP G [bX7 a G (setA v 8 (itN (s_lput (v.1 18) (v.1 7 1).toNatClampNeg) (v.1 8) 0))] H := by rw [eOV0]; exact hP
  have hD : DD (AA (List.flatten [bX7 a G v])) [bX7 a G (setA v 8 (itN (s_lput (v.1 18) (v.1 7 1).toNatClampNeg) (v.1 8) 0))] := D_re hD (adc (bX7_ad _ _ _ _) adn)
  refine lp_up (N := 3) (P := fun k => ∀ (H : Heap) (locs : List Loc) (ls : Array Slot), PP G [bX7 a G (setA v 8 (itN (s_lput (v.1 18) (v.1 7 1).toNatClampNeg) (v.1 8) k))] H → DD (AA (List.flatten [bX7 a G v])) [bX7 a G (setA v 8 (itN (s_lput (v.1 18) (v.1 7 1).toNatClampNeg) (v.1 8) k))] → va_S (AA (List.flatten [bX7 a G v])) s.heap H locs → lv_has ls 2 [(1, .int (nI k)), (0, .ref (a 0))] →  W p l e (headSpec wsX7_isLodgerPut rm_X7_isLodgerPut).room s m ([.ref (a 0)] : List Value).toArray below meth c H locs 0 0 (MQ below (kQs G [bX7 a G v] (fun r bc => r = some (.int (1)) ∧ bc = [bX7 a G (setA (setA v 8 (g_lput ((v.1 18)) ((v.1 7)) ((v.1 8)))) 7 (upd ((v.1 7)) 1 ((v.1 7) 1 + 1)))])) ([.ref (a 0)] : List Value).toArray s 0 0 (AA (List.flatten [bX7 a G v]))) (F0 m 2 ls [])) ?_ ?_ 0 (Nat.zero_le _)  _ _ _ hP hD hS (lv_sub hl [0, 1] rfl) 
  · skip
    intro H locs ls hP hD hS hl 
    refine lv_iload_n hx hb dX7_isLodgerPut_2 rfl (lv_at hl 0 rfl) ?_
    refine lv_iconst (v := 3) hx hb dX7_isLodgerPut_3 (by decide) ?_
    refine lv_icmp_ge (tgt := 37) hx hb dX7_isLodgerPut_4 (by decide) (fun c_4 => ?_) (fun c_4 => absurd ((by decide : (3 : Int32) ≤ nI 3)) c_4)
    refine lv_aload_n hx hb dX7_isLodgerPut_37 rfl (lv_at hl 1 rfl) ?_
    refine kb_get (own := RX7) (C := RX7) (T := TX7) (N := 19) (v := .ref (a 6)) hx hb hts hin7 hown hX hP 0 rfl rfl rfl 7 (by decide) rfl (by decide +kernel) rfl dX7_isLodgerPut_38 ?_
    refine lv_iconst (v := 1) hx hb dX7_isLodgerPut_41 (by decide) ?_
    refine lv_dup2_11 hx hb dX7_isLodgerPut_42 rfl rfl ?_
    refine kb_ialdN (jn := 1) (n := 2) (f := v.1 7) hx hb hX hP 0 6 rfl rfl rfl (by omega) (by decide) dX7_isLodgerPut_43 ?_
    refine lv_iconst (v := 1) hx hb dX7_isLodgerPut_44 (by decide) ?_
    refine lv_iadd hx hb dX7_isLodgerPut_45 ?_
    refine kb_iastN (jn := 1) (n := 2) (f := v.1 7) hx hb hX hP hD hS 0 6 rfl rfl rfl (by omega) (by decide) dX7_isLodgerPut_46 (bX7_A7 a G (setA v 8 (itN (s_lput (v.1 18) (v.1 7 1).toNatClampNeg) (v.1 8) 3)) (upd (v.1 7) 1 (((v.1 7) 1) + 1))) (fun H locs hP hD hS => ?_)
    have hP : PP G [bX7 a G (setA (setA v 8 (itN (s_lput (v.1 18) (v.1 7 1).toNatClampNeg) (v.1 8) 3)) 7 (upd (v.1 7) 1 (((v.1 7) 1) + 1)))] H := hP
    have hD : DD (AA (List.flatten [bX7 a G v])) [bX7 a G (setA (setA v 8 (itN (s_lput (v.1 18) (v.1 7 1).toNatClampNeg) (v.1 8) 3)) 7 (upd (v.1 7) 1 (((v.1 7) 1) + 1)))] := D_re hD (adc (bX7_ad _ _ _ _) adn)
    refine lv_iconst (v := 1) hx hb dX7_isLodgerPut_47 (by decide) ?_
    have hP : PP G [bX7 a G (setA (setA v 8 (g_lput ((v.1 18)) ((v.1 7)) ((v.1 8)))) 7 (upd ((v.1 7)) 1 ((v.1 7) 1 + 1)))] H := by
      exact hP
    exact kr_sz hx hb hr hlocks dX7_isLodgerPut_48 rfl hP hS (sameAd_cons (bX7_ad _ _ _ _) sameAd_nil) ⟨rfl, rfl⟩
  · skip
    intro k hk_k ih_2 H locs ls hP hD hS hl 
    refine lv_iload_n hx hb dX7_isLodgerPut_2 rfl (lv_at hl 0 rfl) ?_
    refine lv_iconst (v := 3) hx hb dX7_isLodgerPut_3 (by decide) ?_
    refine lv_icmp_ge (tgt := 37) hx hb dX7_isLodgerPut_4 (by decide) (fun c_4 => absurd c_4 (nI_ge (b := 3) hk_k (by decide))) (fun c_4 => ?_)
    refine lv_aload_n hx hb dX7_isLodgerPut_7 rfl (lv_at hl 1 rfl) ?_
    refine kb_get (own := RX7) (C := RX7) (T := TX7) (N := 19) (v := .ref (a 7)) hx hb hts hin7 hown hX hP 0 rfl rfl rfl 8 (by decide) rfl (by decide +kernel) rfl dX7_isLodgerPut_8 ?_
    refine lv_bipush (v := 12) hx hb dX7_isLodgerPut_11 (by decide) ?_
    refine lv_iconst (v := 3) hx hb dX7_isLodgerPut_13 (by decide) ?_
    refine lv_aload_n hx hb dX7_isLodgerPut_14 rfl (lv_at hl 1 rfl) ?_
    refine kb_get (own := RX7) (C := RX7) (T := TX7) (N := 19) (v := .ref (a 6)) hx hb hts hin7 hown hX hP 0 rfl rfl rfl 7 (by decide) rfl (by decide +kernel) rfl dX7_isLodgerPut_15 ?_
    refine lv_iconst (v := 1) hx hb dX7_isLodgerPut_18 (by decide) ?_
    refine kb_ialdN (jn := 1) (n := 2) (f := v.1 7) hx hb hX hP 0 6 rfl rfl rfl (by omega) (by decide) dX7_isLodgerPut_19 ?_
    refine kb_nat (hd1) ?_
    refine lv_imul hx hb dX7_isLodgerPut_20 ?_
    refine lv_iadd hx hb dX7_isLodgerPut_21 ?_
    refine lv_iload_n hx hb dX7_isLodgerPut_22 rfl (lv_at hl 0 rfl) ?_
    refine lv_iadd hx hb dX7_isLodgerPut_23 ?_
    refine lv_aload_n hx hb dX7_isLodgerPut_24 rfl (lv_at hl 1 rfl) ?_
    refine kb_get (own := RX7) (C := RX7) (T := TX7) (N := 19) (v := .ref (a 14)) hx hb hts hin7 hown hX hP 0 rfl rfl rfl 18 (by decide) rfl (by decide +kernel) rfl dX7_isLodgerPut_25 ?_
    refine lv_iload_n hx hb dX7_isLodgerPut_28 rfl (lv_at hl 0 rfl) ?_
    refine kb_ialdN (jn := k) (n := 3) (f := v.1 18) hx hb hX hP 0 14 rfl rfl rfl (by omega) (by decide) dX7_isLodgerPut_29 ?_
    refine kb_iastN (jn := (12 + (3 * (((v.1 7) 1).toNatClampNeg))) + k) (n := 24) (f := itN (s_lput (v.1 18) (v.1 7 1).toNatClampNeg) (v.1 8) k) hx hb hX hP hD hS 0 7 rfl rfl (by simp only [nI_addE, nI_mulE] <;> rfl) (by omega) (by decide) dX7_isLodgerPut_30 (bX7_A8 a G (setA v 8 (itN (s_lput (v.1 18) (v.1 7 1).toNatClampNeg) (v.1 8) k)) (upd (itN (s_lput (v.1 18) (v.1 7 1).toNatClampNeg) (v.1 8) k) ((12 + (3 * (((v.1 7) 1).toNatClampNeg))) + k) ((v.1 18) k))) (fun H locs hP hD hS => ?_)
    have hP : PP G [bX7 a G (setA (setA v 8 (itN (s_lput (v.1 18) (v.1 7 1).toNatClampNeg) (v.1 8) k)) 8 (upd (itN (s_lput (v.1 18) (v.1 7 1).toNatClampNeg) (v.1 8) k) ((12 + (3 * (((v.1 7) 1).toNatClampNeg))) + k) ((v.1 18) k)))] H := hP
    have hD : DD (AA (List.flatten [bX7 a G v])) [bX7 a G (setA (setA v 8 (itN (s_lput (v.1 18) (v.1 7 1).toNatClampNeg) (v.1 8) k)) 8 (upd (itN (s_lput (v.1 18) (v.1 7 1).toNatClampNeg) (v.1 8) k) ((12 + (3 * (((v.1 7) 1).toNatClampNeg))) + k) ((v.1 18) k)))] := D_re hD (adc (bX7_ad _ _ _ _) adn)
    refine lv_iinc (v := nI (k + 1)) (lv' := [(1, .int (nI (k + 1))), (0, .ref (a 0))]) hx hb dX7_isLodgerPut_31 hl (k := 0) rfl (nI_1 _) (by decide) rfl (fun ls hl => ?_)
    refine lv_goto (tgt := 2) hx hb dX7_isLodgerPut_34 (by decide) ?_
    have hP : PP G [bX7 a G (setA v 8 (itN (s_lput (v.1 18) (v.1 7 1).toNatClampNeg) (v.1 8) (k + 1)))] H := by
      try simp only [ov_n1, ov_m1, ov_nc, ov_mc, ov_c] at hP ⊢
      exact hP
    have hD : DD (AA (List.flatten [bX7 a G v])) [bX7 a G (setA v 8 (itN (s_lput (v.1 18) (v.1 7 1).toNatClampNeg) (v.1 8) (k + 1)))] := D_re hD (adc (bX7_ad _ _ _ _) adn)
    exact ih_2  _ _ _ hP hD hS (show lv_has ls 2 [(1, .int (nI (k + 1))), (0, .ref (a 0))] from lv_sub hl [0, 1] rfl) 

def rm_X7_isGood : Room := { frames := 1, cells := 0, slots := 0, locals := 25 }
theorem hd_X7_isGood : yX7_isGood.cls = RX7 ∧ yX7_isGood.cls ≠ "java/lang/invoke/MethodHandle" ∧ yX7_isGood.cls ≠ "java/lang/invoke/VarHandle" ∧ (parseMethodDescriptor yX7_isGood.desc).map (fun d => d.parameters.length) = some 1 := by decide +kernel
set_option maxRecDepth 100000 in
set_option maxHeartbeats 4000000 in
theorem c_X7_isGood (l : Launch) (G : GD) (a : Nat → Nat) (v : OV) (x1 : Int32) (hA1 : ¬ v.1 4 1 < 0) (hA2 : (v.1 4 1).toNatClampNeg ≤ 8) (hB1 : ¬ v.1 7 1 < 0) (hB2 : (v.1 7 1).toNatClampNeg ≤ 4) (hl0 : ¬ g_numbers x1 ≤ 0) (hg : ∀ j, j < (g_numbers x1).toNatClampNeg → ¬ v.1 18 j < 0) : MetS l yX7_isGood wsX7_isGood rm_X7_isGood G [bX7 a G v] [.ref (a 0), .int x1] (fun r bc => r = some (.int (b2i (k_good v x1))) ∧ bc = [bX7 a G (g_goodV v x1)]) := by
  refine kb_beginS (cc := cX7_isGood) (maxL := 5) (ret := (some .boolean)) (by decide) rfl (Nat.le_of_ble_eq_true rfl) ?_
  intro p e s m below meth c hx hb hr hml hown hts hlocks hX H locs hP hD hS ls hl
  have hown : s.vm.findClass RX7 = some m.cls := hown
  have hl : lv_has ls 5 [(0, .ref (a 0)), (1, .int x1)] := hl
  have hin7 : ∀ w ∈ u_ws RX7 TX7 19, w ∈ wsX7_isGood := (fun _ h => List.mem_cons_of_mem _ (List.mem_append_right _ (h)))
  refine lv_aload_n hx hb dX7_isGood_0 rfl (lv_at hl 0 rfl) ?_
  refine kb_get (own := RX7) (C := RX7) (T := TX7) (N := 19) (v := .ref (a 14)) hx hb hts hin7 hown hX hP 0 rfl rfl rfl 18 (by decide) rfl (by decide +kernel) rfl dX7_isGood_1 ?_
  refine lv_iconst (v := 0) hx hb dX7_isGood_4 (by decide) ?_
  refine kb_ialdN (jn := 0) (n := 3) (f := v.1 18) hx hb hX hP 0 14 rfl rfl rfl (by omega) (by decide) dX7_isGood_5 ?_
  refine lv_istore_n (lv' := [(2, .int ((v.1 18) 0)), (0, .ref (a 0)), (1, .int x1)]) hx hb dX7_isGood_6 rfl hl (by decide) rfl (fun ls hl => ?_)
  refine lv_aload_n hx hb dX7_isGood_7 rfl (lv_at hl 1 rfl) ?_
  refine kb_get (own := RX7) (C := RX7) (T := TX7) (N := 19) (v := .ref (a 14)) hx hb hts hin7 hown hX hP 0 rfl rfl rfl 18 (by decide) rfl (by decide +kernel) rfl dX7_isGood_8 ?_
  refine lv_iconst (v := 1) hx hb dX7_isGood_11 (by decide) ?_
  refine kb_ialdN (jn := 1) (n := 3) (f := v.1 18) hx hb hX hP 0 14 rfl rfl rfl (by omega) (by decide) dX7_isGood_12 ?_
  refine lv_istore_n (lv' := [(3, .int ((v.1 18) 1)), (2, .int ((v.1 18) 0)), (0, .ref (a 0)), (1, .int x1)]) hx hb dX7_isGood_13 rfl hl (by decide) rfl (fun ls hl => ?_)
  refine lv_aload_n hx hb dX7_isGood_14 rfl (lv_at hl 2 rfl) ?_
  refine kb_get (own := RX7) (C := RX7) (T := TX7) (N := 19) (v := .ref (a 14)) hx hb hts hin7 hown hX hP 0 rfl rfl rfl 18 (by decide) rfl (by decide +kernel) rfl dX7_isGood_15 ?_
  refine lv_iconst (v := 2) hx hb dX7_isGood_18 (by decide) ?_
  refine kb_ialdN (jn := 2) (n := 3) (f := v.1 18) hx hb hX hP 0 14 rfl rfl rfl (by omega) (by decide) dX7_isGood_19 ?_
  refine lv_istore (lv' := [(4, .int ((v.1 18) 2)), (3, .int ((v.1 18) 1)), (2, .int ((v.1 18) 0)), (0, .ref (a 0)), (1, .int x1)]) hx hb dX7_isGood_20 hl (by decide) rfl (fun ls hl => ?_)
  refine lv_iload_n hx hb dX7_isGood_22 rfl (lv_at hl 4 rfl) ?_
  by_cases h23_100 : x1 = 100
  · refine kb_tIn (tgt := 152) hx hb h23_100 dX7_isGood_23 (by decide) (by decide) rfl (by decide) ?_
    refine lv_iload_n hx hb dX7_isGood_152 rfl (lv_at hl 2 rfl) ?_
    refine lv_aload_n hx hb dX7_isGood_153 rfl (lv_at hl 3 rfl) ?_
    refine kb_get (own := RX7) (C := RX7) (T := TX7) (N := 19) (v := .ref (a 2)) hx hb hts hin7 hown hX hP 0 rfl rfl rfl 3 (by decide) rfl (by decide +kernel) rfl dX7_isGood_154 ?_
    refine lv_iconst (v := 5) hx hb dX7_isGood_157 (by decide) ?_
    refine kb_ialdN (jn := 5) (n := 10) (f := v.1 3) hx hb hX hP 0 2 rfl rfl rfl (by omega) (by decide) dX7_isGood_158 ?_
    refine lv_icmp_ge (tgt := 206) hx hb dX7_isGood_159 (by decide) (fun c_159 => ?_) (fun c_159 => ?_)
    · refine lv_iconst (v := 0) hx hb dX7_isGood_206 (by decide) ?_
      have hP : PP G [bX7 a G (g_goodV v x1)] H := by
        simp only [g_goodV, if_pos h23_100, if_pos c_159]
        try simp only [ov_n1, ov_m1, ov_nc, ov_mc, ov_c] at hP ⊢
        exact hP
      exact kr_sz hx hb hr hlocks dX7_isGood_207 rfl hP hS (sameAd_cons (bX7_ad _ _ _ _) sameAd_nil) ⟨by simp only [k_good, if_pos h23_100, if_pos c_159] <;> rfl, rfl⟩
    · refine lv_iload_n hx hb dX7_isGood_162 rfl (lv_at hl 1 rfl) ?_
      refine lv_aload_n hx hb dX7_isGood_163 rfl (lv_at hl 3 rfl) ?_
      refine kb_get (own := RX7) (C := RX7) (T := TX7) (N := 19) (v := .ref (a 2)) hx hb hts hin7 hown hX hP 0 rfl rfl rfl 3 (by decide) rfl (by decide +kernel) rfl dX7_isGood_164 ?_
      refine lv_iconst (v := 5) hx hb dX7_isGood_167 (by decide) ?_
      refine kb_ialdN (jn := 5) (n := 10) (f := v.1 3) hx hb hX hP 0 2 rfl rfl rfl (by omega) (by decide) dX7_isGood_168 ?_
      refine lv_icmp_ge (tgt := 206) hx hb dX7_isGood_169 (by decide) (fun c_169 => ?_) (fun c_169 => ?_)
      · refine lv_iconst (v := 0) hx hb dX7_isGood_206 (by decide) ?_
        have hP : PP G [bX7 a G (g_goodV v x1)] H := by
          simp only [g_goodV, if_pos h23_100, if_neg c_159, if_pos c_169]
          try simp only [ov_n1, ov_m1, ov_nc, ov_mc, ov_c] at hP ⊢
          exact hP
        exact kr_sz hx hb hr hlocks dX7_isGood_207 rfl hP hS (sameAd_cons (bX7_ad _ _ _ _) sameAd_nil) ⟨by simp only [k_good, if_pos h23_100, if_neg c_159, if_pos c_169] <;> rfl, rfl⟩
      · refine lv_iload_n hx hb dX7_isGood_172 rfl (lv_at hl 2 rfl) ?_
        refine lv_iload_n hx hb dX7_isGood_173 rfl (lv_at hl 1 rfl) ?_
        refine lv_icmp_eq (tgt := 206) hx hb dX7_isGood_174 (by decide) (fun c_174 => ?_) (fun c_174 => ?_)
        · refine lv_iconst (v := 0) hx hb dX7_isGood_206 (by decide) ?_
          have hP : PP G [bX7 a G (g_goodV v x1)] H := by
            simp only [g_goodV, if_pos h23_100, if_neg c_159, if_neg c_169, if_pos c_174]
            try simp only [ov_n1, ov_m1, ov_nc, ov_mc, ov_c] at hP ⊢
            exact hP
          exact kr_sz hx hb hr hlocks dX7_isGood_207 rfl hP hS (sameAd_cons (bX7_ad _ _ _ _) sameAd_nil) ⟨by simp only [k_good, if_pos h23_100, if_neg c_159, if_neg c_169, if_pos c_174] <;> rfl, rfl⟩
        · refine lv_iload hx hb dX7_isGood_177 (lv_at hl 0 rfl) ?_
          refine lv_bipush (v := 8) hx hb dX7_isGood_179 (by decide) ?_
          refine lv_icmp_ge (tgt := 206) hx hb dX7_isGood_181 (by decide) (fun c_181 => ?_) (fun c_181 => ?_)
          · refine lv_iconst (v := 0) hx hb dX7_isGood_206 (by decide) ?_
            have hP : PP G [bX7 a G (g_goodV v x1)] H := by
              simp only [g_goodV, if_pos h23_100, if_neg c_159, if_neg c_169, if_neg c_174, if_pos c_181]
              try simp only [ov_n1, ov_m1, ov_nc, ov_mc, ov_c] at hP ⊢
              exact hP
            exact kr_sz hx hb hr hlocks dX7_isGood_207 rfl hP hS (sameAd_cons (bX7_ad _ _ _ _) sameAd_nil) ⟨by simp only [k_good, if_pos h23_100, if_neg c_159, if_neg c_169, if_neg c_174, if_pos c_181] <;> rfl, rfl⟩
          · refine lv_aload_n hx hb dX7_isGood_184 rfl (lv_at hl 3 rfl) ?_
            refine kb_get (own := RX7) (C := RX7) (T := TX7) (N := 19) (v := .ref (a 3)) hx hb hts hin7 hown hX hP 0 rfl rfl rfl 4 (by decide) rfl (by decide +kernel) rfl dX7_isGood_185 ?_
            refine lv_iconst (v := 1) hx hb dX7_isGood_188 (by decide) ?_
            refine kb_ialdN (jn := 1) (n := 2) (f := v.1 4) hx hb hX hP 0 3 rfl rfl rfl (by omega) (by decide) dX7_isGood_189 ?_
            refine lv_bipush (v := 8) hx hb dX7_isGood_190 (by decide) ?_
            refine lv_icmp_ge (tgt := 206) hx hb dX7_isGood_192 (by decide) (fun c_192 => ?_) (fun c_192 => ?_)
            · refine lv_iconst (v := 0) hx hb dX7_isGood_206 (by decide) ?_
              have hP : PP G [bX7 a G (g_goodV v x1)] H := by
                simp only [g_goodV, if_pos h23_100, if_neg c_159, if_neg c_169, if_neg c_174, if_neg c_181, if_pos c_192]
                try simp only [ov_n1, ov_m1, ov_nc, ov_mc, ov_c] at hP ⊢
                exact hP
              exact kr_sz hx hb hr hlocks dX7_isGood_207 rfl hP hS (sameAd_cons (bX7_ad _ _ _ _) sameAd_nil) ⟨by simp only [k_good, if_pos h23_100, if_neg c_159, if_neg c_169, if_neg c_174, if_neg c_181, if_pos c_192] <;> rfl, rfl⟩
            · have hlt := clN_lt (x := v.1 4 1) (n := 8) (by decide) c_192
              refine lv_aload_n hx hb dX7_isGood_195 rfl (lv_at hl 3 rfl) ?_
              refine kcV_s hx hb hml hown hts hX hP hD hS (c_X7_isDoorPut l G a v hA1 (by omega)) gX7_isGood_X7_isDoorPut 0 rfl rfl rfl hd_X7_isDoorPut ⟨Nat.le_of_ble_eq_true rfl, Nat.le_of_ble_eq_true rfl⟩ [0] (by decide) rfl 0 rfl rfl rfl hl.1 rfl rfl (Nat.le_of_ble_eq_true rfl) dX7_isGood_196 ⟨Nat.zero_le _, Nat.zero_le _⟩ (fun r_ bc_ hq_1 H locs hP hD hS => ?_)
              obtain ⟨rfl, rfl⟩ := hq_1
              have hP : PP G [bX7 a G (setA (setA v 5 (g_dput ((v.1 18)) ((v.1 4)) ((v.1 5)))) 4 (upd ((v.1 4)) 1 ((v.1 4) 1 + 1)))] H := hP
              have hD : DD (AA (List.flatten [bX7 a G v])) [bX7 a G (setA (setA v 5 (g_dput ((v.1 18)) ((v.1 4)) ((v.1 5)))) 4 (upd ((v.1 4)) 1 ((v.1 4) 1 + 1)))] := D_re hD (adc (bX7_ad _ _ _ _) adn)
              refine lv_if_eq (tgt := 206) hx hb dX7_isGood_199 (by decide) (fun c_199 => absurd c_199 (by decide)) (fun c_199 => ?_)
              refine lv_iconst (v := 1) hx hb dX7_isGood_202 (by decide) ?_
              refine lv_goto (tgt := 207) hx hb dX7_isGood_203 (by decide) ?_
              have hP : PP G [bX7 a G (g_goodV v x1)] H := by
                simp only [g_goodV, if_pos h23_100, if_neg c_159, if_neg c_169, if_neg c_174, if_neg c_181, if_neg c_192, if_neg c_199]
                try simp only [ov_n1, ov_m1, ov_nc, ov_mc, ov_c] at hP ⊢
                exact hP
              exact kr_sz hx hb hr hlocks dX7_isGood_207 rfl hP hS (sameAd_cons (bX7_ad _ _ _ _) sameAd_nil) ⟨by simp only [k_good, if_pos h23_100, if_neg c_159, if_neg c_169, if_neg c_174, if_neg c_181, if_neg c_192, if_neg c_199] <;> rfl, rfl⟩
  by_cases h23_103 : x1 = 103
  · refine kb_tIn (tgt := 256) hx hb h23_103 dX7_isGood_23 (by decide) (by decide) rfl (by decide) ?_
    refine lv_iload_n hx hb dX7_isGood_256 rfl (lv_at hl 2 rfl) ?_
    refine lv_aload_n hx hb dX7_isGood_257 rfl (lv_at hl 3 rfl) ?_
    refine kb_get (own := RX7) (C := RX7) (T := TX7) (N := 19) (v := .ref (a 3)) hx hb hts hin7 hown hX hP 0 rfl rfl rfl 4 (by decide) rfl (by decide +kernel) rfl dX7_isGood_258 ?_
    refine lv_iconst (v := 1) hx hb dX7_isGood_261 (by decide) ?_
    refine kb_ialdN (jn := 1) (n := 2) (f := v.1 4) hx hb hX hP 0 3 rfl rfl rfl (by omega) (by decide) dX7_isGood_262 ?_
    refine lv_icmp_ge (tgt := 276) hx hb dX7_isGood_263 (by decide) (fun c_263 => ?_) (fun c_263 => ?_)
    · refine lv_iconst (v := 0) hx hb dX7_isGood_276 (by decide) ?_
      have hP : PP G [bX7 a G (g_goodV v x1)] H := by
        simp only [g_goodV, if_neg h23_100, if_pos h23_103, if_pos c_263]
        try simp only [ov_n1, ov_m1, ov_nc, ov_mc, ov_c] at hP ⊢
        exact hP
      exact kr_sz hx hb hr hlocks dX7_isGood_277 rfl hP hS (sameAd_cons (bX7_ad _ _ _ _) sameAd_nil) ⟨by simp only [k_good, if_neg h23_100, if_pos h23_103, if_pos c_263] <;> rfl, rfl⟩
    · refine lv_iload_n hx hb dX7_isGood_266 rfl (lv_at hl 1 rfl) ?_
      refine lv_aload_n hx hb dX7_isGood_267 rfl (lv_at hl 3 rfl) ?_
      refine kb_get (own := RX7) (C := RX7) (T := TX7) (N := 19) (v := .ref (a 6)) hx hb hts hin7 hown hX hP 0 rfl rfl rfl 7 (by decide) rfl (by decide +kernel) rfl dX7_isGood_268 ?_
      refine lv_iconst (v := 1) hx hb dX7_isGood_271 (by decide) ?_
      refine kb_ialdN (jn := 1) (n := 2) (f := v.1 7) hx hb hX hP 0 6 rfl rfl rfl (by omega) (by decide) dX7_isGood_272 ?_
      refine lv_icmp_lt (tgt := 278) hx hb dX7_isGood_273 (by decide) (fun c_273 => ?_) (fun c_273 => ?_)
      · have hgx := hg 0 (by rw [h23_103]; decide)
        have hgy := hg 1 (by rw [h23_103]; decide)
        have hbx := cl_lt_of hgx c_263
        have hby := cl_lt_of' hgy c_273
        refine lv_aload_n hx hb dX7_isGood_278 rfl (lv_at hl 3 rfl) ?_
        refine kb_get (own := RX7) (C := RX7) (T := TX7) (N := 19) (v := .ref (a 8)) hx hb hts hin7 hown hX hP 0 rfl rfl rfl 9 (by decide) rfl (by decide +kernel) rfl dX7_isGood_279 ?_
        refine lv_bipush (v := 32) hx hb dX7_isGood_282 (by decide) ?_
        refine lv_iconst (v := 4) hx hb dX7_isGood_284 (by decide) ?_
        refine lv_iload_n hx hb dX7_isGood_285 rfl (lv_at hl 2 rfl) ?_
        refine kb_nat (hgx) ?_
        refine lv_imul hx hb dX7_isGood_286 ?_
        refine lv_iadd hx hb dX7_isGood_287 ?_
        refine lv_iload_n hx hb dX7_isGood_288 rfl (lv_at hl 1 rfl) ?_
        refine kb_nat (hgy) ?_
        refine lv_iadd hx hb dX7_isGood_289 ?_
        refine lv_iload hx hb dX7_isGood_290 (lv_at hl 0 rfl) ?_
        refine kb_iastN (jn := (32 + (4 * (((v.1 18) 0).toNatClampNeg))) + (((v.1 18) 1).toNatClampNeg)) (n := 64) (f := v.1 9) hx hb hX hP hD hS 0 8 rfl rfl (by simp only [nI_addE, nI_mulE] <;> rfl) (by omega) (by decide) dX7_isGood_292 (bX7_A9 a G v (upd (v.1 9) ((32 + (4 * (((v.1 18) 0).toNatClampNeg))) + (((v.1 18) 1).toNatClampNeg)) ((v.1 18) 2))) (fun H locs hP hD hS => ?_)
        have hP : PP G [bX7 a G (setA v 9 (upd (v.1 9) ((32 + (4 * (((v.1 18) 0).toNatClampNeg))) + (((v.1 18) 1).toNatClampNeg)) ((v.1 18) 2)))] H := hP
        have hD : DD (AA (List.flatten [bX7 a G v])) [bX7 a G (setA v 9 (upd (v.1 9) ((32 + (4 * (((v.1 18) 0).toNatClampNeg))) + (((v.1 18) 1).toNatClampNeg)) ((v.1 18) 2)))] := D_re hD (adc (bX7_ad _ _ _ _) adn)
        refine lv_iconst (v := 1) hx hb dX7_isGood_293 (by decide) ?_
        have hP : PP G [bX7 a G (g_goodV v x1)] H := by
          simp only [g_goodV, if_neg h23_100, if_pos h23_103, if_neg c_263, if_pos c_273]
          try simp only [ov_n1, ov_m1, ov_nc, ov_mc, ov_c] at hP ⊢
          exact hP
        exact kr_sz hx hb hr hlocks dX7_isGood_294 rfl hP hS (sameAd_cons (bX7_ad _ _ _ _) sameAd_nil) ⟨by simp only [k_good, if_neg h23_100, if_pos h23_103, if_neg c_263, if_pos c_273] <;> rfl, rfl⟩
      · refine lv_iconst (v := 0) hx hb dX7_isGood_276 (by decide) ?_
        have hP : PP G [bX7 a G (g_goodV v x1)] H := by
          simp only [g_goodV, if_neg h23_100, if_pos h23_103, if_neg c_263, if_neg c_273]
          try simp only [ov_n1, ov_m1, ov_nc, ov_mc, ov_c] at hP ⊢
          exact hP
        exact kr_sz hx hb hr hlocks dX7_isGood_277 rfl hP hS (sameAd_cons (bX7_ad _ _ _ _) sameAd_nil) ⟨by simp only [k_good, if_neg h23_100, if_pos h23_103, if_neg c_263, if_neg c_273] <;> rfl, rfl⟩
  by_cases h23_108 : x1 = 108
  · refine kb_tIn (tgt := 208) hx hb h23_108 dX7_isGood_23 (by decide) (by decide) rfl (by decide) ?_
    refine lv_iload_n hx hb dX7_isGood_208 rfl (lv_at hl 2 rfl) ?_
    refine lv_bipush (v := 6) hx hb dX7_isGood_209 (by decide) ?_
    refine lv_icmp_ge (tgt := 254) hx hb dX7_isGood_211 (by decide) (fun c_211 => ?_) (fun c_211 => ?_)
    · refine lv_iconst (v := 0) hx hb dX7_isGood_254 (by decide) ?_
      have hP : PP G [bX7 a G (g_goodV v x1)] H := by
        simp only [g_goodV, if_neg h23_100, if_neg h23_103, if_pos h23_108, if_pos c_211]
        try simp only [ov_n1, ov_m1, ov_nc, ov_mc, ov_c] at hP ⊢
        exact hP
      exact kr_sz hx hb hr hlocks dX7_isGood_255 rfl hP hS (sameAd_cons (bX7_ad _ _ _ _) sameAd_nil) ⟨by simp only [k_good, if_neg h23_100, if_neg h23_103, if_pos h23_108, if_pos c_211] <;> rfl, rfl⟩
    · refine lv_iload_n hx hb dX7_isGood_214 rfl (lv_at hl 1 rfl) ?_
      refine lv_i2l (v := ((v.1 18) 1 : Int32).toInt64) hx hb dX7_isGood_215 rfl ?_
      refine lv_lconst (v := 1) hx hb dX7_isGood_216 (by decide) ?_
      refine lv_ldc2 (own := RX7) (v := 20) hx hb hown (hts (.constantLong RX7 96 20) (by decide +kernel)) dX7_isGood_217 ?_
      refine kcS_p hx hb hml hown hts hX hP (c_X7_in l G (((v.1 18) 1 : Int32).toInt64) 1 20) gX7_isGood_X7_in 3 rfl rfl rfl hdS_X7_in ⟨Nat.le_of_ble_eq_true rfl, Nat.le_of_ble_eq_true rfl⟩ (fun q hq => absurd hq List.not_mem_nil) hl.1 rfl rfl (Nat.le_of_ble_eq_true rfl) dX7_isGood_220 ⟨Nat.zero_le _, Nat.zero_le _⟩ ?_
      refine lv_if_eq (tgt := 254) hx hb dX7_isGood_223 (by decide) (fun c_223r => ?_) (fun c_223r => ?_)
      · have c_223 := b2i_fN c_223r
        refine lv_iconst (v := 0) hx hb dX7_isGood_254 (by decide) ?_
        have hP : PP G [bX7 a G (g_goodV v x1)] H := by
          simp only [g_goodV, if_neg h23_100, if_neg h23_103, if_pos h23_108, if_neg c_211, if_neg c_223]
          try simp only [ov_n1, ov_m1, ov_nc, ov_mc, ov_c] at hP ⊢
          exact hP
        exact kr_sz hx hb hr hlocks dX7_isGood_255 rfl hP hS (sameAd_cons (bX7_ad _ _ _ _) sameAd_nil) ⟨by simp only [k_good, if_neg h23_100, if_neg h23_103, if_pos h23_108, if_neg c_211, if_neg c_223] <;> rfl, rfl⟩
      · have c_223 := b2i_tP c_223r
        refine lv_iload hx hb dX7_isGood_226 (lv_at hl 0 rfl) ?_
        refine lv_bipush (v := 6) hx hb dX7_isGood_228 (by decide) ?_
        refine lv_icmp_ge (tgt := 254) hx hb dX7_isGood_230 (by decide) (fun c_230 => ?_) (fun c_230 => ?_)
        · refine lv_iconst (v := 0) hx hb dX7_isGood_254 (by decide) ?_
          have hP : PP G [bX7 a G (g_goodV v x1)] H := by
            simp only [g_goodV, if_neg h23_100, if_neg h23_103, if_pos h23_108, if_neg c_211, if_pos c_223, if_pos c_230]
            try simp only [ov_n1, ov_m1, ov_nc, ov_mc, ov_c] at hP ⊢
            exact hP
          exact kr_sz hx hb hr hlocks dX7_isGood_255 rfl hP hS (sameAd_cons (bX7_ad _ _ _ _) sameAd_nil) ⟨by simp only [k_good, if_neg h23_100, if_neg h23_103, if_pos h23_108, if_neg c_211, if_pos c_223, if_pos c_230] <;> rfl, rfl⟩
        · refine lv_aload_n hx hb dX7_isGood_233 rfl (lv_at hl 3 rfl) ?_
          refine kb_get (own := RX7) (C := RX7) (T := TX7) (N := 19) (v := .ref (a 6)) hx hb hts hin7 hown hX hP 0 rfl rfl rfl 7 (by decide) rfl (by decide +kernel) rfl dX7_isGood_234 ?_
          refine lv_iconst (v := 1) hx hb dX7_isGood_237 (by decide) ?_
          refine kb_ialdN (jn := 1) (n := 2) (f := v.1 7) hx hb hX hP 0 6 rfl rfl rfl (by omega) (by decide) dX7_isGood_238 ?_
          refine lv_iconst (v := 4) hx hb dX7_isGood_239 (by decide) ?_
          refine lv_icmp_ge (tgt := 254) hx hb dX7_isGood_240 (by decide) (fun c_240 => ?_) (fun c_240 => ?_)
          · refine lv_iconst (v := 0) hx hb dX7_isGood_254 (by decide) ?_
            have hP : PP G [bX7 a G (g_goodV v x1)] H := by
              simp only [g_goodV, if_neg h23_100, if_neg h23_103, if_pos h23_108, if_neg c_211, if_pos c_223, if_neg c_230, if_pos c_240]
              try simp only [ov_n1, ov_m1, ov_nc, ov_mc, ov_c] at hP ⊢
              exact hP
            exact kr_sz hx hb hr hlocks dX7_isGood_255 rfl hP hS (sameAd_cons (bX7_ad _ _ _ _) sameAd_nil) ⟨by simp only [k_good, if_neg h23_100, if_neg h23_103, if_pos h23_108, if_neg c_211, if_pos c_223, if_neg c_230, if_pos c_240] <;> rfl, rfl⟩
          · have hlt := clN_lt (x := v.1 7 1) (n := 4) (by decide) c_240
            refine lv_aload_n hx hb dX7_isGood_243 rfl (lv_at hl 3 rfl) ?_
            refine kcV_s hx hb hml hown hts hX hP hD hS (c_X7_isLodgerPut l G a v hB1 (by omega)) gX7_isGood_X7_isLodgerPut 0 rfl rfl rfl hd_X7_isLodgerPut ⟨Nat.le_of_ble_eq_true rfl, Nat.le_of_ble_eq_true rfl⟩ [0] (by decide) rfl 0 rfl rfl rfl hl.1 rfl rfl (Nat.le_of_ble_eq_true rfl) dX7_isGood_244 ⟨Nat.zero_le _, Nat.zero_le _⟩ (fun r_ bc_ hq_2 H locs hP hD hS => ?_)
            obtain ⟨rfl, rfl⟩ := hq_2
            have hP : PP G [bX7 a G (setA (setA v 8 (g_lput ((v.1 18)) ((v.1 7)) ((v.1 8)))) 7 (upd ((v.1 7)) 1 ((v.1 7) 1 + 1)))] H := hP
            have hD : DD (AA (List.flatten [bX7 a G v])) [bX7 a G (setA (setA v 8 (g_lput ((v.1 18)) ((v.1 7)) ((v.1 8)))) 7 (upd ((v.1 7)) 1 ((v.1 7) 1 + 1)))] := D_re hD (adc (bX7_ad _ _ _ _) adn)
            refine lv_if_eq (tgt := 254) hx hb dX7_isGood_247 (by decide) (fun c_247 => absurd c_247 (by decide)) (fun c_247 => ?_)
            refine lv_iconst (v := 1) hx hb dX7_isGood_250 (by decide) ?_
            refine lv_goto (tgt := 255) hx hb dX7_isGood_251 (by decide) ?_
            have hP : PP G [bX7 a G (g_goodV v x1)] H := by
              simp only [g_goodV, if_neg h23_100, if_neg h23_103, if_pos h23_108, if_neg c_211, if_pos c_223, if_neg c_230, if_neg c_240, if_neg c_247]
              try simp only [ov_n1, ov_m1, ov_nc, ov_mc, ov_c] at hP ⊢
              exact hP
            exact kr_sz hx hb hr hlocks dX7_isGood_255 rfl hP hS (sameAd_cons (bX7_ad _ _ _ _) sameAd_nil) ⟨by simp only [k_good, if_neg h23_100, if_neg h23_103, if_pos h23_108, if_neg c_211, if_pos c_223, if_neg c_230, if_neg c_240, if_neg c_247] <;> rfl, rfl⟩
  by_cases h23_111 : x1 = 111
  · refine kb_tIn (tgt := 349) hx hb h23_111 dX7_isGood_23 (by decide) (by decide) rfl (by decide) ?_
    refine lv_aload_n hx hb dX7_isGood_349 rfl (lv_at hl 3 rfl) ?_
    refine kb_get (own := RX7) (C := RX7) (T := TX7) (N := 19) (v := .ref (a 2)) hx hb hts hin7 hown hX hP 0 rfl rfl rfl 3 (by decide) rfl (by decide +kernel) rfl dX7_isGood_350 ?_
    refine lv_bipush (v := 9) hx hb dX7_isGood_353 (by decide) ?_
    refine lv_iload_n hx hb dX7_isGood_355 rfl (lv_at hl 2 rfl) ?_
    refine kb_iastN (jn := 9) (n := 10) (f := v.1 3) hx hb hX hP hD hS 0 2 rfl rfl rfl (by omega) (by decide) dX7_isGood_356 (bX7_A3 a G v (upd (v.1 3) 9 ((v.1 18) 0))) (fun H locs hP hD hS => ?_)
    have hP : PP G [bX7 a G (setA v 3 (upd (v.1 3) 9 ((v.1 18) 0)))] H := hP
    have hD : DD (AA (List.flatten [bX7 a G v])) [bX7 a G (setA v 3 (upd (v.1 3) 9 ((v.1 18) 0)))] := D_re hD (adc (bX7_ad _ _ _ _) adn)
    refine lv_iload_n hx hb dX7_isGood_357 rfl (lv_at hl 2 rfl) ?_
    refine lv_i2l (v := ((v.1 18) 0 : Int32).toInt64) hx hb dX7_isGood_358 rfl ?_
    refine lv_lconst (v := 1) hx hb dX7_isGood_359 (by decide) ?_
    refine lv_ldc2 (own := RX7) (v := 9) hx hb hown (hts (.constantLong RX7 101 9) (by decide +kernel)) dX7_isGood_360 ?_
    refine kcS_p hx hb hml hown hts hX hP (c_X7_in l G (((v.1 18) 0 : Int32).toInt64) 1 9) gX7_isGood_X7_in 3 rfl rfl rfl hdS_X7_in ⟨Nat.le_of_ble_eq_true rfl, Nat.le_of_ble_eq_true rfl⟩ (fun q hq => absurd hq List.not_mem_nil) hl.1 rfl rfl (Nat.le_of_ble_eq_true rfl) dX7_isGood_363 ⟨Nat.zero_le _, Nat.zero_le _⟩ ?_
    have hP : PP G [bX7 a G (g_goodV v x1)] H := by
      simp only [g_goodV, if_neg h23_100, if_neg h23_103, if_neg h23_108, if_pos h23_111]
      try simp only [ov_n1, ov_m1, ov_nc, ov_mc, ov_c] at hP ⊢
      exact hP
    exact kr_sz hx hb hr hlocks dX7_isGood_366 (narrow_b2i _) hP hS (sameAd_cons (bX7_ad _ _ _ _) sameAd_nil) ⟨by simp only [k_good, if_neg h23_100, if_neg h23_103, if_neg h23_108, if_pos h23_111] <;> rfl, rfl⟩
  by_cases h23_112 : x1 = 112
  · refine kb_tIn (tgt := 295) hx hb h23_112 dX7_isGood_23 (by decide) (by decide) rfl (by decide) ?_
    refine lv_aload_n hx hb dX7_isGood_295 rfl (lv_at hl 3 rfl) ?_
    refine kb_get (own := RX7) (C := RX7) (T := TX7) (N := 19) (v := .ref (a 2)) hx hb hts hin7 hown hX hP 0 rfl rfl rfl 3 (by decide) rfl (by decide +kernel) rfl dX7_isGood_296 ?_
    refine lv_bipush (v := 6) hx hb dX7_isGood_299 (by decide) ?_
    refine lv_iload_n hx hb dX7_isGood_301 rfl (lv_at hl 2 rfl) ?_
    refine kb_iastN (jn := 6) (n := 10) (f := v.1 3) hx hb hX hP hD hS 0 2 rfl rfl rfl (by omega) (by decide) dX7_isGood_302 (bX7_A3 a G v (upd (v.1 3) 6 ((v.1 18) 0))) (fun H locs hP hD hS => ?_)
    have hP : PP G [bX7 a G (setA v 3 (upd (v.1 3) 6 ((v.1 18) 0)))] H := hP
    have hD : DD (AA (List.flatten [bX7 a G v])) [bX7 a G (setA v 3 (upd (v.1 3) 6 ((v.1 18) 0)))] := D_re hD (adc (bX7_ad _ _ _ _) adn)
    refine lv_aload_n hx hb dX7_isGood_303 rfl (lv_at hl 3 rfl) ?_
    refine kb_get (own := RX7) (C := RX7) (T := TX7) (N := 19) (v := .ref (a 2)) hx hb hts hin7 hown hX hP 0 rfl rfl rfl 3 (by decide) rfl (by decide +kernel) rfl dX7_isGood_304 ?_
    refine lv_bipush (v := 7) hx hb dX7_isGood_307 (by decide) ?_
    refine lv_iload_n hx hb dX7_isGood_309 rfl (lv_at hl 1 rfl) ?_
    refine kb_iastN (jn := 7) (n := 10) (f := upd (v.1 3) 6 ((v.1 18) 0)) hx hb hX hP hD hS 0 2 rfl rfl rfl (by omega) (by decide) dX7_isGood_310 (bX7_A3 a G (setA v 3 (upd (v.1 3) 6 ((v.1 18) 0))) (upd (upd (v.1 3) 6 ((v.1 18) 0)) 7 ((v.1 18) 1))) (fun H locs hP hD hS => ?_)
    have hP : PP G [bX7 a G (setA (setA v 3 (upd (v.1 3) 6 ((v.1 18) 0))) 3 (upd (upd (v.1 3) 6 ((v.1 18) 0)) 7 ((v.1 18) 1)))] H := hP
    have hD : DD (AA (List.flatten [bX7 a G v])) [bX7 a G (setA (setA v 3 (upd (v.1 3) 6 ((v.1 18) 0))) 3 (upd (upd (v.1 3) 6 ((v.1 18) 0)) 7 ((v.1 18) 1)))] := D_re hD (adc (bX7_ad _ _ _ _) adn)
    refine lv_iload_n hx hb dX7_isGood_311 rfl (lv_at hl 2 rfl) ?_
    refine lv_bipush (v := 11) hx hb dX7_isGood_312 (by decide) ?_
    refine lv_icmp_ge (tgt := 327) hx hb dX7_isGood_314 (by decide) (fun c_314 => ?_) (fun c_314 => ?_)
    · refine lv_iconst (v := 0) hx hb dX7_isGood_327 (by decide) ?_
      have hP : PP G [bX7 a G (g_goodV v x1)] H := by
        simp only [g_goodV, if_neg h23_100, if_neg h23_103, if_neg h23_108, if_neg h23_111, if_pos h23_112, if_pos c_314]
        try simp only [ov_n1, ov_m1, ov_nc, ov_mc, ov_c] at hP ⊢
        exact hP
      exact kr_sz hx hb hr hlocks dX7_isGood_328 rfl hP hS (sameAd_cons (bX7_ad _ _ _ _) sameAd_nil) ⟨by simp only [k_good, if_neg h23_100, if_neg h23_103, if_neg h23_108, if_neg h23_111, if_pos h23_112, if_pos c_314] <;> rfl, rfl⟩
    · refine lv_iload_n hx hb dX7_isGood_317 rfl (lv_at hl 1 rfl) ?_
      refine lv_bipush (v := 10) hx hb dX7_isGood_318 (by decide) ?_
      refine lv_icmp_ge (tgt := 327) hx hb dX7_isGood_320 (by decide) (fun c_320 => ?_) (fun c_320 => ?_)
      · refine lv_iconst (v := 0) hx hb dX7_isGood_327 (by decide) ?_
        have hP : PP G [bX7 a G (g_goodV v x1)] H := by
          simp only [g_goodV, if_neg h23_100, if_neg h23_103, if_neg h23_108, if_neg h23_111, if_pos h23_112, if_neg c_314, if_pos c_320]
          try simp only [ov_n1, ov_m1, ov_nc, ov_mc, ov_c] at hP ⊢
          exact hP
        exact kr_sz hx hb hr hlocks dX7_isGood_328 rfl hP hS (sameAd_cons (bX7_ad _ _ _ _) sameAd_nil) ⟨by simp only [k_good, if_neg h23_100, if_neg h23_103, if_neg h23_108, if_neg h23_111, if_pos h23_112, if_neg c_314, if_pos c_320] <;> rfl, rfl⟩
      · refine lv_iconst (v := 1) hx hb dX7_isGood_323 (by decide) ?_
        refine lv_goto (tgt := 328) hx hb dX7_isGood_324 (by decide) ?_
        have hP : PP G [bX7 a G (g_goodV v x1)] H := by
          simp only [g_goodV, if_neg h23_100, if_neg h23_103, if_neg h23_108, if_neg h23_111, if_pos h23_112, if_neg c_314, if_neg c_320]
          try simp only [ov_n1, ov_m1, ov_nc, ov_mc, ov_c] at hP ⊢
          exact hP
        exact kr_sz hx hb hr hlocks dX7_isGood_328 rfl hP hS (sameAd_cons (bX7_ad _ _ _ _) sameAd_nil) ⟨by simp only [k_good, if_neg h23_100, if_neg h23_103, if_neg h23_108, if_neg h23_111, if_pos h23_112, if_neg c_314, if_neg c_320] <;> rfl, rfl⟩
  by_cases h23_114 : x1 = 114
  · refine kb_tIn (tgt := 116) hx hb h23_114 dX7_isGood_23 (by decide) (by decide) rfl (by decide) ?_
    refine lv_aload_n hx hb dX7_isGood_116 rfl (lv_at hl 3 rfl) ?_
    refine kb_get (own := RX7) (C := RX7) (T := TX7) (N := 19) (v := .ref (a 2)) hx hb hts hin7 hown hX hP 0 rfl rfl rfl 3 (by decide) rfl (by decide +kernel) rfl dX7_isGood_117 ?_
    refine lv_iconst (v := 5) hx hb dX7_isGood_120 (by decide) ?_
    refine lv_iload_n hx hb dX7_isGood_121 rfl (lv_at hl 2 rfl) ?_
    refine kb_iastN (jn := 5) (n := 10) (f := v.1 3) hx hb hX hP hD hS 0 2 rfl rfl rfl (by omega) (by decide) dX7_isGood_122 (bX7_A3 a G v (upd (v.1 3) 5 ((v.1 18) 0))) (fun H locs hP hD hS => ?_)
    have hP : PP G [bX7 a G (setA v 3 (upd (v.1 3) 5 ((v.1 18) 0)))] H := hP
    have hD : DD (AA (List.flatten [bX7 a G v])) [bX7 a G (setA v 3 (upd (v.1 3) 5 ((v.1 18) 0)))] := D_re hD (adc (bX7_ad _ _ _ _) adn)
    refine lv_iload_n hx hb dX7_isGood_123 rfl (lv_at hl 2 rfl) ?_
    refine lv_i2l (v := ((v.1 18) 0 : Int32).toInt64) hx hb dX7_isGood_124 rfl ?_
    refine lv_ldc2 (own := RX7) (v := 2) hx hb hown (hts (.constantLong RX7 76 2) (by decide +kernel)) dX7_isGood_125 ?_
    refine lv_ldc2 (own := RX7) (v := 6) hx hb hown (hts (.constantLong RX7 90 6) (by decide +kernel)) dX7_isGood_128 ?_
    refine kcS_p hx hb hml hown hts hX hP (c_X7_in l G (((v.1 18) 0 : Int32).toInt64) 2 6) gX7_isGood_X7_in 3 rfl rfl rfl hdS_X7_in ⟨Nat.le_of_ble_eq_true rfl, Nat.le_of_ble_eq_true rfl⟩ (fun q hq => absurd hq List.not_mem_nil) hl.1 rfl rfl (Nat.le_of_ble_eq_true rfl) dX7_isGood_131 ⟨Nat.zero_le _, Nat.zero_le _⟩ ?_
    refine lv_if_eq (tgt := 150) hx hb dX7_isGood_134 (by decide) (fun c_134r => ?_) (fun c_134r => ?_)
    · have c_134 := b2i_fN c_134r
      refine lv_iconst (v := 0) hx hb dX7_isGood_150 (by decide) ?_
      have hP : PP G [bX7 a G (g_goodV v x1)] H := by
        simp only [g_goodV, if_neg h23_100, if_neg h23_103, if_neg h23_108, if_neg h23_111, if_neg h23_112, if_pos h23_114, if_neg c_134]
        try simp only [ov_n1, ov_m1, ov_nc, ov_mc, ov_c] at hP ⊢
        exact hP
      exact kr_sz hx hb hr hlocks dX7_isGood_151 rfl hP hS (sameAd_cons (bX7_ad _ _ _ _) sameAd_nil) ⟨by simp only [k_good, if_neg h23_100, if_neg h23_103, if_neg h23_108, if_neg h23_111, if_neg h23_112, if_pos h23_114, if_neg c_134] <;> rfl, rfl⟩
    · have c_134 := b2i_tP c_134r
      refine lv_aload_n hx hb dX7_isGood_137 rfl (lv_at hl 3 rfl) ?_
      refine kb_get (own := RX7) (C := RX7) (T := TX7) (N := 19) (v := .ref (a 3)) hx hb hts hin7 hown hX hP 0 rfl rfl rfl 4 (by decide) rfl (by decide +kernel) rfl dX7_isGood_138 ?_
      refine lv_iconst (v := 1) hx hb dX7_isGood_141 (by decide) ?_
      refine kb_ialdN (jn := 1) (n := 2) (f := v.1 4) hx hb hX hP 0 3 rfl rfl rfl (by omega) (by decide) dX7_isGood_142 ?_
      refine lv_if_ne (tgt := 150) hx hb dX7_isGood_143 (by decide) (fun c_143 => ?_) (fun c_143 => ?_)
      · refine lv_iconst (v := 0) hx hb dX7_isGood_150 (by decide) ?_
        have hP : PP G [bX7 a G (g_goodV v x1)] H := by
          simp only [g_goodV, if_neg h23_100, if_neg h23_103, if_neg h23_108, if_neg h23_111, if_neg h23_112, if_pos h23_114, if_pos c_134, if_neg c_143]
          try simp only [ov_n1, ov_m1, ov_nc, ov_mc, ov_c] at hP ⊢
          exact hP
        exact kr_sz hx hb hr hlocks dX7_isGood_151 rfl hP hS (sameAd_cons (bX7_ad _ _ _ _) sameAd_nil) ⟨by simp only [k_good, if_neg h23_100, if_neg h23_103, if_neg h23_108, if_neg h23_111, if_neg h23_112, if_pos h23_114, if_pos c_134, if_neg c_143] <;> rfl, rfl⟩
      · refine lv_iconst (v := 1) hx hb dX7_isGood_146 (by decide) ?_
        refine lv_goto (tgt := 151) hx hb dX7_isGood_147 (by decide) ?_
        have hP : PP G [bX7 a G (g_goodV v x1)] H := by
          simp only [g_goodV, if_neg h23_100, if_neg h23_103, if_neg h23_108, if_neg h23_111, if_neg h23_112, if_pos h23_114, if_pos c_134, if_pos c_143]
          try simp only [ov_n1, ov_m1, ov_nc, ov_mc, ov_c] at hP ⊢
          exact hP
        exact kr_sz hx hb hr hlocks dX7_isGood_151 rfl hP hS (sameAd_cons (bX7_ad _ _ _ _) sameAd_nil) ⟨by simp only [k_good, if_neg h23_100, if_neg h23_103, if_neg h23_108, if_neg h23_111, if_neg h23_112, if_pos h23_114, if_pos c_134, if_pos c_143] <;> rfl, rfl⟩
  by_cases h23_119 : x1 = 119
  · refine kb_tIn (tgt := 329) hx hb h23_119 dX7_isGood_23 (by decide) (by decide) rfl (by decide) ?_
    refine lv_aload_n hx hb dX7_isGood_329 rfl (lv_at hl 3 rfl) ?_
    refine kb_get (own := RX7) (C := RX7) (T := TX7) (N := 19) (v := .ref (a 2)) hx hb hts hin7 hown hX hP 0 rfl rfl rfl 3 (by decide) rfl (by decide +kernel) rfl dX7_isGood_330 ?_
    refine lv_bipush (v := 8) hx hb dX7_isGood_333 (by decide) ?_
    refine lv_iload_n hx hb dX7_isGood_335 rfl (lv_at hl 2 rfl) ?_
    refine kb_iastN (jn := 8) (n := 10) (f := v.1 3) hx hb hX hP hD hS 0 2 rfl rfl rfl (by omega) (by decide) dX7_isGood_336 (bX7_A3 a G v (upd (v.1 3) 8 ((v.1 18) 0))) (fun H locs hP hD hS => ?_)
    have hP : PP G [bX7 a G (setA v 3 (upd (v.1 3) 8 ((v.1 18) 0)))] H := hP
    have hD : DD (AA (List.flatten [bX7 a G v])) [bX7 a G (setA v 3 (upd (v.1 3) 8 ((v.1 18) 0)))] := D_re hD (adc (bX7_ad _ _ _ _) adn)
    refine lv_iload_n hx hb dX7_isGood_337 rfl (lv_at hl 2 rfl) ?_
    refine lv_bipush (v := 10) hx hb dX7_isGood_338 (by decide) ?_
    refine lv_icmp_ge (tgt := 347) hx hb dX7_isGood_340 (by decide) (fun c_340 => ?_) (fun c_340 => ?_)
    · refine lv_iconst (v := 0) hx hb dX7_isGood_347 (by decide) ?_
      have hP : PP G [bX7 a G (g_goodV v x1)] H := by
        simp only [g_goodV, if_neg h23_100, if_neg h23_103, if_neg h23_108, if_neg h23_111, if_neg h23_112, if_neg h23_114, if_pos h23_119, if_pos c_340]
        try simp only [ov_n1, ov_m1, ov_nc, ov_mc, ov_c] at hP ⊢
        exact hP
      exact kr_sz hx hb hr hlocks dX7_isGood_348 rfl hP hS (sameAd_cons (bX7_ad _ _ _ _) sameAd_nil) ⟨by simp only [k_good, if_neg h23_100, if_neg h23_103, if_neg h23_108, if_neg h23_111, if_neg h23_112, if_neg h23_114, if_pos h23_119, if_pos c_340] <;> rfl, rfl⟩
    · refine lv_iconst (v := 1) hx hb dX7_isGood_343 (by decide) ?_
      refine lv_goto (tgt := 348) hx hb dX7_isGood_344 (by decide) ?_
      have hP : PP G [bX7 a G (g_goodV v x1)] H := by
        simp only [g_goodV, if_neg h23_100, if_neg h23_103, if_neg h23_108, if_neg h23_111, if_neg h23_112, if_neg h23_114, if_pos h23_119, if_neg c_340]
        try simp only [ov_n1, ov_m1, ov_nc, ov_mc, ov_c] at hP ⊢
        exact hP
      exact kr_sz hx hb hr hlocks dX7_isGood_348 rfl hP hS (sameAd_cons (bX7_ad _ _ _ _) sameAd_nil) ⟨by simp only [k_good, if_neg h23_100, if_neg h23_103, if_neg h23_108, if_neg h23_111, if_neg h23_112, if_neg h23_114, if_pos h23_119, if_neg c_340] <;> rfl, rfl⟩
  by_cases h23_101 : x1 = 101
  · exact absurd (by rw [h23_101]; decide) hl0
  by_cases h23_102 : x1 = 102
  · exact absurd (by rw [h23_102]; decide) hl0
  by_cases h23_104 : x1 = 104
  · exact absurd (by rw [h23_104]; decide) hl0
  by_cases h23_105 : x1 = 105
  · exact absurd (by rw [h23_105]; decide) hl0
  by_cases h23_106 : x1 = 106
  · exact absurd (by rw [h23_106]; decide) hl0
  by_cases h23_107 : x1 = 107
  · exact absurd (by rw [h23_107]; decide) hl0
  by_cases h23_109 : x1 = 109
  · exact absurd (by rw [h23_109]; decide) hl0
  by_cases h23_110 : x1 = 110
  · exact absurd (by rw [h23_110]; decide) hl0
  by_cases h23_113 : x1 = 113
  · exact absurd (by rw [h23_113]; decide) hl0
  by_cases h23_115 : x1 = 115
  · exact absurd (by rw [h23_115]; decide) hl0
  by_cases h23_116 : x1 = 116
  · exact absurd (by rw [h23_116]; decide) hl0
  by_cases h23_117 : x1 = 117
  · refine kb_tIn (tgt := 367) hx hb h23_117 dX7_isGood_23 (by decide) (by decide) rfl (by decide) ?_
    refine lv_iload_n hx hb dX7_isGood_367 rfl (lv_at hl 2 rfl) ?_
    refine lv_aload_n hx hb dX7_isGood_368 rfl (lv_at hl 3 rfl) ?_
    refine kb_get (own := RX7) (C := RX7) (T := TX7) (N := 19) (v := .ref (a 3)) hx hb hts hin7 hown hX hP 0 rfl rfl rfl 4 (by decide) rfl (by decide +kernel) rfl dX7_isGood_369 ?_
    refine lv_iconst (v := 1) hx hb dX7_isGood_372 (by decide) ?_
    refine kb_ialdN (jn := 1) (n := 2) (f := v.1 4) hx hb hX hP 0 3 rfl rfl rfl (by omega) (by decide) dX7_isGood_373 ?_
    refine lv_icmp_ge (tgt := 383) hx hb dX7_isGood_374 (by decide) (fun c_374 => ?_) (fun c_374 => ?_)
    · refine lv_iconst (v := 0) hx hb dX7_isGood_383 (by decide) ?_
      have hP : PP G [bX7 a G (g_goodV v x1)] H := by
        simp only [g_goodV, if_neg h23_100, if_neg h23_103, if_neg h23_108, if_neg h23_111, if_neg h23_112, if_neg h23_114, if_neg h23_119, if_neg h23_101, if_neg h23_102, if_neg h23_104, if_neg h23_105, if_neg h23_106, if_neg h23_107, if_neg h23_109, if_neg h23_110, if_neg h23_113, if_neg h23_115, if_neg h23_116, if_pos h23_117, if_pos c_374]
        try simp only [ov_n1, ov_m1, ov_nc, ov_mc, ov_c] at hP ⊢
        exact hP
      exact kr_sz hx hb hr hlocks dX7_isGood_384 rfl hP hS (sameAd_cons (bX7_ad _ _ _ _) sameAd_nil) ⟨by simp only [k_good, if_neg h23_100, if_neg h23_103, if_neg h23_108, if_neg h23_111, if_neg h23_112, if_neg h23_114, if_neg h23_119, if_neg h23_101, if_neg h23_102, if_neg h23_104, if_neg h23_105, if_neg h23_106, if_neg h23_107, if_neg h23_109, if_neg h23_110, if_neg h23_113, if_neg h23_115, if_neg h23_116, if_pos h23_117, if_pos c_374] <;> rfl, rfl⟩
    · refine lv_iload_n hx hb dX7_isGood_377 rfl (lv_at hl 1 rfl) ?_
      refine lv_bipush (v := 20) hx hb dX7_isGood_378 (by decide) ?_
      refine lv_icmp_le (tgt := 385) hx hb dX7_isGood_380 (by decide) (fun c_380 => ?_) (fun c_380 => ?_)
      · have hgx := hg 0 (by rw [h23_117]; decide)
        have hbx := cl_lt_of hgx c_374
        refine lv_aload_n hx hb dX7_isGood_385 rfl (lv_at hl 3 rfl) ?_
        refine kb_get (own := RX7) (C := RX7) (T := TX7) (N := 19) (v := .ref (a 5)) hx hb hts hin7 hown hX hP 0 rfl rfl rfl 6 (by decide) rfl (by decide +kernel) rfl dX7_isGood_386 ?_
        refine lv_bipush (v := 8) hx hb dX7_isGood_389 (by decide) ?_
        refine lv_iload_n hx hb dX7_isGood_391 rfl (lv_at hl 2 rfl) ?_
        refine kb_nat (hgx) ?_
        refine lv_iadd hx hb dX7_isGood_392 ?_
        refine lv_iload_n hx hb dX7_isGood_393 rfl (lv_at hl 1 rfl) ?_
        refine kb_iastN (jn := 8 + (((v.1 18) 0).toNatClampNeg)) (n := 16) (f := v.1 6) hx hb hX hP hD hS 0 5 rfl rfl (by simp only [nI_addE, nI_mulE] <;> rfl) (by omega) (by decide) dX7_isGood_394 (bX7_A6 a G v (upd (v.1 6) (8 + (((v.1 18) 0).toNatClampNeg)) ((v.1 18) 1))) (fun H locs hP hD hS => ?_)
        have hP : PP G [bX7 a G (setA v 6 (upd (v.1 6) (8 + (((v.1 18) 0).toNatClampNeg)) ((v.1 18) 1)))] H := hP
        have hD : DD (AA (List.flatten [bX7 a G v])) [bX7 a G (setA v 6 (upd (v.1 6) (8 + (((v.1 18) 0).toNatClampNeg)) ((v.1 18) 1)))] := D_re hD (adc (bX7_ad _ _ _ _) adn)
        refine lv_iconst (v := 1) hx hb dX7_isGood_395 (by decide) ?_
        have hP : PP G [bX7 a G (g_goodV v x1)] H := by
          simp only [g_goodV, if_neg h23_100, if_neg h23_103, if_neg h23_108, if_neg h23_111, if_neg h23_112, if_neg h23_114, if_neg h23_119, if_neg h23_101, if_neg h23_102, if_neg h23_104, if_neg h23_105, if_neg h23_106, if_neg h23_107, if_neg h23_109, if_neg h23_110, if_neg h23_113, if_neg h23_115, if_neg h23_116, if_pos h23_117, if_neg c_374, if_pos c_380]
          try simp only [ov_n1, ov_m1, ov_nc, ov_mc, ov_c] at hP ⊢
          exact hP
        exact kr_sz hx hb hr hlocks dX7_isGood_396 rfl hP hS (sameAd_cons (bX7_ad _ _ _ _) sameAd_nil) ⟨by simp only [k_good, if_neg h23_100, if_neg h23_103, if_neg h23_108, if_neg h23_111, if_neg h23_112, if_neg h23_114, if_neg h23_119, if_neg h23_101, if_neg h23_102, if_neg h23_104, if_neg h23_105, if_neg h23_106, if_neg h23_107, if_neg h23_109, if_neg h23_110, if_neg h23_113, if_neg h23_115, if_neg h23_116, if_pos h23_117, if_neg c_374, if_pos c_380] <;> rfl, rfl⟩
      · refine lv_iconst (v := 0) hx hb dX7_isGood_383 (by decide) ?_
        have hP : PP G [bX7 a G (g_goodV v x1)] H := by
          simp only [g_goodV, if_neg h23_100, if_neg h23_103, if_neg h23_108, if_neg h23_111, if_neg h23_112, if_neg h23_114, if_neg h23_119, if_neg h23_101, if_neg h23_102, if_neg h23_104, if_neg h23_105, if_neg h23_106, if_neg h23_107, if_neg h23_109, if_neg h23_110, if_neg h23_113, if_neg h23_115, if_neg h23_116, if_pos h23_117, if_neg c_374, if_neg c_380]
          try simp only [ov_n1, ov_m1, ov_nc, ov_mc, ov_c] at hP ⊢
          exact hP
        exact kr_sz hx hb hr hlocks dX7_isGood_384 rfl hP hS (sameAd_cons (bX7_ad _ _ _ _) sameAd_nil) ⟨by simp only [k_good, if_neg h23_100, if_neg h23_103, if_neg h23_108, if_neg h23_111, if_neg h23_112, if_neg h23_114, if_neg h23_119, if_neg h23_101, if_neg h23_102, if_neg h23_104, if_neg h23_105, if_neg h23_106, if_neg h23_107, if_neg h23_109, if_neg h23_110, if_neg h23_113, if_neg h23_115, if_neg h23_116, if_pos h23_117, if_neg c_374, if_neg c_380] <;> rfl, rfl⟩
  by_cases h23_118 : x1 = 118
  · exact absurd (by rw [h23_118]; decide) hl0
  exact absurd (by simp only [g_numbers, if_neg h23_100, if_neg h23_103, if_neg h23_108, if_neg h23_111, if_neg h23_112, if_neg h23_114, if_neg h23_119, if_neg h23_101, if_neg h23_102, if_neg h23_104, if_neg h23_105, if_neg h23_106, if_neg h23_107, if_neg h23_109, if_neg h23_110, if_neg h23_113, if_neg h23_115, if_neg h23_116, if_neg h23_117, if_neg h23_118]; decide) hl0
