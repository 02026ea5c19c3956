/-! the reference: an item, the text's fault, laying -/
theorem numGo_le (T : Nat → Int32) : ∀ (n k : Nat) (g f : Int32), (numGo T n k g f).1 ≤ k + n ∧ k ≤ (numGo T n k g f).1
  | 0, k, g, f => by simp [numGo]
  | n + 1, k, g, f => by
    simp only [numGo]
    split
    · split
      · have := numGo_le T n (k + 1) g (f + 1); omega
      · have := numGo_le T n (k + 1) (10 * g + T k - 48) (f + 1); omega
    · simp
theorem g_numberP_le {T : Nat → Int32} {len q : Nat} (h : q ≤ len) : g_numberP T len q ≤ len := by
  have := (numGo_le T (len - q) q 0 0).1
  unfold g_numberP
  omega
theorem g_numberP_ge {T : Nat → Int32} {len q : Nat} : q ≤ g_numberP T len q := (numGo_le T (len - q) q 0 0).2
theorem updF_nn {F : Nat → Int32} {k : Nat} {w : Int32} (h : ∀ j, j < k → ¬ F j < 0) (hk : ¬ (upd F k w) k < 0) : ∀ j, j < k + 1 → ¬ (upd F k w) j < 0 := by
  intro j hj
  by_cases h1 : j = k
  · subst h1; exact hk
  · rw [pk_un h1]; exact h j (by omega)
def itemGo (T : Nat → Int32) (len : Nat) : Nat → Nat → Nat → Bool → (Nat → Int32) → Nat × Bool × (Nat → Int32)
  | 0, _, q, b, F => (q, b, F)
  | n + 1, k, q, b, F => if b = true then
      (if nI k = 0 then (if (upd F k (g_numberR T len q)) k < 0 then itemGo T len n (k + 1) (g_numberP T len q) false (upd F k (g_numberR T len q)) else itemGo T len n (k + 1) (g_numberP T len q) true (upd F k (g_numberR T len q)))
       else if nI len ≤ nI q then (if (upd F k (-1)) k < 0 then itemGo T len n (k + 1) (q + 1) false (upd F k (-1)) else itemGo T len n (k + 1) (q + 1) true (upd F k (-1)))
       else if T q = 44 then (if (upd F k (g_numberR T len (q + 1))) k < 0 then itemGo T len n (k + 1) (g_numberP T len (q + 1)) false (upd F k (g_numberR T len (q + 1))) else itemGo T len n (k + 1) (g_numberP T len (q + 1)) true (upd F k (g_numberR T len (q + 1))))
       else (if (upd F k (-1)) k < 0 then itemGo T len n (k + 1) (q + 1) false (upd F k (-1)) else itemGo T len n (k + 1) (q + 1) true (upd F k (-1))))
    else (q, b, F)
def isB (n : Int32) : Bool := if n ≤ 0 then false else true
theorem numbers_le (l : Int32) : (g_numbers l).toNatClampNeg ≤ 3 := by
  unfold g_numbers
  repeat' split
  all_goals decide
def g_itemR (v : OV) (q len : Nat) : Nat × Bool × (Nat → Int32) := itemGo (v.1 1) len (g_numbers (v.1 1 q)).toNatClampNeg 0 (q + 1) (isB (g_numbers (v.1 1 q))) (v.1 18)
theorem itemGo_f (T : Nat → Int32) (len : Nat) : ∀ (n k q : Nat) (F : Nat → Int32), itemGo T len n k q false F = (q, false, F)
  | 0, _, _, _ => rfl
  | n + 1, k, q, F => by simp [itemGo]
theorem item_l0 {v : OV} {q len q1 : Nat} {b : Bool} {F : Nat → Int32} (h : g_itemR v q len = (q1, b, F)) (hb : b = true) : ¬ g_numbers (v.1 1 q) ≤ 0 := by
  intro e
  have h5 : g_itemR v q len = (q + 1, false, v.1 18) := by
    unfold g_itemR
    rw [show isB (g_numbers (v.1 1 q)) = false by simp only [isB, if_pos e], itemGo_f]
  rw [h] at h5
  have h6 : b = false := congrArg (fun z => z.2.1) h5
  rw [h6] at hb
  exact absurd hb (by decide)
def g_itemK3 (v : OV) (len : Nat) (l : Int32) (q : Nat) (b : Bool) (F : Nat → Int32) : Bool :=
  if b = true then (if nI len ≤ nI q then false else if v.1 1 q = 59 then (if k_good (setI (setA (setI v 2 (nI q)) 18 F) 2 (nI (q + 1))) l = true then true else false) else false) else false
def g_itemV3 (v : OV) (len : Nat) (l : Int32) (q : Nat) (b : Bool) (F : Nat → Int32) : OV :=
  if b = true then (if nI len ≤ nI q then setI (setA (setI v 2 (nI q)) 18 F) 2 (nI (q + 1)) else if v.1 1 q = 59 then g_goodV (setI (setA (setI v 2 (nI q)) 18 F) 2 (nI (q + 1))) l else setI (setA (setI v 2 (nI q)) 18 F) 2 (nI (q + 1))) else setI (setA (setI v 2 (nI q)) 18 F) 2 (nI (q + 1))
def g_itemK (v : OV) (q len : Nat) : Bool := g_itemK3 v len (v.1 1 q) (g_itemR v q len).1 (g_itemR v q len).2.1 (g_itemR v q len).2.2
def g_itemV (v : OV) (q len : Nat) : OV := g_itemV3 v len (v.1 1 q) (g_itemR v q len).1 (g_itemR v q len).2.1 (g_itemR v q len).2.2
def g_itemP (v : OV) (q len : Nat) : Nat := (g_itemR v q len).1 + 1

def rm_X7_isItem : Room := { frames := 2, cells := 0, slots := 0, locals := 49 }
theorem hd_X7_isItem : yX7_isItem.cls = RX7 ∧ yX7_isItem.cls ≠ "java/lang/invoke/MethodHandle" ∧ yX7_isItem.cls ≠ "java/lang/invoke/VarHandle" ∧ (parseMethodDescriptor yX7_isItem.desc).map (fun d => d.parameters.length) = some 0 := by decide +kernel
set_option maxRecDepth 100000 in
set_option maxHeartbeats 4000000 in
theorem c_X7_isItem (l : Launch) (G : GD) (a : Nat → Nat) (v : OV) (q len : Nat) (hq : v.2 2 = nI q) (hlen : v.2 0 = nI len) (hl300 : len ≤ 300) (hqlt : q < len) (hA1 : ¬ v.1 4 1 < 0) (hA2 : (v.1 4 1).toNatClampNeg ≤ 8) (hB1 : ¬ v.1 7 1 < 0) (hB2 : (v.1 7 1).toNatClampNeg ≤ 4) : MetS l yX7_isItem wsX7_isItem rm_X7_isItem G [bX7 a G v] [.ref (a 0)] (fun r bc => r = some (.int (b2i (g_itemK v q len))) ∧ bc = [bX7 a G (g_itemV v q len)]) := by
  refine kb_beginS (cc := cX7_isItem) (maxL := 5) (ret := (some .boolean)) (by decide) rfl (Nat.le_of_ble_eq_true rfl) ?_
  intro p e s m below meth c hx hb hr hml hown hts hlocks hX H locs hP hD hS ls hl
  have hown : s.vm.findClass RX7 = some m.cls := hown
  have hl : lv_has ls 5 [(0, .ref (a 0))] := hl
  have hin7 : ∀ w ∈ u_ws RX7 TX7 19, w ∈ wsX7_isItem := (fun _ h => List.mem_cons_of_mem _ (List.mem_append_right _ (h)))
  have hP : PP G [bX7 a G (setI v 2 (nI q))] H := by rw [ov_putI hq]; exact hP
  have hD : DD (AA (List.flatten [bX7 a G v])) [bX7 a G (setI v 2 (nI q))] := D_re hD (adc (bX7_ad _ _ _ _) adn)
  have hN3 := numbers_le (v.1 1 q)
  refine lv_aload_n hx hb dX7_isItem_0 rfl (lv_at hl 0 rfl) ?_
  refine kb_get (own := RX7) (C := RX7) (T := TX7) (N := 19) (v := .ref (a 1)) hx hb hts hin7 hown hX hP 0 rfl rfl rfl 1 (by decide) rfl (by decide +kernel) rfl dX7_isItem_1 ?_
  refine lv_aload_n hx hb dX7_isItem_4 rfl (lv_at hl 0 rfl) ?_
  refine kb_get (own := RX7) (C := RX7) (T := TX7) (N := 19) (v := .int (nI q)) hx hb hts hin7 hown hX hP 0 rfl rfl rfl 2 (by decide) rfl (by decide +kernel) rfl dX7_isItem_5 ?_
  refine kb_baldN (jn := q) (n := 300) (f := v.1 1) hx hb hX hP 0 1 rfl rfl rfl (by omega) (by decide) dX7_isItem_8 ?_
  refine lv_istore_n (lv' := [(1, .int ((v.1 1) q)), (0, .ref (a 0))]) hx hb dX7_isItem_9 rfl hl (by decide) rfl (fun ls hl => ?_)
  refine lv_aload_n hx hb dX7_isItem_10 rfl (lv_at hl 1 rfl) ?_
  refine lv_dup hx hb dX7_isItem_11 rfl ?_
  refine kb_get (own := RX7) (C := RX7) (T := TX7) (N := 19) (v := .int (nI q)) hx hb hts hin7 hown hX hP 0 rfl rfl rfl 2 (by decide) rfl (by decide +kernel) rfl dX7_isItem_12 ?_
  refine lv_iconst (v := 1) hx hb dX7_isItem_15 (by decide) ?_
  refine lv_iadd hx hb dX7_isItem_16 ?_
  refine kb_rw (y := nI (q + 1)) (nI_1 _) ?_
  refine kb_put (own := RX7) (C := RX7) (T := TX7) (N := 19) hx hb hts hin7 tyX7 tyX7_ok nmX7 (ty := .int) hown hX hP hD hS 0 rfl rfl rfl 2 (by decide) rfl (by decide +kernel) (by decide +kernel) rfl rfl (Nat.le_of_ble_eq_true rfl) dX7_isItem_17 (bX7_I2 a G (setI v 2 (nI q)) (nI (q + 1))) (fun H locs hP hD hS => ?_)
  have hP : PP G [bX7 a G (setI (setI v 2 (nI q)) 2 (nI (q + 1)))] H := hP
  have hD : DD (AA (List.flatten [bX7 a G v])) [bX7 a G (setI (setI v 2 (nI q)) 2 (nI (q + 1)))] := D_re hD (adc (bX7_ad _ _ _ _) adn)
  refine lv_iload_n hx hb dX7_isItem_20 rfl (lv_at hl 0 rfl) ?_
  refine kcS_p hx hb hml hown hts hX hP (c_X7_numbers l G ((v.1 1) q)) gX7_isItem_X7_numbers 1 rfl rfl rfl hdS_X7_numbers ⟨Nat.le_of_ble_eq_true rfl, Nat.le_of_ble_eq_true rfl⟩ (fun q hq => absurd hq List.not_mem_nil) hl.1 rfl rfl (Nat.le_of_ble_eq_true rfl) dX7_isItem_21 ⟨Nat.zero_le _, Nat.zero_le _⟩ ?_
  refine lv_istore_n (lv' := [(2, .int (g_numbers ((v.1 1) q))), (1, .int ((v.1 1) q)), (0, .ref (a 0))]) hx hb dX7_isItem_24 rfl hl (by decide) rfl (fun ls hl => ?_)
  refine lv_iload_n hx hb dX7_isItem_25 rfl (lv_at hl 0 rfl) ?_
  refine lv_if_le (tgt := 33) hx hb dX7_isItem_26 (by decide) (fun c_26 => ?_) (fun c_26 => ?_)
  · refine lv_iconst (v := 0) hx hb dX7_isItem_33 (by decide) ?_
    refine lv_istore_n (lv' := [(3, .int 0), (2, .int (g_numbers ((v.1 1) q))), (1, .int ((v.1 1) q)), (0, .ref (a 0))]) hx hb dX7_isItem_34 rfl hl (by decide) rfl (fun ls hl => ?_)
    refine lv_iconst (v := 0) hx hb dX7_isItem_35 (by decide) ?_
    refine lv_istore (lv' := [(4, .int 0), (3, .int 0), (2, .int (g_numbers ((v.1 1) q))), (1, .int ((v.1 1) q)), (0, .ref (a 0))]) hx hb dX7_isItem_36 hl (by decide) rfl (fun ls hl => ?_)
    refine lp_up (N := (g_numbers (v.1 1 q)).toNatClampNeg) (P := fun k => ∀ (q1 : Nat), ∀ (bb : Bool), ∀ (F : Nat → Int32), ∀ (H : Heap) (locs : List Loc) (ls : Array Slot), PP G [bX7 a G (setA (setI v 2 (nI q1)) 18 F)] H → DD (AA (List.flatten [bX7 a G v])) [bX7 a G (setA (setI v 2 (nI q1)) 18 F)] → va_S (AA (List.flatten [bX7 a G v])) s.heap H locs → lv_has ls 5 [(4, .int (nI k)), (3, .int (b2i bb)), (2, .int (g_numbers ((v.1 1) q))), (1, .int ((v.1 1) q)), (0, .ref (a 0))] → (bb = true → q1 ≤ len) → (bb = true → ∀ j, j < k → ¬ F j < 0) → (g_itemR v q len = itemGo (v.1 1) len ((g_numbers (v.1 1 q)).toNatClampNeg - k) k q1 bb F) → W p l e (headSpec wsX7_isItem rm_X7_isItem).room s m ([.ref (a 0)] : List Value).toArray below meth c H locs 0 0 (MQ below (kQs G [bX7 a G v] (fun r bc => r = some (.int (b2i (g_itemK v q len))) ∧ bc = [bX7 a G (g_itemV v q len)])) ([.ref (a 0)] : List Value).toArray s 0 0 (AA (List.flatten [bX7 a G v]))) (F0 m 38 ls [])) ?_ ?_ 0 (Nat.zero_le _) (q + 1) false (v.1 18) _ _ _ hP hD hS (lv_sub hl [0, 1, 2, 3, 4] rfl) (fun _ => by omega) (fun _ j hj => absurd hj (Nat.not_lt_zero _)) (by unfold g_itemR; rw [show isB (g_numbers (v.1 1 q)) = false by simp only [isB, if_pos c_26]]; rfl)
    · skip
      intro q1 bb F H locs ls hP hD hS hl hfb hF hs
      refine lv_iload hx hb dX7_isItem_38 (lv_at hl 0 rfl) ?_
      refine lv_iload_n hx hb dX7_isItem_40 rfl (lv_at hl 2 rfl) ?_
      refine lv_icmp_ge (tgt := 144) hx hb dX7_isItem_41 (by decide) (fun c_41 => ?_) (fun c_41 => absurd (lpx_c _) c_41)
      have hr2 : g_itemR v q len = (q1, bb, F) := hs.trans (by rw [Nat.sub_self]; rfl)
      refine lv_iload_n hx hb dX7_isItem_144 rfl (lv_at hl 1 rfl) ?_
      refine lv_if_eq (tgt := 177) hx hb dX7_isItem_145 (by decide) (fun c_145r => ?_) (fun c_145r => ?_)
      · have c_145 := b2i_fN c_145r
        refine lv_iconst (v := 0) hx hb dX7_isItem_177 (by decide) ?_
        refine lv_istore_n (lv' := [(3, .int 0), (4, .int (nI ((g_numbers (v.1 1 q)).toNatClampNeg))), (2, .int (g_numbers ((v.1 1) q))), (1, .int ((v.1 1) q)), (0, .ref (a 0))]) hx hb dX7_isItem_178 rfl hl (by decide) rfl (fun ls hl => ?_)
        refine lv_aload_n hx hb dX7_isItem_179 rfl (lv_at hl 4 rfl) ?_
        refine lv_dup hx hb dX7_isItem_180 rfl ?_
        refine kb_get (own := RX7) (C := RX7) (T := TX7) (N := 19) (v := .int (nI q1)) hx hb hts hin7 hown hX hP 0 rfl rfl rfl 2 (by decide) rfl (by decide +kernel) rfl dX7_isItem_181 ?_
        refine lv_iconst (v := 1) hx hb dX7_isItem_184 (by decide) ?_
        refine lv_iadd hx hb dX7_isItem_185 ?_
        refine kb_rw (y := nI (q1 + 1)) (nI_1 _) ?_
        refine kb_put (own := RX7) (C := RX7) (T := TX7) (N := 19) hx hb hts hin7 tyX7 tyX7_ok nmX7 (ty := .int) hown hX hP hD hS 0 rfl rfl rfl 2 (by decide) rfl (by decide +kernel) (by decide +kernel) rfl rfl (Nat.le_of_ble_eq_true rfl) dX7_isItem_186 (bX7_I2 a G (setA (setI v 2 (nI q1)) 18 F) (nI (q1 + 1))) (fun H locs hP hD hS => ?_)
        have hP : PP G [bX7 a G (setI (setA (setI v 2 (nI q1)) 18 F) 2 (nI (q1 + 1)))] H := hP
        have hD : DD (AA (List.flatten [bX7 a G v])) [bX7 a G (setI (setA (setI v 2 (nI q1)) 18 F) 2 (nI (q1 + 1)))] := D_re hD (adc (bX7_ad _ _ _ _) adn)
        refine lv_iload_n hx hb dX7_isItem_189 rfl (lv_at hl 0 rfl) ?_
        refine lv_if_eq (tgt := 205) hx hb dX7_isItem_190 (by decide) (fun c_190 => ?_) (fun c_190 => absurd (by decide) c_190)
        refine lv_iconst (v := 0) hx hb dX7_isItem_205 (by decide) ?_
        have hP : PP G [bX7 a G (g_itemV v q len)] H := by
          rw [g_itemV, hr2]
          simp only [g_itemV3, if_pos c_26, if_pos c_41, if_neg c_145, if_pos c_190]
          exact hP
        exact kr_sz hx hb hr hlocks dX7_isItem_206 rfl hP hS (sameAd_cons (bX7_ad _ _ _ _) sameAd_nil) ⟨by rw [g_itemK, hr2]; simp only [g_itemK3, if_pos c_26, if_pos c_41, if_neg c_145, if_pos c_190] <;> rfl, rfl⟩
      · have c_145 := b2i_tP c_145r
        refine lv_aload_n hx hb dX7_isItem_148 rfl (lv_at hl 4 rfl) ?_
        refine kb_get (own := RX7) (C := RX7) (T := TX7) (N := 19) (v := .int (nI q1)) hx hb hts hin7 hown hX hP 0 rfl rfl rfl 2 (by decide) rfl (by decide +kernel) rfl dX7_isItem_149 ?_
        refine lv_aload_n hx hb dX7_isItem_152 rfl (lv_at hl 4 rfl) ?_
        refine kb_get (own := RX7) (C := RX7) (T := TX7) (N := 19) (v := .int (v.2 0)) hx hb hts hin7 hown hX hP 0 rfl rfl rfl 0 (by decide) rfl (by decide +kernel) rfl dX7_isItem_153 ?_
        refine kb_rw (y := nI len) hlen ?_
        refine lv_icmp_ge (tgt := 177) hx hb dX7_isItem_156 (by decide) (fun c_156 => ?_) (fun c_156 => ?_)
        · refine lv_iconst (v := 0) hx hb dX7_isItem_177 (by decide) ?_
          refine lv_istore_n (lv' := [(3, .int 0), (4, .int (nI ((g_numbers (v.1 1 q)).toNatClampNeg))), (2, .int (g_numbers ((v.1 1) q))), (1, .int ((v.1 1) q)), (0, .ref (a 0))]) hx hb dX7_isItem_178 rfl hl (by decide) rfl (fun ls hl => ?_)
          refine lv_aload_n hx hb dX7_isItem_179 rfl (lv_at hl 4 rfl) ?_
          refine lv_dup hx hb dX7_isItem_180 rfl ?_
          refine kb_get (own := RX7) (C := RX7) (T := TX7) (N := 19) (v := .int (nI q1)) hx hb hts hin7 hown hX hP 0 rfl rfl rfl 2 (by decide) rfl (by decide +kernel) rfl dX7_isItem_181 ?_
          refine lv_iconst (v := 1) hx hb dX7_isItem_184 (by decide) ?_
          refine lv_iadd hx hb dX7_isItem_185 ?_
          refine kb_rw (y := nI (q1 + 1)) (nI_1 _) ?_
          refine kb_put (own := RX7) (C := RX7) (T := TX7) (N := 19) hx hb hts hin7 tyX7 tyX7_ok nmX7 (ty := .int) hown hX hP hD hS 0 rfl rfl rfl 2 (by decide) rfl (by decide +kernel) (by decide +kernel) rfl rfl (Nat.le_of_ble_eq_true rfl) dX7_isItem_186 (bX7_I2 a G (setA (setI v 2 (nI q1)) 18 F) (nI (q1 + 1))) (fun H locs hP hD hS => ?_)
          have hP : PP G [bX7 a G (setI (setA (setI v 2 (nI q1)) 18 F) 2 (nI (q1 + 1)))] H := hP
          have hD : DD (AA (List.flatten [bX7 a G v])) [bX7 a G (setI (setA (setI v 2 (nI q1)) 18 F) 2 (nI (q1 + 1)))] := D_re hD (adc (bX7_ad _ _ _ _) adn)
          refine lv_iload_n hx hb dX7_isItem_189 rfl (lv_at hl 0 rfl) ?_
          refine lv_if_eq (tgt := 205) hx hb dX7_isItem_190 (by decide) (fun c_190 => ?_) (fun c_190 => absurd (by decide) c_190)
          refine lv_iconst (v := 0) hx hb dX7_isItem_205 (by decide) ?_
          have hP : PP G [bX7 a G (g_itemV v q len)] H := by
            rw [g_itemV, hr2]
            simp only [g_itemV3, if_pos c_26, if_pos c_41, if_pos c_145, if_pos c_156, if_pos c_190]
            exact hP
          exact kr_sz hx hb hr hlocks dX7_isItem_206 rfl hP hS (sameAd_cons (bX7_ad _ _ _ _) sameAd_nil) ⟨by rw [g_itemK, hr2]; simp only [g_itemK3, if_pos c_26, if_pos c_41, if_pos c_145, if_pos c_156, if_pos c_190] <;> rfl, rfl⟩
        · have hq1 := hfb c_145
          have hplt2 := nI_nle_lt (by omega) c_156
          refine lv_aload_n hx hb dX7_isItem_159 rfl (lv_at hl 4 rfl) ?_
          refine kb_get (own := RX7) (C := RX7) (T := TX7) (N := 19) (v := .ref (a 1)) hx hb hts hin7 hown hX hP 0 rfl rfl rfl 1 (by decide) rfl (by decide +kernel) rfl dX7_isItem_160 ?_
          refine lv_aload_n hx hb dX7_isItem_163 rfl (lv_at hl 4 rfl) ?_
          refine kb_get (own := RX7) (C := RX7) (T := TX7) (N := 19) (v := .int (nI q1)) hx hb hts hin7 hown hX hP 0 rfl rfl rfl 2 (by decide) rfl (by decide +kernel) rfl dX7_isItem_164 ?_
          refine kb_baldN (jn := q1) (n := 300) (f := v.1 1) hx hb hX hP 0 1 rfl rfl rfl (by omega) (by decide) dX7_isItem_167 ?_
          refine lv_bipush (v := 59) hx hb dX7_isItem_168 (by decide) ?_
          refine lv_icmp_ne (tgt := 177) hx hb dX7_isItem_170 (by decide) (fun c_170 => ?_) (fun c_170 => ?_)
          · refine lv_iconst (v := 0) hx hb dX7_isItem_177 (by decide) ?_
            refine lv_istore_n (lv' := [(3, .int 0), (4, .int (nI ((g_numbers (v.1 1 q)).toNatClampNeg))), (2, .int (g_numbers ((v.1 1) q))), (1, .int ((v.1 1) q)), (0, .ref (a 0))]) hx hb dX7_isItem_178 rfl hl (by decide) rfl (fun ls hl => ?_)
            refine lv_aload_n hx hb dX7_isItem_179 rfl (lv_at hl 4 rfl) ?_
            refine lv_dup hx hb dX7_isItem_180 rfl ?_
            refine kb_get (own := RX7) (C := RX7) (T := TX7) (N := 19) (v := .int (nI q1)) hx hb hts hin7 hown hX hP 0 rfl rfl rfl 2 (by decide) rfl (by decide +kernel) rfl dX7_isItem_181 ?_
            refine lv_iconst (v := 1) hx hb dX7_isItem_184 (by decide) ?_
            refine lv_iadd hx hb dX7_isItem_185 ?_
            refine kb_rw (y := nI (q1 + 1)) (nI_1 _) ?_
            refine kb_put (own := RX7) (C := RX7) (T := TX7) (N := 19) hx hb hts hin7 tyX7 tyX7_ok nmX7 (ty := .int) hown hX hP hD hS 0 rfl rfl rfl 2 (by decide) rfl (by decide +kernel) (by decide +kernel) rfl rfl (Nat.le_of_ble_eq_true rfl) dX7_isItem_186 (bX7_I2 a G (setA (setI v 2 (nI q1)) 18 F) (nI (q1 + 1))) (fun H locs hP hD hS => ?_)
            have hP : PP G [bX7 a G (setI (setA (setI v 2 (nI q1)) 18 F) 2 (nI (q1 + 1)))] H := hP
            have hD : DD (AA (List.flatten [bX7 a G v])) [bX7 a G (setI (setA (setI v 2 (nI q1)) 18 F) 2 (nI (q1 + 1)))] := D_re hD (adc (bX7_ad _ _ _ _) adn)
            refine lv_iload_n hx hb dX7_isItem_189 rfl (lv_at hl 0 rfl) ?_
            refine lv_if_eq (tgt := 205) hx hb dX7_isItem_190 (by decide) (fun c_190 => ?_) (fun c_190 => absurd (by decide) c_190)
            refine lv_iconst (v := 0) hx hb dX7_isItem_205 (by decide) ?_
            have hP : PP G [bX7 a G (g_itemV v q len)] H := by
              rw [g_itemV, hr2]
              simp only [g_itemV3, if_pos c_26, if_pos c_41, if_pos c_145, if_neg c_156, if_neg c_170, if_pos c_190]
              exact hP
            exact kr_sz hx hb hr hlocks dX7_isItem_206 rfl hP hS (sameAd_cons (bX7_ad _ _ _ _) sameAd_nil) ⟨by rw [g_itemK, hr2]; simp only [g_itemK3, if_pos c_26, if_pos c_41, if_pos c_145, if_neg c_156, if_neg c_170, if_pos c_190] <;> rfl, rfl⟩
          · refine lv_iconst (v := 1) hx hb dX7_isItem_173 (by decide) ?_
            refine lv_goto (tgt := 178) hx hb dX7_isItem_174 (by decide) ?_
            refine lv_istore_n (lv' := [(3, .int 1), (4, .int (nI ((g_numbers (v.1 1 q)).toNatClampNeg))), (2, .int (g_numbers ((v.1 1) q))), (1, .int ((v.1 1) q)), (0, .ref (a 0))]) hx hb dX7_isItem_178 rfl hl (by decide) rfl (fun ls hl => ?_)
            refine lv_aload_n hx hb dX7_isItem_179 rfl (lv_at hl 4 rfl) ?_
            refine lv_dup hx hb dX7_isItem_180 rfl ?_
            refine kb_get (own := RX7) (C := RX7) (T := TX7) (N := 19) (v := .int (nI q1)) hx hb hts hin7 hown hX hP 0 rfl rfl rfl 2 (by decide) rfl (by decide +kernel) rfl dX7_isItem_181 ?_
            refine lv_iconst (v := 1) hx hb dX7_isItem_184 (by decide) ?_
            refine lv_iadd hx hb dX7_isItem_185 ?_
            refine kb_rw (y := nI (q1 + 1)) (nI_1 _) ?_
            refine kb_put (own := RX7) (C := RX7) (T := TX7) (N := 19) hx hb hts hin7 tyX7 tyX7_ok nmX7 (ty := .int) hown hX hP hD hS 0 rfl rfl rfl 2 (by decide) rfl (by decide +kernel) (by decide +kernel) rfl rfl (Nat.le_of_ble_eq_true rfl) dX7_isItem_186 (bX7_I2 a G (setA (setI v 2 (nI q1)) 18 F) (nI (q1 + 1))) (fun H locs hP hD hS => ?_)
            have hP : PP G [bX7 a G (setI (setA (setI v 2 (nI q1)) 18 F) 2 (nI (q1 + 1)))] H := hP
            have hD : DD (AA (List.flatten [bX7 a G v])) [bX7 a G (setI (setA (setI v 2 (nI q1)) 18 F) 2 (nI (q1 + 1)))] := D_re hD (adc (bX7_ad _ _ _ _) adn)
            refine lv_iload_n hx hb dX7_isItem_189 rfl (lv_at hl 0 rfl) ?_
            refine lv_if_eq (tgt := 205) hx hb dX7_isItem_190 (by decide) (fun c_190 => absurd c_190 (by decide)) (fun c_190 => ?_)
            have hl0 := item_l0 hr2 c_145
            have hgF : ∀ j, j < (g_numbers (v.1 1 q)).toNatClampNeg → ¬ F j < 0 := hF c_145
            refine lv_aload_n hx hb dX7_isItem_193 rfl (lv_at hl 4 rfl) ?_
            refine lv_iload_n hx hb dX7_isItem_194 rfl (lv_at hl 3 rfl) ?_
            refine kcV_s hx hb hml hown hts hX hP hD hS (c_X7_isGood l G a (setI (setA (setI v 2 (nI q1)) 18 F) 2 (nI (q1 + 1))) ((v.1 1) q) hA1 hA2 hB1 hB2 hl0 hgF) gX7_isItem_X7_isGood 1 rfl rfl rfl hd_X7_isGood ⟨Nat.le_of_ble_eq_true rfl, Nat.le_of_ble_eq_true rfl⟩ [0] (by decide) rfl 0 rfl rfl rfl hl.1 rfl rfl (Nat.le_of_ble_eq_true rfl) dX7_isItem_195 ⟨Nat.zero_le _, Nat.zero_le _⟩ (fun r_ bc_ hq_1 H locs hP hD hS => ?_)
            obtain ⟨rfl, rfl⟩ := hq_1
            have hP : PP G [bX7 a G (g_goodV (setI (setA (setI v 2 (nI q1)) 18 F) 2 (nI (q1 + 1))) ((v.1 1) q))] H := hP
            have hD : DD (AA (List.flatten [bX7 a G v])) [bX7 a G (g_goodV (setI (setA (setI v 2 (nI q1)) 18 F) 2 (nI (q1 + 1))) ((v.1 1) q))] := D_re hD (adc (bX7_ad _ _ _ _) adn)
            refine lv_if_eq (tgt := 205) hx hb dX7_isItem_198 (by decide) (fun c_198r => ?_) (fun c_198r => ?_)
            · have c_198 := b2i_fN c_198r
              refine lv_iconst (v := 0) hx hb dX7_isItem_205 (by decide) ?_
              have hP : PP G [bX7 a G (g_itemV v q len)] H := by
                rw [g_itemV, hr2]
                simp only [g_itemV3, if_pos c_26, if_pos c_41, if_pos c_145, if_neg c_156, if_pos c_170, if_neg c_190, if_neg c_198]
                exact hP
              exact kr_sz hx hb hr hlocks dX7_isItem_206 rfl hP hS (sameAd_cons (bX7_ad _ _ _ _) sameAd_nil) ⟨by rw [g_itemK, hr2]; simp only [g_itemK3, if_pos c_26, if_pos c_41, if_pos c_145, if_neg c_156, if_pos c_170, if_neg c_190, if_neg c_198] <;> rfl, rfl⟩
            · have c_198 := b2i_tP c_198r
              refine lv_iconst (v := 1) hx hb dX7_isItem_201 (by decide) ?_
              refine lv_goto (tgt := 206) hx hb dX7_isItem_202 (by decide) ?_
              have hP : PP G [bX7 a G (g_itemV v q len)] H := by
                rw [g_itemV, hr2]
                simp only [g_itemV3, if_pos c_26, if_pos c_41, if_pos c_145, if_neg c_156, if_pos c_170, if_neg c_190, if_pos c_198]
                exact hP
              exact kr_sz hx hb hr hlocks dX7_isItem_206 rfl hP hS (sameAd_cons (bX7_ad _ _ _ _) sameAd_nil) ⟨by rw [g_itemK, hr2]; simp only [g_itemK3, if_pos c_26, if_pos c_41, if_pos c_145, if_neg c_156, if_pos c_170, if_neg c_190, if_pos c_198] <;> rfl, rfl⟩
    · skip
      intro k hk_k ih_38 q1 bb F H locs ls hP hD hS hl hfb hF hs
      refine lv_iload hx hb dX7_isItem_38 (lv_at hl 0 rfl) ?_
      refine lv_iload_n hx hb dX7_isItem_40 rfl (lv_at hl 2 rfl) ?_
      refine lv_icmp_ge (tgt := 144) hx hb dX7_isItem_41 (by decide) (fun c_41 => absurd c_41 (lps_c hk_k)) (fun c_41 => ?_)
      refine lv_iload_n hx hb dX7_isItem_44 rfl (lv_at hl 1 rfl) ?_
      refine lv_if_eq (tgt := 144) hx hb dX7_isItem_45 (by decide) (fun c_45r => ?_) (fun c_45r => ?_)
      · have c_45 := b2i_fN c_45r
        have hr2 : g_itemR v q len = (q1, bb, F) := hs.trans (by rw [fuel_s hk_k]; simp only [itemGo, if_pos c_26, if_neg c_41, if_neg c_45])
        refine lv_iload_n hx hb dX7_isItem_144 rfl (lv_at hl 1 rfl) ?_
        refine lv_if_eq (tgt := 177) hx hb dX7_isItem_145 (by decide) (fun c_145r => ?_) (fun c_145r => absurd (c_45r) c_145r)
        have c_145 := b2i_fN c_145r
        refine lv_iconst (v := 0) hx hb dX7_isItem_177 (by decide) ?_
        refine lv_istore_n (lv' := [(3, .int 0), (4, .int (nI k)), (2, .int (g_numbers ((v.1 1) q))), (1, .int ((v.1 1) q)), (0, .ref (a 0))]) hx hb dX7_isItem_178 rfl hl (by decide) rfl (fun ls hl => ?_)
        refine lv_aload_n hx hb dX7_isItem_179 rfl (lv_at hl 4 rfl) ?_
        refine lv_dup hx hb dX7_isItem_180 rfl ?_
        refine kb_get (own := RX7) (C := RX7) (T := TX7) (N := 19) (v := .int (nI q1)) hx hb hts hin7 hown hX hP 0 rfl rfl rfl 2 (by decide) rfl (by decide +kernel) rfl dX7_isItem_181 ?_
        refine lv_iconst (v := 1) hx hb dX7_isItem_184 (by decide) ?_
        refine lv_iadd hx hb dX7_isItem_185 ?_
        refine kb_rw (y := nI (q1 + 1)) (nI_1 _) ?_
        refine kb_put (own := RX7) (C := RX7) (T := TX7) (N := 19) hx hb hts hin7 tyX7 tyX7_ok nmX7 (ty := .int) hown hX hP hD hS 0 rfl rfl rfl 2 (by decide) rfl (by decide +kernel) (by decide +kernel) rfl rfl (Nat.le_of_ble_eq_true rfl) dX7_isItem_186 (bX7_I2 a G (setA (setI v 2 (nI q1)) 18 F) (nI (q1 + 1))) (fun H locs hP hD hS => ?_)
        have hP : PP G [bX7 a G (setI (setA (setI v 2 (nI q1)) 18 F) 2 (nI (q1 + 1)))] H := hP
        have hD : DD (AA (List.flatten [bX7 a G v])) [bX7 a G (setI (setA (setI v 2 (nI q1)) 18 F) 2 (nI (q1 + 1)))] := D_re hD (adc (bX7_ad _ _ _ _) adn)
        refine lv_iload_n hx hb dX7_isItem_189 rfl (lv_at hl 0 rfl) ?_
        refine lv_if_eq (tgt := 205) hx hb dX7_isItem_190 (by decide) (fun c_190 => ?_) (fun c_190 => absurd (by decide) c_190)
        refine lv_iconst (v := 0) hx hb dX7_isItem_205 (by decide) ?_
        have hP : PP G [bX7 a G (g_itemV v q len)] H := by
          rw [g_itemV, hr2]
          simp only [g_itemV3, if_pos c_26, if_neg c_41, if_neg c_45, if_neg c_145, if_pos c_190]
          exact hP
        exact kr_sz hx hb hr hlocks dX7_isItem_206 rfl hP hS (sameAd_cons (bX7_ad _ _ _ _) sameAd_nil) ⟨by rw [g_itemK, hr2]; simp only [g_itemK3, if_pos c_26, if_neg c_41, if_neg c_45, if_neg c_145, if_pos c_190] <;> rfl, rfl⟩
      · have c_45 := b2i_tP c_45r
        refine lv_iload hx hb dX7_isItem_48 (lv_at hl 0 rfl) ?_
        refine lv_if_eq (tgt := 78) hx hb dX7_isItem_50 (by decide) (fun c_50 => ?_) (fun c_50 => ?_)
        · refine lv_iconst (v := 1) hx hb dX7_isItem_78 (by decide) ?_
          refine lv_goto (tgt := 83) hx hb dX7_isItem_79 (by decide) ?_
          refine lv_istore_n (lv' := [(3, .int 1), (4, .int (nI k)), (2, .int (g_numbers ((v.1 1) q))), (1, .int ((v.1 1) q)), (0, .ref (a 0))]) hx hb dX7_isItem_83 rfl hl (by decide) rfl (fun ls hl => ?_)
          refine lv_aload_n hx hb dX7_isItem_84 rfl (lv_at hl 4 rfl) ?_
          refine lv_dup hx hb dX7_isItem_85 rfl ?_
          refine kb_get (own := RX7) (C := RX7) (T := TX7) (N := 19) (v := .int (nI q1)) hx hb hts hin7 hown hX hP 0 rfl rfl rfl 2 (by decide) rfl (by decide +kernel) rfl dX7_isItem_86 ?_
          refine lv_iload hx hb dX7_isItem_89 (lv_at hl 1 rfl) ?_
          refine lv_if_ne (tgt := 98) hx hb dX7_isItem_91 (by decide) (fun c_91 => absurd (c_50) c_91) (fun c_91 => ?_)
          refine lv_iconst (v := 0) hx hb dX7_isItem_94 (by decide) ?_
          refine lv_goto (tgt := 99) hx hb dX7_isItem_95 (by decide) ?_
          refine lv_iadd hx hb dX7_isItem_99 ?_
          refine kb_rw (y := nI q1) (Int32.add_zero _) ?_
          refine kb_put (own := RX7) (C := RX7) (T := TX7) (N := 19) hx hb hts hin7 tyX7 tyX7_ok nmX7 (ty := .int) hown hX hP hD hS 0 rfl rfl rfl 2 (by decide) rfl (by decide +kernel) (by decide +kernel) rfl rfl (Nat.le_of_ble_eq_true rfl) dX7_isItem_100 (bX7_I2 a G (setA (setI v 2 (nI q1)) 18 F) (nI q1)) (fun H locs hP hD hS => ?_)
          have hP : PP G [bX7 a G (setI (setA (setI v 2 (nI q1)) 18 F) 2 (nI q1))] H := hP
          have hD : DD (AA (List.flatten [bX7 a G v])) [bX7 a G (setI (setA (setI v 2 (nI q1)) 18 F) 2 (nI q1))] := D_re hD (adc (bX7_ad _ _ _ _) adn)
          refine lv_aload_n hx hb dX7_isItem_103 rfl (lv_at hl 4 rfl) ?_
          refine kb_get (own := RX7) (C := RX7) (T := TX7) (N := 19) (v := .ref (a 14)) hx hb hts hin7 hown hX hP 0 rfl rfl rfl 18 (by decide) rfl (by decide +kernel) rfl dX7_isItem_104 ?_
          refine lv_iload hx hb dX7_isItem_107 (lv_at hl 1 rfl) ?_
          refine lv_iload_n hx hb dX7_isItem_109 rfl (lv_at hl 0 rfl) ?_
          refine lv_if_eq (tgt := 120) hx hb dX7_isItem_110 (by decide) (fun c_110 => absurd c_110 (by decide)) (fun c_110 => ?_)
          refine lv_aload_n hx hb dX7_isItem_113 rfl (lv_at hl 4 rfl) ?_
          refine kcV_s hx hb hml hown hts hX hP hD hS (c_X7_number l G a (setI (setA (setI v 2 (nI q1)) 18 F) 2 (nI q1)) q1 len rfl hlen hl300 (by have := hfb c_45; omega)) gX7_isItem_X7_number 0 rfl rfl rfl hd_X7_number ⟨Nat.le_of_ble_eq_true rfl, Nat.le_of_ble_eq_true rfl⟩ [0] (by decide) rfl 0 rfl rfl rfl hl.1 rfl rfl (Nat.le_of_ble_eq_true rfl) dX7_isItem_114 ⟨Nat.zero_le _, Nat.zero_le _⟩ (fun r_ bc_ hq_2 H locs hP hD hS => ?_)
          obtain ⟨rfl, rfl⟩ := hq_2
          have hP : PP G [bX7 a G (setI (setI (setA (setI v 2 (nI q1)) 18 F) 2 (nI q1)) 2 (nI (g_numberP ((v.1 1)) len q1)))] H := hP
          have hD : DD (AA (List.flatten [bX7 a G v])) [bX7 a G (setI (setI (setA (setI v 2 (nI q1)) 18 F) 2 (nI q1)) 2 (nI (g_numberP ((v.1 1)) len q1)))] := D_re hD (adc (bX7_ad _ _ _ _) adn)
          refine kb_rw (y := g_numberR ((v.1 1)) len q1) rfl ?_
          refine lv_goto (tgt := 121) hx hb dX7_isItem_117 (by decide) ?_
          refine kb_iastN (jn := k) (n := 3) (f := F) hx hb hX hP hD hS 0 14 rfl rfl rfl (by omega) (by decide) dX7_isItem_121 (bX7_A18 a G (setI (setI (setA (setI v 2 (nI q1)) 18 F) 2 (nI q1)) 2 (nI (g_numberP ((v.1 1)) len q1))) (upd F k (g_numberR ((v.1 1)) len q1))) (fun H locs hP hD hS => ?_)
          have hP : PP G [bX7 a G (setA (setI (setI (setA (setI v 2 (nI q1)) 18 F) 2 (nI q1)) 2 (nI (g_numberP ((v.1 1)) len q1))) 18 (upd F k (g_numberR ((v.1 1)) len q1)))] H := hP
          have hD : DD (AA (List.flatten [bX7 a G v])) [bX7 a G (setA (setI (setI (setA (setI v 2 (nI q1)) 18 F) 2 (nI q1)) 2 (nI (g_numberP ((v.1 1)) len q1))) 18 (upd F k (g_numberR ((v.1 1)) len q1)))] := D_re hD (adc (bX7_ad _ _ _ _) adn)
          refine lv_aload_n hx hb dX7_isItem_122 rfl (lv_at hl 4 rfl) ?_
          refine kb_get (own := RX7) (C := RX7) (T := TX7) (N := 19) (v := .ref (a 14)) hx hb hts hin7 hown hX hP 0 rfl rfl rfl 18 (by decide) rfl (by decide +kernel) rfl dX7_isItem_123 ?_
          refine lv_iload hx hb dX7_isItem_126 (lv_at hl 1 rfl) ?_
          refine kb_ialdN (jn := k) (n := 3) (f := upd F k (g_numberR ((v.1 1)) len q1)) hx hb hX hP 0 14 rfl rfl rfl (by omega) (by decide) dX7_isItem_128 ?_
          refine lv_if_lt (tgt := 136) hx hb dX7_isItem_129 (by decide) (fun c_129 => ?_) (fun c_129 => ?_)
          · refine lv_iconst (v := 0) hx hb dX7_isItem_136 (by decide) ?_
            refine lv_istore_n (lv' := [(3, .int 0), (4, .int (nI k)), (2, .int (g_numbers ((v.1 1) q))), (1, .int ((v.1 1) q)), (0, .ref (a 0))]) hx hb dX7_isItem_137 rfl hl (by decide) rfl (fun ls hl => ?_)
            refine lv_iinc (v := nI (k + 1)) (lv' := [(4, .int (nI (k + 1))), (3, .int 0), (2, .int (g_numbers ((v.1 1) q))), (1, .int ((v.1 1) q)), (0, .ref (a 0))]) hx hb dX7_isItem_138 hl (k := 1) rfl (nI_1 _) (by decide) rfl (fun ls hl => ?_)
            refine lv_goto (tgt := 38) hx hb dX7_isItem_141 (by decide) ?_
            have hP : PP G [bX7 a G (setA (setI (setI (setA (setI v 2 (nI q1)) 18 F) 2 (nI q1)) 2 (nI (g_numberP ((v.1 1)) len q1))) 18 (upd F k (g_numberR ((v.1 1)) len q1)))] H := hP
            have hD : DD (AA (List.flatten [bX7 a G v])) [bX7 a G (setA (setI (setI (setA (setI v 2 (nI q1)) 18 F) 2 (nI q1)) 2 (nI (g_numberP ((v.1 1)) len q1))) 18 (upd F k (g_numberR ((v.1 1)) len q1)))] := D_re hD (adc (bX7_ad _ _ _ _) adn)
            exact ih_38 (g_numberP ((v.1 1)) len q1) false (upd F k (g_numberR ((v.1 1)) len q1)) _ _ _ hP hD hS (show lv_has ls 5 [(4, .int (nI (k + 1))), (3, .int 0), (2, .int (g_numbers ((v.1 1) q))), (1, .int ((v.1 1) q)), (0, .ref (a 0))] from lv_sub hl [0, 1, 2, 3, 4] rfl) (fun h => absurd h (by decide)) (fun h => absurd h (by decide)) (hs.trans (by rw [fuel_s hk_k]; simp only [itemGo, if_pos c_26, if_neg c_41, if_pos c_45, if_pos c_50, if_pos c_91, if_neg c_110, if_pos c_129]))
          · refine lv_iconst (v := 1) hx hb dX7_isItem_132 (by decide) ?_
            refine lv_goto (tgt := 137) hx hb dX7_isItem_133 (by decide) ?_
            refine lv_istore_n (lv' := [(3, .int 1), (4, .int (nI k)), (2, .int (g_numbers ((v.1 1) q))), (1, .int ((v.1 1) q)), (0, .ref (a 0))]) hx hb dX7_isItem_137 rfl hl (by decide) rfl (fun ls hl => ?_)
            refine lv_iinc (v := nI (k + 1)) (lv' := [(4, .int (nI (k + 1))), (3, .int 1), (2, .int (g_numbers ((v.1 1) q))), (1, .int ((v.1 1) q)), (0, .ref (a 0))]) hx hb dX7_isItem_138 hl (k := 1) rfl (nI_1 _) (by decide) rfl (fun ls hl => ?_)
            refine lv_goto (tgt := 38) hx hb dX7_isItem_141 (by decide) ?_
            have hP : PP G [bX7 a G (setA (setI (setI (setA (setI v 2 (nI q1)) 18 F) 2 (nI q1)) 2 (nI (g_numberP ((v.1 1)) len q1))) 18 (upd F k (g_numberR ((v.1 1)) len q1)))] H := hP
            have hD : DD (AA (List.flatten [bX7 a G v])) [bX7 a G (setA (setI (setI (setA (setI v 2 (nI q1)) 18 F) 2 (nI q1)) 2 (nI (g_numberP ((v.1 1)) len q1))) 18 (upd F k (g_numberR ((v.1 1)) len q1)))] := D_re hD (adc (bX7_ad _ _ _ _) adn)
            exact ih_38 (g_numberP ((v.1 1)) len q1) true (upd F k (g_numberR ((v.1 1)) len q1)) _ _ _ hP hD hS (show lv_has ls 5 [(4, .int (nI (k + 1))), (3, .int 1), (2, .int (g_numbers ((v.1 1) q))), (1, .int ((v.1 1) q)), (0, .ref (a 0))] from lv_sub hl [0, 1, 2, 3, 4] rfl) (fun _ => g_numberP_le (by have := hfb c_45; omega)) (fun _ => updF_nn (hF c_45) c_129) (hs.trans (by rw [fuel_s hk_k]; simp only [itemGo, if_pos c_26, if_neg c_41, if_pos c_45, if_pos c_50, if_pos c_91, if_neg c_110, if_neg c_129]))
        · refine lv_aload_n hx hb dX7_isItem_53 rfl (lv_at hl 4 rfl) ?_
          refine kb_get (own := RX7) (C := RX7) (T := TX7) (N := 19) (v := .int (nI q1)) hx hb hts hin7 hown hX hP 0 rfl rfl rfl 2 (by decide) rfl (by decide +kernel) rfl dX7_isItem_54 ?_
          refine lv_aload_n hx hb dX7_isItem_57 rfl (lv_at hl 4 rfl) ?_
          refine kb_get (own := RX7) (C := RX7) (T := TX7) (N := 19) (v := .int (v.2 0)) hx hb hts hin7 hown hX hP 0 rfl rfl rfl 0 (by decide) rfl (by decide +kernel) rfl dX7_isItem_58 ?_
          refine kb_rw (y := nI len) hlen ?_
          refine lv_icmp_ge (tgt := 82) hx hb dX7_isItem_61 (by decide) (fun c_61 => ?_) (fun c_61 => ?_)
          · refine lv_iconst (v := 0) hx hb dX7_isItem_82 (by decide) ?_
            refine lv_istore_n (lv' := [(3, .int 0), (4, .int (nI k)), (2, .int (g_numbers ((v.1 1) q))), (1, .int ((v.1 1) q)), (0, .ref (a 0))]) hx hb dX7_isItem_83 rfl hl (by decide) rfl (fun ls hl => ?_)
            refine lv_aload_n hx hb dX7_isItem_84 rfl (lv_at hl 4 rfl) ?_
            refine lv_dup hx hb dX7_isItem_85 rfl ?_
            refine kb_get (own := RX7) (C := RX7) (T := TX7) (N := 19) (v := .int (nI q1)) hx hb hts hin7 hown hX hP 0 rfl rfl rfl 2 (by decide) rfl (by decide +kernel) rfl dX7_isItem_86 ?_
            refine lv_iload hx hb dX7_isItem_89 (lv_at hl 1 rfl) ?_
            refine lv_if_ne (tgt := 98) hx hb dX7_isItem_91 (by decide) (fun c_91 => ?_) (fun c_91 => absurd c_91 (c_50))
            refine lv_iconst (v := 1) hx hb dX7_isItem_98 (by decide) ?_
            refine lv_iadd hx hb dX7_isItem_99 ?_
            refine kb_rw (y := nI (q1 + 1)) (nI_1 _) ?_
            refine kb_put (own := RX7) (C := RX7) (T := TX7) (N := 19) hx hb hts hin7 tyX7 tyX7_ok nmX7 (ty := .int) hown hX hP hD hS 0 rfl rfl rfl 2 (by decide) rfl (by decide +kernel) (by decide +kernel) rfl rfl (Nat.le_of_ble_eq_true rfl) dX7_isItem_100 (bX7_I2 a G (setA (setI v 2 (nI q1)) 18 F) (nI (q1 + 1))) (fun H locs hP hD hS => ?_)
            have hP : PP G [bX7 a G (setI (setA (setI v 2 (nI q1)) 18 F) 2 (nI (q1 + 1)))] H := hP
            have hD : DD (AA (List.flatten [bX7 a G v])) [bX7 a G (setI (setA (setI v 2 (nI q1)) 18 F) 2 (nI (q1 + 1)))] := D_re hD (adc (bX7_ad _ _ _ _) adn)
            refine lv_aload_n hx hb dX7_isItem_103 rfl (lv_at hl 4 rfl) ?_
            refine kb_get (own := RX7) (C := RX7) (T := TX7) (N := 19) (v := .ref (a 14)) hx hb hts hin7 hown hX hP 0 rfl rfl rfl 18 (by decide) rfl (by decide +kernel) rfl dX7_isItem_104 ?_
            refine lv_iload hx hb dX7_isItem_107 (lv_at hl 1 rfl) ?_
            refine lv_iload_n hx hb dX7_isItem_109 rfl (lv_at hl 0 rfl) ?_
            refine lv_if_eq (tgt := 120) hx hb dX7_isItem_110 (by decide) (fun c_110 => ?_) (fun c_110 => absurd (by decide) c_110)
            refine lv_iconst (v := (-1)) hx hb dX7_isItem_120 (by decide) ?_
            refine kb_iastN (jn := k) (n := 3) (f := F) hx hb hX hP hD hS 0 14 rfl rfl rfl (by omega) (by decide) dX7_isItem_121 (bX7_A18 a G (setI (setA (setI v 2 (nI q1)) 18 F) 2 (nI (q1 + 1))) (upd F k (-1))) (fun H locs hP hD hS => ?_)
            have hP : PP G [bX7 a G (setA (setI (setA (setI v 2 (nI q1)) 18 F) 2 (nI (q1 + 1))) 18 (upd F k (-1)))] H := hP
            have hD : DD (AA (List.flatten [bX7 a G v])) [bX7 a G (setA (setI (setA (setI v 2 (nI q1)) 18 F) 2 (nI (q1 + 1))) 18 (upd F k (-1)))] := D_re hD (adc (bX7_ad _ _ _ _) adn)
            refine lv_aload_n hx hb dX7_isItem_122 rfl (lv_at hl 4 rfl) ?_
            refine kb_get (own := RX7) (C := RX7) (T := TX7) (N := 19) (v := .ref (a 14)) hx hb hts hin7 hown hX hP 0 rfl rfl rfl 18 (by decide) rfl (by decide +kernel) rfl dX7_isItem_123 ?_
            refine lv_iload hx hb dX7_isItem_126 (lv_at hl 1 rfl) ?_
            refine kb_ialdN (jn := k) (n := 3) (f := upd F k (-1)) hx hb hX hP 0 14 rfl rfl rfl (by omega) (by decide) dX7_isItem_128 ?_
            refine lv_if_lt (tgt := 136) hx hb dX7_isItem_129 (by decide) (fun c_129 => ?_) (fun c_129 => ?_)
            · refine lv_iconst (v := 0) hx hb dX7_isItem_136 (by decide) ?_
              refine lv_istore_n (lv' := [(3, .int 0), (4, .int (nI k)), (2, .int (g_numbers ((v.1 1) q))), (1, .int ((v.1 1) q)), (0, .ref (a 0))]) hx hb dX7_isItem_137 rfl hl (by decide) rfl (fun ls hl => ?_)
              refine lv_iinc (v := nI (k + 1)) (lv' := [(4, .int (nI (k + 1))), (3, .int 0), (2, .int (g_numbers ((v.1 1) q))), (1, .int ((v.1 1) q)), (0, .ref (a 0))]) hx hb dX7_isItem_138 hl (k := 1) rfl (nI_1 _) (by decide) rfl (fun ls hl => ?_)
              refine lv_goto (tgt := 38) hx hb dX7_isItem_141 (by decide) ?_
              have hP : PP G [bX7 a G (setA (setI (setA (setI v 2 (nI q1)) 18 F) 2 (nI (q1 + 1))) 18 (upd F k (-1)))] H := hP
              have hD : DD (AA (List.flatten [bX7 a G v])) [bX7 a G (setA (setI (setA (setI v 2 (nI q1)) 18 F) 2 (nI (q1 + 1))) 18 (upd F k (-1)))] := D_re hD (adc (bX7_ad _ _ _ _) adn)
              exact ih_38 (q1 + 1) false (upd F k (-1)) _ _ _ hP hD hS (show lv_has ls 5 [(4, .int (nI (k + 1))), (3, .int 0), (2, .int (g_numbers ((v.1 1) q))), (1, .int ((v.1 1) q)), (0, .ref (a 0))] from lv_sub hl [0, 1, 2, 3, 4] rfl) (fun h => absurd h (by decide)) (fun h => absurd h (by decide)) (hs.trans (by rw [fuel_s hk_k]; simp only [itemGo, if_pos c_26, if_neg c_41, if_pos c_45, if_neg c_50, if_pos c_61, if_neg c_91, if_pos c_110, if_pos c_129]))
            · refine lv_iconst (v := 1) hx hb dX7_isItem_132 (by decide) ?_
              refine lv_goto (tgt := 137) hx hb dX7_isItem_133 (by decide) ?_
              refine lv_istore_n (lv' := [(3, .int 1), (4, .int (nI k)), (2, .int (g_numbers ((v.1 1) q))), (1, .int ((v.1 1) q)), (0, .ref (a 0))]) hx hb dX7_isItem_137 rfl hl (by decide) rfl (fun ls hl => ?_)
              refine lv_iinc (v := nI (k + 1)) (lv' := [(4, .int (nI (k + 1))), (3, .int 1), (2, .int (g_numbers ((v.1 1) q))), (1, .int ((v.1 1) q)), (0, .ref (a 0))]) hx hb dX7_isItem_138 hl (k := 1) rfl (nI_1 _) (by decide) rfl (fun ls hl => ?_)
              refine lv_goto (tgt := 38) hx hb dX7_isItem_141 (by decide) ?_
              have hP : PP G [bX7 a G (setA (setI (setA (setI v 2 (nI q1)) 18 F) 2 (nI (q1 + 1))) 18 (upd F k (-1)))] H := hP
              have hD : DD (AA (List.flatten [bX7 a G v])) [bX7 a G (setA (setI (setA (setI v 2 (nI q1)) 18 F) 2 (nI (q1 + 1))) 18 (upd F k (-1)))] := D_re hD (adc (bX7_ad _ _ _ _) adn)
              exact ih_38 (q1 + 1) true (upd F k (-1)) _ _ _ hP hD hS (show lv_has ls 5 [(4, .int (nI (k + 1))), (3, .int 1), (2, .int (g_numbers ((v.1 1) q))), (1, .int ((v.1 1) q)), (0, .ref (a 0))] from lv_sub hl [0, 1, 2, 3, 4] rfl) (fun _ => absurd (by rw [pk_us]; decide : (upd F k (-1)) k < 0) c_129) (fun _ => updF_nn (hF c_45) c_129) (hs.trans (by rw [fuel_s hk_k]; simp only [itemGo, if_pos c_26, if_neg c_41, if_pos c_45, if_neg c_50, if_pos c_61, if_neg c_91, if_pos c_110, if_neg c_129]))
          · have hq1 := hfb c_45
            have hplt := nI_nle_lt (by omega) c_61
            refine lv_aload_n hx hb dX7_isItem_64 rfl (lv_at hl 4 rfl) ?_
            refine kb_get (own := RX7) (C := RX7) (T := TX7) (N := 19) (v := .ref (a 1)) hx hb hts hin7 hown hX hP 0 rfl rfl rfl 1 (by decide) rfl (by decide +kernel) rfl dX7_isItem_65 ?_
            refine lv_aload_n hx hb dX7_isItem_68 rfl (lv_at hl 4 rfl) ?_
            refine kb_get (own := RX7) (C := RX7) (T := TX7) (N := 19) (v := .int (nI q1)) hx hb hts hin7 hown hX hP 0 rfl rfl rfl 2 (by decide) rfl (by decide +kernel) rfl dX7_isItem_69 ?_
            refine kb_baldN (jn := q1) (n := 300) (f := v.1 1) hx hb hX hP 0 1 rfl rfl rfl (by omega) (by decide) dX7_isItem_72 ?_
            refine lv_bipush (v := 44) hx hb dX7_isItem_73 (by decide) ?_
            refine lv_icmp_ne (tgt := 82) hx hb dX7_isItem_75 (by decide) (fun c_75 => ?_) (fun c_75 => ?_)
            · refine lv_iconst (v := 0) hx hb dX7_isItem_82 (by decide) ?_
              refine lv_istore_n (lv' := [(3, .int 0), (4, .int (nI k)), (2, .int (g_numbers ((v.1 1) q))), (1, .int ((v.1 1) q)), (0, .ref (a 0))]) hx hb dX7_isItem_83 rfl hl (by decide) rfl (fun ls hl => ?_)
              refine lv_aload_n hx hb dX7_isItem_84 rfl (lv_at hl 4 rfl) ?_
              refine lv_dup hx hb dX7_isItem_85 rfl ?_
              refine kb_get (own := RX7) (C := RX7) (T := TX7) (N := 19) (v := .int (nI q1)) hx hb hts hin7 hown hX hP 0 rfl rfl rfl 2 (by decide) rfl (by decide +kernel) rfl dX7_isItem_86 ?_
              refine lv_iload hx hb dX7_isItem_89 (lv_at hl 1 rfl) ?_
              refine lv_if_ne (tgt := 98) hx hb dX7_isItem_91 (by decide) (fun c_91 => ?_) (fun c_91 => absurd c_91 (c_50))
              refine lv_iconst (v := 1) hx hb dX7_isItem_98 (by decide) ?_
              refine lv_iadd hx hb dX7_isItem_99 ?_
              refine kb_rw (y := nI (q1 + 1)) (nI_1 _) ?_
              refine kb_put (own := RX7) (C := RX7) (T := TX7) (N := 19) hx hb hts hin7 tyX7 tyX7_ok nmX7 (ty := .int) hown hX hP hD hS 0 rfl rfl rfl 2 (by decide) rfl (by decide +kernel) (by decide +kernel) rfl rfl (Nat.le_of_ble_eq_true rfl) dX7_isItem_100 (bX7_I2 a G (setA (setI v 2 (nI q1)) 18 F) (nI (q1 + 1))) (fun H locs hP hD hS => ?_)
              have hP : PP G [bX7 a G (setI (setA (setI v 2 (nI q1)) 18 F) 2 (nI (q1 + 1)))] H := hP
              have hD : DD (AA (List.flatten [bX7 a G v])) [bX7 a G (setI (setA (setI v 2 (nI q1)) 18 F) 2 (nI (q1 + 1)))] := D_re hD (adc (bX7_ad _ _ _ _) adn)
              refine lv_aload_n hx hb dX7_isItem_103 rfl (lv_at hl 4 rfl) ?_
              refine kb_get (own := RX7) (C := RX7) (T := TX7) (N := 19) (v := .ref (a 14)) hx hb hts hin7 hown hX hP 0 rfl rfl rfl 18 (by decide) rfl (by decide +kernel) rfl dX7_isItem_104 ?_
              refine lv_iload hx hb dX7_isItem_107 (lv_at hl 1 rfl) ?_
              refine lv_iload_n hx hb dX7_isItem_109 rfl (lv_at hl 0 rfl) ?_
              refine lv_if_eq (tgt := 120) hx hb dX7_isItem_110 (by decide) (fun c_110 => ?_) (fun c_110 => absurd (by decide) c_110)
              refine lv_iconst (v := (-1)) hx hb dX7_isItem_120 (by decide) ?_
              refine kb_iastN (jn := k) (n := 3) (f := F) hx hb hX hP hD hS 0 14 rfl rfl rfl (by omega) (by decide) dX7_isItem_121 (bX7_A18 a G (setI (setA (setI v 2 (nI q1)) 18 F) 2 (nI (q1 + 1))) (upd F k (-1))) (fun H locs hP hD hS => ?_)
              have hP : PP G [bX7 a G (setA (setI (setA (setI v 2 (nI q1)) 18 F) 2 (nI (q1 + 1))) 18 (upd F k (-1)))] H := hP
              have hD : DD (AA (List.flatten [bX7 a G v])) [bX7 a G (setA (setI (setA (setI v 2 (nI q1)) 18 F) 2 (nI (q1 + 1))) 18 (upd F k (-1)))] := D_re hD (adc (bX7_ad _ _ _ _) adn)
              refine lv_aload_n hx hb dX7_isItem_122 rfl (lv_at hl 4 rfl) ?_
              refine kb_get (own := RX7) (C := RX7) (T := TX7) (N := 19) (v := .ref (a 14)) hx hb hts hin7 hown hX hP 0 rfl rfl rfl 18 (by decide) rfl (by decide +kernel) rfl dX7_isItem_123 ?_
              refine lv_iload hx hb dX7_isItem_126 (lv_at hl 1 rfl) ?_
              refine kb_ialdN (jn := k) (n := 3) (f := upd F k (-1)) hx hb hX hP 0 14 rfl rfl rfl (by omega) (by decide) dX7_isItem_128 ?_
              refine lv_if_lt (tgt := 136) hx hb dX7_isItem_129 (by decide) (fun c_129 => ?_) (fun c_129 => ?_)
              · refine lv_iconst (v := 0) hx hb dX7_isItem_136 (by decide) ?_
                refine lv_istore_n (lv' := [(3, .int 0), (4, .int (nI k)), (2, .int (g_numbers ((v.1 1) q))), (1, .int ((v.1 1) q)), (0, .ref (a 0))]) hx hb dX7_isItem_137 rfl hl (by decide) rfl (fun ls hl => ?_)
                refine lv_iinc (v := nI (k + 1)) (lv' := [(4, .int (nI (k + 1))), (3, .int 0), (2, .int (g_numbers ((v.1 1) q))), (1, .int ((v.1 1) q)), (0, .ref (a 0))]) hx hb dX7_isItem_138 hl (k := 1) rfl (nI_1 _) (by decide) rfl (fun ls hl => ?_)
                refine lv_goto (tgt := 38) hx hb dX7_isItem_141 (by decide) ?_
                have hP : PP G [bX7 a G (setA (setI (setA (setI v 2 (nI q1)) 18 F) 2 (nI (q1 + 1))) 18 (upd F k (-1)))] H := hP
                have hD : DD (AA (List.flatten [bX7 a G v])) [bX7 a G (setA (setI (setA (setI v 2 (nI q1)) 18 F) 2 (nI (q1 + 1))) 18 (upd F k (-1)))] := D_re hD (adc (bX7_ad _ _ _ _) adn)
                exact ih_38 (q1 + 1) false (upd F k (-1)) _ _ _ hP hD hS (show lv_has ls 5 [(4, .int (nI (k + 1))), (3, .int 0), (2, .int (g_numbers ((v.1 1) q))), (1, .int ((v.1 1) q)), (0, .ref (a 0))] from lv_sub hl [0, 1, 2, 3, 4] rfl) (fun h => absurd h (by decide)) (fun h => absurd h (by decide)) (hs.trans (by rw [fuel_s hk_k]; simp only [itemGo, if_pos c_26, if_neg c_41, if_pos c_45, if_neg c_50, if_neg c_61, if_neg c_75, if_neg c_91, if_pos c_110, if_pos c_129]))
              · refine lv_iconst (v := 1) hx hb dX7_isItem_132 (by decide) ?_
                refine lv_goto (tgt := 137) hx hb dX7_isItem_133 (by decide) ?_
                refine lv_istore_n (lv' := [(3, .int 1), (4, .int (nI k)), (2, .int (g_numbers ((v.1 1) q))), (1, .int ((v.1 1) q)), (0, .ref (a 0))]) hx hb dX7_isItem_137 rfl hl (by decide) rfl (fun ls hl => ?_)
                refine lv_iinc (v := nI (k + 1)) (lv' := [(4, .int (nI (k + 1))), (3, .int 1), (2, .int (g_numbers ((v.1 1) q))), (1, .int ((v.1 1) q)), (0, .ref (a 0))]) hx hb dX7_isItem_138 hl (k := 1) rfl (nI_1 _) (by decide) rfl (fun ls hl => ?_)
                refine lv_goto (tgt := 38) hx hb dX7_isItem_141 (by decide) ?_
                have hP : PP G [bX7 a G (setA (setI (setA (setI v 2 (nI q1)) 18 F) 2 (nI (q1 + 1))) 18 (upd F k (-1)))] H := hP
                have hD : DD (AA (List.flatten [bX7 a G v])) [bX7 a G (setA (setI (setA (setI v 2 (nI q1)) 18 F) 2 (nI (q1 + 1))) 18 (upd F k (-1)))] := D_re hD (adc (bX7_ad _ _ _ _) adn)
                exact ih_38 (q1 + 1) true (upd F k (-1)) _ _ _ hP hD hS (show lv_has ls 5 [(4, .int (nI (k + 1))), (3, .int 1), (2, .int (g_numbers ((v.1 1) q))), (1, .int ((v.1 1) q)), (0, .ref (a 0))] from lv_sub hl [0, 1, 2, 3, 4] rfl) (fun _ => absurd (by rw [pk_us]; decide : (upd F k (-1)) k < 0) c_129) (fun _ => updF_nn (hF c_45) c_129) (hs.trans (by rw [fuel_s hk_k]; simp only [itemGo, if_pos c_26, if_neg c_41, if_pos c_45, if_neg c_50, if_neg c_61, if_neg c_75, if_neg c_91, if_pos c_110, if_neg c_129]))
            · refine lv_iconst (v := 1) hx hb dX7_isItem_78 (by decide) ?_
              refine lv_goto (tgt := 83) hx hb dX7_isItem_79 (by decide) ?_
              refine lv_istore_n (lv' := [(3, .int 1), (4, .int (nI k)), (2, .int (g_numbers ((v.1 1) q))), (1, .int ((v.1 1) q)), (0, .ref (a 0))]) hx hb dX7_isItem_83 rfl hl (by decide) rfl (fun ls hl => ?_)
              refine lv_aload_n hx hb dX7_isItem_84 rfl (lv_at hl 4 rfl) ?_
              refine lv_dup hx hb dX7_isItem_85 rfl ?_
              refine kb_get (own := RX7) (C := RX7) (T := TX7) (N := 19) (v := .int (nI q1)) hx hb hts hin7 hown hX hP 0 rfl rfl rfl 2 (by decide) rfl (by decide +kernel) rfl dX7_isItem_86 ?_
              refine lv_iload hx hb dX7_isItem_89 (lv_at hl 1 rfl) ?_
              refine lv_if_ne (tgt := 98) hx hb dX7_isItem_91 (by decide) (fun c_91 => ?_) (fun c_91 => absurd c_91 (c_50))
              refine lv_iconst (v := 1) hx hb dX7_isItem_98 (by decide) ?_
              refine lv_iadd hx hb dX7_isItem_99 ?_
              refine kb_rw (y := nI (q1 + 1)) (nI_1 _) ?_
              refine kb_put (own := RX7) (C := RX7) (T := TX7) (N := 19) hx hb hts hin7 tyX7 tyX7_ok nmX7 (ty := .int) hown hX hP hD hS 0 rfl rfl rfl 2 (by decide) rfl (by decide +kernel) (by decide +kernel) rfl rfl (Nat.le_of_ble_eq_true rfl) dX7_isItem_100 (bX7_I2 a G (setA (setI v 2 (nI q1)) 18 F) (nI (q1 + 1))) (fun H locs hP hD hS => ?_)
              have hP : PP G [bX7 a G (setI (setA (setI v 2 (nI q1)) 18 F) 2 (nI (q1 + 1)))] H := hP
              have hD : DD (AA (List.flatten [bX7 a G v])) [bX7 a G (setI (setA (setI v 2 (nI q1)) 18 F) 2 (nI (q1 + 1)))] := D_re hD (adc (bX7_ad _ _ _ _) adn)
              refine lv_aload_n hx hb dX7_isItem_103 rfl (lv_at hl 4 rfl) ?_
              refine kb_get (own := RX7) (C := RX7) (T := TX7) (N := 19) (v := .ref (a 14)) hx hb hts hin7 hown hX hP 0 rfl rfl rfl 18 (by decide) rfl (by decide +kernel) rfl dX7_isItem_104 ?_
              refine lv_iload hx hb dX7_isItem_107 (lv_at hl 1 rfl) ?_
              refine lv_iload_n hx hb dX7_isItem_109 rfl (lv_at hl 0 rfl) ?_
              refine lv_if_eq (tgt := 120) hx hb dX7_isItem_110 (by decide) (fun c_110 => absurd c_110 (by decide)) (fun c_110 => ?_)
              refine lv_aload_n hx hb dX7_isItem_113 rfl (lv_at hl 4 rfl) ?_
              refine kcV_s hx hb hml hown hts hX hP hD hS (c_X7_number l G a (setI (setA (setI v 2 (nI q1)) 18 F) 2 (nI (q1 + 1))) (q1 + 1) len rfl hlen hl300 (by have := hfb c_45; omega)) gX7_isItem_X7_number 0 rfl rfl rfl hd_X7_number ⟨Nat.le_of_ble_eq_true rfl, Nat.le_of_ble_eq_true rfl⟩ [0] (by decide) rfl 0 rfl rfl rfl hl.1 rfl rfl (Nat.le_of_ble_eq_true rfl) dX7_isItem_114 ⟨Nat.zero_le _, Nat.zero_le _⟩ (fun r_ bc_ hq_3 H locs hP hD hS => ?_)
              obtain ⟨rfl, rfl⟩ := hq_3
              have hP : PP G [bX7 a G (setI (setI (setA (setI v 2 (nI q1)) 18 F) 2 (nI (q1 + 1))) 2 (nI (g_numberP ((v.1 1)) len (q1 + 1))))] H := hP
              have hD : DD (AA (List.flatten [bX7 a G v])) [bX7 a G (setI (setI (setA (setI v 2 (nI q1)) 18 F) 2 (nI (q1 + 1))) 2 (nI (g_numberP ((v.1 1)) len (q1 + 1))))] := D_re hD (adc (bX7_ad _ _ _ _) adn)
              refine kb_rw (y := g_numberR ((v.1 1)) len (q1 + 1)) rfl ?_
              refine lv_goto (tgt := 121) hx hb dX7_isItem_117 (by decide) ?_
              refine kb_iastN (jn := k) (n := 3) (f := F) hx hb hX hP hD hS 0 14 rfl rfl rfl (by omega) (by decide) dX7_isItem_121 (bX7_A18 a G (setI (setI (setA (setI v 2 (nI q1)) 18 F) 2 (nI (q1 + 1))) 2 (nI (g_numberP ((v.1 1)) len (q1 + 1)))) (upd F k (g_numberR ((v.1 1)) len (q1 + 1)))) (fun H locs hP hD hS => ?_)
              have hP : PP G [bX7 a G (setA (setI (setI (setA (setI v 2 (nI q1)) 18 F) 2 (nI (q1 + 1))) 2 (nI (g_numberP ((v.1 1)) len (q1 + 1)))) 18 (upd F k (g_numberR ((v.1 1)) len (q1 + 1))))] H := hP
              have hD : DD (AA (List.flatten [bX7 a G v])) [bX7 a G (setA (setI (setI (setA (setI v 2 (nI q1)) 18 F) 2 (nI (q1 + 1))) 2 (nI (g_numberP ((v.1 1)) len (q1 + 1)))) 18 (upd F k (g_numberR ((v.1 1)) len (q1 + 1))))] := D_re hD (adc (bX7_ad _ _ _ _) adn)
              refine lv_aload_n hx hb dX7_isItem_122 rfl (lv_at hl 4 rfl) ?_
              refine kb_get (own := RX7) (C := RX7) (T := TX7) (N := 19) (v := .ref (a 14)) hx hb hts hin7 hown hX hP 0 rfl rfl rfl 18 (by decide) rfl (by decide +kernel) rfl dX7_isItem_123 ?_
              refine lv_iload hx hb dX7_isItem_126 (lv_at hl 1 rfl) ?_
              refine kb_ialdN (jn := k) (n := 3) (f := upd F k (g_numberR ((v.1 1)) len (q1 + 1))) hx hb hX hP 0 14 rfl rfl rfl (by omega) (by decide) dX7_isItem_128 ?_
              refine lv_if_lt (tgt := 136) hx hb dX7_isItem_129 (by decide) (fun c_129 => ?_) (fun c_129 => ?_)
              · refine lv_iconst (v := 0) hx hb dX7_isItem_136 (by decide) ?_
                refine lv_istore_n (lv' := [(3, .int 0), (4, .int (nI k)), (2, .int (g_numbers ((v.1 1) q))), (1, .int ((v.1 1) q)), (0, .ref (a 0))]) hx hb dX7_isItem_137 rfl hl (by decide) rfl (fun ls hl => ?_)
                refine lv_iinc (v := nI (k + 1)) (lv' := [(4, .int (nI (k + 1))), (3, .int 0), (2, .int (g_numbers ((v.1 1) q))), (1, .int ((v.1 1) q)), (0, .ref (a 0))]) hx hb dX7_isItem_138 hl (k := 1) rfl (nI_1 _) (by decide) rfl (fun ls hl => ?_)
                refine lv_goto (tgt := 38) hx hb dX7_isItem_141 (by decide) ?_
                have hP : PP G [bX7 a G (setA (setI (setI (setA (setI v 2 (nI q1)) 18 F) 2 (nI (q1 + 1))) 2 (nI (g_numberP ((v.1 1)) len (q1 + 1)))) 18 (upd F k (g_numberR ((v.1 1)) len (q1 + 1))))] H := hP
                have hD : DD (AA (List.flatten [bX7 a G v])) [bX7 a G (setA (setI (setI (setA (setI v 2 (nI q1)) 18 F) 2 (nI (q1 + 1))) 2 (nI (g_numberP ((v.1 1)) len (q1 + 1)))) 18 (upd F k (g_numberR ((v.1 1)) len (q1 + 1))))] := D_re hD (adc (bX7_ad _ _ _ _) adn)
                exact ih_38 (g_numberP ((v.1 1)) len (q1 + 1)) false (upd F k (g_numberR ((v.1 1)) len (q1 + 1))) _ _ _ hP hD hS (show lv_has ls 5 [(4, .int (nI (k + 1))), (3, .int 0), (2, .int (g_numbers ((v.1 1) q))), (1, .int ((v.1 1) q)), (0, .ref (a 0))] from lv_sub hl [0, 1, 2, 3, 4] rfl) (fun h => absurd h (by decide)) (fun h => absurd h (by decide)) (hs.trans (by rw [fuel_s hk_k]; simp only [itemGo, if_pos c_26, if_neg c_41, if_pos c_45, if_neg c_50, if_neg c_61, if_pos c_75, if_neg c_91, if_neg c_110, if_pos c_129]))
              · refine lv_iconst (v := 1) hx hb dX7_isItem_132 (by decide) ?_
                refine lv_goto (tgt := 137) hx hb dX7_isItem_133 (by decide) ?_
                refine lv_istore_n (lv' := [(3, .int 1), (4, .int (nI k)), (2, .int (g_numbers ((v.1 1) q))), (1, .int ((v.1 1) q)), (0, .ref (a 0))]) hx hb dX7_isItem_137 rfl hl (by decide) rfl (fun ls hl => ?_)
                refine lv_iinc (v := nI (k + 1)) (lv' := [(4, .int (nI (k + 1))), (3, .int 1), (2, .int (g_numbers ((v.1 1) q))), (1, .int ((v.1 1) q)), (0, .ref (a 0))]) hx hb dX7_isItem_138 hl (k := 1) rfl (nI_1 _) (by decide) rfl (fun ls hl => ?_)
                refine lv_goto (tgt := 38) hx hb dX7_isItem_141 (by decide) ?_
                have hP : PP G [bX7 a G (setA (setI (setI (setA (setI v 2 (nI q1)) 18 F) 2 (nI (q1 + 1))) 2 (nI (g_numberP ((v.1 1)) len (q1 + 1)))) 18 (upd F k (g_numberR ((v.1 1)) len (q1 + 1))))] H := hP
                have hD : DD (AA (List.flatten [bX7 a G v])) [bX7 a G (setA (setI (setI (setA (setI v 2 (nI q1)) 18 F) 2 (nI (q1 + 1))) 2 (nI (g_numberP ((v.1 1)) len (q1 + 1)))) 18 (upd F k (g_numberR ((v.1 1)) len (q1 + 1))))] := D_re hD (adc (bX7_ad _ _ _ _) adn)
                exact ih_38 (g_numberP ((v.1 1)) len (q1 + 1)) true (upd F k (g_numberR ((v.1 1)) len (q1 + 1))) _ _ _ hP hD hS (show lv_has ls 5 [(4, .int (nI (k + 1))), (3, .int 1), (2, .int (g_numbers ((v.1 1) q))), (1, .int ((v.1 1) q)), (0, .ref (a 0))] from lv_sub hl [0, 1, 2, 3, 4] rfl) (fun _ => g_numberP_le (by have := hfb c_45; omega)) (fun _ => updF_nn (hF c_45) c_129) (hs.trans (by rw [fuel_s hk_k]; simp only [itemGo, if_pos c_26, if_neg c_41, if_pos c_45, if_neg c_50, if_neg c_61, if_pos c_75, if_neg c_91, if_neg c_110, if_neg c_129]))
  · refine lv_iconst (v := 1) hx hb dX7_isItem_29 (by decide) ?_
    refine lv_goto (tgt := 34) hx hb dX7_isItem_30 (by decide) ?_
    refine lv_istore_n (lv' := [(3, .int 1), (2, .int (g_numbers ((v.1 1) q))), (1, .int ((v.1 1) q)), (0, .ref (a 0))]) hx hb dX7_isItem_34 rfl hl (by decide) rfl (fun ls hl => ?_)
    refine lv_iconst (v := 0) hx hb dX7_isItem_35 (by decide) ?_
    refine lv_istore (lv' := [(4, .int 0), (3, .int 1), (2, .int (g_numbers ((v.1 1) q))), (1, .int ((v.1 1) q)), (0, .ref (a 0))]) hx hb dX7_isItem_36 hl (by decide) rfl (fun ls hl => ?_)
    refine lp_up (N := (g_numbers (v.1 1 q)).toNatClampNeg) (P := fun k => ∀ (q1 : Nat), ∀ (bb : Bool), ∀ (F : Nat → Int32), ∀ (H : Heap) (locs : List Loc) (ls : Array Slot), PP G [bX7 a G (setA (setI v 2 (nI q1)) 18 F)] H → DD (AA (List.flatten [bX7 a G v])) [bX7 a G (setA (setI v 2 (nI q1)) 18 F)] → va_S (AA (List.flatten [bX7 a G v])) s.heap H locs → lv_has ls 5 [(4, .int (nI k)), (3, .int (b2i bb)), (2, .int (g_numbers ((v.1 1) q))), (1, .int ((v.1 1) q)), (0, .ref (a 0))] → (bb = true → q1 ≤ len) → (bb = true → ∀ j, j < k → ¬ F j < 0) → (g_itemR v q len = itemGo (v.1 1) len ((g_numbers (v.1 1 q)).toNatClampNeg - k) k q1 bb F) → W p l e (headSpec wsX7_isItem rm_X7_isItem).room s m ([.ref (a 0)] : List Value).toArray below meth c H locs 0 0 (MQ below (kQs G [bX7 a G v] (fun r bc => r = some (.int (b2i (g_itemK v q len))) ∧ bc = [bX7 a G (g_itemV v q len)])) ([.ref (a 0)] : List Value).toArray s 0 0 (AA (List.flatten [bX7 a G v]))) (F0 m 38 ls [])) ?_ ?_ 0 (Nat.zero_le _) (q + 1) true (v.1 18) _ _ _ hP hD hS (lv_sub hl [0, 1, 2, 3, 4] rfl) (fun _ => by omega) (fun _ j hj => absurd hj (Nat.not_lt_zero _)) (by unfold g_itemR; rw [show isB (g_numbers (v.1 1 q)) = true by simp only [isB, if_neg c_26]]; rfl)
    · skip
      intro q1 bb F H locs ls hP hD hS hl hfb hF hs
      refine lv_iload hx hb dX7_isItem_38 (lv_at hl 0 rfl) ?_
      refine lv_iload_n hx hb dX7_isItem_40 rfl (lv_at hl 2 rfl) ?_
      refine lv_icmp_ge (tgt := 144) hx hb dX7_isItem_41 (by decide) (fun c_41 => ?_) (fun c_41 => absurd (lpx_c _) c_41)
      have hr2 : g_itemR v q len = (q1, bb, F) := hs.trans (by rw [Nat.sub_self]; rfl)
      refine lv_iload_n hx hb dX7_isItem_144 rfl (lv_at hl 1 rfl) ?_
      refine lv_if_eq (tgt := 177) hx hb dX7_isItem_145 (by decide) (fun c_145r => ?_) (fun c_145r => ?_)
      · have c_145 := b2i_fN c_145r
        refine lv_iconst (v := 0) hx hb dX7_isItem_177 (by decide) ?_
        refine lv_istore_n (lv' := [(3, .int 0), (4, .int (nI ((g_numbers (v.1 1 q)).toNatClampNeg))), (2, .int (g_numbers ((v.1 1) q))), (1, .int ((v.1 1) q)), (0, .ref (a 0))]) hx hb dX7_isItem_178 rfl hl (by decide) rfl (fun ls hl => ?_)
        refine lv_aload_n hx hb dX7_isItem_179 rfl (lv_at hl 4 rfl) ?_
        refine lv_dup hx hb dX7_isItem_180 rfl ?_
        refine kb_get (own := RX7) (C := RX7) (T := TX7) (N := 19) (v := .int (nI q1)) hx hb hts hin7 hown hX hP 0 rfl rfl rfl 2 (by decide) rfl (by decide +kernel) rfl dX7_isItem_181 ?_
        refine lv_iconst (v := 1) hx hb dX7_isItem_184 (by decide) ?_
        refine lv_iadd hx hb dX7_isItem_185 ?_
        refine kb_rw (y := nI (q1 + 1)) (nI_1 _) ?_
        refine kb_put (own := RX7) (C := RX7) (T := TX7) (N := 19) hx hb hts hin7 tyX7 tyX7_ok nmX7 (ty := .int) hown hX hP hD hS 0 rfl rfl rfl 2 (by decide) rfl (by decide +kernel) (by decide +kernel) rfl rfl (Nat.le_of_ble_eq_true rfl) dX7_isItem_186 (bX7_I2 a G (setA (setI v 2 (nI q1)) 18 F) (nI (q1 + 1))) (fun H locs hP hD hS => ?_)
        have hP : PP G [bX7 a G (setI (setA (setI v 2 (nI q1)) 18 F) 2 (nI (q1 + 1)))] H := hP
        have hD : DD (AA (List.flatten [bX7 a G v])) [bX7 a G (setI (setA (setI v 2 (nI q1)) 18 F) 2 (nI (q1 + 1)))] := D_re hD (adc (bX7_ad _ _ _ _) adn)
        refine lv_iload_n hx hb dX7_isItem_189 rfl (lv_at hl 0 rfl) ?_
        refine lv_if_eq (tgt := 205) hx hb dX7_isItem_190 (by decide) (fun c_190 => ?_) (fun c_190 => absurd (by decide) c_190)
        refine lv_iconst (v := 0) hx hb dX7_isItem_205 (by decide) ?_
        have hP : PP G [bX7 a G (g_itemV v q len)] H := by
          rw [g_itemV, hr2]
          simp only [g_itemV3, if_neg c_26, if_pos c_41, if_neg c_145, if_pos c_190]
          exact hP
        exact kr_sz hx hb hr hlocks dX7_isItem_206 rfl hP hS (sameAd_cons (bX7_ad _ _ _ _) sameAd_nil) ⟨by rw [g_itemK, hr2]; simp only [g_itemK3, if_neg c_26, if_pos c_41, if_neg c_145, if_pos c_190] <;> rfl, rfl⟩
      · have c_145 := b2i_tP c_145r
        refine lv_aload_n hx hb dX7_isItem_148 rfl (lv_at hl 4 rfl) ?_
        refine kb_get (own := RX7) (C := RX7) (T := TX7) (N := 19) (v := .int (nI q1)) hx hb hts hin7 hown hX hP 0 rfl rfl rfl 2 (by decide) rfl (by decide +kernel) rfl dX7_isItem_149 ?_
        refine lv_aload_n hx hb dX7_isItem_152 rfl (lv_at hl 4 rfl) ?_
        refine kb_get (own := RX7) (C := RX7) (T := TX7) (N := 19) (v := .int (v.2 0)) hx hb hts hin7 hown hX hP 0 rfl rfl rfl 0 (by decide) rfl (by decide +kernel) rfl dX7_isItem_153 ?_
        refine kb_rw (y := nI len) hlen ?_
        refine lv_icmp_ge (tgt := 177) hx hb dX7_isItem_156 (by decide) (fun c_156 => ?_) (fun c_156 => ?_)
        · refine lv_iconst (v := 0) hx hb dX7_isItem_177 (by decide) ?_
          refine lv_istore_n (lv' := [(3, .int 0), (4, .int (nI ((g_numbers (v.1 1 q)).toNatClampNeg))), (2, .int (g_numbers ((v.1 1) q))), (1, .int ((v.1 1) q)), (0, .ref (a 0))]) hx hb dX7_isItem_178 rfl hl (by decide) rfl (fun ls hl => ?_)
          refine lv_aload_n hx hb dX7_isItem_179 rfl (lv_at hl 4 rfl) ?_
          refine lv_dup hx hb dX7_isItem_180 rfl ?_
          refine kb_get (own := RX7) (C := RX7) (T := TX7) (N := 19) (v := .int (nI q1)) hx hb hts hin7 hown hX hP 0 rfl rfl rfl 2 (by decide) rfl (by decide +kernel) rfl dX7_isItem_181 ?_
          refine lv_iconst (v := 1) hx hb dX7_isItem_184 (by decide) ?_
          refine lv_iadd hx hb dX7_isItem_185 ?_
          refine kb_rw (y := nI (q1 + 1)) (nI_1 _) ?_
          refine kb_put (own := RX7) (C := RX7) (T := TX7) (N := 19) hx hb hts hin7 tyX7 tyX7_ok nmX7 (ty := .int) hown hX hP hD hS 0 rfl rfl rfl 2 (by decide) rfl (by decide +kernel) (by decide +kernel) rfl rfl (Nat.le_of_ble_eq_true rfl) dX7_isItem_186 (bX7_I2 a G (setA (setI v 2 (nI q1)) 18 F) (nI (q1 + 1))) (fun H locs hP hD hS => ?_)
          have hP : PP G [bX7 a G (setI (setA (setI v 2 (nI q1)) 18 F) 2 (nI (q1 + 1)))] H := hP
          have hD : DD (AA (List.flatten [bX7 a G v])) [bX7 a G (setI (setA (setI v 2 (nI q1)) 18 F) 2 (nI (q1 + 1)))] := D_re hD (adc (bX7_ad _ _ _ _) adn)
          refine lv_iload_n hx hb dX7_isItem_189 rfl (lv_at hl 0 rfl) ?_
          refine lv_if_eq (tgt := 205) hx hb dX7_isItem_190 (by decide) (fun c_190 => ?_) (fun c_190 => absurd (by decide) c_190)
          refine lv_iconst (v := 0) hx hb dX7_isItem_205 (by decide) ?_
          have hP : PP G [bX7 a G (g_itemV v q len)] H := by
            rw [g_itemV, hr2]
            simp only [g_itemV3, if_neg c_26, if_pos c_41, if_pos c_145, if_pos c_156, if_pos c_190]
            exact hP
          exact kr_sz hx hb hr hlocks dX7_isItem_206 rfl hP hS (sameAd_cons (bX7_ad _ _ _ _) sameAd_nil) ⟨by rw [g_itemK, hr2]; simp only [g_itemK3, if_neg c_26, if_pos c_41, if_pos c_145, if_pos c_156, if_pos c_190] <;> rfl, rfl⟩
        · have hq1 := hfb c_145
          have hplt2 := nI_nle_lt (by omega) c_156
          refine lv_aload_n hx hb dX7_isItem_159 rfl (lv_at hl 4 rfl) ?_
          refine kb_get (own := RX7) (C := RX7) (T := TX7) (N := 19) (v := .ref (a 1)) hx hb hts hin7 hown hX hP 0 rfl rfl rfl 1 (by decide) rfl (by decide +kernel) rfl dX7_isItem_160 ?_
          refine lv_aload_n hx hb dX7_isItem_163 rfl (lv_at hl 4 rfl) ?_
          refine kb_get (own := RX7) (C := RX7) (T := TX7) (N := 19) (v := .int (nI q1)) hx hb hts hin7 hown hX hP 0 rfl rfl rfl 2 (by decide) rfl (by decide +kernel) rfl dX7_isItem_164 ?_
          refine kb_baldN (jn := q1) (n := 300) (f := v.1 1) hx hb hX hP 0 1 rfl rfl rfl (by omega) (by decide) dX7_isItem_167 ?_
          refine lv_bipush (v := 59) hx hb dX7_isItem_168 (by decide) ?_
          refine lv_icmp_ne (tgt := 177) hx hb dX7_isItem_170 (by decide) (fun c_170 => ?_) (fun c_170 => ?_)
          · refine lv_iconst (v := 0) hx hb dX7_isItem_177 (by decide) ?_
            refine lv_istore_n (lv' := [(3, .int 0), (4, .int (nI ((g_numbers (v.1 1 q)).toNatClampNeg))), (2, .int (g_numbers ((v.1 1) q))), (1, .int ((v.1 1) q)), (0, .ref (a 0))]) hx hb dX7_isItem_178 rfl hl (by decide) rfl (fun ls hl => ?_)
            refine lv_aload_n hx hb dX7_isItem_179 rfl (lv_at hl 4 rfl) ?_
            refine lv_dup hx hb dX7_isItem_180 rfl ?_
            refine kb_get (own := RX7) (C := RX7) (T := TX7) (N := 19) (v := .int (nI q1)) hx hb hts hin7 hown hX hP 0 rfl rfl rfl 2 (by decide) rfl (by decide +kernel) rfl dX7_isItem_181 ?_
            refine lv_iconst (v := 1) hx hb dX7_isItem_184 (by decide) ?_
            refine lv_iadd hx hb dX7_isItem_185 ?_
            refine kb_rw (y := nI (q1 + 1)) (nI_1 _) ?_
            refine kb_put (own := RX7) (C := RX7) (T := TX7) (N := 19) hx hb hts hin7 tyX7 tyX7_ok nmX7 (ty := .int) hown hX hP hD hS 0 rfl rfl rfl 2 (by decide) rfl (by decide +kernel) (by decide +kernel) rfl rfl (Nat.le_of_ble_eq_true rfl) dX7_isItem_186 (bX7_I2 a G (setA (setI v 2 (nI q1)) 18 F) (nI (q1 + 1))) (fun H locs hP hD hS => ?_)
            have hP : PP G [bX7 a G (setI (setA (setI v 2 (nI q1)) 18 F) 2 (nI (q1 + 1)))] H := hP
            have hD : DD (AA (List.flatten [bX7 a G v])) [bX7 a G (setI (setA (setI v 2 (nI q1)) 18 F) 2 (nI (q1 + 1)))] := D_re hD (adc (bX7_ad _ _ _ _) adn)
            refine lv_iload_n hx hb dX7_isItem_189 rfl (lv_at hl 0 rfl) ?_
            refine lv_if_eq (tgt := 205) hx hb dX7_isItem_190 (by decide) (fun c_190 => ?_) (fun c_190 => absurd (by decide) c_190)
            refine lv_iconst (v := 0) hx hb dX7_isItem_205 (by decide) ?_
            have hP : PP G [bX7 a G (g_itemV v q len)] H := by
              rw [g_itemV, hr2]
              simp only [g_itemV3, if_neg c_26, if_pos c_41, if_pos c_145, if_neg c_156, if_neg c_170, if_pos c_190]
              exact hP
            exact kr_sz hx hb hr hlocks dX7_isItem_206 rfl hP hS (sameAd_cons (bX7_ad _ _ _ _) sameAd_nil) ⟨by rw [g_itemK, hr2]; simp only [g_itemK3, if_neg c_26, if_pos c_41, if_pos c_145, if_neg c_156, if_neg c_170, if_pos c_190] <;> rfl, rfl⟩
          · refine lv_iconst (v := 1) hx hb dX7_isItem_173 (by decide) ?_
            refine lv_goto (tgt := 178) hx hb dX7_isItem_174 (by decide) ?_
            refine lv_istore_n (lv' := [(3, .int 1), (4, .int (nI ((g_numbers (v.1 1 q)).toNatClampNeg))), (2, .int (g_numbers ((v.1 1) q))), (1, .int ((v.1 1) q)), (0, .ref (a 0))]) hx hb dX7_isItem_178 rfl hl (by decide) rfl (fun ls hl => ?_)
            refine lv_aload_n hx hb dX7_isItem_179 rfl (lv_at hl 4 rfl) ?_
            refine lv_dup hx hb dX7_isItem_180 rfl ?_
            refine kb_get (own := RX7) (C := RX7) (T := TX7) (N := 19) (v := .int (nI q1)) hx hb hts hin7 hown hX hP 0 rfl rfl rfl 2 (by decide) rfl (by decide +kernel) rfl dX7_isItem_181 ?_
            refine lv_iconst (v := 1) hx hb dX7_isItem_184 (by decide) ?_
            refine lv_iadd hx hb dX7_isItem_185 ?_
            refine kb_rw (y := nI (q1 + 1)) (nI_1 _) ?_
            refine kb_put (own := RX7) (C := RX7) (T := TX7) (N := 19) hx hb hts hin7 tyX7 tyX7_ok nmX7 (ty := .int) hown hX hP hD hS 0 rfl rfl rfl 2 (by decide) rfl (by decide +kernel) (by decide +kernel) rfl rfl (Nat.le_of_ble_eq_true rfl) dX7_isItem_186 (bX7_I2 a G (setA (setI v 2 (nI q1)) 18 F) (nI (q1 + 1))) (fun H locs hP hD hS => ?_)
            have hP : PP G [bX7 a G (setI (setA (setI v 2 (nI q1)) 18 F) 2 (nI (q1 + 1)))] H := hP
            have hD : DD (AA (List.flatten [bX7 a G v])) [bX7 a G (setI (setA (setI v 2 (nI q1)) 18 F) 2 (nI (q1 + 1)))] := D_re hD (adc (bX7_ad _ _ _ _) adn)
            refine lv_iload_n hx hb dX7_isItem_189 rfl (lv_at hl 0 rfl) ?_
            refine lv_if_eq (tgt := 205) hx hb dX7_isItem_190 (by decide) (fun c_190 => absurd c_190 (by decide)) (fun c_190 => ?_)
            have hl0 := item_l0 hr2 c_145
            have hgF : ∀ j, j < (g_numbers (v.1 1 q)).toNatClampNeg → ¬ F j < 0 := hF c_145
            refine lv_aload_n hx hb dX7_isItem_193 rfl (lv_at hl 4 rfl) ?_
            refine lv_iload_n hx hb dX7_isItem_194 rfl (lv_at hl 3 rfl) ?_
            refine kcV_s hx hb hml hown hts hX hP hD hS (c_X7_isGood l G a (setI (setA (setI v 2 (nI q1)) 18 F) 2 (nI (q1 + 1))) ((v.1 1) q) hA1 hA2 hB1 hB2 hl0 hgF) gX7_isItem_X7_isGood 1 rfl rfl rfl hd_X7_isGood ⟨Nat.le_of_ble_eq_true rfl, Nat.le_of_ble_eq_true rfl⟩ [0] (by decide) rfl 0 rfl rfl rfl hl.1 rfl rfl (Nat.le_of_ble_eq_true rfl) dX7_isItem_195 ⟨Nat.zero_le _, Nat.zero_le _⟩ (fun r_ bc_ hq_4 H locs hP hD hS => ?_)
            obtain ⟨rfl, rfl⟩ := hq_4
            have hP : PP G [bX7 a G (g_goodV (setI (setA (setI v 2 (nI q1)) 18 F) 2 (nI (q1 + 1))) ((v.1 1) q))] H := hP
            have hD : DD (AA (List.flatten [bX7 a G v])) [bX7 a G (g_goodV (setI (setA (setI v 2 (nI q1)) 18 F) 2 (nI (q1 + 1))) ((v.1 1) q))] := D_re hD (adc (bX7_ad _ _ _ _) adn)
            refine lv_if_eq (tgt := 205) hx hb dX7_isItem_198 (by decide) (fun c_198r => ?_) (fun c_198r => ?_)
            · have c_198 := b2i_fN c_198r
              refine lv_iconst (v := 0) hx hb dX7_isItem_205 (by decide) ?_
              have hP : PP G [bX7 a G (g_itemV v q len)] H := by
                rw [g_itemV, hr2]
                simp only [g_itemV3, if_neg c_26, if_pos c_41, if_pos c_145, if_neg c_156, if_pos c_170, if_neg c_190, if_neg c_198]
                exact hP
              exact kr_sz hx hb hr hlocks dX7_isItem_206 rfl hP hS (sameAd_cons (bX7_ad _ _ _ _) sameAd_nil) ⟨by rw [g_itemK, hr2]; simp only [g_itemK3, if_neg c_26, if_pos c_41, if_pos c_145, if_neg c_156, if_pos c_170, if_neg c_190, if_neg c_198] <;> rfl, rfl⟩
            · have c_198 := b2i_tP c_198r
              refine lv_iconst (v := 1) hx hb dX7_isItem_201 (by decide) ?_
              refine lv_goto (tgt := 206) hx hb dX7_isItem_202 (by decide) ?_
              have hP : PP G [bX7 a G (g_itemV v q len)] H := by
                rw [g_itemV, hr2]
                simp only [g_itemV3, if_neg c_26, if_pos c_41, if_pos c_145, if_neg c_156, if_pos c_170, if_neg c_190, if_pos c_198]
                exact hP
              exact kr_sz hx hb hr hlocks dX7_isItem_206 rfl hP hS (sameAd_cons (bX7_ad _ _ _ _) sameAd_nil) ⟨by rw [g_itemK, hr2]; simp only [g_itemK3, if_neg c_26, if_pos c_41, if_pos c_145, if_neg c_156, if_pos c_170, if_neg c_190, if_pos c_198] <;> rfl, rfl⟩
    · skip
      intro k hk_k ih_38 q1 bb F H locs ls hP hD hS hl hfb hF hs
      refine lv_iload hx hb dX7_isItem_38 (lv_at hl 0 rfl) ?_
      refine lv_iload_n hx hb dX7_isItem_40 rfl (lv_at hl 2 rfl) ?_
      refine lv_icmp_ge (tgt := 144) hx hb dX7_isItem_41 (by decide) (fun c_41 => absurd c_41 (lps_c hk_k)) (fun c_41 => ?_)
      refine lv_iload_n hx hb dX7_isItem_44 rfl (lv_at hl 1 rfl) ?_
      refine lv_if_eq (tgt := 144) hx hb dX7_isItem_45 (by decide) (fun c_45r => ?_) (fun c_45r => ?_)
      · have c_45 := b2i_fN c_45r
        have hr2 : g_itemR v q len = (q1, bb, F) := hs.trans (by rw [fuel_s hk_k]; simp only [itemGo, if_neg c_26, if_neg c_41, if_neg c_45])
        refine lv_iload_n hx hb dX7_isItem_144 rfl (lv_at hl 1 rfl) ?_
        refine lv_if_eq (tgt := 177) hx hb dX7_isItem_145 (by decide) (fun c_145r => ?_) (fun c_145r => absurd (c_45r) c_145r)
        have c_145 := b2i_fN c_145r
        refine lv_iconst (v := 0) hx hb dX7_isItem_177 (by decide) ?_
        refine lv_istore_n (lv' := [(3, .int 0), (4, .int (nI k)), (2, .int (g_numbers ((v.1 1) q))), (1, .int ((v.1 1) q)), (0, .ref (a 0))]) hx hb dX7_isItem_178 rfl hl (by decide) rfl (fun ls hl => ?_)
        refine lv_aload_n hx hb dX7_isItem_179 rfl (lv_at hl 4 rfl) ?_
        refine lv_dup hx hb dX7_isItem_180 rfl ?_
        refine kb_get (own := RX7) (C := RX7) (T := TX7) (N := 19) (v := .int (nI q1)) hx hb hts hin7 hown hX hP 0 rfl rfl rfl 2 (by decide) rfl (by decide +kernel) rfl dX7_isItem_181 ?_
        refine lv_iconst (v := 1) hx hb dX7_isItem_184 (by decide) ?_
        refine lv_iadd hx hb dX7_isItem_185 ?_
        refine kb_rw (y := nI (q1 + 1)) (nI_1 _) ?_
        refine kb_put (own := RX7) (C := RX7) (T := TX7) (N := 19) hx hb hts hin7 tyX7 tyX7_ok nmX7 (ty := .int) hown hX hP hD hS 0 rfl rfl rfl 2 (by decide) rfl (by decide +kernel) (by decide +kernel) rfl rfl (Nat.le_of_ble_eq_true rfl) dX7_isItem_186 (bX7_I2 a G (setA (setI v 2 (nI q1)) 18 F) (nI (q1 + 1))) (fun H locs hP hD hS => ?_)
        have hP : PP G [bX7 a G (setI (setA (setI v 2 (nI q1)) 18 F) 2 (nI (q1 + 1)))] H := hP
        have hD : DD (AA (List.flatten [bX7 a G v])) [bX7 a G (setI (setA (setI v 2 (nI q1)) 18 F) 2 (nI (q1 + 1)))] := D_re hD (adc (bX7_ad _ _ _ _) adn)
        refine lv_iload_n hx hb dX7_isItem_189 rfl (lv_at hl 0 rfl) ?_
        refine lv_if_eq (tgt := 205) hx hb dX7_isItem_190 (by decide) (fun c_190 => ?_) (fun c_190 => absurd (by decide) c_190)
        refine lv_iconst (v := 0) hx hb dX7_isItem_205 (by decide) ?_
        have hP : PP G [bX7 a G (g_itemV v q len)] H := by
          rw [g_itemV, hr2]
          simp only [g_itemV3, if_neg c_26, if_neg c_41, if_neg c_45, if_neg c_145, if_pos c_190]
          exact hP
        exact kr_sz hx hb hr hlocks dX7_isItem_206 rfl hP hS (sameAd_cons (bX7_ad _ _ _ _) sameAd_nil) ⟨by rw [g_itemK, hr2]; simp only [g_itemK3, if_neg c_26, if_neg c_41, if_neg c_45, if_neg c_145, if_pos c_190] <;> rfl, rfl⟩
      · have c_45 := b2i_tP c_45r
        refine lv_iload hx hb dX7_isItem_48 (lv_at hl 0 rfl) ?_
        refine lv_if_eq (tgt := 78) hx hb dX7_isItem_50 (by decide) (fun c_50 => ?_) (fun c_50 => ?_)
        · refine lv_iconst (v := 1) hx hb dX7_isItem_78 (by decide) ?_
          refine lv_goto (tgt := 83) hx hb dX7_isItem_79 (by decide) ?_
          refine lv_istore_n (lv' := [(3, .int 1), (4, .int (nI k)), (2, .int (g_numbers ((v.1 1) q))), (1, .int ((v.1 1) q)), (0, .ref (a 0))]) hx hb dX7_isItem_83 rfl hl (by decide) rfl (fun ls hl => ?_)
          refine lv_aload_n hx hb dX7_isItem_84 rfl (lv_at hl 4 rfl) ?_
          refine lv_dup hx hb dX7_isItem_85 rfl ?_
          refine kb_get (own := RX7) (C := RX7) (T := TX7) (N := 19) (v := .int (nI q1)) hx hb hts hin7 hown hX hP 0 rfl rfl rfl 2 (by decide) rfl (by decide +kernel) rfl dX7_isItem_86 ?_
          refine lv_iload hx hb dX7_isItem_89 (lv_at hl 1 rfl) ?_
          refine lv_if_ne (tgt := 98) hx hb dX7_isItem_91 (by decide) (fun c_91 => absurd (c_50) c_91) (fun c_91 => ?_)
          refine lv_iconst (v := 0) hx hb dX7_isItem_94 (by decide) ?_
          refine lv_goto (tgt := 99) hx hb dX7_isItem_95 (by decide) ?_
          refine lv_iadd hx hb dX7_isItem_99 ?_
          refine kb_rw (y := nI q1) (Int32.add_zero _) ?_
          refine kb_put (own := RX7) (C := RX7) (T := TX7) (N := 19) hx hb hts hin7 tyX7 tyX7_ok nmX7 (ty := .int) hown hX hP hD hS 0 rfl rfl rfl 2 (by decide) rfl (by decide +kernel) (by decide +kernel) rfl rfl (Nat.le_of_ble_eq_true rfl) dX7_isItem_100 (bX7_I2 a G (setA (setI v 2 (nI q1)) 18 F) (nI q1)) (fun H locs hP hD hS => ?_)
          have hP : PP G [bX7 a G (setI (setA (setI v 2 (nI q1)) 18 F) 2 (nI q1))] H := hP
          have hD : DD (AA (List.flatten [bX7 a G v])) [bX7 a G (setI (setA (setI v 2 (nI q1)) 18 F) 2 (nI q1))] := D_re hD (adc (bX7_ad _ _ _ _) adn)
          refine lv_aload_n hx hb dX7_isItem_103 rfl (lv_at hl 4 rfl) ?_
          refine kb_get (own := RX7) (C := RX7) (T := TX7) (N := 19) (v := .ref (a 14)) hx hb hts hin7 hown hX hP 0 rfl rfl rfl 18 (by decide) rfl (by decide +kernel) rfl dX7_isItem_104 ?_
          refine lv_iload hx hb dX7_isItem_107 (lv_at hl 1 rfl) ?_
          refine lv_iload_n hx hb dX7_isItem_109 rfl (lv_at hl 0 rfl) ?_
          refine lv_if_eq (tgt := 120) hx hb dX7_isItem_110 (by decide) (fun c_110 => absurd c_110 (by decide)) (fun c_110 => ?_)
          refine lv_aload_n hx hb dX7_isItem_113 rfl (lv_at hl 4 rfl) ?_
          refine kcV_s hx hb hml hown hts hX hP hD hS (c_X7_number l G a (setI (setA (setI v 2 (nI q1)) 18 F) 2 (nI q1)) q1 len rfl hlen hl300 (by have := hfb c_45; omega)) gX7_isItem_X7_number 0 rfl rfl rfl hd_X7_number ⟨Nat.le_of_ble_eq_true rfl, Nat.le_of_ble_eq_true rfl⟩ [0] (by decide) rfl 0 rfl rfl rfl hl.1 rfl rfl (Nat.le_of_ble_eq_true rfl) dX7_isItem_114 ⟨Nat.zero_le _, Nat.zero_le _⟩ (fun r_ bc_ hq_5 H locs hP hD hS => ?_)
          obtain ⟨rfl, rfl⟩ := hq_5
          have hP : PP G [bX7 a G (setI (setI (setA (setI v 2 (nI q1)) 18 F) 2 (nI q1)) 2 (nI (g_numberP ((v.1 1)) len q1)))] H := hP
          have hD : DD (AA (List.flatten [bX7 a G v])) [bX7 a G (setI (setI (setA (setI v 2 (nI q1)) 18 F) 2 (nI q1)) 2 (nI (g_numberP ((v.1 1)) len q1)))] := D_re hD (adc (bX7_ad _ _ _ _) adn)
          refine kb_rw (y := g_numberR ((v.1 1)) len q1) rfl ?_
          refine lv_goto (tgt := 121) hx hb dX7_isItem_117 (by decide) ?_
          refine kb_iastN (jn := k) (n := 3) (f := F) hx hb hX hP hD hS 0 14 rfl rfl rfl (by omega) (by decide) dX7_isItem_121 (bX7_A18 a G (setI (setI (setA (setI v 2 (nI q1)) 18 F) 2 (nI q1)) 2 (nI (g_numberP ((v.1 1)) len q1))) (upd F k (g_numberR ((v.1 1)) len q1))) (fun H locs hP hD hS => ?_)
          have hP : PP G [bX7 a G (setA (setI (setI (setA (setI v 2 (nI q1)) 18 F) 2 (nI q1)) 2 (nI (g_numberP ((v.1 1)) len q1))) 18 (upd F k (g_numberR ((v.1 1)) len q1)))] H := hP
          have hD : DD (AA (List.flatten [bX7 a G v])) [bX7 a G (setA (setI (setI (setA (setI v 2 (nI q1)) 18 F) 2 (nI q1)) 2 (nI (g_numberP ((v.1 1)) len q1))) 18 (upd F k (g_numberR ((v.1 1)) len q1)))] := D_re hD (adc (bX7_ad _ _ _ _) adn)
          refine lv_aload_n hx hb dX7_isItem_122 rfl (lv_at hl 4 rfl) ?_
          refine kb_get (own := RX7) (C := RX7) (T := TX7) (N := 19) (v := .ref (a 14)) hx hb hts hin7 hown hX hP 0 rfl rfl rfl 18 (by decide) rfl (by decide +kernel) rfl dX7_isItem_123 ?_
          refine lv_iload hx hb dX7_isItem_126 (lv_at hl 1 rfl) ?_
          refine kb_ialdN (jn := k) (n := 3) (f := upd F k (g_numberR ((v.1 1)) len q1)) hx hb hX hP 0 14 rfl rfl rfl (by omega) (by decide) dX7_isItem_128 ?_
          refine lv_if_lt (tgt := 136) hx hb dX7_isItem_129 (by decide) (fun c_129 => ?_) (fun c_129 => ?_)
          · refine lv_iconst (v := 0) hx hb dX7_isItem_136 (by decide) ?_
            refine lv_istore_n (lv' := [(3, .int 0), (4, .int (nI k)), (2, .int (g_numbers ((v.1 1) q))), (1, .int ((v.1 1) q)), (0, .ref (a 0))]) hx hb dX7_isItem_137 rfl hl (by decide) rfl (fun ls hl => ?_)
            refine lv_iinc (v := nI (k + 1)) (lv' := [(4, .int (nI (k + 1))), (3, .int 0), (2, .int (g_numbers ((v.1 1) q))), (1, .int ((v.1 1) q)), (0, .ref (a 0))]) hx hb dX7_isItem_138 hl (k := 1) rfl (nI_1 _) (by decide) rfl (fun ls hl => ?_)
            refine lv_goto (tgt := 38) hx hb dX7_isItem_141 (by decide) ?_
            have hP : PP G [bX7 a G (setA (setI (setI (setA (setI v 2 (nI q1)) 18 F) 2 (nI q1)) 2 (nI (g_numberP ((v.1 1)) len q1))) 18 (upd F k (g_numberR ((v.1 1)) len q1)))] H := hP
            have hD : DD (AA (List.flatten [bX7 a G v])) [bX7 a G (setA (setI (setI (setA (setI v 2 (nI q1)) 18 F) 2 (nI q1)) 2 (nI (g_numberP ((v.1 1)) len q1))) 18 (upd F k (g_numberR ((v.1 1)) len q1)))] := D_re hD (adc (bX7_ad _ _ _ _) adn)
            exact ih_38 (g_numberP ((v.1 1)) len q1) false (upd F k (g_numberR ((v.1 1)) len q1)) _ _ _ hP hD hS (show lv_has ls 5 [(4, .int (nI (k + 1))), (3, .int 0), (2, .int (g_numbers ((v.1 1) q))), (1, .int ((v.1 1) q)), (0, .ref (a 0))] from lv_sub hl [0, 1, 2, 3, 4] rfl) (fun h => absurd h (by decide)) (fun h => absurd h (by decide)) (hs.trans (by rw [fuel_s hk_k]; simp only [itemGo, if_neg c_26, if_neg c_41, if_pos c_45, if_pos c_50, if_pos c_91, if_neg c_110, if_pos c_129]))
          · refine lv_iconst (v := 1) hx hb dX7_isItem_132 (by decide) ?_
            refine lv_goto (tgt := 137) hx hb dX7_isItem_133 (by decide) ?_
            refine lv_istore_n (lv' := [(3, .int 1), (4, .int (nI k)), (2, .int (g_numbers ((v.1 1) q))), (1, .int ((v.1 1) q)), (0, .ref (a 0))]) hx hb dX7_isItem_137 rfl hl (by decide) rfl (fun ls hl => ?_)
            refine lv_iinc (v := nI (k + 1)) (lv' := [(4, .int (nI (k + 1))), (3, .int 1), (2, .int (g_numbers ((v.1 1) q))), (1, .int ((v.1 1) q)), (0, .ref (a 0))]) hx hb dX7_isItem_138 hl (k := 1) rfl (nI_1 _) (by decide) rfl (fun ls hl => ?_)
            refine lv_goto (tgt := 38) hx hb dX7_isItem_141 (by decide) ?_
            have hP : PP G [bX7 a G (setA (setI (setI (setA (setI v 2 (nI q1)) 18 F) 2 (nI q1)) 2 (nI (g_numberP ((v.1 1)) len q1))) 18 (upd F k (g_numberR ((v.1 1)) len q1)))] H := hP
            have hD : DD (AA (List.flatten [bX7 a G v])) [bX7 a G (setA (setI (setI (setA (setI v 2 (nI q1)) 18 F) 2 (nI q1)) 2 (nI (g_numberP ((v.1 1)) len q1))) 18 (upd F k (g_numberR ((v.1 1)) len q1)))] := D_re hD (adc (bX7_ad _ _ _ _) adn)
            exact ih_38 (g_numberP ((v.1 1)) len q1) true (upd F k (g_numberR ((v.1 1)) len q1)) _ _ _ hP hD hS (show lv_has ls 5 [(4, .int (nI (k + 1))), (3, .int 1), (2, .int (g_numbers ((v.1 1) q))), (1, .int ((v.1 1) q)), (0, .ref (a 0))] from lv_sub hl [0, 1, 2, 3, 4] rfl) (fun _ => g_numberP_le (by have := hfb c_45; omega)) (fun _ => updF_nn (hF c_45) c_129) (hs.trans (by rw [fuel_s hk_k]; simp only [itemGo, if_neg c_26, if_neg c_41, if_pos c_45, if_pos c_50, if_pos c_91, if_neg c_110, if_neg c_129]))
        · refine lv_aload_n hx hb dX7_isItem_53 rfl (lv_at hl 4 rfl) ?_
          refine kb_get (own := RX7) (C := RX7) (T := TX7) (N := 19) (v := .int (nI q1)) hx hb hts hin7 hown hX hP 0 rfl rfl rfl 2 (by decide) rfl (by decide +kernel) rfl dX7_isItem_54 ?_
          refine lv_aload_n hx hb dX7_isItem_57 rfl (lv_at hl 4 rfl) ?_
          refine kb_get (own := RX7) (C := RX7) (T := TX7) (N := 19) (v := .int (v.2 0)) hx hb hts hin7 hown hX hP 0 rfl rfl rfl 0 (by decide) rfl (by decide +kernel) rfl dX7_isItem_58 ?_
          refine kb_rw (y := nI len) hlen ?_
          refine lv_icmp_ge (tgt := 82) hx hb dX7_isItem_61 (by decide) (fun c_61 => ?_) (fun c_61 => ?_)
          · refine lv_iconst (v := 0) hx hb dX7_isItem_82 (by decide) ?_
            refine lv_istore_n (lv' := [(3, .int 0), (4, .int (nI k)), (2, .int (g_numbers ((v.1 1) q))), (1, .int ((v.1 1) q)), (0, .ref (a 0))]) hx hb dX7_isItem_83 rfl hl (by decide) rfl (fun ls hl => ?_)
            refine lv_aload_n hx hb dX7_isItem_84 rfl (lv_at hl 4 rfl) ?_
            refine lv_dup hx hb dX7_isItem_85 rfl ?_
            refine kb_get (own := RX7) (C := RX7) (T := TX7) (N := 19) (v := .int (nI q1)) hx hb hts hin7 hown hX hP 0 rfl rfl rfl 2 (by decide) rfl (by decide +kernel) rfl dX7_isItem_86 ?_
            refine lv_iload hx hb dX7_isItem_89 (lv_at hl 1 rfl) ?_
            refine lv_if_ne (tgt := 98) hx hb dX7_isItem_91 (by decide) (fun c_91 => ?_) (fun c_91 => absurd c_91 (c_50))
            refine lv_iconst (v := 1) hx hb dX7_isItem_98 (by decide) ?_
            refine lv_iadd hx hb dX7_isItem_99 ?_
            refine kb_rw (y := nI (q1 + 1)) (nI_1 _) ?_
            refine kb_put (own := RX7) (C := RX7) (T := TX7) (N := 19) hx hb hts hin7 tyX7 tyX7_ok nmX7 (ty := .int) hown hX hP hD hS 0 rfl rfl rfl 2 (by decide) rfl (by decide +kernel) (by decide +kernel) rfl rfl (Nat.le_of_ble_eq_true rfl) dX7_isItem_100 (bX7_I2 a G (setA (setI v 2 (nI q1)) 18 F) (nI (q1 + 1))) (fun H locs hP hD hS => ?_)
            have hP : PP G [bX7 a G (setI (setA (setI v 2 (nI q1)) 18 F) 2 (nI (q1 + 1)))] H := hP
            have hD : DD (AA (List.flatten [bX7 a G v])) [bX7 a G (setI (setA (setI v 2 (nI q1)) 18 F) 2 (nI (q1 + 1)))] := D_re hD (adc (bX7_ad _ _ _ _) adn)
            refine lv_aload_n hx hb dX7_isItem_103 rfl (lv_at hl 4 rfl) ?_
            refine kb_get (own := RX7) (C := RX7) (T := TX7) (N := 19) (v := .ref (a 14)) hx hb hts hin7 hown hX hP 0 rfl rfl rfl 18 (by decide) rfl (by decide +kernel) rfl dX7_isItem_104 ?_
            refine lv_iload hx hb dX7_isItem_107 (lv_at hl 1 rfl) ?_
            refine lv_iload_n hx hb dX7_isItem_109 rfl (lv_at hl 0 rfl) ?_
            refine lv_if_eq (tgt := 120) hx hb dX7_isItem_110 (by decide) (fun c_110 => ?_) (fun c_110 => absurd (by decide) c_110)
            refine lv_iconst (v := (-1)) hx hb dX7_isItem_120 (by decide) ?_
            refine kb_iastN (jn := k) (n := 3) (f := F) hx hb hX hP hD hS 0 14 rfl rfl rfl (by omega) (by decide) dX7_isItem_121 (bX7_A18 a G (setI (setA (setI v 2 (nI q1)) 18 F) 2 (nI (q1 + 1))) (upd F k (-1))) (fun H locs hP hD hS => ?_)
            have hP : PP G [bX7 a G (setA (setI (setA (setI v 2 (nI q1)) 18 F) 2 (nI (q1 + 1))) 18 (upd F k (-1)))] H := hP
            have hD : DD (AA (List.flatten [bX7 a G v])) [bX7 a G (setA (setI (setA (setI v 2 (nI q1)) 18 F) 2 (nI (q1 + 1))) 18 (upd F k (-1)))] := D_re hD (adc (bX7_ad _ _ _ _) adn)
            refine lv_aload_n hx hb dX7_isItem_122 rfl (lv_at hl 4 rfl) ?_
            refine kb_get (own := RX7) (C := RX7) (T := TX7) (N := 19) (v := .ref (a 14)) hx hb hts hin7 hown hX hP 0 rfl rfl rfl 18 (by decide) rfl (by decide +kernel) rfl dX7_isItem_123 ?_
            refine lv_iload hx hb dX7_isItem_126 (lv_at hl 1 rfl) ?_
            refine kb_ialdN (jn := k) (n := 3) (f := upd F k (-1)) hx hb hX hP 0 14 rfl rfl rfl (by omega) (by decide) dX7_isItem_128 ?_
            refine lv_if_lt (tgt := 136) hx hb dX7_isItem_129 (by decide) (fun c_129 => ?_) (fun c_129 => ?_)
            · refine lv_iconst (v := 0) hx hb dX7_isItem_136 (by decide) ?_
              refine lv_istore_n (lv' := [(3, .int 0), (4, .int (nI k)), (2, .int (g_numbers ((v.1 1) q))), (1, .int ((v.1 1) q)), (0, .ref (a 0))]) hx hb dX7_isItem_137 rfl hl (by decide) rfl (fun ls hl => ?_)
              refine lv_iinc (v := nI (k + 1)) (lv' := [(4, .int (nI (k + 1))), (3, .int 0), (2, .int (g_numbers ((v.1 1) q))), (1, .int ((v.1 1) q)), (0, .ref (a 0))]) hx hb dX7_isItem_138 hl (k := 1) rfl (nI_1 _) (by decide) rfl (fun ls hl => ?_)
              refine lv_goto (tgt := 38) hx hb dX7_isItem_141 (by decide) ?_
              have hP : PP G [bX7 a G (setA (setI (setA (setI v 2 (nI q1)) 18 F) 2 (nI (q1 + 1))) 18 (upd F k (-1)))] H := hP
              have hD : DD (AA (List.flatten [bX7 a G v])) [bX7 a G (setA (setI (setA (setI v 2 (nI q1)) 18 F) 2 (nI (q1 + 1))) 18 (upd F k (-1)))] := D_re hD (adc (bX7_ad _ _ _ _) adn)
              exact ih_38 (q1 + 1) false (upd F k (-1)) _ _ _ hP hD hS (show lv_has ls 5 [(4, .int (nI (k + 1))), (3, .int 0), (2, .int (g_numbers ((v.1 1) q))), (1, .int ((v.1 1) q)), (0, .ref (a 0))] from lv_sub hl [0, 1, 2, 3, 4] rfl) (fun h => absurd h (by decide)) (fun h => absurd h (by decide)) (hs.trans (by rw [fuel_s hk_k]; simp only [itemGo, if_neg c_26, if_neg c_41, if_pos c_45, if_neg c_50, if_pos c_61, if_neg c_91, if_pos c_110, if_pos c_129]))
            · refine lv_iconst (v := 1) hx hb dX7_isItem_132 (by decide) ?_
              refine lv_goto (tgt := 137) hx hb dX7_isItem_133 (by decide) ?_
              refine lv_istore_n (lv' := [(3, .int 1), (4, .int (nI k)), (2, .int (g_numbers ((v.1 1) q))), (1, .int ((v.1 1) q)), (0, .ref (a 0))]) hx hb dX7_isItem_137 rfl hl (by decide) rfl (fun ls hl => ?_)
              refine lv_iinc (v := nI (k + 1)) (lv' := [(4, .int (nI (k + 1))), (3, .int 1), (2, .int (g_numbers ((v.1 1) q))), (1, .int ((v.1 1) q)), (0, .ref (a 0))]) hx hb dX7_isItem_138 hl (k := 1) rfl (nI_1 _) (by decide) rfl (fun ls hl => ?_)
              refine lv_goto (tgt := 38) hx hb dX7_isItem_141 (by decide) ?_
              have hP : PP G [bX7 a G (setA (setI (setA (setI v 2 (nI q1)) 18 F) 2 (nI (q1 + 1))) 18 (upd F k (-1)))] H := hP
              have hD : DD (AA (List.flatten [bX7 a G v])) [bX7 a G (setA (setI (setA (setI v 2 (nI q1)) 18 F) 2 (nI (q1 + 1))) 18 (upd F k (-1)))] := D_re hD (adc (bX7_ad _ _ _ _) adn)
              exact ih_38 (q1 + 1) true (upd F k (-1)) _ _ _ hP hD hS (show lv_has ls 5 [(4, .int (nI (k + 1))), (3, .int 1), (2, .int (g_numbers ((v.1 1) q))), (1, .int ((v.1 1) q)), (0, .ref (a 0))] from lv_sub hl [0, 1, 2, 3, 4] rfl) (fun _ => absurd (by rw [pk_us]; decide : (upd F k (-1)) k < 0) c_129) (fun _ => updF_nn (hF c_45) c_129) (hs.trans (by rw [fuel_s hk_k]; simp only [itemGo, if_neg c_26, if_neg c_41, if_pos c_45, if_neg c_50, if_pos c_61, if_neg c_91, if_pos c_110, if_neg c_129]))
          · have hq1 := hfb c_45
            have hplt := nI_nle_lt (by omega) c_61
            refine lv_aload_n hx hb dX7_isItem_64 rfl (lv_at hl 4 rfl) ?_
            refine kb_get (own := RX7) (C := RX7) (T := TX7) (N := 19) (v := .ref (a 1)) hx hb hts hin7 hown hX hP 0 rfl rfl rfl 1 (by decide) rfl (by decide +kernel) rfl dX7_isItem_65 ?_
            refine lv_aload_n hx hb dX7_isItem_68 rfl (lv_at hl 4 rfl) ?_
            refine kb_get (own := RX7) (C := RX7) (T := TX7) (N := 19) (v := .int (nI q1)) hx hb hts hin7 hown hX hP 0 rfl rfl rfl 2 (by decide) rfl (by decide +kernel) rfl dX7_isItem_69 ?_
            refine kb_baldN (jn := q1) (n := 300) (f := v.1 1) hx hb hX hP 0 1 rfl rfl rfl (by omega) (by decide) dX7_isItem_72 ?_
            refine lv_bipush (v := 44) hx hb dX7_isItem_73 (by decide) ?_
            refine lv_icmp_ne (tgt := 82) hx hb dX7_isItem_75 (by decide) (fun c_75 => ?_) (fun c_75 => ?_)
            · refine lv_iconst (v := 0) hx hb dX7_isItem_82 (by decide) ?_
              refine lv_istore_n (lv' := [(3, .int 0), (4, .int (nI k)), (2, .int (g_numbers ((v.1 1) q))), (1, .int ((v.1 1) q)), (0, .ref (a 0))]) hx hb dX7_isItem_83 rfl hl (by decide) rfl (fun ls hl => ?_)
              refine lv_aload_n hx hb dX7_isItem_84 rfl (lv_at hl 4 rfl) ?_
              refine lv_dup hx hb dX7_isItem_85 rfl ?_
              refine kb_get (own := RX7) (C := RX7) (T := TX7) (N := 19) (v := .int (nI q1)) hx hb hts hin7 hown hX hP 0 rfl rfl rfl 2 (by decide) rfl (by decide +kernel) rfl dX7_isItem_86 ?_
              refine lv_iload hx hb dX7_isItem_89 (lv_at hl 1 rfl) ?_
              refine lv_if_ne (tgt := 98) hx hb dX7_isItem_91 (by decide) (fun c_91 => ?_) (fun c_91 => absurd c_91 (c_50))
              refine lv_iconst (v := 1) hx hb dX7_isItem_98 (by decide) ?_
              refine lv_iadd hx hb dX7_isItem_99 ?_
              refine kb_rw (y := nI (q1 + 1)) (nI_1 _) ?_
              refine kb_put (own := RX7) (C := RX7) (T := TX7) (N := 19) hx hb hts hin7 tyX7 tyX7_ok nmX7 (ty := .int) hown hX hP hD hS 0 rfl rfl rfl 2 (by decide) rfl (by decide +kernel) (by decide +kernel) rfl rfl (Nat.le_of_ble_eq_true rfl) dX7_isItem_100 (bX7_I2 a G (setA (setI v 2 (nI q1)) 18 F) (nI (q1 + 1))) (fun H locs hP hD hS => ?_)
              have hP : PP G [bX7 a G (setI (setA (setI v 2 (nI q1)) 18 F) 2 (nI (q1 + 1)))] H := hP
              have hD : DD (AA (List.flatten [bX7 a G v])) [bX7 a G (setI (setA (setI v 2 (nI q1)) 18 F) 2 (nI (q1 + 1)))] := D_re hD (adc (bX7_ad _ _ _ _) adn)
              refine lv_aload_n hx hb dX7_isItem_103 rfl (lv_at hl 4 rfl) ?_
              refine kb_get (own := RX7) (C := RX7) (T := TX7) (N := 19) (v := .ref (a 14)) hx hb hts hin7 hown hX hP 0 rfl rfl rfl 18 (by decide) rfl (by decide +kernel) rfl dX7_isItem_104 ?_
              refine lv_iload hx hb dX7_isItem_107 (lv_at hl 1 rfl) ?_
              refine lv_iload_n hx hb dX7_isItem_109 rfl (lv_at hl 0 rfl) ?_
              refine lv_if_eq (tgt := 120) hx hb dX7_isItem_110 (by decide) (fun c_110 => ?_) (fun c_110 => absurd (by decide) c_110)
              refine lv_iconst (v := (-1)) hx hb dX7_isItem_120 (by decide) ?_
              refine kb_iastN (jn := k) (n := 3) (f := F) hx hb hX hP hD hS 0 14 rfl rfl rfl (by omega) (by decide) dX7_isItem_121 (bX7_A18 a G (setI (setA (setI v 2 (nI q1)) 18 F) 2 (nI (q1 + 1))) (upd F k (-1))) (fun H locs hP hD hS => ?_)
              have hP : PP G [bX7 a G (setA (setI (setA (setI v 2 (nI q1)) 18 F) 2 (nI (q1 + 1))) 18 (upd F k (-1)))] H := hP
              have hD : DD (AA (List.flatten [bX7 a G v])) [bX7 a G (setA (setI (setA (setI v 2 (nI q1)) 18 F) 2 (nI (q1 + 1))) 18 (upd F k (-1)))] := D_re hD (adc (bX7_ad _ _ _ _) adn)
              refine lv_aload_n hx hb dX7_isItem_122 rfl (lv_at hl 4 rfl) ?_
              refine kb_get (own := RX7) (C := RX7) (T := TX7) (N := 19) (v := .ref (a 14)) hx hb hts hin7 hown hX hP 0 rfl rfl rfl 18 (by decide) rfl (by decide +kernel) rfl dX7_isItem_123 ?_
              refine lv_iload hx hb dX7_isItem_126 (lv_at hl 1 rfl) ?_
              refine kb_ialdN (jn := k) (n := 3) (f := upd F k (-1)) hx hb hX hP 0 14 rfl rfl rfl (by omega) (by decide) dX7_isItem_128 ?_
              refine lv_if_lt (tgt := 136) hx hb dX7_isItem_129 (by decide) (fun c_129 => ?_) (fun c_129 => ?_)
              · refine lv_iconst (v := 0) hx hb dX7_isItem_136 (by decide) ?_
                refine lv_istore_n (lv' := [(3, .int 0), (4, .int (nI k)), (2, .int (g_numbers ((v.1 1) q))), (1, .int ((v.1 1) q)), (0, .ref (a 0))]) hx hb dX7_isItem_137 rfl hl (by decide) rfl (fun ls hl => ?_)
                refine lv_iinc (v := nI (k + 1)) (lv' := [(4, .int (nI (k + 1))), (3, .int 0), (2, .int (g_numbers ((v.1 1) q))), (1, .int ((v.1 1) q)), (0, .ref (a 0))]) hx hb dX7_isItem_138 hl (k := 1) rfl (nI_1 _) (by decide) rfl (fun ls hl => ?_)
                refine lv_goto (tgt := 38) hx hb dX7_isItem_141 (by decide) ?_
                have hP : PP G [bX7 a G (setA (setI (setA (setI v 2 (nI q1)) 18 F) 2 (nI (q1 + 1))) 18 (upd F k (-1)))] H := hP
                have hD : DD (AA (List.flatten [bX7 a G v])) [bX7 a G (setA (setI (setA (setI v 2 (nI q1)) 18 F) 2 (nI (q1 + 1))) 18 (upd F k (-1)))] := D_re hD (adc (bX7_ad _ _ _ _) adn)
                exact ih_38 (q1 + 1) false (upd F k (-1)) _ _ _ hP hD hS (show lv_has ls 5 [(4, .int (nI (k + 1))), (3, .int 0), (2, .int (g_numbers ((v.1 1) q))), (1, .int ((v.1 1) q)), (0, .ref (a 0))] from lv_sub hl [0, 1, 2, 3, 4] rfl) (fun h => absurd h (by decide)) (fun h => absurd h (by decide)) (hs.trans (by rw [fuel_s hk_k]; simp only [itemGo, if_neg c_26, if_neg c_41, if_pos c_45, if_neg c_50, if_neg c_61, if_neg c_75, if_neg c_91, if_pos c_110, if_pos c_129]))
              · refine lv_iconst (v := 1) hx hb dX7_isItem_132 (by decide) ?_
                refine lv_goto (tgt := 137) hx hb dX7_isItem_133 (by decide) ?_
                refine lv_istore_n (lv' := [(3, .int 1), (4, .int (nI k)), (2, .int (g_numbers ((v.1 1) q))), (1, .int ((v.1 1) q)), (0, .ref (a 0))]) hx hb dX7_isItem_137 rfl hl (by decide) rfl (fun ls hl => ?_)
                refine lv_iinc (v := nI (k + 1)) (lv' := [(4, .int (nI (k + 1))), (3, .int 1), (2, .int (g_numbers ((v.1 1) q))), (1, .int ((v.1 1) q)), (0, .ref (a 0))]) hx hb dX7_isItem_138 hl (k := 1) rfl (nI_1 _) (by decide) rfl (fun ls hl => ?_)
                refine lv_goto (tgt := 38) hx hb dX7_isItem_141 (by decide) ?_
                have hP : PP G [bX7 a G (setA (setI (setA (setI v 2 (nI q1)) 18 F) 2 (nI (q1 + 1))) 18 (upd F k (-1)))] H := hP
                have hD : DD (AA (List.flatten [bX7 a G v])) [bX7 a G (setA (setI (setA (setI v 2 (nI q1)) 18 F) 2 (nI (q1 + 1))) 18 (upd F k (-1)))] := D_re hD (adc (bX7_ad _ _ _ _) adn)
                exact ih_38 (q1 + 1) true (upd F k (-1)) _ _ _ hP hD hS (show lv_has ls 5 [(4, .int (nI (k + 1))), (3, .int 1), (2, .int (g_numbers ((v.1 1) q))), (1, .int ((v.1 1) q)), (0, .ref (a 0))] from lv_sub hl [0, 1, 2, 3, 4] rfl) (fun _ => absurd (by rw [pk_us]; decide : (upd F k (-1)) k < 0) c_129) (fun _ => updF_nn (hF c_45) c_129) (hs.trans (by rw [fuel_s hk_k]; simp only [itemGo, if_neg c_26, if_neg c_41, if_pos c_45, if_neg c_50, if_neg c_61, if_neg c_75, if_neg c_91, if_pos c_110, if_neg c_129]))
            · refine lv_iconst (v := 1) hx hb dX7_isItem_78 (by decide) ?_
              refine lv_goto (tgt := 83) hx hb dX7_isItem_79 (by decide) ?_
              refine lv_istore_n (lv' := [(3, .int 1), (4, .int (nI k)), (2, .int (g_numbers ((v.1 1) q))), (1, .int ((v.1 1) q)), (0, .ref (a 0))]) hx hb dX7_isItem_83 rfl hl (by decide) rfl (fun ls hl => ?_)
              refine lv_aload_n hx hb dX7_isItem_84 rfl (lv_at hl 4 rfl) ?_
              refine lv_dup hx hb dX7_isItem_85 rfl ?_
              refine kb_get (own := RX7) (C := RX7) (T := TX7) (N := 19) (v := .int (nI q1)) hx hb hts hin7 hown hX hP 0 rfl rfl rfl 2 (by decide) rfl (by decide +kernel) rfl dX7_isItem_86 ?_
              refine lv_iload hx hb dX7_isItem_89 (lv_at hl 1 rfl) ?_
              refine lv_if_ne (tgt := 98) hx hb dX7_isItem_91 (by decide) (fun c_91 => ?_) (fun c_91 => absurd c_91 (c_50))
              refine lv_iconst (v := 1) hx hb dX7_isItem_98 (by decide) ?_
              refine lv_iadd hx hb dX7_isItem_99 ?_
              refine kb_rw (y := nI (q1 + 1)) (nI_1 _) ?_
              refine kb_put (own := RX7) (C := RX7) (T := TX7) (N := 19) hx hb hts hin7 tyX7 tyX7_ok nmX7 (ty := .int) hown hX hP hD hS 0 rfl rfl rfl 2 (by decide) rfl (by decide +kernel) (by decide +kernel) rfl rfl (Nat.le_of_ble_eq_true rfl) dX7_isItem_100 (bX7_I2 a G (setA (setI v 2 (nI q1)) 18 F) (nI (q1 + 1))) (fun H locs hP hD hS => ?_)
              have hP : PP G [bX7 a G (setI (setA (setI v 2 (nI q1)) 18 F) 2 (nI (q1 + 1)))] H := hP
              have hD : DD (AA (List.flatten [bX7 a G v])) [bX7 a G (setI (setA (setI v 2 (nI q1)) 18 F) 2 (nI (q1 + 1)))] := D_re hD (adc (bX7_ad _ _ _ _) adn)
              refine lv_aload_n hx hb dX7_isItem_103 rfl (lv_at hl 4 rfl) ?_
              refine kb_get (own := RX7) (C := RX7) (T := TX7) (N := 19) (v := .ref (a 14)) hx hb hts hin7 hown hX hP 0 rfl rfl rfl 18 (by decide) rfl (by decide +kernel) rfl dX7_isItem_104 ?_
              refine lv_iload hx hb dX7_isItem_107 (lv_at hl 1 rfl) ?_
              refine lv_iload_n hx hb dX7_isItem_109 rfl (lv_at hl 0 rfl) ?_
              refine lv_if_eq (tgt := 120) hx hb dX7_isItem_110 (by decide) (fun c_110 => absurd c_110 (by decide)) (fun c_110 => ?_)
              refine lv_aload_n hx hb dX7_isItem_113 rfl (lv_at hl 4 rfl) ?_
              refine kcV_s hx hb hml hown hts hX hP hD hS (c_X7_number l G a (setI (setA (setI v 2 (nI q1)) 18 F) 2 (nI (q1 + 1))) (q1 + 1) len rfl hlen hl300 (by have := hfb c_45; omega)) gX7_isItem_X7_number 0 rfl rfl rfl hd_X7_number ⟨Nat.le_of_ble_eq_true rfl, Nat.le_of_ble_eq_true rfl⟩ [0] (by decide) rfl 0 rfl rfl rfl hl.1 rfl rfl (Nat.le_of_ble_eq_true rfl) dX7_isItem_114 ⟨Nat.zero_le _, Nat.zero_le _⟩ (fun r_ bc_ hq_6 H locs hP hD hS => ?_)
              obtain ⟨rfl, rfl⟩ := hq_6
              have hP : PP G [bX7 a G (setI (setI (setA (setI v 2 (nI q1)) 18 F) 2 (nI (q1 + 1))) 2 (nI (g_numberP ((v.1 1)) len (q1 + 1))))] H := hP
              have hD : DD (AA (List.flatten [bX7 a G v])) [bX7 a G (setI (setI (setA (setI v 2 (nI q1)) 18 F) 2 (nI (q1 + 1))) 2 (nI (g_numberP ((v.1 1)) len (q1 + 1))))] := D_re hD (adc (bX7_ad _ _ _ _) adn)
              refine kb_rw (y := g_numberR ((v.1 1)) len (q1 + 1)) rfl ?_
              refine lv_goto (tgt := 121) hx hb dX7_isItem_117 (by decide) ?_
              refine kb_iastN (jn := k) (n := 3) (f := F) hx hb hX hP hD hS 0 14 rfl rfl rfl (by omega) (by decide) dX7_isItem_121 (bX7_A18 a G (setI (setI (setA (setI v 2 (nI q1)) 18 F) 2 (nI (q1 + 1))) 2 (nI (g_numberP ((v.1 1)) len (q1 + 1)))) (upd F k (g_numberR ((v.1 1)) len (q1 + 1)))) (fun H locs hP hD hS => ?_)
              have hP : PP G [bX7 a G (setA (setI (setI (setA (setI v 2 (nI q1)) 18 F) 2 (nI (q1 + 1))) 2 (nI (g_numberP ((v.1 1)) len (q1 + 1)))) 18 (upd F k (g_numberR ((v.1 1)) len (q1 + 1))))] H := hP
              have hD : DD (AA (List.flatten [bX7 a G v])) [bX7 a G (setA (setI (setI (setA (setI v 2 (nI q1)) 18 F) 2 (nI (q1 + 1))) 2 (nI (g_numberP ((v.1 1)) len (q1 + 1)))) 18 (upd F k (g_numberR ((v.1 1)) len (q1 + 1))))] := D_re hD (adc (bX7_ad _ _ _ _) adn)
              refine lv_aload_n hx hb dX7_isItem_122 rfl (lv_at hl 4 rfl) ?_
              refine kb_get (own := RX7) (C := RX7) (T := TX7) (N := 19) (v := .ref (a 14)) hx hb hts hin7 hown hX hP 0 rfl rfl rfl 18 (by decide) rfl (by decide +kernel) rfl dX7_isItem_123 ?_
              refine lv_iload hx hb dX7_isItem_126 (lv_at hl 1 rfl) ?_
              refine kb_ialdN (jn := k) (n := 3) (f := upd F k (g_numberR ((v.1 1)) len (q1 + 1))) hx hb hX hP 0 14 rfl rfl rfl (by omega) (by decide) dX7_isItem_128 ?_
              refine lv_if_lt (tgt := 136) hx hb dX7_isItem_129 (by decide) (fun c_129 => ?_) (fun c_129 => ?_)
              · refine lv_iconst (v := 0) hx hb dX7_isItem_136 (by decide) ?_
                refine lv_istore_n (lv' := [(3, .int 0), (4, .int (nI k)), (2, .int (g_numbers ((v.1 1) q))), (1, .int ((v.1 1) q)), (0, .ref (a 0))]) hx hb dX7_isItem_137 rfl hl (by decide) rfl (fun ls hl => ?_)
                refine lv_iinc (v := nI (k + 1)) (lv' := [(4, .int (nI (k + 1))), (3, .int 0), (2, .int (g_numbers ((v.1 1) q))), (1, .int ((v.1 1) q)), (0, .ref (a 0))]) hx hb dX7_isItem_138 hl (k := 1) rfl (nI_1 _) (by decide) rfl (fun ls hl => ?_)
                refine lv_goto (tgt := 38) hx hb dX7_isItem_141 (by decide) ?_
                have hP : PP G [bX7 a G (setA (setI (setI (setA (setI v 2 (nI q1)) 18 F) 2 (nI (q1 + 1))) 2 (nI (g_numberP ((v.1 1)) len (q1 + 1)))) 18 (upd F k (g_numberR ((v.1 1)) len (q1 + 1))))] H := hP
                have hD : DD (AA (List.flatten [bX7 a G v])) [bX7 a G (setA (setI (setI (setA (setI v 2 (nI q1)) 18 F) 2 (nI (q1 + 1))) 2 (nI (g_numberP ((v.1 1)) len (q1 + 1)))) 18 (upd F k (g_numberR ((v.1 1)) len (q1 + 1))))] := D_re hD (adc (bX7_ad _ _ _ _) adn)
                exact ih_38 (g_numberP ((v.1 1)) len (q1 + 1)) false (upd F k (g_numberR ((v.1 1)) len (q1 + 1))) _ _ _ hP hD hS (show lv_has ls 5 [(4, .int (nI (k + 1))), (3, .int 0), (2, .int (g_numbers ((v.1 1) q))), (1, .int ((v.1 1) q)), (0, .ref (a 0))] from lv_sub hl [0, 1, 2, 3, 4] rfl) (fun h => absurd h (by decide)) (fun h => absurd h (by decide)) (hs.trans (by rw [fuel_s hk_k]; simp only [itemGo, if_neg c_26, if_neg c_41, if_pos c_45, if_neg c_50, if_neg c_61, if_pos c_75, if_neg c_91, if_neg c_110, if_pos c_129]))
              · refine lv_iconst (v := 1) hx hb dX7_isItem_132 (by decide) ?_
                refine lv_goto (tgt := 137) hx hb dX7_isItem_133 (by decide) ?_
                refine lv_istore_n (lv' := [(3, .int 1), (4, .int (nI k)), (2, .int (g_numbers ((v.1 1) q))), (1, .int ((v.1 1) q)), (0, .ref (a 0))]) hx hb dX7_isItem_137 rfl hl (by decide) rfl (fun ls hl => ?_)
                refine lv_iinc (v := nI (k + 1)) (lv' := [(4, .int (nI (k + 1))), (3, .int 1), (2, .int (g_numbers ((v.1 1) q))), (1, .int ((v.1 1) q)), (0, .ref (a 0))]) hx hb dX7_isItem_138 hl (k := 1) rfl (nI_1 _) (by decide) rfl (fun ls hl => ?_)
                refine lv_goto (tgt := 38) hx hb dX7_isItem_141 (by decide) ?_
                have hP : PP G [bX7 a G (setA (setI (setI (setA (setI v 2 (nI q1)) 18 F) 2 (nI (q1 + 1))) 2 (nI (g_numberP ((v.1 1)) len (q1 + 1)))) 18 (upd F k (g_numberR ((v.1 1)) len (q1 + 1))))] H := hP
                have hD : DD (AA (List.flatten [bX7 a G v])) [bX7 a G (setA (setI (setI (setA (setI v 2 (nI q1)) 18 F) 2 (nI (q1 + 1))) 2 (nI (g_numberP ((v.1 1)) len (q1 + 1)))) 18 (upd F k (g_numberR ((v.1 1)) len (q1 + 1))))] := D_re hD (adc (bX7_ad _ _ _ _) adn)
                exact ih_38 (g_numberP ((v.1 1)) len (q1 + 1)) true (upd F k (g_numberR ((v.1 1)) len (q1 + 1))) _ _ _ hP hD hS (show lv_has ls 5 [(4, .int (nI (k + 1))), (3, .int 1), (2, .int (g_numbers ((v.1 1) q))), (1, .int ((v.1 1) q)), (0, .ref (a 0))] from lv_sub hl [0, 1, 2, 3, 4] rfl) (fun _ => g_numberP_le (by have := hfb c_45; omega)) (fun _ => updF_nn (hF c_45) c_129) (hs.trans (by rw [fuel_s hk_k]; simp only [itemGo, if_neg c_26, if_neg c_41, if_pos c_45, if_neg c_50, if_neg c_61, if_pos c_75, if_neg c_91, if_neg c_110, if_neg c_129]))
