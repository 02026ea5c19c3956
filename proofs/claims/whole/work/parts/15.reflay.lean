/-! the reference: beginning, taking, the fault, laying -/
theorem itN_0 {α : Type} (f : Nat → α → α) (s : α) : itN f s 0 = s := rfl
theorem ov_idI (v : OV) (t : Nat) : setI v t (v.2 t) = v := by
  refine Prod.ext rfl (funext fun u => ?_)
  simp only [setI]
  split
  · rename_i h; rw [h]
  · rfl
abbrev g_told0 (T : Nat → Int32) : Nat → Int32 := upd (upd (upd (upd (upd T 5 3) 6 3) 7 1) 8 1) 9 2
def s_first0 (k : Nat) (F : Nat → Int32) : Nat → Int32 := upd F (32 + k) 0
def s_dr0 (k : Nat) (F : Nat → Int32) : Nat → Int32 := if 8 ≤ nI k then F else upd F (8 + k) 0
def g_begins (u : OV) : OV := setA (setA (setA (setA (setA u 3 (g_told0 (u.1 3))) 4 (upd (u.1 4) 1 0)) 7 (upd (u.1 7) 1 0)) 9 (itN s_first0 (u.1 9) 32)) 6 (itN s_dr0 (u.1 6) 32)
def s_t9 (k : Nat) (F : Nat → Int32) : Nat → Int32 := upd F k (F (32 + k))
def s_t5 (k : Nat) (F : Nat → Int32) : Nat → Int32 := if 24 ≤ nI k then F else upd F k (F (24 + k))
def s_t8 (k : Nat) (F : Nat → Int32) : Nat → Int32 := if 12 ≤ nI k then F else upd F k (F (12 + k))
def s_t6 (k : Nat) (F : Nat → Int32) : Nat → Int32 := if 8 ≤ nI k then F else upd F k (F (8 + k))
def s_t3 (k : Nat) (F : Nat → Int32) : Nat → Int32 := if 5 ≤ nI k then F else upd F k (F (5 + k))
def s_sl (F : Nat → Int32) (k : Nat) (S : Nat → Int32) : Nat → Int32 := if 32 ≤ nI k then upd S k 0 else upd S k (F k)
def s_wh (E : Nat → Int32) (k : Nat) (S : Nat → Int32) : Nat → Int32 := upd S (40 + k) (E (3 * k))
def g_slot0 (F E L S : Nat → Int32) : Nat → Int32 := itN (s_wh E) (itN (s_sl F) S 46) (L 0).toNatClampNeg
def g_takes (u : OV) : OV := setI (setI (setA (setA (setA (setA (setA (setA (setA (setA u 4 (upd (u.1 4) 0 (u.1 4 1))) 7 (upd (u.1 7) 0 (u.1 7 1))) 9 (itN s_t9 (u.1 9) 32)) 5 (itN s_t5 (u.1 5) 32)) 8 (itN s_t8 (u.1 8) 32)) 6 (itN s_t6 (u.1 6) 32)) 3 (itN s_t3 (u.1 3) 32)) 10 (g_slot0 (itN s_t9 (u.1 9) 32) (itN s_t8 (u.1 8) 32) (upd (u.1 7) 0 (u.1 7 1)) (u.1 10))) 12 0) 11 0
def s_whD (v : OV) (d : Nat) (b : Bool) : Bool := if b = true then (if v.1 3 5 ≤ v.1 5 (24 + 3 * d) then false else if v.1 3 5 ≤ v.1 5 (25 + 3 * d) then false else if v.1 4 1 ≤ v.1 5 (26 + 3 * d) then false else true) else false
def s_whL (v : OV) (i : Nat) (b : Bool) : Bool := if b = true then (if v.1 3 5 ≤ v.1 8 (12 + 3 * i) then false else if v.1 3 5 ≤ v.1 8 (14 + 3 * i) then false else true) else false
def w0 (v : OV) : Bool := if v.1 4 1 ≤ 0 then false else if v.1 7 1 ≤ 0 then false else true
def g_isWhole (v : OV) : Bool := itN (s_whL v) (itN (s_whD v) (w0 v) (v.1 4 1).toNatClampNeg) (v.1 7 1).toNatClampNeg
/-- what holds while the text is read -/
def rdOk (u : OV) (len q : Nat) : Prop := u.2 2 = nI q ∧ u.2 0 = nI len ∧ (¬ u.1 4 1 < 0 ∧ (u.1 4 1).toNatClampNeg ≤ 8) ∧ (¬ u.1 7 1 < 0 ∧ (u.1 7 1).toNatClampNeg ≤ 4)
theorem inc_ok {x : Int32} {n : Nat} (hn : n < 2 ^ 30) (h0 : ¬ x < 0) (h : ¬ nI n ≤ x) : ¬ x + 1 < 0 ∧ (x + 1).toNatClampNeg ≤ n := by
  obtain ⟨j, hj, rfl⟩ := nI_of h0
  have h1 := nI_nle_lt hj h
  rw [nI_1, nI_clamp (by omega)]
  exact ⟨nI_pos (by omega), by omega⟩
theorem good_ok {u : OV} {len q : Nat} {l : Int32} (h : rdOk u len q) : rdOk (g_goodV u l) len q := by
  obtain ⟨h1, h2, h3, h4⟩ := h
  unfold g_goodV
  repeat' split
  all_goals first | exact ⟨h1, h2, h3, h4⟩ | skip
  · rename_i h8 h9
    refine ⟨h1, h2, ?_, h4⟩
    show ¬ (upd (u.1 4) 1 (u.1 4 1 + 1)) 1 < 0 ∧ ((upd (u.1 4) 1 (u.1 4 1 + 1)) 1).toNatClampNeg ≤ 8
    rw [pk_us]
    exact inc_ok (n := 8) (by decide) h3.1 (by assumption)
  · refine ⟨h1, h2, h3, ?_⟩
    show ¬ (upd (u.1 7) 1 (u.1 7 1 + 1)) 1 < 0 ∧ ((upd (u.1 7) 1 (u.1 7 1 + 1)) 1).toNatClampNeg ≤ 4
    rw [pk_us]
    exact inc_ok (n := 4) (by decide) h4.1 (by assumption)
theorem item_ok {u : OV} {len q : Nat} (h : rdOk u len q) : rdOk (g_itemV u q len) len (g_itemP u q len) := by
  unfold g_itemV g_itemP g_itemV3
  have h0 : ∀ (x : Nat) (F : Nat → Int32), rdOk (setI (setA (setI u 2 (nI x)) 18 F) 2 (nI (x + 1))) len (x + 1) := fun x F => ⟨rfl, h.2.1, h.2.2.1, h.2.2.2⟩
  repeat' split
  all_goals first | exact h0 _ _ | exact good_ok (h0 _ _)
theorem itemGo_ge (T : Nat → Int32) (len : Nat) : ∀ (n k q : Nat) (b : Bool) (F : Nat → Int32), q ≤ (itemGo T len n k q b F).1
  | 0, k, q, b, F => Nat.le_refl _
  | n + 1, k, q, b, F => by
    have hg : ∀ x, x ≤ g_numberP T len x := fun x => g_numberP_ge
    have hh : ∀ (x : Nat) (b : Bool) (F : Nat → Int32), x ≤ (itemGo T len n (k + 1) x b F).1 := fun x b F => itemGo_ge T len n (k + 1) x b F
    simp only [itemGo]
    have a1 := hg q
    have a2 := hg (q + 1)
    repeat' split
    all_goals first | exact Nat.le_refl _ | exact Nat.le_trans a1 (hh _ _ _) | exact Nat.le_trans (Nat.le_trans (Nat.le_succ q) a2) (hh _ _ _) | exact Nat.le_trans (Nat.le_succ q) (hh _ _ _)
theorem itemP_gt (u : OV) (q len : Nat) : q + 1 < g_itemP u q len := by
  have := itemGo_ge (u.1 1) len (g_numbers (u.1 1 q)).toNatClampNeg 0 (q + 1) (isB (g_numbers (u.1 1 q))) (u.1 18)
  unfold g_itemP g_itemR
  omega
theorem numP_le (T : Nat → Int32) (len q : Nat) : g_numberP T len q ≤ q + len := by
  have := (numGo_le T (len - q) q 0 0).1
  unfold g_numberP
  omega
theorem itemGo_le (T : Nat → Int32) (len : Nat) : ∀ (n k q : Nat) (b : Bool) (F : Nat → Int32), (itemGo T len n k q b F).1 ≤ q + n * (len + 1)
  | 0, k, q, b, F => by simp [itemGo]
  | n + 1, k, q, b, F => by
    have hh : ∀ (x : Nat) (b : Bool) (F : Nat → Int32), x ≤ q + (len + 1) → (itemGo T len n (k + 1) x b F).1 ≤ q + (n + 1) * (len + 1) := fun x b F hx => by
      have := itemGo_le T len n (k + 1) x b F
      rw [Nat.succ_mul]
      omega
    have a1 := numP_le T len q
    have a2 := numP_le T len (q + 1)
    simp only [itemGo]
    repeat' split
    all_goals first | exact hh _ _ _ (by omega) | (simp only; omega)
theorem item_le {u : OV} {q len : Nat} (hl : q + 4 * (len + 1) < 2 ^ 31) (h : g_itemK u q len = true) : g_itemP u q len ≤ len := by
  have hb := itemGo_le (u.1 1) len (g_numbers (u.1 1 q)).toNatClampNeg 0 (q + 1) (isB (g_numbers (u.1 1 q))) (u.1 18)
  have h3 := numbers_le (u.1 1 q)
  have hm : (g_numbers (u.1 1 q)).toNatClampNeg * (len + 1) ≤ 3 * (len + 1) := Nat.mul_le_mul_right _ h3
  unfold g_itemK g_itemK3 at h
  unfold g_itemP
  have hb2 : (g_itemR u q len).1 ≤ q + 1 + 3 * (len + 1) := by unfold g_itemR; omega
  revert h
  repeat' split
  all_goals first | (intro h; exact absurd h (by decide)) | skip
  all_goals
    intro _
    have := nI_nle_lt (by omega) (by assumption : ¬ nI len ≤ nI (g_itemR u q len).1)
    omega
def faultGo (len : Nat) : Nat → OV → Nat → Int32 × OV
  | 0, u, _ => (-4, u)
  | n + 1, u, q => if nI len ≤ nI q then (-4, u) else if g_itemK u q len = true then faultGo len n (g_itemV u q len) (g_itemP u q len) else (nI q, g_itemV u q len)
def g_fault (v : OV) (len : Nat) : Int32 × OV := faultGo len len (g_begins (setI v 2 0)) 0
theorem faultGo_ok {len : Nat} : ∀ (n : Nat) {u : OV} {q : Nat}, rdOk u len q → ∃ q', rdOk (faultGo len n u q).2 len q'
  | 0, u, q, h => ⟨q, h⟩
  | n + 1, u, q, h => by
    simp only [faultGo]
    split
    · exact ⟨q, h⟩
    · split
      · exact faultGo_ok n (item_ok h)
      · exact ⟨_, item_ok h⟩
theorem begins_ok {v : OV} {len : Nat} (h : v.2 0 = nI len) : rdOk (g_begins (setI v 2 0)) len 0 := by
  refine ⟨rfl, h, ?_, ?_⟩
  · show ¬ (upd (v.1 4) 1 0) 1 < 0 ∧ ((upd (v.1 4) 1 0) 1).toNatClampNeg ≤ 8
    rw [pk_us]; decide
  · show ¬ (upd (v.1 7) 1 0) 1 < 0 ∧ ((upd (v.1 7) 1 0) 1).toNatClampNeg ≤ 4
    rw [pk_us]; decide
def g_layR (v : OV) (len : Nat) : Int32 := if (g_fault v len).1 = -4 then (if g_isWhole (g_fault v len).2 = true then (g_takes (g_fault v len).2).1 4 0 else -2) else -2
def g_layV (v : OV) (len : Nat) : OV := if (g_fault v len).1 = -4 then (if g_isWhole (g_fault v len).2 = true then g_takes (g_fault v len).2 else (g_fault v len).2) else (g_fault v len).2

def rm_X7_begins : Room := { frames := 0, cells := 0, slots := 0, locals := 0 }
theorem hd_X7_begins : yX7_begins.cls = RX7 ∧ yX7_begins.cls ≠ "java/lang/invoke/MethodHandle" ∧ yX7_begins.cls ≠ "java/lang/invoke/VarHandle" ∧ (parseMethodDescriptor yX7_begins.desc).map (fun d => d.parameters.length) = some 0 := by decide +kernel
set_option maxRecDepth 100000 in
set_option maxHeartbeats 4000000 in
theorem c_X7_begins (l : Launch) (G : GD) (a : Nat → Nat) (v : OV)  : MetS l yX7_begins wsX7_begins rm_X7_begins G [bX7 a G v] [.ref (a 0)] (fun r bc => r = none ∧ bc = [bX7 a G (g_begins v)]) := by
  refine kb_beginS (cc := cX7_begins) (maxL := 2) (ret := none) (by decide) rfl (Nat.le_of_ble_eq_true rfl) ?_
  intro p e s m below meth c hx hb hr hml hown hts hlocks hX H locs hP hD hS ls hl
  have hown : s.vm.findClass RX7 = some m.cls := hown
  have hl : lv_has ls 2 [(0, .ref (a 0))] := hl
  have hin7 : ∀ w ∈ u_ws RX7 TX7 19, w ∈ wsX7_begins := (fun _ h => List.mem_cons_of_mem _ (List.mem_append_right _ (h)))
  refine lv_aload_n hx hb dX7_begins_0 rfl (lv_at hl 0 rfl) ?_
  refine kb_get (own := RX7) (C := RX7) (T := TX7) (N := 19) (v := .ref (a 2)) hx hb hts hin7 hown hX hP 0 rfl rfl rfl 3 (by decide) rfl (by decide +kernel) rfl dX7_begins_1 ?_
  refine lv_iconst (v := 5) hx hb dX7_begins_4 (by decide) ?_
  refine lv_iconst (v := 3) hx hb dX7_begins_5 (by decide) ?_
  refine kb_iastN (jn := 5) (n := 10) (f := v.1 3) hx hb hX hP hD hS 0 2 rfl rfl rfl (by omega) (by decide) dX7_begins_6 (bX7_A3 a G v (upd (v.1 3) 5 3)) (fun H locs hP hD hS => ?_)
  have hP : PP G [bX7 a G (setA v 3 (upd (v.1 3) 5 3))] H := hP
  have hD : DD (AA (List.flatten [bX7 a G v])) [bX7 a G (setA v 3 (upd (v.1 3) 5 3))] := D_re hD (adc (bX7_ad _ _ _ _) adn)
  refine lv_aload_n hx hb dX7_begins_7 rfl (lv_at hl 0 rfl) ?_
  refine kb_get (own := RX7) (C := RX7) (T := TX7) (N := 19) (v := .ref (a 2)) hx hb hts hin7 hown hX hP 0 rfl rfl rfl 3 (by decide) rfl (by decide +kernel) rfl dX7_begins_8 ?_
  refine lv_bipush (v := 6) hx hb dX7_begins_11 (by decide) ?_
  refine lv_iconst (v := 3) hx hb dX7_begins_13 (by decide) ?_
  refine kb_iastN (jn := 6) (n := 10) (f := upd (v.1 3) 5 3) hx hb hX hP hD hS 0 2 rfl rfl rfl (by omega) (by decide) dX7_begins_14 (bX7_A3 a G (setA v 3 (upd (v.1 3) 5 3)) (upd (upd (v.1 3) 5 3) 6 3)) (fun H locs hP hD hS => ?_)
  have hP : PP G [bX7 a G (setA (setA v 3 (upd (v.1 3) 5 3)) 3 (upd (upd (v.1 3) 5 3) 6 3))] H := hP
  have hD : DD (AA (List.flatten [bX7 a G v])) [bX7 a G (setA (setA v 3 (upd (v.1 3) 5 3)) 3 (upd (upd (v.1 3) 5 3) 6 3))] := D_re hD (adc (bX7_ad _ _ _ _) adn)
  refine lv_aload_n hx hb dX7_begins_15 rfl (lv_at hl 0 rfl) ?_
  refine kb_get (own := RX7) (C := RX7) (T := TX7) (N := 19) (v := .ref (a 2)) hx hb hts hin7 hown hX hP 0 rfl rfl rfl 3 (by decide) rfl (by decide +kernel) rfl dX7_begins_16 ?_
  refine lv_bipush (v := 7) hx hb dX7_begins_19 (by decide) ?_
  refine lv_iconst (v := 1) hx hb dX7_begins_21 (by decide) ?_
  refine kb_iastN (jn := 7) (n := 10) (f := upd (upd (v.1 3) 5 3) 6 3) hx hb hX hP hD hS 0 2 rfl rfl rfl (by omega) (by decide) dX7_begins_22 (bX7_A3 a G (setA (setA v 3 (upd (v.1 3) 5 3)) 3 (upd (upd (v.1 3) 5 3) 6 3)) (upd (upd (upd (v.1 3) 5 3) 6 3) 7 1)) (fun H locs hP hD hS => ?_)
  have hP : PP G [bX7 a G (setA (setA (setA v 3 (upd (v.1 3) 5 3)) 3 (upd (upd (v.1 3) 5 3) 6 3)) 3 (upd (upd (upd (v.1 3) 5 3) 6 3) 7 1))] H := hP
  have hD : DD (AA (List.flatten [bX7 a G v])) [bX7 a G (setA (setA (setA v 3 (upd (v.1 3) 5 3)) 3 (upd (upd (v.1 3) 5 3) 6 3)) 3 (upd (upd (upd (v.1 3) 5 3) 6 3) 7 1))] := D_re hD (adc (bX7_ad _ _ _ _) adn)
  refine lv_aload_n hx hb dX7_begins_23 rfl (lv_at hl 0 rfl) ?_
  refine kb_get (own := RX7) (C := RX7) (T := TX7) (N := 19) (v := .ref (a 2)) hx hb hts hin7 hown hX hP 0 rfl rfl rfl 3 (by decide) rfl (by decide +kernel) rfl dX7_begins_24 ?_
  refine lv_bipush (v := 8) hx hb dX7_begins_27 (by decide) ?_
  refine lv_iconst (v := 1) hx hb dX7_begins_29 (by decide) ?_
  refine kb_iastN (jn := 8) (n := 10) (f := upd (upd (upd (v.1 3) 5 3) 6 3) 7 1) hx hb hX hP hD hS 0 2 rfl rfl rfl (by omega) (by decide) dX7_begins_30 (bX7_A3 a G (setA (setA (setA v 3 (upd (v.1 3) 5 3)) 3 (upd (upd (v.1 3) 5 3) 6 3)) 3 (upd (upd (upd (v.1 3) 5 3) 6 3) 7 1)) (upd (upd (upd (upd (v.1 3) 5 3) 6 3) 7 1) 8 1)) (fun H locs hP hD hS => ?_)
  have hP : PP G [bX7 a G (setA (setA (setA (setA v 3 (upd (v.1 3) 5 3)) 3 (upd (upd (v.1 3) 5 3) 6 3)) 3 (upd (upd (upd (v.1 3) 5 3) 6 3) 7 1)) 3 (upd (upd (upd (upd (v.1 3) 5 3) 6 3) 7 1) 8 1))] H := hP
  have hD : DD (AA (List.flatten [bX7 a G v])) [bX7 a G (setA (setA (setA (setA v 3 (upd (v.1 3) 5 3)) 3 (upd (upd (v.1 3) 5 3) 6 3)) 3 (upd (upd (upd (v.1 3) 5 3) 6 3) 7 1)) 3 (upd (upd (upd (upd (v.1 3) 5 3) 6 3) 7 1) 8 1))] := D_re hD (adc (bX7_ad _ _ _ _) adn)
  refine lv_aload_n hx hb dX7_begins_31 rfl (lv_at hl 0 rfl) ?_
  refine kb_get (own := RX7) (C := RX7) (T := TX7) (N := 19) (v := .ref (a 2)) hx hb hts hin7 hown hX hP 0 rfl rfl rfl 3 (by decide) rfl (by decide +kernel) rfl dX7_begins_32 ?_
  refine lv_bipush (v := 9) hx hb dX7_begins_35 (by decide) ?_
  refine lv_iconst (v := 2) hx hb dX7_begins_37 (by decide) ?_
  refine kb_iastN (jn := 9) (n := 10) (f := upd (upd (upd (upd (v.1 3) 5 3) 6 3) 7 1) 8 1) hx hb hX hP hD hS 0 2 rfl rfl rfl (by omega) (by decide) dX7_begins_38 (bX7_A3 a G (setA (setA (setA (setA v 3 (upd (v.1 3) 5 3)) 3 (upd (upd (v.1 3) 5 3) 6 3)) 3 (upd (upd (upd (v.1 3) 5 3) 6 3) 7 1)) 3 (upd (upd (upd (upd (v.1 3) 5 3) 6 3) 7 1) 8 1)) (upd (upd (upd (upd (upd (v.1 3) 5 3) 6 3) 7 1) 8 1) 9 2)) (fun H locs hP hD hS => ?_)
  have hP : PP G [bX7 a G (setA (setA (setA (setA (setA v 3 (upd (v.1 3) 5 3)) 3 (upd (upd (v.1 3) 5 3) 6 3)) 3 (upd (upd (upd (v.1 3) 5 3) 6 3) 7 1)) 3 (upd (upd (upd (upd (v.1 3) 5 3) 6 3) 7 1) 8 1)) 3 (upd (upd (upd (upd (upd (v.1 3) 5 3) 6 3) 7 1) 8 1) 9 2))] H := hP
  have hD : DD (AA (List.flatten [bX7 a G v])) [bX7 a G (setA (setA (setA (setA (setA v 3 (upd (v.1 3) 5 3)) 3 (upd (upd (v.1 3) 5 3) 6 3)) 3 (upd (upd (upd (v.1 3) 5 3) 6 3) 7 1)) 3 (upd (upd (upd (upd (v.1 3) 5 3) 6 3) 7 1) 8 1)) 3 (upd (upd (upd (upd (upd (v.1 3) 5 3) 6 3) 7 1) 8 1) 9 2))] := D_re hD (adc (bX7_ad _ _ _ _) adn)
  refine lv_aload_n hx hb dX7_begins_39 rfl (lv_at hl 0 rfl) ?_
  refine kb_get (own := RX7) (C := RX7) (T := TX7) (N := 19) (v := .ref (a 3)) hx hb hts hin7 hown hX hP 0 rfl rfl rfl 4 (by decide) rfl (by decide +kernel) rfl dX7_begins_40 ?_
  refine lv_iconst (v := 1) hx hb dX7_begins_43 (by decide) ?_
  refine lv_iconst (v := 0) hx hb dX7_begins_44 (by decide) ?_
  refine kb_iastN (jn := 1) (n := 2) (f := v.1 4) hx hb hX hP hD hS 0 3 rfl rfl rfl (by omega) (by decide) dX7_begins_45 (bX7_A4 a G (setA (setA (setA (setA (setA v 3 (upd (v.1 3) 5 3)) 3 (upd (upd (v.1 3) 5 3) 6 3)) 3 (upd (upd (upd (v.1 3) 5 3) 6 3) 7 1)) 3 (upd (upd (upd (upd (v.1 3) 5 3) 6 3) 7 1) 8 1)) 3 (upd (upd (upd (upd (upd (v.1 3) 5 3) 6 3) 7 1) 8 1) 9 2)) (upd (v.1 4) 1 0)) (fun H locs hP hD hS => ?_)
  have hP : PP G [bX7 a G (setA (setA (setA (setA (setA (setA v 3 (upd (v.1 3) 5 3)) 3 (upd (upd (v.1 3) 5 3) 6 3)) 3 (upd (upd (upd (v.1 3) 5 3) 6 3) 7 1)) 3 (upd (upd (upd (upd (v.1 3) 5 3) 6 3) 7 1) 8 1)) 3 (upd (upd (upd (upd (upd (v.1 3) 5 3) 6 3) 7 1) 8 1) 9 2)) 4 (upd (v.1 4) 1 0))] H := hP
  have hD : DD (AA (List.flatten [bX7 a G v])) [bX7 a G (setA (setA (setA (setA (setA (setA v 3 (upd (v.1 3) 5 3)) 3 (upd (upd (v.1 3) 5 3) 6 3)) 3 (upd (upd (upd (v.1 3) 5 3) 6 3) 7 1)) 3 (upd (upd (upd (upd (v.1 3) 5 3) 6 3) 7 1) 8 1)) 3 (upd (upd (upd (upd (upd (v.1 3) 5 3) 6 3) 7 1) 8 1) 9 2)) 4 (upd (v.1 4) 1 0))] := D_re hD (adc (bX7_ad _ _ _ _) adn)
  refine lv_aload_n hx hb dX7_begins_46 rfl (lv_at hl 0 rfl) ?_
  refine kb_get (own := RX7) (C := RX7) (T := TX7) (N := 19) (v := .ref (a 6)) hx hb hts hin7 hown hX hP 0 rfl rfl rfl 7 (by decide) rfl (by decide +kernel) rfl dX7_begins_47 ?_
  refine lv_iconst (v := 1) hx hb dX7_begins_50 (by decide) ?_
  refine lv_iconst (v := 0) hx hb dX7_begins_51 (by decide) ?_
  refine kb_iastN (jn := 1) (n := 2) (f := v.1 7) hx hb hX hP hD hS 0 6 rfl rfl rfl (by omega) (by decide) dX7_begins_52 (bX7_A7 a G (setA (setA (setA (setA (setA (setA v 3 (upd (v.1 3) 5 3)) 3 (upd (upd (v.1 3) 5 3) 6 3)) 3 (upd (upd (upd (v.1 3) 5 3) 6 3) 7 1)) 3 (upd (upd (upd (upd (v.1 3) 5 3) 6 3) 7 1) 8 1)) 3 (upd (upd (upd (upd (upd (v.1 3) 5 3) 6 3) 7 1) 8 1) 9 2)) 4 (upd (v.1 4) 1 0)) (upd (v.1 7) 1 0)) (fun H locs hP hD hS => ?_)
  have hP : PP G [bX7 a G (setA (setA (setA (setA (setA (setA (setA v 3 (upd (v.1 3) 5 3)) 3 (upd (upd (v.1 3) 5 3) 6 3)) 3 (upd (upd (upd (v.1 3) 5 3) 6 3) 7 1)) 3 (upd (upd (upd (upd (v.1 3) 5 3) 6 3) 7 1) 8 1)) 3 (upd (upd (upd (upd (upd (v.1 3) 5 3) 6 3) 7 1) 8 1) 9 2)) 4 (upd (v.1 4) 1 0)) 7 (upd (v.1 7) 1 0))] H := hP
  have hD : DD (AA (List.flatten [bX7 a G v])) [bX7 a G (setA (setA (setA (setA (setA (setA (setA v 3 (upd (v.1 3) 5 3)) 3 (upd (upd (v.1 3) 5 3) 6 3)) 3 (upd (upd (upd (v.1 3) 5 3) 6 3) 7 1)) 3 (upd (upd (upd (upd (v.1 3) 5 3) 6 3) 7 1) 8 1)) 3 (upd (upd (upd (upd (upd (v.1 3) 5 3) 6 3) 7 1) 8 1) 9 2)) 4 (upd (v.1 4) 1 0)) 7 (upd (v.1 7) 1 0))] := D_re hD (adc (bX7_ad _ _ _ _) adn)
  refine lv_iconst (v := 0) hx hb dX7_begins_53 (by decide) ?_
  refine lv_istore_n (lv' := [(1, .int 0), (0, .ref (a 0))]) hx hb dX7_begins_54 rfl hl (by decide) rfl (fun ls hl => ?_)
  have eOV0 : (setA (setA (setA (setA (setA v 3 (g_told0 (v.1 3))) 4 (upd (v.1 4) 1 0)) 7 (upd (v.1 7) 1 0)) 9 (itN s_first0 (v.1 9) 0)) 6 (itN s_dr0 (v.1 6) 0)) = (setA (setA (setA (setA (setA (setA (setA v 3 (upd (v.1 3) 5 3)) 3 (upd (upd (v.1 3) 5 3) 6 3)) 3 (upd (upd (upd (v.1 3) 5 3) 6 3) 7 1)) 3 (upd (upd (upd (upd (v.1 3) 5 3) 6 3) 7 1) 8 1)) 3 (upd (upd (upd (upd (upd (v.1 3) 5 3) 6 3) 7 1) 8 1) 9 2)) 4 (upd (v.1 4) 1 0)) 7 (upd (v.1 7) 1 0)) := by
    refine Prod.ext (funext fun u => ?_) (funext fun u => ?_)
    · by_cases h3 : u = 3
      · subst h3; rfl
      · skip
        by_cases h4 : u = 4
        · subst h4; rfl
        · skip
          by_cases h7 : u = 7
          · subst h7; rfl
          · skip
            by_cases h9 : u = 9
            · subst h9; rfl
            · skip
              by_cases h6 : u = 6
              · subst h6; rfl
              · skip
                simp only [setA, setI, if_neg h3, if_neg h4, if_neg h7, if_neg h9, if_neg h6]
    · rfl
  have hP : PP G [bX7 a G (setA (setA (setA (setA (setA v 3 (g_told0 (v.1 3))) 4 (upd (v.1 4) 1 0)) 7 (upd (v.1 7) 1 0)) 9 (itN s_first0 (v.1 9) 0)) 6 (itN s_dr0 (v.1 6) 0))] H := by rw [eOV0]; exact hP
  have hD : DD (AA (List.flatten [bX7 a G v])) [bX7 a G (setA (setA (setA (setA (setA v 3 (g_told0 (v.1 3))) 4 (upd (v.1 4) 1 0)) 7 (upd (v.1 7) 1 0)) 9 (itN s_first0 (v.1 9) 0)) 6 (itN s_dr0 (v.1 6) 0))] := D_re hD (adc (bX7_ad _ _ _ _) adn)
  refine lp_up (N := 32) (P := fun k => ∀ (H : Heap) (locs : List Loc) (ls : Array Slot), PP G [bX7 a G (setA (setA (setA (setA (setA v 3 (g_told0 (v.1 3))) 4 (upd (v.1 4) 1 0)) 7 (upd (v.1 7) 1 0)) 9 (itN s_first0 (v.1 9) k)) 6 (itN s_dr0 (v.1 6) k))] H → DD (AA (List.flatten [bX7 a G v])) [bX7 a G (setA (setA (setA (setA (setA v 3 (g_told0 (v.1 3))) 4 (upd (v.1 4) 1 0)) 7 (upd (v.1 7) 1 0)) 9 (itN s_first0 (v.1 9) k)) 6 (itN s_dr0 (v.1 6) k))] → va_S (AA (List.flatten [bX7 a G v])) s.heap H locs → lv_has ls 2 [(1, .int (nI k)), (0, .ref (a 0))] →  W p l e (headSpec wsX7_begins rm_X7_begins).room s m ([.ref (a 0)] : List Value).toArray below meth c H locs 0 0 (MQ below (kQs G [bX7 a G v] (fun r bc => r = none ∧ bc = [bX7 a G (g_begins v)])) ([.ref (a 0)] : List Value).toArray s 0 0 (AA (List.flatten [bX7 a G v]))) (F0 m 55 ls [])) ?_ ?_ 0 (Nat.zero_le _)  _ _ _ hP hD hS (lv_sub hl [0, 1] rfl) 
  · skip
    intro H locs ls hP hD hS hl 
    refine lv_iload_n hx hb dX7_begins_55 rfl (lv_at hl 0 rfl) ?_
    refine lv_bipush (v := 32) hx hb dX7_begins_56 (by decide) ?_
    refine lv_icmp_ge (tgt := 93) hx hb dX7_begins_58 (by decide) (fun c_58 => ?_) (fun c_58 => absurd ((by decide : (32 : Int32) ≤ nI 32)) c_58)
    have hP : PP G [bX7 a G (g_begins v)] H := by
      unfold g_begins
      try simp only [ov_n1, ov_m1, ov_nc, ov_mc, ov_c] at hP ⊢
      exact hP
    exact kr_sv hx hb hr hlocks dX7_begins_93 hP hS (sameAd_cons (bX7_ad _ _ _ _) sameAd_nil) ⟨rfl, rfl⟩
  · skip
    intro k hk_k ih_55 H locs ls hP hD hS hl 
    refine lv_iload_n hx hb dX7_begins_55 rfl (lv_at hl 0 rfl) ?_
    refine lv_bipush (v := 32) hx hb dX7_begins_56 (by decide) ?_
    refine lv_icmp_ge (tgt := 93) hx hb dX7_begins_58 (by decide) (fun c_58 => absurd c_58 (nI_ge (b := 32) hk_k (by decide))) (fun c_58 => ?_)
    refine lv_aload_n hx hb dX7_begins_61 rfl (lv_at hl 1 rfl) ?_
    refine kb_get (own := RX7) (C := RX7) (T := TX7) (N := 19) (v := .ref (a 8)) hx hb hts hin7 hown hX hP 0 rfl rfl rfl 9 (by decide) rfl (by decide +kernel) rfl dX7_begins_62 ?_
    refine lv_bipush (v := 32) hx hb dX7_begins_65 (by decide) ?_
    refine lv_iload_n hx hb dX7_begins_67 rfl (lv_at hl 0 rfl) ?_
    refine lv_iadd hx hb dX7_begins_68 ?_
    refine lv_iconst (v := 0) hx hb dX7_begins_69 (by decide) ?_
    refine kb_iastN (jn := 32 + k) (n := 64) (f := itN s_first0 (v.1 9) k) hx hb hX hP hD hS 0 8 rfl rfl (by simp only [nI_addE, nI_mulE] <;> rfl) (by omega) (by decide) dX7_begins_70 (bX7_A9 a G (setA (setA (setA (setA (setA v 3 (g_told0 (v.1 3))) 4 (upd (v.1 4) 1 0)) 7 (upd (v.1 7) 1 0)) 9 (itN s_first0 (v.1 9) k)) 6 (itN s_dr0 (v.1 6) k)) (upd (itN s_first0 (v.1 9) k) (32 + k) 0)) (fun H locs hP hD hS => ?_)
    have hP : PP G [bX7 a G (setA (setA (setA (setA (setA (setA v 3 (g_told0 (v.1 3))) 4 (upd (v.1 4) 1 0)) 7 (upd (v.1 7) 1 0)) 9 (itN s_first0 (v.1 9) k)) 6 (itN s_dr0 (v.1 6) k)) 9 (upd (itN s_first0 (v.1 9) k) (32 + k) 0))] H := hP
    have hD : DD (AA (List.flatten [bX7 a G v])) [bX7 a G (setA (setA (setA (setA (setA (setA v 3 (g_told0 (v.1 3))) 4 (upd (v.1 4) 1 0)) 7 (upd (v.1 7) 1 0)) 9 (itN s_first0 (v.1 9) k)) 6 (itN s_dr0 (v.1 6) k)) 9 (upd (itN s_first0 (v.1 9) k) (32 + k) 0))] := D_re hD (adc (bX7_ad _ _ _ _) adn)
    refine lv_iload_n hx hb dX7_begins_71 rfl (lv_at hl 0 rfl) ?_
    refine lv_bipush (v := 8) hx hb dX7_begins_72 (by decide) ?_
    refine lv_icmp_ge (tgt := 87) hx hb dX7_begins_74 (by decide) (fun c_74 => ?_) (fun c_74 => ?_)
    · refine lv_iinc (v := nI (k + 1)) (lv' := [(1, .int (nI (k + 1))), (0, .ref (a 0))]) hx hb dX7_begins_87 hl (k := 0) rfl (nI_1 _) (by decide) rfl (fun ls hl => ?_)
      refine lv_goto (tgt := 55) hx hb dX7_begins_90 (by decide) ?_
      have hP : PP G [bX7 a G (setA (setA (setA (setA (setA v 3 (g_told0 (v.1 3))) 4 (upd (v.1 4) 1 0)) 7 (upd (v.1 7) 1 0)) 9 (itN s_first0 (v.1 9) (k + 1))) 6 (itN s_dr0 (v.1 6) (k + 1)))] H := by
        have e6 : itN s_dr0 (v.1 6) (k + 1) = itN s_dr0 (v.1 6) k := by rw [itN_s]; simp only [s_dr0, if_neg c_58, if_pos c_74]
        rw [e6]
        try simp only [ov_n1, ov_m1, ov_nc, ov_mc, ov_c] at hP ⊢
        exact hP
      have hD : DD (AA (List.flatten [bX7 a G v])) [bX7 a G (setA (setA (setA (setA (setA v 3 (g_told0 (v.1 3))) 4 (upd (v.1 4) 1 0)) 7 (upd (v.1 7) 1 0)) 9 (itN s_first0 (v.1 9) (k + 1))) 6 (itN s_dr0 (v.1 6) (k + 1)))] := D_re hD (adc (bX7_ad _ _ _ _) adn)
      exact ih_55  _ _ _ hP hD hS (show lv_has ls 2 [(1, .int (nI (k + 1))), (0, .ref (a 0))] from lv_sub hl [0, 1] rfl) 
    · have hk8 := nI_nle_lt (m := 8) (by omega) c_74
      refine lv_aload_n hx hb dX7_begins_77 rfl (lv_at hl 1 rfl) ?_
      refine kb_get (own := RX7) (C := RX7) (T := TX7) (N := 19) (v := .ref (a 5)) hx hb hts hin7 hown hX hP 0 rfl rfl rfl 6 (by decide) rfl (by decide +kernel) rfl dX7_begins_78 ?_
      refine lv_bipush (v := 8) hx hb dX7_begins_81 (by decide) ?_
      refine lv_iload_n hx hb dX7_begins_83 rfl (lv_at hl 0 rfl) ?_
      refine lv_iadd hx hb dX7_begins_84 ?_
      refine lv_iconst (v := 0) hx hb dX7_begins_85 (by decide) ?_
      refine kb_iastN (jn := 8 + k) (n := 16) (f := itN s_dr0 (v.1 6) k) hx hb hX hP hD hS 0 5 rfl rfl (by simp only [nI_addE, nI_mulE] <;> rfl) (by omega) (by decide) dX7_begins_86 (bX7_A6 a G (setA (setA (setA (setA (setA (setA v 3 (g_told0 (v.1 3))) 4 (upd (v.1 4) 1 0)) 7 (upd (v.1 7) 1 0)) 9 (itN s_first0 (v.1 9) k)) 6 (itN s_dr0 (v.1 6) k)) 9 (upd (itN s_first0 (v.1 9) k) (32 + k) 0)) (upd (itN s_dr0 (v.1 6) k) (8 + k) 0)) (fun H locs hP hD hS => ?_)
      have hP : PP G [bX7 a G (setA (setA (setA (setA (setA (setA (setA v 3 (g_told0 (v.1 3))) 4 (upd (v.1 4) 1 0)) 7 (upd (v.1 7) 1 0)) 9 (itN s_first0 (v.1 9) k)) 6 (itN s_dr0 (v.1 6) k)) 9 (upd (itN s_first0 (v.1 9) k) (32 + k) 0)) 6 (upd (itN s_dr0 (v.1 6) k) (8 + k) 0))] H := hP
      have hD : DD (AA (List.flatten [bX7 a G v])) [bX7 a G (setA (setA (setA (setA (setA (setA (setA v 3 (g_told0 (v.1 3))) 4 (upd (v.1 4) 1 0)) 7 (upd (v.1 7) 1 0)) 9 (itN s_first0 (v.1 9) k)) 6 (itN s_dr0 (v.1 6) k)) 9 (upd (itN s_first0 (v.1 9) k) (32 + k) 0)) 6 (upd (itN s_dr0 (v.1 6) k) (8 + k) 0))] := D_re hD (adc (bX7_ad _ _ _ _) adn)
      refine lv_iinc (v := nI (k + 1)) (lv' := [(1, .int (nI (k + 1))), (0, .ref (a 0))]) hx hb dX7_begins_87 hl (k := 0) rfl (nI_1 _) (by decide) rfl (fun ls hl => ?_)
      refine lv_goto (tgt := 55) hx hb dX7_begins_90 (by decide) ?_
      have hP : PP G [bX7 a G (setA (setA (setA (setA (setA v 3 (g_told0 (v.1 3))) 4 (upd (v.1 4) 1 0)) 7 (upd (v.1 7) 1 0)) 9 (itN s_first0 (v.1 9) (k + 1))) 6 (itN s_dr0 (v.1 6) (k + 1)))] H := by
        have e6 : itN s_dr0 (v.1 6) (k + 1) = upd (itN s_dr0 (v.1 6) k) (8 + k) 0 := by rw [itN_s]; simp only [s_dr0, if_neg c_58, if_neg c_74]
        rw [e6]
        try simp only [ov_n1, ov_m1, ov_nc, ov_mc, ov_c] at hP ⊢
        exact hP
      have hD : DD (AA (List.flatten [bX7 a G v])) [bX7 a G (setA (setA (setA (setA (setA v 3 (g_told0 (v.1 3))) 4 (upd (v.1 4) 1 0)) 7 (upd (v.1 7) 1 0)) 9 (itN s_first0 (v.1 9) (k + 1))) 6 (itN s_dr0 (v.1 6) (k + 1)))] := D_re hD (adc (bX7_ad _ _ _ _) adn)
      exact ih_55  _ _ _ hP hD hS (show lv_has ls 2 [(1, .int (nI (k + 1))), (0, .ref (a 0))] from lv_sub hl [0, 1] rfl) 
