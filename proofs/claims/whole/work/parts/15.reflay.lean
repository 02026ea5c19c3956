/-! the reference: beginning, taking, the fault, laying -/
theorem itN_0 {α : Type} (f : Nat → α → α) (s : α) : itN f s 0 = s := rfl
theorem ov_idI (v : OV) (t : Nat) : setI v t (v.2 t) = v := by
  refine Prod.ext rfl (funext fun u => ?_)
  simp only [setI]
  split
  · rename_i h; rw [h]
  · rfl
abbrev g_told0 (T : Nat → Int32) : Nat → Int32 := upd (upd (upd (upd (upd T 5 3) 6 3) 7 1) 8 1) 9 2
def s_first0 (k : Nat) (F : Nat → Int32) : Nat → Int32 := upd F (32 + k) 0
def s_dr0 (k : Nat) (F : Nat → Int32) : Nat → Int32 := if 8 ≤ nI k then F else upd F (8 + k) 0
def g_begins (u : OV) : OV := setA (setA (setA (setA (setA u 3 (g_told0 (u.1 3))) 4 (upd (u.1 4) 1 0)) 7 (upd (u.1 7) 1 0)) 9 (itN s_first0 (u.1 9) 32)) 6 (itN s_dr0 (u.1 6) 32)
def s_t9 (k : Nat) (F : Nat → Int32) : Nat → Int32 := upd F k (F (32 + k))
def s_t5 (k : Nat) (F : Nat → Int32) : Nat → Int32 := if 24 ≤ nI k then F else upd F k (F (24 + k))
def s_t8 (k : Nat) (F : Nat → Int32) : Nat → Int32 := if 12 ≤ nI k then F else upd F k (F (12 + k))
def s_t6 (k : Nat) (F : Nat → Int32) : Nat → Int32 := if 8 ≤ nI k then F else upd F k (F (8 + k))
def s_t3 (k : Nat) (F : Nat → Int32) : Nat → Int32 := if 5 ≤ nI k then F else upd F k (F (5 + k))
def s_sl (F : Nat → Int32) (k : Nat) (S : Nat → Int32) : Nat → Int32 := if 32 ≤ nI k then upd S k 0 else upd S k (F k)
def s_wh (E : Nat → Int32) (k : Nat) (S : Nat → Int32) : Nat → Int32 := upd S (40 + k) (E (3 * k))
def g_slot0 (F E L S : Nat → Int32) : Nat → Int32 := itN (s_wh E) (itN (s_sl F) S 46) (L 0).toNatClampNeg
def g_takes (u : OV) : OV := setI (setI (setA (setA (setA (setA (setA (setA (setA (setA u 4 (upd (u.1 4) 0 (u.1 4 1))) 7 (upd (u.1 7) 0 (u.1 7 1))) 9 (itN s_t9 (u.1 9) 32)) 5 (itN s_t5 (u.1 5) 32)) 8 (itN s_t8 (u.1 8) 32)) 6 (itN s_t6 (u.1 6) 32)) 3 (itN s_t3 (u.1 3) 32)) 10 (g_slot0 (itN s_t9 (u.1 9) 32) (itN s_t8 (u.1 8) 32) (upd (u.1 7) 0 (u.1 7 1)) (u.1 10))) 12 0) 11 0
def s_whD (v : OV) (d : Nat) (b : Bool) : Bool := if b = true then (if v.1 3 5 ≤ v.1 5 (24 + 3 * d) then false else if v.1 3 5 ≤ v.1 5 (25 + 3 * d) then false else if v.1 4 1 ≤ v.1 5 (26 + 3 * d) then false else true) else false
def s_whL (v : OV) (i : Nat) (b : Bool) : Bool := if b = true then (if v.1 3 5 ≤ v.1 8 (12 + 3 * i) then false else if v.1 3 5 ≤ v.1 8 (14 + 3 * i) then false else true) else false
def w0 (v : OV) : Bool := if v.1 4 1 ≤ 0 then false else if v.1 7 1 ≤ 0 then false else true
def g_isWhole (v : OV) : Bool := itN (s_whL v) (itN (s_whD v) (w0 v) (v.1 4 1).toNatClampNeg) (v.1 7 1).toNatClampNeg
/-- what holds while the text is read -/
def rdOk (u : OV) (len q : Nat) : Prop := u.2 2 = nI q ∧ u.2 0 = nI len ∧ (¬ u.1 4 1 < 0 ∧ (u.1 4 1).toNatClampNeg ≤ 8) ∧ (¬ u.1 7 1 < 0 ∧ (u.1 7 1).toNatClampNeg ≤ 4)
theorem inc_ok {x : Int32} {n : Nat} (hn : n < 2 ^ 30) (h0 : ¬ x < 0) (h : ¬ nI n ≤ x) : ¬ x + 1 < 0 ∧ (x + 1).toNatClampNeg ≤ n := by
  obtain ⟨j, hj, rfl⟩ := nI_of h0
  have h1 := nI_nle_lt hj h
  rw [nI_1, nI_clamp (by omega)]
  exact ⟨nI_pos (by omega), by omega⟩
theorem good_ok {u : OV} {len q : Nat} {l : Int32} (h : rdOk u len q) : rdOk (g_goodV u l) len q := by
  obtain ⟨h1, h2, h3, h4⟩ := h
  unfold g_goodV
  repeat' split
  all_goals first | exact ⟨h1, h2, h3, h4⟩ | skip
  · rename_i h8 h9
    refine ⟨h1, h2, ?_, h4⟩
    show ¬ (upd (u.1 4) 1 (u.1 4 1 + 1)) 1 < 0 ∧ ((upd (u.1 4) 1 (u.1 4 1 + 1)) 1).toNatClampNeg ≤ 8
    rw [pk_us]
    exact inc_ok (n := 8) (by decide) h3.1 (by assumption)
  · refine ⟨h1, h2, h3, ?_⟩
    show ¬ (upd (u.1 7) 1 (u.1 7 1 + 1)) 1 < 0 ∧ ((upd (u.1 7) 1 (u.1 7 1 + 1)) 1).toNatClampNeg ≤ 4
    rw [pk_us]
    exact inc_ok (n := 4) (by decide) h4.1 (by assumption)
theorem item_ok {u : OV} {len q : Nat} (h : rdOk u len q) : rdOk (g_itemV u q len) len (g_itemP u q len) := by
  unfold g_itemV g_itemP g_itemV3
  have h0 : ∀ (x : Nat) (F : Nat → Int32), rdOk (setI (setA (setI u 2 (nI x)) 18 F) 2 (nI (x + 1))) len (x + 1) := fun x F => ⟨rfl, h.2.1, h.2.2.1, h.2.2.2⟩
  repeat' split
  all_goals first | exact h0 _ _ | exact good_ok (h0 _ _)
theorem itemGo_ge (T : Nat → Int32) (len : Nat) : ∀ (n k q : Nat) (b : Bool) (F : Nat → Int32), q ≤ (itemGo T len n k q b F).1
  | 0, k, q, b, F => Nat.le_refl _
  | n + 1, k, q, b, F => by
    have hg : ∀ x, x ≤ g_numberP T len x := fun x => g_numberP_ge
    have hh : ∀ (x : Nat) (b : Bool) (F : Nat → Int32), x ≤ (itemGo T len n (k + 1) x b F).1 := fun x b F => itemGo_ge T len n (k + 1) x b F
    simp only [itemGo]
    have a1 := hg q
    have a2 := hg (q + 1)
    repeat' split
    all_goals first | exact Nat.le_refl _ | exact Nat.le_trans a1 (hh _ _ _) | exact Nat.le_trans (Nat.le_trans (Nat.le_succ q) a2) (hh _ _ _) | exact Nat.le_trans (Nat.le_succ q) (hh _ _ _)
theorem itemP_gt (u : OV) (q len : Nat) : q + 1 < g_itemP u q len := by
  have := itemGo_ge (u.1 1) len (g_numbers (u.1 1 q)).toNatClampNeg 0 (q + 1) (isB (g_numbers (u.1 1 q))) (u.1 18)
  unfold g_itemP g_itemR
  omega
theorem numP_le (T : Nat → Int32) (len q : Nat) : g_numberP T len q ≤ q + len := by
  have := (numGo_le T (len - q) q 0 0).1
  unfold g_numberP
  omega
theorem itemGo_le (T : Nat → Int32) (len : Nat) : ∀ (n k q : Nat) (b : Bool) (F : Nat → Int32), (itemGo T len n k q b F).1 ≤ q + n * (len + 1)
  | 0, k, q, b, F => by simp [itemGo]
  | n + 1, k, q, b, F => by
    have hh : ∀ (x : Nat) (b : Bool) (F : Nat → Int32), x ≤ q + (len + 1) → (itemGo T len n (k + 1) x b F).1 ≤ q + (n + 1) * (len + 1) := fun x b F hx => by
      have := itemGo_le T len n (k + 1) x b F
      rw [Nat.succ_mul]
      omega
    have a1 := numP_le T len q
    have a2 := numP_le T len (q + 1)
    simp only [itemGo]
    repeat' split
    all_goals first | exact hh _ _ _ (by omega) | (simp only; omega)
theorem item_le {u : OV} {q len : Nat} (hl : q + 4 * (len + 1) < 2 ^ 31) (h : g_itemK u q len = true) : g_itemP u q len ≤ len := by
  have hb := itemGo_le (u.1 1) len (g_numbers (u.1 1 q)).toNatClampNeg 0 (q + 1) (isB (g_numbers (u.1 1 q))) (u.1 18)
  have h3 := numbers_le (u.1 1 q)
  have hm : (g_numbers (u.1 1 q)).toNatClampNeg * (len + 1) ≤ 3 * (len + 1) := Nat.mul_le_mul_right _ h3
  unfold g_itemK g_itemK3 at h
  unfold g_itemP
  have hb2 : (g_itemR u q len).1 ≤ q + 1 + 3 * (len + 1) := by unfold g_itemR; omega
  revert h
  repeat' split
  all_goals first | (intro h; exact absurd h (by decide)) | skip
  all_goals
    intro _
    have := nI_nle_lt (by omega) (by assumption : ¬ nI len ≤ nI (g_itemR u q len).1)
    omega
def faultGo (len : Nat) : Nat → OV → Nat → Int32 × OV
  | 0, u, _ => (-4, u)
  | n + 1, u, q => if nI len ≤ nI q then (-4, u) else if g_itemK u q len = true then faultGo len n (g_itemV u q len) (g_itemP u q len) else (nI q, g_itemV u q len)
def g_fault (v : OV) (len : Nat) : Int32 × OV := faultGo len len (g_begins (setI v 2 0)) 0
theorem faultGo_ok {len : Nat} : ∀ (n : Nat) {u : OV} {q : Nat}, rdOk u len q → ∃ q', rdOk (faultGo len n u q).2 len q'
  | 0, u, q, h => ⟨q, h⟩
  | n + 1, u, q, h => by
    simp only [faultGo]
    split
    · exact ⟨q, h⟩
    · split
      · exact faultGo_ok n (item_ok h)
      · exact ⟨_, item_ok h⟩
theorem begins_ok {v : OV} {len : Nat} (h : v.2 0 = nI len) : rdOk (g_begins (setI v 2 0)) len 0 := by
  refine ⟨rfl, h, ?_, ?_⟩
  · show ¬ (upd (v.1 4) 1 0) 1 < 0 ∧ ((upd (v.1 4) 1 0) 1).toNatClampNeg ≤ 8
    rw [pk_us]; decide
  · show ¬ (upd (v.1 7) 1 0) 1 < 0 ∧ ((upd (v.1 7) 1 0) 1).toNatClampNeg ≤ 4
    rw [pk_us]; decide
def g_layR (v : OV) (len : Nat) : Int32 := if (g_fault v len).1 = -4 then (if g_isWhole (g_fault v len).2 = true then (g_takes (g_fault v len).2).1 4 0 else -2) else -2
def g_layV (v : OV) (len : Nat) : OV := if (g_fault v len).1 = -4 then (if g_isWhole (g_fault v len).2 = true then g_takes (g_fault v len).2 else (g_fault v len).2) else (g_fault v len).2

def rm_X7_begins : Room := { frames := 0, cells := 0, slots := 0, locals := 0 }
theorem hd_X7_begins : yX7_begins.cls = RX7 ∧ yX7_begins.cls ≠ "java/lang/invoke/MethodHandle" ∧ yX7_begins.cls ≠ "java/lang/invoke/VarHandle" ∧ (parseMethodDescriptor yX7_begins.desc).map (fun d => d.parameters.length) = some 0 := by decide +kernel
set_option maxRecDepth 100000 in
set_option maxHeartbeats 4000000 in
theorem c_X7_begins (l : Launch) (G : GD) (a : Nat → Nat) (v : OV)  : MetS l yX7_begins wsX7_begins rm_X7_begins G [bX7 a G v] [.ref (a 0)] (fun r bc => r = none ∧ bc = [bX7 a G (g_begins v)]) := by
  refine kb_beginS (cc := cX7_begins) (maxL := 2) (ret := none) (by decide) rfl (Nat.le_of_ble_eq_true rfl) ?_
  intro p e s m below meth c hx hb hr hml hown hts hlocks hX H locs hP hD hS ls hl
  have hown : s.vm.findClass RX7 = some m.cls := hown
  have hl : lv_has ls 2 [(0, .ref (a 0))] := hl
  have hin7 : ∀ w ∈ u_ws RX7 TX7 19, w ∈ wsX7_begins := (fun _ h => List.mem_cons_of_mem _ (List.mem_append_right _ (h)))
  refine lv_aload_n hx hb dX7_begins_0 rfl (lv_at hl 0 rfl) ?_
  refine kb_get (own := RX7) (C := RX7) (T := TX7) (N := 19) (v := .ref (a 2)) hx hb hts hin7 hown hX hP 0 rfl rfl rfl 3 (by decide) rfl (by decide +kernel) rfl dX7_begins_1 ?_
  refine lv_iconst (v := 5) hx hb dX7_begins_4 (by decide) ?_
  refine lv_iconst (v := 3) hx hb dX7_begins_5 (by decide) ?_
  refine kb_iastN (jn := 5) (n := 10) (f := v.1 3) hx hb hX hP hD hS 0 2 rfl rfl rfl (by omega) (by decide) dX7_begins_6 (bX7_A3 a G v (upd (v.1 3) 5 3)) (fun H locs hP hD hS => ?_)
  have hP : PP G [bX7 a G (setA v 3 (upd (v.1 3) 5 3))] H := hP
  have hD : DD (AA (List.flatten [bX7 a G v])) [bX7 a G (setA v 3 (upd (v.1 3) 5 3))] := D_re hD (adc (bX7_ad _ _ _ _) adn)
  refine lv_aload_n hx hb dX7_begins_7 rfl (lv_at hl 0 rfl) ?_
  refine kb_get (own := RX7) (C := RX7) (T := TX7) (N := 19) (v := .ref (a 2)) hx hb hts hin7 hown hX hP 0 rfl rfl rfl 3 (by decide) rfl (by decide +kernel) rfl dX7_begins_8 ?_
  refine lv_bipush (v := 6) hx hb dX7_begins_11 (by decide) ?_
  refine lv_iconst (v := 3) hx hb dX7_begins_13 (by decide) ?_
  refine kb_iastN (jn := 6) (n := 10) (f := upd (v.1 3) 5 3) hx hb hX hP hD hS 0 2 rfl rfl rfl (by omega) (by decide) dX7_begins_14 (bX7_A3 a G (setA v 3 (upd (v.1 3) 5 3)) (upd (upd (v.1 3) 5 3) 6 3)) (fun H locs hP hD hS => ?_)
  have hP : PP G [bX7 a G (setA (setA v 3 (upd (v.1 3) 5 3)) 3 (upd (upd (v.1 3) 5 3) 6 3))] H := hP
  have hD : DD (AA (List.flatten [bX7 a G v])) [bX7 a G (setA (setA v 3 (upd (v.1 3) 5 3)) 3 (upd (upd (v.1 3) 5 3) 6 3))] := D_re hD (adc (bX7_ad _ _ _ _) adn)
  refine lv_aload_n hx hb dX7_begins_15 rfl (lv_at hl 0 rfl) ?_
  refine kb_get (own := RX7) (C := RX7) (T := TX7) (N := 19) (v := .ref (a 2)) hx hb hts hin7 hown hX hP 0 rfl rfl rfl 3 (by decide) rfl (by decide +kernel) rfl dX7_begins_16 ?_
  refine lv_bipush (v := 7) hx hb dX7_begins_19 (by decide) ?_
  refine lv_iconst (v := 1) hx hb dX7_begins_21 (by decide) ?_
  refine kb_iastN (jn := 7) (n := 10) (f := upd (upd (v.1 3) 5 3) 6 3) hx hb hX hP hD hS 0 2 rfl rfl rfl (by omega) (by decide) dX7_begins_22 (bX7_A3 a G (setA (setA v 3 (upd (v.1 3) 5 3)) 3 (upd (upd (v.1 3) 5 3) 6 3)) (upd (upd (upd (v.1 3) 5 3) 6 3) 7 1)) (fun H locs hP hD hS => ?_)
  have hP : PP G [bX7 a G (setA (setA (setA v 3 (upd (v.1 3) 5 3)) 3 (upd (upd (v.1 3) 5 3) 6 3)) 3 (upd (upd (upd (v.1 3) 5 3) 6 3) 7 1))] H := hP
  have hD : DD (AA (List.flatten [bX7 a G v])) [bX7 a G (setA (setA (setA v 3 (upd (v.1 3) 5 3)) 3 (upd (upd (v.1 3) 5 3) 6 3)) 3 (upd (upd (upd (v.1 3) 5 3) 6 3) 7 1))] := D_re hD (adc (bX7_ad _ _ _ _) adn)
  refine lv_aload_n hx hb dX7_begins_23 rfl (lv_at hl 0 rfl) ?_
  refine kb_get (own := RX7) (C := RX7) (T := TX7) (N := 19) (v := .ref (a 2)) hx hb hts hin7 hown hX hP 0 rfl rfl rfl 3 (by decide) rfl (by decide +kernel) rfl dX7_begins_24 ?_
  refine lv_bipush (v := 8) hx hb dX7_begins_27 (by decide) ?_
  refine lv_iconst (v := 1) hx hb dX7_begins_29 (by decide) ?_
  refine kb_iastN (jn := 8) (n := 10) (f := upd (upd (upd (v.1 3) 5 3) 6 3) 7 1) hx hb hX hP hD hS 0 2 rfl rfl rfl (by omega) (by decide) dX7_begins_30 (bX7_A3 a G (setA (setA (setA v 3 (upd (v.1 3) 5 3)) 3 (upd (upd (v.1 3) 5 3) 6 3)) 3 (upd (upd (upd (v.1 3) 5 3) 6 3) 7 1)) (upd (upd (upd (upd (v.1 3) 5 3) 6 3) 7 1) 8 1)) (fun H locs hP hD hS => ?_)
  have hP : PP G [bX7 a G (setA (setA (setA (setA v 3 (upd (v.1 3) 5 3)) 3 (upd (upd (v.1 3) 5 3) 6 3)) 3 (upd (upd (upd (v.1 3) 5 3) 6 3) 7 1)) 3 (upd (upd (upd (upd (v.1 3) 5 3) 6 3) 7 1) 8 1))] H := hP
  have hD : DD (AA (List.flatten [bX7 a G v])) [bX7 a G (setA (setA (setA (setA v 3 (upd (v.1 3) 5 3)) 3 (upd (upd (v.1 3) 5 3) 6 3)) 3 (upd (upd (upd (v.1 3) 5 3) 6 3) 7 1)) 3 (upd (upd (upd (upd (v.1 3) 5 3) 6 3) 7 1) 8 1))] := D_re hD (adc (bX7_ad _ _ _ _) adn)
  refine lv_aload_n hx hb dX7_begins_31 rfl (lv_at hl 0 rfl) ?_
  refine kb_get (own := RX7) (C := RX7) (T := TX7) (N := 19) (v := .ref (a 2)) hx hb hts hin7 hown hX hP 0 rfl rfl rfl 3 (by decide) rfl (by decide +kernel) rfl dX7_begins_32 ?_
  refine lv_bipush (v := 9) hx hb dX7_begins_35 (by decide) ?_
  refine lv_iconst (v := 2) hx hb dX7_begins_37 (by decide) ?_
  refine kb_iastN (jn := 9) (n := 10) (f := upd (upd (upd (upd (v.1 3) 5 3) 6 3) 7 1) 8 1) hx hb hX hP hD hS 0 2 rfl rfl rfl (by omega) (by decide) dX7_begins_38 (bX7_A3 a G (setA (setA (setA (setA v 3 (upd (v.1 3) 5 3)) 3 (upd (upd (v.1 3) 5 3) 6 3)) 3 (upd (upd (upd (v.1 3) 5 3) 6 3) 7 1)) 3 (upd (upd (upd (upd (v.1 3) 5 3) 6 3) 7 1) 8 1)) (upd (upd (upd (upd (upd (v.1 3) 5 3) 6 3) 7 1) 8 1) 9 2)) (fun H locs hP hD hS => ?_)
  have hP : PP G [bX7 a G (setA (setA (setA (setA (setA v 3 (upd (v.1 3) 5 3)) 3 (upd (upd (v.1 3) 5 3) 6 3)) 3 (upd (upd (upd (v.1 3) 5 3) 6 3) 7 1)) 3 (upd (upd (upd (upd (v.1 3) 5 3) 6 3) 7 1) 8 1)) 3 (upd (upd (upd (upd (upd (v.1 3) 5 3) 6 3) 7 1) 8 1) 9 2))] H := hP
  have hD : DD (AA (List.flatten [bX7 a G v])) [bX7 a G (setA (setA (setA (setA (setA v 3 (upd (v.1 3) 5 3)) 3 (upd (upd (v.1 3) 5 3) 6 3)) 3 (upd (upd (upd (v.1 3) 5 3) 6 3) 7 1)) 3 (upd (upd (upd (upd (v.1 3) 5 3) 6 3) 7 1) 8 1)) 3 (upd (upd (upd (upd (upd (v.1 3) 5 3) 6 3) 7 1) 8 1) 9 2))] := D_re hD (adc (bX7_ad _ _ _ _) adn)
  refine lv_aload_n hx hb dX7_begins_39 rfl (lv_at hl 0 rfl) ?_
  refine kb_get (own := RX7) (C := RX7) (T := TX7) (N := 19) (v := .ref (a 3)) hx hb hts hin7 hown hX hP 0 rfl rfl rfl 4 (by decide) rfl (by decide +kernel) rfl dX7_begins_40 ?_
  refine lv_iconst (v := 1) hx hb dX7_begins_43 (by decide) ?_
  refine lv_iconst (v := 0) hx hb dX7_begins_44 (by decide) ?_
  refine kb_iastN (jn := 1) (n := 2) (f := v.1 4) hx hb hX hP hD hS 0 3 rfl rfl rfl (by omega) (by decide) dX7_begins_45 (bX7_A4 a G (setA (setA (setA (setA (setA v 3 (upd (v.1 3) 5 3)) 3 (upd (upd (v.1 3) 5 3) 6 3)) 3 (upd (upd (upd (v.1 3) 5 3) 6 3) 7 1)) 3 (upd (upd (upd (upd (v.1 3) 5 3) 6 3) 7 1) 8 1)) 3 (upd (upd (upd (upd (upd (v.1 3) 5 3) 6 3) 7 1) 8 1) 9 2)) (upd (v.1 4) 1 0)) (fun H locs hP hD hS => ?_)
  have hP : PP G [bX7 a G (setA (setA (setA (setA (setA (setA v 3 (upd (v.1 3) 5 3)) 3 (upd (upd (v.1 3) 5 3) 6 3)) 3 (upd (upd (upd (v.1 3) 5 3) 6 3) 7 1)) 3 (upd (upd (upd (upd (v.1 3) 5 3) 6 3) 7 1) 8 1)) 3 (upd (upd (upd (upd (upd (v.1 3) 5 3) 6 3) 7 1) 8 1) 9 2)) 4 (upd (v.1 4) 1 0))] H := hP
  have hD : DD (AA (List.flatten [bX7 a G v])) [bX7 a G (setA (setA (setA (setA (setA (setA v 3 (upd (v.1 3) 5 3)) 3 (upd (upd (v.1 3) 5 3) 6 3)) 3 (upd (upd (upd (v.1 3) 5 3) 6 3) 7 1)) 3 (upd (upd (upd (upd (v.1 3) 5 3) 6 3) 7 1) 8 1)) 3 (upd (upd (upd (upd (upd (v.1 3) 5 3) 6 3) 7 1) 8 1) 9 2)) 4 (upd (v.1 4) 1 0))] := D_re hD (adc (bX7_ad _ _ _ _) adn)
  refine lv_aload_n hx hb dX7_begins_46 rfl (lv_at hl 0 rfl) ?_
  refine kb_get (own := RX7) (C := RX7) (T := TX7) (N := 19) (v := .ref (a 6)) hx hb hts hin7 hown hX hP 0 rfl rfl rfl 7 (by decide) rfl (by decide +kernel) rfl dX7_begins_47 ?_
  refine lv_iconst (v := 1) hx hb dX7_begins_50 (by decide) ?_
  refine lv_iconst (v := 0) hx hb dX7_begins_51 (by decide) ?_
  refine kb_iastN (jn := 1) (n := 2) (f := v.1 7) hx hb hX hP hD hS 0 6 rfl rfl rfl (by omega) (by decide) dX7_begins_52 (bX7_A7 a G (setA (setA (setA (setA (setA (setA v 3 (upd (v.1 3) 5 3)) 3 (upd (upd (v.1 3) 5 3) 6 3)) 3 (upd (upd (upd (v.1 3) 5 3) 6 3) 7 1)) 3 (upd (upd (upd (upd (v.1 3) 5 3) 6 3) 7 1) 8 1)) 3 (upd (upd (upd (upd (upd (v.1 3) 5 3) 6 3) 7 1) 8 1) 9 2)) 4 (upd (v.1 4) 1 0)) (upd (v.1 7) 1 0)) (fun H locs hP hD hS => ?_)
  have hP : PP G [bX7 a G (setA (setA (setA (setA (setA (setA (setA v 3 (upd (v.1 3) 5 3)) 3 (upd (upd (v.1 3) 5 3) 6 3)) 3 (upd (upd (upd (v.1 3) 5 3) 6 3) 7 1)) 3 (upd (upd (upd (upd (v.1 3) 5 3) 6 3) 7 1) 8 1)) 3 (upd (upd (upd (upd (upd (v.1 3) 5 3) 6 3) 7 1) 8 1) 9 2)) 4 (upd (v.1 4) 1 0)) 7 (upd (v.1 7) 1 0))] H := hP
  have hD : DD (AA (List.flatten [bX7 a G v])) [bX7 a G (setA (setA (setA (setA (setA (setA (setA v 3 (upd (v.1 3) 5 3)) 3 (upd (upd (v.1 3) 5 3) 6 3)) 3 (upd (upd (upd (v.1 3) 5 3) 6 3) 7 1)) 3 (upd (upd (upd (upd (v.1 3) 5 3) 6 3) 7 1) 8 1)) 3 (upd (upd (upd (upd (upd (v.1 3) 5 3) 6 3) 7 1) 8 1) 9 2)) 4 (upd (v.1 4) 1 0)) 7 (upd (v.1 7) 1 0))] := D_re hD (adc (bX7_ad _ _ _ _) adn)
  refine lv_iconst (v := 0) hx hb dX7_begins_53 (by decide) ?_
  refine lv_istore_n (lv' := [(1, .int 0), (0, .ref (a 0))]) hx hb dX7_begins_54 rfl hl (by decide) rfl (fun ls hl => ?_)
  have eOV0 : (setA (setA (setA (setA (setA v 3 (g_told0 (v.1 3))) 4 (upd (v.1 4) 1 0)) 7 (upd (v.1 7) 1 0)) 9 (itN s_first0 (v.1 9) 0)) 6 (itN s_dr0 (v.1 6) 0)) = (setA (setA (setA (setA (setA (setA (setA v 3 (upd (v.1 3) 5 3)) 3 (upd (upd (v.1 3) 5 3) 6 3)) 3 (upd (upd (upd (v.1 3) 5 3) 6 3) 7 1)) 3 (upd (upd (upd (upd (v.1 3) 5 3) 6 3) 7 1) 8 1)) 3 (upd (upd (upd (upd (upd (v.1 3) 5 3) 6 3) 7 1) 8 1) 9 2)) 4 (upd (v.1 4) 1 0)) 7 (upd (v.1 7) 1 0)) := by
    refine Prod.ext (funext fun u => ?_) (funext fun u => ?_)
    · by_cases h3 : u = 3
      · subst h3; rfl
      · skip
        by_cases h4 : u = 4
        · subst h4; rfl
        · skip
          by_cases h7 : u = 7
          · subst h7; rfl
          · skip
            by_cases h9 : u = 9
            · subst h9; rfl
            · skip
              by_cases h6 : u = 6
              · subst h6; rfl
              · skip
                simp only [setA, setI, if_neg h3, if_neg h4, if_neg h7, if_neg h9, if_neg h6]
    · rfl
  have hP : PP G [bX7 a G (setA (setA (setA (setA (setA v 3 (g_told0 (v.1 3))) 4 (upd (v.1 4) 1 0)) 7 (upd (v.1 7) 1 0)) 9 (itN s_first0 (v.1 9) 0)) 6 (itN s_dr0 (v.1 6) 0))] H := by rw [eOV0]; exact hP
  have hD : DD (AA (List.flatten [bX7 a G v])) [bX7 a G (setA (setA (setA (setA (setA v 3 (g_told0 (v.1 3))) 4 (upd (v.1 4) 1 0)) 7 (upd (v.1 7) 1 0)) 9 (itN s_first0 (v.1 9) 0)) 6 (itN s_dr0 (v.1 6) 0))] := D_re hD (adc (bX7_ad _ _ _ _) adn)
  refine lp_up (N := 32) (P := fun k => ∀ (H : Heap) (locs : List Loc) (ls : Array Slot), PP G [bX7 a G (setA (setA (setA (setA (setA v 3 (g_told0 (v.1 3))) 4 (upd (v.1 4) 1 0)) 7 (upd (v.1 7) 1 0)) 9 (itN s_first0 (v.1 9) k)) 6 (itN s_dr0 (v.1 6) k))] H → DD (AA (List.flatten [bX7 a G v])) [bX7 a G (setA (setA (setA (setA (setA v 3 (g_told0 (v.1 3))) 4 (upd (v.1 4) 1 0)) 7 (upd (v.1 7) 1 0)) 9 (itN s_first0 (v.1 9) k)) 6 (itN s_dr0 (v.1 6) k))] → va_S (AA (List.flatten [bX7 a G v])) s.heap H locs → lv_has ls 2 [(1, .int (nI k)), (0, .ref (a 0))] →  W p l e (headSpec wsX7_begins rm_X7_begins).room s m ([.ref (a 0)] : List Value).toArray below meth c H locs 0 0 (MQ below (kQs G [bX7 a G v] (fun r bc => r = none ∧ bc = [bX7 a G (g_begins v)])) ([.ref (a 0)] : List Value).toArray s 0 0 (AA (List.flatten [bX7 a G v]))) (F0 m 55 ls [])) ?_ ?_ 0 (Nat.zero_le _)  _ _ _ hP hD hS (lv_sub hl [0, 1] rfl) 
  · skip
    intro H locs ls hP hD hS hl 
    refine lv_iload_n hx hb dX7_begins_55 rfl (lv_at hl 0 rfl) ?_
    refine lv_bipush (v := 32) hx hb dX7_begins_56 (by decide) ?_
    refine lv_icmp_ge (tgt := 93) hx hb dX7_begins_58 (by decide) (fun c_58 => ?_) (fun c_58 => absurd ((by decide : (32 : Int32) ≤ nI 32)) c_58)
    have hP : PP G [bX7 a G (g_begins v)] H := by
      unfold g_begins
      try simp only [ov_n1, ov_m1, ov_nc, ov_mc, ov_c] at hP ⊢
      exact hP
    exact kr_sv hx hb hr hlocks dX7_begins_93 hP hS (sameAd_cons (bX7_ad _ _ _ _) sameAd_nil) ⟨rfl, rfl⟩
  · skip
    intro k hk_k ih_55 H locs ls hP hD hS hl 
    refine lv_iload_n hx hb dX7_begins_55 rfl (lv_at hl 0 rfl) ?_
    refine lv_bipush (v := 32) hx hb dX7_begins_56 (by decide) ?_
    refine lv_icmp_ge (tgt := 93) hx hb dX7_begins_58 (by decide) (fun c_58 => absurd c_58 (nI_ge (b := 32) hk_k (by decide))) (fun c_58 => ?_)
    refine lv_aload_n hx hb dX7_begins_61 rfl (lv_at hl 1 rfl) ?_
    refine kb_get (own := RX7) (C := RX7) (T := TX7) (N := 19) (v := .ref (a 8)) hx hb hts hin7 hown hX hP 0 rfl rfl rfl 9 (by decide) rfl (by decide +kernel) rfl dX7_begins_62 ?_
    refine lv_bipush (v := 32) hx hb dX7_begins_65 (by decide) ?_
    refine lv_iload_n hx hb dX7_begins_67 rfl (lv_at hl 0 rfl) ?_
    refine lv_iadd hx hb dX7_begins_68 ?_
    refine lv_iconst (v := 0) hx hb dX7_begins_69 (by decide) ?_
    refine kb_iastN (jn := 32 + k) (n := 64) (f := itN s_first0 (v.1 9) k) hx hb hX hP hD hS 0 8 rfl rfl (by simp only [nI_addE, nI_mulE] <;> rfl) (by omega) (by decide) dX7_begins_70 (bX7_A9 a G (setA (setA (setA (setA (setA v 3 (g_told0 (v.1 3))) 4 (upd (v.1 4) 1 0)) 7 (upd (v.1 7) 1 0)) 9 (itN s_first0 (v.1 9) k)) 6 (itN s_dr0 (v.1 6) k)) (upd (itN s_first0 (v.1 9) k) (32 + k) 0)) (fun H locs hP hD hS => ?_)
    have hP : PP G [bX7 a G (setA (setA (setA (setA (setA (setA v 3 (g_told0 (v.1 3))) 4 (upd (v.1 4) 1 0)) 7 (upd (v.1 7) 1 0)) 9 (itN s_first0 (v.1 9) k)) 6 (itN s_dr0 (v.1 6) k)) 9 (upd (itN s_first0 (v.1 9) k) (32 + k) 0))] H := hP
    have hD : DD (AA (List.flatten [bX7 a G v])) [bX7 a G (setA (setA (setA (setA (setA (setA v 3 (g_told0 (v.1 3))) 4 (upd (v.1 4) 1 0)) 7 (upd (v.1 7) 1 0)) 9 (itN s_first0 (v.1 9) k)) 6 (itN s_dr0 (v.1 6) k)) 9 (upd (itN s_first0 (v.1 9) k) (32 + k) 0))] := D_re hD (adc (bX7_ad _ _ _ _) adn)
    refine lv_iload_n hx hb dX7_begins_71 rfl (lv_at hl 0 rfl) ?_
    refine lv_bipush (v := 8) hx hb dX7_begins_72 (by decide) ?_
    refine lv_icmp_ge (tgt := 87) hx hb dX7_begins_74 (by decide) (fun c_74 => ?_) (fun c_74 => ?_)
    · refine lv_iinc (v := nI (k + 1)) (lv' := [(1, .int (nI (k + 1))), (0, .ref (a 0))]) hx hb dX7_begins_87 hl (k := 0) rfl (nI_1 _) (by decide) rfl (fun ls hl => ?_)
      refine lv_goto (tgt := 55) hx hb dX7_begins_90 (by decide) ?_
      have hP : PP G [bX7 a G (setA (setA (setA (setA (setA v 3 (g_told0 (v.1 3))) 4 (upd (v.1 4) 1 0)) 7 (upd (v.1 7) 1 0)) 9 (itN s_first0 (v.1 9) (k + 1))) 6 (itN s_dr0 (v.1 6) (k + 1)))] H := by
        have e6 : itN s_dr0 (v.1 6) (k + 1) = itN s_dr0 (v.1 6) k := by rw [itN_s]; simp only [s_dr0, if_neg c_58, if_pos c_74]
        rw [e6]
        try simp only [ov_n1, ov_m1, ov_nc, ov_mc, ov_c] at hP ⊢
        exact hP
      have hD : DD (AA (List.flatten [bX7 a G v])) [bX7 a G (setA (setA (setA (setA (setA v 3 (g_told0 (v.1 3))) 4 (upd (v.1 4) 1 0)) 7 (upd (v.1 7) 1 0)) 9 (itN s_first0 (v.1 9) (k + 1))) 6 (itN s_dr0 (v.1 6) (k + 1)))] := D_re hD (adc (bX7_ad _ _ _ _) adn)
      exact ih_55  _ _ _ hP hD hS (show lv_has ls 2 [(1, .int (nI (k + 1))), (0, .ref (a 0))] from lv_sub hl [0, 1] rfl) 
    · have hk8 := nI_nle_lt (m := 8) (by omega) c_74
      refine lv_aload_n hx hb dX7_begins_77 rfl (lv_at hl 1 rfl) ?_
      refine kb_get (own := RX7) (C := RX7) (T := TX7) (N := 19) (v := .ref (a 5)) hx hb hts hin7 hown hX hP 0 rfl rfl rfl 6 (by decide) rfl (by decide +kernel) rfl dX7_begins_78 ?_
      refine lv_bipush (v := 8) hx hb dX7_begins_81 (by decide) ?_
      refine lv_iload_n hx hb dX7_begins_83 rfl (lv_at hl 0 rfl) ?_
      refine lv_iadd hx hb dX7_begins_84 ?_
      refine lv_iconst (v := 0) hx hb dX7_begins_85 (by decide) ?_
      refine kb_iastN (jn := 8 + k) (n := 16) (f := itN s_dr0 (v.1 6) k) hx hb hX hP hD hS 0 5 rfl rfl (by simp only [nI_addE, nI_mulE] <;> rfl) (by omega) (by decide) dX7_begins_86 (bX7_A6 a G (setA (setA (setA (setA (setA (setA v 3 (g_told0 (v.1 3))) 4 (upd (v.1 4) 1 0)) 7 (upd (v.1 7) 1 0)) 9 (itN s_first0 (v.1 9) k)) 6 (itN s_dr0 (v.1 6) k)) 9 (upd (itN s_first0 (v.1 9) k) (32 + k) 0)) (upd (itN s_dr0 (v.1 6) k) (8 + k) 0)) (fun H locs hP hD hS => ?_)
      have hP : PP G [bX7 a G (setA (setA (setA (setA (setA (setA (setA v 3 (g_told0 (v.1 3))) 4 (upd (v.1 4) 1 0)) 7 (upd (v.1 7) 1 0)) 9 (itN s_first0 (v.1 9) k)) 6 (itN s_dr0 (v.1 6) k)) 9 (upd (itN s_first0 (v.1 9) k) (32 + k) 0)) 6 (upd (itN s_dr0 (v.1 6) k) (8 + k) 0))] H := hP
      have hD : DD (AA (List.flatten [bX7 a G v])) [bX7 a G (setA (setA (setA (setA (setA (setA (setA v 3 (g_told0 (v.1 3))) 4 (upd (v.1 4) 1 0)) 7 (upd (v.1 7) 1 0)) 9 (itN s_first0 (v.1 9) k)) 6 (itN s_dr0 (v.1 6) k)) 9 (upd (itN s_first0 (v.1 9) k) (32 + k) 0)) 6 (upd (itN s_dr0 (v.1 6) k) (8 + k) 0))] := D_re hD (adc (bX7_ad _ _ _ _) adn)
      refine lv_iinc (v := nI (k + 1)) (lv' := [(1, .int (nI (k + 1))), (0, .ref (a 0))]) hx hb dX7_begins_87 hl (k := 0) rfl (nI_1 _) (by decide) rfl (fun ls hl => ?_)
      refine lv_goto (tgt := 55) hx hb dX7_begins_90 (by decide) ?_
      have hP : PP G [bX7 a G (setA (setA (setA (setA (setA v 3 (g_told0 (v.1 3))) 4 (upd (v.1 4) 1 0)) 7 (upd (v.1 7) 1 0)) 9 (itN s_first0 (v.1 9) (k + 1))) 6 (itN s_dr0 (v.1 6) (k + 1)))] H := by
        have e6 : itN s_dr0 (v.1 6) (k + 1) = upd (itN s_dr0 (v.1 6) k) (8 + k) 0 := by rw [itN_s]; simp only [s_dr0, if_neg c_58, if_neg c_74]
        rw [e6]
        try simp only [ov_n1, ov_m1, ov_nc, ov_mc, ov_c] at hP ⊢
        exact hP
      have hD : DD (AA (List.flatten [bX7 a G v])) [bX7 a G (setA (setA (setA (setA (setA v 3 (g_told0 (v.1 3))) 4 (upd (v.1 4) 1 0)) 7 (upd (v.1 7) 1 0)) 9 (itN s_first0 (v.1 9) (k + 1))) 6 (itN s_dr0 (v.1 6) (k + 1)))] := D_re hD (adc (bX7_ad _ _ _ _) adn)
      exact ih_55  _ _ _ hP hD hS (show lv_has ls 2 [(1, .int (nI (k + 1))), (0, .ref (a 0))] from lv_sub hl [0, 1] rfl) 

def rm_X7_takes : Room := { frames := 0, cells := 0, slots := 0, locals := 0 }
theorem hd_X7_takes : yX7_takes.cls = RX7 ∧ yX7_takes.cls ≠ "java/lang/invoke/MethodHandle" ∧ yX7_takes.cls ≠ "java/lang/invoke/VarHandle" ∧ (parseMethodDescriptor yX7_takes.desc).map (fun d => d.parameters.length) = some 0 := by decide +kernel
set_option maxRecDepth 100000 in
set_option maxHeartbeats 4000000 in
theorem c_X7_takes (l : Launch) (G : GD) (a : Nat → Nat) (v : OV) (hB2 : (v.1 7 1).toNatClampNeg ≤ 4) : MetS l yX7_takes wsX7_takes rm_X7_takes G [bX7 a G v] [.ref (a 0)] (fun r bc => r = none ∧ bc = [bX7 a G (g_takes v)]) := by
  refine kb_beginS (cc := cX7_takes) (maxL := 2) (ret := none) (by decide) rfl (Nat.le_of_ble_eq_true rfl) ?_
  intro p e s m below meth c hx hb hr hml hown hts hlocks hX H locs hP hD hS ls hl
  have hown : s.vm.findClass RX7 = some m.cls := hown
  have hl : lv_has ls 2 [(0, .ref (a 0))] := hl
  have hin7 : ∀ w ∈ u_ws RX7 TX7 19, w ∈ wsX7_takes := (fun _ h => List.mem_cons_of_mem _ (List.mem_append_right _ (h)))
  have hP : PP G [bX7 a G (setA (setA (setA (setA (setA (setA (setA (setA (setI (setI v 11 (v.2 11)) 12 (v.2 12)) 3 (v.1 3)) 4 (v.1 4)) 5 (v.1 5)) 6 (v.1 6)) 7 (v.1 7)) 8 (v.1 8)) 9 (v.1 9)) 10 (v.1 10))] H := by simp only [ov_id, ov_idI]; exact hP
  have hD : DD (AA (List.flatten [bX7 a G v])) [bX7 a G (setA (setA (setA (setA (setA (setA (setA (setA (setI (setI v 11 (v.2 11)) 12 (v.2 12)) 3 (v.1 3)) 4 (v.1 4)) 5 (v.1 5)) 6 (v.1 6)) 7 (v.1 7)) 8 (v.1 8)) 9 (v.1 9)) 10 (v.1 10))] := D_re hD (adc (bX7_ad _ _ _ _) adn)
  refine lv_aload_n hx hb dX7_takes_0 rfl (lv_at hl 0 rfl) ?_
  refine kb_get (own := RX7) (C := RX7) (T := TX7) (N := 19) (v := .ref (a 3)) hx hb hts hin7 hown hX hP 0 rfl rfl rfl 4 (by decide) rfl (by decide +kernel) rfl dX7_takes_1 ?_
  refine lv_iconst (v := 0) hx hb dX7_takes_4 (by decide) ?_
  refine lv_aload_n hx hb dX7_takes_5 rfl (lv_at hl 0 rfl) ?_
  refine kb_get (own := RX7) (C := RX7) (T := TX7) (N := 19) (v := .ref (a 3)) hx hb hts hin7 hown hX hP 0 rfl rfl rfl 4 (by decide) rfl (by decide +kernel) rfl dX7_takes_6 ?_
  refine lv_iconst (v := 1) hx hb dX7_takes_9 (by decide) ?_
  refine kb_ialdN (jn := 1) (n := 2) (f := v.1 4) hx hb hX hP 0 3 rfl rfl rfl (by omega) (by decide) dX7_takes_10 ?_
  refine kb_iastN (jn := 0) (n := 2) (f := v.1 4) hx hb hX hP hD hS 0 3 rfl rfl rfl (by omega) (by decide) dX7_takes_11 (bX7_A4 a G (setA (setA (setA (setA (setA (setA (setA (setA (setI (setI v 11 (v.2 11)) 12 (v.2 12)) 3 (v.1 3)) 4 (v.1 4)) 5 (v.1 5)) 6 (v.1 6)) 7 (v.1 7)) 8 (v.1 8)) 9 (v.1 9)) 10 (v.1 10)) (upd (v.1 4) 0 ((v.1 4) 1))) (fun H locs hP hD hS => ?_)
  have hP : PP G [bX7 a G (setA (setA (setA (setA (setA (setA (setA (setA (setA (setI (setI v 11 (v.2 11)) 12 (v.2 12)) 3 (v.1 3)) 4 (v.1 4)) 5 (v.1 5)) 6 (v.1 6)) 7 (v.1 7)) 8 (v.1 8)) 9 (v.1 9)) 10 (v.1 10)) 4 (upd (v.1 4) 0 ((v.1 4) 1)))] H := hP
  have hD : DD (AA (List.flatten [bX7 a G v])) [bX7 a G (setA (setA (setA (setA (setA (setA (setA (setA (setA (setI (setI v 11 (v.2 11)) 12 (v.2 12)) 3 (v.1 3)) 4 (v.1 4)) 5 (v.1 5)) 6 (v.1 6)) 7 (v.1 7)) 8 (v.1 8)) 9 (v.1 9)) 10 (v.1 10)) 4 (upd (v.1 4) 0 ((v.1 4) 1)))] := D_re hD (adc (bX7_ad _ _ _ _) adn)
  refine lv_aload_n hx hb dX7_takes_12 rfl (lv_at hl 0 rfl) ?_
  refine kb_get (own := RX7) (C := RX7) (T := TX7) (N := 19) (v := .ref (a 6)) hx hb hts hin7 hown hX hP 0 rfl rfl rfl 7 (by decide) rfl (by decide +kernel) rfl dX7_takes_13 ?_
  refine lv_iconst (v := 0) hx hb dX7_takes_16 (by decide) ?_
  refine lv_aload_n hx hb dX7_takes_17 rfl (lv_at hl 0 rfl) ?_
  refine kb_get (own := RX7) (C := RX7) (T := TX7) (N := 19) (v := .ref (a 6)) hx hb hts hin7 hown hX hP 0 rfl rfl rfl 7 (by decide) rfl (by decide +kernel) rfl dX7_takes_18 ?_
  refine lv_iconst (v := 1) hx hb dX7_takes_21 (by decide) ?_
  refine kb_ialdN (jn := 1) (n := 2) (f := v.1 7) hx hb hX hP 0 6 rfl rfl rfl (by omega) (by decide) dX7_takes_22 ?_
  refine kb_iastN (jn := 0) (n := 2) (f := v.1 7) hx hb hX hP hD hS 0 6 rfl rfl rfl (by omega) (by decide) dX7_takes_23 (bX7_A7 a G (setA (setA (setA (setA (setA (setA (setA (setA (setA (setI (setI v 11 (v.2 11)) 12 (v.2 12)) 3 (v.1 3)) 4 (v.1 4)) 5 (v.1 5)) 6 (v.1 6)) 7 (v.1 7)) 8 (v.1 8)) 9 (v.1 9)) 10 (v.1 10)) 4 (upd (v.1 4) 0 ((v.1 4) 1))) (upd (v.1 7) 0 ((v.1 7) 1))) (fun H locs hP hD hS => ?_)
  have hP : PP G [bX7 a G (setA (setA (setA (setA (setA (setA (setA (setA (setA (setA (setI (setI v 11 (v.2 11)) 12 (v.2 12)) 3 (v.1 3)) 4 (v.1 4)) 5 (v.1 5)) 6 (v.1 6)) 7 (v.1 7)) 8 (v.1 8)) 9 (v.1 9)) 10 (v.1 10)) 4 (upd (v.1 4) 0 ((v.1 4) 1))) 7 (upd (v.1 7) 0 ((v.1 7) 1)))] H := hP
  have hD : DD (AA (List.flatten [bX7 a G v])) [bX7 a G (setA (setA (setA (setA (setA (setA (setA (setA (setA (setA (setI (setI v 11 (v.2 11)) 12 (v.2 12)) 3 (v.1 3)) 4 (v.1 4)) 5 (v.1 5)) 6 (v.1 6)) 7 (v.1 7)) 8 (v.1 8)) 9 (v.1 9)) 10 (v.1 10)) 4 (upd (v.1 4) 0 ((v.1 4) 1))) 7 (upd (v.1 7) 0 ((v.1 7) 1)))] := D_re hD (adc (bX7_ad _ _ _ _) adn)
  refine lv_iconst (v := 0) hx hb dX7_takes_24 (by decide) ?_
  refine lv_istore_n (lv' := [(1, .int 0), (0, .ref (a 0))]) hx hb dX7_takes_25 rfl hl (by decide) rfl (fun ls hl => ?_)
  have hP : PP G [bX7 a G (setA (setA (setA (setA (setA (setA (setA (setA (setI (setI v 11 (v.2 11)) 12 (v.2 12)) 4 (upd (v.1 4) 0 (v.1 4 1))) 7 (upd (v.1 7) 0 (v.1 7 1))) 9 (itN s_t9 (v.1 9) 0)) 5 (itN s_t5 (v.1 5) 0)) 8 (itN s_t8 (v.1 8) 0)) 6 (itN s_t6 (v.1 6) 0)) 3 (itN s_t3 (v.1 3) 0)) 10 (v.1 10))] H := by
    try simp only [itN_0, ov_n1, ov_m1, ov_nc, ov_mc, ov_c] at hP ⊢
    exact hP
  have hD : DD (AA (List.flatten [bX7 a G v])) [bX7 a G (setA (setA (setA (setA (setA (setA (setA (setA (setI (setI v 11 (v.2 11)) 12 (v.2 12)) 4 (upd (v.1 4) 0 (v.1 4 1))) 7 (upd (v.1 7) 0 (v.1 7 1))) 9 (itN s_t9 (v.1 9) 0)) 5 (itN s_t5 (v.1 5) 0)) 8 (itN s_t8 (v.1 8) 0)) 6 (itN s_t6 (v.1 6) 0)) 3 (itN s_t3 (v.1 3) 0)) 10 (v.1 10))] := D_re hD (adc (bX7_ad _ _ _ _) adn)
  refine lp_up (N := 32) (P := fun k => ∀ (H : Heap) (locs : List Loc) (ls : Array Slot), PP G [bX7 a G (setA (setA (setA (setA (setA (setA (setA (setA (setI (setI v 11 (v.2 11)) 12 (v.2 12)) 4 (upd (v.1 4) 0 (v.1 4 1))) 7 (upd (v.1 7) 0 (v.1 7 1))) 9 (itN s_t9 (v.1 9) k)) 5 (itN s_t5 (v.1 5) k)) 8 (itN s_t8 (v.1 8) k)) 6 (itN s_t6 (v.1 6) k)) 3 (itN s_t3 (v.1 3) k)) 10 (v.1 10))] H → DD (AA (List.flatten [bX7 a G v])) [bX7 a G (setA (setA (setA (setA (setA (setA (setA (setA (setI (setI v 11 (v.2 11)) 12 (v.2 12)) 4 (upd (v.1 4) 0 (v.1 4 1))) 7 (upd (v.1 7) 0 (v.1 7 1))) 9 (itN s_t9 (v.1 9) k)) 5 (itN s_t5 (v.1 5) k)) 8 (itN s_t8 (v.1 8) k)) 6 (itN s_t6 (v.1 6) k)) 3 (itN s_t3 (v.1 3) k)) 10 (v.1 10))] → va_S (AA (List.flatten [bX7 a G v])) s.heap H locs → lv_has ls 2 [(1, .int (nI k)), (0, .ref (a 0))] →  W p l e (headSpec wsX7_takes rm_X7_takes).room s m ([.ref (a 0)] : List Value).toArray below meth c H locs 0 0 (MQ below (kQs G [bX7 a G v] (fun r bc => r = none ∧ bc = [bX7 a G (g_takes v)])) ([.ref (a 0)] : List Value).toArray s 0 0 (AA (List.flatten [bX7 a G v]))) (F0 m 26 ls [])) ?_ ?_ 0 (Nat.zero_le _)  _ _ _ hP hD hS (lv_sub hl [0, 1] rfl) 
  · skip
    intro H locs ls hP hD hS hl 
    refine lv_iload_n hx hb dX7_takes_26 rfl (lv_at hl 0 rfl) ?_
    refine lv_bipush (v := 32) hx hb dX7_takes_27 (by decide) ?_
    refine lv_icmp_ge (tgt := 135) hx hb dX7_takes_29 (by decide) (fun c_29 => ?_) (fun c_29 => absurd ((by decide : (32 : Int32) ≤ nI 32)) c_29)
    obtain ⟨E9, hE9⟩ : ∃ E : Nat → Int32, E = itN s_t9 (v.1 9) 32 := ⟨_, rfl⟩
    obtain ⟨E5, hE5⟩ : ∃ E : Nat → Int32, E = itN s_t5 (v.1 5) 32 := ⟨_, rfl⟩
    obtain ⟨E8, hE8⟩ : ∃ E : Nat → Int32, E = itN s_t8 (v.1 8) 32 := ⟨_, rfl⟩
    obtain ⟨E6, hE6⟩ : ∃ E : Nat → Int32, E = itN s_t6 (v.1 6) 32 := ⟨_, rfl⟩
    obtain ⟨E3, hE3⟩ : ∃ E : Nat → Int32, E = itN s_t3 (v.1 3) 32 := ⟨_, rfl⟩
    have hP : PP G [bX7 a G (setA (setA (setA (setA (setA (setA (setA (setA (setI (setI v 11 (v.2 11)) 12 (v.2 12)) 4 (upd (v.1 4) 0 (v.1 4 1))) 7 (upd (v.1 7) 0 (v.1 7 1))) 9 E9) 5 E5) 8 E8) 6 E6) 3 E3) 10 (v.1 10))] H := by rw [hE9, hE5, hE8, hE6, hE3]; exact hP
    have hD : DD (AA (List.flatten [bX7 a G v])) [bX7 a G (setA (setA (setA (setA (setA (setA (setA (setA (setI (setI v 11 (v.2 11)) 12 (v.2 12)) 4 (upd (v.1 4) 0 (v.1 4 1))) 7 (upd (v.1 7) 0 (v.1 7 1))) 9 E9) 5 E5) 8 E8) 6 E6) 3 E3) 10 (v.1 10))] := D_re hD (adc (bX7_ad _ _ _ _) adn)
    refine lv_iconst (v := 0) hx hb dX7_takes_135 (by decide) ?_
    refine lv_istore_n (lv' := [(1, .int 0), (0, .ref (a 0))]) hx hb dX7_takes_136 rfl hl (by decide) rfl (fun ls hl => ?_)
    have hP : PP G [bX7 a G (setA (setA (setA (setA (setA (setA (setA (setA (setI (setI v 11 (v.2 11)) 12 (v.2 12)) 4 (upd (v.1 4) 0 (v.1 4 1))) 7 (upd (v.1 7) 0 (v.1 7 1))) 9 E9) 5 E5) 8 E8) 6 E6) 3 E3) 10 (itN (s_sl E9) (v.1 10) 0))] H := by
      try simp only [itN_0, ov_n1, ov_m1, ov_nc, ov_mc, ov_c] at hP ⊢
      exact hP
    have hD : DD (AA (List.flatten [bX7 a G v])) [bX7 a G (setA (setA (setA (setA (setA (setA (setA (setA (setI (setI v 11 (v.2 11)) 12 (v.2 12)) 4 (upd (v.1 4) 0 (v.1 4 1))) 7 (upd (v.1 7) 0 (v.1 7 1))) 9 E9) 5 E5) 8 E8) 6 E6) 3 E3) 10 (itN (s_sl E9) (v.1 10) 0))] := D_re hD (adc (bX7_ad _ _ _ _) adn)
    refine lp_up (N := 46) (P := fun k => ∀ (H : Heap) (locs : List Loc) (ls : Array Slot), PP G [bX7 a G (setA (setA (setA (setA (setA (setA (setA (setA (setI (setI v 11 (v.2 11)) 12 (v.2 12)) 4 (upd (v.1 4) 0 (v.1 4 1))) 7 (upd (v.1 7) 0 (v.1 7 1))) 9 E9) 5 E5) 8 E8) 6 E6) 3 E3) 10 (itN (s_sl E9) (v.1 10) k))] H → DD (AA (List.flatten [bX7 a G v])) [bX7 a G (setA (setA (setA (setA (setA (setA (setA (setA (setI (setI v 11 (v.2 11)) 12 (v.2 12)) 4 (upd (v.1 4) 0 (v.1 4 1))) 7 (upd (v.1 7) 0 (v.1 7 1))) 9 E9) 5 E5) 8 E8) 6 E6) 3 E3) 10 (itN (s_sl E9) (v.1 10) k))] → va_S (AA (List.flatten [bX7 a G v])) s.heap H locs → lv_has ls 2 [(1, .int (nI k)), (0, .ref (a 0))] →  W p l e (headSpec wsX7_takes rm_X7_takes).room s m ([.ref (a 0)] : List Value).toArray below meth c H locs 0 0 (MQ below (kQs G [bX7 a G v] (fun r bc => r = none ∧ bc = [bX7 a G (g_takes v)])) ([.ref (a 0)] : List Value).toArray s 0 0 (AA (List.flatten [bX7 a G v]))) (F0 m 137 ls [])) ?_ ?_ 0 (Nat.zero_le _)  _ _ _ hP hD hS (lv_sub hl [0, 1] rfl) 
    · skip
      intro H locs ls hP hD hS hl 
      refine lv_iload_n hx hb dX7_takes_137 rfl (lv_at hl 0 rfl) ?_
      refine lv_bipush (v := 46) hx hb dX7_takes_138 (by decide) ?_
      refine lv_icmp_ge (tgt := 171) hx hb dX7_takes_140 (by decide) (fun c_140 => ?_) (fun c_140 => absurd ((by decide : (46 : Int32) ≤ nI 46)) c_140)
      obtain ⟨E10, hE10⟩ : ∃ E : Nat → Int32, E = itN (s_sl E9) (v.1 10) 46 := ⟨_, rfl⟩
      have hP : PP G [bX7 a G (setA (setA (setA (setA (setA (setA (setA (setA (setI (setI v 11 (v.2 11)) 12 (v.2 12)) 4 (upd (v.1 4) 0 (v.1 4 1))) 7 (upd (v.1 7) 0 (v.1 7 1))) 9 E9) 5 E5) 8 E8) 6 E6) 3 E3) 10 E10)] H := by rw [hE10]; exact hP
      have hD : DD (AA (List.flatten [bX7 a G v])) [bX7 a G (setA (setA (setA (setA (setA (setA (setA (setA (setI (setI v 11 (v.2 11)) 12 (v.2 12)) 4 (upd (v.1 4) 0 (v.1 4 1))) 7 (upd (v.1 7) 0 (v.1 7 1))) 9 E9) 5 E5) 8 E8) 6 E6) 3 E3) 10 E10)] := D_re hD (adc (bX7_ad _ _ _ _) adn)
      refine lv_iconst (v := 0) hx hb dX7_takes_171 (by decide) ?_
      refine lv_istore_n (lv' := [(1, .int 0), (0, .ref (a 0))]) hx hb dX7_takes_172 rfl hl (by decide) rfl (fun ls hl => ?_)
      have hLb : ((upd (v.1 7) 0 (v.1 7 1)) 0).toNatClampNeg ≤ 4 := by rw [pk_us]; exact hB2
      have hP : PP G [bX7 a G (setA (setA (setA (setA (setA (setA (setA (setA (setI (setI v 11 (v.2 11)) 12 (v.2 12)) 4 (upd (v.1 4) 0 (v.1 4 1))) 7 (upd (v.1 7) 0 (v.1 7 1))) 9 E9) 5 E5) 8 E8) 6 E6) 3 E3) 10 (itN (s_wh E8) E10 0))] H := by
        try simp only [itN_0, ov_n1, ov_m1, ov_nc, ov_mc, ov_c] at hP ⊢
        exact hP
      have hD : DD (AA (List.flatten [bX7 a G v])) [bX7 a G (setA (setA (setA (setA (setA (setA (setA (setA (setI (setI v 11 (v.2 11)) 12 (v.2 12)) 4 (upd (v.1 4) 0 (v.1 4 1))) 7 (upd (v.1 7) 0 (v.1 7 1))) 9 E9) 5 E5) 8 E8) 6 E6) 3 E3) 10 (itN (s_wh E8) E10 0))] := D_re hD (adc (bX7_ad _ _ _ _) adn)
      refine lp_up (N := ((upd (v.1 7) 0 (v.1 7 1)) 0).toNatClampNeg) (P := fun k => ∀ (H : Heap) (locs : List Loc) (ls : Array Slot), PP G [bX7 a G (setA (setA (setA (setA (setA (setA (setA (setA (setI (setI v 11 (v.2 11)) 12 (v.2 12)) 4 (upd (v.1 4) 0 (v.1 4 1))) 7 (upd (v.1 7) 0 (v.1 7 1))) 9 E9) 5 E5) 8 E8) 6 E6) 3 E3) 10 (itN (s_wh E8) E10 k))] H → DD (AA (List.flatten [bX7 a G v])) [bX7 a G (setA (setA (setA (setA (setA (setA (setA (setA (setI (setI v 11 (v.2 11)) 12 (v.2 12)) 4 (upd (v.1 4) 0 (v.1 4 1))) 7 (upd (v.1 7) 0 (v.1 7 1))) 9 E9) 5 E5) 8 E8) 6 E6) 3 E3) 10 (itN (s_wh E8) E10 k))] → va_S (AA (List.flatten [bX7 a G v])) s.heap H locs → lv_has ls 2 [(1, .int (nI k)), (0, .ref (a 0))] →  W p l e (headSpec wsX7_takes rm_X7_takes).room s m ([.ref (a 0)] : List Value).toArray below meth c H locs 0 0 (MQ below (kQs G [bX7 a G v] (fun r bc => r = none ∧ bc = [bX7 a G (g_takes v)])) ([.ref (a 0)] : List Value).toArray s 0 0 (AA (List.flatten [bX7 a G v]))) (F0 m 173 ls [])) ?_ ?_ 0 (Nat.zero_le _)  _ _ _ hP hD hS (lv_sub hl [0, 1] rfl) 
      · skip
        intro H locs ls hP hD hS hl 
        refine lv_iload_n hx hb dX7_takes_173 rfl (lv_at hl 0 rfl) ?_
        refine lv_aload_n hx hb dX7_takes_174 rfl (lv_at hl 1 rfl) ?_
        refine kb_get (own := RX7) (C := RX7) (T := TX7) (N := 19) (v := .ref (a 6)) hx hb hts hin7 hown hX hP 0 rfl rfl rfl 7 (by decide) rfl (by decide +kernel) rfl dX7_takes_175 ?_
        refine lv_iconst (v := 0) hx hb dX7_takes_178 (by decide) ?_
        refine kb_ialdN (jn := 0) (n := 2) (f := upd (v.1 7) 0 (v.1 7 1)) hx hb hX hP 0 6 rfl rfl rfl (by omega) (by decide) dX7_takes_179 ?_
        refine lv_icmp_ge (tgt := 206) hx hb dX7_takes_180 (by decide) (fun c_180 => ?_) (fun c_180 => absurd (lpx_c _) c_180)
        refine lv_aload_n hx hb dX7_takes_206 rfl (lv_at hl 1 rfl) ?_
        refine lv_iconst (v := 0) hx hb dX7_takes_207 (by decide) ?_
        refine kb_put (own := RX7) (C := RX7) (T := TX7) (N := 19) hx hb hts hin7 tyX7 tyX7_ok nmX7 (ty := .int) hown hX hP hD hS 0 rfl rfl rfl 12 (by decide) rfl (by decide +kernel) (by decide +kernel) rfl rfl (Nat.le_of_ble_eq_true rfl) dX7_takes_208 (bX7_I12 a G (setA (setA (setA (setA (setA (setA (setA (setA (setI (setI v 11 (v.2 11)) 12 (v.2 12)) 4 (upd (v.1 4) 0 (v.1 4 1))) 7 (upd (v.1 7) 0 (v.1 7 1))) 9 E9) 5 E5) 8 E8) 6 E6) 3 E3) 10 (itN (s_wh E8) E10 (((upd (v.1 7) 0 (v.1 7 1)) 0).toNatClampNeg))) 0) (fun H locs hP hD hS => ?_)
        have hP : PP G [bX7 a G (setI (setA (setA (setA (setA (setA (setA (setA (setA (setI (setI v 11 (v.2 11)) 12 (v.2 12)) 4 (upd (v.1 4) 0 (v.1 4 1))) 7 (upd (v.1 7) 0 (v.1 7 1))) 9 E9) 5 E5) 8 E8) 6 E6) 3 E3) 10 (itN (s_wh E8) E10 (((upd (v.1 7) 0 (v.1 7 1)) 0).toNatClampNeg))) 12 0)] H := hP
        have hD : DD (AA (List.flatten [bX7 a G v])) [bX7 a G (setI (setA (setA (setA (setA (setA (setA (setA (setA (setI (setI v 11 (v.2 11)) 12 (v.2 12)) 4 (upd (v.1 4) 0 (v.1 4 1))) 7 (upd (v.1 7) 0 (v.1 7 1))) 9 E9) 5 E5) 8 E8) 6 E6) 3 E3) 10 (itN (s_wh E8) E10 (((upd (v.1 7) 0 (v.1 7 1)) 0).toNatClampNeg))) 12 0)] := D_re hD (adc (bX7_ad _ _ _ _) adn)
        refine lv_aload_n hx hb dX7_takes_211 rfl (lv_at hl 1 rfl) ?_
        refine lv_iconst (v := 0) hx hb dX7_takes_212 (by decide) ?_
        refine kb_put (own := RX7) (C := RX7) (T := TX7) (N := 19) hx hb hts hin7 tyX7 tyX7_ok nmX7 (ty := .int) hown hX hP hD hS 0 rfl rfl rfl 11 (by decide) rfl (by decide +kernel) (by decide +kernel) rfl rfl (Nat.le_of_ble_eq_true rfl) dX7_takes_213 (bX7_I11 a G (setI (setA (setA (setA (setA (setA (setA (setA (setA (setI (setI v 11 (v.2 11)) 12 (v.2 12)) 4 (upd (v.1 4) 0 (v.1 4 1))) 7 (upd (v.1 7) 0 (v.1 7 1))) 9 E9) 5 E5) 8 E8) 6 E6) 3 E3) 10 (itN (s_wh E8) E10 (((upd (v.1 7) 0 (v.1 7 1)) 0).toNatClampNeg))) 12 0) 0) (fun H locs hP hD hS => ?_)
        have hP : PP G [bX7 a G (setI (setI (setA (setA (setA (setA (setA (setA (setA (setA (setI (setI v 11 (v.2 11)) 12 (v.2 12)) 4 (upd (v.1 4) 0 (v.1 4 1))) 7 (upd (v.1 7) 0 (v.1 7 1))) 9 E9) 5 E5) 8 E8) 6 E6) 3 E3) 10 (itN (s_wh E8) E10 (((upd (v.1 7) 0 (v.1 7 1)) 0).toNatClampNeg))) 12 0) 11 0)] H := hP
        have hD : DD (AA (List.flatten [bX7 a G v])) [bX7 a G (setI (setI (setA (setA (setA (setA (setA (setA (setA (setA (setI (setI v 11 (v.2 11)) 12 (v.2 12)) 4 (upd (v.1 4) 0 (v.1 4 1))) 7 (upd (v.1 7) 0 (v.1 7 1))) 9 E9) 5 E5) 8 E8) 6 E6) 3 E3) 10 (itN (s_wh E8) E10 (((upd (v.1 7) 0 (v.1 7 1)) 0).toNatClampNeg))) 12 0) 11 0)] := D_re hD (adc (bX7_ad _ _ _ _) adn)
        have hP : PP G [bX7 a G (g_takes v)] H := by
          subst hE10 hE9 hE5 hE8 hE6 hE3
          unfold g_takes g_slot0
          try simp only [ov_n1, ov_m1, ov_nc, ov_mc, ov_c] at hP ⊢
          exact hP
        exact kr_sv hx hb hr hlocks dX7_takes_216 hP hS (sameAd_cons (bX7_ad _ _ _ _) sameAd_nil) ⟨rfl, rfl⟩
      · skip
        intro k hk_k ih_173 H locs ls hP hD hS hl 
        refine lv_iload_n hx hb dX7_takes_173 rfl (lv_at hl 0 rfl) ?_
        refine lv_aload_n hx hb dX7_takes_174 rfl (lv_at hl 1 rfl) ?_
        refine kb_get (own := RX7) (C := RX7) (T := TX7) (N := 19) (v := .ref (a 6)) hx hb hts hin7 hown hX hP 0 rfl rfl rfl 7 (by decide) rfl (by decide +kernel) rfl dX7_takes_175 ?_
        refine lv_iconst (v := 0) hx hb dX7_takes_178 (by decide) ?_
        refine kb_ialdN (jn := 0) (n := 2) (f := upd (v.1 7) 0 (v.1 7 1)) hx hb hX hP 0 6 rfl rfl rfl (by omega) (by decide) dX7_takes_179 ?_
        refine lv_icmp_ge (tgt := 206) hx hb dX7_takes_180 (by decide) (fun c_180 => absurd c_180 (lps_c hk_k)) (fun c_180 => ?_)
        refine lv_aload_n hx hb dX7_takes_183 rfl (lv_at hl 1 rfl) ?_
        refine kb_get (own := RX7) (C := RX7) (T := TX7) (N := 19) (v := .ref (a 9)) hx hb hts hin7 hown hX hP 0 rfl rfl rfl 10 (by decide) rfl (by decide +kernel) rfl dX7_takes_184 ?_
        refine lv_bipush (v := 40) hx hb dX7_takes_187 (by decide) ?_
        refine lv_iload_n hx hb dX7_takes_189 rfl (lv_at hl 0 rfl) ?_
        refine lv_iadd hx hb dX7_takes_190 ?_
        refine lv_aload_n hx hb dX7_takes_191 rfl (lv_at hl 1 rfl) ?_
        refine kb_get (own := RX7) (C := RX7) (T := TX7) (N := 19) (v := .ref (a 7)) hx hb hts hin7 hown hX hP 0 rfl rfl rfl 8 (by decide) rfl (by decide +kernel) rfl dX7_takes_192 ?_
        refine lv_iconst (v := 3) hx hb dX7_takes_195 (by decide) ?_
        refine lv_iload_n hx hb dX7_takes_196 rfl (lv_at hl 0 rfl) ?_
        refine lv_imul hx hb dX7_takes_197 ?_
        refine kb_ialdN (jn := 3 * k) (n := 24) (f := E8) hx hb hX hP 0 7 rfl rfl (by simp only [nI_addE, nI_mulE] <;> rfl) (by omega) (by decide) dX7_takes_198 ?_
        refine kb_iastN (jn := 40 + k) (n := 552) (f := itN (s_wh E8) E10 k) hx hb hX hP hD hS 0 9 rfl rfl (by simp only [nI_addE, nI_mulE] <;> rfl) (by omega) (by decide) dX7_takes_199 (bX7_A10 a G (setA (setA (setA (setA (setA (setA (setA (setA (setI (setI v 11 (v.2 11)) 12 (v.2 12)) 4 (upd (v.1 4) 0 (v.1 4 1))) 7 (upd (v.1 7) 0 (v.1 7 1))) 9 E9) 5 E5) 8 E8) 6 E6) 3 E3) 10 (itN (s_wh E8) E10 k)) (upd (itN (s_wh E8) E10 k) (40 + k) (E8 (3 * k)))) (fun H locs hP hD hS => ?_)
        have hP : PP G [bX7 a G (setA (setA (setA (setA (setA (setA (setA (setA (setA (setI (setI v 11 (v.2 11)) 12 (v.2 12)) 4 (upd (v.1 4) 0 (v.1 4 1))) 7 (upd (v.1 7) 0 (v.1 7 1))) 9 E9) 5 E5) 8 E8) 6 E6) 3 E3) 10 (itN (s_wh E8) E10 k)) 10 (upd (itN (s_wh E8) E10 k) (40 + k) (E8 (3 * k))))] H := hP
        have hD : DD (AA (List.flatten [bX7 a G v])) [bX7 a G (setA (setA (setA (setA (setA (setA (setA (setA (setA (setI (setI v 11 (v.2 11)) 12 (v.2 12)) 4 (upd (v.1 4) 0 (v.1 4 1))) 7 (upd (v.1 7) 0 (v.1 7 1))) 9 E9) 5 E5) 8 E8) 6 E6) 3 E3) 10 (itN (s_wh E8) E10 k)) 10 (upd (itN (s_wh E8) E10 k) (40 + k) (E8 (3 * k))))] := D_re hD (adc (bX7_ad _ _ _ _) adn)
        refine lv_iinc (v := nI (k + 1)) (lv' := [(1, .int (nI (k + 1))), (0, .ref (a 0))]) hx hb dX7_takes_200 hl (k := 0) rfl (nI_1 _) (by decide) rfl (fun ls hl => ?_)
        refine lv_goto (tgt := 173) hx hb dX7_takes_203 (by decide) ?_
        have hP : PP G [bX7 a G (setA (setA (setA (setA (setA (setA (setA (setA (setI (setI v 11 (v.2 11)) 12 (v.2 12)) 4 (upd (v.1 4) 0 (v.1 4 1))) 7 (upd (v.1 7) 0 (v.1 7 1))) 9 E9) 5 E5) 8 E8) 6 E6) 3 E3) 10 (itN (s_wh E8) E10 (k + 1)))] H := by
          try simp only [ov_n1, ov_m1, ov_nc, ov_mc, ov_c] at hP ⊢
          exact hP
        have hD : DD (AA (List.flatten [bX7 a G v])) [bX7 a G (setA (setA (setA (setA (setA (setA (setA (setA (setI (setI v 11 (v.2 11)) 12 (v.2 12)) 4 (upd (v.1 4) 0 (v.1 4 1))) 7 (upd (v.1 7) 0 (v.1 7 1))) 9 E9) 5 E5) 8 E8) 6 E6) 3 E3) 10 (itN (s_wh E8) E10 (k + 1)))] := D_re hD (adc (bX7_ad _ _ _ _) adn)
        exact ih_173  _ _ _ hP hD hS (show lv_has ls 2 [(1, .int (nI (k + 1))), (0, .ref (a 0))] from lv_sub hl [0, 1] rfl) 
    · skip
      intro k hk_k ih_137 H locs ls hP hD hS hl 
      refine lv_iload_n hx hb dX7_takes_137 rfl (lv_at hl 0 rfl) ?_
      refine lv_bipush (v := 46) hx hb dX7_takes_138 (by decide) ?_
      refine lv_icmp_ge (tgt := 171) hx hb dX7_takes_140 (by decide) (fun c_140 => absurd c_140 (nI_ge (b := 46) hk_k (by decide))) (fun c_140 => ?_)
      refine lv_aload_n hx hb dX7_takes_143 rfl (lv_at hl 1 rfl) ?_
      refine kb_get (own := RX7) (C := RX7) (T := TX7) (N := 19) (v := .ref (a 9)) hx hb hts hin7 hown hX hP 0 rfl rfl rfl 10 (by decide) rfl (by decide +kernel) rfl dX7_takes_144 ?_
      refine lv_iload_n hx hb dX7_takes_147 rfl (lv_at hl 0 rfl) ?_
      refine lv_iload_n hx hb dX7_takes_148 rfl (lv_at hl 0 rfl) ?_
      refine lv_bipush (v := 32) hx hb dX7_takes_149 (by decide) ?_
      refine lv_icmp_ge (tgt := 163) hx hb dX7_takes_151 (by decide) (fun c_151 => ?_) (fun c_151 => ?_)
      · refine lv_iconst (v := 0) hx hb dX7_takes_163 (by decide) ?_
        refine kb_iastN (jn := k) (n := 552) (f := itN (s_sl E9) (v.1 10) k) hx hb hX hP hD hS 0 9 rfl rfl rfl (by omega) (by decide) dX7_takes_164 (bX7_A10 a G (setA (setA (setA (setA (setA (setA (setA (setA (setI (setI v 11 (v.2 11)) 12 (v.2 12)) 4 (upd (v.1 4) 0 (v.1 4 1))) 7 (upd (v.1 7) 0 (v.1 7 1))) 9 E9) 5 E5) 8 E8) 6 E6) 3 E3) 10 (itN (s_sl E9) (v.1 10) k)) (upd (itN (s_sl E9) (v.1 10) k) k 0)) (fun H locs hP hD hS => ?_)
        have hP : PP G [bX7 a G (setA (setA (setA (setA (setA (setA (setA (setA (setA (setI (setI v 11 (v.2 11)) 12 (v.2 12)) 4 (upd (v.1 4) 0 (v.1 4 1))) 7 (upd (v.1 7) 0 (v.1 7 1))) 9 E9) 5 E5) 8 E8) 6 E6) 3 E3) 10 (itN (s_sl E9) (v.1 10) k)) 10 (upd (itN (s_sl E9) (v.1 10) k) k 0))] H := hP
        have hD : DD (AA (List.flatten [bX7 a G v])) [bX7 a G (setA (setA (setA (setA (setA (setA (setA (setA (setA (setI (setI v 11 (v.2 11)) 12 (v.2 12)) 4 (upd (v.1 4) 0 (v.1 4 1))) 7 (upd (v.1 7) 0 (v.1 7 1))) 9 E9) 5 E5) 8 E8) 6 E6) 3 E3) 10 (itN (s_sl E9) (v.1 10) k)) 10 (upd (itN (s_sl E9) (v.1 10) k) k 0))] := D_re hD (adc (bX7_ad _ _ _ _) adn)
        refine lv_iinc (v := nI (k + 1)) (lv' := [(1, .int (nI (k + 1))), (0, .ref (a 0))]) hx hb dX7_takes_165 hl (k := 0) rfl (nI_1 _) (by decide) rfl (fun ls hl => ?_)
        refine lv_goto (tgt := 137) hx hb dX7_takes_168 (by decide) ?_
        have hP : PP G [bX7 a G (setA (setA (setA (setA (setA (setA (setA (setA (setI (setI v 11 (v.2 11)) 12 (v.2 12)) 4 (upd (v.1 4) 0 (v.1 4 1))) 7 (upd (v.1 7) 0 (v.1 7 1))) 9 E9) 5 E5) 8 E8) 6 E6) 3 E3) 10 (itN (s_sl E9) (v.1 10) (k + 1)))] H := by
          have e10 : itN (s_sl E9) (v.1 10) (k + 1) = upd (itN (s_sl E9) (v.1 10) k) k 0 := by rw [itN_s]; simp only [s_sl, if_pos c_29, if_neg c_140, if_pos c_151]
          rw [e10]
          try simp only [ov_n1, ov_m1, ov_nc, ov_mc, ov_c] at hP ⊢
          exact hP
        have hD : DD (AA (List.flatten [bX7 a G v])) [bX7 a G (setA (setA (setA (setA (setA (setA (setA (setA (setI (setI v 11 (v.2 11)) 12 (v.2 12)) 4 (upd (v.1 4) 0 (v.1 4 1))) 7 (upd (v.1 7) 0 (v.1 7 1))) 9 E9) 5 E5) 8 E8) 6 E6) 3 E3) 10 (itN (s_sl E9) (v.1 10) (k + 1)))] := D_re hD (adc (bX7_ad _ _ _ _) adn)
        exact ih_137  _ _ _ hP hD hS (show lv_has ls 2 [(1, .int (nI (k + 1))), (0, .ref (a 0))] from lv_sub hl [0, 1] rfl) 
      · refine lv_aload_n hx hb dX7_takes_154 rfl (lv_at hl 1 rfl) ?_
        refine kb_get (own := RX7) (C := RX7) (T := TX7) (N := 19) (v := .ref (a 8)) hx hb hts hin7 hown hX hP 0 rfl rfl rfl 9 (by decide) rfl (by decide +kernel) rfl dX7_takes_155 ?_
        refine lv_iload_n hx hb dX7_takes_158 rfl (lv_at hl 0 rfl) ?_
        refine kb_ialdN (jn := k) (n := 64) (f := E9) hx hb hX hP 0 8 rfl rfl rfl (by omega) (by decide) dX7_takes_159 ?_
        refine lv_goto (tgt := 164) hx hb dX7_takes_160 (by decide) ?_
        refine kb_iastN (jn := k) (n := 552) (f := itN (s_sl E9) (v.1 10) k) hx hb hX hP hD hS 0 9 rfl rfl rfl (by omega) (by decide) dX7_takes_164 (bX7_A10 a G (setA (setA (setA (setA (setA (setA (setA (setA (setI (setI v 11 (v.2 11)) 12 (v.2 12)) 4 (upd (v.1 4) 0 (v.1 4 1))) 7 (upd (v.1 7) 0 (v.1 7 1))) 9 E9) 5 E5) 8 E8) 6 E6) 3 E3) 10 (itN (s_sl E9) (v.1 10) k)) (upd (itN (s_sl E9) (v.1 10) k) k (E9 k))) (fun H locs hP hD hS => ?_)
        have hP : PP G [bX7 a G (setA (setA (setA (setA (setA (setA (setA (setA (setA (setI (setI v 11 (v.2 11)) 12 (v.2 12)) 4 (upd (v.1 4) 0 (v.1 4 1))) 7 (upd (v.1 7) 0 (v.1 7 1))) 9 E9) 5 E5) 8 E8) 6 E6) 3 E3) 10 (itN (s_sl E9) (v.1 10) k)) 10 (upd (itN (s_sl E9) (v.1 10) k) k (E9 k)))] H := hP
        have hD : DD (AA (List.flatten [bX7 a G v])) [bX7 a G (setA (setA (setA (setA (setA (setA (setA (setA (setA (setI (setI v 11 (v.2 11)) 12 (v.2 12)) 4 (upd (v.1 4) 0 (v.1 4 1))) 7 (upd (v.1 7) 0 (v.1 7 1))) 9 E9) 5 E5) 8 E8) 6 E6) 3 E3) 10 (itN (s_sl E9) (v.1 10) k)) 10 (upd (itN (s_sl E9) (v.1 10) k) k (E9 k)))] := D_re hD (adc (bX7_ad _ _ _ _) adn)
        refine lv_iinc (v := nI (k + 1)) (lv' := [(1, .int (nI (k + 1))), (0, .ref (a 0))]) hx hb dX7_takes_165 hl (k := 0) rfl (nI_1 _) (by decide) rfl (fun ls hl => ?_)
        refine lv_goto (tgt := 137) hx hb dX7_takes_168 (by decide) ?_
        have hP : PP G [bX7 a G (setA (setA (setA (setA (setA (setA (setA (setA (setI (setI v 11 (v.2 11)) 12 (v.2 12)) 4 (upd (v.1 4) 0 (v.1 4 1))) 7 (upd (v.1 7) 0 (v.1 7 1))) 9 E9) 5 E5) 8 E8) 6 E6) 3 E3) 10 (itN (s_sl E9) (v.1 10) (k + 1)))] H := by
          have e10 : itN (s_sl E9) (v.1 10) (k + 1) = upd (itN (s_sl E9) (v.1 10) k) k (E9 k) := by rw [itN_s]; simp only [s_sl, if_pos c_29, if_neg c_140, if_neg c_151]
          rw [e10]
          try simp only [ov_n1, ov_m1, ov_nc, ov_mc, ov_c] at hP ⊢
          exact hP
        have hD : DD (AA (List.flatten [bX7 a G v])) [bX7 a G (setA (setA (setA (setA (setA (setA (setA (setA (setI (setI v 11 (v.2 11)) 12 (v.2 12)) 4 (upd (v.1 4) 0 (v.1 4 1))) 7 (upd (v.1 7) 0 (v.1 7 1))) 9 E9) 5 E5) 8 E8) 6 E6) 3 E3) 10 (itN (s_sl E9) (v.1 10) (k + 1)))] := D_re hD (adc (bX7_ad _ _ _ _) adn)
        exact ih_137  _ _ _ hP hD hS (show lv_has ls 2 [(1, .int (nI (k + 1))), (0, .ref (a 0))] from lv_sub hl [0, 1] rfl) 
  · skip
    intro k hk_k ih_26 H locs ls hP hD hS hl 
    refine lv_iload_n hx hb dX7_takes_26 rfl (lv_at hl 0 rfl) ?_
    refine lv_bipush (v := 32) hx hb dX7_takes_27 (by decide) ?_
    refine lv_icmp_ge (tgt := 135) hx hb dX7_takes_29 (by decide) (fun c_29 => absurd c_29 (nI_ge (b := 32) hk_k (by decide))) (fun c_29 => ?_)
    refine lv_aload_n hx hb dX7_takes_32 rfl (lv_at hl 1 rfl) ?_
    refine kb_get (own := RX7) (C := RX7) (T := TX7) (N := 19) (v := .ref (a 8)) hx hb hts hin7 hown hX hP 0 rfl rfl rfl 9 (by decide) rfl (by decide +kernel) rfl dX7_takes_33 ?_
    refine lv_iload_n hx hb dX7_takes_36 rfl (lv_at hl 0 rfl) ?_
    refine lv_aload_n hx hb dX7_takes_37 rfl (lv_at hl 1 rfl) ?_
    refine kb_get (own := RX7) (C := RX7) (T := TX7) (N := 19) (v := .ref (a 8)) hx hb hts hin7 hown hX hP 0 rfl rfl rfl 9 (by decide) rfl (by decide +kernel) rfl dX7_takes_38 ?_
    refine lv_bipush (v := 32) hx hb dX7_takes_41 (by decide) ?_
    refine lv_iload_n hx hb dX7_takes_43 rfl (lv_at hl 0 rfl) ?_
    refine lv_iadd hx hb dX7_takes_44 ?_
    refine kb_ialdN (jn := 32 + k) (n := 64) (f := itN s_t9 (v.1 9) k) hx hb hX hP 0 8 rfl rfl (by simp only [nI_addE, nI_mulE] <;> rfl) (by omega) (by decide) dX7_takes_45 ?_
    refine kb_iastN (jn := k) (n := 64) (f := itN s_t9 (v.1 9) k) hx hb hX hP hD hS 0 8 rfl rfl rfl (by omega) (by decide) dX7_takes_46 (bX7_A9 a G (setA (setA (setA (setA (setA (setA (setA (setA (setI (setI v 11 (v.2 11)) 12 (v.2 12)) 4 (upd (v.1 4) 0 (v.1 4 1))) 7 (upd (v.1 7) 0 (v.1 7 1))) 9 (itN s_t9 (v.1 9) k)) 5 (itN s_t5 (v.1 5) k)) 8 (itN s_t8 (v.1 8) k)) 6 (itN s_t6 (v.1 6) k)) 3 (itN s_t3 (v.1 3) k)) 10 (v.1 10)) (upd (itN s_t9 (v.1 9) k) k ((itN s_t9 (v.1 9) k) (32 + k)))) (fun H locs hP hD hS => ?_)
    have hP : PP G [bX7 a G (setA (setA (setA (setA (setA (setA (setA (setA (setA (setI (setI v 11 (v.2 11)) 12 (v.2 12)) 4 (upd (v.1 4) 0 (v.1 4 1))) 7 (upd (v.1 7) 0 (v.1 7 1))) 9 (itN s_t9 (v.1 9) k)) 5 (itN s_t5 (v.1 5) k)) 8 (itN s_t8 (v.1 8) k)) 6 (itN s_t6 (v.1 6) k)) 3 (itN s_t3 (v.1 3) k)) 10 (v.1 10)) 9 (upd (itN s_t9 (v.1 9) k) k ((itN s_t9 (v.1 9) k) (32 + k))))] H := hP
    have hD : DD (AA (List.flatten [bX7 a G v])) [bX7 a G (setA (setA (setA (setA (setA (setA (setA (setA (setA (setI (setI v 11 (v.2 11)) 12 (v.2 12)) 4 (upd (v.1 4) 0 (v.1 4 1))) 7 (upd (v.1 7) 0 (v.1 7 1))) 9 (itN s_t9 (v.1 9) k)) 5 (itN s_t5 (v.1 5) k)) 8 (itN s_t8 (v.1 8) k)) 6 (itN s_t6 (v.1 6) k)) 3 (itN s_t3 (v.1 3) k)) 10 (v.1 10)) 9 (upd (itN s_t9 (v.1 9) k) k ((itN s_t9 (v.1 9) k) (32 + k))))] := D_re hD (adc (bX7_ad _ _ _ _) adn)
    refine lv_iload_n hx hb dX7_takes_47 rfl (lv_at hl 0 rfl) ?_
    refine lv_bipush (v := 24) hx hb dX7_takes_48 (by decide) ?_
    refine lv_icmp_ge (tgt := 68) hx hb dX7_takes_50 (by decide) (fun c_50 => ?_) (fun c_50 => ?_)
    · refine lv_iload_n hx hb dX7_takes_68 rfl (lv_at hl 0 rfl) ?_
      refine lv_bipush (v := 12) hx hb dX7_takes_69 (by decide) ?_
      refine lv_icmp_ge (tgt := 89) hx hb dX7_takes_71 (by decide) (fun c_71 => ?_) (fun c_71 => absurd (Int32.le_trans (by decide) c_50) c_71)
      refine lv_iload_n hx hb dX7_takes_89 rfl (lv_at hl 0 rfl) ?_
      refine lv_bipush (v := 8) hx hb dX7_takes_90 (by decide) ?_
      refine lv_icmp_ge (tgt := 110) hx hb dX7_takes_92 (by decide) (fun c_92 => ?_) (fun c_92 => absurd (Int32.le_trans (by decide) c_71) c_92)
      refine lv_iload_n hx hb dX7_takes_110 rfl (lv_at hl 0 rfl) ?_
      refine lv_iconst (v := 5) hx hb dX7_takes_111 (by decide) ?_
      refine lv_icmp_ge (tgt := 129) hx hb dX7_takes_112 (by decide) (fun c_112 => ?_) (fun c_112 => absurd (Int32.le_trans (by decide) c_92) c_112)
      refine lv_iinc (v := nI (k + 1)) (lv' := [(1, .int (nI (k + 1))), (0, .ref (a 0))]) hx hb dX7_takes_129 hl (k := 0) rfl (nI_1 _) (by decide) rfl (fun ls hl => ?_)
      refine lv_goto (tgt := 26) hx hb dX7_takes_132 (by decide) ?_
      have hP : PP G [bX7 a G (setA (setA (setA (setA (setA (setA (setA (setA (setI (setI v 11 (v.2 11)) 12 (v.2 12)) 4 (upd (v.1 4) 0 (v.1 4 1))) 7 (upd (v.1 7) 0 (v.1 7 1))) 9 (itN s_t9 (v.1 9) (k + 1))) 5 (itN s_t5 (v.1 5) (k + 1))) 8 (itN s_t8 (v.1 8) (k + 1))) 6 (itN s_t6 (v.1 6) (k + 1))) 3 (itN s_t3 (v.1 3) (k + 1))) 10 (v.1 10))] H := by
        have e5 : itN s_t5 (v.1 5) (k + 1) = itN s_t5 (v.1 5) k := by rw [itN_s]; simp only [s_t5, if_neg c_29, if_pos c_50, if_pos c_71, if_pos c_92, if_pos c_112]
        rw [e5]
        have e8 : itN s_t8 (v.1 8) (k + 1) = itN s_t8 (v.1 8) k := by rw [itN_s]; simp only [s_t8, if_neg c_29, if_pos c_50, if_pos c_71, if_pos c_92, if_pos c_112]
        rw [e8]
        have e6 : itN s_t6 (v.1 6) (k + 1) = itN s_t6 (v.1 6) k := by rw [itN_s]; simp only [s_t6, if_neg c_29, if_pos c_50, if_pos c_71, if_pos c_92, if_pos c_112]
        rw [e6]
        have e3 : itN s_t3 (v.1 3) (k + 1) = itN s_t3 (v.1 3) k := by rw [itN_s]; simp only [s_t3, if_neg c_29, if_pos c_50, if_pos c_71, if_pos c_92, if_pos c_112]
        rw [e3]
        try simp only [ov_n1, ov_m1, ov_nc, ov_mc, ov_c] at hP ⊢
        exact hP
      have hD : DD (AA (List.flatten [bX7 a G v])) [bX7 a G (setA (setA (setA (setA (setA (setA (setA (setA (setI (setI v 11 (v.2 11)) 12 (v.2 12)) 4 (upd (v.1 4) 0 (v.1 4 1))) 7 (upd (v.1 7) 0 (v.1 7 1))) 9 (itN s_t9 (v.1 9) (k + 1))) 5 (itN s_t5 (v.1 5) (k + 1))) 8 (itN s_t8 (v.1 8) (k + 1))) 6 (itN s_t6 (v.1 6) (k + 1))) 3 (itN s_t3 (v.1 3) (k + 1))) 10 (v.1 10))] := D_re hD (adc (bX7_ad _ _ _ _) adn)
      exact ih_26  _ _ _ hP hD hS (show lv_has ls 2 [(1, .int (nI (k + 1))), (0, .ref (a 0))] from lv_sub hl [0, 1] rfl) 
    · have hk24 := nI_nle_lt (m := 24) (by omega) c_50
      refine lv_aload_n hx hb dX7_takes_53 rfl (lv_at hl 1 rfl) ?_
      refine kb_get (own := RX7) (C := RX7) (T := TX7) (N := 19) (v := .ref (a 4)) hx hb hts hin7 hown hX hP 0 rfl rfl rfl 5 (by decide) rfl (by decide +kernel) rfl dX7_takes_54 ?_
      refine lv_iload_n hx hb dX7_takes_57 rfl (lv_at hl 0 rfl) ?_
      refine lv_aload_n hx hb dX7_takes_58 rfl (lv_at hl 1 rfl) ?_
      refine kb_get (own := RX7) (C := RX7) (T := TX7) (N := 19) (v := .ref (a 4)) hx hb hts hin7 hown hX hP 0 rfl rfl rfl 5 (by decide) rfl (by decide +kernel) rfl dX7_takes_59 ?_
      refine lv_bipush (v := 24) hx hb dX7_takes_62 (by decide) ?_
      refine lv_iload_n hx hb dX7_takes_64 rfl (lv_at hl 0 rfl) ?_
      refine lv_iadd hx hb dX7_takes_65 ?_
      refine kb_ialdN (jn := 24 + k) (n := 48) (f := itN s_t5 (v.1 5) k) hx hb hX hP 0 4 rfl rfl (by simp only [nI_addE, nI_mulE] <;> rfl) (by omega) (by decide) dX7_takes_66 ?_
      refine kb_iastN (jn := k) (n := 48) (f := itN s_t5 (v.1 5) k) hx hb hX hP hD hS 0 4 rfl rfl rfl (by omega) (by decide) dX7_takes_67 (bX7_A5 a G (setA (setA (setA (setA (setA (setA (setA (setA (setA (setI (setI v 11 (v.2 11)) 12 (v.2 12)) 4 (upd (v.1 4) 0 (v.1 4 1))) 7 (upd (v.1 7) 0 (v.1 7 1))) 9 (itN s_t9 (v.1 9) k)) 5 (itN s_t5 (v.1 5) k)) 8 (itN s_t8 (v.1 8) k)) 6 (itN s_t6 (v.1 6) k)) 3 (itN s_t3 (v.1 3) k)) 10 (v.1 10)) 9 (upd (itN s_t9 (v.1 9) k) k ((itN s_t9 (v.1 9) k) (32 + k)))) (upd (itN s_t5 (v.1 5) k) k ((itN s_t5 (v.1 5) k) (24 + k)))) (fun H locs hP hD hS => ?_)
      have hP : PP G [bX7 a G (setA (setA (setA (setA (setA (setA (setA (setA (setA (setA (setI (setI v 11 (v.2 11)) 12 (v.2 12)) 4 (upd (v.1 4) 0 (v.1 4 1))) 7 (upd (v.1 7) 0 (v.1 7 1))) 9 (itN s_t9 (v.1 9) k)) 5 (itN s_t5 (v.1 5) k)) 8 (itN s_t8 (v.1 8) k)) 6 (itN s_t6 (v.1 6) k)) 3 (itN s_t3 (v.1 3) k)) 10 (v.1 10)) 9 (upd (itN s_t9 (v.1 9) k) k ((itN s_t9 (v.1 9) k) (32 + k)))) 5 (upd (itN s_t5 (v.1 5) k) k ((itN s_t5 (v.1 5) k) (24 + k))))] H := hP
      have hD : DD (AA (List.flatten [bX7 a G v])) [bX7 a G (setA (setA (setA (setA (setA (setA (setA (setA (setA (setA (setI (setI v 11 (v.2 11)) 12 (v.2 12)) 4 (upd (v.1 4) 0 (v.1 4 1))) 7 (upd (v.1 7) 0 (v.1 7 1))) 9 (itN s_t9 (v.1 9) k)) 5 (itN s_t5 (v.1 5) k)) 8 (itN s_t8 (v.1 8) k)) 6 (itN s_t6 (v.1 6) k)) 3 (itN s_t3 (v.1 3) k)) 10 (v.1 10)) 9 (upd (itN s_t9 (v.1 9) k) k ((itN s_t9 (v.1 9) k) (32 + k)))) 5 (upd (itN s_t5 (v.1 5) k) k ((itN s_t5 (v.1 5) k) (24 + k))))] := D_re hD (adc (bX7_ad _ _ _ _) adn)
      refine lv_iload_n hx hb dX7_takes_68 rfl (lv_at hl 0 rfl) ?_
      refine lv_bipush (v := 12) hx hb dX7_takes_69 (by decide) ?_
      refine lv_icmp_ge (tgt := 89) hx hb dX7_takes_71 (by decide) (fun c_71 => ?_) (fun c_71 => ?_)
      · refine lv_iload_n hx hb dX7_takes_89 rfl (lv_at hl 0 rfl) ?_
        refine lv_bipush (v := 8) hx hb dX7_takes_90 (by decide) ?_
        refine lv_icmp_ge (tgt := 110) hx hb dX7_takes_92 (by decide) (fun c_92 => ?_) (fun c_92 => absurd (Int32.le_trans (by decide) c_71) c_92)
        refine lv_iload_n hx hb dX7_takes_110 rfl (lv_at hl 0 rfl) ?_
        refine lv_iconst (v := 5) hx hb dX7_takes_111 (by decide) ?_
        refine lv_icmp_ge (tgt := 129) hx hb dX7_takes_112 (by decide) (fun c_112 => ?_) (fun c_112 => absurd (Int32.le_trans (by decide) c_92) c_112)
        refine lv_iinc (v := nI (k + 1)) (lv' := [(1, .int (nI (k + 1))), (0, .ref (a 0))]) hx hb dX7_takes_129 hl (k := 0) rfl (nI_1 _) (by decide) rfl (fun ls hl => ?_)
        refine lv_goto (tgt := 26) hx hb dX7_takes_132 (by decide) ?_
        have hP : PP G [bX7 a G (setA (setA (setA (setA (setA (setA (setA (setA (setI (setI v 11 (v.2 11)) 12 (v.2 12)) 4 (upd (v.1 4) 0 (v.1 4 1))) 7 (upd (v.1 7) 0 (v.1 7 1))) 9 (itN s_t9 (v.1 9) (k + 1))) 5 (itN s_t5 (v.1 5) (k + 1))) 8 (itN s_t8 (v.1 8) (k + 1))) 6 (itN s_t6 (v.1 6) (k + 1))) 3 (itN s_t3 (v.1 3) (k + 1))) 10 (v.1 10))] H := by
          have e5 : itN s_t5 (v.1 5) (k + 1) = upd (itN s_t5 (v.1 5) k) k ((itN s_t5 (v.1 5) k) (24 + k)) := by rw [itN_s]; simp only [s_t5, if_neg c_29, if_neg c_50, if_pos c_71, if_pos c_92, if_pos c_112]
          rw [e5]
          have e8 : itN s_t8 (v.1 8) (k + 1) = itN s_t8 (v.1 8) k := by rw [itN_s]; simp only [s_t8, if_neg c_29, if_neg c_50, if_pos c_71, if_pos c_92, if_pos c_112]
          rw [e8]
          have e6 : itN s_t6 (v.1 6) (k + 1) = itN s_t6 (v.1 6) k := by rw [itN_s]; simp only [s_t6, if_neg c_29, if_neg c_50, if_pos c_71, if_pos c_92, if_pos c_112]
          rw [e6]
          have e3 : itN s_t3 (v.1 3) (k + 1) = itN s_t3 (v.1 3) k := by rw [itN_s]; simp only [s_t3, if_neg c_29, if_neg c_50, if_pos c_71, if_pos c_92, if_pos c_112]
          rw [e3]
          try simp only [ov_n1, ov_m1, ov_nc, ov_mc, ov_c] at hP ⊢
          exact hP
        have hD : DD (AA (List.flatten [bX7 a G v])) [bX7 a G (setA (setA (setA (setA (setA (setA (setA (setA (setI (setI v 11 (v.2 11)) 12 (v.2 12)) 4 (upd (v.1 4) 0 (v.1 4 1))) 7 (upd (v.1 7) 0 (v.1 7 1))) 9 (itN s_t9 (v.1 9) (k + 1))) 5 (itN s_t5 (v.1 5) (k + 1))) 8 (itN s_t8 (v.1 8) (k + 1))) 6 (itN s_t6 (v.1 6) (k + 1))) 3 (itN s_t3 (v.1 3) (k + 1))) 10 (v.1 10))] := D_re hD (adc (bX7_ad _ _ _ _) adn)
        exact ih_26  _ _ _ hP hD hS (show lv_has ls 2 [(1, .int (nI (k + 1))), (0, .ref (a 0))] from lv_sub hl [0, 1] rfl) 
      · have hk12 := nI_nle_lt (m := 12) (by omega) c_71
        refine lv_aload_n hx hb dX7_takes_74 rfl (lv_at hl 1 rfl) ?_
        refine kb_get (own := RX7) (C := RX7) (T := TX7) (N := 19) (v := .ref (a 7)) hx hb hts hin7 hown hX hP 0 rfl rfl rfl 8 (by decide) rfl (by decide +kernel) rfl dX7_takes_75 ?_
        refine lv_iload_n hx hb dX7_takes_78 rfl (lv_at hl 0 rfl) ?_
        refine lv_aload_n hx hb dX7_takes_79 rfl (lv_at hl 1 rfl) ?_
        refine kb_get (own := RX7) (C := RX7) (T := TX7) (N := 19) (v := .ref (a 7)) hx hb hts hin7 hown hX hP 0 rfl rfl rfl 8 (by decide) rfl (by decide +kernel) rfl dX7_takes_80 ?_
        refine lv_bipush (v := 12) hx hb dX7_takes_83 (by decide) ?_
        refine lv_iload_n hx hb dX7_takes_85 rfl (lv_at hl 0 rfl) ?_
        refine lv_iadd hx hb dX7_takes_86 ?_
        refine kb_ialdN (jn := 12 + k) (n := 24) (f := itN s_t8 (v.1 8) k) hx hb hX hP 0 7 rfl rfl (by simp only [nI_addE, nI_mulE] <;> rfl) (by omega) (by decide) dX7_takes_87 ?_
        refine kb_iastN (jn := k) (n := 24) (f := itN s_t8 (v.1 8) k) hx hb hX hP hD hS 0 7 rfl rfl rfl (by omega) (by decide) dX7_takes_88 (bX7_A8 a G (setA (setA (setA (setA (setA (setA (setA (setA (setA (setA (setI (setI v 11 (v.2 11)) 12 (v.2 12)) 4 (upd (v.1 4) 0 (v.1 4 1))) 7 (upd (v.1 7) 0 (v.1 7 1))) 9 (itN s_t9 (v.1 9) k)) 5 (itN s_t5 (v.1 5) k)) 8 (itN s_t8 (v.1 8) k)) 6 (itN s_t6 (v.1 6) k)) 3 (itN s_t3 (v.1 3) k)) 10 (v.1 10)) 9 (upd (itN s_t9 (v.1 9) k) k ((itN s_t9 (v.1 9) k) (32 + k)))) 5 (upd (itN s_t5 (v.1 5) k) k ((itN s_t5 (v.1 5) k) (24 + k)))) (upd (itN s_t8 (v.1 8) k) k ((itN s_t8 (v.1 8) k) (12 + k)))) (fun H locs hP hD hS => ?_)
        have hP : PP G [bX7 a G (setA (setA (setA (setA (setA (setA (setA (setA (setA (setA (setA (setI (setI v 11 (v.2 11)) 12 (v.2 12)) 4 (upd (v.1 4) 0 (v.1 4 1))) 7 (upd (v.1 7) 0 (v.1 7 1))) 9 (itN s_t9 (v.1 9) k)) 5 (itN s_t5 (v.1 5) k)) 8 (itN s_t8 (v.1 8) k)) 6 (itN s_t6 (v.1 6) k)) 3 (itN s_t3 (v.1 3) k)) 10 (v.1 10)) 9 (upd (itN s_t9 (v.1 9) k) k ((itN s_t9 (v.1 9) k) (32 + k)))) 5 (upd (itN s_t5 (v.1 5) k) k ((itN s_t5 (v.1 5) k) (24 + k)))) 8 (upd (itN s_t8 (v.1 8) k) k ((itN s_t8 (v.1 8) k) (12 + k))))] H := hP
        have hD : DD (AA (List.flatten [bX7 a G v])) [bX7 a G (setA (setA (setA (setA (setA (setA (setA (setA (setA (setA (setA (setI (setI v 11 (v.2 11)) 12 (v.2 12)) 4 (upd (v.1 4) 0 (v.1 4 1))) 7 (upd (v.1 7) 0 (v.1 7 1))) 9 (itN s_t9 (v.1 9) k)) 5 (itN s_t5 (v.1 5) k)) 8 (itN s_t8 (v.1 8) k)) 6 (itN s_t6 (v.1 6) k)) 3 (itN s_t3 (v.1 3) k)) 10 (v.1 10)) 9 (upd (itN s_t9 (v.1 9) k) k ((itN s_t9 (v.1 9) k) (32 + k)))) 5 (upd (itN s_t5 (v.1 5) k) k ((itN s_t5 (v.1 5) k) (24 + k)))) 8 (upd (itN s_t8 (v.1 8) k) k ((itN s_t8 (v.1 8) k) (12 + k))))] := D_re hD (adc (bX7_ad _ _ _ _) adn)
        refine lv_iload_n hx hb dX7_takes_89 rfl (lv_at hl 0 rfl) ?_
        refine lv_bipush (v := 8) hx hb dX7_takes_90 (by decide) ?_
        refine lv_icmp_ge (tgt := 110) hx hb dX7_takes_92 (by decide) (fun c_92 => ?_) (fun c_92 => ?_)
        · refine lv_iload_n hx hb dX7_takes_110 rfl (lv_at hl 0 rfl) ?_
          refine lv_iconst (v := 5) hx hb dX7_takes_111 (by decide) ?_
          refine lv_icmp_ge (tgt := 129) hx hb dX7_takes_112 (by decide) (fun c_112 => ?_) (fun c_112 => absurd (Int32.le_trans (by decide) c_92) c_112)
          refine lv_iinc (v := nI (k + 1)) (lv' := [(1, .int (nI (k + 1))), (0, .ref (a 0))]) hx hb dX7_takes_129 hl (k := 0) rfl (nI_1 _) (by decide) rfl (fun ls hl => ?_)
          refine lv_goto (tgt := 26) hx hb dX7_takes_132 (by decide) ?_
          have hP : PP G [bX7 a G (setA (setA (setA (setA (setA (setA (setA (setA (setI (setI v 11 (v.2 11)) 12 (v.2 12)) 4 (upd (v.1 4) 0 (v.1 4 1))) 7 (upd (v.1 7) 0 (v.1 7 1))) 9 (itN s_t9 (v.1 9) (k + 1))) 5 (itN s_t5 (v.1 5) (k + 1))) 8 (itN s_t8 (v.1 8) (k + 1))) 6 (itN s_t6 (v.1 6) (k + 1))) 3 (itN s_t3 (v.1 3) (k + 1))) 10 (v.1 10))] H := by
            have e5 : itN s_t5 (v.1 5) (k + 1) = upd (itN s_t5 (v.1 5) k) k ((itN s_t5 (v.1 5) k) (24 + k)) := by rw [itN_s]; simp only [s_t5, if_neg c_29, if_neg c_50, if_neg c_71, if_pos c_92, if_pos c_112]
            rw [e5]
            have e8 : itN s_t8 (v.1 8) (k + 1) = upd (itN s_t8 (v.1 8) k) k ((itN s_t8 (v.1 8) k) (12 + k)) := by rw [itN_s]; simp only [s_t8, if_neg c_29, if_neg c_50, if_neg c_71, if_pos c_92, if_pos c_112]
            rw [e8]
            have e6 : itN s_t6 (v.1 6) (k + 1) = itN s_t6 (v.1 6) k := by rw [itN_s]; simp only [s_t6, if_neg c_29, if_neg c_50, if_neg c_71, if_pos c_92, if_pos c_112]
            rw [e6]
            have e3 : itN s_t3 (v.1 3) (k + 1) = itN s_t3 (v.1 3) k := by rw [itN_s]; simp only [s_t3, if_neg c_29, if_neg c_50, if_neg c_71, if_pos c_92, if_pos c_112]
            rw [e3]
            try simp only [ov_n1, ov_m1, ov_nc, ov_mc, ov_c] at hP ⊢
            exact hP
          have hD : DD (AA (List.flatten [bX7 a G v])) [bX7 a G (setA (setA (setA (setA (setA (setA (setA (setA (setI (setI v 11 (v.2 11)) 12 (v.2 12)) 4 (upd (v.1 4) 0 (v.1 4 1))) 7 (upd (v.1 7) 0 (v.1 7 1))) 9 (itN s_t9 (v.1 9) (k + 1))) 5 (itN s_t5 (v.1 5) (k + 1))) 8 (itN s_t8 (v.1 8) (k + 1))) 6 (itN s_t6 (v.1 6) (k + 1))) 3 (itN s_t3 (v.1 3) (k + 1))) 10 (v.1 10))] := D_re hD (adc (bX7_ad _ _ _ _) adn)
          exact ih_26  _ _ _ hP hD hS (show lv_has ls 2 [(1, .int (nI (k + 1))), (0, .ref (a 0))] from lv_sub hl [0, 1] rfl) 
        · have hk8 := nI_nle_lt (m := 8) (by omega) c_92
          refine lv_aload_n hx hb dX7_takes_95 rfl (lv_at hl 1 rfl) ?_
          refine kb_get (own := RX7) (C := RX7) (T := TX7) (N := 19) (v := .ref (a 5)) hx hb hts hin7 hown hX hP 0 rfl rfl rfl 6 (by decide) rfl (by decide +kernel) rfl dX7_takes_96 ?_
          refine lv_iload_n hx hb dX7_takes_99 rfl (lv_at hl 0 rfl) ?_
          refine lv_aload_n hx hb dX7_takes_100 rfl (lv_at hl 1 rfl) ?_
          refine kb_get (own := RX7) (C := RX7) (T := TX7) (N := 19) (v := .ref (a 5)) hx hb hts hin7 hown hX hP 0 rfl rfl rfl 6 (by decide) rfl (by decide +kernel) rfl dX7_takes_101 ?_
          refine lv_bipush (v := 8) hx hb dX7_takes_104 (by decide) ?_
          refine lv_iload_n hx hb dX7_takes_106 rfl (lv_at hl 0 rfl) ?_
          refine lv_iadd hx hb dX7_takes_107 ?_
          refine kb_ialdN (jn := 8 + k) (n := 16) (f := itN s_t6 (v.1 6) k) hx hb hX hP 0 5 rfl rfl (by simp only [nI_addE, nI_mulE] <;> rfl) (by omega) (by decide) dX7_takes_108 ?_
          refine kb_iastN (jn := k) (n := 16) (f := itN s_t6 (v.1 6) k) hx hb hX hP hD hS 0 5 rfl rfl rfl (by omega) (by decide) dX7_takes_109 (bX7_A6 a G (setA (setA (setA (setA (setA (setA (setA (setA (setA (setA (setA (setI (setI v 11 (v.2 11)) 12 (v.2 12)) 4 (upd (v.1 4) 0 (v.1 4 1))) 7 (upd (v.1 7) 0 (v.1 7 1))) 9 (itN s_t9 (v.1 9) k)) 5 (itN s_t5 (v.1 5) k)) 8 (itN s_t8 (v.1 8) k)) 6 (itN s_t6 (v.1 6) k)) 3 (itN s_t3 (v.1 3) k)) 10 (v.1 10)) 9 (upd (itN s_t9 (v.1 9) k) k ((itN s_t9 (v.1 9) k) (32 + k)))) 5 (upd (itN s_t5 (v.1 5) k) k ((itN s_t5 (v.1 5) k) (24 + k)))) 8 (upd (itN s_t8 (v.1 8) k) k ((itN s_t8 (v.1 8) k) (12 + k)))) (upd (itN s_t6 (v.1 6) k) k ((itN s_t6 (v.1 6) k) (8 + k)))) (fun H locs hP hD hS => ?_)
          have hP : PP G [bX7 a G (setA (setA (setA (setA (setA (setA (setA (setA (setA (setA (setA (setA (setI (setI v 11 (v.2 11)) 12 (v.2 12)) 4 (upd (v.1 4) 0 (v.1 4 1))) 7 (upd (v.1 7) 0 (v.1 7 1))) 9 (itN s_t9 (v.1 9) k)) 5 (itN s_t5 (v.1 5) k)) 8 (itN s_t8 (v.1 8) k)) 6 (itN s_t6 (v.1 6) k)) 3 (itN s_t3 (v.1 3) k)) 10 (v.1 10)) 9 (upd (itN s_t9 (v.1 9) k) k ((itN s_t9 (v.1 9) k) (32 + k)))) 5 (upd (itN s_t5 (v.1 5) k) k ((itN s_t5 (v.1 5) k) (24 + k)))) 8 (upd (itN s_t8 (v.1 8) k) k ((itN s_t8 (v.1 8) k) (12 + k)))) 6 (upd (itN s_t6 (v.1 6) k) k ((itN s_t6 (v.1 6) k) (8 + k))))] H := hP
          have hD : DD (AA (List.flatten [bX7 a G v])) [bX7 a G (setA (setA (setA (setA (setA (setA (setA (setA (setA (setA (setA (setA (setI (setI v 11 (v.2 11)) 12 (v.2 12)) 4 (upd (v.1 4) 0 (v.1 4 1))) 7 (upd (v.1 7) 0 (v.1 7 1))) 9 (itN s_t9 (v.1 9) k)) 5 (itN s_t5 (v.1 5) k)) 8 (itN s_t8 (v.1 8) k)) 6 (itN s_t6 (v.1 6) k)) 3 (itN s_t3 (v.1 3) k)) 10 (v.1 10)) 9 (upd (itN s_t9 (v.1 9) k) k ((itN s_t9 (v.1 9) k) (32 + k)))) 5 (upd (itN s_t5 (v.1 5) k) k ((itN s_t5 (v.1 5) k) (24 + k)))) 8 (upd (itN s_t8 (v.1 8) k) k ((itN s_t8 (v.1 8) k) (12 + k)))) 6 (upd (itN s_t6 (v.1 6) k) k ((itN s_t6 (v.1 6) k) (8 + k))))] := D_re hD (adc (bX7_ad _ _ _ _) adn)
          refine lv_iload_n hx hb dX7_takes_110 rfl (lv_at hl 0 rfl) ?_
          refine lv_iconst (v := 5) hx hb dX7_takes_111 (by decide) ?_
          refine lv_icmp_ge (tgt := 129) hx hb dX7_takes_112 (by decide) (fun c_112 => ?_) (fun c_112 => ?_)
          · refine lv_iinc (v := nI (k + 1)) (lv' := [(1, .int (nI (k + 1))), (0, .ref (a 0))]) hx hb dX7_takes_129 hl (k := 0) rfl (nI_1 _) (by decide) rfl (fun ls hl => ?_)
            refine lv_goto (tgt := 26) hx hb dX7_takes_132 (by decide) ?_
            have hP : PP G [bX7 a G (setA (setA (setA (setA (setA (setA (setA (setA (setI (setI v 11 (v.2 11)) 12 (v.2 12)) 4 (upd (v.1 4) 0 (v.1 4 1))) 7 (upd (v.1 7) 0 (v.1 7 1))) 9 (itN s_t9 (v.1 9) (k + 1))) 5 (itN s_t5 (v.1 5) (k + 1))) 8 (itN s_t8 (v.1 8) (k + 1))) 6 (itN s_t6 (v.1 6) (k + 1))) 3 (itN s_t3 (v.1 3) (k + 1))) 10 (v.1 10))] H := by
              have e5 : itN s_t5 (v.1 5) (k + 1) = upd (itN s_t5 (v.1 5) k) k ((itN s_t5 (v.1 5) k) (24 + k)) := by rw [itN_s]; simp only [s_t5, if_neg c_29, if_neg c_50, if_neg c_71, if_neg c_92, if_pos c_112]
              rw [e5]
              have e8 : itN s_t8 (v.1 8) (k + 1) = upd (itN s_t8 (v.1 8) k) k ((itN s_t8 (v.1 8) k) (12 + k)) := by rw [itN_s]; simp only [s_t8, if_neg c_29, if_neg c_50, if_neg c_71, if_neg c_92, if_pos c_112]
              rw [e8]
              have e6 : itN s_t6 (v.1 6) (k + 1) = upd (itN s_t6 (v.1 6) k) k ((itN s_t6 (v.1 6) k) (8 + k)) := by rw [itN_s]; simp only [s_t6, if_neg c_29, if_neg c_50, if_neg c_71, if_neg c_92, if_pos c_112]
              rw [e6]
              have e3 : itN s_t3 (v.1 3) (k + 1) = itN s_t3 (v.1 3) k := by rw [itN_s]; simp only [s_t3, if_neg c_29, if_neg c_50, if_neg c_71, if_neg c_92, if_pos c_112]
              rw [e3]
              try simp only [ov_n1, ov_m1, ov_nc, ov_mc, ov_c] at hP ⊢
              exact hP
            have hD : DD (AA (List.flatten [bX7 a G v])) [bX7 a G (setA (setA (setA (setA (setA (setA (setA (setA (setI (setI v 11 (v.2 11)) 12 (v.2 12)) 4 (upd (v.1 4) 0 (v.1 4 1))) 7 (upd (v.1 7) 0 (v.1 7 1))) 9 (itN s_t9 (v.1 9) (k + 1))) 5 (itN s_t5 (v.1 5) (k + 1))) 8 (itN s_t8 (v.1 8) (k + 1))) 6 (itN s_t6 (v.1 6) (k + 1))) 3 (itN s_t3 (v.1 3) (k + 1))) 10 (v.1 10))] := D_re hD (adc (bX7_ad _ _ _ _) adn)
            exact ih_26  _ _ _ hP hD hS (show lv_has ls 2 [(1, .int (nI (k + 1))), (0, .ref (a 0))] from lv_sub hl [0, 1] rfl) 
          · have hk5 := nI_nle_lt (m := 5) (by omega) c_112
            refine lv_aload_n hx hb dX7_takes_115 rfl (lv_at hl 1 rfl) ?_
            refine kb_get (own := RX7) (C := RX7) (T := TX7) (N := 19) (v := .ref (a 2)) hx hb hts hin7 hown hX hP 0 rfl rfl rfl 3 (by decide) rfl (by decide +kernel) rfl dX7_takes_116 ?_
            refine lv_iload_n hx hb dX7_takes_119 rfl (lv_at hl 0 rfl) ?_
            refine lv_aload_n hx hb dX7_takes_120 rfl (lv_at hl 1 rfl) ?_
            refine kb_get (own := RX7) (C := RX7) (T := TX7) (N := 19) (v := .ref (a 2)) hx hb hts hin7 hown hX hP 0 rfl rfl rfl 3 (by decide) rfl (by decide +kernel) rfl dX7_takes_121 ?_
            refine lv_iconst (v := 5) hx hb dX7_takes_124 (by decide) ?_
            refine lv_iload_n hx hb dX7_takes_125 rfl (lv_at hl 0 rfl) ?_
            refine lv_iadd hx hb dX7_takes_126 ?_
            refine kb_ialdN (jn := 5 + k) (n := 10) (f := itN s_t3 (v.1 3) k) hx hb hX hP 0 2 rfl rfl (by simp only [nI_addE, nI_mulE] <;> rfl) (by omega) (by decide) dX7_takes_127 ?_
            refine kb_iastN (jn := k) (n := 10) (f := itN s_t3 (v.1 3) k) hx hb hX hP hD hS 0 2 rfl rfl rfl (by omega) (by decide) dX7_takes_128 (bX7_A3 a G (setA (setA (setA (setA (setA (setA (setA (setA (setA (setA (setA (setA (setI (setI v 11 (v.2 11)) 12 (v.2 12)) 4 (upd (v.1 4) 0 (v.1 4 1))) 7 (upd (v.1 7) 0 (v.1 7 1))) 9 (itN s_t9 (v.1 9) k)) 5 (itN s_t5 (v.1 5) k)) 8 (itN s_t8 (v.1 8) k)) 6 (itN s_t6 (v.1 6) k)) 3 (itN s_t3 (v.1 3) k)) 10 (v.1 10)) 9 (upd (itN s_t9 (v.1 9) k) k ((itN s_t9 (v.1 9) k) (32 + k)))) 5 (upd (itN s_t5 (v.1 5) k) k ((itN s_t5 (v.1 5) k) (24 + k)))) 8 (upd (itN s_t8 (v.1 8) k) k ((itN s_t8 (v.1 8) k) (12 + k)))) 6 (upd (itN s_t6 (v.1 6) k) k ((itN s_t6 (v.1 6) k) (8 + k)))) (upd (itN s_t3 (v.1 3) k) k ((itN s_t3 (v.1 3) k) (5 + k)))) (fun H locs hP hD hS => ?_)
            have hP : PP G [bX7 a G (setA (setA (setA (setA (setA (setA (setA (setA (setA (setA (setA (setA (setA (setI (setI v 11 (v.2 11)) 12 (v.2 12)) 4 (upd (v.1 4) 0 (v.1 4 1))) 7 (upd (v.1 7) 0 (v.1 7 1))) 9 (itN s_t9 (v.1 9) k)) 5 (itN s_t5 (v.1 5) k)) 8 (itN s_t8 (v.1 8) k)) 6 (itN s_t6 (v.1 6) k)) 3 (itN s_t3 (v.1 3) k)) 10 (v.1 10)) 9 (upd (itN s_t9 (v.1 9) k) k ((itN s_t9 (v.1 9) k) (32 + k)))) 5 (upd (itN s_t5 (v.1 5) k) k ((itN s_t5 (v.1 5) k) (24 + k)))) 8 (upd (itN s_t8 (v.1 8) k) k ((itN s_t8 (v.1 8) k) (12 + k)))) 6 (upd (itN s_t6 (v.1 6) k) k ((itN s_t6 (v.1 6) k) (8 + k)))) 3 (upd (itN s_t3 (v.1 3) k) k ((itN s_t3 (v.1 3) k) (5 + k))))] H := hP
            have hD : DD (AA (List.flatten [bX7 a G v])) [bX7 a G (setA (setA (setA (setA (setA (setA (setA (setA (setA (setA (setA (setA (setA (setI (setI v 11 (v.2 11)) 12 (v.2 12)) 4 (upd (v.1 4) 0 (v.1 4 1))) 7 (upd (v.1 7) 0 (v.1 7 1))) 9 (itN s_t9 (v.1 9) k)) 5 (itN s_t5 (v.1 5) k)) 8 (itN s_t8 (v.1 8) k)) 6 (itN s_t6 (v.1 6) k)) 3 (itN s_t3 (v.1 3) k)) 10 (v.1 10)) 9 (upd (itN s_t9 (v.1 9) k) k ((itN s_t9 (v.1 9) k) (32 + k)))) 5 (upd (itN s_t5 (v.1 5) k) k ((itN s_t5 (v.1 5) k) (24 + k)))) 8 (upd (itN s_t8 (v.1 8) k) k ((itN s_t8 (v.1 8) k) (12 + k)))) 6 (upd (itN s_t6 (v.1 6) k) k ((itN s_t6 (v.1 6) k) (8 + k)))) 3 (upd (itN s_t3 (v.1 3) k) k ((itN s_t3 (v.1 3) k) (5 + k))))] := D_re hD (adc (bX7_ad _ _ _ _) adn)
            refine lv_iinc (v := nI (k + 1)) (lv' := [(1, .int (nI (k + 1))), (0, .ref (a 0))]) hx hb dX7_takes_129 hl (k := 0) rfl (nI_1 _) (by decide) rfl (fun ls hl => ?_)
            refine lv_goto (tgt := 26) hx hb dX7_takes_132 (by decide) ?_
            have hP : PP G [bX7 a G (setA (setA (setA (setA (setA (setA (setA (setA (setI (setI v 11 (v.2 11)) 12 (v.2 12)) 4 (upd (v.1 4) 0 (v.1 4 1))) 7 (upd (v.1 7) 0 (v.1 7 1))) 9 (itN s_t9 (v.1 9) (k + 1))) 5 (itN s_t5 (v.1 5) (k + 1))) 8 (itN s_t8 (v.1 8) (k + 1))) 6 (itN s_t6 (v.1 6) (k + 1))) 3 (itN s_t3 (v.1 3) (k + 1))) 10 (v.1 10))] H := by
              have e5 : itN s_t5 (v.1 5) (k + 1) = upd (itN s_t5 (v.1 5) k) k ((itN s_t5 (v.1 5) k) (24 + k)) := by rw [itN_s]; simp only [s_t5, if_neg c_29, if_neg c_50, if_neg c_71, if_neg c_92, if_neg c_112]
              rw [e5]
              have e8 : itN s_t8 (v.1 8) (k + 1) = upd (itN s_t8 (v.1 8) k) k ((itN s_t8 (v.1 8) k) (12 + k)) := by rw [itN_s]; simp only [s_t8, if_neg c_29, if_neg c_50, if_neg c_71, if_neg c_92, if_neg c_112]
              rw [e8]
              have e6 : itN s_t6 (v.1 6) (k + 1) = upd (itN s_t6 (v.1 6) k) k ((itN s_t6 (v.1 6) k) (8 + k)) := by rw [itN_s]; simp only [s_t6, if_neg c_29, if_neg c_50, if_neg c_71, if_neg c_92, if_neg c_112]
              rw [e6]
              have e3 : itN s_t3 (v.1 3) (k + 1) = upd (itN s_t3 (v.1 3) k) k ((itN s_t3 (v.1 3) k) (5 + k)) := by rw [itN_s]; simp only [s_t3, if_neg c_29, if_neg c_50, if_neg c_71, if_neg c_92, if_neg c_112]
              rw [e3]
              try simp only [ov_n1, ov_m1, ov_nc, ov_mc, ov_c] at hP ⊢
              exact hP
            have hD : DD (AA (List.flatten [bX7 a G v])) [bX7 a G (setA (setA (setA (setA (setA (setA (setA (setA (setI (setI v 11 (v.2 11)) 12 (v.2 12)) 4 (upd (v.1 4) 0 (v.1 4 1))) 7 (upd (v.1 7) 0 (v.1 7 1))) 9 (itN s_t9 (v.1 9) (k + 1))) 5 (itN s_t5 (v.1 5) (k + 1))) 8 (itN s_t8 (v.1 8) (k + 1))) 6 (itN s_t6 (v.1 6) (k + 1))) 3 (itN s_t3 (v.1 3) (k + 1))) 10 (v.1 10))] := D_re hD (adc (bX7_ad _ _ _ _) adn)
            exact ih_26  _ _ _ hP hD hS (show lv_has ls 2 [(1, .int (nI (k + 1))), (0, .ref (a 0))] from lv_sub hl [0, 1] rfl) 

def rm_X7_isWhole : Room := { frames := 0, cells := 0, slots := 0, locals := 0 }
theorem hd_X7_isWhole : yX7_isWhole.cls = RX7 ∧ yX7_isWhole.cls ≠ "java/lang/invoke/MethodHandle" ∧ yX7_isWhole.cls ≠ "java/lang/invoke/VarHandle" ∧ (parseMethodDescriptor yX7_isWhole.desc).map (fun d => d.parameters.length) = some 0 := by decide +kernel
set_option maxRecDepth 100000 in
set_option maxHeartbeats 4000000 in
theorem c_X7_isWhole (l : Launch) (G : GD) (a : Nat → Nat) (v : OV) (hA2 : (v.1 4 1).toNatClampNeg ≤ 8) (hB2 : (v.1 7 1).toNatClampNeg ≤ 4) : MetP l yX7_isWhole wsX7_isWhole rm_X7_isWhole G [bX7 a G v] [.ref (a 0)] (some (.int (b2i (g_isWhole v)))) := by
  refine kb_beginP (cc := cX7_isWhole) (maxL := 3) (ret := (some .boolean)) (by decide) rfl (Nat.le_of_ble_eq_true rfl) ?_
  intro p e s m below meth c hx hb hr hml hown hts hlocks hX hP ls hl
  have hown : s.vm.findClass RX7 = some m.cls := hown
  have hl : lv_has ls 3 [(0, .ref (a 0))] := hl
  have hin7 : ∀ w ∈ u_ws RX7 TX7 19, w ∈ wsX7_isWhole := (fun _ h => List.mem_cons_of_mem _ (List.mem_append_right _ (h)))
  refine lv_aload_n hx hb dX7_isWhole_0 rfl (lv_at hl 0 rfl) ?_
  refine kb_get (own := RX7) (C := RX7) (T := TX7) (N := 19) (v := .ref (a 3)) hx hb hts hin7 hown hX hP 0 rfl rfl rfl 4 (by decide) rfl (by decide +kernel) rfl dX7_isWhole_1 ?_
  refine lv_iconst (v := 1) hx hb dX7_isWhole_4 (by decide) ?_
  refine kb_ialdN (jn := 1) (n := 2) (f := v.1 4) hx hb hX hP 0 3 rfl rfl rfl (by omega) (by decide) dX7_isWhole_5 ?_
  refine lv_if_le (tgt := 22) hx hb dX7_isWhole_6 (by decide) (fun c_6 => ?_) (fun c_6 => ?_)
  · refine lv_iconst (v := 0) hx hb dX7_isWhole_22 (by decide) ?_
    refine lv_istore_n (lv' := [(1, .int 0), (0, .ref (a 0))]) hx hb dX7_isWhole_23 rfl hl (by decide) rfl (fun ls hl => ?_)
    refine lv_iconst (v := 0) hx hb dX7_isWhole_24 (by decide) ?_
    refine lv_istore_n (lv' := [(2, .int 0), (1, .int 0), (0, .ref (a 0))]) hx hb dX7_isWhole_25 rfl hl (by decide) rfl (fun ls hl => ?_)
    refine lp_up (N := (v.1 4 1).toNatClampNeg) (P := fun k => ∀ (bb : Bool), ∀ (ls : Array Slot), lv_has ls 3 [(2, .int (nI k)), (1, .int (b2i bb)), (0, .ref (a 0))] → (bb = itN (s_whD v) (w0 v) k) → W p l e (headSpec wsX7_isWhole rm_X7_isWhole).room s m ([.ref (a 0)] : List Value).toArray below meth c s.heap [] 0 0 (MQ below (kQp (some (.int (b2i (g_isWhole v))))) ([.ref (a 0)] : List Value).toArray s 0 0 (fun _ => False)) (F0 m 26 ls [])) ?_ ?_ 0 (Nat.zero_le _) false _ (lv_sub hl [0, 1, 2] rfl) (by simp only [itN, w0, if_pos c_6])
    · skip
      intro bb ls hl hbk
      refine lv_iload_n hx hb dX7_isWhole_26 rfl (lv_at hl 0 rfl) ?_
      refine lv_aload_n hx hb dX7_isWhole_27 rfl (lv_at hl 2 rfl) ?_
      refine kb_get (own := RX7) (C := RX7) (T := TX7) (N := 19) (v := .ref (a 3)) hx hb hts hin7 hown hX hP 0 rfl rfl rfl 4 (by decide) rfl (by decide +kernel) rfl dX7_isWhole_28 ?_
      refine lv_iconst (v := 1) hx hb dX7_isWhole_31 (by decide) ?_
      refine kb_ialdN (jn := 1) (n := 2) (f := v.1 4) hx hb hX hP 0 3 rfl rfl rfl (by omega) (by decide) dX7_isWhole_32 ?_
      refine lv_icmp_ge (tgt := 112) hx hb dX7_isWhole_33 (by decide) (fun c_33 => ?_) (fun c_33 => absurd (lpx_c _) c_33)
      refine lv_iconst (v := 0) hx hb dX7_isWhole_112 (by decide) ?_
      refine lv_istore_n (lv' := [(2, .int 0), (1, .int (b2i bb)), (0, .ref (a 0))]) hx hb dX7_isWhole_113 rfl hl (by decide) rfl (fun ls hl => ?_)
      refine lp_up (N := (v.1 7 1).toNatClampNeg) (P := fun k => ∀ (b2 : Bool), ∀ (ls : Array Slot), lv_has ls 3 [(2, .int (nI k)), (1, .int (b2i b2)), (0, .ref (a 0))] → (b2 = itN (s_whL v) (itN (s_whD v) (w0 v) (v.1 4 1).toNatClampNeg) k) → W p l e (headSpec wsX7_isWhole rm_X7_isWhole).room s m ([.ref (a 0)] : List Value).toArray below meth c s.heap [] 0 0 (MQ below (kQp (some (.int (b2i (g_isWhole v))))) ([.ref (a 0)] : List Value).toArray s 0 0 (fun _ => False)) (F0 m 114 ls [])) ?_ ?_ 0 (Nat.zero_le _) bb _ (lv_sub hl [0, 1, 2] rfl) (hbk)
      · skip
        intro b2 ls hl hb2
        refine lv_iload_n hx hb dX7_isWhole_114 rfl (lv_at hl 0 rfl) ?_
        refine lv_aload_n hx hb dX7_isWhole_115 rfl (lv_at hl 2 rfl) ?_
        refine kb_get (own := RX7) (C := RX7) (T := TX7) (N := 19) (v := .ref (a 6)) hx hb hts hin7 hown hX hP 0 rfl rfl rfl 7 (by decide) rfl (by decide +kernel) rfl dX7_isWhole_116 ?_
        refine lv_iconst (v := 1) hx hb dX7_isWhole_119 (by decide) ?_
        refine kb_ialdN (jn := 1) (n := 2) (f := v.1 7) hx hb hX hP 0 6 rfl rfl rfl (by omega) (by decide) dX7_isWhole_120 ?_
        refine lv_icmp_ge (tgt := 180) hx hb dX7_isWhole_121 (by decide) (fun c_121 => ?_) (fun c_121 => absurd (lpx_c _) c_121)
        refine lv_iload_n hx hb dX7_isWhole_180 rfl (lv_at hl 1 rfl) ?_
        exact kr_pz hx hb hr hlocks dX7_isWhole_181 (narrow_b2i _) (by rw [g_isWhole, ← hb2])
      · skip
        intro k hk_k ih_114 b2 ls hl hb2
        refine lv_iload_n hx hb dX7_isWhole_114 rfl (lv_at hl 0 rfl) ?_
        refine lv_aload_n hx hb dX7_isWhole_115 rfl (lv_at hl 2 rfl) ?_
        refine kb_get (own := RX7) (C := RX7) (T := TX7) (N := 19) (v := .ref (a 6)) hx hb hts hin7 hown hX hP 0 rfl rfl rfl 7 (by decide) rfl (by decide +kernel) rfl dX7_isWhole_116 ?_
        refine lv_iconst (v := 1) hx hb dX7_isWhole_119 (by decide) ?_
        refine kb_ialdN (jn := 1) (n := 2) (f := v.1 7) hx hb hX hP 0 6 rfl rfl rfl (by omega) (by decide) dX7_isWhole_120 ?_
        refine lv_icmp_ge (tgt := 180) hx hb dX7_isWhole_121 (by decide) (fun c_121 => absurd c_121 (lps_c hk_k)) (fun c_121 => ?_)
        refine lv_iload_n hx hb dX7_isWhole_124 rfl (lv_at hl 1 rfl) ?_
        refine lv_if_eq (tgt := 172) hx hb dX7_isWhole_125 (by decide) (fun c_125r => ?_) (fun c_125r => ?_)
        · have c_125 := b2i_fN c_125r
          refine lv_iconst (v := 0) hx hb dX7_isWhole_172 (by decide) ?_
          refine lv_istore_n (lv' := [(1, .int 0), (2, .int (nI k)), (0, .ref (a 0))]) hx hb dX7_isWhole_173 rfl hl (by decide) rfl (fun ls hl => ?_)
          refine lv_iinc (v := nI (k + 1)) (lv' := [(2, .int (nI (k + 1))), (1, .int 0), (0, .ref (a 0))]) hx hb dX7_isWhole_174 hl (k := 1) rfl (nI_1 _) (by decide) rfl (fun ls hl => ?_)
          refine lv_goto (tgt := 114) hx hb dX7_isWhole_177 (by decide) ?_
          exact ih_114 false _ (show lv_has ls 3 [(2, .int (nI (k + 1))), (1, .int 0), (0, .ref (a 0))] from lv_sub hl [0, 1, 2] rfl) (by rw [itN_s, ← hb2]; simp only [s_whL, if_pos c_6, if_pos c_33, if_neg c_121, if_neg c_125])
        · have c_125 := b2i_tP c_125r
          refine lv_aload_n hx hb dX7_isWhole_128 rfl (lv_at hl 2 rfl) ?_
          refine kb_get (own := RX7) (C := RX7) (T := TX7) (N := 19) (v := .ref (a 7)) hx hb hts hin7 hown hX hP 0 rfl rfl rfl 8 (by decide) rfl (by decide +kernel) rfl dX7_isWhole_129 ?_
          refine lv_bipush (v := 12) hx hb dX7_isWhole_132 (by decide) ?_
          refine lv_iconst (v := 3) hx hb dX7_isWhole_134 (by decide) ?_
          refine lv_iload_n hx hb dX7_isWhole_135 rfl (lv_at hl 0 rfl) ?_
          refine lv_imul hx hb dX7_isWhole_136 ?_
          refine lv_iadd hx hb dX7_isWhole_137 ?_
          refine kb_ialdN (jn := 12 + (3 * k)) (n := 24) (f := v.1 8) hx hb hX hP 0 7 rfl rfl (by simp only [nI_addE, nI_mulE] <;> rfl) (by omega) (by decide) dX7_isWhole_138 ?_
          refine lv_aload_n hx hb dX7_isWhole_139 rfl (lv_at hl 2 rfl) ?_
          refine kb_get (own := RX7) (C := RX7) (T := TX7) (N := 19) (v := .ref (a 2)) hx hb hts hin7 hown hX hP 0 rfl rfl rfl 3 (by decide) rfl (by decide +kernel) rfl dX7_isWhole_140 ?_
          refine lv_iconst (v := 5) hx hb dX7_isWhole_143 (by decide) ?_
          refine kb_ialdN (jn := 5) (n := 10) (f := v.1 3) hx hb hX hP 0 2 rfl rfl rfl (by omega) (by decide) dX7_isWhole_144 ?_
          refine lv_icmp_ge (tgt := 172) hx hb dX7_isWhole_145 (by decide) (fun c_145 => ?_) (fun c_145 => ?_)
          · refine lv_iconst (v := 0) hx hb dX7_isWhole_172 (by decide) ?_
            refine lv_istore_n (lv' := [(1, .int 0), (2, .int (nI k)), (0, .ref (a 0))]) hx hb dX7_isWhole_173 rfl hl (by decide) rfl (fun ls hl => ?_)
            refine lv_iinc (v := nI (k + 1)) (lv' := [(2, .int (nI (k + 1))), (1, .int 0), (0, .ref (a 0))]) hx hb dX7_isWhole_174 hl (k := 1) rfl (nI_1 _) (by decide) rfl (fun ls hl => ?_)
            refine lv_goto (tgt := 114) hx hb dX7_isWhole_177 (by decide) ?_
            exact ih_114 false _ (show lv_has ls 3 [(2, .int (nI (k + 1))), (1, .int 0), (0, .ref (a 0))] from lv_sub hl [0, 1, 2] rfl) (by rw [itN_s, ← hb2]; simp only [s_whL, if_pos c_6, if_pos c_33, if_neg c_121, if_pos c_125, if_pos c_145])
          · refine lv_aload_n hx hb dX7_isWhole_148 rfl (lv_at hl 2 rfl) ?_
            refine kb_get (own := RX7) (C := RX7) (T := TX7) (N := 19) (v := .ref (a 7)) hx hb hts hin7 hown hX hP 0 rfl rfl rfl 8 (by decide) rfl (by decide +kernel) rfl dX7_isWhole_149 ?_
            refine lv_bipush (v := 14) hx hb dX7_isWhole_152 (by decide) ?_
            refine lv_iconst (v := 3) hx hb dX7_isWhole_154 (by decide) ?_
            refine lv_iload_n hx hb dX7_isWhole_155 rfl (lv_at hl 0 rfl) ?_
            refine lv_imul hx hb dX7_isWhole_156 ?_
            refine lv_iadd hx hb dX7_isWhole_157 ?_
            refine kb_ialdN (jn := 14 + (3 * k)) (n := 24) (f := v.1 8) hx hb hX hP 0 7 rfl rfl (by simp only [nI_addE, nI_mulE] <;> rfl) (by omega) (by decide) dX7_isWhole_158 ?_
            refine lv_aload_n hx hb dX7_isWhole_159 rfl (lv_at hl 2 rfl) ?_
            refine kb_get (own := RX7) (C := RX7) (T := TX7) (N := 19) (v := .ref (a 2)) hx hb hts hin7 hown hX hP 0 rfl rfl rfl 3 (by decide) rfl (by decide +kernel) rfl dX7_isWhole_160 ?_
            refine lv_iconst (v := 5) hx hb dX7_isWhole_163 (by decide) ?_
            refine kb_ialdN (jn := 5) (n := 10) (f := v.1 3) hx hb hX hP 0 2 rfl rfl rfl (by omega) (by decide) dX7_isWhole_164 ?_
            refine lv_icmp_ge (tgt := 172) hx hb dX7_isWhole_165 (by decide) (fun c_165 => ?_) (fun c_165 => ?_)
            · refine lv_iconst (v := 0) hx hb dX7_isWhole_172 (by decide) ?_
              refine lv_istore_n (lv' := [(1, .int 0), (2, .int (nI k)), (0, .ref (a 0))]) hx hb dX7_isWhole_173 rfl hl (by decide) rfl (fun ls hl => ?_)
              refine lv_iinc (v := nI (k + 1)) (lv' := [(2, .int (nI (k + 1))), (1, .int 0), (0, .ref (a 0))]) hx hb dX7_isWhole_174 hl (k := 1) rfl (nI_1 _) (by decide) rfl (fun ls hl => ?_)
              refine lv_goto (tgt := 114) hx hb dX7_isWhole_177 (by decide) ?_
              exact ih_114 false _ (show lv_has ls 3 [(2, .int (nI (k + 1))), (1, .int 0), (0, .ref (a 0))] from lv_sub hl [0, 1, 2] rfl) (by rw [itN_s, ← hb2]; simp only [s_whL, if_pos c_6, if_pos c_33, if_neg c_121, if_pos c_125, if_neg c_145, if_pos c_165])
            · refine lv_iconst (v := 1) hx hb dX7_isWhole_168 (by decide) ?_
              refine lv_goto (tgt := 173) hx hb dX7_isWhole_169 (by decide) ?_
              refine lv_istore_n (lv' := [(1, .int 1), (2, .int (nI k)), (0, .ref (a 0))]) hx hb dX7_isWhole_173 rfl hl (by decide) rfl (fun ls hl => ?_)
              refine lv_iinc (v := nI (k + 1)) (lv' := [(2, .int (nI (k + 1))), (1, .int 1), (0, .ref (a 0))]) hx hb dX7_isWhole_174 hl (k := 1) rfl (nI_1 _) (by decide) rfl (fun ls hl => ?_)
              refine lv_goto (tgt := 114) hx hb dX7_isWhole_177 (by decide) ?_
              exact ih_114 true _ (show lv_has ls 3 [(2, .int (nI (k + 1))), (1, .int 1), (0, .ref (a 0))] from lv_sub hl [0, 1, 2] rfl) (by rw [itN_s, ← hb2]; simp only [s_whL, if_pos c_6, if_pos c_33, if_neg c_121, if_pos c_125, if_neg c_145, if_neg c_165])
    · skip
      intro k hk_k ih_26 bb ls hl hbk
      refine lv_iload_n hx hb dX7_isWhole_26 rfl (lv_at hl 0 rfl) ?_
      refine lv_aload_n hx hb dX7_isWhole_27 rfl (lv_at hl 2 rfl) ?_
      refine kb_get (own := RX7) (C := RX7) (T := TX7) (N := 19) (v := .ref (a 3)) hx hb hts hin7 hown hX hP 0 rfl rfl rfl 4 (by decide) rfl (by decide +kernel) rfl dX7_isWhole_28 ?_
      refine lv_iconst (v := 1) hx hb dX7_isWhole_31 (by decide) ?_
      refine kb_ialdN (jn := 1) (n := 2) (f := v.1 4) hx hb hX hP 0 3 rfl rfl rfl (by omega) (by decide) dX7_isWhole_32 ?_
      refine lv_icmp_ge (tgt := 112) hx hb dX7_isWhole_33 (by decide) (fun c_33 => absurd c_33 (lps_c hk_k)) (fun c_33 => ?_)
      refine lv_iload_n hx hb dX7_isWhole_36 rfl (lv_at hl 1 rfl) ?_
      refine lv_if_eq (tgt := 104) hx hb dX7_isWhole_37 (by decide) (fun c_37r => ?_) (fun c_37r => ?_)
      · have c_37 := b2i_fN c_37r
        refine lv_iconst (v := 0) hx hb dX7_isWhole_104 (by decide) ?_
        refine lv_istore_n (lv' := [(1, .int 0), (2, .int (nI k)), (0, .ref (a 0))]) hx hb dX7_isWhole_105 rfl hl (by decide) rfl (fun ls hl => ?_)
        refine lv_iinc (v := nI (k + 1)) (lv' := [(2, .int (nI (k + 1))), (1, .int 0), (0, .ref (a 0))]) hx hb dX7_isWhole_106 hl (k := 1) rfl (nI_1 _) (by decide) rfl (fun ls hl => ?_)
        refine lv_goto (tgt := 26) hx hb dX7_isWhole_109 (by decide) ?_
        exact ih_26 false _ (show lv_has ls 3 [(2, .int (nI (k + 1))), (1, .int 0), (0, .ref (a 0))] from lv_sub hl [0, 1, 2] rfl) (by rw [itN_s, ← hbk]; simp only [s_whD, if_pos c_6, if_neg c_33, if_neg c_37])
      · have c_37 := b2i_tP c_37r
        refine lv_aload_n hx hb dX7_isWhole_40 rfl (lv_at hl 2 rfl) ?_
        refine kb_get (own := RX7) (C := RX7) (T := TX7) (N := 19) (v := .ref (a 4)) hx hb hts hin7 hown hX hP 0 rfl rfl rfl 5 (by decide) rfl (by decide +kernel) rfl dX7_isWhole_41 ?_
        refine lv_bipush (v := 24) hx hb dX7_isWhole_44 (by decide) ?_
        refine lv_iconst (v := 3) hx hb dX7_isWhole_46 (by decide) ?_
        refine lv_iload_n hx hb dX7_isWhole_47 rfl (lv_at hl 0 rfl) ?_
        refine lv_imul hx hb dX7_isWhole_48 ?_
        refine lv_iadd hx hb dX7_isWhole_49 ?_
        refine kb_ialdN (jn := 24 + (3 * k)) (n := 48) (f := v.1 5) hx hb hX hP 0 4 rfl rfl (by simp only [nI_addE, nI_mulE] <;> rfl) (by omega) (by decide) dX7_isWhole_50 ?_
        refine lv_aload_n hx hb dX7_isWhole_51 rfl (lv_at hl 2 rfl) ?_
        refine kb_get (own := RX7) (C := RX7) (T := TX7) (N := 19) (v := .ref (a 2)) hx hb hts hin7 hown hX hP 0 rfl rfl rfl 3 (by decide) rfl (by decide +kernel) rfl dX7_isWhole_52 ?_
        refine lv_iconst (v := 5) hx hb dX7_isWhole_55 (by decide) ?_
        refine kb_ialdN (jn := 5) (n := 10) (f := v.1 3) hx hb hX hP 0 2 rfl rfl rfl (by omega) (by decide) dX7_isWhole_56 ?_
        refine lv_icmp_ge (tgt := 104) hx hb dX7_isWhole_57 (by decide) (fun c_57 => ?_) (fun c_57 => ?_)
        · refine lv_iconst (v := 0) hx hb dX7_isWhole_104 (by decide) ?_
          refine lv_istore_n (lv' := [(1, .int 0), (2, .int (nI k)), (0, .ref (a 0))]) hx hb dX7_isWhole_105 rfl hl (by decide) rfl (fun ls hl => ?_)
          refine lv_iinc (v := nI (k + 1)) (lv' := [(2, .int (nI (k + 1))), (1, .int 0), (0, .ref (a 0))]) hx hb dX7_isWhole_106 hl (k := 1) rfl (nI_1 _) (by decide) rfl (fun ls hl => ?_)
          refine lv_goto (tgt := 26) hx hb dX7_isWhole_109 (by decide) ?_
          exact ih_26 false _ (show lv_has ls 3 [(2, .int (nI (k + 1))), (1, .int 0), (0, .ref (a 0))] from lv_sub hl [0, 1, 2] rfl) (by rw [itN_s, ← hbk]; simp only [s_whD, if_pos c_6, if_neg c_33, if_pos c_37, if_pos c_57])
        · refine lv_aload_n hx hb dX7_isWhole_60 rfl (lv_at hl 2 rfl) ?_
          refine kb_get (own := RX7) (C := RX7) (T := TX7) (N := 19) (v := .ref (a 4)) hx hb hts hin7 hown hX hP 0 rfl rfl rfl 5 (by decide) rfl (by decide +kernel) rfl dX7_isWhole_61 ?_
          refine lv_bipush (v := 25) hx hb dX7_isWhole_64 (by decide) ?_
          refine lv_iconst (v := 3) hx hb dX7_isWhole_66 (by decide) ?_
          refine lv_iload_n hx hb dX7_isWhole_67 rfl (lv_at hl 0 rfl) ?_
          refine lv_imul hx hb dX7_isWhole_68 ?_
          refine lv_iadd hx hb dX7_isWhole_69 ?_
          refine kb_ialdN (jn := 25 + (3 * k)) (n := 48) (f := v.1 5) hx hb hX hP 0 4 rfl rfl (by simp only [nI_addE, nI_mulE] <;> rfl) (by omega) (by decide) dX7_isWhole_70 ?_
          refine lv_aload_n hx hb dX7_isWhole_71 rfl (lv_at hl 2 rfl) ?_
          refine kb_get (own := RX7) (C := RX7) (T := TX7) (N := 19) (v := .ref (a 2)) hx hb hts hin7 hown hX hP 0 rfl rfl rfl 3 (by decide) rfl (by decide +kernel) rfl dX7_isWhole_72 ?_
          refine lv_iconst (v := 5) hx hb dX7_isWhole_75 (by decide) ?_
          refine kb_ialdN (jn := 5) (n := 10) (f := v.1 3) hx hb hX hP 0 2 rfl rfl rfl (by omega) (by decide) dX7_isWhole_76 ?_
          refine lv_icmp_ge (tgt := 104) hx hb dX7_isWhole_77 (by decide) (fun c_77 => ?_) (fun c_77 => ?_)
          · refine lv_iconst (v := 0) hx hb dX7_isWhole_104 (by decide) ?_
            refine lv_istore_n (lv' := [(1, .int 0), (2, .int (nI k)), (0, .ref (a 0))]) hx hb dX7_isWhole_105 rfl hl (by decide) rfl (fun ls hl => ?_)
            refine lv_iinc (v := nI (k + 1)) (lv' := [(2, .int (nI (k + 1))), (1, .int 0), (0, .ref (a 0))]) hx hb dX7_isWhole_106 hl (k := 1) rfl (nI_1 _) (by decide) rfl (fun ls hl => ?_)
            refine lv_goto (tgt := 26) hx hb dX7_isWhole_109 (by decide) ?_
            exact ih_26 false _ (show lv_has ls 3 [(2, .int (nI (k + 1))), (1, .int 0), (0, .ref (a 0))] from lv_sub hl [0, 1, 2] rfl) (by rw [itN_s, ← hbk]; simp only [s_whD, if_pos c_6, if_neg c_33, if_pos c_37, if_neg c_57, if_pos c_77])
          · refine lv_aload_n hx hb dX7_isWhole_80 rfl (lv_at hl 2 rfl) ?_
            refine kb_get (own := RX7) (C := RX7) (T := TX7) (N := 19) (v := .ref (a 4)) hx hb hts hin7 hown hX hP 0 rfl rfl rfl 5 (by decide) rfl (by decide +kernel) rfl dX7_isWhole_81 ?_
            refine lv_bipush (v := 26) hx hb dX7_isWhole_84 (by decide) ?_
            refine lv_iconst (v := 3) hx hb dX7_isWhole_86 (by decide) ?_
            refine lv_iload_n hx hb dX7_isWhole_87 rfl (lv_at hl 0 rfl) ?_
            refine lv_imul hx hb dX7_isWhole_88 ?_
            refine lv_iadd hx hb dX7_isWhole_89 ?_
            refine kb_ialdN (jn := 26 + (3 * k)) (n := 48) (f := v.1 5) hx hb hX hP 0 4 rfl rfl (by simp only [nI_addE, nI_mulE] <;> rfl) (by omega) (by decide) dX7_isWhole_90 ?_
            refine lv_aload_n hx hb dX7_isWhole_91 rfl (lv_at hl 2 rfl) ?_
            refine kb_get (own := RX7) (C := RX7) (T := TX7) (N := 19) (v := .ref (a 3)) hx hb hts hin7 hown hX hP 0 rfl rfl rfl 4 (by decide) rfl (by decide +kernel) rfl dX7_isWhole_92 ?_
            refine lv_iconst (v := 1) hx hb dX7_isWhole_95 (by decide) ?_
            refine kb_ialdN (jn := 1) (n := 2) (f := v.1 4) hx hb hX hP 0 3 rfl rfl rfl (by omega) (by decide) dX7_isWhole_96 ?_
            refine lv_icmp_ge (tgt := 104) hx hb dX7_isWhole_97 (by decide) (fun c_97 => ?_) (fun c_97 => ?_)
            · refine lv_iconst (v := 0) hx hb dX7_isWhole_104 (by decide) ?_
              refine lv_istore_n (lv' := [(1, .int 0), (2, .int (nI k)), (0, .ref (a 0))]) hx hb dX7_isWhole_105 rfl hl (by decide) rfl (fun ls hl => ?_)
              refine lv_iinc (v := nI (k + 1)) (lv' := [(2, .int (nI (k + 1))), (1, .int 0), (0, .ref (a 0))]) hx hb dX7_isWhole_106 hl (k := 1) rfl (nI_1 _) (by decide) rfl (fun ls hl => ?_)
              refine lv_goto (tgt := 26) hx hb dX7_isWhole_109 (by decide) ?_
              exact ih_26 false _ (show lv_has ls 3 [(2, .int (nI (k + 1))), (1, .int 0), (0, .ref (a 0))] from lv_sub hl [0, 1, 2] rfl) (by rw [itN_s, ← hbk]; simp only [s_whD, if_pos c_6, if_neg c_33, if_pos c_37, if_neg c_57, if_neg c_77, if_pos c_97])
            · refine lv_iconst (v := 1) hx hb dX7_isWhole_100 (by decide) ?_
              refine lv_goto (tgt := 105) hx hb dX7_isWhole_101 (by decide) ?_
              refine lv_istore_n (lv' := [(1, .int 1), (2, .int (nI k)), (0, .ref (a 0))]) hx hb dX7_isWhole_105 rfl hl (by decide) rfl (fun ls hl => ?_)
              refine lv_iinc (v := nI (k + 1)) (lv' := [(2, .int (nI (k + 1))), (1, .int 1), (0, .ref (a 0))]) hx hb dX7_isWhole_106 hl (k := 1) rfl (nI_1 _) (by decide) rfl (fun ls hl => ?_)
              refine lv_goto (tgt := 26) hx hb dX7_isWhole_109 (by decide) ?_
              exact ih_26 true _ (show lv_has ls 3 [(2, .int (nI (k + 1))), (1, .int 1), (0, .ref (a 0))] from lv_sub hl [0, 1, 2] rfl) (by rw [itN_s, ← hbk]; simp only [s_whD, if_pos c_6, if_neg c_33, if_pos c_37, if_neg c_57, if_neg c_77, if_neg c_97])
  · refine lv_aload_n hx hb dX7_isWhole_9 rfl (lv_at hl 0 rfl) ?_
    refine kb_get (own := RX7) (C := RX7) (T := TX7) (N := 19) (v := .ref (a 6)) hx hb hts hin7 hown hX hP 0 rfl rfl rfl 7 (by decide) rfl (by decide +kernel) rfl dX7_isWhole_10 ?_
    refine lv_iconst (v := 1) hx hb dX7_isWhole_13 (by decide) ?_
    refine kb_ialdN (jn := 1) (n := 2) (f := v.1 7) hx hb hX hP 0 6 rfl rfl rfl (by omega) (by decide) dX7_isWhole_14 ?_
    refine lv_if_le (tgt := 22) hx hb dX7_isWhole_15 (by decide) (fun c_15 => ?_) (fun c_15 => ?_)
    · refine lv_iconst (v := 0) hx hb dX7_isWhole_22 (by decide) ?_
      refine lv_istore_n (lv' := [(1, .int 0), (0, .ref (a 0))]) hx hb dX7_isWhole_23 rfl hl (by decide) rfl (fun ls hl => ?_)
      refine lv_iconst (v := 0) hx hb dX7_isWhole_24 (by decide) ?_
      refine lv_istore_n (lv' := [(2, .int 0), (1, .int 0), (0, .ref (a 0))]) hx hb dX7_isWhole_25 rfl hl (by decide) rfl (fun ls hl => ?_)
      refine lp_up (N := (v.1 4 1).toNatClampNeg) (P := fun k => ∀ (bb : Bool), ∀ (ls : Array Slot), lv_has ls 3 [(2, .int (nI k)), (1, .int (b2i bb)), (0, .ref (a 0))] → (bb = itN (s_whD v) (w0 v) k) → W p l e (headSpec wsX7_isWhole rm_X7_isWhole).room s m ([.ref (a 0)] : List Value).toArray below meth c s.heap [] 0 0 (MQ below (kQp (some (.int (b2i (g_isWhole v))))) ([.ref (a 0)] : List Value).toArray s 0 0 (fun _ => False)) (F0 m 26 ls [])) ?_ ?_ 0 (Nat.zero_le _) false _ (lv_sub hl [0, 1, 2] rfl) (by simp only [itN, w0, if_neg c_6, if_pos c_15])
      · skip
        intro bb ls hl hbk
        refine lv_iload_n hx hb dX7_isWhole_26 rfl (lv_at hl 0 rfl) ?_
        refine lv_aload_n hx hb dX7_isWhole_27 rfl (lv_at hl 2 rfl) ?_
        refine kb_get (own := RX7) (C := RX7) (T := TX7) (N := 19) (v := .ref (a 3)) hx hb hts hin7 hown hX hP 0 rfl rfl rfl 4 (by decide) rfl (by decide +kernel) rfl dX7_isWhole_28 ?_
        refine lv_iconst (v := 1) hx hb dX7_isWhole_31 (by decide) ?_
        refine kb_ialdN (jn := 1) (n := 2) (f := v.1 4) hx hb hX hP 0 3 rfl rfl rfl (by omega) (by decide) dX7_isWhole_32 ?_
        refine lv_icmp_ge (tgt := 112) hx hb dX7_isWhole_33 (by decide) (fun c_33 => ?_) (fun c_33 => absurd (lpx_c _) c_33)
        refine lv_iconst (v := 0) hx hb dX7_isWhole_112 (by decide) ?_
        refine lv_istore_n (lv' := [(2, .int 0), (1, .int (b2i bb)), (0, .ref (a 0))]) hx hb dX7_isWhole_113 rfl hl (by decide) rfl (fun ls hl => ?_)
        refine lp_up (N := (v.1 7 1).toNatClampNeg) (P := fun k => ∀ (b2 : Bool), ∀ (ls : Array Slot), lv_has ls 3 [(2, .int (nI k)), (1, .int (b2i b2)), (0, .ref (a 0))] → (b2 = itN (s_whL v) (itN (s_whD v) (w0 v) (v.1 4 1).toNatClampNeg) k) → W p l e (headSpec wsX7_isWhole rm_X7_isWhole).room s m ([.ref (a 0)] : List Value).toArray below meth c s.heap [] 0 0 (MQ below (kQp (some (.int (b2i (g_isWhole v))))) ([.ref (a 0)] : List Value).toArray s 0 0 (fun _ => False)) (F0 m 114 ls [])) ?_ ?_ 0 (Nat.zero_le _) bb _ (lv_sub hl [0, 1, 2] rfl) (hbk)
        · skip
          intro b2 ls hl hb2
          refine lv_iload_n hx hb dX7_isWhole_114 rfl (lv_at hl 0 rfl) ?_
          refine lv_aload_n hx hb dX7_isWhole_115 rfl (lv_at hl 2 rfl) ?_
          refine kb_get (own := RX7) (C := RX7) (T := TX7) (N := 19) (v := .ref (a 6)) hx hb hts hin7 hown hX hP 0 rfl rfl rfl 7 (by decide) rfl (by decide +kernel) rfl dX7_isWhole_116 ?_
          refine lv_iconst (v := 1) hx hb dX7_isWhole_119 (by decide) ?_
          refine kb_ialdN (jn := 1) (n := 2) (f := v.1 7) hx hb hX hP 0 6 rfl rfl rfl (by omega) (by decide) dX7_isWhole_120 ?_
          refine lv_icmp_ge (tgt := 180) hx hb dX7_isWhole_121 (by decide) (fun c_121 => ?_) (fun c_121 => absurd (lpx_c _) c_121)
          refine lv_iload_n hx hb dX7_isWhole_180 rfl (lv_at hl 1 rfl) ?_
          exact kr_pz hx hb hr hlocks dX7_isWhole_181 (narrow_b2i _) (by rw [g_isWhole, ← hb2])
        · skip
          intro k hk_k ih_114 b2 ls hl hb2
          refine lv_iload_n hx hb dX7_isWhole_114 rfl (lv_at hl 0 rfl) ?_
          refine lv_aload_n hx hb dX7_isWhole_115 rfl (lv_at hl 2 rfl) ?_
          refine kb_get (own := RX7) (C := RX7) (T := TX7) (N := 19) (v := .ref (a 6)) hx hb hts hin7 hown hX hP 0 rfl rfl rfl 7 (by decide) rfl (by decide +kernel) rfl dX7_isWhole_116 ?_
          refine lv_iconst (v := 1) hx hb dX7_isWhole_119 (by decide) ?_
          refine kb_ialdN (jn := 1) (n := 2) (f := v.1 7) hx hb hX hP 0 6 rfl rfl rfl (by omega) (by decide) dX7_isWhole_120 ?_
          refine lv_icmp_ge (tgt := 180) hx hb dX7_isWhole_121 (by decide) (fun c_121 => absurd c_121 (lps_c hk_k)) (fun c_121 => ?_)
          refine lv_iload_n hx hb dX7_isWhole_124 rfl (lv_at hl 1 rfl) ?_
          refine lv_if_eq (tgt := 172) hx hb dX7_isWhole_125 (by decide) (fun c_125r => ?_) (fun c_125r => ?_)
          · have c_125 := b2i_fN c_125r
            refine lv_iconst (v := 0) hx hb dX7_isWhole_172 (by decide) ?_
            refine lv_istore_n (lv' := [(1, .int 0), (2, .int (nI k)), (0, .ref (a 0))]) hx hb dX7_isWhole_173 rfl hl (by decide) rfl (fun ls hl => ?_)
            refine lv_iinc (v := nI (k + 1)) (lv' := [(2, .int (nI (k + 1))), (1, .int 0), (0, .ref (a 0))]) hx hb dX7_isWhole_174 hl (k := 1) rfl (nI_1 _) (by decide) rfl (fun ls hl => ?_)
            refine lv_goto (tgt := 114) hx hb dX7_isWhole_177 (by decide) ?_
            exact ih_114 false _ (show lv_has ls 3 [(2, .int (nI (k + 1))), (1, .int 0), (0, .ref (a 0))] from lv_sub hl [0, 1, 2] rfl) (by rw [itN_s, ← hb2]; simp only [s_whL, if_neg c_6, if_pos c_15, if_pos c_33, if_neg c_121, if_neg c_125])
          · have c_125 := b2i_tP c_125r
            refine lv_aload_n hx hb dX7_isWhole_128 rfl (lv_at hl 2 rfl) ?_
            refine kb_get (own := RX7) (C := RX7) (T := TX7) (N := 19) (v := .ref (a 7)) hx hb hts hin7 hown hX hP 0 rfl rfl rfl 8 (by decide) rfl (by decide +kernel) rfl dX7_isWhole_129 ?_
            refine lv_bipush (v := 12) hx hb dX7_isWhole_132 (by decide) ?_
            refine lv_iconst (v := 3) hx hb dX7_isWhole_134 (by decide) ?_
            refine lv_iload_n hx hb dX7_isWhole_135 rfl (lv_at hl 0 rfl) ?_
            refine lv_imul hx hb dX7_isWhole_136 ?_
            refine lv_iadd hx hb dX7_isWhole_137 ?_
            refine kb_ialdN (jn := 12 + (3 * k)) (n := 24) (f := v.1 8) hx hb hX hP 0 7 rfl rfl (by simp only [nI_addE, nI_mulE] <;> rfl) (by omega) (by decide) dX7_isWhole_138 ?_
            refine lv_aload_n hx hb dX7_isWhole_139 rfl (lv_at hl 2 rfl) ?_
            refine kb_get (own := RX7) (C := RX7) (T := TX7) (N := 19) (v := .ref (a 2)) hx hb hts hin7 hown hX hP 0 rfl rfl rfl 3 (by decide) rfl (by decide +kernel) rfl dX7_isWhole_140 ?_
            refine lv_iconst (v := 5) hx hb dX7_isWhole_143 (by decide) ?_
            refine kb_ialdN (jn := 5) (n := 10) (f := v.1 3) hx hb hX hP 0 2 rfl rfl rfl (by omega) (by decide) dX7_isWhole_144 ?_
            refine lv_icmp_ge (tgt := 172) hx hb dX7_isWhole_145 (by decide) (fun c_145 => ?_) (fun c_145 => ?_)
            · refine lv_iconst (v := 0) hx hb dX7_isWhole_172 (by decide) ?_
              refine lv_istore_n (lv' := [(1, .int 0), (2, .int (nI k)), (0, .ref (a 0))]) hx hb dX7_isWhole_173 rfl hl (by decide) rfl (fun ls hl => ?_)
              refine lv_iinc (v := nI (k + 1)) (lv' := [(2, .int (nI (k + 1))), (1, .int 0), (0, .ref (a 0))]) hx hb dX7_isWhole_174 hl (k := 1) rfl (nI_1 _) (by decide) rfl (fun ls hl => ?_)
              refine lv_goto (tgt := 114) hx hb dX7_isWhole_177 (by decide) ?_
              exact ih_114 false _ (show lv_has ls 3 [(2, .int (nI (k + 1))), (1, .int 0), (0, .ref (a 0))] from lv_sub hl [0, 1, 2] rfl) (by rw [itN_s, ← hb2]; simp only [s_whL, if_neg c_6, if_pos c_15, if_pos c_33, if_neg c_121, if_pos c_125, if_pos c_145])
            · refine lv_aload_n hx hb dX7_isWhole_148 rfl (lv_at hl 2 rfl) ?_
              refine kb_get (own := RX7) (C := RX7) (T := TX7) (N := 19) (v := .ref (a 7)) hx hb hts hin7 hown hX hP 0 rfl rfl rfl 8 (by decide) rfl (by decide +kernel) rfl dX7_isWhole_149 ?_
              refine lv_bipush (v := 14) hx hb dX7_isWhole_152 (by decide) ?_
              refine lv_iconst (v := 3) hx hb dX7_isWhole_154 (by decide) ?_
              refine lv_iload_n hx hb dX7_isWhole_155 rfl (lv_at hl 0 rfl) ?_
              refine lv_imul hx hb dX7_isWhole_156 ?_
              refine lv_iadd hx hb dX7_isWhole_157 ?_
              refine kb_ialdN (jn := 14 + (3 * k)) (n := 24) (f := v.1 8) hx hb hX hP 0 7 rfl rfl (by simp only [nI_addE, nI_mulE] <;> rfl) (by omega) (by decide) dX7_isWhole_158 ?_
              refine lv_aload_n hx hb dX7_isWhole_159 rfl (lv_at hl 2 rfl) ?_
              refine kb_get (own := RX7) (C := RX7) (T := TX7) (N := 19) (v := .ref (a 2)) hx hb hts hin7 hown hX hP 0 rfl rfl rfl 3 (by decide) rfl (by decide +kernel) rfl dX7_isWhole_160 ?_
              refine lv_iconst (v := 5) hx hb dX7_isWhole_163 (by decide) ?_
              refine kb_ialdN (jn := 5) (n := 10) (f := v.1 3) hx hb hX hP 0 2 rfl rfl rfl (by omega) (by decide) dX7_isWhole_164 ?_
              refine lv_icmp_ge (tgt := 172) hx hb dX7_isWhole_165 (by decide) (fun c_165 => ?_) (fun c_165 => ?_)
              · refine lv_iconst (v := 0) hx hb dX7_isWhole_172 (by decide) ?_
                refine lv_istore_n (lv' := [(1, .int 0), (2, .int (nI k)), (0, .ref (a 0))]) hx hb dX7_isWhole_173 rfl hl (by decide) rfl (fun ls hl => ?_)
                refine lv_iinc (v := nI (k + 1)) (lv' := [(2, .int (nI (k + 1))), (1, .int 0), (0, .ref (a 0))]) hx hb dX7_isWhole_174 hl (k := 1) rfl (nI_1 _) (by decide) rfl (fun ls hl => ?_)
                refine lv_goto (tgt := 114) hx hb dX7_isWhole_177 (by decide) ?_
                exact ih_114 false _ (show lv_has ls 3 [(2, .int (nI (k + 1))), (1, .int 0), (0, .ref (a 0))] from lv_sub hl [0, 1, 2] rfl) (by rw [itN_s, ← hb2]; simp only [s_whL, if_neg c_6, if_pos c_15, if_pos c_33, if_neg c_121, if_pos c_125, if_neg c_145, if_pos c_165])
              · refine lv_iconst (v := 1) hx hb dX7_isWhole_168 (by decide) ?_
                refine lv_goto (tgt := 173) hx hb dX7_isWhole_169 (by decide) ?_
                refine lv_istore_n (lv' := [(1, .int 1), (2, .int (nI k)), (0, .ref (a 0))]) hx hb dX7_isWhole_173 rfl hl (by decide) rfl (fun ls hl => ?_)
                refine lv_iinc (v := nI (k + 1)) (lv' := [(2, .int (nI (k + 1))), (1, .int 1), (0, .ref (a 0))]) hx hb dX7_isWhole_174 hl (k := 1) rfl (nI_1 _) (by decide) rfl (fun ls hl => ?_)
                refine lv_goto (tgt := 114) hx hb dX7_isWhole_177 (by decide) ?_
                exact ih_114 true _ (show lv_has ls 3 [(2, .int (nI (k + 1))), (1, .int 1), (0, .ref (a 0))] from lv_sub hl [0, 1, 2] rfl) (by rw [itN_s, ← hb2]; simp only [s_whL, if_neg c_6, if_pos c_15, if_pos c_33, if_neg c_121, if_pos c_125, if_neg c_145, if_neg c_165])
      · skip
        intro k hk_k ih_26 bb ls hl hbk
        refine lv_iload_n hx hb dX7_isWhole_26 rfl (lv_at hl 0 rfl) ?_
        refine lv_aload_n hx hb dX7_isWhole_27 rfl (lv_at hl 2 rfl) ?_
        refine kb_get (own := RX7) (C := RX7) (T := TX7) (N := 19) (v := .ref (a 3)) hx hb hts hin7 hown hX hP 0 rfl rfl rfl 4 (by decide) rfl (by decide +kernel) rfl dX7_isWhole_28 ?_
        refine lv_iconst (v := 1) hx hb dX7_isWhole_31 (by decide) ?_
        refine kb_ialdN (jn := 1) (n := 2) (f := v.1 4) hx hb hX hP 0 3 rfl rfl rfl (by omega) (by decide) dX7_isWhole_32 ?_
        refine lv_icmp_ge (tgt := 112) hx hb dX7_isWhole_33 (by decide) (fun c_33 => absurd c_33 (lps_c hk_k)) (fun c_33 => ?_)
        refine lv_iload_n hx hb dX7_isWhole_36 rfl (lv_at hl 1 rfl) ?_
        refine lv_if_eq (tgt := 104) hx hb dX7_isWhole_37 (by decide) (fun c_37r => ?_) (fun c_37r => ?_)
        · have c_37 := b2i_fN c_37r
          refine lv_iconst (v := 0) hx hb dX7_isWhole_104 (by decide) ?_
          refine lv_istore_n (lv' := [(1, .int 0), (2, .int (nI k)), (0, .ref (a 0))]) hx hb dX7_isWhole_105 rfl hl (by decide) rfl (fun ls hl => ?_)
          refine lv_iinc (v := nI (k + 1)) (lv' := [(2, .int (nI (k + 1))), (1, .int 0), (0, .ref (a 0))]) hx hb dX7_isWhole_106 hl (k := 1) rfl (nI_1 _) (by decide) rfl (fun ls hl => ?_)
          refine lv_goto (tgt := 26) hx hb dX7_isWhole_109 (by decide) ?_
          exact ih_26 false _ (show lv_has ls 3 [(2, .int (nI (k + 1))), (1, .int 0), (0, .ref (a 0))] from lv_sub hl [0, 1, 2] rfl) (by rw [itN_s, ← hbk]; simp only [s_whD, if_neg c_6, if_pos c_15, if_neg c_33, if_neg c_37])
        · have c_37 := b2i_tP c_37r
          refine lv_aload_n hx hb dX7_isWhole_40 rfl (lv_at hl 2 rfl) ?_
          refine kb_get (own := RX7) (C := RX7) (T := TX7) (N := 19) (v := .ref (a 4)) hx hb hts hin7 hown hX hP 0 rfl rfl rfl 5 (by decide) rfl (by decide +kernel) rfl dX7_isWhole_41 ?_
          refine lv_bipush (v := 24) hx hb dX7_isWhole_44 (by decide) ?_
          refine lv_iconst (v := 3) hx hb dX7_isWhole_46 (by decide) ?_
          refine lv_iload_n hx hb dX7_isWhole_47 rfl (lv_at hl 0 rfl) ?_
          refine lv_imul hx hb dX7_isWhole_48 ?_
          refine lv_iadd hx hb dX7_isWhole_49 ?_
          refine kb_ialdN (jn := 24 + (3 * k)) (n := 48) (f := v.1 5) hx hb hX hP 0 4 rfl rfl (by simp only [nI_addE, nI_mulE] <;> rfl) (by omega) (by decide) dX7_isWhole_50 ?_
          refine lv_aload_n hx hb dX7_isWhole_51 rfl (lv_at hl 2 rfl) ?_
          refine kb_get (own := RX7) (C := RX7) (T := TX7) (N := 19) (v := .ref (a 2)) hx hb hts hin7 hown hX hP 0 rfl rfl rfl 3 (by decide) rfl (by decide +kernel) rfl dX7_isWhole_52 ?_
          refine lv_iconst (v := 5) hx hb dX7_isWhole_55 (by decide) ?_
          refine kb_ialdN (jn := 5) (n := 10) (f := v.1 3) hx hb hX hP 0 2 rfl rfl rfl (by omega) (by decide) dX7_isWhole_56 ?_
          refine lv_icmp_ge (tgt := 104) hx hb dX7_isWhole_57 (by decide) (fun c_57 => ?_) (fun c_57 => ?_)
          · refine lv_iconst (v := 0) hx hb dX7_isWhole_104 (by decide) ?_
            refine lv_istore_n (lv' := [(1, .int 0), (2, .int (nI k)), (0, .ref (a 0))]) hx hb dX7_isWhole_105 rfl hl (by decide) rfl (fun ls hl => ?_)
            refine lv_iinc (v := nI (k + 1)) (lv' := [(2, .int (nI (k + 1))), (1, .int 0), (0, .ref (a 0))]) hx hb dX7_isWhole_106 hl (k := 1) rfl (nI_1 _) (by decide) rfl (fun ls hl => ?_)
            refine lv_goto (tgt := 26) hx hb dX7_isWhole_109 (by decide) ?_
            exact ih_26 false _ (show lv_has ls 3 [(2, .int (nI (k + 1))), (1, .int 0), (0, .ref (a 0))] from lv_sub hl [0, 1, 2] rfl) (by rw [itN_s, ← hbk]; simp only [s_whD, if_neg c_6, if_pos c_15, if_neg c_33, if_pos c_37, if_pos c_57])
          · refine lv_aload_n hx hb dX7_isWhole_60 rfl (lv_at hl 2 rfl) ?_
            refine kb_get (own := RX7) (C := RX7) (T := TX7) (N := 19) (v := .ref (a 4)) hx hb hts hin7 hown hX hP 0 rfl rfl rfl 5 (by decide) rfl (by decide +kernel) rfl dX7_isWhole_61 ?_
            refine lv_bipush (v := 25) hx hb dX7_isWhole_64 (by decide) ?_
            refine lv_iconst (v := 3) hx hb dX7_isWhole_66 (by decide) ?_
            refine lv_iload_n hx hb dX7_isWhole_67 rfl (lv_at hl 0 rfl) ?_
            refine lv_imul hx hb dX7_isWhole_68 ?_
            refine lv_iadd hx hb dX7_isWhole_69 ?_
            refine kb_ialdN (jn := 25 + (3 * k)) (n := 48) (f := v.1 5) hx hb hX hP 0 4 rfl rfl (by simp only [nI_addE, nI_mulE] <;> rfl) (by omega) (by decide) dX7_isWhole_70 ?_
            refine lv_aload_n hx hb dX7_isWhole_71 rfl (lv_at hl 2 rfl) ?_
            refine kb_get (own := RX7) (C := RX7) (T := TX7) (N := 19) (v := .ref (a 2)) hx hb hts hin7 hown hX hP 0 rfl rfl rfl 3 (by decide) rfl (by decide +kernel) rfl dX7_isWhole_72 ?_
            refine lv_iconst (v := 5) hx hb dX7_isWhole_75 (by decide) ?_
            refine kb_ialdN (jn := 5) (n := 10) (f := v.1 3) hx hb hX hP 0 2 rfl rfl rfl (by omega) (by decide) dX7_isWhole_76 ?_
            refine lv_icmp_ge (tgt := 104) hx hb dX7_isWhole_77 (by decide) (fun c_77 => ?_) (fun c_77 => ?_)
            · refine lv_iconst (v := 0) hx hb dX7_isWhole_104 (by decide) ?_
              refine lv_istore_n (lv' := [(1, .int 0), (2, .int (nI k)), (0, .ref (a 0))]) hx hb dX7_isWhole_105 rfl hl (by decide) rfl (fun ls hl => ?_)
              refine lv_iinc (v := nI (k + 1)) (lv' := [(2, .int (nI (k + 1))), (1, .int 0), (0, .ref (a 0))]) hx hb dX7_isWhole_106 hl (k := 1) rfl (nI_1 _) (by decide) rfl (fun ls hl => ?_)
              refine lv_goto (tgt := 26) hx hb dX7_isWhole_109 (by decide) ?_
              exact ih_26 false _ (show lv_has ls 3 [(2, .int (nI (k + 1))), (1, .int 0), (0, .ref (a 0))] from lv_sub hl [0, 1, 2] rfl) (by rw [itN_s, ← hbk]; simp only [s_whD, if_neg c_6, if_pos c_15, if_neg c_33, if_pos c_37, if_neg c_57, if_pos c_77])
            · refine lv_aload_n hx hb dX7_isWhole_80 rfl (lv_at hl 2 rfl) ?_
              refine kb_get (own := RX7) (C := RX7) (T := TX7) (N := 19) (v := .ref (a 4)) hx hb hts hin7 hown hX hP 0 rfl rfl rfl 5 (by decide) rfl (by decide +kernel) rfl dX7_isWhole_81 ?_
              refine lv_bipush (v := 26) hx hb dX7_isWhole_84 (by decide) ?_
              refine lv_iconst (v := 3) hx hb dX7_isWhole_86 (by decide) ?_
              refine lv_iload_n hx hb dX7_isWhole_87 rfl (lv_at hl 0 rfl) ?_
              refine lv_imul hx hb dX7_isWhole_88 ?_
              refine lv_iadd hx hb dX7_isWhole_89 ?_
              refine kb_ialdN (jn := 26 + (3 * k)) (n := 48) (f := v.1 5) hx hb hX hP 0 4 rfl rfl (by simp only [nI_addE, nI_mulE] <;> rfl) (by omega) (by decide) dX7_isWhole_90 ?_
              refine lv_aload_n hx hb dX7_isWhole_91 rfl (lv_at hl 2 rfl) ?_
              refine kb_get (own := RX7) (C := RX7) (T := TX7) (N := 19) (v := .ref (a 3)) hx hb hts hin7 hown hX hP 0 rfl rfl rfl 4 (by decide) rfl (by decide +kernel) rfl dX7_isWhole_92 ?_
              refine lv_iconst (v := 1) hx hb dX7_isWhole_95 (by decide) ?_
              refine kb_ialdN (jn := 1) (n := 2) (f := v.1 4) hx hb hX hP 0 3 rfl rfl rfl (by omega) (by decide) dX7_isWhole_96 ?_
              refine lv_icmp_ge (tgt := 104) hx hb dX7_isWhole_97 (by decide) (fun c_97 => ?_) (fun c_97 => ?_)
              · refine lv_iconst (v := 0) hx hb dX7_isWhole_104 (by decide) ?_
                refine lv_istore_n (lv' := [(1, .int 0), (2, .int (nI k)), (0, .ref (a 0))]) hx hb dX7_isWhole_105 rfl hl (by decide) rfl (fun ls hl => ?_)
                refine lv_iinc (v := nI (k + 1)) (lv' := [(2, .int (nI (k + 1))), (1, .int 0), (0, .ref (a 0))]) hx hb dX7_isWhole_106 hl (k := 1) rfl (nI_1 _) (by decide) rfl (fun ls hl => ?_)
                refine lv_goto (tgt := 26) hx hb dX7_isWhole_109 (by decide) ?_
                exact ih_26 false _ (show lv_has ls 3 [(2, .int (nI (k + 1))), (1, .int 0), (0, .ref (a 0))] from lv_sub hl [0, 1, 2] rfl) (by rw [itN_s, ← hbk]; simp only [s_whD, if_neg c_6, if_pos c_15, if_neg c_33, if_pos c_37, if_neg c_57, if_neg c_77, if_pos c_97])
              · refine lv_iconst (v := 1) hx hb dX7_isWhole_100 (by decide) ?_
                refine lv_goto (tgt := 105) hx hb dX7_isWhole_101 (by decide) ?_
                refine lv_istore_n (lv' := [(1, .int 1), (2, .int (nI k)), (0, .ref (a 0))]) hx hb dX7_isWhole_105 rfl hl (by decide) rfl (fun ls hl => ?_)
                refine lv_iinc (v := nI (k + 1)) (lv' := [(2, .int (nI (k + 1))), (1, .int 1), (0, .ref (a 0))]) hx hb dX7_isWhole_106 hl (k := 1) rfl (nI_1 _) (by decide) rfl (fun ls hl => ?_)
                refine lv_goto (tgt := 26) hx hb dX7_isWhole_109 (by decide) ?_
                exact ih_26 true _ (show lv_has ls 3 [(2, .int (nI (k + 1))), (1, .int 1), (0, .ref (a 0))] from lv_sub hl [0, 1, 2] rfl) (by rw [itN_s, ← hbk]; simp only [s_whD, if_neg c_6, if_pos c_15, if_neg c_33, if_pos c_37, if_neg c_57, if_neg c_77, if_neg c_97])
    · refine lv_iconst (v := 1) hx hb dX7_isWhole_18 (by decide) ?_
      refine lv_goto (tgt := 23) hx hb dX7_isWhole_19 (by decide) ?_
      refine lv_istore_n (lv' := [(1, .int 1), (0, .ref (a 0))]) hx hb dX7_isWhole_23 rfl hl (by decide) rfl (fun ls hl => ?_)
      refine lv_iconst (v := 0) hx hb dX7_isWhole_24 (by decide) ?_
      refine lv_istore_n (lv' := [(2, .int 0), (1, .int 1), (0, .ref (a 0))]) hx hb dX7_isWhole_25 rfl hl (by decide) rfl (fun ls hl => ?_)
      refine lp_up (N := (v.1 4 1).toNatClampNeg) (P := fun k => ∀ (bb : Bool), ∀ (ls : Array Slot), lv_has ls 3 [(2, .int (nI k)), (1, .int (b2i bb)), (0, .ref (a 0))] → (bb = itN (s_whD v) (w0 v) k) → W p l e (headSpec wsX7_isWhole rm_X7_isWhole).room s m ([.ref (a 0)] : List Value).toArray below meth c s.heap [] 0 0 (MQ below (kQp (some (.int (b2i (g_isWhole v))))) ([.ref (a 0)] : List Value).toArray s 0 0 (fun _ => False)) (F0 m 26 ls [])) ?_ ?_ 0 (Nat.zero_le _) true _ (lv_sub hl [0, 1, 2] rfl) (by simp only [itN, w0, if_neg c_6, if_neg c_15])
      · skip
        intro bb ls hl hbk
        refine lv_iload_n hx hb dX7_isWhole_26 rfl (lv_at hl 0 rfl) ?_
        refine lv_aload_n hx hb dX7_isWhole_27 rfl (lv_at hl 2 rfl) ?_
        refine kb_get (own := RX7) (C := RX7) (T := TX7) (N := 19) (v := .ref (a 3)) hx hb hts hin7 hown hX hP 0 rfl rfl rfl 4 (by decide) rfl (by decide +kernel) rfl dX7_isWhole_28 ?_
        refine lv_iconst (v := 1) hx hb dX7_isWhole_31 (by decide) ?_
        refine kb_ialdN (jn := 1) (n := 2) (f := v.1 4) hx hb hX hP 0 3 rfl rfl rfl (by omega) (by decide) dX7_isWhole_32 ?_
        refine lv_icmp_ge (tgt := 112) hx hb dX7_isWhole_33 (by decide) (fun c_33 => ?_) (fun c_33 => absurd (lpx_c _) c_33)
        refine lv_iconst (v := 0) hx hb dX7_isWhole_112 (by decide) ?_
        refine lv_istore_n (lv' := [(2, .int 0), (1, .int (b2i bb)), (0, .ref (a 0))]) hx hb dX7_isWhole_113 rfl hl (by decide) rfl (fun ls hl => ?_)
        refine lp_up (N := (v.1 7 1).toNatClampNeg) (P := fun k => ∀ (b2 : Bool), ∀ (ls : Array Slot), lv_has ls 3 [(2, .int (nI k)), (1, .int (b2i b2)), (0, .ref (a 0))] → (b2 = itN (s_whL v) (itN (s_whD v) (w0 v) (v.1 4 1).toNatClampNeg) k) → W p l e (headSpec wsX7_isWhole rm_X7_isWhole).room s m ([.ref (a 0)] : List Value).toArray below meth c s.heap [] 0 0 (MQ below (kQp (some (.int (b2i (g_isWhole v))))) ([.ref (a 0)] : List Value).toArray s 0 0 (fun _ => False)) (F0 m 114 ls [])) ?_ ?_ 0 (Nat.zero_le _) bb _ (lv_sub hl [0, 1, 2] rfl) (hbk)
        · skip
          intro b2 ls hl hb2
          refine lv_iload_n hx hb dX7_isWhole_114 rfl (lv_at hl 0 rfl) ?_
          refine lv_aload_n hx hb dX7_isWhole_115 rfl (lv_at hl 2 rfl) ?_
          refine kb_get (own := RX7) (C := RX7) (T := TX7) (N := 19) (v := .ref (a 6)) hx hb hts hin7 hown hX hP 0 rfl rfl rfl 7 (by decide) rfl (by decide +kernel) rfl dX7_isWhole_116 ?_
          refine lv_iconst (v := 1) hx hb dX7_isWhole_119 (by decide) ?_
          refine kb_ialdN (jn := 1) (n := 2) (f := v.1 7) hx hb hX hP 0 6 rfl rfl rfl (by omega) (by decide) dX7_isWhole_120 ?_
          refine lv_icmp_ge (tgt := 180) hx hb dX7_isWhole_121 (by decide) (fun c_121 => ?_) (fun c_121 => absurd (lpx_c _) c_121)
          refine lv_iload_n hx hb dX7_isWhole_180 rfl (lv_at hl 1 rfl) ?_
          exact kr_pz hx hb hr hlocks dX7_isWhole_181 (narrow_b2i _) (by rw [g_isWhole, ← hb2])
        · skip
          intro k hk_k ih_114 b2 ls hl hb2
          refine lv_iload_n hx hb dX7_isWhole_114 rfl (lv_at hl 0 rfl) ?_
          refine lv_aload_n hx hb dX7_isWhole_115 rfl (lv_at hl 2 rfl) ?_
          refine kb_get (own := RX7) (C := RX7) (T := TX7) (N := 19) (v := .ref (a 6)) hx hb hts hin7 hown hX hP 0 rfl rfl rfl 7 (by decide) rfl (by decide +kernel) rfl dX7_isWhole_116 ?_
          refine lv_iconst (v := 1) hx hb dX7_isWhole_119 (by decide) ?_
          refine kb_ialdN (jn := 1) (n := 2) (f := v.1 7) hx hb hX hP 0 6 rfl rfl rfl (by omega) (by decide) dX7_isWhole_120 ?_
          refine lv_icmp_ge (tgt := 180) hx hb dX7_isWhole_121 (by decide) (fun c_121 => absurd c_121 (lps_c hk_k)) (fun c_121 => ?_)
          refine lv_iload_n hx hb dX7_isWhole_124 rfl (lv_at hl 1 rfl) ?_
          refine lv_if_eq (tgt := 172) hx hb dX7_isWhole_125 (by decide) (fun c_125r => ?_) (fun c_125r => ?_)
          · have c_125 := b2i_fN c_125r
            refine lv_iconst (v := 0) hx hb dX7_isWhole_172 (by decide) ?_
            refine lv_istore_n (lv' := [(1, .int 0), (2, .int (nI k)), (0, .ref (a 0))]) hx hb dX7_isWhole_173 rfl hl (by decide) rfl (fun ls hl => ?_)
            refine lv_iinc (v := nI (k + 1)) (lv' := [(2, .int (nI (k + 1))), (1, .int 0), (0, .ref (a 0))]) hx hb dX7_isWhole_174 hl (k := 1) rfl (nI_1 _) (by decide) rfl (fun ls hl => ?_)
            refine lv_goto (tgt := 114) hx hb dX7_isWhole_177 (by decide) ?_
            exact ih_114 false _ (show lv_has ls 3 [(2, .int (nI (k + 1))), (1, .int 0), (0, .ref (a 0))] from lv_sub hl [0, 1, 2] rfl) (by rw [itN_s, ← hb2]; simp only [s_whL, if_neg c_6, if_neg c_15, if_pos c_33, if_neg c_121, if_neg c_125])
          · have c_125 := b2i_tP c_125r
            refine lv_aload_n hx hb dX7_isWhole_128 rfl (lv_at hl 2 rfl) ?_
            refine kb_get (own := RX7) (C := RX7) (T := TX7) (N := 19) (v := .ref (a 7)) hx hb hts hin7 hown hX hP 0 rfl rfl rfl 8 (by decide) rfl (by decide +kernel) rfl dX7_isWhole_129 ?_
            refine lv_bipush (v := 12) hx hb dX7_isWhole_132 (by decide) ?_
            refine lv_iconst (v := 3) hx hb dX7_isWhole_134 (by decide) ?_
            refine lv_iload_n hx hb dX7_isWhole_135 rfl (lv_at hl 0 rfl) ?_
            refine lv_imul hx hb dX7_isWhole_136 ?_
            refine lv_iadd hx hb dX7_isWhole_137 ?_
            refine kb_ialdN (jn := 12 + (3 * k)) (n := 24) (f := v.1 8) hx hb hX hP 0 7 rfl rfl (by simp only [nI_addE, nI_mulE] <;> rfl) (by omega) (by decide) dX7_isWhole_138 ?_
            refine lv_aload_n hx hb dX7_isWhole_139 rfl (lv_at hl 2 rfl) ?_
            refine kb_get (own := RX7) (C := RX7) (T := TX7) (N := 19) (v := .ref (a 2)) hx hb hts hin7 hown hX hP 0 rfl rfl rfl 3 (by decide) rfl (by decide +kernel) rfl dX7_isWhole_140 ?_
            refine lv_iconst (v := 5) hx hb dX7_isWhole_143 (by decide) ?_
            refine kb_ialdN (jn := 5) (n := 10) (f := v.1 3) hx hb hX hP 0 2 rfl rfl rfl (by omega) (by decide) dX7_isWhole_144 ?_
            refine lv_icmp_ge (tgt := 172) hx hb dX7_isWhole_145 (by decide) (fun c_145 => ?_) (fun c_145 => ?_)
            · refine lv_iconst (v := 0) hx hb dX7_isWhole_172 (by decide) ?_
              refine lv_istore_n (lv' := [(1, .int 0), (2, .int (nI k)), (0, .ref (a 0))]) hx hb dX7_isWhole_173 rfl hl (by decide) rfl (fun ls hl => ?_)
              refine lv_iinc (v := nI (k + 1)) (lv' := [(2, .int (nI (k + 1))), (1, .int 0), (0, .ref (a 0))]) hx hb dX7_isWhole_174 hl (k := 1) rfl (nI_1 _) (by decide) rfl (fun ls hl => ?_)
              refine lv_goto (tgt := 114) hx hb dX7_isWhole_177 (by decide) ?_
              exact ih_114 false _ (show lv_has ls 3 [(2, .int (nI (k + 1))), (1, .int 0), (0, .ref (a 0))] from lv_sub hl [0, 1, 2] rfl) (by rw [itN_s, ← hb2]; simp only [s_whL, if_neg c_6, if_neg c_15, if_pos c_33, if_neg c_121, if_pos c_125, if_pos c_145])
            · refine lv_aload_n hx hb dX7_isWhole_148 rfl (lv_at hl 2 rfl) ?_
              refine kb_get (own := RX7) (C := RX7) (T := TX7) (N := 19) (v := .ref (a 7)) hx hb hts hin7 hown hX hP 0 rfl rfl rfl 8 (by decide) rfl (by decide +kernel) rfl dX7_isWhole_149 ?_
              refine lv_bipush (v := 14) hx hb dX7_isWhole_152 (by decide) ?_
              refine lv_iconst (v := 3) hx hb dX7_isWhole_154 (by decide) ?_
              refine lv_iload_n hx hb dX7_isWhole_155 rfl (lv_at hl 0 rfl) ?_
              refine lv_imul hx hb dX7_isWhole_156 ?_
              refine lv_iadd hx hb dX7_isWhole_157 ?_
              refine kb_ialdN (jn := 14 + (3 * k)) (n := 24) (f := v.1 8) hx hb hX hP 0 7 rfl rfl (by simp only [nI_addE, nI_mulE] <;> rfl) (by omega) (by decide) dX7_isWhole_158 ?_
              refine lv_aload_n hx hb dX7_isWhole_159 rfl (lv_at hl 2 rfl) ?_
              refine kb_get (own := RX7) (C := RX7) (T := TX7) (N := 19) (v := .ref (a 2)) hx hb hts hin7 hown hX hP 0 rfl rfl rfl 3 (by decide) rfl (by decide +kernel) rfl dX7_isWhole_160 ?_
              refine lv_iconst (v := 5) hx hb dX7_isWhole_163 (by decide) ?_
              refine kb_ialdN (jn := 5) (n := 10) (f := v.1 3) hx hb hX hP 0 2 rfl rfl rfl (by omega) (by decide) dX7_isWhole_164 ?_
              refine lv_icmp_ge (tgt := 172) hx hb dX7_isWhole_165 (by decide) (fun c_165 => ?_) (fun c_165 => ?_)
              · refine lv_iconst (v := 0) hx hb dX7_isWhole_172 (by decide) ?_
                refine lv_istore_n (lv' := [(1, .int 0), (2, .int (nI k)), (0, .ref (a 0))]) hx hb dX7_isWhole_173 rfl hl (by decide) rfl (fun ls hl => ?_)
                refine lv_iinc (v := nI (k + 1)) (lv' := [(2, .int (nI (k + 1))), (1, .int 0), (0, .ref (a 0))]) hx hb dX7_isWhole_174 hl (k := 1) rfl (nI_1 _) (by decide) rfl (fun ls hl => ?_)
                refine lv_goto (tgt := 114) hx hb dX7_isWhole_177 (by decide) ?_
                exact ih_114 false _ (show lv_has ls 3 [(2, .int (nI (k + 1))), (1, .int 0), (0, .ref (a 0))] from lv_sub hl [0, 1, 2] rfl) (by rw [itN_s, ← hb2]; simp only [s_whL, if_neg c_6, if_neg c_15, if_pos c_33, if_neg c_121, if_pos c_125, if_neg c_145, if_pos c_165])
              · refine lv_iconst (v := 1) hx hb dX7_isWhole_168 (by decide) ?_
                refine lv_goto (tgt := 173) hx hb dX7_isWhole_169 (by decide) ?_
                refine lv_istore_n (lv' := [(1, .int 1), (2, .int (nI k)), (0, .ref (a 0))]) hx hb dX7_isWhole_173 rfl hl (by decide) rfl (fun ls hl => ?_)
                refine lv_iinc (v := nI (k + 1)) (lv' := [(2, .int (nI (k + 1))), (1, .int 1), (0, .ref (a 0))]) hx hb dX7_isWhole_174 hl (k := 1) rfl (nI_1 _) (by decide) rfl (fun ls hl => ?_)
                refine lv_goto (tgt := 114) hx hb dX7_isWhole_177 (by decide) ?_
                exact ih_114 true _ (show lv_has ls 3 [(2, .int (nI (k + 1))), (1, .int 1), (0, .ref (a 0))] from lv_sub hl [0, 1, 2] rfl) (by rw [itN_s, ← hb2]; simp only [s_whL, if_neg c_6, if_neg c_15, if_pos c_33, if_neg c_121, if_pos c_125, if_neg c_145, if_neg c_165])
      · skip
        intro k hk_k ih_26 bb ls hl hbk
        refine lv_iload_n hx hb dX7_isWhole_26 rfl (lv_at hl 0 rfl) ?_
        refine lv_aload_n hx hb dX7_isWhole_27 rfl (lv_at hl 2 rfl) ?_
        refine kb_get (own := RX7) (C := RX7) (T := TX7) (N := 19) (v := .ref (a 3)) hx hb hts hin7 hown hX hP 0 rfl rfl rfl 4 (by decide) rfl (by decide +kernel) rfl dX7_isWhole_28 ?_
        refine lv_iconst (v := 1) hx hb dX7_isWhole_31 (by decide) ?_
        refine kb_ialdN (jn := 1) (n := 2) (f := v.1 4) hx hb hX hP 0 3 rfl rfl rfl (by omega) (by decide) dX7_isWhole_32 ?_
        refine lv_icmp_ge (tgt := 112) hx hb dX7_isWhole_33 (by decide) (fun c_33 => absurd c_33 (lps_c hk_k)) (fun c_33 => ?_)
        refine lv_iload_n hx hb dX7_isWhole_36 rfl (lv_at hl 1 rfl) ?_
        refine lv_if_eq (tgt := 104) hx hb dX7_isWhole_37 (by decide) (fun c_37r => ?_) (fun c_37r => ?_)
        · have c_37 := b2i_fN c_37r
          refine lv_iconst (v := 0) hx hb dX7_isWhole_104 (by decide) ?_
          refine lv_istore_n (lv' := [(1, .int 0), (2, .int (nI k)), (0, .ref (a 0))]) hx hb dX7_isWhole_105 rfl hl (by decide) rfl (fun ls hl => ?_)
          refine lv_iinc (v := nI (k + 1)) (lv' := [(2, .int (nI (k + 1))), (1, .int 0), (0, .ref (a 0))]) hx hb dX7_isWhole_106 hl (k := 1) rfl (nI_1 _) (by decide) rfl (fun ls hl => ?_)
          refine lv_goto (tgt := 26) hx hb dX7_isWhole_109 (by decide) ?_
          exact ih_26 false _ (show lv_has ls 3 [(2, .int (nI (k + 1))), (1, .int 0), (0, .ref (a 0))] from lv_sub hl [0, 1, 2] rfl) (by rw [itN_s, ← hbk]; simp only [s_whD, if_neg c_6, if_neg c_15, if_neg c_33, if_neg c_37])
        · have c_37 := b2i_tP c_37r
          refine lv_aload_n hx hb dX7_isWhole_40 rfl (lv_at hl 2 rfl) ?_
          refine kb_get (own := RX7) (C := RX7) (T := TX7) (N := 19) (v := .ref (a 4)) hx hb hts hin7 hown hX hP 0 rfl rfl rfl 5 (by decide) rfl (by decide +kernel) rfl dX7_isWhole_41 ?_
          refine lv_bipush (v := 24) hx hb dX7_isWhole_44 (by decide) ?_
          refine lv_iconst (v := 3) hx hb dX7_isWhole_46 (by decide) ?_
          refine lv_iload_n hx hb dX7_isWhole_47 rfl (lv_at hl 0 rfl) ?_
          refine lv_imul hx hb dX7_isWhole_48 ?_
          refine lv_iadd hx hb dX7_isWhole_49 ?_
          refine kb_ialdN (jn := 24 + (3 * k)) (n := 48) (f := v.1 5) hx hb hX hP 0 4 rfl rfl (by simp only [nI_addE, nI_mulE] <;> rfl) (by omega) (by decide) dX7_isWhole_50 ?_
          refine lv_aload_n hx hb dX7_isWhole_51 rfl (lv_at hl 2 rfl) ?_
          refine kb_get (own := RX7) (C := RX7) (T := TX7) (N := 19) (v := .ref (a 2)) hx hb hts hin7 hown hX hP 0 rfl rfl rfl 3 (by decide) rfl (by decide +kernel) rfl dX7_isWhole_52 ?_
          refine lv_iconst (v := 5) hx hb dX7_isWhole_55 (by decide) ?_
          refine kb_ialdN (jn := 5) (n := 10) (f := v.1 3) hx hb hX hP 0 2 rfl rfl rfl (by omega) (by decide) dX7_isWhole_56 ?_
          refine lv_icmp_ge (tgt := 104) hx hb dX7_isWhole_57 (by decide) (fun c_57 => ?_) (fun c_57 => ?_)
          · refine lv_iconst (v := 0) hx hb dX7_isWhole_104 (by decide) ?_
            refine lv_istore_n (lv' := [(1, .int 0), (2, .int (nI k)), (0, .ref (a 0))]) hx hb dX7_isWhole_105 rfl hl (by decide) rfl (fun ls hl => ?_)
            refine lv_iinc (v := nI (k + 1)) (lv' := [(2, .int (nI (k + 1))), (1, .int 0), (0, .ref (a 0))]) hx hb dX7_isWhole_106 hl (k := 1) rfl (nI_1 _) (by decide) rfl (fun ls hl => ?_)
            refine lv_goto (tgt := 26) hx hb dX7_isWhole_109 (by decide) ?_
            exact ih_26 false _ (show lv_has ls 3 [(2, .int (nI (k + 1))), (1, .int 0), (0, .ref (a 0))] from lv_sub hl [0, 1, 2] rfl) (by rw [itN_s, ← hbk]; simp only [s_whD, if_neg c_6, if_neg c_15, if_neg c_33, if_pos c_37, if_pos c_57])
          · refine lv_aload_n hx hb dX7_isWhole_60 rfl (lv_at hl 2 rfl) ?_
            refine kb_get (own := RX7) (C := RX7) (T := TX7) (N := 19) (v := .ref (a 4)) hx hb hts hin7 hown hX hP 0 rfl rfl rfl 5 (by decide) rfl (by decide +kernel) rfl dX7_isWhole_61 ?_
            refine lv_bipush (v := 25) hx hb dX7_isWhole_64 (by decide) ?_
            refine lv_iconst (v := 3) hx hb dX7_isWhole_66 (by decide) ?_
            refine lv_iload_n hx hb dX7_isWhole_67 rfl (lv_at hl 0 rfl) ?_
            refine lv_imul hx hb dX7_isWhole_68 ?_
            refine lv_iadd hx hb dX7_isWhole_69 ?_
            refine kb_ialdN (jn := 25 + (3 * k)) (n := 48) (f := v.1 5) hx hb hX hP 0 4 rfl rfl (by simp only [nI_addE, nI_mulE] <;> rfl) (by omega) (by decide) dX7_isWhole_70 ?_
            refine lv_aload_n hx hb dX7_isWhole_71 rfl (lv_at hl 2 rfl) ?_
            refine kb_get (own := RX7) (C := RX7) (T := TX7) (N := 19) (v := .ref (a 2)) hx hb hts hin7 hown hX hP 0 rfl rfl rfl 3 (by decide) rfl (by decide +kernel) rfl dX7_isWhole_72 ?_
            refine lv_iconst (v := 5) hx hb dX7_isWhole_75 (by decide) ?_
            refine kb_ialdN (jn := 5) (n := 10) (f := v.1 3) hx hb hX hP 0 2 rfl rfl rfl (by omega) (by decide) dX7_isWhole_76 ?_
            refine lv_icmp_ge (tgt := 104) hx hb dX7_isWhole_77 (by decide) (fun c_77 => ?_) (fun c_77 => ?_)
            · refine lv_iconst (v := 0) hx hb dX7_isWhole_104 (by decide) ?_
              refine lv_istore_n (lv' := [(1, .int 0), (2, .int (nI k)), (0, .ref (a 0))]) hx hb dX7_isWhole_105 rfl hl (by decide) rfl (fun ls hl => ?_)
              refine lv_iinc (v := nI (k + 1)) (lv' := [(2, .int (nI (k + 1))), (1, .int 0), (0, .ref (a 0))]) hx hb dX7_isWhole_106 hl (k := 1) rfl (nI_1 _) (by decide) rfl (fun ls hl => ?_)
              refine lv_goto (tgt := 26) hx hb dX7_isWhole_109 (by decide) ?_
              exact ih_26 false _ (show lv_has ls 3 [(2, .int (nI (k + 1))), (1, .int 0), (0, .ref (a 0))] from lv_sub hl [0, 1, 2] rfl) (by rw [itN_s, ← hbk]; simp only [s_whD, if_neg c_6, if_neg c_15, if_neg c_33, if_pos c_37, if_neg c_57, if_pos c_77])
            · refine lv_aload_n hx hb dX7_isWhole_80 rfl (lv_at hl 2 rfl) ?_
              refine kb_get (own := RX7) (C := RX7) (T := TX7) (N := 19) (v := .ref (a 4)) hx hb hts hin7 hown hX hP 0 rfl rfl rfl 5 (by decide) rfl (by decide +kernel) rfl dX7_isWhole_81 ?_
              refine lv_bipush (v := 26) hx hb dX7_isWhole_84 (by decide) ?_
              refine lv_iconst (v := 3) hx hb dX7_isWhole_86 (by decide) ?_
              refine lv_iload_n hx hb dX7_isWhole_87 rfl (lv_at hl 0 rfl) ?_
              refine lv_imul hx hb dX7_isWhole_88 ?_
              refine lv_iadd hx hb dX7_isWhole_89 ?_
              refine kb_ialdN (jn := 26 + (3 * k)) (n := 48) (f := v.1 5) hx hb hX hP 0 4 rfl rfl (by simp only [nI_addE, nI_mulE] <;> rfl) (by omega) (by decide) dX7_isWhole_90 ?_
              refine lv_aload_n hx hb dX7_isWhole_91 rfl (lv_at hl 2 rfl) ?_
              refine kb_get (own := RX7) (C := RX7) (T := TX7) (N := 19) (v := .ref (a 3)) hx hb hts hin7 hown hX hP 0 rfl rfl rfl 4 (by decide) rfl (by decide +kernel) rfl dX7_isWhole_92 ?_
              refine lv_iconst (v := 1) hx hb dX7_isWhole_95 (by decide) ?_
              refine kb_ialdN (jn := 1) (n := 2) (f := v.1 4) hx hb hX hP 0 3 rfl rfl rfl (by omega) (by decide) dX7_isWhole_96 ?_
              refine lv_icmp_ge (tgt := 104) hx hb dX7_isWhole_97 (by decide) (fun c_97 => ?_) (fun c_97 => ?_)
              · refine lv_iconst (v := 0) hx hb dX7_isWhole_104 (by decide) ?_
                refine lv_istore_n (lv' := [(1, .int 0), (2, .int (nI k)), (0, .ref (a 0))]) hx hb dX7_isWhole_105 rfl hl (by decide) rfl (fun ls hl => ?_)
                refine lv_iinc (v := nI (k + 1)) (lv' := [(2, .int (nI (k + 1))), (1, .int 0), (0, .ref (a 0))]) hx hb dX7_isWhole_106 hl (k := 1) rfl (nI_1 _) (by decide) rfl (fun ls hl => ?_)
                refine lv_goto (tgt := 26) hx hb dX7_isWhole_109 (by decide) ?_
                exact ih_26 false _ (show lv_has ls 3 [(2, .int (nI (k + 1))), (1, .int 0), (0, .ref (a 0))] from lv_sub hl [0, 1, 2] rfl) (by rw [itN_s, ← hbk]; simp only [s_whD, if_neg c_6, if_neg c_15, if_neg c_33, if_pos c_37, if_neg c_57, if_neg c_77, if_pos c_97])
              · refine lv_iconst (v := 1) hx hb dX7_isWhole_100 (by decide) ?_
                refine lv_goto (tgt := 105) hx hb dX7_isWhole_101 (by decide) ?_
                refine lv_istore_n (lv' := [(1, .int 1), (2, .int (nI k)), (0, .ref (a 0))]) hx hb dX7_isWhole_105 rfl hl (by decide) rfl (fun ls hl => ?_)
                refine lv_iinc (v := nI (k + 1)) (lv' := [(2, .int (nI (k + 1))), (1, .int 1), (0, .ref (a 0))]) hx hb dX7_isWhole_106 hl (k := 1) rfl (nI_1 _) (by decide) rfl (fun ls hl => ?_)
                refine lv_goto (tgt := 26) hx hb dX7_isWhole_109 (by decide) ?_
                exact ih_26 true _ (show lv_has ls 3 [(2, .int (nI (k + 1))), (1, .int 1), (0, .ref (a 0))] from lv_sub hl [0, 1, 2] rfl) (by rw [itN_s, ← hbk]; simp only [s_whD, if_neg c_6, if_neg c_15, if_neg c_33, if_pos c_37, if_neg c_57, if_neg c_77, if_neg c_97])

def rm_X7_fault : Room := { frames := 3, cells := 0, slots := 0, locals := 73 }
theorem hd_X7_fault : yX7_fault.cls = RX7 ∧ yX7_fault.cls ≠ "java/lang/invoke/MethodHandle" ∧ yX7_fault.cls ≠ "java/lang/invoke/VarHandle" ∧ (parseMethodDescriptor yX7_fault.desc).map (fun d => d.parameters.length) = some 0 := by decide +kernel
set_option maxRecDepth 100000 in
set_option maxHeartbeats 4000000 in
theorem c_X7_fault (l : Launch) (G : GD) (a : Nat → Nat) (v : OV) (len : Nat) (hlen : v.2 0 = nI len) (hl300 : len ≤ 300) : MetS l yX7_fault wsX7_fault rm_X7_fault G [bX7 a G v] [.ref (a 0)] (fun r bc => r = some (.int ((g_fault v len).1)) ∧ bc = [bX7 a G ((g_fault v len).2)]) := by
  refine kb_beginS (cc := cX7_fault) (maxL := 2) (ret := (some .int)) (by decide) rfl (Nat.le_of_ble_eq_true rfl) ?_
  intro p e s m below meth c hx hb hr hml hown hts hlocks hX H locs hP hD hS ls hl
  have hown : s.vm.findClass RX7 = some m.cls := hown
  have hl : lv_has ls 2 [(0, .ref (a 0))] := hl
  have hin7 : ∀ w ∈ u_ws RX7 TX7 19, w ∈ wsX7_fault := (fun _ h => List.mem_cons_of_mem _ (List.mem_append_right _ (h)))
  refine lv_aload_n hx hb dX7_fault_0 rfl (lv_at hl 0 rfl) ?_
  refine lv_iconst (v := 0) hx hb dX7_fault_1 (by decide) ?_
  refine kb_put (own := RX7) (C := RX7) (T := TX7) (N := 19) hx hb hts hin7 tyX7 tyX7_ok nmX7 (ty := .int) hown hX hP hD hS 0 rfl rfl rfl 2 (by decide) rfl (by decide +kernel) (by decide +kernel) rfl rfl (Nat.le_of_ble_eq_true rfl) dX7_fault_2 (bX7_I2 a G v 0) (fun H locs hP hD hS => ?_)
  have hP : PP G [bX7 a G (setI v 2 0)] H := hP
  have hD : DD (AA (List.flatten [bX7 a G v])) [bX7 a G (setI v 2 0)] := D_re hD (adc (bX7_ad _ _ _ _) adn)
  refine lv_aload_n hx hb dX7_fault_5 rfl (lv_at hl 0 rfl) ?_
  refine kcV_s hx hb hml hown hts hX hP hD hS (c_X7_begins l G a (setI v 2 0)) gX7_fault_X7_begins 0 rfl rfl rfl hd_X7_begins ⟨Nat.le_of_ble_eq_true rfl, Nat.le_of_ble_eq_true rfl⟩ [0] (by decide) rfl 0 rfl rfl rfl hl.1 rfl rfl (Nat.le_of_ble_eq_true rfl) dX7_fault_6 ⟨Nat.zero_le _, Nat.zero_le _⟩ (fun r_ bc_ hq_1 H locs hP hD hS => ?_)
  obtain ⟨rfl, rfl⟩ := hq_1
  have hP : PP G [bX7 a G (g_begins (setI v 2 0))] H := hP
  have hD : DD (AA (List.flatten [bX7 a G v])) [bX7 a G (g_begins (setI v 2 0))] := D_re hD (adc (bX7_ad _ _ _ _) adn)
  refine lp_up (N := len) (P := fun k => ∀ (u : OV), ∀ (q1 : Nat), ∀ (H : Heap) (locs : List Loc) (ls : Array Slot), PP G [bX7 a G u] H → DD (AA (List.flatten [bX7 a G v])) [bX7 a G u] → va_S (AA (List.flatten [bX7 a G v])) s.heap H locs → lv_has ls 2 [(0, .ref (a 0))] → (k ≤ q1) → (q1 ≤ len) → (rdOk u len q1) → (faultGo len len (g_begins (setI v 2 0)) 0 = faultGo len (len - k) u q1) → W p l e (headSpec wsX7_fault rm_X7_fault).room s m ([.ref (a 0)] : List Value).toArray below meth c H locs 0 0 (MQ below (kQs G [bX7 a G v] (fun r bc => r = some (.int ((g_fault v len).1)) ∧ bc = [bX7 a G ((g_fault v len).2)])) ([.ref (a 0)] : List Value).toArray s 0 0 (AA (List.flatten [bX7 a G v]))) (F0 m 9 ls [])) ?_ ?_ 0 (Nat.zero_le _) (g_begins (setI v 2 0)) 0 _ _ _ hP hD hS (lv_sub hl [0] rfl) (Nat.le_refl _) (Nat.zero_le _) (begins_ok hlen) (rfl)
  · skip
    intro u q1 H locs ls hP hD hS hl hkq hub hu hs
    refine lv_aload_n hx hb dX7_fault_9 rfl (lv_at hl 0 rfl) ?_
    refine kb_get (own := RX7) (C := RX7) (T := TX7) (N := 19) (v := .int (u.2 2)) hx hb hts hin7 hown hX hP 0 rfl rfl rfl 2 (by decide) rfl (by decide +kernel) rfl dX7_fault_10 ?_
    refine kb_rw (y := nI q1) hu.1 ?_
    refine lv_aload_n hx hb dX7_fault_13 rfl (lv_at hl 0 rfl) ?_
    refine kb_get (own := RX7) (C := RX7) (T := TX7) (N := 19) (v := .int (u.2 0)) hx hb hts hin7 hown hX hP 0 rfl rfl rfl 0 (by decide) rfl (by decide +kernel) rfl dX7_fault_14 ?_
    refine kb_rw (y := nI len) hu.2.1 ?_
    refine lv_icmp_ge (tgt := 37) hx hb dX7_fault_17 (by decide) (fun c_17 => ?_) (fun c_17 => absurd (nI_le hkq (by omega)) c_17)
    refine lv_bipush (v := (-4)) hx hb dX7_fault_37 (by decide) ?_
    have hP : PP G [bX7 a G ((g_fault v len).2)] H := by
      rw [g_fault, hs, Nat.sub_self]
      exact hP
    exact kr_si hx hb hr hlocks dX7_fault_39 hP hS (sameAd_cons (bX7_ad _ _ _ _) sameAd_nil) ⟨by rw [g_fault, hs, Nat.sub_self]; rfl, rfl⟩
  · skip
    intro k hk_k ih_9 u q1 H locs ls hP hD hS hl hkq hub hu hs
    refine lv_aload_n hx hb dX7_fault_9 rfl (lv_at hl 0 rfl) ?_
    refine kb_get (own := RX7) (C := RX7) (T := TX7) (N := 19) (v := .int (u.2 2)) hx hb hts hin7 hown hX hP 0 rfl rfl rfl 2 (by decide) rfl (by decide +kernel) rfl dX7_fault_10 ?_
    refine kb_rw (y := nI q1) hu.1 ?_
    refine lv_aload_n hx hb dX7_fault_13 rfl (lv_at hl 0 rfl) ?_
    refine kb_get (own := RX7) (C := RX7) (T := TX7) (N := 19) (v := .int (u.2 0)) hx hb hts hin7 hown hX hP 0 rfl rfl rfl 0 (by decide) rfl (by decide +kernel) rfl dX7_fault_14 ?_
    refine kb_rw (y := nI len) hu.2.1 ?_
    refine lv_icmp_ge (tgt := 37) hx hb dX7_fault_17 (by decide) (fun c_17 => ?_) (fun c_17 => ?_)
    · refine lv_bipush (v := (-4)) hx hb dX7_fault_37 (by decide) ?_
      have hP : PP G [bX7 a G ((g_fault v len).2)] H := by
        rw [g_fault, hs, fuel_s hk_k]
        simp only [faultGo, if_pos c_17]
        exact hP
      exact kr_si hx hb hr hlocks dX7_fault_39 hP hS (sameAd_cons (bX7_ad _ _ _ _) sameAd_nil) ⟨by rw [g_fault, hs, fuel_s hk_k]; simp only [faultGo, if_pos c_17], rfl⟩
    · have hplt := nI_nle_lt (by omega) c_17
      refine lv_aload_n hx hb dX7_fault_20 rfl (lv_at hl 0 rfl) ?_
      refine kb_get (own := RX7) (C := RX7) (T := TX7) (N := 19) (v := .int (u.2 2)) hx hb hts hin7 hown hX hP 0 rfl rfl rfl 2 (by decide) rfl (by decide +kernel) rfl dX7_fault_21 ?_
      refine kb_rw (y := nI q1) hu.1 ?_
      refine lv_istore_n (lv' := [(1, .int (nI q1)), (0, .ref (a 0))]) hx hb dX7_fault_24 rfl hl (by decide) rfl (fun ls hl => ?_)
      refine lv_aload_n hx hb dX7_fault_25 rfl (lv_at hl 1 rfl) ?_
      refine kcV_s hx hb hml hown hts hX hP hD hS (c_X7_isItem l G a u q1 len hu.1 hu.2.1 hl300 hplt hu.2.2.1.1 hu.2.2.1.2 hu.2.2.2.1 hu.2.2.2.2) gX7_fault_X7_isItem 0 rfl rfl rfl hd_X7_isItem ⟨Nat.le_of_ble_eq_true rfl, Nat.le_of_ble_eq_true rfl⟩ [0] (by decide) rfl 0 rfl rfl rfl hl.1 rfl rfl (Nat.le_of_ble_eq_true rfl) dX7_fault_26 ⟨Nat.zero_le _, Nat.zero_le _⟩ (fun r_ bc_ hq_2 H locs hP hD hS => ?_)
      obtain ⟨rfl, rfl⟩ := hq_2
      have hP : PP G [bX7 a G (g_itemV u q1 len)] H := hP
      have hD : DD (AA (List.flatten [bX7 a G v])) [bX7 a G (g_itemV u q1 len)] := D_re hD (adc (bX7_ad _ _ _ _) adn)
      refine lv_if_ne (tgt := 34) hx hb dX7_fault_29 (by decide) (fun c_29r => ?_) (fun c_29r => ?_)
      · have c_29 := b2i_tP c_29r
        refine lv_goto (tgt := 9) hx hb dX7_fault_34 (by decide) ?_
        have hP : PP G [bX7 a G (g_itemV u q1 len)] H := hP
        have hD : DD (AA (List.flatten [bX7 a G v])) [bX7 a G (g_itemV u q1 len)] := D_re hD (adc (bX7_ad _ _ _ _) adn)
        exact ih_9 (g_itemV u q1 len) (g_itemP u q1 len) _ _ _ hP hD hS (show lv_has ls 2 [(0, .ref (a 0))] from lv_sub hl [1] rfl) (by have := itemP_gt u q1 len; omega) (item_le (by omega) c_29) (item_ok hu) (hs.trans (by rw [fuel_s hk_k]; simp only [faultGo, if_neg c_17, if_pos c_29]))
      · have c_29 := b2i_fN c_29r
        refine lv_iload_n hx hb dX7_fault_32 rfl (lv_at hl 0 rfl) ?_
        have hP : PP G [bX7 a G ((g_fault v len).2)] H := by
          rw [g_fault, hs, fuel_s hk_k]
          simp only [faultGo, if_neg c_17, if_neg c_29]
          exact hP
        exact kr_si hx hb hr hlocks dX7_fault_33 hP hS (sameAd_cons (bX7_ad _ _ _ _) sameAd_nil) ⟨by rw [g_fault, hs, fuel_s hk_k]; simp only [faultGo, if_neg c_17, if_neg c_29], rfl⟩

def rm_X7_lay : Room := { frames := 4, cells := 0, slots := 0, locals := 94 }
theorem hd_X7_lay : yX7_lay.cls = RX7 ∧ yX7_lay.cls ≠ "java/lang/invoke/MethodHandle" ∧ yX7_lay.cls ≠ "java/lang/invoke/VarHandle" ∧ (parseMethodDescriptor yX7_lay.desc).map (fun d => d.parameters.length) = some 0 := by decide +kernel
set_option maxRecDepth 100000 in
set_option maxHeartbeats 4000000 in
theorem c_X7_lay (l : Launch) (G : GD) (a : Nat → Nat) (v : OV) (len : Nat) (hlen : v.2 0 = nI len) (hl300 : len ≤ 300) : MetS l yX7_lay wsX7_lay rm_X7_lay G [bX7 a G v] [.ref (a 0)] (fun r bc => r = some (.int (g_layR v len)) ∧ bc = [bX7 a G (g_layV v len)]) := by
  refine kb_beginS (cc := cX7_lay) (maxL := 1) (ret := (some .int)) (by decide) rfl (Nat.le_of_ble_eq_true rfl) ?_
  intro p e s m below meth c hx hb hr hml hown hts hlocks hX H locs hP hD hS ls hl
  have hown : s.vm.findClass RX7 = some m.cls := hown
  have hl : lv_has ls 1 [(0, .ref (a 0))] := hl
  have hin7 : ∀ w ∈ u_ws RX7 TX7 19, w ∈ wsX7_lay := (fun _ h => List.mem_cons_of_mem _ (List.mem_append_right _ (h)))
  refine lv_aload_n hx hb dX7_lay_0 rfl (lv_at hl 0 rfl) ?_
  refine kcV_s hx hb hml hown hts hX hP hD hS (c_X7_fault l G a v len hlen hl300) gX7_lay_X7_fault 0 rfl rfl rfl hd_X7_fault ⟨Nat.le_of_ble_eq_true rfl, Nat.le_of_ble_eq_true rfl⟩ [0] (by decide) rfl 0 rfl rfl rfl hl.1 rfl rfl (Nat.le_of_ble_eq_true rfl) dX7_lay_1 ⟨Nat.zero_le _, Nat.zero_le _⟩ (fun r_ bc_ hq_1 H locs hP hD hS => ?_)
  obtain ⟨rfl, rfl⟩ := hq_1
  have hP : PP G [bX7 a G ((g_fault v len).2)] H := hP
  have hD : DD (AA (List.flatten [bX7 a G v])) [bX7 a G ((g_fault v len).2)] := D_re hD (adc (bX7_ad _ _ _ _) adn)
  refine lv_bipush (v := (-4)) hx hb dX7_lay_4 (by decide) ?_
  refine lv_icmp_ne (tgt := 16) hx hb dX7_lay_6 (by decide) (fun c_6 => ?_) (fun c_6 => ?_)
  · refine lv_bipush (v := (-2)) hx hb dX7_lay_16 (by decide) ?_
    have hP : PP G [bX7 a G (g_layV v len)] H := by
      simp only [g_layV, if_neg c_6]
      try simp only [ov_n1, ov_m1, ov_nc, ov_mc, ov_c] at hP ⊢
      exact hP
    exact kr_si hx hb hr hlocks dX7_lay_18 hP hS (sameAd_cons (bX7_ad _ _ _ _) sameAd_nil) ⟨by simp only [g_layR, if_neg c_6] <;> rfl, rfl⟩
  · obtain ⟨q2, hu⟩ := faultGo_ok len (begins_ok hlen)
    have hA2 : ((g_fault v len).2.1 4 1).toNatClampNeg ≤ 8 := hu.2.2.1.2
    have hB2 : ((g_fault v len).2.1 7 1).toNatClampNeg ≤ 4 := hu.2.2.2.2
    refine lv_aload_n hx hb dX7_lay_9 rfl (lv_at hl 0 rfl) ?_
    refine kcV_p hx hb hml hown hts hX hP (c_X7_isWhole l G a ((g_fault v len).2) hA2 hB2) gX7_lay_X7_isWhole 0 rfl rfl rfl hd_X7_isWhole ⟨Nat.le_of_ble_eq_true rfl, Nat.le_of_ble_eq_true rfl⟩ [0] rfl 0 rfl rfl rfl hl.1 rfl rfl (Nat.le_of_ble_eq_true rfl) dX7_lay_10 ⟨Nat.zero_le _, Nat.zero_le _⟩ ?_
    refine lv_if_ne (tgt := 19) hx hb dX7_lay_13 (by decide) (fun c_13r => ?_) (fun c_13r => ?_)
    · have c_13 := b2i_tP c_13r
      refine lv_aload_n hx hb dX7_lay_19 rfl (lv_at hl 0 rfl) ?_
      refine kcV_s hx hb hml hown hts hX hP hD hS (c_X7_takes l G a ((g_fault v len).2) hB2) gX7_lay_X7_takes 0 rfl rfl rfl hd_X7_takes ⟨Nat.le_of_ble_eq_true rfl, Nat.le_of_ble_eq_true rfl⟩ [0] (by decide) rfl 0 rfl rfl rfl hl.1 rfl rfl (Nat.le_of_ble_eq_true rfl) dX7_lay_20 ⟨Nat.zero_le _, Nat.zero_le _⟩ (fun r_ bc_ hq_2 H locs hP hD hS => ?_)
      obtain ⟨rfl, rfl⟩ := hq_2
      have hP : PP G [bX7 a G (g_takes ((g_fault v len).2))] H := hP
      have hD : DD (AA (List.flatten [bX7 a G v])) [bX7 a G (g_takes ((g_fault v len).2))] := D_re hD (adc (bX7_ad _ _ _ _) adn)
      refine lv_aload_n hx hb dX7_lay_23 rfl (lv_at hl 0 rfl) ?_
      refine kb_get (own := RX7) (C := RX7) (T := TX7) (N := 19) (v := .ref (a 3)) hx hb hts hin7 hown hX hP 0 rfl rfl rfl 4 (by decide) rfl (by decide +kernel) rfl dX7_lay_24 ?_
      refine lv_iconst (v := 0) hx hb dX7_lay_27 (by decide) ?_
      refine kb_ialdN (jn := 0) (n := 2) (f := (g_takes ((g_fault v len).2)).1 4) hx hb hX hP 0 3 rfl rfl rfl (by omega) (by decide) dX7_lay_28 ?_
      have hP : PP G [bX7 a G (g_layV v len)] H := by
        simp only [g_layV, if_pos c_6, if_pos c_13]
        try simp only [ov_n1, ov_m1, ov_nc, ov_mc, ov_c] at hP ⊢
        exact hP
      exact kr_si hx hb hr hlocks dX7_lay_29 hP hS (sameAd_cons (bX7_ad _ _ _ _) sameAd_nil) ⟨by simp only [g_layR, if_pos c_6, if_pos c_13] <;> rfl, rfl⟩
    · have c_13 := b2i_fN c_13r
      refine lv_bipush (v := (-2)) hx hb dX7_lay_16 (by decide) ?_
      have hP : PP G [bX7 a G (g_layV v len)] H := by
        simp only [g_layV, if_pos c_6, if_neg c_13]
        try simp only [ov_n1, ov_m1, ov_nc, ov_mc, ov_c] at hP ⊢
        exact hP
      exact kr_si hx hb hr hlocks dX7_lay_18 hP hS (sameAd_cons (bX7_ad _ _ _ _) sameAd_nil) ⟨by simp only [g_layR, if_pos c_6, if_neg c_13] <;> rfl, rfl⟩
