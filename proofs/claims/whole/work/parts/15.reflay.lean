/-! the reference: beginning, taking, the fault, laying -/
theorem itN_0 {α : Type} (f : Nat → α → α) (s : α) : itN f s 0 = s := rfl
theorem ov_idI (v : OV) (t : Nat) : setI v t (v.2 t) = v := by
  refine Prod.ext rfl (funext fun u => ?_)
  simp only [setI]
  split
  · rename_i h; rw [h]
  · rfl
abbrev g_told0 (T : Nat → Int32) : Nat → Int32 := upd (upd (upd (upd (upd T 5 3) 6 3) 7 1) 8 1) 9 2
def s_first0 (k : Nat) (F : Nat → Int32) : Nat → Int32 := upd F (32 + k) 0
def s_dr0 (k : Nat) (F : Nat → Int32) : Nat → Int32 := if 8 ≤ nI k then F else upd F (8 + k) 0
def g_begins (u : OV) : OV := setA (setA (setA (setA (setA u 3 (g_told0 (u.1 3))) 4 (upd (u.1 4) 1 0)) 7 (upd (u.1 7) 1 0)) 9 (itN s_first0 (u.1 9) 32)) 6 (itN s_dr0 (u.1 6) 32)
def s_t9 (k : Nat) (F : Nat → Int32) : Nat → Int32 := upd F k (F (32 + k))
def s_t5 (k : Nat) (F : Nat → Int32) : Nat → Int32 := if 24 ≤ nI k then F else upd F k (F (24 + k))
def s_t8 (k : Nat) (F : Nat → Int32) : Nat → Int32 := if 12 ≤ nI k then F else upd F k (F (12 + k))
def s_t6 (k : Nat) (F : Nat → Int32) : Nat → Int32 := if 8 ≤ nI k then F else upd F k (F (8 + k))
def s_t3 (k : Nat) (F : Nat → Int32) : Nat → Int32 := if 5 ≤ nI k then F else upd F k (F (5 + k))
def s_sl (F : Nat → Int32) (k : Nat) (S : Nat → Int32) : Nat → Int32 := if 32 ≤ nI k then upd S k 0 else upd S k (F k)
def s_wh (E : Nat → Int32) (k : Nat) (S : Nat → Int32) : Nat → Int32 := upd S (40 + k) (E (3 * k))
def g_slot0 (F E L S : Nat → Int32) : Nat → Int32 := itN (s_wh E) (itN (s_sl F) S 46) (L 0).toNatClampNeg
def g_takes (u : OV) : OV := setI (setI (setA (setA (setA (setA (setA (setA (setA (setA u 4 (upd (u.1 4) 0 (u.1 4 1))) 7 (upd (u.1 7) 0 (u.1 7 1))) 9 (itN s_t9 (u.1 9) 32)) 5 (itN s_t5 (u.1 5) 32)) 8 (itN s_t8 (u.1 8) 32)) 6 (itN s_t6 (u.1 6) 32)) 3 (itN s_t3 (u.1 3) 32)) 10 (g_slot0 (itN s_t9 (u.1 9) 32) (itN s_t8 (u.1 8) 32) (upd (u.1 7) 0 (u.1 7 1)) (u.1 10))) 12 0) 11 0
def s_whD (v : OV) (d : Nat) (b : Bool) : Bool := if b = true then (if v.1 3 5 ≤ v.1 5 (24 + 3 * d) then false else if v.1 3 5 ≤ v.1 5 (25 + 3 * d) then false else if v.1 4 1 ≤ v.1 5 (26 + 3 * d) then false else true) else false
def s_whL (v : OV) (i : Nat) (b : Bool) : Bool := if b = true then (if v.1 3 5 ≤ v.1 8 (12 + 3 * i) then false else if v.1 3 5 ≤ v.1 8 (14 + 3 * i) then false else true) else false
def w0 (v : OV) : Bool := if v.1 4 1 ≤ 0 then false else if v.1 7 1 ≤ 0 then false else true
def g_isWhole (v : OV) : Bool := itN (s_whL v) (itN (s_whD v) (w0 v) (v.1 4 1).toNatClampNeg) (v.1 7 1).toNatClampNeg
/-- what holds while the text is read -/
def rdOk (u : OV) (len q : Nat) : Prop := u.2 2 = nI q ∧ u.2 0 = nI len ∧ (¬ u.1 4 1 < 0 ∧ (u.1 4 1).toNatClampNeg ≤ 8) ∧ (¬ u.1 7 1 < 0 ∧ (u.1 7 1).toNatClampNeg ≤ 4)
theorem inc_ok {x : Int32} {n : Nat} (hn : n < 2 ^ 30) (h0 : ¬ x < 0) (h : ¬ nI n ≤ x) : ¬ x + 1 < 0 ∧ (x + 1).toNatClampNeg ≤ n := by
  obtain ⟨j, hj, rfl⟩ := nI_of h0
  have h1 := nI_nle_lt hj h
  rw [nI_1, nI_clamp (by omega)]
  exact ⟨nI_pos (by omega), by omega⟩
theorem good_ok {u : OV} {len q : Nat} {l : Int32} (h : rdOk u len q) : rdOk (g_goodV u l) len q := by
  obtain ⟨h1, h2, h3, h4⟩ := h
  unfold g_goodV
  repeat' split
  all_goals first | exact ⟨h1, h2, h3, h4⟩ | skip
  · rename_i h8 h9
    refine ⟨h1, h2, ?_, h4⟩
    show ¬ (upd (u.1 4) 1 (u.1 4 1 + 1)) 1 < 0 ∧ ((upd (u.1 4) 1 (u.1 4 1 + 1)) 1).toNatClampNeg ≤ 8
    rw [pk_us]
    exact inc_ok (n := 8) (by decide) h3.1 (by assumption)
  · refine ⟨h1, h2, h3, ?_⟩
    show ¬ (upd (u.1 7) 1 (u.1 7 1 + 1)) 1 < 0 ∧ ((upd (u.1 7) 1 (u.1 7 1 + 1)) 1).toNatClampNeg ≤ 4
    rw [pk_us]
    exact inc_ok (n := 4) (by decide) h4.1 (by assumption)
theorem item_ok {u : OV} {len q : Nat} (h : rdOk u len q) : rdOk (g_itemV u q len) len (g_itemP u q len) := by
  unfold g_itemV g_itemP g_itemV3
  have h0 : ∀ (x : Nat) (F : Nat → Int32), rdOk (setI (setA (setI u 2 (nI x)) 18 F) 2 (nI (x + 1))) len (x + 1) := fun x F => ⟨rfl, h.2.1, h.2.2.1, h.2.2.2⟩
  repeat' split
  all_goals first | exact h0 _ _ | exact good_ok (h0 _ _)
theorem itemGo_ge (T : Nat → Int32) (len : Nat) : ∀ (n k q : Nat) (b : Bool) (F : Nat → Int32), q ≤ (itemGo T len n k q b F).1
  | 0, k, q, b, F => Nat.le_refl _
  | n + 1, k, q, b, F => by
    have hg : ∀ x, x ≤ g_numberP T len x := fun x => g_numberP_ge
    have hh : ∀ (x : Nat) (b : Bool) (F : Nat → Int32), x ≤ (itemGo T len n (k + 1) x b F).1 := fun x b F => itemGo_ge T len n (k + 1) x b F
    simp only [itemGo]
    have a1 := hg q
    have a2 := hg (q + 1)
    repeat' split
    all_goals first | exact Nat.le_refl _ | exact Nat.le_trans a1 (hh _ _ _) | exact Nat.le_trans (Nat.le_trans (Nat.le_succ q) a2) (hh _ _ _) | exact Nat.le_trans (Nat.le_succ q) (hh _ _ _)
theorem itemP_gt (u : OV) (q len : Nat) : q + 1 < g_itemP u q len := by
  have := itemGo_ge (u.1 1) len (g_numbers (u.1 1 q)).toNatClampNeg 0 (q + 1) (isB (g_numbers (u.1 1 q))) (u.1 18)
  unfold g_itemP g_itemR
  omega
theorem numP_le (T : Nat → Int32) (len q : Nat) : g_numberP T len q ≤ q + len := by
  have := (numGo_le T (len - q) q 0 0).1
  unfold g_numberP
  omega
theorem itemGo_le (T : Nat → Int32) (len : Nat) : ∀ (n k q : Nat) (b : Bool) (F : Nat → Int32), (itemGo T len n k q b F).1 ≤ q + n * (len + 1)
  | 0, k, q, b, F => by simp [itemGo]
  | n + 1, k, q, b, F => by
    have hh : ∀ (x : Nat) (b : Bool) (F : Nat → Int32), x ≤ q + (len + 1) → (itemGo T len n (k + 1) x b F).1 ≤ q + (n + 1) * (len + 1) := fun x b F hx => by
      have := itemGo_le T len n (k + 1) x b F
      rw [Nat.succ_mul]
      omega
    have a1 := numP_le T len q
    have a2 := numP_le T len (q + 1)
    simp only [itemGo]
    repeat' split
    all_goals first | exact hh _ _ _ (by omega) | (simp only; omega)
theorem item_le {u : OV} {q len : Nat} (hl : q + 4 * (len + 1) < 2 ^ 31) (h : g_itemK u q len = true) : g_itemP u q len ≤ len := by
  have hb := itemGo_le (u.1 1) len (g_numbers (u.1 1 q)).toNatClampNeg 0 (q + 1) (isB (g_numbers (u.1 1 q))) (u.1 18)
  have h3 := numbers_le (u.1 1 q)
  have hm : (g_numbers (u.1 1 q)).toNatClampNeg * (len + 1) ≤ 3 * (len + 1) := Nat.mul_le_mul_right _ h3
  unfold g_itemK g_itemK3 at h
  unfold g_itemP
  have hb2 : (g_itemR u q len).1 ≤ q + 1 + 3 * (len + 1) := by unfold g_itemR; omega
  revert h
  repeat' split
  all_goals first | (intro h; exact absurd h (by decide)) | skip
  all_goals
    intro _
    have := nI_nle_lt (by omega) (by assumption : ¬ nI len ≤ nI (g_itemR u q len).1)
    omega
def faultGo (len : Nat) : Nat → OV → Nat → Int32 × OV
  | 0, u, _ => (-4, u)
  | n + 1, u, q => if nI len ≤ nI q then (-4, u) else if g_itemK u q len = true then faultGo len n (g_itemV u q len) (g_itemP u q len) else (nI q, g_itemV u q len)
def g_fault (v : OV) (len : Nat) : Int32 × OV := faultGo len len (g_begins (setI v 2 0)) 0
theorem faultGo_ok {len : Nat} : ∀ (n : Nat) {u : OV} {q : Nat}, rdOk u len q → ∃ q', rdOk (faultGo len n u q).2 len q'
  | 0, u, q, h => ⟨q, h⟩
  | n + 1, u, q, h => by
    simp only [faultGo]
    split
    · exact ⟨q, h⟩
    · split
      · exact faultGo_ok n (item_ok h)
      · exact ⟨_, item_ok h⟩
theorem begins_ok {v : OV} {len : Nat} (h : v.2 0 = nI len) : rdOk (g_begins (setI v 2 0)) len 0 := by
  refine ⟨rfl, h, ?_, ?_⟩
  · show ¬ (upd (v.1 4) 1 0) 1 < 0 ∧ ((upd (v.1 4) 1 0) 1).toNatClampNeg ≤ 8
    rw [pk_us]; decide
  · show ¬ (upd (v.1 7) 1 0) 1 < 0 ∧ ((upd (v.1 7) 1 0) 1).toNatClampNeg ≤ 4
    rw [pk_us]; decide
def g_layR (v : OV) (len : Nat) : Int32 := if (g_fault v len).1 = -4 then (if g_isWhole (g_fault v len).2 = true then (g_takes (g_fault v len).2).1 4 0 else -2) else -2
def g_layV (v : OV) (len : Nat) : OV := if (g_fault v len).1 = -4 then (if g_isWhole (g_fault v len).2 = true then g_takes (g_fault v len).2 else (g_fault v len).2) else (g_fault v len).2

def rm_X7_takes : Room := { frames := 0, cells := 0, slots := 0, locals := 0 }
theorem hd_X7_takes : yX7_takes.cls = RX7 ∧ yX7_takes.cls ≠ "java/lang/invoke/MethodHandle" ∧ yX7_takes.cls ≠ "java/lang/invoke/VarHandle" ∧ (parseMethodDescriptor yX7_takes.desc).map (fun d => d.parameters.length) = some 0 := by decide +kernel
set_option maxRecDepth 100000 in
set_option maxHeartbeats 4000000 in
theorem c_X7_takes (l : Launch) (G : GD) (a : Nat → Nat) (v : OV) (hB2 : (v.1 7 1).toNatClampNeg ≤ 4) : MetS l yX7_takes wsX7_takes rm_X7_takes G [bX7 a G v] [.ref (a 0)] (fun r bc => r = none ∧ bc = [bX7 a G (g_takes v)]) := by
  refine kb_beginS (cc := cX7_takes) (maxL := 2) (ret := none) (by decide) rfl (Nat.le_of_ble_eq_true rfl) ?_
  intro p e s m below meth c hx hb hr hml hown hts hlocks hX H locs hP hD hS ls hl
  have hown : s.vm.findClass RX7 = some m.cls := hown
  have hl : lv_has ls 2 [(0, .ref (a 0))] := hl
  have hin7 : ∀ w ∈ u_ws RX7 TX7 19, w ∈ wsX7_takes := (fun _ h => List.mem_cons_of_mem _ (List.mem_append_right _ (h)))
  have hP : PP G [bX7 a G (setA (setA (setA (setA (setA (setA (setA (setA (setI (setI v 11 (v.2 11)) 12 (v.2 12)) 3 (v.1 3)) 4 (v.1 4)) 5 (v.1 5)) 6 (v.1 6)) 7 (v.1 7)) 8 (v.1 8)) 9 (v.1 9)) 10 (v.1 10))] H := by simp only [ov_id, ov_idI]; exact hP
  have hD : DD (AA (List.flatten [bX7 a G v])) [bX7 a G (setA (setA (setA (setA (setA (setA (setA (setA (setI (setI v 11 (v.2 11)) 12 (v.2 12)) 3 (v.1 3)) 4 (v.1 4)) 5 (v.1 5)) 6 (v.1 6)) 7 (v.1 7)) 8 (v.1 8)) 9 (v.1 9)) 10 (v.1 10))] := D_re hD (adc (bX7_ad _ _ _ _) adn)
  refine lv_aload_n hx hb dX7_takes_0 rfl (lv_at hl 0 rfl) ?_
  refine kb_get (own := RX7) (C := RX7) (T := TX7) (N := 19) (v := .ref (a 3)) hx hb hts hin7 hown hX hP 0 rfl rfl rfl 4 (by decide) rfl (by decide +kernel) rfl dX7_takes_1 ?_
  refine lv_iconst (v := 0) hx hb dX7_takes_4 (by decide) ?_
  refine lv_aload_n hx hb dX7_takes_5 rfl (lv_at hl 0 rfl) ?_
  refine kb_get (own := RX7) (C := RX7) (T := TX7) (N := 19) (v := .ref (a 3)) hx hb hts hin7 hown hX hP 0 rfl rfl rfl 4 (by decide) rfl (by decide +kernel) rfl dX7_takes_6 ?_
  refine lv_iconst (v := 1) hx hb dX7_takes_9 (by decide) ?_
  refine kb_ialdN (jn := 1) (n := 2) (f := v.1 4) hx hb hX hP 0 3 rfl rfl rfl (by omega) (by decide) dX7_takes_10 ?_
  refine kb_iastN (jn := 0) (n := 2) (f := v.1 4) hx hb hX hP hD hS 0 3 rfl rfl rfl (by omega) (by decide) dX7_takes_11 (bX7_A4 a G (setA (setA (setA (setA (setA (setA (setA (setA (setI (setI v 11 (v.2 11)) 12 (v.2 12)) 3 (v.1 3)) 4 (v.1 4)) 5 (v.1 5)) 6 (v.1 6)) 7 (v.1 7)) 8 (v.1 8)) 9 (v.1 9)) 10 (v.1 10)) (upd (v.1 4) 0 ((v.1 4) 1))) (fun H locs hP hD hS => ?_)
  have hP : PP G [bX7 a G (setA (setA (setA (setA (setA (setA (setA (setA (setA (setI (setI v 11 (v.2 11)) 12 (v.2 12)) 3 (v.1 3)) 4 (v.1 4)) 5 (v.1 5)) 6 (v.1 6)) 7 (v.1 7)) 8 (v.1 8)) 9 (v.1 9)) 10 (v.1 10)) 4 (upd (v.1 4) 0 ((v.1 4) 1)))] H := hP
  have hD : DD (AA (List.flatten [bX7 a G v])) [bX7 a G (setA (setA (setA (setA (setA (setA (setA (setA (setA (setI (setI v 11 (v.2 11)) 12 (v.2 12)) 3 (v.1 3)) 4 (v.1 4)) 5 (v.1 5)) 6 (v.1 6)) 7 (v.1 7)) 8 (v.1 8)) 9 (v.1 9)) 10 (v.1 10)) 4 (upd (v.1 4) 0 ((v.1 4) 1)))] := D_re hD (adc (bX7_ad _ _ _ _) adn)
  refine lv_aload_n hx hb dX7_takes_12 rfl (lv_at hl 0 rfl) ?_
  refine kb_get (own := RX7) (C := RX7) (T := TX7) (N := 19) (v := .ref (a 6)) hx hb hts hin7 hown hX hP 0 rfl rfl rfl 7 (by decide) rfl (by decide +kernel) rfl dX7_takes_13 ?_
  refine lv_iconst (v := 0) hx hb dX7_takes_16 (by decide) ?_
  refine lv_aload_n hx hb dX7_takes_17 rfl (lv_at hl 0 rfl) ?_
  refine kb_get (own := RX7) (C := RX7) (T := TX7) (N := 19) (v := .ref (a 6)) hx hb hts hin7 hown hX hP 0 rfl rfl rfl 7 (by decide) rfl (by decide +kernel) rfl dX7_takes_18 ?_
  refine lv_iconst (v := 1) hx hb dX7_takes_21 (by decide) ?_
  refine kb_ialdN (jn := 1) (n := 2) (f := v.1 7) hx hb hX hP 0 6 rfl rfl rfl (by omega) (by decide) dX7_takes_22 ?_
  refine kb_iastN (jn := 0) (n := 2) (f := v.1 7) hx hb hX hP hD hS 0 6 rfl rfl rfl (by omega) (by decide) dX7_takes_23 (bX7_A7 a G (setA (setA (setA (setA (setA (setA (setA (setA (setA (setI (setI v 11 (v.2 11)) 12 (v.2 12)) 3 (v.1 3)) 4 (v.1 4)) 5 (v.1 5)) 6 (v.1 6)) 7 (v.1 7)) 8 (v.1 8)) 9 (v.1 9)) 10 (v.1 10)) 4 (upd (v.1 4) 0 ((v.1 4) 1))) (upd (v.1 7) 0 ((v.1 7) 1))) (fun H locs hP hD hS => ?_)
  have hP : PP G [bX7 a G (setA (setA (setA (setA (setA (setA (setA (setA (setA (setA (setI (setI v 11 (v.2 11)) 12 (v.2 12)) 3 (v.1 3)) 4 (v.1 4)) 5 (v.1 5)) 6 (v.1 6)) 7 (v.1 7)) 8 (v.1 8)) 9 (v.1 9)) 10 (v.1 10)) 4 (upd (v.1 4) 0 ((v.1 4) 1))) 7 (upd (v.1 7) 0 ((v.1 7) 1)))] H := hP
  have hD : DD (AA (List.flatten [bX7 a G v])) [bX7 a G (setA (setA (setA (setA (setA (setA (setA (setA (setA (setA (setI (setI v 11 (v.2 11)) 12 (v.2 12)) 3 (v.1 3)) 4 (v.1 4)) 5 (v.1 5)) 6 (v.1 6)) 7 (v.1 7)) 8 (v.1 8)) 9 (v.1 9)) 10 (v.1 10)) 4 (upd (v.1 4) 0 ((v.1 4) 1))) 7 (upd (v.1 7) 0 ((v.1 7) 1)))] := D_re hD (adc (bX7_ad _ _ _ _) adn)
  refine lv_iconst (v := 0) hx hb dX7_takes_24 (by decide) ?_
  refine lv_istore_n (lv' := [(1, .int 0), (0, .ref (a 0))]) hx hb dX7_takes_25 rfl hl (by decide) rfl (fun ls hl => ?_)
  have hP : PP G [bX7 a G (setA (setA (setA (setA (setA (setA (setA (setA (setI (setI v 11 (v.2 11)) 12 (v.2 12)) 4 (upd (v.1 4) 0 (v.1 4 1))) 7 (upd (v.1 7) 0 (v.1 7 1))) 9 (itN s_t9 (v.1 9) 0)) 5 (itN s_t5 (v.1 5) 0)) 8 (itN s_t8 (v.1 8) 0)) 6 (itN s_t6 (v.1 6) 0)) 3 (itN s_t3 (v.1 3) 0)) 10 (v.1 10))] H := by
    try simp only [itN_0, ov_n1, ov_m1, ov_nc, ov_mc, ov_c] at hP ⊢
    exact hP
  have hD : DD (AA (List.flatten [bX7 a G v])) [bX7 a G (setA (setA (setA (setA (setA (setA (setA (setA (setI (setI v 11 (v.2 11)) 12 (v.2 12)) 4 (upd (v.1 4) 0 (v.1 4 1))) 7 (upd (v.1 7) 0 (v.1 7 1))) 9 (itN s_t9 (v.1 9) 0)) 5 (itN s_t5 (v.1 5) 0)) 8 (itN s_t8 (v.1 8) 0)) 6 (itN s_t6 (v.1 6) 0)) 3 (itN s_t3 (v.1 3) 0)) 10 (v.1 10))] := D_re hD (adc (bX7_ad _ _ _ _) adn)
  refine lp_up (N := 32) (P := fun k => ∀ (H : Heap) (locs : List Loc) (ls : Array Slot), PP G [bX7 a G (setA (setA (setA (setA (setA (setA (setA (setA (setI (setI v 11 (v.2 11)) 12 (v.2 12)) 4 (upd (v.1 4) 0 (v.1 4 1))) 7 (upd (v.1 7) 0 (v.1 7 1))) 9 (itN s_t9 (v.1 9) k)) 5 (itN s_t5 (v.1 5) k)) 8 (itN s_t8 (v.1 8) k)) 6 (itN s_t6 (v.1 6) k)) 3 (itN s_t3 (v.1 3) k)) 10 (v.1 10))] H → DD (AA (List.flatten [bX7 a G v])) [bX7 a G (setA (setA (setA (setA (setA (setA (setA (setA (setI (setI v 11 (v.2 11)) 12 (v.2 12)) 4 (upd (v.1 4) 0 (v.1 4 1))) 7 (upd (v.1 7) 0 (v.1 7 1))) 9 (itN s_t9 (v.1 9) k)) 5 (itN s_t5 (v.1 5) k)) 8 (itN s_t8 (v.1 8) k)) 6 (itN s_t6 (v.1 6) k)) 3 (itN s_t3 (v.1 3) k)) 10 (v.1 10))] → va_S (AA (List.flatten [bX7 a G v])) s.heap H locs → lv_has ls 2 [(1, .int (nI k)), (0, .ref (a 0))] →  W p l e (headSpec wsX7_takes rm_X7_takes).room s m ([.ref (a 0)] : List Value).toArray below meth c H locs 0 0 (MQ below (kQs G [bX7 a G v] (fun r bc => r = none ∧ bc = [bX7 a G (g_takes v)])) ([.ref (a 0)] : List Value).toArray s 0 0 (AA (List.flatten [bX7 a G v]))) (F0 m 26 ls [])) ?_ ?_ 0 (Nat.zero_le _)  _ _ _ hP hD hS (lv_sub hl [0, 1] rfl) 
  · skip
    intro H locs ls hP hD hS hl 
    refine lv_iload_n hx hb dX7_takes_26 rfl (lv_at hl 0 rfl) ?_
    refine lv_bipush (v := 32) hx hb dX7_takes_27 (by decide) ?_
    refine lv_icmp_ge (tgt := 135) hx hb dX7_takes_29 (by decide) (fun c_29 => ?_) (fun c_29 => absurd ((by decide : (32 : Int32) ≤ nI 32)) c_29)
    obtain ⟨E9, hE9⟩ : ∃ E : Nat → Int32, E = itN s_t9 (v.1 9) 32 := ⟨_, rfl⟩
    obtain ⟨E5, hE5⟩ : ∃ E : Nat → Int32, E = itN s_t5 (v.1 5) 32 := ⟨_, rfl⟩
    obtain ⟨E8, hE8⟩ : ∃ E : Nat → Int32, E = itN s_t8 (v.1 8) 32 := ⟨_, rfl⟩
    obtain ⟨E6, hE6⟩ : ∃ E : Nat → Int32, E = itN s_t6 (v.1 6) 32 := ⟨_, rfl⟩
    obtain ⟨E3, hE3⟩ : ∃ E : Nat → Int32, E = itN s_t3 (v.1 3) 32 := ⟨_, rfl⟩
    have hP : PP G [bX7 a G (setA (setA (setA (setA (setA (setA (setA (setA (setI (setI v 11 (v.2 11)) 12 (v.2 12)) 4 (upd (v.1 4) 0 (v.1 4 1))) 7 (upd (v.1 7) 0 (v.1 7 1))) 9 E9) 5 E5) 8 E8) 6 E6) 3 E3) 10 (v.1 10))] H := by rw [hE9, hE5, hE8, hE6, hE3]; exact hP
    have hD : DD (AA (List.flatten [bX7 a G v])) [bX7 a G (setA (setA (setA (setA (setA (setA (setA (setA (setI (setI v 11 (v.2 11)) 12 (v.2 12)) 4 (upd (v.1 4) 0 (v.1 4 1))) 7 (upd (v.1 7) 0 (v.1 7 1))) 9 E9) 5 E5) 8 E8) 6 E6) 3 E3) 10 (v.1 10))] := D_re hD (adc (bX7_ad _ _ _ _) adn)
    refine lv_iconst (v := 0) hx hb dX7_takes_135 (by decide) ?_
    refine lv_istore_n (lv' := [(1, .int 0), (0, .ref (a 0))]) hx hb dX7_takes_136 rfl hl (by decide) rfl (fun ls hl => ?_)
    have hP : PP G [bX7 a G (setA (setA (setA (setA (setA (setA (setA (setA (setI (setI v 11 (v.2 11)) 12 (v.2 12)) 4 (upd (v.1 4) 0 (v.1 4 1))) 7 (upd (v.1 7) 0 (v.1 7 1))) 9 E9) 5 E5) 8 E8) 6 E6) 3 E3) 10 (itN (s_sl E9) (v.1 10) 0))] H := by
      try simp only [itN_0, ov_n1, ov_m1, ov_nc, ov_mc, ov_c] at hP ⊢
      exact hP
    have hD : DD (AA (List.flatten [bX7 a G v])) [bX7 a G (setA (setA (setA (setA (setA (setA (setA (setA (setI (setI v 11 (v.2 11)) 12 (v.2 12)) 4 (upd (v.1 4) 0 (v.1 4 1))) 7 (upd (v.1 7) 0 (v.1 7 1))) 9 E9) 5 E5) 8 E8) 6 E6) 3 E3) 10 (itN (s_sl E9) (v.1 10) 0))] := D_re hD (adc (bX7_ad _ _ _ _) adn)
    refine lp_up (N := 46) (P := fun k => ∀ (H : Heap) (locs : List Loc) (ls : Array Slot), PP G [bX7 a G (setA (setA (setA (setA (setA (setA (setA (setA (setI (setI v 11 (v.2 11)) 12 (v.2 12)) 4 (upd (v.1 4) 0 (v.1 4 1))) 7 (upd (v.1 7) 0 (v.1 7 1))) 9 E9) 5 E5) 8 E8) 6 E6) 3 E3) 10 (itN (s_sl E9) (v.1 10) k))] H → DD (AA (List.flatten [bX7 a G v])) [bX7 a G (setA (setA (setA (setA (setA (setA (setA (setA (setI (setI v 11 (v.2 11)) 12 (v.2 12)) 4 (upd (v.1 4) 0 (v.1 4 1))) 7 (upd (v.1 7) 0 (v.1 7 1))) 9 E9) 5 E5) 8 E8) 6 E6) 3 E3) 10 (itN (s_sl E9) (v.1 10) k))] → va_S (AA (List.flatten [bX7 a G v])) s.heap H locs → lv_has ls 2 [(1, .int (nI k)), (0, .ref (a 0))] →  W p l e (headSpec wsX7_takes rm_X7_takes).room s m ([.ref (a 0)] : List Value).toArray below meth c H locs 0 0 (MQ below (kQs G [bX7 a G v] (fun r bc => r = none ∧ bc = [bX7 a G (g_takes v)])) ([.ref (a 0)] : List Value).toArray s 0 0 (AA (List.flatten [bX7 a G v]))) (F0 m 137 ls [])) ?_ ?_ 0 (Nat.zero_le _)  _ _ _ hP hD hS (lv_sub hl [0, 1] rfl) 
    · skip
      intro H locs ls hP hD hS hl 
      refine lv_iload_n hx hb dX7_takes_137 rfl (lv_at hl 0 rfl) ?_
      refine lv_bipush (v := 46) hx hb dX7_takes_138 (by decide) ?_
      refine lv_icmp_ge (tgt := 171) hx hb dX7_takes_140 (by decide) (fun c_140 => ?_) (fun c_140 => absurd ((by decide : (46 : Int32) ≤ nI 46)) c_140)
      obtain ⟨E10, hE10⟩ : ∃ E : Nat → Int32, E = itN (s_sl E9) (v.1 10) 46 := ⟨_, rfl⟩
      have hP : PP G [bX7 a G (setA (setA (setA (setA (setA (setA (setA (setA (setI (setI v 11 (v.2 11)) 12 (v.2 12)) 4 (upd (v.1 4) 0 (v.1 4 1))) 7 (upd (v.1 7) 0 (v.1 7 1))) 9 E9) 5 E5) 8 E8) 6 E6) 3 E3) 10 E10)] H := by rw [hE10]; exact hP
      have hD : DD (AA (List.flatten [bX7 a G v])) [bX7 a G (setA (setA (setA (setA (setA (setA (setA (setA (setI (setI v 11 (v.2 11)) 12 (v.2 12)) 4 (upd (v.1 4) 0 (v.1 4 1))) 7 (upd (v.1 7) 0 (v.1 7 1))) 9 E9) 5 E5) 8 E8) 6 E6) 3 E3) 10 E10)] := D_re hD (adc (bX7_ad _ _ _ _) adn)
      refine lv_iconst (v := 0) hx hb dX7_takes_171 (by decide) ?_
      refine lv_istore_n (lv' := [(1, .int 0), (0, .ref (a 0))]) hx hb dX7_takes_172 rfl hl (by decide) rfl (fun ls hl => ?_)
      have hLb : ((upd (v.1 7) 0 (v.1 7 1)) 0).toNatClampNeg ≤ 4 := by rw [pk_us]; exact hB2
      have hP : PP G [bX7 a G (setA (setA (setA (setA (setA (setA (setA (setA (setI (setI v 11 (v.2 11)) 12 (v.2 12)) 4 (upd (v.1 4) 0 (v.1 4 1))) 7 (upd (v.1 7) 0 (v.1 7 1))) 9 E9) 5 E5) 8 E8) 6 E6) 3 E3) 10 (itN (s_wh E8) E10 0))] H := by
        try simp only [itN_0, ov_n1, ov_m1, ov_nc, ov_mc, ov_c] at hP ⊢
        exact hP
      have hD : DD (AA (List.flatten [bX7 a G v])) [bX7 a G (setA (setA (setA (setA (setA (setA (setA (setA (setI (setI v 11 (v.2 11)) 12 (v.2 12)) 4 (upd (v.1 4) 0 (v.1 4 1))) 7 (upd (v.1 7) 0 (v.1 7 1))) 9 E9) 5 E5) 8 E8) 6 E6) 3 E3) 10 (itN (s_wh E8) E10 0))] := D_re hD (adc (bX7_ad _ _ _ _) adn)
      refine lp_up (N := ((upd (v.1 7) 0 (v.1 7 1)) 0).toNatClampNeg) (P := fun k => ∀ (H : Heap) (locs : List Loc) (ls : Array Slot), PP G [bX7 a G (setA (setA (setA (setA (setA (setA (setA (setA (setI (setI v 11 (v.2 11)) 12 (v.2 12)) 4 (upd (v.1 4) 0 (v.1 4 1))) 7 (upd (v.1 7) 0 (v.1 7 1))) 9 E9) 5 E5) 8 E8) 6 E6) 3 E3) 10 (itN (s_wh E8) E10 k))] H → DD (AA (List.flatten [bX7 a G v])) [bX7 a G (setA (setA (setA (setA (setA (setA (setA (setA (setI (setI v 11 (v.2 11)) 12 (v.2 12)) 4 (upd (v.1 4) 0 (v.1 4 1))) 7 (upd (v.1 7) 0 (v.1 7 1))) 9 E9) 5 E5) 8 E8) 6 E6) 3 E3) 10 (itN (s_wh E8) E10 k))] → va_S (AA (List.flatten [bX7 a G v])) s.heap H locs → lv_has ls 2 [(1, .int (nI k)), (0, .ref (a 0))] →  W p l e (headSpec wsX7_takes rm_X7_takes).room s m ([.ref (a 0)] : List Value).toArray below meth c H locs 0 0 (MQ below (kQs G [bX7 a G v] (fun r bc => r = none ∧ bc = [bX7 a G (g_takes v)])) ([.ref (a 0)] : List Value).toArray s 0 0 (AA (List.flatten [bX7 a G v]))) (F0 m 173 ls [])) ?_ ?_ 0 (Nat.zero_le _)  _ _ _ hP hD hS (lv_sub hl [0, 1] rfl) 
      · skip
        intro H locs ls hP hD hS hl 
        refine lv_iload_n hx hb dX7_takes_173 rfl (lv_at hl 0 rfl) ?_
        refine lv_aload_n hx hb dX7_takes_174 rfl (lv_at hl 1 rfl) ?_
        refine kb_get (own := RX7) (C := RX7) (T := TX7) (N := 19) (v := .ref (a 6)) hx hb hts hin7 hown hX hP 0 rfl rfl rfl 7 (by decide) rfl (by decide +kernel) rfl dX7_takes_175 ?_
        refine lv_iconst (v := 0) hx hb dX7_takes_178 (by decide) ?_
        refine kb_ialdN (jn := 0) (n := 2) (f := upd (v.1 7) 0 (v.1 7 1)) hx hb hX hP 0 6 rfl rfl rfl (by omega) (by decide) dX7_takes_179 ?_
        refine lv_icmp_ge (tgt := 206) hx hb dX7_takes_180 (by decide) (fun c_180 => ?_) (fun c_180 => absurd (lpx_c _) c_180)
        refine lv_aload_n hx hb dX7_takes_206 rfl (lv_at hl 1 rfl) ?_
        refine lv_iconst (v := 0) hx hb dX7_takes_207 (by decide) ?_
        refine kb_put (own := RX7) (C := RX7) (T := TX7) (N := 19) hx hb hts hin7 tyX7 tyX7_ok nmX7 (ty := .int) hown hX hP hD hS 0 rfl rfl rfl 12 (by decide) rfl (by decide +kernel) (by decide +kernel) rfl rfl (Nat.le_of_ble_eq_true rfl) dX7_takes_208 (bX7_I12 a G (setA (setA (setA (setA (setA (setA (setA (setA (setI (setI v 11 (v.2 11)) 12 (v.2 12)) 4 (upd (v.1 4) 0 (v.1 4 1))) 7 (upd (v.1 7) 0 (v.1 7 1))) 9 E9) 5 E5) 8 E8) 6 E6) 3 E3) 10 (itN (s_wh E8) E10 (((upd (v.1 7) 0 (v.1 7 1)) 0).toNatClampNeg))) 0) (fun H locs hP hD hS => ?_)
        have hP : PP G [bX7 a G (setI (setA (setA (setA (setA (setA (setA (setA (setA (setI (setI v 11 (v.2 11)) 12 (v.2 12)) 4 (upd (v.1 4) 0 (v.1 4 1))) 7 (upd (v.1 7) 0 (v.1 7 1))) 9 E9) 5 E5) 8 E8) 6 E6) 3 E3) 10 (itN (s_wh E8) E10 (((upd (v.1 7) 0 (v.1 7 1)) 0).toNatClampNeg))) 12 0)] H := hP
        have hD : DD (AA (List.flatten [bX7 a G v])) [bX7 a G (setI (setA (setA (setA (setA (setA (setA (setA (setA (setI (setI v 11 (v.2 11)) 12 (v.2 12)) 4 (upd (v.1 4) 0 (v.1 4 1))) 7 (upd (v.1 7) 0 (v.1 7 1))) 9 E9) 5 E5) 8 E8) 6 E6) 3 E3) 10 (itN (s_wh E8) E10 (((upd (v.1 7) 0 (v.1 7 1)) 0).toNatClampNeg))) 12 0)] := D_re hD (adc (bX7_ad _ _ _ _) adn)
        refine lv_aload_n hx hb dX7_takes_211 rfl (lv_at hl 1 rfl) ?_
        refine lv_iconst (v := 0) hx hb dX7_takes_212 (by decide) ?_
        refine kb_put (own := RX7) (C := RX7) (T := TX7) (N := 19) hx hb hts hin7 tyX7 tyX7_ok nmX7 (ty := .int) hown hX hP hD hS 0 rfl rfl rfl 11 (by decide) rfl (by decide +kernel) (by decide +kernel) rfl rfl (Nat.le_of_ble_eq_true rfl) dX7_takes_213 (bX7_I11 a G (setI (setA (setA (setA (setA (setA (setA (setA (setA (setI (setI v 11 (v.2 11)) 12 (v.2 12)) 4 (upd (v.1 4) 0 (v.1 4 1))) 7 (upd (v.1 7) 0 (v.1 7 1))) 9 E9) 5 E5) 8 E8) 6 E6) 3 E3) 10 (itN (s_wh E8) E10 (((upd (v.1 7) 0 (v.1 7 1)) 0).toNatClampNeg))) 12 0) 0) (fun H locs hP hD hS => ?_)
        have hP : PP G [bX7 a G (setI (setI (setA (setA (setA (setA (setA (setA (setA (setA (setI (setI v 11 (v.2 11)) 12 (v.2 12)) 4 (upd (v.1 4) 0 (v.1 4 1))) 7 (upd (v.1 7) 0 (v.1 7 1))) 9 E9) 5 E5) 8 E8) 6 E6) 3 E3) 10 (itN (s_wh E8) E10 (((upd (v.1 7) 0 (v.1 7 1)) 0).toNatClampNeg))) 12 0) 11 0)] H := hP
        have hD : DD (AA (List.flatten [bX7 a G v])) [bX7 a G (setI (setI (setA (setA (setA (setA (setA (setA (setA (setA (setI (setI v 11 (v.2 11)) 12 (v.2 12)) 4 (upd (v.1 4) 0 (v.1 4 1))) 7 (upd (v.1 7) 0 (v.1 7 1))) 9 E9) 5 E5) 8 E8) 6 E6) 3 E3) 10 (itN (s_wh E8) E10 (((upd (v.1 7) 0 (v.1 7 1)) 0).toNatClampNeg))) 12 0) 11 0)] := D_re hD (adc (bX7_ad _ _ _ _) adn)
        have hP : PP G [bX7 a G (g_takes v)] H := by
          subst hE10 hE9 hE5 hE8 hE6 hE3
          unfold g_takes g_slot0
          try simp only [ov_n1, ov_m1, ov_nc, ov_mc, ov_c] at hP ⊢
          exact hP
        exact kr_sv hx hb hr hlocks dX7_takes_216 hP hS (sameAd_cons (bX7_ad _ _ _ _) sameAd_nil) ⟨rfl, rfl⟩
      · skip
        intro k hk_k ih_173 H locs ls hP hD hS hl 
        refine lv_iload_n hx hb dX7_takes_173 rfl (lv_at hl 0 rfl) ?_
        refine lv_aload_n hx hb dX7_takes_174 rfl (lv_at hl 1 rfl) ?_
        refine kb_get (own := RX7) (C := RX7) (T := TX7) (N := 19) (v := .ref (a 6)) hx hb hts hin7 hown hX hP 0 rfl rfl rfl 7 (by decide) rfl (by decide +kernel) rfl dX7_takes_175 ?_
        refine lv_iconst (v := 0) hx hb dX7_takes_178 (by decide) ?_
        refine kb_ialdN (jn := 0) (n := 2) (f := upd (v.1 7) 0 (v.1 7 1)) hx hb hX hP 0 6 rfl rfl rfl (by omega) (by decide) dX7_takes_179 ?_
        refine lv_icmp_ge (tgt := 206) hx hb dX7_takes_180 (by decide) (fun c_180 => absurd c_180 (lps_c hk_k)) (fun c_180 => ?_)
        refine lv_aload_n hx hb dX7_takes_183 rfl (lv_at hl 1 rfl) ?_
        refine kb_get (own := RX7) (C := RX7) (T := TX7) (N := 19) (v := .ref (a 9)) hx hb hts hin7 hown hX hP 0 rfl rfl rfl 10 (by decide) rfl (by decide +kernel) rfl dX7_takes_184 ?_
        refine lv_bipush (v := 40) hx hb dX7_takes_187 (by decide) ?_
        refine lv_iload_n hx hb dX7_takes_189 rfl (lv_at hl 0 rfl) ?_
        refine lv_iadd hx hb dX7_takes_190 ?_
        refine lv_aload_n hx hb dX7_takes_191 rfl (lv_at hl 1 rfl) ?_
        refine kb_get (own := RX7) (C := RX7) (T := TX7) (N := 19) (v := .ref (a 7)) hx hb hts hin7 hown hX hP 0 rfl rfl rfl 8 (by decide) rfl (by decide +kernel) rfl dX7_takes_192 ?_
        refine lv_iconst (v := 3) hx hb dX7_takes_195 (by decide) ?_
        refine lv_iload_n hx hb dX7_takes_196 rfl (lv_at hl 0 rfl) ?_
        refine lv_imul hx hb dX7_takes_197 ?_
        refine kb_ialdN (jn := 3 * k) (n := 24) (f := E8) hx hb hX hP 0 7 rfl rfl (by simp only [nI_addE, nI_mulE] <;> rfl) (by omega) (by decide) dX7_takes_198 ?_
        refine kb_iastN (jn := 40 + k) (n := 552) (f := itN (s_wh E8) E10 k) hx hb hX hP hD hS 0 9 rfl rfl (by simp only [nI_addE, nI_mulE] <;> rfl) (by omega) (by decide) dX7_takes_199 (bX7_A10 a G (setA (setA (setA (setA (setA (setA (setA (setA (setI (setI v 11 (v.2 11)) 12 (v.2 12)) 4 (upd (v.1 4) 0 (v.1 4 1))) 7 (upd (v.1 7) 0 (v.1 7 1))) 9 E9) 5 E5) 8 E8) 6 E6) 3 E3) 10 (itN (s_wh E8) E10 k)) (upd (itN (s_wh E8) E10 k) (40 + k) (E8 (3 * k)))) (fun H locs hP hD hS => ?_)
        have hP : PP G [bX7 a G (setA (setA (setA (setA (setA (setA (setA (setA (setA (setI (setI v 11 (v.2 11)) 12 (v.2 12)) 4 (upd (v.1 4) 0 (v.1 4 1))) 7 (upd (v.1 7) 0 (v.1 7 1))) 9 E9) 5 E5) 8 E8) 6 E6) 3 E3) 10 (itN (s_wh E8) E10 k)) 10 (upd (itN (s_wh E8) E10 k) (40 + k) (E8 (3 * k))))] H := hP
        have hD : DD (AA (List.flatten [bX7 a G v])) [bX7 a G (setA (setA (setA (setA (setA (setA (setA (setA (setA (setI (setI v 11 (v.2 11)) 12 (v.2 12)) 4 (upd (v.1 4) 0 (v.1 4 1))) 7 (upd (v.1 7) 0 (v.1 7 1))) 9 E9) 5 E5) 8 E8) 6 E6) 3 E3) 10 (itN (s_wh E8) E10 k)) 10 (upd (itN (s_wh E8) E10 k) (40 + k) (E8 (3 * k))))] := D_re hD (adc (bX7_ad _ _ _ _) adn)
        refine lv_iinc (v := nI (k + 1)) (lv' := [(1, .int (nI (k + 1))), (0, .ref (a 0))]) hx hb dX7_takes_200 hl (k := 0) rfl (nI_1 _) (by decide) rfl (fun ls hl => ?_)
        refine lv_goto (tgt := 173) hx hb dX7_takes_203 (by decide) ?_
        have hP : PP G [bX7 a G (setA (setA (setA (setA (setA (setA (setA (setA (setI (setI v 11 (v.2 11)) 12 (v.2 12)) 4 (upd (v.1 4) 0 (v.1 4 1))) 7 (upd (v.1 7) 0 (v.1 7 1))) 9 E9) 5 E5) 8 E8) 6 E6) 3 E3) 10 (itN (s_wh E8) E10 (k + 1)))] H := by
          try simp only [ov_n1, ov_m1, ov_nc, ov_mc, ov_c] at hP ⊢
          exact hP
        have hD : DD (AA (List.flatten [bX7 a G v])) [bX7 a G (setA (setA (setA (setA (setA (setA (setA (setA (setI (setI v 11 (v.2 11)) 12 (v.2 12)) 4 (upd (v.1 4) 0 (v.1 4 1))) 7 (upd (v.1 7) 0 (v.1 7 1))) 9 E9) 5 E5) 8 E8) 6 E6) 3 E3) 10 (itN (s_wh E8) E10 (k + 1)))] := D_re hD (adc (bX7_ad _ _ _ _) adn)
        exact ih_173  _ _ _ hP hD hS (show lv_has ls 2 [(1, .int (nI (k + 1))), (0, .ref (a 0))] from lv_sub hl [0, 1] rfl) 
    · skip
      intro k hk_k ih_137 H locs ls hP hD hS hl 
      refine lv_iload_n hx hb dX7_takes_137 rfl (lv_at hl 0 rfl) ?_
      refine lv_bipush (v := 46) hx hb dX7_takes_138 (by decide) ?_
      refine lv_icmp_ge (tgt := 171) hx hb dX7_takes_140 (by decide) (fun c_140 => absurd c_140 (nI_ge (b := 46) hk_k (by decide))) (fun c_140 => ?_)
      refine lv_aload_n hx hb dX7_takes_143 rfl (lv_at hl 1 rfl) ?_
      refine kb_get (own := RX7) (C := RX7) (T := TX7) (N := 19) (v := .ref (a 9)) hx hb hts hin7 hown hX hP 0 rfl rfl rfl 10 (by decide) rfl (by decide +kernel) rfl dX7_takes_144 ?_
      refine lv_iload_n hx hb dX7_takes_147 rfl (lv_at hl 0 rfl) ?_
      refine lv_iload_n hx hb dX7_takes_148 rfl (lv_at hl 0 rfl) ?_
      refine lv_bipush (v := 32) hx hb dX7_takes_149 (by decide) ?_
      refine lv_icmp_ge (tgt := 163) hx hb dX7_takes_151 (by decide) (fun c_151 => ?_) (fun c_151 => ?_)
      · refine lv_iconst (v := 0) hx hb dX7_takes_163 (by decide) ?_
        refine kb_iastN (jn := k) (n := 552) (f := itN (s_sl E9) (v.1 10) k) hx hb hX hP hD hS 0 9 rfl rfl rfl (by omega) (by decide) dX7_takes_164 (bX7_A10 a G (setA (setA (setA (setA (setA (setA (setA (setA (setI (setI v 11 (v.2 11)) 12 (v.2 12)) 4 (upd (v.1 4) 0 (v.1 4 1))) 7 (upd (v.1 7) 0 (v.1 7 1))) 9 E9) 5 E5) 8 E8) 6 E6) 3 E3) 10 (itN (s_sl E9) (v.1 10) k)) (upd (itN (s_sl E9) (v.1 10) k) k 0)) (fun H locs hP hD hS => ?_)
        have hP : PP G [bX7 a G (setA (setA (setA (setA (setA (setA (setA (setA (setA (setI (setI v 11 (v.2 11)) 12 (v.2 12)) 4 (upd (v.1 4) 0 (v.1 4 1))) 7 (upd (v.1 7) 0 (v.1 7 1))) 9 E9) 5 E5) 8 E8) 6 E6) 3 E3) 10 (itN (s_sl E9) (v.1 10) k)) 10 (upd (itN (s_sl E9) (v.1 10) k) k 0))] H := hP
        have hD : DD (AA (List.flatten [bX7 a G v])) [bX7 a G (setA (setA (setA (setA (setA (setA (setA (setA (setA (setI (setI v 11 (v.2 11)) 12 (v.2 12)) 4 (upd (v.1 4) 0 (v.1 4 1))) 7 (upd (v.1 7) 0 (v.1 7 1))) 9 E9) 5 E5) 8 E8) 6 E6) 3 E3) 10 (itN (s_sl E9) (v.1 10) k)) 10 (upd (itN (s_sl E9) (v.1 10) k) k 0))] := D_re hD (adc (bX7_ad _ _ _ _) adn)
        refine lv_iinc (v := nI (k + 1)) (lv' := [(1, .int (nI (k + 1))), (0, .ref (a 0))]) hx hb dX7_takes_165 hl (k := 0) rfl (nI_1 _) (by decide) rfl (fun ls hl => ?_)
        refine lv_goto (tgt := 137) hx hb dX7_takes_168 (by decide) ?_
        have hP : PP G [bX7 a G (setA (setA (setA (setA (setA (setA (setA (setA (setI (setI v 11 (v.2 11)) 12 (v.2 12)) 4 (upd (v.1 4) 0 (v.1 4 1))) 7 (upd (v.1 7) 0 (v.1 7 1))) 9 E9) 5 E5) 8 E8) 6 E6) 3 E3) 10 (itN (s_sl E9) (v.1 10) (k + 1)))] H := by
          have e10 : itN (s_sl E9) (v.1 10) (k + 1) = upd (itN (s_sl E9) (v.1 10) k) k 0 := by rw [itN_s]; simp only [s_sl, if_pos c_29, if_neg c_140, if_pos c_151]
          rw [e10]
          try simp only [ov_n1, ov_m1, ov_nc, ov_mc, ov_c] at hP ⊢
          exact hP
        have hD : DD (AA (List.flatten [bX7 a G v])) [bX7 a G (setA (setA (setA (setA (setA (setA (setA (setA (setI (setI v 11 (v.2 11)) 12 (v.2 12)) 4 (upd (v.1 4) 0 (v.1 4 1))) 7 (upd (v.1 7) 0 (v.1 7 1))) 9 E9) 5 E5) 8 E8) 6 E6) 3 E3) 10 (itN (s_sl E9) (v.1 10) (k + 1)))] := D_re hD (adc (bX7_ad _ _ _ _) adn)
        exact ih_137  _ _ _ hP hD hS (show lv_has ls 2 [(1, .int (nI (k + 1))), (0, .ref (a 0))] from lv_sub hl [0, 1] rfl) 
      · refine lv_aload_n hx hb dX7_takes_154 rfl (lv_at hl 1 rfl) ?_
        refine kb_get (own := RX7) (C := RX7) (T := TX7) (N := 19) (v := .ref (a 8)) hx hb hts hin7 hown hX hP 0 rfl rfl rfl 9 (by decide) rfl (by decide +kernel) rfl dX7_takes_155 ?_
        refine lv_iload_n hx hb dX7_takes_158 rfl (lv_at hl 0 rfl) ?_
        refine kb_ialdN (jn := k) (n := 64) (f := E9) hx hb hX hP 0 8 rfl rfl rfl (by omega) (by decide) dX7_takes_159 ?_
        refine lv_goto (tgt := 164) hx hb dX7_takes_160 (by decide) ?_
        refine kb_iastN (jn := k) (n := 552) (f := itN (s_sl E9) (v.1 10) k) hx hb hX hP hD hS 0 9 rfl rfl rfl (by omega) (by decide) dX7_takes_164 (bX7_A10 a G (setA (setA (setA (setA (setA (setA (setA (setA (setI (setI v 11 (v.2 11)) 12 (v.2 12)) 4 (upd (v.1 4) 0 (v.1 4 1))) 7 (upd (v.1 7) 0 (v.1 7 1))) 9 E9) 5 E5) 8 E8) 6 E6) 3 E3) 10 (itN (s_sl E9) (v.1 10) k)) (upd (itN (s_sl E9) (v.1 10) k) k (E9 k))) (fun H locs hP hD hS => ?_)
        have hP : PP G [bX7 a G (setA (setA (setA (setA (setA (setA (setA (setA (setA (setI (setI v 11 (v.2 11)) 12 (v.2 12)) 4 (upd (v.1 4) 0 (v.1 4 1))) 7 (upd (v.1 7) 0 (v.1 7 1))) 9 E9) 5 E5) 8 E8) 6 E6) 3 E3) 10 (itN (s_sl E9) (v.1 10) k)) 10 (upd (itN (s_sl E9) (v.1 10) k) k (E9 k)))] H := hP
        have hD : DD (AA (List.flatten [bX7 a G v])) [bX7 a G (setA (setA (setA (setA (setA (setA (setA (setA (setA (setI (setI v 11 (v.2 11)) 12 (v.2 12)) 4 (upd (v.1 4) 0 (v.1 4 1))) 7 (upd (v.1 7) 0 (v.1 7 1))) 9 E9) 5 E5) 8 E8) 6 E6) 3 E3) 10 (itN (s_sl E9) (v.1 10) k)) 10 (upd (itN (s_sl E9) (v.1 10) k) k (E9 k)))] := D_re hD (adc (bX7_ad _ _ _ _) adn)
        refine lv_iinc (v := nI (k + 1)) (lv' := [(1, .int (nI (k + 1))), (0, .ref (a 0))]) hx hb dX7_takes_165 hl (k := 0) rfl (nI_1 _) (by decide) rfl (fun ls hl => ?_)
        refine lv_goto (tgt := 137) hx hb dX7_takes_168 (by decide) ?_
        have hP : PP G [bX7 a G (setA (setA (setA (setA (setA (setA (setA (setA (setI (setI v 11 (v.2 11)) 12 (v.2 12)) 4 (upd (v.1 4) 0 (v.1 4 1))) 7 (upd (v.1 7) 0 (v.1 7 1))) 9 E9) 5 E5) 8 E8) 6 E6) 3 E3) 10 (itN (s_sl E9) (v.1 10) (k + 1)))] H := by
          have e10 : itN (s_sl E9) (v.1 10) (k + 1) = upd (itN (s_sl E9) (v.1 10) k) k (E9 k) := by rw [itN_s]; simp only [s_sl, if_pos c_29, if_neg c_140, if_neg c_151]
          rw [e10]
          try simp only [ov_n1, ov_m1, ov_nc, ov_mc, ov_c] at hP ⊢
          exact hP
        have hD : DD (AA (List.flatten [bX7 a G v])) [bX7 a G (setA (setA (setA (setA (setA (setA (setA (setA (setI (setI v 11 (v.2 11)) 12 (v.2 12)) 4 (upd (v.1 4) 0 (v.1 4 1))) 7 (upd (v.1 7) 0 (v.1 7 1))) 9 E9) 5 E5) 8 E8) 6 E6) 3 E3) 10 (itN (s_sl E9) (v.1 10) (k + 1)))] := D_re hD (adc (bX7_ad _ _ _ _) adn)
        exact ih_137  _ _ _ hP hD hS (show lv_has ls 2 [(1, .int (nI (k + 1))), (0, .ref (a 0))] from lv_sub hl [0, 1] rfl) 
  · skip
    intro k hk_k ih_26 H locs ls hP hD hS hl 
    refine lv_iload_n hx hb dX7_takes_26 rfl (lv_at hl 0 rfl) ?_
    refine lv_bipush (v := 32) hx hb dX7_takes_27 (by decide) ?_
    refine lv_icmp_ge (tgt := 135) hx hb dX7_takes_29 (by decide) (fun c_29 => absurd c_29 (nI_ge (b := 32) hk_k (by decide))) (fun c_29 => ?_)
    refine lv_aload_n hx hb dX7_takes_32 rfl (lv_at hl 1 rfl) ?_
    refine kb_get (own := RX7) (C := RX7) (T := TX7) (N := 19) (v := .ref (a 8)) hx hb hts hin7 hown hX hP 0 rfl rfl rfl 9 (by decide) rfl (by decide +kernel) rfl dX7_takes_33 ?_
    refine lv_iload_n hx hb dX7_takes_36 rfl (lv_at hl 0 rfl) ?_
    refine lv_aload_n hx hb dX7_takes_37 rfl (lv_at hl 1 rfl) ?_
    refine kb_get (own := RX7) (C := RX7) (T := TX7) (N := 19) (v := .ref (a 8)) hx hb hts hin7 hown hX hP 0 rfl rfl rfl 9 (by decide) rfl (by decide +kernel) rfl dX7_takes_38 ?_
    refine lv_bipush (v := 32) hx hb dX7_takes_41 (by decide) ?_
    refine lv_iload_n hx hb dX7_takes_43 rfl (lv_at hl 0 rfl) ?_
    refine lv_iadd hx hb dX7_takes_44 ?_
    refine kb_ialdN (jn := 32 + k) (n := 64) (f := itN s_t9 (v.1 9) k) hx hb hX hP 0 8 rfl rfl (by simp only [nI_addE, nI_mulE] <;> rfl) (by omega) (by decide) dX7_takes_45 ?_
    refine kb_iastN (jn := k) (n := 64) (f := itN s_t9 (v.1 9) k) hx hb hX hP hD hS 0 8 rfl rfl rfl (by omega) (by decide) dX7_takes_46 (bX7_A9 a G (setA (setA (setA (setA (setA (setA (setA (setA (setI (setI v 11 (v.2 11)) 12 (v.2 12)) 4 (upd (v.1 4) 0 (v.1 4 1))) 7 (upd (v.1 7) 0 (v.1 7 1))) 9 (itN s_t9 (v.1 9) k)) 5 (itN s_t5 (v.1 5) k)) 8 (itN s_t8 (v.1 8) k)) 6 (itN s_t6 (v.1 6) k)) 3 (itN s_t3 (v.1 3) k)) 10 (v.1 10)) (upd (itN s_t9 (v.1 9) k) k ((itN s_t9 (v.1 9) k) (32 + k)))) (fun H locs hP hD hS => ?_)
    have hP : PP G [bX7 a G (setA (setA (setA (setA (setA (setA (setA (setA (setA (setI (setI v 11 (v.2 11)) 12 (v.2 12)) 4 (upd (v.1 4) 0 (v.1 4 1))) 7 (upd (v.1 7) 0 (v.1 7 1))) 9 (itN s_t9 (v.1 9) k)) 5 (itN s_t5 (v.1 5) k)) 8 (itN s_t8 (v.1 8) k)) 6 (itN s_t6 (v.1 6) k)) 3 (itN s_t3 (v.1 3) k)) 10 (v.1 10)) 9 (upd (itN s_t9 (v.1 9) k) k ((itN s_t9 (v.1 9) k) (32 + k))))] H := hP
    have hD : DD (AA (List.flatten [bX7 a G v])) [bX7 a G (setA (setA (setA (setA (setA (setA (setA (setA (setA (setI (setI v 11 (v.2 11)) 12 (v.2 12)) 4 (upd (v.1 4) 0 (v.1 4 1))) 7 (upd (v.1 7) 0 (v.1 7 1))) 9 (itN s_t9 (v.1 9) k)) 5 (itN s_t5 (v.1 5) k)) 8 (itN s_t8 (v.1 8) k)) 6 (itN s_t6 (v.1 6) k)) 3 (itN s_t3 (v.1 3) k)) 10 (v.1 10)) 9 (upd (itN s_t9 (v.1 9) k) k ((itN s_t9 (v.1 9) k) (32 + k))))] := D_re hD (adc (bX7_ad _ _ _ _) adn)
    refine lv_iload_n hx hb dX7_takes_47 rfl (lv_at hl 0 rfl) ?_
    refine lv_bipush (v := 24) hx hb dX7_takes_48 (by decide) ?_
    refine lv_icmp_ge (tgt := 68) hx hb dX7_takes_50 (by decide) (fun c_50 => ?_) (fun c_50 => ?_)
    · refine lv_iload_n hx hb dX7_takes_68 rfl (lv_at hl 0 rfl) ?_
      refine lv_bipush (v := 12) hx hb dX7_takes_69 (by decide) ?_
      refine lv_icmp_ge (tgt := 89) hx hb dX7_takes_71 (by decide) (fun c_71 => ?_) (fun c_71 => absurd (Int32.le_trans (by decide) c_50) c_71)
      refine lv_iload_n hx hb dX7_takes_89 rfl (lv_at hl 0 rfl) ?_
      refine lv_bipush (v := 8) hx hb dX7_takes_90 (by decide) ?_
      refine lv_icmp_ge (tgt := 110) hx hb dX7_takes_92 (by decide) (fun c_92 => ?_) (fun c_92 => absurd (Int32.le_trans (by decide) c_71) c_92)
      refine lv_iload_n hx hb dX7_takes_110 rfl (lv_at hl 0 rfl) ?_
      refine lv_iconst (v := 5) hx hb dX7_takes_111 (by decide) ?_
      refine lv_icmp_ge (tgt := 129) hx hb dX7_takes_112 (by decide) (fun c_112 => ?_) (fun c_112 => absurd (Int32.le_trans (by decide) c_92) c_112)
      refine lv_iinc (v := nI (k + 1)) (lv' := [(1, .int (nI (k + 1))), (0, .ref (a 0))]) hx hb dX7_takes_129 hl (k := 0) rfl (nI_1 _) (by decide) rfl (fun ls hl => ?_)
      refine lv_goto (tgt := 26) hx hb dX7_takes_132 (by decide) ?_
      have hP : PP G [bX7 a G (setA (setA (setA (setA (setA (setA (setA (setA (setI (setI v 11 (v.2 11)) 12 (v.2 12)) 4 (upd (v.1 4) 0 (v.1 4 1))) 7 (upd (v.1 7) 0 (v.1 7 1))) 9 (itN s_t9 (v.1 9) (k + 1))) 5 (itN s_t5 (v.1 5) (k + 1))) 8 (itN s_t8 (v.1 8) (k + 1))) 6 (itN s_t6 (v.1 6) (k + 1))) 3 (itN s_t3 (v.1 3) (k + 1))) 10 (v.1 10))] H := by
        have e5 : itN s_t5 (v.1 5) (k + 1) = itN s_t5 (v.1 5) k := by rw [itN_s]; simp only [s_t5, if_neg c_29, if_pos c_50, if_pos c_71, if_pos c_92, if_pos c_112]
        rw [e5]
        have e8 : itN s_t8 (v.1 8) (k + 1) = itN s_t8 (v.1 8) k := by rw [itN_s]; simp only [s_t8, if_neg c_29, if_pos c_50, if_pos c_71, if_pos c_92, if_pos c_112]
        rw [e8]
        have e6 : itN s_t6 (v.1 6) (k + 1) = itN s_t6 (v.1 6) k := by rw [itN_s]; simp only [s_t6, if_neg c_29, if_pos c_50, if_pos c_71, if_pos c_92, if_pos c_112]
        rw [e6]
        have e3 : itN s_t3 (v.1 3) (k + 1) = itN s_t3 (v.1 3) k := by rw [itN_s]; simp only [s_t3, if_neg c_29, if_pos c_50, if_pos c_71, if_pos c_92, if_pos c_112]
        rw [e3]
        try simp only [ov_n1, ov_m1, ov_nc, ov_mc, ov_c] at hP ⊢
        exact hP
      have hD : DD (AA (List.flatten [bX7 a G v])) [bX7 a G (setA (setA (setA (setA (setA (setA (setA (setA (setI (setI v 11 (v.2 11)) 12 (v.2 12)) 4 (upd (v.1 4) 0 (v.1 4 1))) 7 (upd (v.1 7) 0 (v.1 7 1))) 9 (itN s_t9 (v.1 9) (k + 1))) 5 (itN s_t5 (v.1 5) (k + 1))) 8 (itN s_t8 (v.1 8) (k + 1))) 6 (itN s_t6 (v.1 6) (k + 1))) 3 (itN s_t3 (v.1 3) (k + 1))) 10 (v.1 10))] := D_re hD (adc (bX7_ad _ _ _ _) adn)
      exact ih_26  _ _ _ hP hD hS (show lv_has ls 2 [(1, .int (nI (k + 1))), (0, .ref (a 0))] from lv_sub hl [0, 1] rfl) 
    · have hk24 := nI_nle_lt (m := 24) (by omega) c_50
      refine lv_aload_n hx hb dX7_takes_53 rfl (lv_at hl 1 rfl) ?_
      refine kb_get (own := RX7) (C := RX7) (T := TX7) (N := 19) (v := .ref (a 4)) hx hb hts hin7 hown hX hP 0 rfl rfl rfl 5 (by decide) rfl (by decide +kernel) rfl dX7_takes_54 ?_
      refine lv_iload_n hx hb dX7_takes_57 rfl (lv_at hl 0 rfl) ?_
      refine lv_aload_n hx hb dX7_takes_58 rfl (lv_at hl 1 rfl) ?_
      refine kb_get (own := RX7) (C := RX7) (T := TX7) (N := 19) (v := .ref (a 4)) hx hb hts hin7 hown hX hP 0 rfl rfl rfl 5 (by decide) rfl (by decide +kernel) rfl dX7_takes_59 ?_
      refine lv_bipush (v := 24) hx hb dX7_takes_62 (by decide) ?_
      refine lv_iload_n hx hb dX7_takes_64 rfl (lv_at hl 0 rfl) ?_
      refine lv_iadd hx hb dX7_takes_65 ?_
      refine kb_ialdN (jn := 24 + k) (n := 48) (f := itN s_t5 (v.1 5) k) hx hb hX hP 0 4 rfl rfl (by simp only [nI_addE, nI_mulE] <;> rfl) (by omega) (by decide) dX7_takes_66 ?_
      refine kb_iastN (jn := k) (n := 48) (f := itN s_t5 (v.1 5) k) hx hb hX hP hD hS 0 4 rfl rfl rfl (by omega) (by decide) dX7_takes_67 (bX7_A5 a G (setA (setA (setA (setA (setA (setA (setA (setA (setA (setI (setI v 11 (v.2 11)) 12 (v.2 12)) 4 (upd (v.1 4) 0 (v.1 4 1))) 7 (upd (v.1 7) 0 (v.1 7 1))) 9 (itN s_t9 (v.1 9) k)) 5 (itN s_t5 (v.1 5) k)) 8 (itN s_t8 (v.1 8) k)) 6 (itN s_t6 (v.1 6) k)) 3 (itN s_t3 (v.1 3) k)) 10 (v.1 10)) 9 (upd (itN s_t9 (v.1 9) k) k ((itN s_t9 (v.1 9) k) (32 + k)))) (upd (itN s_t5 (v.1 5) k) k ((itN s_t5 (v.1 5) k) (24 + k)))) (fun H locs hP hD hS => ?_)
      have hP : PP G [bX7 a G (setA (setA (setA (setA (setA (setA (setA (setA (setA (setA (setI (setI v 11 (v.2 11)) 12 (v.2 12)) 4 (upd (v.1 4) 0 (v.1 4 1))) 7 (upd (v.1 7) 0 (v.1 7 1))) 9 (itN s_t9 (v.1 9) k)) 5 (itN s_t5 (v.1 5) k)) 8 (itN s_t8 (v.1 8) k)) 6 (itN s_t6 (v.1 6) k)) 3 (itN s_t3 (v.1 3) k)) 10 (v.1 10)) 9 (upd (itN s_t9 (v.1 9) k) k ((itN s_t9 (v.1 9) k) (32 + k)))) 5 (upd (itN s_t5 (v.1 5) k) k ((itN s_t5 (v.1 5) k) (24 + k))))] H := hP
      have hD : DD (AA (List.flatten [bX7 a G v])) [bX7 a G (setA (setA (setA (setA (setA (setA (setA (setA (setA (setA (setI (setI v 11 (v.2 11)) 12 (v.2 12)) 4 (upd (v.1 4) 0 (v.1 4 1))) 7 (upd (v.1 7) 0 (v.1 7 1))) 9 (itN s_t9 (v.1 9) k)) 5 (itN s_t5 (v.1 5) k)) 8 (itN s_t8 (v.1 8) k)) 6 (itN s_t6 (v.1 6) k)) 3 (itN s_t3 (v.1 3) k)) 10 (v.1 10)) 9 (upd (itN s_t9 (v.1 9) k) k ((itN s_t9 (v.1 9) k) (32 + k)))) 5 (upd (itN s_t5 (v.1 5) k) k ((itN s_t5 (v.1 5) k) (24 + k))))] := D_re hD (adc (bX7_ad _ _ _ _) adn)
      refine lv_iload_n hx hb dX7_takes_68 rfl (lv_at hl 0 rfl) ?_
      refine lv_bipush (v := 12) hx hb dX7_takes_69 (by decide) ?_
      refine lv_icmp_ge (tgt := 89) hx hb dX7_takes_71 (by decide) (fun c_71 => ?_) (fun c_71 => ?_)
      · refine lv_iload_n hx hb dX7_takes_89 rfl (lv_at hl 0 rfl) ?_
        refine lv_bipush (v := 8) hx hb dX7_takes_90 (by decide) ?_
        refine lv_icmp_ge (tgt := 110) hx hb dX7_takes_92 (by decide) (fun c_92 => ?_) (fun c_92 => absurd (Int32.le_trans (by decide) c_71) c_92)
        refine lv_iload_n hx hb dX7_takes_110 rfl (lv_at hl 0 rfl) ?_
        refine lv_iconst (v := 5) hx hb dX7_takes_111 (by decide) ?_
        refine lv_icmp_ge (tgt := 129) hx hb dX7_takes_112 (by decide) (fun c_112 => ?_) (fun c_112 => absurd (Int32.le_trans (by decide) c_92) c_112)
        refine lv_iinc (v := nI (k + 1)) (lv' := [(1, .int (nI (k + 1))), (0, .ref (a 0))]) hx hb dX7_takes_129 hl (k := 0) rfl (nI_1 _) (by decide) rfl (fun ls hl => ?_)
        refine lv_goto (tgt := 26) hx hb dX7_takes_132 (by decide) ?_
        have hP : PP G [bX7 a G (setA (setA (setA (setA (setA (setA (setA (setA (setI (setI v 11 (v.2 11)) 12 (v.2 12)) 4 (upd (v.1 4) 0 (v.1 4 1))) 7 (upd (v.1 7) 0 (v.1 7 1))) 9 (itN s_t9 (v.1 9) (k + 1))) 5 (itN s_t5 (v.1 5) (k + 1))) 8 (itN s_t8 (v.1 8) (k + 1))) 6 (itN s_t6 (v.1 6) (k + 1))) 3 (itN s_t3 (v.1 3) (k + 1))) 10 (v.1 10))] H := by
          have e5 : itN s_t5 (v.1 5) (k + 1) = upd (itN s_t5 (v.1 5) k) k ((itN s_t5 (v.1 5) k) (24 + k)) := by rw [itN_s]; simp only [s_t5, if_neg c_29, if_neg c_50, if_pos c_71, if_pos c_92, if_pos c_112]
          rw [e5]
          have e8 : itN s_t8 (v.1 8) (k + 1) = itN s_t8 (v.1 8) k := by rw [itN_s]; simp only [s_t8, if_neg c_29, if_neg c_50, if_pos c_71, if_pos c_92, if_pos c_112]
          rw [e8]
          have e6 : itN s_t6 (v.1 6) (k + 1) = itN s_t6 (v.1 6) k := by rw [itN_s]; simp only [s_t6, if_neg c_29, if_neg c_50, if_pos c_71, if_pos c_92, if_pos c_112]
          rw [e6]
          have e3 : itN s_t3 (v.1 3) (k + 1) = itN s_t3 (v.1 3) k := by rw [itN_s]; simp only [s_t3, if_neg c_29, if_neg c_50, if_pos c_71, if_pos c_92, if_pos c_112]
          rw [e3]
          try simp only [ov_n1, ov_m1, ov_nc, ov_mc, ov_c] at hP ⊢
          exact hP
        have hD : DD (AA (List.flatten [bX7 a G v])) [bX7 a G (setA (setA (setA (setA (setA (setA (setA (setA (setI (setI v 11 (v.2 11)) 12 (v.2 12)) 4 (upd (v.1 4) 0 (v.1 4 1))) 7 (upd (v.1 7) 0 (v.1 7 1))) 9 (itN s_t9 (v.1 9) (k + 1))) 5 (itN s_t5 (v.1 5) (k + 1))) 8 (itN s_t8 (v.1 8) (k + 1))) 6 (itN s_t6 (v.1 6) (k + 1))) 3 (itN s_t3 (v.1 3) (k + 1))) 10 (v.1 10))] := D_re hD (adc (bX7_ad _ _ _ _) adn)
        exact ih_26  _ _ _ hP hD hS (show lv_has ls 2 [(1, .int (nI (k + 1))), (0, .ref (a 0))] from lv_sub hl [0, 1] rfl) 
      · have hk12 := nI_nle_lt (m := 12) (by omega) c_71
        refine lv_aload_n hx hb dX7_takes_74 rfl (lv_at hl 1 rfl) ?_
        refine kb_get (own := RX7) (C := RX7) (T := TX7) (N := 19) (v := .ref (a 7)) hx hb hts hin7 hown hX hP 0 rfl rfl rfl 8 (by decide) rfl (by decide +kernel) rfl dX7_takes_75 ?_
        refine lv_iload_n hx hb dX7_takes_78 rfl (lv_at hl 0 rfl) ?_
        refine lv_aload_n hx hb dX7_takes_79 rfl (lv_at hl 1 rfl) ?_
        refine kb_get (own := RX7) (C := RX7) (T := TX7) (N := 19) (v := .ref (a 7)) hx hb hts hin7 hown hX hP 0 rfl rfl rfl 8 (by decide) rfl (by decide +kernel) rfl dX7_takes_80 ?_
        refine lv_bipush (v := 12) hx hb dX7_takes_83 (by decide) ?_
        refine lv_iload_n hx hb dX7_takes_85 rfl (lv_at hl 0 rfl) ?_
        refine lv_iadd hx hb dX7_takes_86 ?_
        refine kb_ialdN (jn := 12 + k) (n := 24) (f := itN s_t8 (v.1 8) k) hx hb hX hP 0 7 rfl rfl (by simp only [nI_addE, nI_mulE] <;> rfl) (by omega) (by decide) dX7_takes_87 ?_
        refine kb_iastN (jn := k) (n := 24) (f := itN s_t8 (v.1 8) k) hx hb hX hP hD hS 0 7 rfl rfl rfl (by omega) (by decide) dX7_takes_88 (bX7_A8 a G (setA (setA (setA (setA (setA (setA (setA (setA (setA (setA (setI (setI v 11 (v.2 11)) 12 (v.2 12)) 4 (upd (v.1 4) 0 (v.1 4 1))) 7 (upd (v.1 7) 0 (v.1 7 1))) 9 (itN s_t9 (v.1 9) k)) 5 (itN s_t5 (v.1 5) k)) 8 (itN s_t8 (v.1 8) k)) 6 (itN s_t6 (v.1 6) k)) 3 (itN s_t3 (v.1 3) k)) 10 (v.1 10)) 9 (upd (itN s_t9 (v.1 9) k) k ((itN s_t9 (v.1 9) k) (32 + k)))) 5 (upd (itN s_t5 (v.1 5) k) k ((itN s_t5 (v.1 5) k) (24 + k)))) (upd (itN s_t8 (v.1 8) k) k ((itN s_t8 (v.1 8) k) (12 + k)))) (fun H locs hP hD hS => ?_)
        have hP : PP G [bX7 a G (setA (setA (setA (setA (setA (setA (setA (setA (setA (setA (setA (setI (setI v 11 (v.2 11)) 12 (v.2 12)) 4 (upd (v.1 4) 0 (v.1 4 1))) 7 (upd (v.1 7) 0 (v.1 7 1))) 9 (itN s_t9 (v.1 9) k)) 5 (itN s_t5 (v.1 5) k)) 8 (itN s_t8 (v.1 8) k)) 6 (itN s_t6 (v.1 6) k)) 3 (itN s_t3 (v.1 3) k)) 10 (v.1 10)) 9 (upd (itN s_t9 (v.1 9) k) k ((itN s_t9 (v.1 9) k) (32 + k)))) 5 (upd (itN s_t5 (v.1 5) k) k ((itN s_t5 (v.1 5) k) (24 + k)))) 8 (upd (itN s_t8 (v.1 8) k) k ((itN s_t8 (v.1 8) k) (12 + k))))] H := hP
        have hD : DD (AA (List.flatten [bX7 a G v])) [bX7 a G (setA (setA (setA (setA (setA (setA (setA (setA (setA (setA (setA (setI (setI v 11 (v.2 11)) 12 (v.2 12)) 4 (upd (v.1 4) 0 (v.1 4 1))) 7 (upd (v.1 7) 0 (v.1 7 1))) 9 (itN s_t9 (v.1 9) k)) 5 (itN s_t5 (v.1 5) k)) 8 (itN s_t8 (v.1 8) k)) 6 (itN s_t6 (v.1 6) k)) 3 (itN s_t3 (v.1 3) k)) 10 (v.1 10)) 9 (upd (itN s_t9 (v.1 9) k) k ((itN s_t9 (v.1 9) k) (32 + k)))) 5 (upd (itN s_t5 (v.1 5) k) k ((itN s_t5 (v.1 5) k) (24 + k)))) 8 (upd (itN s_t8 (v.1 8) k) k ((itN s_t8 (v.1 8) k) (12 + k))))] := D_re hD (adc (bX7_ad _ _ _ _) adn)
        refine lv_iload_n hx hb dX7_takes_89 rfl (lv_at hl 0 rfl) ?_
        refine lv_bipush (v := 8) hx hb dX7_takes_90 (by decide) ?_
        refine lv_icmp_ge (tgt := 110) hx hb dX7_takes_92 (by decide) (fun c_92 => ?_) (fun c_92 => ?_)
        · refine lv_iload_n hx hb dX7_takes_110 rfl (lv_at hl 0 rfl) ?_
          refine lv_iconst (v := 5) hx hb dX7_takes_111 (by decide) ?_
          refine lv_icmp_ge (tgt := 129) hx hb dX7_takes_112 (by decide) (fun c_112 => ?_) (fun c_112 => absurd (Int32.le_trans (by decide) c_92) c_112)
          refine lv_iinc (v := nI (k + 1)) (lv' := [(1, .int (nI (k + 1))), (0, .ref (a 0))]) hx hb dX7_takes_129 hl (k := 0) rfl (nI_1 _) (by decide) rfl (fun ls hl => ?_)
          refine lv_goto (tgt := 26) hx hb dX7_takes_132 (by decide) ?_
          have hP : PP G [bX7 a G (setA (setA (setA (setA (setA (setA (setA (setA (setI (setI v 11 (v.2 11)) 12 (v.2 12)) 4 (upd (v.1 4) 0 (v.1 4 1))) 7 (upd (v.1 7) 0 (v.1 7 1))) 9 (itN s_t9 (v.1 9) (k + 1))) 5 (itN s_t5 (v.1 5) (k + 1))) 8 (itN s_t8 (v.1 8) (k + 1))) 6 (itN s_t6 (v.1 6) (k + 1))) 3 (itN s_t3 (v.1 3) (k + 1))) 10 (v.1 10))] H := by
            have e5 : itN s_t5 (v.1 5) (k + 1) = upd (itN s_t5 (v.1 5) k) k ((itN s_t5 (v.1 5) k) (24 + k)) := by rw [itN_s]; simp only [s_t5, if_neg c_29, if_neg c_50, if_neg c_71, if_pos c_92, if_pos c_112]
            rw [e5]
            have e8 : itN s_t8 (v.1 8) (k + 1) = upd (itN s_t8 (v.1 8) k) k ((itN s_t8 (v.1 8) k) (12 + k)) := by rw [itN_s]; simp only [s_t8, if_neg c_29, if_neg c_50, if_neg c_71, if_pos c_92, if_pos c_112]
            rw [e8]
            have e6 : itN s_t6 (v.1 6) (k + 1) = itN s_t6 (v.1 6) k := by rw [itN_s]; simp only [s_t6, if_neg c_29, if_neg c_50, if_neg c_71, if_pos c_92, if_pos c_112]
            rw [e6]
            have e3 : itN s_t3 (v.1 3) (k + 1) = itN s_t3 (v.1 3) k := by rw [itN_s]; simp only [s_t3, if_neg c_29, if_neg c_50, if_neg c_71, if_pos c_92, if_pos c_112]
            rw [e3]
            try simp only [ov_n1, ov_m1, ov_nc, ov_mc, ov_c] at hP ⊢
            exact hP
          have hD : DD (AA (List.flatten [bX7 a G v])) [bX7 a G (setA (setA (setA (setA (setA (setA (setA (setA (setI (setI v 11 (v.2 11)) 12 (v.2 12)) 4 (upd (v.1 4) 0 (v.1 4 1))) 7 (upd (v.1 7) 0 (v.1 7 1))) 9 (itN s_t9 (v.1 9) (k + 1))) 5 (itN s_t5 (v.1 5) (k + 1))) 8 (itN s_t8 (v.1 8) (k + 1))) 6 (itN s_t6 (v.1 6) (k + 1))) 3 (itN s_t3 (v.1 3) (k + 1))) 10 (v.1 10))] := D_re hD (adc (bX7_ad _ _ _ _) adn)
          exact ih_26  _ _ _ hP hD hS (show lv_has ls 2 [(1, .int (nI (k + 1))), (0, .ref (a 0))] from lv_sub hl [0, 1] rfl) 
        · have hk8 := nI_nle_lt (m := 8) (by omega) c_92
          refine lv_aload_n hx hb dX7_takes_95 rfl (lv_at hl 1 rfl) ?_
          refine kb_get (own := RX7) (C := RX7) (T := TX7) (N := 19) (v := .ref (a 5)) hx hb hts hin7 hown hX hP 0 rfl rfl rfl 6 (by decide) rfl (by decide +kernel) rfl dX7_takes_96 ?_
          refine lv_iload_n hx hb dX7_takes_99 rfl (lv_at hl 0 rfl) ?_
          refine lv_aload_n hx hb dX7_takes_100 rfl (lv_at hl 1 rfl) ?_
          refine kb_get (own := RX7) (C := RX7) (T := TX7) (N := 19) (v := .ref (a 5)) hx hb hts hin7 hown hX hP 0 rfl rfl rfl 6 (by decide) rfl (by decide +kernel) rfl dX7_takes_101 ?_
          refine lv_bipush (v := 8) hx hb dX7_takes_104 (by decide) ?_
          refine lv_iload_n hx hb dX7_takes_106 rfl (lv_at hl 0 rfl) ?_
          refine lv_iadd hx hb dX7_takes_107 ?_
          refine kb_ialdN (jn := 8 + k) (n := 16) (f := itN s_t6 (v.1 6) k) hx hb hX hP 0 5 rfl rfl (by simp only [nI_addE, nI_mulE] <;> rfl) (by omega) (by decide) dX7_takes_108 ?_
          refine kb_iastN (jn := k) (n := 16) (f := itN s_t6 (v.1 6) k) hx hb hX hP hD hS 0 5 rfl rfl rfl (by omega) (by decide) dX7_takes_109 (bX7_A6 a G (setA (setA (setA (setA (setA (setA (setA (setA (setA (setA (setA (setI (setI v 11 (v.2 11)) 12 (v.2 12)) 4 (upd (v.1 4) 0 (v.1 4 1))) 7 (upd (v.1 7) 0 (v.1 7 1))) 9 (itN s_t9 (v.1 9) k)) 5 (itN s_t5 (v.1 5) k)) 8 (itN s_t8 (v.1 8) k)) 6 (itN s_t6 (v.1 6) k)) 3 (itN s_t3 (v.1 3) k)) 10 (v.1 10)) 9 (upd (itN s_t9 (v.1 9) k) k ((itN s_t9 (v.1 9) k) (32 + k)))) 5 (upd (itN s_t5 (v.1 5) k) k ((itN s_t5 (v.1 5) k) (24 + k)))) 8 (upd (itN s_t8 (v.1 8) k) k ((itN s_t8 (v.1 8) k) (12 + k)))) (upd (itN s_t6 (v.1 6) k) k ((itN s_t6 (v.1 6) k) (8 + k)))) (fun H locs hP hD hS => ?_)
          have hP : PP G [bX7 a G (setA (setA (setA (setA (setA (setA (setA (setA (setA (setA (setA (setA (setI (setI v 11 (v.2 11)) 12 (v.2 12)) 4 (upd (v.1 4) 0 (v.1 4 1))) 7 (upd (v.1 7) 0 (v.1 7 1))) 9 (itN s_t9 (v.1 9) k)) 5 (itN s_t5 (v.1 5) k)) 8 (itN s_t8 (v.1 8) k)) 6 (itN s_t6 (v.1 6) k)) 3 (itN s_t3 (v.1 3) k)) 10 (v.1 10)) 9 (upd (itN s_t9 (v.1 9) k) k ((itN s_t9 (v.1 9) k) (32 + k)))) 5 (upd (itN s_t5 (v.1 5) k) k ((itN s_t5 (v.1 5) k) (24 + k)))) 8 (upd (itN s_t8 (v.1 8) k) k ((itN s_t8 (v.1 8) k) (12 + k)))) 6 (upd (itN s_t6 (v.1 6) k) k ((itN s_t6 (v.1 6) k) (8 + k))))] H := hP
          have hD : DD (AA (List.flatten [bX7 a G v])) [bX7 a G (setA (setA (setA (setA (setA (setA (setA (setA (setA (setA (setA (setA (setI (setI v 11 (v.2 11)) 12 (v.2 12)) 4 (upd (v.1 4) 0 (v.1 4 1))) 7 (upd (v.1 7) 0 (v.1 7 1))) 9 (itN s_t9 (v.1 9) k)) 5 (itN s_t5 (v.1 5) k)) 8 (itN s_t8 (v.1 8) k)) 6 (itN s_t6 (v.1 6) k)) 3 (itN s_t3 (v.1 3) k)) 10 (v.1 10)) 9 (upd (itN s_t9 (v.1 9) k) k ((itN s_t9 (v.1 9) k) (32 + k)))) 5 (upd (itN s_t5 (v.1 5) k) k ((itN s_t5 (v.1 5) k) (24 + k)))) 8 (upd (itN s_t8 (v.1 8) k) k ((itN s_t8 (v.1 8) k) (12 + k)))) 6 (upd (itN s_t6 (v.1 6) k) k ((itN s_t6 (v.1 6) k) (8 + k))))] := D_re hD (adc (bX7_ad _ _ _ _) adn)
          refine lv_iload_n hx hb dX7_takes_110 rfl (lv_at hl 0 rfl) ?_
          refine lv_iconst (v := 5) hx hb dX7_takes_111 (by decide) ?_
          refine lv_icmp_ge (tgt := 129) hx hb dX7_takes_112 (by decide) (fun c_112 => ?_) (fun c_112 => ?_)
          · refine lv_iinc (v := nI (k + 1)) (lv' := [(1, .int (nI (k + 1))), (0, .ref (a 0))]) hx hb dX7_takes_129 hl (k := 0) rfl (nI_1 _) (by decide) rfl (fun ls hl => ?_)
            refine lv_goto (tgt := 26) hx hb dX7_takes_132 (by decide) ?_
            have hP : PP G [bX7 a G (setA (setA (setA (setA (setA (setA (setA (setA (setI (setI v 11 (v.2 11)) 12 (v.2 12)) 4 (upd (v.1 4) 0 (v.1 4 1))) 7 (upd (v.1 7) 0 (v.1 7 1))) 9 (itN s_t9 (v.1 9) (k + 1))) 5 (itN s_t5 (v.1 5) (k + 1))) 8 (itN s_t8 (v.1 8) (k + 1))) 6 (itN s_t6 (v.1 6) (k + 1))) 3 (itN s_t3 (v.1 3) (k + 1))) 10 (v.1 10))] H := by
              have e5 : itN s_t5 (v.1 5) (k + 1) = upd (itN s_t5 (v.1 5) k) k ((itN s_t5 (v.1 5) k) (24 + k)) := by rw [itN_s]; simp only [s_t5, if_neg c_29, if_neg c_50, if_neg c_71, if_neg c_92, if_pos c_112]
              rw [e5]
              have e8 : itN s_t8 (v.1 8) (k + 1) = upd (itN s_t8 (v.1 8) k) k ((itN s_t8 (v.1 8) k) (12 + k)) := by rw [itN_s]; simp only [s_t8, if_neg c_29, if_neg c_50, if_neg c_71, if_neg c_92, if_pos c_112]
              rw [e8]
              have e6 : itN s_t6 (v.1 6) (k + 1) = upd (itN s_t6 (v.1 6) k) k ((itN s_t6 (v.1 6) k) (8 + k)) := by rw [itN_s]; simp only [s_t6, if_neg c_29, if_neg c_50, if_neg c_71, if_neg c_92, if_pos c_112]
              rw [e6]
              have e3 : itN s_t3 (v.1 3) (k + 1) = itN s_t3 (v.1 3) k := by rw [itN_s]; simp only [s_t3, if_neg c_29, if_neg c_50, if_neg c_71, if_neg c_92, if_pos c_112]
              rw [e3]
              try simp only [ov_n1, ov_m1, ov_nc, ov_mc, ov_c] at hP ⊢
              exact hP
            have hD : DD (AA (List.flatten [bX7 a G v])) [bX7 a G (setA (setA (setA (setA (setA (setA (setA (setA (setI (setI v 11 (v.2 11)) 12 (v.2 12)) 4 (upd (v.1 4) 0 (v.1 4 1))) 7 (upd (v.1 7) 0 (v.1 7 1))) 9 (itN s_t9 (v.1 9) (k + 1))) 5 (itN s_t5 (v.1 5) (k + 1))) 8 (itN s_t8 (v.1 8) (k + 1))) 6 (itN s_t6 (v.1 6) (k + 1))) 3 (itN s_t3 (v.1 3) (k + 1))) 10 (v.1 10))] := D_re hD (adc (bX7_ad _ _ _ _) adn)
            exact ih_26  _ _ _ hP hD hS (show lv_has ls 2 [(1, .int (nI (k + 1))), (0, .ref (a 0))] from lv_sub hl [0, 1] rfl) 
          · have hk5 := nI_nle_lt (m := 5) (by omega) c_112
            refine lv_aload_n hx hb dX7_takes_115 rfl (lv_at hl 1 rfl) ?_
            refine kb_get (own := RX7) (C := RX7) (T := TX7) (N := 19) (v := .ref (a 2)) hx hb hts hin7 hown hX hP 0 rfl rfl rfl 3 (by decide) rfl (by decide +kernel) rfl dX7_takes_116 ?_
            refine lv_iload_n hx hb dX7_takes_119 rfl (lv_at hl 0 rfl) ?_
            refine lv_aload_n hx hb dX7_takes_120 rfl (lv_at hl 1 rfl) ?_
            refine kb_get (own := RX7) (C := RX7) (T := TX7) (N := 19) (v := .ref (a 2)) hx hb hts hin7 hown hX hP 0 rfl rfl rfl 3 (by decide) rfl (by decide +kernel) rfl dX7_takes_121 ?_
            refine lv_iconst (v := 5) hx hb dX7_takes_124 (by decide) ?_
            refine lv_iload_n hx hb dX7_takes_125 rfl (lv_at hl 0 rfl) ?_
            refine lv_iadd hx hb dX7_takes_126 ?_
            refine kb_ialdN (jn := 5 + k) (n := 10) (f := itN s_t3 (v.1 3) k) hx hb hX hP 0 2 rfl rfl (by simp only [nI_addE, nI_mulE] <;> rfl) (by omega) (by decide) dX7_takes_127 ?_
            refine kb_iastN (jn := k) (n := 10) (f := itN s_t3 (v.1 3) k) hx hb hX hP hD hS 0 2 rfl rfl rfl (by omega) (by decide) dX7_takes_128 (bX7_A3 a G (setA (setA (setA (setA (setA (setA (setA (setA (setA (setA (setA (setA (setI (setI v 11 (v.2 11)) 12 (v.2 12)) 4 (upd (v.1 4) 0 (v.1 4 1))) 7 (upd (v.1 7) 0 (v.1 7 1))) 9 (itN s_t9 (v.1 9) k)) 5 (itN s_t5 (v.1 5) k)) 8 (itN s_t8 (v.1 8) k)) 6 (itN s_t6 (v.1 6) k)) 3 (itN s_t3 (v.1 3) k)) 10 (v.1 10)) 9 (upd (itN s_t9 (v.1 9) k) k ((itN s_t9 (v.1 9) k) (32 + k)))) 5 (upd (itN s_t5 (v.1 5) k) k ((itN s_t5 (v.1 5) k) (24 + k)))) 8 (upd (itN s_t8 (v.1 8) k) k ((itN s_t8 (v.1 8) k) (12 + k)))) 6 (upd (itN s_t6 (v.1 6) k) k ((itN s_t6 (v.1 6) k) (8 + k)))) (upd (itN s_t3 (v.1 3) k) k ((itN s_t3 (v.1 3) k) (5 + k)))) (fun H locs hP hD hS => ?_)
            have hP : PP G [bX7 a G (setA (setA (setA (setA (setA (setA (setA (setA (setA (setA (setA (setA (setA (setI (setI v 11 (v.2 11)) 12 (v.2 12)) 4 (upd (v.1 4) 0 (v.1 4 1))) 7 (upd (v.1 7) 0 (v.1 7 1))) 9 (itN s_t9 (v.1 9) k)) 5 (itN s_t5 (v.1 5) k)) 8 (itN s_t8 (v.1 8) k)) 6 (itN s_t6 (v.1 6) k)) 3 (itN s_t3 (v.1 3) k)) 10 (v.1 10)) 9 (upd (itN s_t9 (v.1 9) k) k ((itN s_t9 (v.1 9) k) (32 + k)))) 5 (upd (itN s_t5 (v.1 5) k) k ((itN s_t5 (v.1 5) k) (24 + k)))) 8 (upd (itN s_t8 (v.1 8) k) k ((itN s_t8 (v.1 8) k) (12 + k)))) 6 (upd (itN s_t6 (v.1 6) k) k ((itN s_t6 (v.1 6) k) (8 + k)))) 3 (upd (itN s_t3 (v.1 3) k) k ((itN s_t3 (v.1 3) k) (5 + k))))] H := hP
            have hD : DD (AA (List.flatten [bX7 a G v])) [bX7 a G (setA (setA (setA (setA (setA (setA (setA (setA (setA (setA (setA (setA (setA (setI (setI v 11 (v.2 11)) 12 (v.2 12)) 4 (upd (v.1 4) 0 (v.1 4 1))) 7 (upd (v.1 7) 0 (v.1 7 1))) 9 (itN s_t9 (v.1 9) k)) 5 (itN s_t5 (v.1 5) k)) 8 (itN s_t8 (v.1 8) k)) 6 (itN s_t6 (v.1 6) k)) 3 (itN s_t3 (v.1 3) k)) 10 (v.1 10)) 9 (upd (itN s_t9 (v.1 9) k) k ((itN s_t9 (v.1 9) k) (32 + k)))) 5 (upd (itN s_t5 (v.1 5) k) k ((itN s_t5 (v.1 5) k) (24 + k)))) 8 (upd (itN s_t8 (v.1 8) k) k ((itN s_t8 (v.1 8) k) (12 + k)))) 6 (upd (itN s_t6 (v.1 6) k) k ((itN s_t6 (v.1 6) k) (8 + k)))) 3 (upd (itN s_t3 (v.1 3) k) k ((itN s_t3 (v.1 3) k) (5 + k))))] := D_re hD (adc (bX7_ad _ _ _ _) adn)
            refine lv_iinc (v := nI (k + 1)) (lv' := [(1, .int (nI (k + 1))), (0, .ref (a 0))]) hx hb dX7_takes_129 hl (k := 0) rfl (nI_1 _) (by decide) rfl (fun ls hl => ?_)
            refine lv_goto (tgt := 26) hx hb dX7_takes_132 (by decide) ?_
            have hP : PP G [bX7 a G (setA (setA (setA (setA (setA (setA (setA (setA (setI (setI v 11 (v.2 11)) 12 (v.2 12)) 4 (upd (v.1 4) 0 (v.1 4 1))) 7 (upd (v.1 7) 0 (v.1 7 1))) 9 (itN s_t9 (v.1 9) (k + 1))) 5 (itN s_t5 (v.1 5) (k + 1))) 8 (itN s_t8 (v.1 8) (k + 1))) 6 (itN s_t6 (v.1 6) (k + 1))) 3 (itN s_t3 (v.1 3) (k + 1))) 10 (v.1 10))] H := by
              have e5 : itN s_t5 (v.1 5) (k + 1) = upd (itN s_t5 (v.1 5) k) k ((itN s_t5 (v.1 5) k) (24 + k)) := by rw [itN_s]; simp only [s_t5, if_neg c_29, if_neg c_50, if_neg c_71, if_neg c_92, if_neg c_112]
              rw [e5]
              have e8 : itN s_t8 (v.1 8) (k + 1) = upd (itN s_t8 (v.1 8) k) k ((itN s_t8 (v.1 8) k) (12 + k)) := by rw [itN_s]; simp only [s_t8, if_neg c_29, if_neg c_50, if_neg c_71, if_neg c_92, if_neg c_112]
              rw [e8]
              have e6 : itN s_t6 (v.1 6) (k + 1) = upd (itN s_t6 (v.1 6) k) k ((itN s_t6 (v.1 6) k) (8 + k)) := by rw [itN_s]; simp only [s_t6, if_neg c_29, if_neg c_50, if_neg c_71, if_neg c_92, if_neg c_112]
              rw [e6]
              have e3 : itN s_t3 (v.1 3) (k + 1) = upd (itN s_t3 (v.1 3) k) k ((itN s_t3 (v.1 3) k) (5 + k)) := by rw [itN_s]; simp only [s_t3, if_neg c_29, if_neg c_50, if_neg c_71, if_neg c_92, if_neg c_112]
              rw [e3]
              try simp only [ov_n1, ov_m1, ov_nc, ov_mc, ov_c] at hP ⊢
              exact hP
            have hD : DD (AA (List.flatten [bX7 a G v])) [bX7 a G (setA (setA (setA (setA (setA (setA (setA (setA (setI (setI v 11 (v.2 11)) 12 (v.2 12)) 4 (upd (v.1 4) 0 (v.1 4 1))) 7 (upd (v.1 7) 0 (v.1 7 1))) 9 (itN s_t9 (v.1 9) (k + 1))) 5 (itN s_t5 (v.1 5) (k + 1))) 8 (itN s_t8 (v.1 8) (k + 1))) 6 (itN s_t6 (v.1 6) (k + 1))) 3 (itN s_t3 (v.1 3) (k + 1))) 10 (v.1 10))] := D_re hD (adc (bX7_ad _ _ _ _) adn)
            exact ih_26  _ _ _ hP hD hS (show lv_has ls 2 [(1, .int (nI (k + 1))), (0, .ref (a 0))] from lv_sub hl [0, 1] rfl) 
