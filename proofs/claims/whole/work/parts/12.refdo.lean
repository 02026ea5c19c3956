/-! the reference: what its methods do to the slots, ways, nights -/
theorem ov_n1 (v : OV) (t : Nat) (f g : Nat → Int32) : setA (setA v t f) t g = setA v t g := by
  refine Prod.ext (funext fun u => ?_) rfl
  simp only [setA]
  split <;> rfl
theorem ov_m1 (v : OV) (t : Nat) (x y : Int32) : setI (setI v t x) t y = setI v t y := by
  refine Prod.ext rfl (funext fun u => ?_)
  simp only [setI]
  split <;> rfl
theorem ov_nc {t t' : Nat} (h : t' < t) (v : OV) (f g : Nat → Int32) : setA (setA v t f) t' g = setA (setA v t' g) t f := by
  refine Prod.ext (funext fun u => ?_) rfl
  simp only [setA]
  by_cases h1 : u = t <;> by_cases h2 : u = t' <;> simp [h1, h2] <;> omega
theorem ov_mc {t t' : Nat} (h : t' < t) (v : OV) (x y : Int32) : setI (setI v t x) t' y = setI (setI v t' y) t x := by
  refine Prod.ext rfl (funext fun u => ?_)
  simp only [setI]
  by_cases h1 : u = t <;> by_cases h2 : u = t' <;> simp [h1, h2] <;> omega
theorem ov_c (v : OV) (t u : Nat) (f : Nat → Int32) (x : Int32) : setI (setA v t f) u x = setA (setI v u x) t f := rfl
def s_copy (x y k : Nat) (F : Nat → Int32) : Nat → Int32 := upd F (46 * y + k) (F (46 * x + k))
def g_copies (S : Nat → Int32) (x y : Nat) : Nat → Int32 := itN (s_copy x y) S 46
def s_shift (k : Nat) (F : Nat → Int32) : Nat → Int32 := g_copies F (k + 3 + 1) (k + 3)
def g_knownS (S : Nat → Int32) (x : Int32) : Nat → Int32 := if x = 8 then g_copies (itN s_shift S 7) 0 (3 + 7) else g_copies S 0 (3 + x.toNatClampNeg)
def g_knownD (x : Int32) : Int32 := if x = 8 then x - 1 + 1 else x + 1
def g_goesS (T E R S : Nat → Int32) (s i d : Nat) (z : Int32) : Nat → Int32 :=
  upd (upd (upd S (46 * s + 4 * d + i) (g_becomes T E i (S (46 * s + 4 * d + i)) z)) (46 * s + 40 + i) (g_over R d ((upd S (46 * s + 4 * d + i) (g_becomes T E i (S (46 * s + 4 * d + i)) z)) (46 * s + 40 + i)))) (46 * s + 44)
    ((upd (upd S (46 * s + 4 * d + i) (g_becomes T E i (S (46 * s + 4 * d + i)) z)) (46 * s + 40 + i) (g_over R d ((upd S (46 * s + 4 * d + i) (g_becomes T E i (S (46 * s + 4 * d + i)) z)) (46 * s + 40 + i)))) (46 * s + 44) + g_costs S s d i)
def s_was (S : Nat → Int32) (s k : Nat) (F : Nat → Int32) : Nat → Int32 := upd F k (S (46 * s + k))
def g_was (S F : Nat → Int32) (s : Nat) : Nat → Int32 := itN (s_was S s) F 32
abbrev rX (R : Nat → Int32) (d : Nat) : Nat := (R (3 * d + 2)).toNatClampNeg
def s_part (V T R : Nat → Int32) (s d i : Nat) (F : Nat → Int32) : Nat → Int32 :=
  upd (upd F (46 * s + 4 * d + i) (F (46 * s + 4 * d + i) - V (4 * d + i) * T 1 / 10)) (46 * s + 4 * rX R d + i) ((upd F (46 * s + 4 * d + i) (F (46 * s + 4 * d + i) - V (4 * d + i) * T 1 / 10)) (46 * s + 4 * rX R d + i) + V (4 * d + i) * T 1 / 10)
def s_flow (V T R L : Nat → Int32) (s d : Nat) (F : Nat → Int32) : Nat → Int32 :=
  if nI (rX R d) = nI d then F else if F (46 * s + 32 + d) = 0 then (if F (46 * s + 32 + rX R d) = 0 then itN (s_part V T R s d) F (L 0).toNatClampNeg else F) else F
def s_wane (T U : Nat → Int32) (s d i : Nat) (F : Nat → Int32) : Nat → Int32 :=
  if 0 ≤ F (46 * s + 4 * d + i) - T 2 then
    (if F (46 * s + 4 * d + i) - T 2 + U d ≤ 99 then upd F (46 * s + 4 * d + i) (F (46 * s + 4 * d + i) - T 2 + U d) else upd F (46 * s + 4 * d + i) 99)
  else (if 0 + U d ≤ 99 then upd F (46 * s + 4 * d + i) (0 + U d) else upd F (46 * s + 4 * d + i) 99)
def s_waneD (T U L : Nat → Int32) (s d : Nat) (F : Nat → Int32) : Nat → Int32 :=
  if (itN (s_wane T U s d) F (L 0).toNatClampNeg) (46 * s + 32 + d) ≤ 0 then upd (itN (s_wane T U s d) F (L 0).toNatClampNeg) (46 * s + 32 + d) ((itN (s_wane T U s d) F (L 0).toNatClampNeg) (46 * s + 32 + d) - 0)
  else upd (itN (s_wane T U s d) F (L 0).toNatClampNeg) (46 * s + 32 + d) ((itN (s_wane T U s d) F (L 0).toNatClampNeg) (46 * s + 32 + d) - 1)
def g_flow (V T R L D S : Nat → Int32) (s : Nat) : Nat → Int32 := itN (s_flow V T R L s) S (D 0).toNatClampNeg
def g_wane (T U L D S : Nat → Int32) (s : Nat) : Nat → Int32 := itN (s_waneD T U L s) S (D 0).toNatClampNeg
def g_nights (T R L D U S V : Nat → Int32) (s : Nat) : Nat → Int32 :=
  upd (g_wane T U L D (g_flow (g_was S V s) T R L D S s) s) (46 * s + 45) ((g_wane T U L D (g_flow (g_was S V s) T R L D S s) s) (46 * s + 45) + 1)
def s_far0 (t : Int32) (k : Nat) (F : Nat → Int32) : Nat → Int32 := if nI k = t then upd F k 0 else upd F k 100000
abbrev rA (R : Nat → Int32) (d : Nat) : Nat := (R (3 * d)).toNatClampNeg
abbrev rB (R : Nat → Int32) (d : Nat) : Nat := (R (3 * d + 1)).toNatClampNeg
abbrev relB (x y : Nat) (c : Int32) (F : Nat → Int32) : Nat → Int32 := if F y ≤ F x + c then upd F y (F y) else upd F y (F x + c)
abbrev relA (x y : Nat) (c : Int32) (F : Nat → Int32) : Nat → Int32 := if F x ≤ F y + c then relB x y c (upd F x (F x)) else relB x y c (upd F x (F y + c))
def s_rel (R S : Nat → Int32) (s i : Nat) (o : Int32) (d : Nat) (F : Nat → Int32) : Nat → Int32 :=
  if (o >>> (nI d &&& 31)) &&& 1 = 1 then relA (rA R d) (rB R d) 1 F else relA (rA R d) (rB R d) (g_costs S s d i) F
def s_turn (R S D : Nat → Int32) (s i : Nat) (o : Int32) (_ : Nat) (F : Nat → Int32) : Nat → Int32 := itN (s_rel R S s i o) F (D 0).toNatClampNeg
def g_ways (R S D F : Nat → Int32) (s i : Nat) (t o : Int32) : Nat → Int32 := itN (s_turn R S D s i o) (itN (s_far0 t) F 6) 6
def g_wayOf (R S D F : Nat → Int32) (s i x : Nat) (t : Int32) : Int32 := if 100000 ≤ (g_ways R S D F s i t 0) x then -4 else (g_ways R S D F s i t 0) x
def p_first (R S D F : Nat → Int32) (s i x : Nat) (t : Int32) (d : Nat) : Bool :=
  if g_isOf R d (nI x) = true then (if g_costs S s d i + (g_ways R S D F s i t 0) (g_over R d (nI x)).toNatClampNeg = g_wayOf R S D F s i x t then true else false) else false
def g_firstOf (R S D F : Nat → Int32) (s i x : Nat) (t : Int32) : Int32 := if g_wayOf R S D F s i x t ≤ 0 then -4 else optI (fnd (p_first R S D F s i x t) (D 0).toNatClampNeg)
def s_oil (o : Int32) (d : Nat) (F : Nat → Int32) : Nat → Int32 := if (o >>> (nI d &&& 31)) &&& 1 = 1 then upd F (538 + d) 100 else upd F (538 + d) (F (538 + d))
def s_nt (T R L D U : Nat → Int32) (s : Nat) (_ : Nat) (q : (Nat → Int32) × (Nat → Int32)) : (Nat → Int32) × (Nat → Int32) := (g_nights T R L D U q.1 q.2 s, g_was q.1 q.2 s)
def g_behinds (T R L D U S V : Nat → Int32) (n o : Int32) : (Nat → Int32) × (Nat → Int32) := itN (s_nt T R L D U 11) (itN (s_oil o) (g_copies S 0 11) (D 0).toNatClampNeg, V) n.toNatClampNeg
theorem over_vp {R : Nat → Int32} {d : Nat} {r : Int32} {n : Nat} (h : vp_in (R (3 * d)) n ∧ vp_in (R (3 * d + 1)) n) : vp_in (g_over R d r) n := by
  unfold g_over
  split
  · exact h.2
  · exact h.1
theorem ov_id (v : OV) (t : Nat) : setA v t (v.1 t) = v := by
  refine Prod.ext (funext fun u => ?_) rfl
  simp only [setA]
  split
  · rename_i h; rw [h]
  · rfl

def rm_X7_copies : Room := { frames := 0, cells := 0, slots := 0, locals := 0 }
theorem hd_X7_copies : yX7_copies.cls = RX7 ∧ yX7_copies.cls ≠ "java/lang/invoke/MethodHandle" ∧ yX7_copies.cls ≠ "java/lang/invoke/VarHandle" ∧ (parseMethodDescriptor yX7_copies.desc).map (fun d => d.parameters.length) = some 2 := by decide +kernel
set_option maxRecDepth 100000 in
set_option maxHeartbeats 4000000 in
theorem c_X7_copies (l : Launch) (G : GD) (a : Nat → Nat) (v : OV) (x : Nat) (y : Nat) (hx0 : x < 12) (hy0 : y < 12) : MetS l yX7_copies wsX7_copies rm_X7_copies G [bX7 a G v] [.ref (a 0), .int (nI x), .int (nI y)] (fun r bc => r = none ∧ bc = [bX7 a G (setA v 10 (g_copies ((v.1 10)) x y))]) := by
  refine kb_beginS (cc := cX7_copies) (maxL := 4) (ret := none) (by decide) rfl (Nat.le_of_ble_eq_true rfl) ?_
  intro p e s m below meth c hx hb hr hml hown hts hlocks hX H locs hP hD hS ls hl
  have hown : s.vm.findClass RX7 = some m.cls := hown
  have hl : lv_has ls 4 [(0, .ref (a 0)), (1, .int (nI x)), (2, .int (nI y))] := hl
  have hin7 : ∀ w ∈ u_ws RX7 TX7 19, w ∈ wsX7_copies := (fun _ h => List.mem_cons_of_mem _ (List.mem_append_right _ (h)))
  refine lv_iconst (v := 0) hx hb dX7_copies_0 (by decide) ?_
  refine lv_istore_n (lv' := [(3, .int 0), (0, .ref (a 0)), (1, .int (nI x)), (2, .int (nI y))]) hx hb dX7_copies_1 rfl hl (by decide) rfl (fun ls hl => ?_)
  have eOV0 : (setA v 10 (itN (s_copy x y) (v.1 10) 0)) = v := by
    refine Prod.ext (funext fun u => ?_) (funext fun u => ?_)
    · by_cases h10 : u = 10
      · subst h10; rfl
      · skip
        simp only [setA, setI, if_neg h10]
    · rfl
  have hP : PP G [bX7 a G (setA v 10 (itN (s_copy x y) (v.1 10) 0))] H := by rw [eOV0]; exact hP
  have hD : DD (AA (List.flatten [bX7 a G v])) [bX7 a G (setA v 10 (itN (s_copy x y) (v.1 10) 0))] := D_re hD (adc (bX7_ad _ _ _ _) adn)
  refine lp_up (N := 46) (P := fun k => ∀ (H : Heap) (locs : List Loc) (ls : Array Slot), PP G [bX7 a G (setA v 10 (itN (s_copy x y) (v.1 10) k))] H → DD (AA (List.flatten [bX7 a G v])) [bX7 a G (setA v 10 (itN (s_copy x y) (v.1 10) k))] → va_S (AA (List.flatten [bX7 a G v])) s.heap H locs → lv_has ls 4 [(3, .int (nI k)), (0, .ref (a 0)), (1, .int (nI x)), (2, .int (nI y))] →  W p l e (headSpec wsX7_copies rm_X7_copies).room s m ([.ref (a 0), .int (nI x), .int (nI y)] : List Value).toArray below meth c H locs 0 0 (MQ below (kQs G [bX7 a G v] (fun r bc => r = none ∧ bc = [bX7 a G (setA v 10 (g_copies ((v.1 10)) x y))])) ([.ref (a 0), .int (nI x), .int (nI y)] : List Value).toArray s 0 0 (AA (List.flatten [bX7 a G v]))) (F0 m 2 ls [])) ?_ ?_ 0 (Nat.zero_le _)  _ _ _ hP hD hS (lv_sub hl [0, 1, 2, 3] rfl) 
  · skip
    intro H locs ls hP hD hS hl 
    refine lv_iload_n hx hb dX7_copies_2 rfl (lv_at hl 0 rfl) ?_
    refine lv_bipush (v := 46) hx hb dX7_copies_3 (by decide) ?_
    refine lv_icmp_ge (tgt := 36) hx hb dX7_copies_5 (by decide) (fun c_5 => ?_) (fun c_5 => absurd ((by decide : (46 : Int32) ≤ nI 46)) c_5)
    have hP : PP G [bX7 a G (setA v 10 (g_copies ((v.1 10)) x y))] H := by
      try simp only [ov_n1, ov_m1, ov_nc, ov_mc, ov_c] at hP ⊢
      exact hP
    exact kr_sv hx hb hr hlocks dX7_copies_36 hP hS (sameAd_cons (bX7_ad _ _ _ _) sameAd_nil) ⟨rfl, rfl⟩
  · skip
    intro k hk_k ih_2 H locs ls hP hD hS hl 
    refine lv_iload_n hx hb dX7_copies_2 rfl (lv_at hl 0 rfl) ?_
    refine lv_bipush (v := 46) hx hb dX7_copies_3 (by decide) ?_
    refine lv_icmp_ge (tgt := 36) hx hb dX7_copies_5 (by decide) (fun c_5 => absurd c_5 (nI_ge (b := 46) hk_k (by decide))) (fun c_5 => ?_)
    refine lv_aload_n hx hb dX7_copies_8 rfl (lv_at hl 1 rfl) ?_
    refine kb_get (own := RX7) (C := RX7) (T := TX7) (N := 19) (v := .ref (a 9)) hx hb hts hin7 hown hX hP 0 rfl rfl rfl 10 (by decide) rfl (by decide +kernel) rfl dX7_copies_9 ?_
    refine lv_bipush (v := 46) hx hb dX7_copies_12 (by decide) ?_
    refine lv_iload_n hx hb dX7_copies_14 rfl (lv_at hl 3 rfl) ?_
    refine lv_imul hx hb dX7_copies_15 ?_
    refine lv_iload_n hx hb dX7_copies_16 rfl (lv_at hl 0 rfl) ?_
    refine lv_iadd hx hb dX7_copies_17 ?_
    refine lv_aload_n hx hb dX7_copies_18 rfl (lv_at hl 1 rfl) ?_
    refine kb_get (own := RX7) (C := RX7) (T := TX7) (N := 19) (v := .ref (a 9)) hx hb hts hin7 hown hX hP 0 rfl rfl rfl 10 (by decide) rfl (by decide +kernel) rfl dX7_copies_19 ?_
    refine lv_bipush (v := 46) hx hb dX7_copies_22 (by decide) ?_
    refine lv_iload_n hx hb dX7_copies_24 rfl (lv_at hl 2 rfl) ?_
    refine lv_imul hx hb dX7_copies_25 ?_
    refine lv_iload_n hx hb dX7_copies_26 rfl (lv_at hl 0 rfl) ?_
    refine lv_iadd hx hb dX7_copies_27 ?_
    refine kb_ialdN (jn := (46 * x) + k) (n := 552) (f := itN (s_copy x y) (v.1 10) k) hx hb hX hP 0 9 rfl rfl (by simp only [nI_addE, nI_mulE] <;> rfl) (by omega) (by decide) dX7_copies_28 ?_
    refine kb_iastN (jn := (46 * y) + k) (n := 552) (f := itN (s_copy x y) (v.1 10) k) hx hb hX hP hD hS 0 9 rfl rfl (by simp only [nI_addE, nI_mulE] <;> rfl) (by omega) (by decide) dX7_copies_29 (bX7_A10 a G (setA v 10 (itN (s_copy x y) (v.1 10) k)) (upd (itN (s_copy x y) (v.1 10) k) ((46 * y) + k) ((itN (s_copy x y) (v.1 10) k) ((46 * x) + k)))) (fun H locs hP hD hS => ?_)
    have hP : PP G [bX7 a G (setA (setA v 10 (itN (s_copy x y) (v.1 10) k)) 10 (upd (itN (s_copy x y) (v.1 10) k) ((46 * y) + k) ((itN (s_copy x y) (v.1 10) k) ((46 * x) + k))))] H := hP
    have hD : DD (AA (List.flatten [bX7 a G v])) [bX7 a G (setA (setA v 10 (itN (s_copy x y) (v.1 10) k)) 10 (upd (itN (s_copy x y) (v.1 10) k) ((46 * y) + k) ((itN (s_copy x y) (v.1 10) k) ((46 * x) + k))))] := D_re hD (adc (bX7_ad _ _ _ _) adn)
    refine lv_iinc (v := nI (k + 1)) (lv' := [(3, .int (nI (k + 1))), (0, .ref (a 0)), (1, .int (nI x)), (2, .int (nI y))]) hx hb dX7_copies_30 hl (k := 0) rfl (nI_1 _) (by decide) rfl (fun ls hl => ?_)
    refine lv_goto (tgt := 2) hx hb dX7_copies_33 (by decide) ?_
    have hP : PP G [bX7 a G (setA v 10 (itN (s_copy x y) (v.1 10) (k + 1)))] H := by
      try simp only [ov_n1, ov_m1, ov_nc, ov_mc, ov_c] at hP ⊢
      exact hP
    have hD : DD (AA (List.flatten [bX7 a G v])) [bX7 a G (setA v 10 (itN (s_copy x y) (v.1 10) (k + 1)))] := D_re hD (adc (bX7_ad _ _ _ _) adn)
    exact ih_2  _ _ _ hP hD hS (show lv_has ls 4 [(3, .int (nI (k + 1))), (0, .ref (a 0)), (1, .int (nI x)), (2, .int (nI y))] from lv_sub hl [0, 1, 2, 3] rfl) 

def rm_X7_known : Room := { frames := 1, cells := 0, slots := 0, locals := 23 }
theorem hd_X7_known : yX7_known.cls = RX7 ∧ yX7_known.cls ≠ "java/lang/invoke/MethodHandle" ∧ yX7_known.cls ≠ "java/lang/invoke/VarHandle" ∧ (parseMethodDescriptor yX7_known.desc).map (fun d => d.parameters.length) = some 0 := by decide +kernel
set_option maxRecDepth 100000 in
set_option maxHeartbeats 4000000 in
theorem c_X7_known (l : Launch) (G : GD) (a : Nat → Nat) (v : OV) (hdn : ¬ v.2 12 < 0) (hd8 : (v.2 12).toNatClampNeg ≤ 8) : MetS l yX7_known wsX7_known rm_X7_known G [bX7 a G v] [.ref (a 0)] (fun r bc => r = none ∧ bc = [bX7 a G (setI (setA v 10 (g_knownS ((v.1 10)) ((v.2 12)))) 12 (g_knownD ((v.2 12))))]) := by
  refine kb_beginS (cc := cX7_known) (maxL := 2) (ret := none) (by decide) rfl (Nat.le_of_ble_eq_true rfl) ?_
  intro p e s m below meth c hx hb hr hml hown hts hlocks hX H locs hP hD hS ls hl
  have hown : s.vm.findClass RX7 = some m.cls := hown
  have hl : lv_has ls 2 [(0, .ref (a 0))] := hl
  have hin7 : ∀ w ∈ u_ws RX7 TX7 19, w ∈ wsX7_known := (fun _ h => List.mem_cons_of_mem _ (List.mem_append_right _ (h)))
  refine lv_aload_n hx hb dX7_known_0 rfl (lv_at hl 0 rfl) ?_
  refine kb_get (own := RX7) (C := RX7) (T := TX7) (N := 19) (v := .int (v.2 12)) hx hb hts hin7 hown hX hP 0 rfl rfl rfl 12 (by decide) rfl (by decide +kernel) rfl dX7_known_1 ?_
  refine lv_bipush (v := 8) hx hb dX7_known_4 (by decide) ?_
  refine lv_icmp_ne (tgt := 41) hx hb dX7_known_6 (by decide) (fun c_6 => ?_) (fun c_6 => ?_)
  · refine lv_aload_n hx hb dX7_known_41 rfl (lv_at hl 0 rfl) ?_
    refine lv_iconst (v := 0) hx hb dX7_known_42 (by decide) ?_
    refine lv_iconst (v := 3) hx hb dX7_known_43 (by decide) ?_
    refine lv_aload_n hx hb dX7_known_44 rfl (lv_at hl 0 rfl) ?_
    refine kb_get (own := RX7) (C := RX7) (T := TX7) (N := 19) (v := .int (v.2 12)) hx hb hts hin7 hown hX hP 0 rfl rfl rfl 12 (by decide) rfl (by decide +kernel) rfl dX7_known_45 ?_
    refine lv_iadd hx hb dX7_known_48 ?_
    refine kb_rw (y := nI (3 + (v.2 12).toNatClampNeg)) (by rw [nI_addE, nI_cl hdn]; rfl) ?_
    refine kcV_s hx hb hml hown hts hX hP hD hS (c_X7_copies l G a v 0 (3 + (v.2 12).toNatClampNeg) (by omega) (by omega)) gX7_known_X7_copies 2 rfl rfl rfl hd_X7_copies ⟨Nat.le_of_ble_eq_true rfl, Nat.le_of_ble_eq_true rfl⟩ [0] (by decide) rfl 0 rfl rfl rfl hl.1 rfl rfl (Nat.le_of_ble_eq_true rfl) dX7_known_49 ⟨Nat.zero_le _, Nat.zero_le _⟩ (fun r_ bc_ hq_1 H locs hP hD hS => ?_)
    obtain ⟨rfl, rfl⟩ := hq_1
    have hP : PP G [bX7 a G (setA v 10 (g_copies ((v.1 10)) 0 (3 + (v.2 12).toNatClampNeg)))] H := hP
    have hD : DD (AA (List.flatten [bX7 a G v])) [bX7 a G (setA v 10 (g_copies ((v.1 10)) 0 (3 + (v.2 12).toNatClampNeg)))] := D_re hD (adc (bX7_ad _ _ _ _) adn)
    refine lv_aload_n hx hb dX7_known_52 rfl (lv_at hl 0 rfl) ?_
    refine lv_dup hx hb dX7_known_53 rfl ?_
    refine kb_get (own := RX7) (C := RX7) (T := TX7) (N := 19) (v := .int (v.2 12)) hx hb hts hin7 hown hX hP 0 rfl rfl rfl 12 (by decide) rfl (by decide +kernel) rfl dX7_known_54 ?_
    refine lv_iconst (v := 1) hx hb dX7_known_57 (by decide) ?_
    refine lv_iadd hx hb dX7_known_58 ?_
    refine kb_put (own := RX7) (C := RX7) (T := TX7) (N := 19) hx hb hts hin7 tyX7 tyX7_ok nmX7 (ty := .int) hown hX hP hD hS 0 rfl rfl rfl 12 (by decide) rfl (by decide +kernel) (by decide +kernel) rfl rfl (Nat.le_of_ble_eq_true rfl) dX7_known_59 (bX7_I12 a G (setA v 10 (g_copies ((v.1 10)) 0 (3 + (v.2 12).toNatClampNeg))) ((v.2 12) + 1)) (fun H locs hP hD hS => ?_)
    have hP : PP G [bX7 a G (setI (setA v 10 (g_copies ((v.1 10)) 0 (3 + (v.2 12).toNatClampNeg))) 12 ((v.2 12) + 1))] H := hP
    have hD : DD (AA (List.flatten [bX7 a G v])) [bX7 a G (setI (setA v 10 (g_copies ((v.1 10)) 0 (3 + (v.2 12).toNatClampNeg))) 12 ((v.2 12) + 1))] := D_re hD (adc (bX7_ad _ _ _ _) adn)
    have hP : PP G [bX7 a G (setI (setA v 10 (g_knownS ((v.1 10)) ((v.2 12)))) 12 (g_knownD ((v.2 12))))] H := by
      simp only [g_knownS, g_knownD, if_neg c_6]
      try simp only [ov_n1, ov_m1, ov_nc, ov_mc, ov_c] at hP ⊢
      exact hP
    exact kr_sv hx hb hr hlocks dX7_known_62 hP hS (sameAd_cons (bX7_ad _ _ _ _) sameAd_nil) ⟨rfl, rfl⟩
  · refine lv_iconst (v := 3) hx hb dX7_known_9 (by decide) ?_
    refine lv_istore_n (lv' := [(1, .int 3), (0, .ref (a 0))]) hx hb dX7_known_10 rfl hl (by decide) rfl (fun ls hl => ?_)
    have eOV0 : (setA v 10 (itN s_shift (v.1 10) 0)) = v := by
      refine Prod.ext (funext fun u => ?_) (funext fun u => ?_)
      · by_cases h10 : u = 10
        · subst h10; rfl
        · skip
          simp only [setA, setI, if_neg h10]
      · rfl
    have hP : PP G [bX7 a G (setA v 10 (itN s_shift (v.1 10) 0))] H := by rw [eOV0]; exact hP
    have hD : DD (AA (List.flatten [bX7 a G v])) [bX7 a G (setA v 10 (itN s_shift (v.1 10) 0))] := D_re hD (adc (bX7_ad _ _ _ _) adn)
    refine lp_up (N := 7) (P := fun k => ∀ (H : Heap) (locs : List Loc) (ls : Array Slot), PP G [bX7 a G (setA v 10 (itN s_shift (v.1 10) k))] H → DD (AA (List.flatten [bX7 a G v])) [bX7 a G (setA v 10 (itN s_shift (v.1 10) k))] → va_S (AA (List.flatten [bX7 a G v])) s.heap H locs → lv_has ls 2 [(1, .int (nI (k + 3))), (0, .ref (a 0))] →  W p l e (headSpec wsX7_known rm_X7_known).room s m ([.ref (a 0)] : List Value).toArray below meth c H locs 0 0 (MQ below (kQs G [bX7 a G v] (fun r bc => r = none ∧ bc = [bX7 a G (setI (setA v 10 (g_knownS ((v.1 10)) ((v.2 12)))) 12 (g_knownD ((v.2 12))))])) ([.ref (a 0)] : List Value).toArray s 0 0 (AA (List.flatten [bX7 a G v]))) (F0 m 11 ls [])) ?_ ?_ 0 (Nat.zero_le _)  _ _ _ hP hD hS (lv_sub hl [0, 1] rfl) 
    · skip
      intro H locs ls hP hD hS hl 
      refine lv_iload_n hx hb dX7_known_11 rfl (lv_at hl 0 rfl) ?_
      refine lv_bipush (v := 10) hx hb dX7_known_12 (by decide) ?_
      refine lv_icmp_ge (tgt := 31) hx hb dX7_known_14 (by decide) (fun c_14 => ?_) (fun c_14 => absurd ((by decide : (10 : Int32) ≤ nI (7 + 3))) c_14)
      refine lv_aload_n hx hb dX7_known_31 rfl (lv_at hl 1 rfl) ?_
      refine lv_dup hx hb dX7_known_32 rfl ?_
      refine kb_get (own := RX7) (C := RX7) (T := TX7) (N := 19) (v := .int (v.2 12)) hx hb hts hin7 hown hX hP 0 rfl rfl rfl 12 (by decide) rfl (by decide +kernel) rfl dX7_known_33 ?_
      refine lv_iconst (v := 1) hx hb dX7_known_36 (by decide) ?_
      refine lv_isub hx hb dX7_known_37 ?_
      refine kb_put (own := RX7) (C := RX7) (T := TX7) (N := 19) hx hb hts hin7 tyX7 tyX7_ok nmX7 (ty := .int) hown hX hP hD hS 0 rfl rfl rfl 12 (by decide) rfl (by decide +kernel) (by decide +kernel) rfl rfl (Nat.le_of_ble_eq_true rfl) dX7_known_38 (bX7_I12 a G (setA v 10 (itN s_shift (v.1 10) 7)) ((v.2 12) - 1)) (fun H locs hP hD hS => ?_)
      have hP : PP G [bX7 a G (setI (setA v 10 (itN s_shift (v.1 10) 7)) 12 ((v.2 12) - 1))] H := hP
      have hD : DD (AA (List.flatten [bX7 a G v])) [bX7 a G (setI (setA v 10 (itN s_shift (v.1 10) 7)) 12 ((v.2 12) - 1))] := D_re hD (adc (bX7_ad _ _ _ _) adn)
      refine lv_aload_n hx hb dX7_known_41 rfl (lv_at hl 1 rfl) ?_
      refine lv_iconst (v := 0) hx hb dX7_known_42 (by decide) ?_
      refine lv_iconst (v := 3) hx hb dX7_known_43 (by decide) ?_
      refine lv_aload_n hx hb dX7_known_44 rfl (lv_at hl 1 rfl) ?_
      refine kb_get (own := RX7) (C := RX7) (T := TX7) (N := 19) (v := .int ((v.2 12) - 1)) hx hb hts hin7 hown hX hP 0 rfl rfl rfl 12 (by decide) rfl (by decide +kernel) rfl dX7_known_45 ?_
      refine lv_iadd hx hb dX7_known_48 ?_
      refine kb_rw (y := nI (3 + 7)) (by rw [c_6]; rfl) ?_
      refine kcV_s hx hb hml hown hts hX hP hD hS (c_X7_copies l G a (setI (setA v 10 (itN s_shift (v.1 10) 7)) 12 ((v.2 12) - 1)) 0 (3 + 7) (by omega) (by omega)) gX7_known_X7_copies 2 rfl rfl rfl hd_X7_copies ⟨Nat.le_of_ble_eq_true rfl, Nat.le_of_ble_eq_true rfl⟩ [0] (by decide) rfl 0 rfl rfl rfl hl.1 rfl rfl (Nat.le_of_ble_eq_true rfl) dX7_known_49 ⟨Nat.zero_le _, Nat.zero_le _⟩ (fun r_ bc_ hq_2 H locs hP hD hS => ?_)
      obtain ⟨rfl, rfl⟩ := hq_2
      have hP : PP G [bX7 a G (setA (setI (setA v 10 (itN s_shift (v.1 10) 7)) 12 ((v.2 12) - 1)) 10 (g_copies ((itN s_shift (v.1 10) 7)) 0 (3 + 7)))] H := hP
      have hD : DD (AA (List.flatten [bX7 a G v])) [bX7 a G (setA (setI (setA v 10 (itN s_shift (v.1 10) 7)) 12 ((v.2 12) - 1)) 10 (g_copies ((itN s_shift (v.1 10) 7)) 0 (3 + 7)))] := D_re hD (adc (bX7_ad _ _ _ _) adn)
      refine lv_aload_n hx hb dX7_known_52 rfl (lv_at hl 1 rfl) ?_
      refine lv_dup hx hb dX7_known_53 rfl ?_
      refine kb_get (own := RX7) (C := RX7) (T := TX7) (N := 19) (v := .int ((v.2 12) - 1)) hx hb hts hin7 hown hX hP 0 rfl rfl rfl 12 (by decide) rfl (by decide +kernel) rfl dX7_known_54 ?_
      refine lv_iconst (v := 1) hx hb dX7_known_57 (by decide) ?_
      refine lv_iadd hx hb dX7_known_58 ?_
      refine kb_put (own := RX7) (C := RX7) (T := TX7) (N := 19) hx hb hts hin7 tyX7 tyX7_ok nmX7 (ty := .int) hown hX hP hD hS 0 rfl rfl rfl 12 (by decide) rfl (by decide +kernel) (by decide +kernel) rfl rfl (Nat.le_of_ble_eq_true rfl) dX7_known_59 (bX7_I12 a G (setA (setI (setA v 10 (itN s_shift (v.1 10) 7)) 12 ((v.2 12) - 1)) 10 (g_copies ((itN s_shift (v.1 10) 7)) 0 (3 + 7))) (((v.2 12) - 1) + 1)) (fun H locs hP hD hS => ?_)
      have hP : PP G [bX7 a G (setI (setA (setI (setA v 10 (itN s_shift (v.1 10) 7)) 12 ((v.2 12) - 1)) 10 (g_copies ((itN s_shift (v.1 10) 7)) 0 (3 + 7))) 12 (((v.2 12) - 1) + 1))] H := hP
      have hD : DD (AA (List.flatten [bX7 a G v])) [bX7 a G (setI (setA (setI (setA v 10 (itN s_shift (v.1 10) 7)) 12 ((v.2 12) - 1)) 10 (g_copies ((itN s_shift (v.1 10) 7)) 0 (3 + 7))) 12 (((v.2 12) - 1) + 1))] := D_re hD (adc (bX7_ad _ _ _ _) adn)
      have hP : PP G [bX7 a G (setI (setA v 10 (g_knownS ((v.1 10)) ((v.2 12)))) 12 (g_knownD ((v.2 12))))] H := by
        simp only [g_knownS, g_knownD, if_pos c_6, if_pos c_14]
        try simp only [ov_n1, ov_m1, ov_nc, ov_mc, ov_c] at hP ⊢
        exact hP
      exact kr_sv hx hb hr hlocks dX7_known_62 hP hS (sameAd_cons (bX7_ad _ _ _ _) sameAd_nil) ⟨rfl, rfl⟩
    · skip
      intro k hk_k ih_11 H locs ls hP hD hS hl 
      refine lv_iload_n hx hb dX7_known_11 rfl (lv_at hl 0 rfl) ?_
      refine lv_bipush (v := 10) hx hb dX7_known_12 (by decide) ?_
      refine lv_icmp_ge (tgt := 31) hx hb dX7_known_14 (by decide) (fun c_14 => absurd c_14 (nI_ge (b := 10) (show k + 3 < 10 by omega) (by decide))) (fun c_14 => ?_)
      refine lv_aload_n hx hb dX7_known_17 rfl (lv_at hl 1 rfl) ?_
      refine lv_iload_n hx hb dX7_known_18 rfl (lv_at hl 0 rfl) ?_
      refine lv_iconst (v := 1) hx hb dX7_known_19 (by decide) ?_
      refine lv_iadd hx hb dX7_known_20 ?_
      refine kb_rw (y := nI (k + 3 + 1)) (nI_1 _) ?_
      refine lv_iload_n hx hb dX7_known_21 rfl (lv_at hl 0 rfl) ?_
      refine kcV_s hx hb hml hown hts hX hP hD hS (c_X7_copies l G a (setA v 10 (itN s_shift (v.1 10) k)) (k + 3 + 1) (k + 3) (by omega) (by omega)) gX7_known_X7_copies 2 rfl rfl rfl hd_X7_copies ⟨Nat.le_of_ble_eq_true rfl, Nat.le_of_ble_eq_true rfl⟩ [0] (by decide) rfl 0 rfl rfl rfl hl.1 rfl rfl (Nat.le_of_ble_eq_true rfl) dX7_known_22 ⟨Nat.zero_le _, Nat.zero_le _⟩ (fun r_ bc_ hq_3 H locs hP hD hS => ?_)
      obtain ⟨rfl, rfl⟩ := hq_3
      have hP : PP G [bX7 a G (setA (setA v 10 (itN s_shift (v.1 10) k)) 10 (g_copies ((itN s_shift (v.1 10) k)) (k + 3 + 1) (k + 3)))] H := hP
      have hD : DD (AA (List.flatten [bX7 a G v])) [bX7 a G (setA (setA v 10 (itN s_shift (v.1 10) k)) 10 (g_copies ((itN s_shift (v.1 10) k)) (k + 3 + 1) (k + 3)))] := D_re hD (adc (bX7_ad _ _ _ _) adn)
      refine lv_iinc (v := nI ((k + 3) + 1)) (lv' := [(1, .int (nI ((k + 3) + 1))), (0, .ref (a 0))]) hx hb dX7_known_25 hl (k := 0) rfl (nI_1 _) (by decide) rfl (fun ls hl => ?_)
      refine lv_goto (tgt := 11) hx hb dX7_known_28 (by decide) ?_
      have hP : PP G [bX7 a G (setA v 10 (itN s_shift (v.1 10) (k + 1)))] H := by
        try simp only [ov_n1, ov_m1, ov_nc, ov_mc, ov_c] at hP ⊢
        exact hP
      have hD : DD (AA (List.flatten [bX7 a G v])) [bX7 a G (setA v 10 (itN s_shift (v.1 10) (k + 1)))] := D_re hD (adc (bX7_ad _ _ _ _) adn)
      exact ih_11  _ _ _ hP hD hS (by rw [show (k + 1) + 3 = k + 3 + 1 by omega]; exact lv_sub hl [0, 1] rfl) 

def rm_X7_goes : Room := { frames := 1, cells := 0, slots := 0, locals := 24 }
theorem hd_X7_goes : yX7_goes.cls = RX7 ∧ yX7_goes.cls ≠ "java/lang/invoke/MethodHandle" ∧ yX7_goes.cls ≠ "java/lang/invoke/VarHandle" ∧ (parseMethodDescriptor yX7_goes.desc).map (fun d => d.parameters.length) = some 4 := by decide +kernel
set_option maxRecDepth 100000 in
set_option maxHeartbeats 4000000 in
theorem c_X7_goes (l : Launch) (G : GD) (a : Nat → Nat) (v : OV) (s0 : Nat) (i : Nat) (d : Nat) (x1 : Int32) (hs : s0 < 12) (hi : i < 4) (hd : d < 8) : MetS l yX7_goes wsX7_goes rm_X7_goes G [bX7 a G v] [.ref (a 0), .int (nI s0), .int (nI i), .int (nI d), .int x1] (fun r bc => r = some (.int (g_costs ((v.1 10)) s0 d i)) ∧ bc = [bX7 a G (setA v 10 (g_goesS ((v.1 3)) ((v.1 8)) ((v.1 5)) ((v.1 10)) s0 i d x1))]) := by
  refine kb_beginS (cc := cX7_goes) (maxL := 7) (ret := (some .int)) (by decide) rfl (Nat.le_of_ble_eq_true rfl) ?_
  intro p e s m below meth c hx hb hr hml hown hts hlocks hX H locs hP hD hS ls hl
  have hown : s.vm.findClass RX7 = some m.cls := hown
  have hl : lv_has ls 7 [(0, .ref (a 0)), (1, .int (nI s0)), (2, .int (nI i)), (3, .int (nI d)), (4, .int x1)] := hl
  have hin7 : ∀ w ∈ u_ws RX7 TX7 19, w ∈ wsX7_goes := (fun _ h => List.mem_cons_of_mem _ (List.mem_append_right _ (h)))
  refine lv_bipush (v := 46) hx hb dX7_goes_0 (by decide) ?_
  refine lv_iload_n hx hb dX7_goes_2 rfl (lv_at hl 1 rfl) ?_
  refine lv_imul hx hb dX7_goes_3 ?_
  refine lv_istore (lv' := [(5, .int (46 * (nI s0))), (0, .ref (a 0)), (1, .int (nI s0)), (2, .int (nI i)), (3, .int (nI d)), (4, .int x1)]) hx hb dX7_goes_4 hl (by decide) rfl (fun ls hl => ?_)
  refine lv_aload_n hx hb dX7_goes_6 rfl (lv_at hl 1 rfl) ?_
  refine lv_iload_n hx hb dX7_goes_7 rfl (lv_at hl 2 rfl) ?_
  refine lv_iload_n hx hb dX7_goes_8 rfl (lv_at hl 4 rfl) ?_
  refine lv_iload_n hx hb dX7_goes_9 rfl (lv_at hl 3 rfl) ?_
  refine kcV_p hx hb hml hown hts hX hP (c_X7_costs l G a v s0 d i (by omega) (by omega) (by omega)) gX7_goes_X7_costs 3 rfl rfl rfl hd_X7_costs ⟨Nat.le_of_ble_eq_true rfl, Nat.le_of_ble_eq_true rfl⟩ [0] rfl 0 rfl rfl rfl hl.1 rfl rfl (Nat.le_of_ble_eq_true rfl) dX7_goes_10 ⟨Nat.zero_le _, Nat.zero_le _⟩ ?_
  refine kb_rw (y := g_costs ((v.1 10)) s0 d i) rfl ?_
  refine lv_istore (lv' := [(6, .int (g_costs ((v.1 10)) s0 d i)), (5, .int (46 * (nI s0))), (0, .ref (a 0)), (1, .int (nI s0)), (2, .int (nI i)), (3, .int (nI d)), (4, .int x1)]) hx hb dX7_goes_13 hl (by decide) rfl (fun ls hl => ?_)
  refine lv_aload_n hx hb dX7_goes_15 rfl (lv_at hl 2 rfl) ?_
  refine kb_get (own := RX7) (C := RX7) (T := TX7) (N := 19) (v := .ref (a 9)) hx hb hts hin7 hown hX hP 0 rfl rfl rfl 10 (by decide) rfl (by decide +kernel) rfl dX7_goes_16 ?_
  refine lv_iload hx hb dX7_goes_19 (lv_at hl 1 rfl) ?_
  refine lv_iconst (v := 4) hx hb dX7_goes_21 (by decide) ?_
  refine lv_iload_n hx hb dX7_goes_22 rfl (lv_at hl 5 rfl) ?_
  refine lv_imul hx hb dX7_goes_23 ?_
  refine lv_iadd hx hb dX7_goes_24 ?_
  refine lv_iload_n hx hb dX7_goes_25 rfl (lv_at hl 4 rfl) ?_
  refine lv_iadd hx hb dX7_goes_26 ?_
  refine lv_aload_n hx hb dX7_goes_27 rfl (lv_at hl 2 rfl) ?_
  refine lv_iload_n hx hb dX7_goes_28 rfl (lv_at hl 4 rfl) ?_
  refine lv_aload_n hx hb dX7_goes_29 rfl (lv_at hl 2 rfl) ?_
  refine kb_get (own := RX7) (C := RX7) (T := TX7) (N := 19) (v := .ref (a 9)) hx hb hts hin7 hown hX hP 0 rfl rfl rfl 10 (by decide) rfl (by decide +kernel) rfl dX7_goes_30 ?_
  refine lv_iload hx hb dX7_goes_33 (lv_at hl 1 rfl) ?_
  refine lv_iconst (v := 4) hx hb dX7_goes_35 (by decide) ?_
  refine lv_iload_n hx hb dX7_goes_36 rfl (lv_at hl 5 rfl) ?_
  refine lv_imul hx hb dX7_goes_37 ?_
  refine lv_iadd hx hb dX7_goes_38 ?_
  refine lv_iload_n hx hb dX7_goes_39 rfl (lv_at hl 4 rfl) ?_
  refine lv_iadd hx hb dX7_goes_40 ?_
  refine kb_ialdN (jn := ((46 * s0) + (4 * d)) + i) (n := 552) (f := v.1 10) hx hb hX hP 0 9 rfl rfl (by simp only [nI_addE, nI_mulE] <;> rfl) (by omega) (by decide) dX7_goes_41 ?_
  refine lv_iload hx hb dX7_goes_42 (lv_at hl 6 rfl) ?_
  refine kcV_p hx hb hml hown hts hX hP (c_X7_becomes l G a v i ((v.1 10) (((46 * s0) + (4 * d)) + i)) x1 (by omega)) gX7_goes_X7_becomes 3 rfl rfl rfl hd_X7_becomes ⟨Nat.le_of_ble_eq_true rfl, Nat.le_of_ble_eq_true rfl⟩ [0] rfl 0 rfl rfl rfl hl.1 rfl rfl (Nat.le_of_ble_eq_true rfl) dX7_goes_44 ⟨Nat.zero_le _, Nat.zero_le _⟩ ?_
  refine kb_rw (y := g_becomes ((v.1 3)) ((v.1 8)) i ((v.1 10) (((46 * s0) + (4 * d)) + i)) x1) rfl ?_
  refine kb_iastN (jn := ((46 * s0) + (4 * d)) + i) (n := 552) (f := v.1 10) hx hb hX hP hD hS 0 9 rfl rfl (by simp only [nI_addE, nI_mulE] <;> rfl) (by omega) (by decide) dX7_goes_47 (bX7_A10 a G v (upd (v.1 10) (((46 * s0) + (4 * d)) + i) (g_becomes ((v.1 3)) ((v.1 8)) i ((v.1 10) (((46 * s0) + (4 * d)) + i)) x1))) (fun H locs hP hD hS => ?_)
  have hP : PP G [bX7 a G (setA v 10 (upd (v.1 10) (((46 * s0) + (4 * d)) + i) (g_becomes ((v.1 3)) ((v.1 8)) i ((v.1 10) (((46 * s0) + (4 * d)) + i)) x1)))] H := hP
  have hD : DD (AA (List.flatten [bX7 a G v])) [bX7 a G (setA v 10 (upd (v.1 10) (((46 * s0) + (4 * d)) + i) (g_becomes ((v.1 3)) ((v.1 8)) i ((v.1 10) (((46 * s0) + (4 * d)) + i)) x1)))] := D_re hD (adc (bX7_ad _ _ _ _) adn)
  refine lv_aload_n hx hb dX7_goes_48 rfl (lv_at hl 2 rfl) ?_
  refine kb_get (own := RX7) (C := RX7) (T := TX7) (N := 19) (v := .ref (a 9)) hx hb hts hin7 hown hX hP 0 rfl rfl rfl 10 (by decide) rfl (by decide +kernel) rfl dX7_goes_49 ?_
  refine lv_iload hx hb dX7_goes_52 (lv_at hl 1 rfl) ?_
  refine lv_bipush (v := 40) hx hb dX7_goes_54 (by decide) ?_
  refine lv_iadd hx hb dX7_goes_56 ?_
  refine lv_iload_n hx hb dX7_goes_57 rfl (lv_at hl 4 rfl) ?_
  refine lv_iadd hx hb dX7_goes_58 ?_
  refine lv_aload_n hx hb dX7_goes_59 rfl (lv_at hl 2 rfl) ?_
  refine lv_iload_n hx hb dX7_goes_60 rfl (lv_at hl 5 rfl) ?_
  refine lv_aload_n hx hb dX7_goes_61 rfl (lv_at hl 2 rfl) ?_
  refine kb_get (own := RX7) (C := RX7) (T := TX7) (N := 19) (v := .ref (a 9)) hx hb hts hin7 hown hX hP 0 rfl rfl rfl 10 (by decide) rfl (by decide +kernel) rfl dX7_goes_62 ?_
  refine lv_iload hx hb dX7_goes_65 (lv_at hl 1 rfl) ?_
  refine lv_bipush (v := 40) hx hb dX7_goes_67 (by decide) ?_
  refine lv_iadd hx hb dX7_goes_69 ?_
  refine lv_iload_n hx hb dX7_goes_70 rfl (lv_at hl 4 rfl) ?_
  refine lv_iadd hx hb dX7_goes_71 ?_
  refine kb_ialdN (jn := ((46 * s0) + 40) + i) (n := 552) (f := upd (v.1 10) (((46 * s0) + (4 * d)) + i) (g_becomes ((v.1 3)) ((v.1 8)) i ((v.1 10) (((46 * s0) + (4 * d)) + i)) x1)) hx hb hX hP 0 9 rfl rfl (by simp only [nI_addE, nI_mulE] <;> rfl) (by omega) (by decide) dX7_goes_72 ?_
  refine kcV_p hx hb hml hown hts hX hP (c_X7_over l G a (setA v 10 (upd (v.1 10) (((46 * s0) + (4 * d)) + i) (g_becomes ((v.1 3)) ((v.1 8)) i ((v.1 10) (((46 * s0) + (4 * d)) + i)) x1))) d ((upd (v.1 10) (((46 * s0) + (4 * d)) + i) (g_becomes ((v.1 3)) ((v.1 8)) i ((v.1 10) (((46 * s0) + (4 * d)) + i)) x1)) (((46 * s0) + 40) + i)) (by omega)) gX7_goes_X7_over 2 rfl rfl rfl hd_X7_over ⟨Nat.le_of_ble_eq_true rfl, Nat.le_of_ble_eq_true rfl⟩ [0] rfl 0 rfl rfl rfl hl.1 rfl rfl (Nat.le_of_ble_eq_true rfl) dX7_goes_73 ⟨Nat.zero_le _, Nat.zero_le _⟩ ?_
  refine kb_rw (y := g_over ((v.1 5)) d ((upd (v.1 10) (((46 * s0) + (4 * d)) + i) (g_becomes ((v.1 3)) ((v.1 8)) i ((v.1 10) (((46 * s0) + (4 * d)) + i)) x1)) (((46 * s0) + 40) + i))) rfl ?_
  refine kb_iastN (jn := ((46 * s0) + 40) + i) (n := 552) (f := upd (v.1 10) (((46 * s0) + (4 * d)) + i) (g_becomes ((v.1 3)) ((v.1 8)) i ((v.1 10) (((46 * s0) + (4 * d)) + i)) x1)) hx hb hX hP hD hS 0 9 rfl rfl (by simp only [nI_addE, nI_mulE] <;> rfl) (by omega) (by decide) dX7_goes_76 (bX7_A10 a G (setA v 10 (upd (v.1 10) (((46 * s0) + (4 * d)) + i) (g_becomes ((v.1 3)) ((v.1 8)) i ((v.1 10) (((46 * s0) + (4 * d)) + i)) x1))) (upd (upd (v.1 10) (((46 * s0) + (4 * d)) + i) (g_becomes ((v.1 3)) ((v.1 8)) i ((v.1 10) (((46 * s0) + (4 * d)) + i)) x1)) (((46 * s0) + 40) + i) (g_over ((v.1 5)) d ((upd (v.1 10) (((46 * s0) + (4 * d)) + i) (g_becomes ((v.1 3)) ((v.1 8)) i ((v.1 10) (((46 * s0) + (4 * d)) + i)) x1)) (((46 * s0) + 40) + i))))) (fun H locs hP hD hS => ?_)
  have hP : PP G [bX7 a G (setA (setA v 10 (upd (v.1 10) (((46 * s0) + (4 * d)) + i) (g_becomes ((v.1 3)) ((v.1 8)) i ((v.1 10) (((46 * s0) + (4 * d)) + i)) x1))) 10 (upd (upd (v.1 10) (((46 * s0) + (4 * d)) + i) (g_becomes ((v.1 3)) ((v.1 8)) i ((v.1 10) (((46 * s0) + (4 * d)) + i)) x1)) (((46 * s0) + 40) + i) (g_over ((v.1 5)) d ((upd (v.1 10) (((46 * s0) + (4 * d)) + i) (g_becomes ((v.1 3)) ((v.1 8)) i ((v.1 10) (((46 * s0) + (4 * d)) + i)) x1)) (((46 * s0) + 40) + i)))))] H := hP
  have hD : DD (AA (List.flatten [bX7 a G v])) [bX7 a G (setA (setA v 10 (upd (v.1 10) (((46 * s0) + (4 * d)) + i) (g_becomes ((v.1 3)) ((v.1 8)) i ((v.1 10) (((46 * s0) + (4 * d)) + i)) x1))) 10 (upd (upd (v.1 10) (((46 * s0) + (4 * d)) + i) (g_becomes ((v.1 3)) ((v.1 8)) i ((v.1 10) (((46 * s0) + (4 * d)) + i)) x1)) (((46 * s0) + 40) + i) (g_over ((v.1 5)) d ((upd (v.1 10) (((46 * s0) + (4 * d)) + i) (g_becomes ((v.1 3)) ((v.1 8)) i ((v.1 10) (((46 * s0) + (4 * d)) + i)) x1)) (((46 * s0) + 40) + i)))))] := D_re hD (adc (bX7_ad _ _ _ _) adn)
  refine lv_aload_n hx hb dX7_goes_77 rfl (lv_at hl 2 rfl) ?_
  refine kb_get (own := RX7) (C := RX7) (T := TX7) (N := 19) (v := .ref (a 9)) hx hb hts hin7 hown hX hP 0 rfl rfl rfl 10 (by decide) rfl (by decide +kernel) rfl dX7_goes_78 ?_
  refine lv_iload hx hb dX7_goes_81 (lv_at hl 1 rfl) ?_
  refine lv_bipush (v := 44) hx hb dX7_goes_83 (by decide) ?_
  refine lv_iadd hx hb dX7_goes_85 ?_
  refine lv_dup2_11 hx hb dX7_goes_86 rfl rfl ?_
  refine kb_ialdN (jn := (46 * s0) + 44) (n := 552) (f := upd (upd (v.1 10) (((46 * s0) + (4 * d)) + i) (g_becomes ((v.1 3)) ((v.1 8)) i ((v.1 10) (((46 * s0) + (4 * d)) + i)) x1)) (((46 * s0) + 40) + i) (g_over ((v.1 5)) d ((upd (v.1 10) (((46 * s0) + (4 * d)) + i) (g_becomes ((v.1 3)) ((v.1 8)) i ((v.1 10) (((46 * s0) + (4 * d)) + i)) x1)) (((46 * s0) + 40) + i)))) hx hb hX hP 0 9 rfl rfl (by simp only [nI_addE, nI_mulE] <;> rfl) (by omega) (by decide) dX7_goes_87 ?_
  refine lv_iload hx hb dX7_goes_88 (lv_at hl 0 rfl) ?_
  refine lv_iadd hx hb dX7_goes_90 ?_
  refine kb_iastN (jn := (46 * s0) + 44) (n := 552) (f := upd (upd (v.1 10) (((46 * s0) + (4 * d)) + i) (g_becomes ((v.1 3)) ((v.1 8)) i ((v.1 10) (((46 * s0) + (4 * d)) + i)) x1)) (((46 * s0) + 40) + i) (g_over ((v.1 5)) d ((upd (v.1 10) (((46 * s0) + (4 * d)) + i) (g_becomes ((v.1 3)) ((v.1 8)) i ((v.1 10) (((46 * s0) + (4 * d)) + i)) x1)) (((46 * s0) + 40) + i)))) hx hb hX hP hD hS 0 9 rfl rfl (by simp only [nI_addE, nI_mulE] <;> rfl) (by omega) (by decide) dX7_goes_91 (bX7_A10 a G (setA (setA v 10 (upd (v.1 10) (((46 * s0) + (4 * d)) + i) (g_becomes ((v.1 3)) ((v.1 8)) i ((v.1 10) (((46 * s0) + (4 * d)) + i)) x1))) 10 (upd (upd (v.1 10) (((46 * s0) + (4 * d)) + i) (g_becomes ((v.1 3)) ((v.1 8)) i ((v.1 10) (((46 * s0) + (4 * d)) + i)) x1)) (((46 * s0) + 40) + i) (g_over ((v.1 5)) d ((upd (v.1 10) (((46 * s0) + (4 * d)) + i) (g_becomes ((v.1 3)) ((v.1 8)) i ((v.1 10) (((46 * s0) + (4 * d)) + i)) x1)) (((46 * s0) + 40) + i))))) (upd (upd (upd (v.1 10) (((46 * s0) + (4 * d)) + i) (g_becomes ((v.1 3)) ((v.1 8)) i ((v.1 10) (((46 * s0) + (4 * d)) + i)) x1)) (((46 * s0) + 40) + i) (g_over ((v.1 5)) d ((upd (v.1 10) (((46 * s0) + (4 * d)) + i) (g_becomes ((v.1 3)) ((v.1 8)) i ((v.1 10) (((46 * s0) + (4 * d)) + i)) x1)) (((46 * s0) + 40) + i)))) ((46 * s0) + 44) (((upd (upd (v.1 10) (((46 * s0) + (4 * d)) + i) (g_becomes ((v.1 3)) ((v.1 8)) i ((v.1 10) (((46 * s0) + (4 * d)) + i)) x1)) (((46 * s0) + 40) + i) (g_over ((v.1 5)) d ((upd (v.1 10) (((46 * s0) + (4 * d)) + i) (g_becomes ((v.1 3)) ((v.1 8)) i ((v.1 10) (((46 * s0) + (4 * d)) + i)) x1)) (((46 * s0) + 40) + i)))) ((46 * s0) + 44)) + (g_costs ((v.1 10)) s0 d i)))) (fun H locs hP hD hS => ?_)
  have hP : PP G [bX7 a G (setA (setA (setA v 10 (upd (v.1 10) (((46 * s0) + (4 * d)) + i) (g_becomes ((v.1 3)) ((v.1 8)) i ((v.1 10) (((46 * s0) + (4 * d)) + i)) x1))) 10 (upd (upd (v.1 10) (((46 * s0) + (4 * d)) + i) (g_becomes ((v.1 3)) ((v.1 8)) i ((v.1 10) (((46 * s0) + (4 * d)) + i)) x1)) (((46 * s0) + 40) + i) (g_over ((v.1 5)) d ((upd (v.1 10) (((46 * s0) + (4 * d)) + i) (g_becomes ((v.1 3)) ((v.1 8)) i ((v.1 10) (((46 * s0) + (4 * d)) + i)) x1)) (((46 * s0) + 40) + i))))) 10 (upd (upd (upd (v.1 10) (((46 * s0) + (4 * d)) + i) (g_becomes ((v.1 3)) ((v.1 8)) i ((v.1 10) (((46 * s0) + (4 * d)) + i)) x1)) (((46 * s0) + 40) + i) (g_over ((v.1 5)) d ((upd (v.1 10) (((46 * s0) + (4 * d)) + i) (g_becomes ((v.1 3)) ((v.1 8)) i ((v.1 10) (((46 * s0) + (4 * d)) + i)) x1)) (((46 * s0) + 40) + i)))) ((46 * s0) + 44) (((upd (upd (v.1 10) (((46 * s0) + (4 * d)) + i) (g_becomes ((v.1 3)) ((v.1 8)) i ((v.1 10) (((46 * s0) + (4 * d)) + i)) x1)) (((46 * s0) + 40) + i) (g_over ((v.1 5)) d ((upd (v.1 10) (((46 * s0) + (4 * d)) + i) (g_becomes ((v.1 3)) ((v.1 8)) i ((v.1 10) (((46 * s0) + (4 * d)) + i)) x1)) (((46 * s0) + 40) + i)))) ((46 * s0) + 44)) + (g_costs ((v.1 10)) s0 d i))))] H := hP
  have hD : DD (AA (List.flatten [bX7 a G v])) [bX7 a G (setA (setA (setA v 10 (upd (v.1 10) (((46 * s0) + (4 * d)) + i) (g_becomes ((v.1 3)) ((v.1 8)) i ((v.1 10) (((46 * s0) + (4 * d)) + i)) x1))) 10 (upd (upd (v.1 10) (((46 * s0) + (4 * d)) + i) (g_becomes ((v.1 3)) ((v.1 8)) i ((v.1 10) (((46 * s0) + (4 * d)) + i)) x1)) (((46 * s0) + 40) + i) (g_over ((v.1 5)) d ((upd (v.1 10) (((46 * s0) + (4 * d)) + i) (g_becomes ((v.1 3)) ((v.1 8)) i ((v.1 10) (((46 * s0) + (4 * d)) + i)) x1)) (((46 * s0) + 40) + i))))) 10 (upd (upd (upd (v.1 10) (((46 * s0) + (4 * d)) + i) (g_becomes ((v.1 3)) ((v.1 8)) i ((v.1 10) (((46 * s0) + (4 * d)) + i)) x1)) (((46 * s0) + 40) + i) (g_over ((v.1 5)) d ((upd (v.1 10) (((46 * s0) + (4 * d)) + i) (g_becomes ((v.1 3)) ((v.1 8)) i ((v.1 10) (((46 * s0) + (4 * d)) + i)) x1)) (((46 * s0) + 40) + i)))) ((46 * s0) + 44) (((upd (upd (v.1 10) (((46 * s0) + (4 * d)) + i) (g_becomes ((v.1 3)) ((v.1 8)) i ((v.1 10) (((46 * s0) + (4 * d)) + i)) x1)) (((46 * s0) + 40) + i) (g_over ((v.1 5)) d ((upd (v.1 10) (((46 * s0) + (4 * d)) + i) (g_becomes ((v.1 3)) ((v.1 8)) i ((v.1 10) (((46 * s0) + (4 * d)) + i)) x1)) (((46 * s0) + 40) + i)))) ((46 * s0) + 44)) + (g_costs ((v.1 10)) s0 d i))))] := D_re hD (adc (bX7_ad _ _ _ _) adn)
  refine lv_iload hx hb dX7_goes_92 (lv_at hl 0 rfl) ?_
  have hP : PP G [bX7 a G (setA v 10 (g_goesS ((v.1 3)) ((v.1 8)) ((v.1 5)) ((v.1 10)) s0 i d x1))] H := by
    unfold g_goesS
    simp only [ov_n1, ov_m1, ov_nc, ov_mc, ov_c] at hP ⊢
    exact hP
  exact kr_si hx hb hr hlocks dX7_goes_94 hP hS (sameAd_cons (bX7_ad _ _ _ _) sameAd_nil) ⟨rfl, rfl⟩

def rm_X7_nights : Room := { frames := 0, cells := 0, slots := 0, locals := 0 }
theorem hd_X7_nights : yX7_nights.cls = RX7 ∧ yX7_nights.cls ≠ "java/lang/invoke/MethodHandle" ∧ yX7_nights.cls ≠ "java/lang/invoke/VarHandle" ∧ (parseMethodDescriptor yX7_nights.desc).map (fun d => d.parameters.length) = some 1 := by decide +kernel
set_option maxRecDepth 100000 in
set_option maxHeartbeats 4000000 in
theorem c_X7_nights (l : Launch) (G : GD) (a : Nat → Nat) (v : OV) (s0 : Nat) (hs : s0 < 12) (hD8 : (v.1 4 0).toNatClampNeg ≤ 8) (hL4 : (v.1 7 0).toNatClampNeg ≤ 4) (hRx : ∀ d, d < (v.1 4 0).toNatClampNeg → vp_in (v.1 5 (3 * d + 2)) 8) : MetS l yX7_nights wsX7_nights rm_X7_nights G [bX7 a G v] [.ref (a 0), .int (nI s0)] (fun r bc => r = none ∧ bc = [bX7 a G (setA (setA v 13 (g_was ((v.1 10)) ((v.1 13)) s0)) 10 (g_nights ((v.1 3)) ((v.1 5)) ((v.1 7)) ((v.1 4)) ((v.1 6)) ((v.1 10)) ((v.1 13)) s0))]) := by
  refine kb_beginS (cc := cX7_nights) (maxL := 8) (ret := none) (by decide) rfl (Nat.le_of_ble_eq_true rfl) ?_
  intro p e s m below meth c hx hb hr hml hown hts hlocks hX H locs hP hD hS ls hl
  have hown : s.vm.findClass RX7 = some m.cls := hown
  have hl : lv_has ls 8 [(0, .ref (a 0)), (1, .int (nI s0))] := hl
  have hin7 : ∀ w ∈ u_ws RX7 TX7 19, w ∈ wsX7_nights := (fun _ h => List.mem_cons_of_mem _ (List.mem_append_right _ (h)))
  refine lv_bipush (v := 46) hx hb dX7_nights_0 (by decide) ?_
  refine lv_iload_n hx hb dX7_nights_2 rfl (lv_at hl 1 rfl) ?_
  refine lv_imul hx hb dX7_nights_3 ?_
  refine lv_istore_n (lv' := [(2, .int (46 * (nI s0))), (0, .ref (a 0)), (1, .int (nI s0))]) hx hb dX7_nights_4 rfl hl (by decide) rfl (fun ls hl => ?_)
  refine lv_iconst (v := 0) hx hb dX7_nights_5 (by decide) ?_
  refine lv_istore_n (lv' := [(3, .int 0), (2, .int (46 * (nI s0))), (0, .ref (a 0)), (1, .int (nI s0))]) hx hb dX7_nights_6 rfl hl (by decide) rfl (fun ls hl => ?_)
  have eOV0 : (setA v 13 (itN (s_was (v.1 10) s0) (v.1 13) 0)) = v := by
    refine Prod.ext (funext fun u => ?_) (funext fun u => ?_)
    · by_cases h13 : u = 13
      · subst h13; rfl
      · skip
        simp only [setA, setI, if_neg h13]
    · rfl
  have hP : PP G [bX7 a G (setA v 13 (itN (s_was (v.1 10) s0) (v.1 13) 0))] H := by rw [eOV0]; exact hP
  have hD : DD (AA (List.flatten [bX7 a G v])) [bX7 a G (setA v 13 (itN (s_was (v.1 10) s0) (v.1 13) 0))] := D_re hD (adc (bX7_ad _ _ _ _) adn)
  refine lp_up (N := 32) (P := fun k => ∀ (H : Heap) (locs : List Loc) (ls : Array Slot), PP G [bX7 a G (setA v 13 (itN (s_was (v.1 10) s0) (v.1 13) k))] H → DD (AA (List.flatten [bX7 a G v])) [bX7 a G (setA v 13 (itN (s_was (v.1 10) s0) (v.1 13) k))] → va_S (AA (List.flatten [bX7 a G v])) s.heap H locs → lv_has ls 8 [(3, .int (nI k)), (2, .int (46 * (nI s0))), (0, .ref (a 0)), (1, .int (nI s0))] →  W p l e (headSpec wsX7_nights rm_X7_nights).room s m ([.ref (a 0), .int (nI s0)] : List Value).toArray below meth c H locs 0 0 (MQ below (kQs G [bX7 a G v] (fun r bc => r = none ∧ bc = [bX7 a G (setA (setA v 13 (g_was ((v.1 10)) ((v.1 13)) s0)) 10 (g_nights ((v.1 3)) ((v.1 5)) ((v.1 7)) ((v.1 4)) ((v.1 6)) ((v.1 10)) ((v.1 13)) s0))])) ([.ref (a 0), .int (nI s0)] : List Value).toArray s 0 0 (AA (List.flatten [bX7 a G v]))) (F0 m 7 ls [])) ?_ ?_ 0 (Nat.zero_le _)  _ _ _ hP hD hS (lv_sub hl [0, 1, 2, 3] rfl) 
  · skip
    intro H locs ls hP hD hS hl 
    refine lv_iload_n hx hb dX7_nights_7 rfl (lv_at hl 0 rfl) ?_
    refine lv_bipush (v := 32) hx hb dX7_nights_8 (by decide) ?_
    refine lv_icmp_ge (tgt := 33) hx hb dX7_nights_10 (by decide) (fun c_10 => ?_) (fun c_10 => absurd ((by decide : (32 : Int32) ≤ nI 32)) c_10)
    refine lv_iconst (v := 0) hx hb dX7_nights_33 (by decide) ?_
    refine lv_istore_n (lv' := [(3, .int 0), (2, .int (46 * (nI s0))), (0, .ref (a 0)), (1, .int (nI s0))]) hx hb dX7_nights_34 rfl hl (by decide) rfl (fun ls hl => ?_)
    have eOV0 : (setA (setA v 13 (g_was (v.1 10) (v.1 13) s0)) 10 (itN (s_flow (g_was (v.1 10) (v.1 13) s0) (v.1 3) (v.1 5) (v.1 7) s0) (v.1 10) 0)) = (setA v 13 (itN (s_was (v.1 10) s0) (v.1 13) 32)) := by
      refine Prod.ext (funext fun u => ?_) (funext fun u => ?_)
      · by_cases h13 : u = 13
        · subst h13; rfl
        · skip
          by_cases h10 : u = 10
          · subst h10; rfl
          · skip
            simp only [setA, setI, if_neg h13, if_neg h10]
      · rfl
    have hP : PP G [bX7 a G (setA (setA v 13 (g_was (v.1 10) (v.1 13) s0)) 10 (itN (s_flow (g_was (v.1 10) (v.1 13) s0) (v.1 3) (v.1 5) (v.1 7) s0) (v.1 10) 0))] H := by rw [eOV0]; exact hP
    have hD : DD (AA (List.flatten [bX7 a G v])) [bX7 a G (setA (setA v 13 (g_was (v.1 10) (v.1 13) s0)) 10 (itN (s_flow (g_was (v.1 10) (v.1 13) s0) (v.1 3) (v.1 5) (v.1 7) s0) (v.1 10) 0))] := D_re hD (adc (bX7_ad _ _ _ _) adn)
    refine lp_up (N := (v.1 4 0).toNatClampNeg) (P := fun k => ∀ (H : Heap) (locs : List Loc) (ls : Array Slot), PP G [bX7 a G (setA (setA v 13 (g_was (v.1 10) (v.1 13) s0)) 10 (itN (s_flow (g_was (v.1 10) (v.1 13) s0) (v.1 3) (v.1 5) (v.1 7) s0) (v.1 10) k))] H → DD (AA (List.flatten [bX7 a G v])) [bX7 a G (setA (setA v 13 (g_was (v.1 10) (v.1 13) s0)) 10 (itN (s_flow (g_was (v.1 10) (v.1 13) s0) (v.1 3) (v.1 5) (v.1 7) s0) (v.1 10) k))] → va_S (AA (List.flatten [bX7 a G v])) s.heap H locs → lv_has ls 8 [(3, .int (nI k)), (2, .int (46 * (nI s0))), (0, .ref (a 0)), (1, .int (nI s0))] →  W p l e (headSpec wsX7_nights rm_X7_nights).room s m ([.ref (a 0), .int (nI s0)] : List Value).toArray below meth c H locs 0 0 (MQ below (kQs G [bX7 a G v] (fun r bc => r = none ∧ bc = [bX7 a G (setA (setA v 13 (g_was ((v.1 10)) ((v.1 13)) s0)) 10 (g_nights ((v.1 3)) ((v.1 5)) ((v.1 7)) ((v.1 4)) ((v.1 6)) ((v.1 10)) ((v.1 13)) s0))])) ([.ref (a 0), .int (nI s0)] : List Value).toArray s 0 0 (AA (List.flatten [bX7 a G v]))) (F0 m 35 ls [])) ?_ ?_ 0 (Nat.zero_le _)  _ _ _ hP hD hS (lv_sub hl [0, 1, 2, 3] rfl) 
    · skip
      intro H locs ls hP hD hS hl 
      refine lv_iload_n hx hb dX7_nights_35 rfl (lv_at hl 0 rfl) ?_
      refine lv_aload_n hx hb dX7_nights_36 rfl (lv_at hl 2 rfl) ?_
      refine kb_get (own := RX7) (C := RX7) (T := TX7) (N := 19) (v := .ref (a 3)) hx hb hts hin7 hown hX hP 0 rfl rfl rfl 4 (by decide) rfl (by decide +kernel) rfl dX7_nights_37 ?_
      refine lv_iconst (v := 0) hx hb dX7_nights_40 (by decide) ?_
      refine kb_ialdN (jn := 0) (n := 2) (f := v.1 4) hx hb hX hP 0 3 rfl rfl rfl (by omega) (by decide) dX7_nights_41 ?_
      refine lv_icmp_ge (tgt := 190) hx hb dX7_nights_42 (by decide) (fun c_42 => ?_) (fun c_42 => absurd (lpx_c _) c_42)
      refine lv_iconst (v := 0) hx hb dX7_nights_190 (by decide) ?_
      refine lv_istore_n (lv' := [(3, .int 0), (2, .int (46 * (nI s0))), (0, .ref (a 0)), (1, .int (nI s0))]) hx hb dX7_nights_191 rfl hl (by decide) rfl (fun ls hl => ?_)
      have eOV0 : (setA (setA v 13 (g_was (v.1 10) (v.1 13) s0)) 10 (itN (s_waneD (v.1 3) (v.1 6) (v.1 7) s0) (g_flow (g_was (v.1 10) (v.1 13) s0) (v.1 3) (v.1 5) (v.1 7) (v.1 4) (v.1 10) s0) 0)) = (setA (setA v 13 (g_was (v.1 10) (v.1 13) s0)) 10 (itN (s_flow (g_was (v.1 10) (v.1 13) s0) (v.1 3) (v.1 5) (v.1 7) s0) (v.1 10) ((v.1 4 0).toNatClampNeg))) := by
        refine Prod.ext (funext fun u => ?_) (funext fun u => ?_)
        · by_cases h13 : u = 13
          · subst h13; rfl
          · skip
            by_cases h10 : u = 10
            · subst h10; rfl
            · skip
              simp only [setA, setI, if_neg h13, if_neg h10]
        · rfl
      have hP : PP G [bX7 a G (setA (setA v 13 (g_was (v.1 10) (v.1 13) s0)) 10 (itN (s_waneD (v.1 3) (v.1 6) (v.1 7) s0) (g_flow (g_was (v.1 10) (v.1 13) s0) (v.1 3) (v.1 5) (v.1 7) (v.1 4) (v.1 10) s0) 0))] H := by rw [eOV0]; exact hP
      have hD : DD (AA (List.flatten [bX7 a G v])) [bX7 a G (setA (setA v 13 (g_was (v.1 10) (v.1 13) s0)) 10 (itN (s_waneD (v.1 3) (v.1 6) (v.1 7) s0) (g_flow (g_was (v.1 10) (v.1 13) s0) (v.1 3) (v.1 5) (v.1 7) (v.1 4) (v.1 10) s0) 0))] := D_re hD (adc (bX7_ad _ _ _ _) adn)
      refine lp_up (N := (v.1 4 0).toNatClampNeg) (P := fun k => ∀ (H : Heap) (locs : List Loc) (ls : Array Slot), PP G [bX7 a G (setA (setA v 13 (g_was (v.1 10) (v.1 13) s0)) 10 (itN (s_waneD (v.1 3) (v.1 6) (v.1 7) s0) (g_flow (g_was (v.1 10) (v.1 13) s0) (v.1 3) (v.1 5) (v.1 7) (v.1 4) (v.1 10) s0) k))] H → DD (AA (List.flatten [bX7 a G v])) [bX7 a G (setA (setA v 13 (g_was (v.1 10) (v.1 13) s0)) 10 (itN (s_waneD (v.1 3) (v.1 6) (v.1 7) s0) (g_flow (g_was (v.1 10) (v.1 13) s0) (v.1 3) (v.1 5) (v.1 7) (v.1 4) (v.1 10) s0) k))] → va_S (AA (List.flatten [bX7 a G v])) s.heap H locs → lv_has ls 8 [(3, .int (nI k)), (2, .int (46 * (nI s0))), (0, .ref (a 0)), (1, .int (nI s0))] →  W p l e (headSpec wsX7_nights rm_X7_nights).room s m ([.ref (a 0), .int (nI s0)] : List Value).toArray below meth c H locs 0 0 (MQ below (kQs G [bX7 a G v] (fun r bc => r = none ∧ bc = [bX7 a G (setA (setA v 13 (g_was ((v.1 10)) ((v.1 13)) s0)) 10 (g_nights ((v.1 3)) ((v.1 5)) ((v.1 7)) ((v.1 4)) ((v.1 6)) ((v.1 10)) ((v.1 13)) s0))])) ([.ref (a 0), .int (nI s0)] : List Value).toArray s 0 0 (AA (List.flatten [bX7 a G v]))) (F0 m 192 ls [])) ?_ ?_ 0 (Nat.zero_le _)  _ _ _ hP hD hS (lv_sub hl [0, 1, 2, 3] rfl) 
      · skip
        intro H locs ls hP hD hS hl 
        refine lv_iload_n hx hb dX7_nights_192 rfl (lv_at hl 0 rfl) ?_
        refine lv_aload_n hx hb dX7_nights_193 rfl (lv_at hl 2 rfl) ?_
        refine kb_get (own := RX7) (C := RX7) (T := TX7) (N := 19) (v := .ref (a 3)) hx hb hts hin7 hown hX hP 0 rfl rfl rfl 4 (by decide) rfl (by decide +kernel) rfl dX7_nights_194 ?_
        refine lv_iconst (v := 0) hx hb dX7_nights_197 (by decide) ?_
        refine kb_ialdN (jn := 0) (n := 2) (f := v.1 4) hx hb hX hP 0 3 rfl rfl rfl (by omega) (by decide) dX7_nights_198 ?_
        refine lv_icmp_ge (tgt := 330) hx hb dX7_nights_199 (by decide) (fun c_199 => ?_) (fun c_199 => absurd (lpx_c _) c_199)
        refine lv_aload_n hx hb dX7_nights_330 rfl (lv_at hl 2 rfl) ?_
        refine kb_get (own := RX7) (C := RX7) (T := TX7) (N := 19) (v := .ref (a 9)) hx hb hts hin7 hown hX hP 0 rfl rfl rfl 10 (by decide) rfl (by decide +kernel) rfl dX7_nights_331 ?_
        refine lv_iload_n hx hb dX7_nights_334 rfl (lv_at hl 1 rfl) ?_
        refine lv_bipush (v := 45) hx hb dX7_nights_335 (by decide) ?_
        refine lv_iadd hx hb dX7_nights_337 ?_
        refine lv_dup2_11 hx hb dX7_nights_338 rfl rfl ?_
        refine kb_ialdN (jn := (46 * s0) + 45) (n := 552) (f := itN (s_waneD (v.1 3) (v.1 6) (v.1 7) s0) (g_flow (g_was (v.1 10) (v.1 13) s0) (v.1 3) (v.1 5) (v.1 7) (v.1 4) (v.1 10) s0) ((v.1 4 0).toNatClampNeg)) hx hb hX hP 0 9 rfl rfl (by simp only [nI_addE, nI_mulE] <;> rfl) (by omega) (by decide) dX7_nights_339 ?_
        refine lv_iconst (v := 1) hx hb dX7_nights_340 (by decide) ?_
        refine lv_iadd hx hb dX7_nights_341 ?_
        refine kb_iastN (jn := (46 * s0) + 45) (n := 552) (f := itN (s_waneD (v.1 3) (v.1 6) (v.1 7) s0) (g_flow (g_was (v.1 10) (v.1 13) s0) (v.1 3) (v.1 5) (v.1 7) (v.1 4) (v.1 10) s0) ((v.1 4 0).toNatClampNeg)) hx hb hX hP hD hS 0 9 rfl rfl (by simp only [nI_addE, nI_mulE] <;> rfl) (by omega) (by decide) dX7_nights_342 (bX7_A10 a G (setA (setA v 13 (g_was (v.1 10) (v.1 13) s0)) 10 (itN (s_waneD (v.1 3) (v.1 6) (v.1 7) s0) (g_flow (g_was (v.1 10) (v.1 13) s0) (v.1 3) (v.1 5) (v.1 7) (v.1 4) (v.1 10) s0) ((v.1 4 0).toNatClampNeg))) (upd (itN (s_waneD (v.1 3) (v.1 6) (v.1 7) s0) (g_flow (g_was (v.1 10) (v.1 13) s0) (v.1 3) (v.1 5) (v.1 7) (v.1 4) (v.1 10) s0) ((v.1 4 0).toNatClampNeg)) ((46 * s0) + 45) (((itN (s_waneD (v.1 3) (v.1 6) (v.1 7) s0) (g_flow (g_was (v.1 10) (v.1 13) s0) (v.1 3) (v.1 5) (v.1 7) (v.1 4) (v.1 10) s0) ((v.1 4 0).toNatClampNeg)) ((46 * s0) + 45)) + 1))) (fun H locs hP hD hS => ?_)
        have hP : PP G [bX7 a G (setA (setA (setA v 13 (g_was (v.1 10) (v.1 13) s0)) 10 (itN (s_waneD (v.1 3) (v.1 6) (v.1 7) s0) (g_flow (g_was (v.1 10) (v.1 13) s0) (v.1 3) (v.1 5) (v.1 7) (v.1 4) (v.1 10) s0) ((v.1 4 0).toNatClampNeg))) 10 (upd (itN (s_waneD (v.1 3) (v.1 6) (v.1 7) s0) (g_flow (g_was (v.1 10) (v.1 13) s0) (v.1 3) (v.1 5) (v.1 7) (v.1 4) (v.1 10) s0) ((v.1 4 0).toNatClampNeg)) ((46 * s0) + 45) (((itN (s_waneD (v.1 3) (v.1 6) (v.1 7) s0) (g_flow (g_was (v.1 10) (v.1 13) s0) (v.1 3) (v.1 5) (v.1 7) (v.1 4) (v.1 10) s0) ((v.1 4 0).toNatClampNeg)) ((46 * s0) + 45)) + 1)))] H := hP
        have hD : DD (AA (List.flatten [bX7 a G v])) [bX7 a G (setA (setA (setA v 13 (g_was (v.1 10) (v.1 13) s0)) 10 (itN (s_waneD (v.1 3) (v.1 6) (v.1 7) s0) (g_flow (g_was (v.1 10) (v.1 13) s0) (v.1 3) (v.1 5) (v.1 7) (v.1 4) (v.1 10) s0) ((v.1 4 0).toNatClampNeg))) 10 (upd (itN (s_waneD (v.1 3) (v.1 6) (v.1 7) s0) (g_flow (g_was (v.1 10) (v.1 13) s0) (v.1 3) (v.1 5) (v.1 7) (v.1 4) (v.1 10) s0) ((v.1 4 0).toNatClampNeg)) ((46 * s0) + 45) (((itN (s_waneD (v.1 3) (v.1 6) (v.1 7) s0) (g_flow (g_was (v.1 10) (v.1 13) s0) (v.1 3) (v.1 5) (v.1 7) (v.1 4) (v.1 10) s0) ((v.1 4 0).toNatClampNeg)) ((46 * s0) + 45)) + 1)))] := D_re hD (adc (bX7_ad _ _ _ _) adn)
        have hP : PP G [bX7 a G (setA (setA v 13 (g_was ((v.1 10)) ((v.1 13)) s0)) 10 (g_nights ((v.1 3)) ((v.1 5)) ((v.1 7)) ((v.1 4)) ((v.1 6)) ((v.1 10)) ((v.1 13)) s0))] H := by
          unfold g_nights g_wane
          simp only [ov_n1, ov_m1, ov_nc, ov_mc, ov_c] at hP ⊢
          exact hP
        exact kr_sv hx hb hr hlocks dX7_nights_343 hP hS (sameAd_cons (bX7_ad _ _ _ _) sameAd_nil) ⟨rfl, rfl⟩
      · skip
        intro k hk_k ih_192 H locs ls hP hD hS hl 
        refine lv_iload_n hx hb dX7_nights_192 rfl (lv_at hl 0 rfl) ?_
        refine lv_aload_n hx hb dX7_nights_193 rfl (lv_at hl 2 rfl) ?_
        refine kb_get (own := RX7) (C := RX7) (T := TX7) (N := 19) (v := .ref (a 3)) hx hb hts hin7 hown hX hP 0 rfl rfl rfl 4 (by decide) rfl (by decide +kernel) rfl dX7_nights_194 ?_
        refine lv_iconst (v := 0) hx hb dX7_nights_197 (by decide) ?_
        refine kb_ialdN (jn := 0) (n := 2) (f := v.1 4) hx hb hX hP 0 3 rfl rfl rfl (by omega) (by decide) dX7_nights_198 ?_
        refine lv_icmp_ge (tgt := 330) hx hb dX7_nights_199 (by decide) (fun c_199 => absurd c_199 (lps_c hk_k)) (fun c_199 => ?_)
        refine lv_iconst (v := 0) hx hb dX7_nights_202 (by decide) ?_
        refine lv_istore (lv' := [(4, .int 0), (3, .int (nI k)), (2, .int (46 * (nI s0))), (0, .ref (a 0)), (1, .int (nI s0))]) hx hb dX7_nights_203 hl (by decide) rfl (fun ls hl => ?_)
        have eOV0 : (setA (setA v 13 (g_was (v.1 10) (v.1 13) s0)) 10 (itN (s_wane (v.1 3) (v.1 6) s0 k) (itN (s_waneD (v.1 3) (v.1 6) (v.1 7) s0) (g_flow (g_was (v.1 10) (v.1 13) s0) (v.1 3) (v.1 5) (v.1 7) (v.1 4) (v.1 10) s0) k) 0)) = (setA (setA v 13 (g_was (v.1 10) (v.1 13) s0)) 10 (itN (s_waneD (v.1 3) (v.1 6) (v.1 7) s0) (g_flow (g_was (v.1 10) (v.1 13) s0) (v.1 3) (v.1 5) (v.1 7) (v.1 4) (v.1 10) s0) k)) := by
          refine Prod.ext (funext fun u => ?_) (funext fun u => ?_)
          · by_cases h13 : u = 13
            · subst h13; rfl
            · skip
              by_cases h10 : u = 10
              · subst h10; rfl
              · skip
                simp only [setA, setI, if_neg h13, if_neg h10]
          · rfl
        have hP : PP G [bX7 a G (setA (setA v 13 (g_was (v.1 10) (v.1 13) s0)) 10 (itN (s_wane (v.1 3) (v.1 6) s0 k) (itN (s_waneD (v.1 3) (v.1 6) (v.1 7) s0) (g_flow (g_was (v.1 10) (v.1 13) s0) (v.1 3) (v.1 5) (v.1 7) (v.1 4) (v.1 10) s0) k) 0))] H := by rw [eOV0]; exact hP
        have hD : DD (AA (List.flatten [bX7 a G v])) [bX7 a G (setA (setA v 13 (g_was (v.1 10) (v.1 13) s0)) 10 (itN (s_wane (v.1 3) (v.1 6) s0 k) (itN (s_waneD (v.1 3) (v.1 6) (v.1 7) s0) (g_flow (g_was (v.1 10) (v.1 13) s0) (v.1 3) (v.1 5) (v.1 7) (v.1 4) (v.1 10) s0) k) 0))] := D_re hD (adc (bX7_ad _ _ _ _) adn)
        refine lp_up (N := (v.1 7 0).toNatClampNeg) (P := fun i => ∀ (H : Heap) (locs : List Loc) (ls : Array Slot), PP G [bX7 a G (setA (setA v 13 (g_was (v.1 10) (v.1 13) s0)) 10 (itN (s_wane (v.1 3) (v.1 6) s0 k) (itN (s_waneD (v.1 3) (v.1 6) (v.1 7) s0) (g_flow (g_was (v.1 10) (v.1 13) s0) (v.1 3) (v.1 5) (v.1 7) (v.1 4) (v.1 10) s0) k) i))] H → DD (AA (List.flatten [bX7 a G v])) [bX7 a G (setA (setA v 13 (g_was (v.1 10) (v.1 13) s0)) 10 (itN (s_wane (v.1 3) (v.1 6) s0 k) (itN (s_waneD (v.1 3) (v.1 6) (v.1 7) s0) (g_flow (g_was (v.1 10) (v.1 13) s0) (v.1 3) (v.1 5) (v.1 7) (v.1 4) (v.1 10) s0) k) i))] → va_S (AA (List.flatten [bX7 a G v])) s.heap H locs → lv_has ls 8 [(4, .int (nI i)), (3, .int (nI k)), (2, .int (46 * (nI s0))), (0, .ref (a 0)), (1, .int (nI s0))] →  W p l e (headSpec wsX7_nights rm_X7_nights).room s m ([.ref (a 0), .int (nI s0)] : List Value).toArray below meth c H locs 0 0 (MQ below (kQs G [bX7 a G v] (fun r bc => r = none ∧ bc = [bX7 a G (setA (setA v 13 (g_was ((v.1 10)) ((v.1 13)) s0)) 10 (g_nights ((v.1 3)) ((v.1 5)) ((v.1 7)) ((v.1 4)) ((v.1 6)) ((v.1 10)) ((v.1 13)) s0))])) ([.ref (a 0), .int (nI s0)] : List Value).toArray s 0 0 (AA (List.flatten [bX7 a G v]))) (F0 m 205 ls [])) ?_ ?_ 0 (Nat.zero_le _)  _ _ _ hP hD hS (lv_sub hl [0, 1, 2, 3, 4] rfl) 
        · skip
          intro H locs ls hP hD hS hl 
          refine lv_iload hx hb dX7_nights_205 (lv_at hl 0 rfl) ?_
          refine lv_aload_n hx hb dX7_nights_207 rfl (lv_at hl 3 rfl) ?_
          refine kb_get (own := RX7) (C := RX7) (T := TX7) (N := 19) (v := .ref (a 6)) hx hb hts hin7 hown hX hP 0 rfl rfl rfl 7 (by decide) rfl (by decide +kernel) rfl dX7_nights_208 ?_
          refine lv_iconst (v := 0) hx hb dX7_nights_211 (by decide) ?_
          refine kb_ialdN (jn := 0) (n := 2) (f := v.1 7) hx hb hX hP 0 6 rfl rfl rfl (by omega) (by decide) dX7_nights_212 ?_
          refine lv_icmp_ge (tgt := 291) hx hb dX7_nights_213 (by decide) (fun c_213 => ?_) (fun c_213 => absurd (lpx_c _) c_213)
          refine lv_aload_n hx hb dX7_nights_291 rfl (lv_at hl 3 rfl) ?_
          refine kb_get (own := RX7) (C := RX7) (T := TX7) (N := 19) (v := .ref (a 9)) hx hb hts hin7 hown hX hP 0 rfl rfl rfl 10 (by decide) rfl (by decide +kernel) rfl dX7_nights_292 ?_
          refine lv_iload_n hx hb dX7_nights_295 rfl (lv_at hl 2 rfl) ?_
          refine lv_bipush (v := 32) hx hb dX7_nights_296 (by decide) ?_
          refine lv_iadd hx hb dX7_nights_298 ?_
          refine lv_iload_n hx hb dX7_nights_299 rfl (lv_at hl 1 rfl) ?_
          refine lv_iadd hx hb dX7_nights_300 ?_
          refine lv_dup2_11 hx hb dX7_nights_301 rfl rfl ?_
          refine kb_ialdN (jn := ((46 * s0) + 32) + k) (n := 552) (f := itN (s_wane (v.1 3) (v.1 6) s0 k) (itN (s_waneD (v.1 3) (v.1 6) (v.1 7) s0) (g_flow (g_was (v.1 10) (v.1 13) s0) (v.1 3) (v.1 5) (v.1 7) (v.1 4) (v.1 10) s0) k) ((v.1 7 0).toNatClampNeg)) hx hb hX hP 0 9 rfl rfl (by simp only [nI_addE, nI_mulE] <;> rfl) (by omega) (by decide) dX7_nights_302 ?_
          refine lv_aload_n hx hb dX7_nights_303 rfl (lv_at hl 3 rfl) ?_
          refine kb_get (own := RX7) (C := RX7) (T := TX7) (N := 19) (v := .ref (a 9)) hx hb hts hin7 hown hX hP 0 rfl rfl rfl 10 (by decide) rfl (by decide +kernel) rfl dX7_nights_304 ?_
          refine lv_iload_n hx hb dX7_nights_307 rfl (lv_at hl 2 rfl) ?_
          refine lv_bipush (v := 32) hx hb dX7_nights_308 (by decide) ?_
          refine lv_iadd hx hb dX7_nights_310 ?_
          refine lv_iload_n hx hb dX7_nights_311 rfl (lv_at hl 1 rfl) ?_
          refine lv_iadd hx hb dX7_nights_312 ?_
          refine kb_ialdN (jn := ((46 * s0) + 32) + k) (n := 552) (f := itN (s_wane (v.1 3) (v.1 6) s0 k) (itN (s_waneD (v.1 3) (v.1 6) (v.1 7) s0) (g_flow (g_was (v.1 10) (v.1 13) s0) (v.1 3) (v.1 5) (v.1 7) (v.1 4) (v.1 10) s0) k) ((v.1 7 0).toNatClampNeg)) hx hb hX hP 0 9 rfl rfl (by simp only [nI_addE, nI_mulE] <;> rfl) (by omega) (by decide) dX7_nights_313 ?_
          refine lv_if_le (tgt := 321) hx hb dX7_nights_314 (by decide) (fun c_314 => ?_) (fun c_314 => ?_)
          · refine lv_iconst (v := 0) hx hb dX7_nights_321 (by decide) ?_
            refine lv_isub hx hb dX7_nights_322 ?_
            refine kb_iastN (jn := ((46 * s0) + 32) + k) (n := 552) (f := itN (s_wane (v.1 3) (v.1 6) s0 k) (itN (s_waneD (v.1 3) (v.1 6) (v.1 7) s0) (g_flow (g_was (v.1 10) (v.1 13) s0) (v.1 3) (v.1 5) (v.1 7) (v.1 4) (v.1 10) s0) k) ((v.1 7 0).toNatClampNeg)) hx hb hX hP hD hS 0 9 rfl rfl (by simp only [nI_addE, nI_mulE] <;> rfl) (by omega) (by decide) dX7_nights_323 (bX7_A10 a G (setA (setA v 13 (g_was (v.1 10) (v.1 13) s0)) 10 (itN (s_wane (v.1 3) (v.1 6) s0 k) (itN (s_waneD (v.1 3) (v.1 6) (v.1 7) s0) (g_flow (g_was (v.1 10) (v.1 13) s0) (v.1 3) (v.1 5) (v.1 7) (v.1 4) (v.1 10) s0) k) ((v.1 7 0).toNatClampNeg))) (upd (itN (s_wane (v.1 3) (v.1 6) s0 k) (itN (s_waneD (v.1 3) (v.1 6) (v.1 7) s0) (g_flow (g_was (v.1 10) (v.1 13) s0) (v.1 3) (v.1 5) (v.1 7) (v.1 4) (v.1 10) s0) k) ((v.1 7 0).toNatClampNeg)) (((46 * s0) + 32) + k) (((itN (s_wane (v.1 3) (v.1 6) s0 k) (itN (s_waneD (v.1 3) (v.1 6) (v.1 7) s0) (g_flow (g_was (v.1 10) (v.1 13) s0) (v.1 3) (v.1 5) (v.1 7) (v.1 4) (v.1 10) s0) k) ((v.1 7 0).toNatClampNeg)) (((46 * s0) + 32) + k)) - 0))) (fun H locs hP hD hS => ?_)
            have hP : PP G [bX7 a G (setA (setA (setA v 13 (g_was (v.1 10) (v.1 13) s0)) 10 (itN (s_wane (v.1 3) (v.1 6) s0 k) (itN (s_waneD (v.1 3) (v.1 6) (v.1 7) s0) (g_flow (g_was (v.1 10) (v.1 13) s0) (v.1 3) (v.1 5) (v.1 7) (v.1 4) (v.1 10) s0) k) ((v.1 7 0).toNatClampNeg))) 10 (upd (itN (s_wane (v.1 3) (v.1 6) s0 k) (itN (s_waneD (v.1 3) (v.1 6) (v.1 7) s0) (g_flow (g_was (v.1 10) (v.1 13) s0) (v.1 3) (v.1 5) (v.1 7) (v.1 4) (v.1 10) s0) k) ((v.1 7 0).toNatClampNeg)) (((46 * s0) + 32) + k) (((itN (s_wane (v.1 3) (v.1 6) s0 k) (itN (s_waneD (v.1 3) (v.1 6) (v.1 7) s0) (g_flow (g_was (v.1 10) (v.1 13) s0) (v.1 3) (v.1 5) (v.1 7) (v.1 4) (v.1 10) s0) k) ((v.1 7 0).toNatClampNeg)) (((46 * s0) + 32) + k)) - 0)))] H := hP
            have hD : DD (AA (List.flatten [bX7 a G v])) [bX7 a G (setA (setA (setA v 13 (g_was (v.1 10) (v.1 13) s0)) 10 (itN (s_wane (v.1 3) (v.1 6) s0 k) (itN (s_waneD (v.1 3) (v.1 6) (v.1 7) s0) (g_flow (g_was (v.1 10) (v.1 13) s0) (v.1 3) (v.1 5) (v.1 7) (v.1 4) (v.1 10) s0) k) ((v.1 7 0).toNatClampNeg))) 10 (upd (itN (s_wane (v.1 3) (v.1 6) s0 k) (itN (s_waneD (v.1 3) (v.1 6) (v.1 7) s0) (g_flow (g_was (v.1 10) (v.1 13) s0) (v.1 3) (v.1 5) (v.1 7) (v.1 4) (v.1 10) s0) k) ((v.1 7 0).toNatClampNeg)) (((46 * s0) + 32) + k) (((itN (s_wane (v.1 3) (v.1 6) s0 k) (itN (s_waneD (v.1 3) (v.1 6) (v.1 7) s0) (g_flow (g_was (v.1 10) (v.1 13) s0) (v.1 3) (v.1 5) (v.1 7) (v.1 4) (v.1 10) s0) k) ((v.1 7 0).toNatClampNeg)) (((46 * s0) + 32) + k)) - 0)))] := D_re hD (adc (bX7_ad _ _ _ _) adn)
            refine lv_iinc (v := nI (k + 1)) (lv' := [(3, .int (nI (k + 1))), (4, .int (nI ((v.1 7 0).toNatClampNeg))), (2, .int (46 * (nI s0))), (0, .ref (a 0)), (1, .int (nI s0))]) hx hb dX7_nights_324 hl (k := 1) rfl (nI_1 _) (by decide) rfl (fun ls hl => ?_)
            refine lv_goto (tgt := 192) hx hb dX7_nights_327 (by decide) ?_
            have hP : PP G [bX7 a G (setA (setA v 13 (g_was (v.1 10) (v.1 13) s0)) 10 (itN (s_waneD (v.1 3) (v.1 6) (v.1 7) s0) (g_flow (g_was (v.1 10) (v.1 13) s0) (v.1 3) (v.1 5) (v.1 7) (v.1 4) (v.1 10) s0) (k + 1)))] H := by
              rw [itN_s]
              simp only [s_waneD, if_pos c_10, if_pos c_42, if_neg c_199, if_pos c_213, if_pos c_314]
              try simp only [ov_n1, ov_m1, ov_nc, ov_mc, ov_c] at hP ⊢
              exact hP
            have hD : DD (AA (List.flatten [bX7 a G v])) [bX7 a G (setA (setA v 13 (g_was (v.1 10) (v.1 13) s0)) 10 (itN (s_waneD (v.1 3) (v.1 6) (v.1 7) s0) (g_flow (g_was (v.1 10) (v.1 13) s0) (v.1 3) (v.1 5) (v.1 7) (v.1 4) (v.1 10) s0) (k + 1)))] := D_re hD (adc (bX7_ad _ _ _ _) adn)
            exact ih_192  _ _ _ hP hD hS (show lv_has ls 8 [(3, .int (nI (k + 1))), (2, .int (46 * (nI s0))), (0, .ref (a 0)), (1, .int (nI s0))] from lv_sub hl [0, 2, 3, 4] rfl) 
          · refine lv_iconst (v := 1) hx hb dX7_nights_317 (by decide) ?_
            refine lv_goto (tgt := 322) hx hb dX7_nights_318 (by decide) ?_
            refine lv_isub hx hb dX7_nights_322 ?_
            refine kb_iastN (jn := ((46 * s0) + 32) + k) (n := 552) (f := itN (s_wane (v.1 3) (v.1 6) s0 k) (itN (s_waneD (v.1 3) (v.1 6) (v.1 7) s0) (g_flow (g_was (v.1 10) (v.1 13) s0) (v.1 3) (v.1 5) (v.1 7) (v.1 4) (v.1 10) s0) k) ((v.1 7 0).toNatClampNeg)) hx hb hX hP hD hS 0 9 rfl rfl (by simp only [nI_addE, nI_mulE] <;> rfl) (by omega) (by decide) dX7_nights_323 (bX7_A10 a G (setA (setA v 13 (g_was (v.1 10) (v.1 13) s0)) 10 (itN (s_wane (v.1 3) (v.1 6) s0 k) (itN (s_waneD (v.1 3) (v.1 6) (v.1 7) s0) (g_flow (g_was (v.1 10) (v.1 13) s0) (v.1 3) (v.1 5) (v.1 7) (v.1 4) (v.1 10) s0) k) ((v.1 7 0).toNatClampNeg))) (upd (itN (s_wane (v.1 3) (v.1 6) s0 k) (itN (s_waneD (v.1 3) (v.1 6) (v.1 7) s0) (g_flow (g_was (v.1 10) (v.1 13) s0) (v.1 3) (v.1 5) (v.1 7) (v.1 4) (v.1 10) s0) k) ((v.1 7 0).toNatClampNeg)) (((46 * s0) + 32) + k) (((itN (s_wane (v.1 3) (v.1 6) s0 k) (itN (s_waneD (v.1 3) (v.1 6) (v.1 7) s0) (g_flow (g_was (v.1 10) (v.1 13) s0) (v.1 3) (v.1 5) (v.1 7) (v.1 4) (v.1 10) s0) k) ((v.1 7 0).toNatClampNeg)) (((46 * s0) + 32) + k)) - 1))) (fun H locs hP hD hS => ?_)
            have hP : PP G [bX7 a G (setA (setA (setA v 13 (g_was (v.1 10) (v.1 13) s0)) 10 (itN (s_wane (v.1 3) (v.1 6) s0 k) (itN (s_waneD (v.1 3) (v.1 6) (v.1 7) s0) (g_flow (g_was (v.1 10) (v.1 13) s0) (v.1 3) (v.1 5) (v.1 7) (v.1 4) (v.1 10) s0) k) ((v.1 7 0).toNatClampNeg))) 10 (upd (itN (s_wane (v.1 3) (v.1 6) s0 k) (itN (s_waneD (v.1 3) (v.1 6) (v.1 7) s0) (g_flow (g_was (v.1 10) (v.1 13) s0) (v.1 3) (v.1 5) (v.1 7) (v.1 4) (v.1 10) s0) k) ((v.1 7 0).toNatClampNeg)) (((46 * s0) + 32) + k) (((itN (s_wane (v.1 3) (v.1 6) s0 k) (itN (s_waneD (v.1 3) (v.1 6) (v.1 7) s0) (g_flow (g_was (v.1 10) (v.1 13) s0) (v.1 3) (v.1 5) (v.1 7) (v.1 4) (v.1 10) s0) k) ((v.1 7 0).toNatClampNeg)) (((46 * s0) + 32) + k)) - 1)))] H := hP
            have hD : DD (AA (List.flatten [bX7 a G v])) [bX7 a G (setA (setA (setA v 13 (g_was (v.1 10) (v.1 13) s0)) 10 (itN (s_wane (v.1 3) (v.1 6) s0 k) (itN (s_waneD (v.1 3) (v.1 6) (v.1 7) s0) (g_flow (g_was (v.1 10) (v.1 13) s0) (v.1 3) (v.1 5) (v.1 7) (v.1 4) (v.1 10) s0) k) ((v.1 7 0).toNatClampNeg))) 10 (upd (itN (s_wane (v.1 3) (v.1 6) s0 k) (itN (s_waneD (v.1 3) (v.1 6) (v.1 7) s0) (g_flow (g_was (v.1 10) (v.1 13) s0) (v.1 3) (v.1 5) (v.1 7) (v.1 4) (v.1 10) s0) k) ((v.1 7 0).toNatClampNeg)) (((46 * s0) + 32) + k) (((itN (s_wane (v.1 3) (v.1 6) s0 k) (itN (s_waneD (v.1 3) (v.1 6) (v.1 7) s0) (g_flow (g_was (v.1 10) (v.1 13) s0) (v.1 3) (v.1 5) (v.1 7) (v.1 4) (v.1 10) s0) k) ((v.1 7 0).toNatClampNeg)) (((46 * s0) + 32) + k)) - 1)))] := D_re hD (adc (bX7_ad _ _ _ _) adn)
            refine lv_iinc (v := nI (k + 1)) (lv' := [(3, .int (nI (k + 1))), (4, .int (nI ((v.1 7 0).toNatClampNeg))), (2, .int (46 * (nI s0))), (0, .ref (a 0)), (1, .int (nI s0))]) hx hb dX7_nights_324 hl (k := 1) rfl (nI_1 _) (by decide) rfl (fun ls hl => ?_)
            refine lv_goto (tgt := 192) hx hb dX7_nights_327 (by decide) ?_
            have hP : PP G [bX7 a G (setA (setA v 13 (g_was (v.1 10) (v.1 13) s0)) 10 (itN (s_waneD (v.1 3) (v.1 6) (v.1 7) s0) (g_flow (g_was (v.1 10) (v.1 13) s0) (v.1 3) (v.1 5) (v.1 7) (v.1 4) (v.1 10) s0) (k + 1)))] H := by
              rw [itN_s]
              simp only [s_waneD, if_pos c_10, if_pos c_42, if_neg c_199, if_pos c_213, if_neg c_314]
              try simp only [ov_n1, ov_m1, ov_nc, ov_mc, ov_c] at hP ⊢
              exact hP
            have hD : DD (AA (List.flatten [bX7 a G v])) [bX7 a G (setA (setA v 13 (g_was (v.1 10) (v.1 13) s0)) 10 (itN (s_waneD (v.1 3) (v.1 6) (v.1 7) s0) (g_flow (g_was (v.1 10) (v.1 13) s0) (v.1 3) (v.1 5) (v.1 7) (v.1 4) (v.1 10) s0) (k + 1)))] := D_re hD (adc (bX7_ad _ _ _ _) adn)
            exact ih_192  _ _ _ hP hD hS (show lv_has ls 8 [(3, .int (nI (k + 1))), (2, .int (46 * (nI s0))), (0, .ref (a 0)), (1, .int (nI s0))] from lv_sub hl [0, 2, 3, 4] rfl) 
        · skip
          intro i hk_i ih_205 H locs ls hP hD hS hl 
          refine lv_iload hx hb dX7_nights_205 (lv_at hl 0 rfl) ?_
          refine lv_aload_n hx hb dX7_nights_207 rfl (lv_at hl 3 rfl) ?_
          refine kb_get (own := RX7) (C := RX7) (T := TX7) (N := 19) (v := .ref (a 6)) hx hb hts hin7 hown hX hP 0 rfl rfl rfl 7 (by decide) rfl (by decide +kernel) rfl dX7_nights_208 ?_
          refine lv_iconst (v := 0) hx hb dX7_nights_211 (by decide) ?_
          refine kb_ialdN (jn := 0) (n := 2) (f := v.1 7) hx hb hX hP 0 6 rfl rfl rfl (by omega) (by decide) dX7_nights_212 ?_
          refine lv_icmp_ge (tgt := 291) hx hb dX7_nights_213 (by decide) (fun c_213 => absurd c_213 (lps_c hk_i)) (fun c_213 => ?_)
          refine lv_aload_n hx hb dX7_nights_216 rfl (lv_at hl 3 rfl) ?_
          refine kb_get (own := RX7) (C := RX7) (T := TX7) (N := 19) (v := .ref (a 9)) hx hb hts hin7 hown hX hP 0 rfl rfl rfl 10 (by decide) rfl (by decide +kernel) rfl dX7_nights_217 ?_
          refine lv_iload_n hx hb dX7_nights_220 rfl (lv_at hl 2 rfl) ?_
          refine lv_iconst (v := 4) hx hb dX7_nights_221 (by decide) ?_
          refine lv_iload_n hx hb dX7_nights_222 rfl (lv_at hl 1 rfl) ?_
          refine lv_imul hx hb dX7_nights_223 ?_
          refine lv_iadd hx hb dX7_nights_224 ?_
          refine lv_iload hx hb dX7_nights_225 (lv_at hl 0 rfl) ?_
          refine lv_iadd hx hb dX7_nights_227 ?_
          refine kb_ialdN (jn := ((46 * s0) + (4 * k)) + i) (n := 552) (f := itN (s_wane (v.1 3) (v.1 6) s0 k) (itN (s_waneD (v.1 3) (v.1 6) (v.1 7) s0) (g_flow (g_was (v.1 10) (v.1 13) s0) (v.1 3) (v.1 5) (v.1 7) (v.1 4) (v.1 10) s0) k) i) hx hb hX hP 0 9 rfl rfl (by simp only [nI_addE, nI_mulE] <;> rfl) (by omega) (by decide) dX7_nights_228 ?_
          refine lv_aload_n hx hb dX7_nights_229 rfl (lv_at hl 3 rfl) ?_
          refine kb_get (own := RX7) (C := RX7) (T := TX7) (N := 19) (v := .ref (a 2)) hx hb hts hin7 hown hX hP 0 rfl rfl rfl 3 (by decide) rfl (by decide +kernel) rfl dX7_nights_230 ?_
          refine lv_iconst (v := 2) hx hb dX7_nights_233 (by decide) ?_
          refine kb_ialdN (jn := 2) (n := 10) (f := v.1 3) hx hb hX hP 0 2 rfl rfl rfl (by omega) (by decide) dX7_nights_234 ?_
          refine lv_isub hx hb dX7_nights_235 ?_
          refine lv_istore (lv' := [(5, .int (((itN (s_wane (v.1 3) (v.1 6) s0 k) (itN (s_waneD (v.1 3) (v.1 6) (v.1 7) s0) (g_flow (g_was (v.1 10) (v.1 13) s0) (v.1 3) (v.1 5) (v.1 7) (v.1 4) (v.1 10) s0) k) i) (((46 * s0) + (4 * k)) + i)) - ((v.1 3) 2))), (4, .int (nI i)), (3, .int (nI k)), (2, .int (46 * (nI s0))), (0, .ref (a 0)), (1, .int (nI s0))]) hx hb dX7_nights_236 hl (by decide) rfl (fun ls hl => ?_)
          refine lv_iload hx hb dX7_nights_238 (lv_at hl 0 rfl) ?_
          refine lv_if_ge (tgt := 247) hx hb dX7_nights_240 (by decide) (fun c_240 => ?_) (fun c_240 => ?_)
          · refine lv_iload hx hb dX7_nights_247 (lv_at hl 0 rfl) ?_
            refine lv_aload_n hx hb dX7_nights_249 rfl (lv_at hl 4 rfl) ?_
            refine kb_get (own := RX7) (C := RX7) (T := TX7) (N := 19) (v := .ref (a 5)) hx hb hts hin7 hown hX hP 0 rfl rfl rfl 6 (by decide) rfl (by decide +kernel) rfl dX7_nights_250 ?_
            refine lv_iload_n hx hb dX7_nights_253 rfl (lv_at hl 2 rfl) ?_
            refine kb_ialdN (jn := k) (n := 16) (f := v.1 6) hx hb hX hP 0 5 rfl rfl rfl (by omega) (by decide) dX7_nights_254 ?_
            refine lv_iadd hx hb dX7_nights_255 ?_
            refine lv_istore (lv' := [(5, .int ((((itN (s_wane (v.1 3) (v.1 6) s0 k) (itN (s_waneD (v.1 3) (v.1 6) (v.1 7) s0) (g_flow (g_was (v.1 10) (v.1 13) s0) (v.1 3) (v.1 5) (v.1 7) (v.1 4) (v.1 10) s0) k) i) (((46 * s0) + (4 * k)) + i)) - ((v.1 3) 2)) + ((v.1 6) k))), (4, .int (nI i)), (3, .int (nI k)), (2, .int (46 * (nI s0))), (0, .ref (a 0)), (1, .int (nI s0))]) hx hb dX7_nights_256 hl (by decide) rfl (fun ls hl => ?_)
            refine lv_aload_n hx hb dX7_nights_258 rfl (lv_at hl 4 rfl) ?_
            refine kb_get (own := RX7) (C := RX7) (T := TX7) (N := 19) (v := .ref (a 9)) hx hb hts hin7 hown hX hP 0 rfl rfl rfl 10 (by decide) rfl (by decide +kernel) rfl dX7_nights_259 ?_
            refine lv_iload_n hx hb dX7_nights_262 rfl (lv_at hl 3 rfl) ?_
            refine lv_iconst (v := 4) hx hb dX7_nights_263 (by decide) ?_
            refine lv_iload_n hx hb dX7_nights_264 rfl (lv_at hl 2 rfl) ?_
            refine lv_imul hx hb dX7_nights_265 ?_
            refine lv_iadd hx hb dX7_nights_266 ?_
            refine lv_iload hx hb dX7_nights_267 (lv_at hl 1 rfl) ?_
            refine lv_iadd hx hb dX7_nights_269 ?_
            refine lv_iload hx hb dX7_nights_270 (lv_at hl 0 rfl) ?_
            refine lv_bipush (v := 99) hx hb dX7_nights_272 (by decide) ?_
            refine lv_icmp_le (tgt := 282) hx hb dX7_nights_274 (by decide) (fun c_274 => ?_) (fun c_274 => ?_)
            · refine lv_iload hx hb dX7_nights_282 (lv_at hl 0 rfl) ?_
              refine kb_iastN (jn := ((46 * s0) + (4 * k)) + i) (n := 552) (f := itN (s_wane (v.1 3) (v.1 6) s0 k) (itN (s_waneD (v.1 3) (v.1 6) (v.1 7) s0) (g_flow (g_was (v.1 10) (v.1 13) s0) (v.1 3) (v.1 5) (v.1 7) (v.1 4) (v.1 10) s0) k) i) hx hb hX hP hD hS 0 9 rfl rfl (by simp only [nI_addE, nI_mulE] <;> rfl) (by omega) (by decide) dX7_nights_284 (bX7_A10 a G (setA (setA v 13 (g_was (v.1 10) (v.1 13) s0)) 10 (itN (s_wane (v.1 3) (v.1 6) s0 k) (itN (s_waneD (v.1 3) (v.1 6) (v.1 7) s0) (g_flow (g_was (v.1 10) (v.1 13) s0) (v.1 3) (v.1 5) (v.1 7) (v.1 4) (v.1 10) s0) k) i)) (upd (itN (s_wane (v.1 3) (v.1 6) s0 k) (itN (s_waneD (v.1 3) (v.1 6) (v.1 7) s0) (g_flow (g_was (v.1 10) (v.1 13) s0) (v.1 3) (v.1 5) (v.1 7) (v.1 4) (v.1 10) s0) k) i) (((46 * s0) + (4 * k)) + i) ((((itN (s_wane (v.1 3) (v.1 6) s0 k) (itN (s_waneD (v.1 3) (v.1 6) (v.1 7) s0) (g_flow (g_was (v.1 10) (v.1 13) s0) (v.1 3) (v.1 5) (v.1 7) (v.1 4) (v.1 10) s0) k) i) (((46 * s0) + (4 * k)) + i)) - ((v.1 3) 2)) + ((v.1 6) k)))) (fun H locs hP hD hS => ?_)
              have hP : PP G [bX7 a G (setA (setA (setA v 13 (g_was (v.1 10) (v.1 13) s0)) 10 (itN (s_wane (v.1 3) (v.1 6) s0 k) (itN (s_waneD (v.1 3) (v.1 6) (v.1 7) s0) (g_flow (g_was (v.1 10) (v.1 13) s0) (v.1 3) (v.1 5) (v.1 7) (v.1 4) (v.1 10) s0) k) i)) 10 (upd (itN (s_wane (v.1 3) (v.1 6) s0 k) (itN (s_waneD (v.1 3) (v.1 6) (v.1 7) s0) (g_flow (g_was (v.1 10) (v.1 13) s0) (v.1 3) (v.1 5) (v.1 7) (v.1 4) (v.1 10) s0) k) i) (((46 * s0) + (4 * k)) + i) ((((itN (s_wane (v.1 3) (v.1 6) s0 k) (itN (s_waneD (v.1 3) (v.1 6) (v.1 7) s0) (g_flow (g_was (v.1 10) (v.1 13) s0) (v.1 3) (v.1 5) (v.1 7) (v.1 4) (v.1 10) s0) k) i) (((46 * s0) + (4 * k)) + i)) - ((v.1 3) 2)) + ((v.1 6) k))))] H := hP
              have hD : DD (AA (List.flatten [bX7 a G v])) [bX7 a G (setA (setA (setA v 13 (g_was (v.1 10) (v.1 13) s0)) 10 (itN (s_wane (v.1 3) (v.1 6) s0 k) (itN (s_waneD (v.1 3) (v.1 6) (v.1 7) s0) (g_flow (g_was (v.1 10) (v.1 13) s0) (v.1 3) (v.1 5) (v.1 7) (v.1 4) (v.1 10) s0) k) i)) 10 (upd (itN (s_wane (v.1 3) (v.1 6) s0 k) (itN (s_waneD (v.1 3) (v.1 6) (v.1 7) s0) (g_flow (g_was (v.1 10) (v.1 13) s0) (v.1 3) (v.1 5) (v.1 7) (v.1 4) (v.1 10) s0) k) i) (((46 * s0) + (4 * k)) + i) ((((itN (s_wane (v.1 3) (v.1 6) s0 k) (itN (s_waneD (v.1 3) (v.1 6) (v.1 7) s0) (g_flow (g_was (v.1 10) (v.1 13) s0) (v.1 3) (v.1 5) (v.1 7) (v.1 4) (v.1 10) s0) k) i) (((46 * s0) + (4 * k)) + i)) - ((v.1 3) 2)) + ((v.1 6) k))))] := D_re hD (adc (bX7_ad _ _ _ _) adn)
              refine lv_iinc (v := nI (i + 1)) (lv' := [(4, .int (nI (i + 1))), (5, .int ((((itN (s_wane (v.1 3) (v.1 6) s0 k) (itN (s_waneD (v.1 3) (v.1 6) (v.1 7) s0) (g_flow (g_was (v.1 10) (v.1 13) s0) (v.1 3) (v.1 5) (v.1 7) (v.1 4) (v.1 10) s0) k) i) (((46 * s0) + (4 * k)) + i)) - ((v.1 3) 2)) + ((v.1 6) k))), (3, .int (nI k)), (2, .int (46 * (nI s0))), (0, .ref (a 0)), (1, .int (nI s0))]) hx hb dX7_nights_285 hl (k := 1) rfl (nI_1 _) (by decide) rfl (fun ls hl => ?_)
              refine lv_goto (tgt := 205) hx hb dX7_nights_288 (by decide) ?_
              have hP : PP G [bX7 a G (setA (setA v 13 (g_was (v.1 10) (v.1 13) s0)) 10 (itN (s_wane (v.1 3) (v.1 6) s0 k) (itN (s_waneD (v.1 3) (v.1 6) (v.1 7) s0) (g_flow (g_was (v.1 10) (v.1 13) s0) (v.1 3) (v.1 5) (v.1 7) (v.1 4) (v.1 10) s0) k) (i + 1)))] H := by
                rw [itN_s]
                simp only [s_wane, if_pos c_10, if_pos c_42, if_neg c_199, if_neg c_213, if_pos c_240, if_pos c_274]
                try simp only [ov_n1, ov_m1, ov_nc, ov_mc, ov_c] at hP ⊢
                exact hP
              have hD : DD (AA (List.flatten [bX7 a G v])) [bX7 a G (setA (setA v 13 (g_was (v.1 10) (v.1 13) s0)) 10 (itN (s_wane (v.1 3) (v.1 6) s0 k) (itN (s_waneD (v.1 3) (v.1 6) (v.1 7) s0) (g_flow (g_was (v.1 10) (v.1 13) s0) (v.1 3) (v.1 5) (v.1 7) (v.1 4) (v.1 10) s0) k) (i + 1)))] := D_re hD (adc (bX7_ad _ _ _ _) adn)
              exact ih_205  _ _ _ hP hD hS (show lv_has ls 8 [(4, .int (nI (i + 1))), (3, .int (nI k)), (2, .int (46 * (nI s0))), (0, .ref (a 0)), (1, .int (nI s0))] from lv_sub hl [0, 2, 3, 4, 5] rfl) 
            · refine lv_bipush (v := 99) hx hb dX7_nights_277 (by decide) ?_
              refine lv_goto (tgt := 284) hx hb dX7_nights_279 (by decide) ?_
              refine kb_iastN (jn := ((46 * s0) + (4 * k)) + i) (n := 552) (f := itN (s_wane (v.1 3) (v.1 6) s0 k) (itN (s_waneD (v.1 3) (v.1 6) (v.1 7) s0) (g_flow (g_was (v.1 10) (v.1 13) s0) (v.1 3) (v.1 5) (v.1 7) (v.1 4) (v.1 10) s0) k) i) hx hb hX hP hD hS 0 9 rfl rfl (by simp only [nI_addE, nI_mulE] <;> rfl) (by omega) (by decide) dX7_nights_284 (bX7_A10 a G (setA (setA v 13 (g_was (v.1 10) (v.1 13) s0)) 10 (itN (s_wane (v.1 3) (v.1 6) s0 k) (itN (s_waneD (v.1 3) (v.1 6) (v.1 7) s0) (g_flow (g_was (v.1 10) (v.1 13) s0) (v.1 3) (v.1 5) (v.1 7) (v.1 4) (v.1 10) s0) k) i)) (upd (itN (s_wane (v.1 3) (v.1 6) s0 k) (itN (s_waneD (v.1 3) (v.1 6) (v.1 7) s0) (g_flow (g_was (v.1 10) (v.1 13) s0) (v.1 3) (v.1 5) (v.1 7) (v.1 4) (v.1 10) s0) k) i) (((46 * s0) + (4 * k)) + i) 99)) (fun H locs hP hD hS => ?_)
              have hP : PP G [bX7 a G (setA (setA (setA v 13 (g_was (v.1 10) (v.1 13) s0)) 10 (itN (s_wane (v.1 3) (v.1 6) s0 k) (itN (s_waneD (v.1 3) (v.1 6) (v.1 7) s0) (g_flow (g_was (v.1 10) (v.1 13) s0) (v.1 3) (v.1 5) (v.1 7) (v.1 4) (v.1 10) s0) k) i)) 10 (upd (itN (s_wane (v.1 3) (v.1 6) s0 k) (itN (s_waneD (v.1 3) (v.1 6) (v.1 7) s0) (g_flow (g_was (v.1 10) (v.1 13) s0) (v.1 3) (v.1 5) (v.1 7) (v.1 4) (v.1 10) s0) k) i) (((46 * s0) + (4 * k)) + i) 99))] H := hP
              have hD : DD (AA (List.flatten [bX7 a G v])) [bX7 a G (setA (setA (setA v 13 (g_was (v.1 10) (v.1 13) s0)) 10 (itN (s_wane (v.1 3) (v.1 6) s0 k) (itN (s_waneD (v.1 3) (v.1 6) (v.1 7) s0) (g_flow (g_was (v.1 10) (v.1 13) s0) (v.1 3) (v.1 5) (v.1 7) (v.1 4) (v.1 10) s0) k) i)) 10 (upd (itN (s_wane (v.1 3) (v.1 6) s0 k) (itN (s_waneD (v.1 3) (v.1 6) (v.1 7) s0) (g_flow (g_was (v.1 10) (v.1 13) s0) (v.1 3) (v.1 5) (v.1 7) (v.1 4) (v.1 10) s0) k) i) (((46 * s0) + (4 * k)) + i) 99))] := D_re hD (adc (bX7_ad _ _ _ _) adn)
              refine lv_iinc (v := nI (i + 1)) (lv' := [(4, .int (nI (i + 1))), (5, .int ((((itN (s_wane (v.1 3) (v.1 6) s0 k) (itN (s_waneD (v.1 3) (v.1 6) (v.1 7) s0) (g_flow (g_was (v.1 10) (v.1 13) s0) (v.1 3) (v.1 5) (v.1 7) (v.1 4) (v.1 10) s0) k) i) (((46 * s0) + (4 * k)) + i)) - ((v.1 3) 2)) + ((v.1 6) k))), (3, .int (nI k)), (2, .int (46 * (nI s0))), (0, .ref (a 0)), (1, .int (nI s0))]) hx hb dX7_nights_285 hl (k := 1) rfl (nI_1 _) (by decide) rfl (fun ls hl => ?_)
              refine lv_goto (tgt := 205) hx hb dX7_nights_288 (by decide) ?_
              have hP : PP G [bX7 a G (setA (setA v 13 (g_was (v.1 10) (v.1 13) s0)) 10 (itN (s_wane (v.1 3) (v.1 6) s0 k) (itN (s_waneD (v.1 3) (v.1 6) (v.1 7) s0) (g_flow (g_was (v.1 10) (v.1 13) s0) (v.1 3) (v.1 5) (v.1 7) (v.1 4) (v.1 10) s0) k) (i + 1)))] H := by
                rw [itN_s]
                simp only [s_wane, if_pos c_10, if_pos c_42, if_neg c_199, if_neg c_213, if_pos c_240, if_neg c_274]
                try simp only [ov_n1, ov_m1, ov_nc, ov_mc, ov_c] at hP ⊢
                exact hP
              have hD : DD (AA (List.flatten [bX7 a G v])) [bX7 a G (setA (setA v 13 (g_was (v.1 10) (v.1 13) s0)) 10 (itN (s_wane (v.1 3) (v.1 6) s0 k) (itN (s_waneD (v.1 3) (v.1 6) (v.1 7) s0) (g_flow (g_was (v.1 10) (v.1 13) s0) (v.1 3) (v.1 5) (v.1 7) (v.1 4) (v.1 10) s0) k) (i + 1)))] := D_re hD (adc (bX7_ad _ _ _ _) adn)
              exact ih_205  _ _ _ hP hD hS (show lv_has ls 8 [(4, .int (nI (i + 1))), (3, .int (nI k)), (2, .int (46 * (nI s0))), (0, .ref (a 0)), (1, .int (nI s0))] from lv_sub hl [0, 2, 3, 4, 5] rfl) 
          · refine lv_iconst (v := 0) hx hb dX7_nights_243 (by decide) ?_
            refine lv_goto (tgt := 249) hx hb dX7_nights_244 (by decide) ?_
            refine lv_aload_n hx hb dX7_nights_249 rfl (lv_at hl 4 rfl) ?_
            refine kb_get (own := RX7) (C := RX7) (T := TX7) (N := 19) (v := .ref (a 5)) hx hb hts hin7 hown hX hP 0 rfl rfl rfl 6 (by decide) rfl (by decide +kernel) rfl dX7_nights_250 ?_
            refine lv_iload_n hx hb dX7_nights_253 rfl (lv_at hl 2 rfl) ?_
            refine kb_ialdN (jn := k) (n := 16) (f := v.1 6) hx hb hX hP 0 5 rfl rfl rfl (by omega) (by decide) dX7_nights_254 ?_
            refine lv_iadd hx hb dX7_nights_255 ?_
            refine lv_istore (lv' := [(5, .int (0 + ((v.1 6) k))), (4, .int (nI i)), (3, .int (nI k)), (2, .int (46 * (nI s0))), (0, .ref (a 0)), (1, .int (nI s0))]) hx hb dX7_nights_256 hl (by decide) rfl (fun ls hl => ?_)
            refine lv_aload_n hx hb dX7_nights_258 rfl (lv_at hl 4 rfl) ?_
            refine kb_get (own := RX7) (C := RX7) (T := TX7) (N := 19) (v := .ref (a 9)) hx hb hts hin7 hown hX hP 0 rfl rfl rfl 10 (by decide) rfl (by decide +kernel) rfl dX7_nights_259 ?_
            refine lv_iload_n hx hb dX7_nights_262 rfl (lv_at hl 3 rfl) ?_
            refine lv_iconst (v := 4) hx hb dX7_nights_263 (by decide) ?_
            refine lv_iload_n hx hb dX7_nights_264 rfl (lv_at hl 2 rfl) ?_
            refine lv_imul hx hb dX7_nights_265 ?_
            refine lv_iadd hx hb dX7_nights_266 ?_
            refine lv_iload hx hb dX7_nights_267 (lv_at hl 1 rfl) ?_
            refine lv_iadd hx hb dX7_nights_269 ?_
            refine lv_iload hx hb dX7_nights_270 (lv_at hl 0 rfl) ?_
            refine lv_bipush (v := 99) hx hb dX7_nights_272 (by decide) ?_
            refine lv_icmp_le (tgt := 282) hx hb dX7_nights_274 (by decide) (fun c_274 => ?_) (fun c_274 => ?_)
            · refine lv_iload hx hb dX7_nights_282 (lv_at hl 0 rfl) ?_
              refine kb_iastN (jn := ((46 * s0) + (4 * k)) + i) (n := 552) (f := itN (s_wane (v.1 3) (v.1 6) s0 k) (itN (s_waneD (v.1 3) (v.1 6) (v.1 7) s0) (g_flow (g_was (v.1 10) (v.1 13) s0) (v.1 3) (v.1 5) (v.1 7) (v.1 4) (v.1 10) s0) k) i) hx hb hX hP hD hS 0 9 rfl rfl (by simp only [nI_addE, nI_mulE] <;> rfl) (by omega) (by decide) dX7_nights_284 (bX7_A10 a G (setA (setA v 13 (g_was (v.1 10) (v.1 13) s0)) 10 (itN (s_wane (v.1 3) (v.1 6) s0 k) (itN (s_waneD (v.1 3) (v.1 6) (v.1 7) s0) (g_flow (g_was (v.1 10) (v.1 13) s0) (v.1 3) (v.1 5) (v.1 7) (v.1 4) (v.1 10) s0) k) i)) (upd (itN (s_wane (v.1 3) (v.1 6) s0 k) (itN (s_waneD (v.1 3) (v.1 6) (v.1 7) s0) (g_flow (g_was (v.1 10) (v.1 13) s0) (v.1 3) (v.1 5) (v.1 7) (v.1 4) (v.1 10) s0) k) i) (((46 * s0) + (4 * k)) + i) (0 + ((v.1 6) k)))) (fun H locs hP hD hS => ?_)
              have hP : PP G [bX7 a G (setA (setA (setA v 13 (g_was (v.1 10) (v.1 13) s0)) 10 (itN (s_wane (v.1 3) (v.1 6) s0 k) (itN (s_waneD (v.1 3) (v.1 6) (v.1 7) s0) (g_flow (g_was (v.1 10) (v.1 13) s0) (v.1 3) (v.1 5) (v.1 7) (v.1 4) (v.1 10) s0) k) i)) 10 (upd (itN (s_wane (v.1 3) (v.1 6) s0 k) (itN (s_waneD (v.1 3) (v.1 6) (v.1 7) s0) (g_flow (g_was (v.1 10) (v.1 13) s0) (v.1 3) (v.1 5) (v.1 7) (v.1 4) (v.1 10) s0) k) i) (((46 * s0) + (4 * k)) + i) (0 + ((v.1 6) k))))] H := hP
              have hD : DD (AA (List.flatten [bX7 a G v])) [bX7 a G (setA (setA (setA v 13 (g_was (v.1 10) (v.1 13) s0)) 10 (itN (s_wane (v.1 3) (v.1 6) s0 k) (itN (s_waneD (v.1 3) (v.1 6) (v.1 7) s0) (g_flow (g_was (v.1 10) (v.1 13) s0) (v.1 3) (v.1 5) (v.1 7) (v.1 4) (v.1 10) s0) k) i)) 10 (upd (itN (s_wane (v.1 3) (v.1 6) s0 k) (itN (s_waneD (v.1 3) (v.1 6) (v.1 7) s0) (g_flow (g_was (v.1 10) (v.1 13) s0) (v.1 3) (v.1 5) (v.1 7) (v.1 4) (v.1 10) s0) k) i) (((46 * s0) + (4 * k)) + i) (0 + ((v.1 6) k))))] := D_re hD (adc (bX7_ad _ _ _ _) adn)
              refine lv_iinc (v := nI (i + 1)) (lv' := [(4, .int (nI (i + 1))), (5, .int (0 + ((v.1 6) k))), (3, .int (nI k)), (2, .int (46 * (nI s0))), (0, .ref (a 0)), (1, .int (nI s0))]) hx hb dX7_nights_285 hl (k := 1) rfl (nI_1 _) (by decide) rfl (fun ls hl => ?_)
              refine lv_goto (tgt := 205) hx hb dX7_nights_288 (by decide) ?_
              have hP : PP G [bX7 a G (setA (setA v 13 (g_was (v.1 10) (v.1 13) s0)) 10 (itN (s_wane (v.1 3) (v.1 6) s0 k) (itN (s_waneD (v.1 3) (v.1 6) (v.1 7) s0) (g_flow (g_was (v.1 10) (v.1 13) s0) (v.1 3) (v.1 5) (v.1 7) (v.1 4) (v.1 10) s0) k) (i + 1)))] H := by
                rw [itN_s]
                simp only [s_wane, if_pos c_10, if_pos c_42, if_neg c_199, if_neg c_213, if_neg c_240, if_pos c_274]
                try simp only [ov_n1, ov_m1, ov_nc, ov_mc, ov_c] at hP ⊢
                exact hP
              have hD : DD (AA (List.flatten [bX7 a G v])) [bX7 a G (setA (setA v 13 (g_was (v.1 10) (v.1 13) s0)) 10 (itN (s_wane (v.1 3) (v.1 6) s0 k) (itN (s_waneD (v.1 3) (v.1 6) (v.1 7) s0) (g_flow (g_was (v.1 10) (v.1 13) s0) (v.1 3) (v.1 5) (v.1 7) (v.1 4) (v.1 10) s0) k) (i + 1)))] := D_re hD (adc (bX7_ad _ _ _ _) adn)
              exact ih_205  _ _ _ hP hD hS (show lv_has ls 8 [(4, .int (nI (i + 1))), (3, .int (nI k)), (2, .int (46 * (nI s0))), (0, .ref (a 0)), (1, .int (nI s0))] from lv_sub hl [0, 2, 3, 4, 5] rfl) 
            · refine lv_bipush (v := 99) hx hb dX7_nights_277 (by decide) ?_
              refine lv_goto (tgt := 284) hx hb dX7_nights_279 (by decide) ?_
              refine kb_iastN (jn := ((46 * s0) + (4 * k)) + i) (n := 552) (f := itN (s_wane (v.1 3) (v.1 6) s0 k) (itN (s_waneD (v.1 3) (v.1 6) (v.1 7) s0) (g_flow (g_was (v.1 10) (v.1 13) s0) (v.1 3) (v.1 5) (v.1 7) (v.1 4) (v.1 10) s0) k) i) hx hb hX hP hD hS 0 9 rfl rfl (by simp only [nI_addE, nI_mulE] <;> rfl) (by omega) (by decide) dX7_nights_284 (bX7_A10 a G (setA (setA v 13 (g_was (v.1 10) (v.1 13) s0)) 10 (itN (s_wane (v.1 3) (v.1 6) s0 k) (itN (s_waneD (v.1 3) (v.1 6) (v.1 7) s0) (g_flow (g_was (v.1 10) (v.1 13) s0) (v.1 3) (v.1 5) (v.1 7) (v.1 4) (v.1 10) s0) k) i)) (upd (itN (s_wane (v.1 3) (v.1 6) s0 k) (itN (s_waneD (v.1 3) (v.1 6) (v.1 7) s0) (g_flow (g_was (v.1 10) (v.1 13) s0) (v.1 3) (v.1 5) (v.1 7) (v.1 4) (v.1 10) s0) k) i) (((46 * s0) + (4 * k)) + i) 99)) (fun H locs hP hD hS => ?_)
              have hP : PP G [bX7 a G (setA (setA (setA v 13 (g_was (v.1 10) (v.1 13) s0)) 10 (itN (s_wane (v.1 3) (v.1 6) s0 k) (itN (s_waneD (v.1 3) (v.1 6) (v.1 7) s0) (g_flow (g_was (v.1 10) (v.1 13) s0) (v.1 3) (v.1 5) (v.1 7) (v.1 4) (v.1 10) s0) k) i)) 10 (upd (itN (s_wane (v.1 3) (v.1 6) s0 k) (itN (s_waneD (v.1 3) (v.1 6) (v.1 7) s0) (g_flow (g_was (v.1 10) (v.1 13) s0) (v.1 3) (v.1 5) (v.1 7) (v.1 4) (v.1 10) s0) k) i) (((46 * s0) + (4 * k)) + i) 99))] H := hP
              have hD : DD (AA (List.flatten [bX7 a G v])) [bX7 a G (setA (setA (setA v 13 (g_was (v.1 10) (v.1 13) s0)) 10 (itN (s_wane (v.1 3) (v.1 6) s0 k) (itN (s_waneD (v.1 3) (v.1 6) (v.1 7) s0) (g_flow (g_was (v.1 10) (v.1 13) s0) (v.1 3) (v.1 5) (v.1 7) (v.1 4) (v.1 10) s0) k) i)) 10 (upd (itN (s_wane (v.1 3) (v.1 6) s0 k) (itN (s_waneD (v.1 3) (v.1 6) (v.1 7) s0) (g_flow (g_was (v.1 10) (v.1 13) s0) (v.1 3) (v.1 5) (v.1 7) (v.1 4) (v.1 10) s0) k) i) (((46 * s0) + (4 * k)) + i) 99))] := D_re hD (adc (bX7_ad _ _ _ _) adn)
              refine lv_iinc (v := nI (i + 1)) (lv' := [(4, .int (nI (i + 1))), (5, .int (0 + ((v.1 6) k))), (3, .int (nI k)), (2, .int (46 * (nI s0))), (0, .ref (a 0)), (1, .int (nI s0))]) hx hb dX7_nights_285 hl (k := 1) rfl (nI_1 _) (by decide) rfl (fun ls hl => ?_)
              refine lv_goto (tgt := 205) hx hb dX7_nights_288 (by decide) ?_
              have hP : PP G [bX7 a G (setA (setA v 13 (g_was (v.1 10) (v.1 13) s0)) 10 (itN (s_wane (v.1 3) (v.1 6) s0 k) (itN (s_waneD (v.1 3) (v.1 6) (v.1 7) s0) (g_flow (g_was (v.1 10) (v.1 13) s0) (v.1 3) (v.1 5) (v.1 7) (v.1 4) (v.1 10) s0) k) (i + 1)))] H := by
                rw [itN_s]
                simp only [s_wane, if_pos c_10, if_pos c_42, if_neg c_199, if_neg c_213, if_neg c_240, if_neg c_274]
                try simp only [ov_n1, ov_m1, ov_nc, ov_mc, ov_c] at hP ⊢
                exact hP
              have hD : DD (AA (List.flatten [bX7 a G v])) [bX7 a G (setA (setA v 13 (g_was (v.1 10) (v.1 13) s0)) 10 (itN (s_wane (v.1 3) (v.1 6) s0 k) (itN (s_waneD (v.1 3) (v.1 6) (v.1 7) s0) (g_flow (g_was (v.1 10) (v.1 13) s0) (v.1 3) (v.1 5) (v.1 7) (v.1 4) (v.1 10) s0) k) (i + 1)))] := D_re hD (adc (bX7_ad _ _ _ _) adn)
              exact ih_205  _ _ _ hP hD hS (show lv_has ls 8 [(4, .int (nI (i + 1))), (3, .int (nI k)), (2, .int (46 * (nI s0))), (0, .ref (a 0)), (1, .int (nI s0))] from lv_sub hl [0, 2, 3, 4, 5] rfl) 
    · skip
      intro k hk_k ih_35 H locs ls hP hD hS hl 
      refine lv_iload_n hx hb dX7_nights_35 rfl (lv_at hl 0 rfl) ?_
      refine lv_aload_n hx hb dX7_nights_36 rfl (lv_at hl 2 rfl) ?_
      refine kb_get (own := RX7) (C := RX7) (T := TX7) (N := 19) (v := .ref (a 3)) hx hb hts hin7 hown hX hP 0 rfl rfl rfl 4 (by decide) rfl (by decide +kernel) rfl dX7_nights_37 ?_
      refine lv_iconst (v := 0) hx hb dX7_nights_40 (by decide) ?_
      refine kb_ialdN (jn := 0) (n := 2) (f := v.1 4) hx hb hX hP 0 3 rfl rfl rfl (by omega) (by decide) dX7_nights_41 ?_
      refine lv_icmp_ge (tgt := 190) hx hb dX7_nights_42 (by decide) (fun c_42 => absurd c_42 (lps_c hk_k)) (fun c_42 => ?_)
      refine lv_aload_n hx hb dX7_nights_45 rfl (lv_at hl 2 rfl) ?_
      refine kb_get (own := RX7) (C := RX7) (T := TX7) (N := 19) (v := .ref (a 4)) hx hb hts hin7 hown hX hP 0 rfl rfl rfl 5 (by decide) rfl (by decide +kernel) rfl dX7_nights_46 ?_
      refine lv_iconst (v := 3) hx hb dX7_nights_49 (by decide) ?_
      refine lv_iload_n hx hb dX7_nights_50 rfl (lv_at hl 0 rfl) ?_
      refine lv_imul hx hb dX7_nights_51 ?_
      refine lv_iconst (v := 2) hx hb dX7_nights_52 (by decide) ?_
      refine lv_iadd hx hb dX7_nights_53 ?_
      refine kb_ialdN (jn := (3 * k) + 2) (n := 48) (f := v.1 5) hx hb hX hP 0 4 rfl rfl (by simp only [nI_addE, nI_mulE] <;> rfl) (by omega) (by decide) dX7_nights_54 ?_
      refine kb_nat ((cl_of_vp (hRx k hk_k)).1) ?_
      refine lv_istore (lv' := [(4, .int (nI ((v.1 5) ((3 * k) + 2)).toNatClampNeg)), (3, .int (nI k)), (2, .int (46 * (nI s0))), (0, .ref (a 0)), (1, .int (nI s0))]) hx hb dX7_nights_55 hl (by decide) rfl (fun ls hl => ?_)
      have hbx := (cl_of_vp (hRx k hk_k)).2
      refine lv_iload hx hb dX7_nights_57 (lv_at hl 0 rfl) ?_
      refine lv_iload_n hx hb dX7_nights_59 rfl (lv_at hl 1 rfl) ?_
      refine lv_icmp_eq (tgt := 96) hx hb dX7_nights_60 (by decide) (fun c_60 => ?_) (fun c_60 => ?_)
      · refine lv_iconst (v := 0) hx hb dX7_nights_96 (by decide) ?_
        refine lv_istore (lv' := [(5, .int 0), (4, .int (nI ((v.1 5) ((3 * k) + 2)).toNatClampNeg)), (3, .int (nI k)), (2, .int (46 * (nI s0))), (0, .ref (a 0)), (1, .int (nI s0))]) hx hb dX7_nights_97 hl (by decide) rfl (fun ls hl => ?_)
        refine lv_iconst (v := 0) hx hb dX7_nights_99 (by decide) ?_
        refine lv_istore (lv' := [(6, .int 0), (5, .int 0), (4, .int (nI ((v.1 5) ((3 * k) + 2)).toNatClampNeg)), (3, .int (nI k)), (2, .int (46 * (nI s0))), (0, .ref (a 0)), (1, .int (nI s0))]) hx hb dX7_nights_100 hl (by decide) rfl (fun ls hl => ?_)
        refine lv_iload hx hb dX7_nights_102 (lv_at hl 0 rfl) ?_
        refine lv_aload_n hx hb dX7_nights_104 rfl (lv_at hl 5 rfl) ?_
        refine kb_get (own := RX7) (C := RX7) (T := TX7) (N := 19) (v := .ref (a 6)) hx hb hts hin7 hown hX hP 0 rfl rfl rfl 7 (by decide) rfl (by decide +kernel) rfl dX7_nights_105 ?_
        refine lv_iconst (v := 0) hx hb dX7_nights_108 (by decide) ?_
        refine kb_ialdN (jn := 0) (n := 2) (f := v.1 7) hx hb hX hP 0 6 rfl rfl rfl (by omega) (by decide) dX7_nights_109 ?_
        refine lv_icmp_ge (tgt := 184) hx hb dX7_nights_110 (by decide) (fun c_110 => ?_) (fun c_110 => ?_)
        · refine lv_iinc (v := nI (k + 1)) (lv' := [(3, .int (nI (k + 1))), (6, .int 0), (5, .int 0), (4, .int (nI ((v.1 5) ((3 * k) + 2)).toNatClampNeg)), (2, .int (46 * (nI s0))), (0, .ref (a 0)), (1, .int (nI s0))]) hx hb dX7_nights_184 hl (k := 3) rfl (nI_1 _) (by decide) rfl (fun ls hl => ?_)
          refine lv_goto (tgt := 35) hx hb dX7_nights_187 (by decide) ?_
          have hP : PP G [bX7 a G (setA (setA v 13 (g_was (v.1 10) (v.1 13) s0)) 10 (itN (s_flow (g_was (v.1 10) (v.1 13) s0) (v.1 3) (v.1 5) (v.1 7) s0) (v.1 10) (k + 1)))] H := by
            rw [itN_s]
            simp only [s_flow, if_pos c_10, if_neg c_42, if_pos c_60, if_pos c_110]
            try simp only [ov_n1, ov_m1, ov_nc, ov_mc, ov_c] at hP ⊢
            exact hP
          have hD : DD (AA (List.flatten [bX7 a G v])) [bX7 a G (setA (setA v 13 (g_was (v.1 10) (v.1 13) s0)) 10 (itN (s_flow (g_was (v.1 10) (v.1 13) s0) (v.1 3) (v.1 5) (v.1 7) s0) (v.1 10) (k + 1)))] := D_re hD (adc (bX7_ad _ _ _ _) adn)
          exact ih_35  _ _ _ hP hD hS (show lv_has ls 8 [(3, .int (nI (k + 1))), (2, .int (46 * (nI s0))), (0, .ref (a 0)), (1, .int (nI s0))] from lv_sub hl [0, 4, 5, 6] rfl) 
        · refine lv_iload hx hb dX7_nights_113 (lv_at hl 1 rfl) ?_
          refine lv_if_eq (tgt := 184) hx hb dX7_nights_115 (by decide) (fun c_115 => ?_) (fun c_115 => absurd (by decide) c_115)
          refine lv_iinc (v := nI (k + 1)) (lv' := [(3, .int (nI (k + 1))), (6, .int 0), (5, .int 0), (4, .int (nI ((v.1 5) ((3 * k) + 2)).toNatClampNeg)), (2, .int (46 * (nI s0))), (0, .ref (a 0)), (1, .int (nI s0))]) hx hb dX7_nights_184 hl (k := 3) rfl (nI_1 _) (by decide) rfl (fun ls hl => ?_)
          refine lv_goto (tgt := 35) hx hb dX7_nights_187 (by decide) ?_
          have hP : PP G [bX7 a G (setA (setA v 13 (g_was (v.1 10) (v.1 13) s0)) 10 (itN (s_flow (g_was (v.1 10) (v.1 13) s0) (v.1 3) (v.1 5) (v.1 7) s0) (v.1 10) (k + 1)))] H := by
            rw [itN_s]
            simp only [s_flow, if_pos c_10, if_neg c_42, if_pos c_60, if_neg c_110, if_pos c_115]
            try simp only [ov_n1, ov_m1, ov_nc, ov_mc, ov_c] at hP ⊢
            exact hP
          have hD : DD (AA (List.flatten [bX7 a G v])) [bX7 a G (setA (setA v 13 (g_was (v.1 10) (v.1 13) s0)) 10 (itN (s_flow (g_was (v.1 10) (v.1 13) s0) (v.1 3) (v.1 5) (v.1 7) s0) (v.1 10) (k + 1)))] := D_re hD (adc (bX7_ad _ _ _ _) adn)
          exact ih_35  _ _ _ hP hD hS (show lv_has ls 8 [(3, .int (nI (k + 1))), (2, .int (46 * (nI s0))), (0, .ref (a 0)), (1, .int (nI s0))] from lv_sub hl [0, 4, 5, 6] rfl) 
      · refine lv_aload_n hx hb dX7_nights_63 rfl (lv_at hl 3 rfl) ?_
        refine kb_get (own := RX7) (C := RX7) (T := TX7) (N := 19) (v := .ref (a 9)) hx hb hts hin7 hown hX hP 0 rfl rfl rfl 10 (by decide) rfl (by decide +kernel) rfl dX7_nights_64 ?_
        refine lv_iload_n hx hb dX7_nights_67 rfl (lv_at hl 2 rfl) ?_
        refine lv_bipush (v := 32) hx hb dX7_nights_68 (by decide) ?_
        refine lv_iadd hx hb dX7_nights_70 ?_
        refine lv_iload_n hx hb dX7_nights_71 rfl (lv_at hl 1 rfl) ?_
        refine lv_iadd hx hb dX7_nights_72 ?_
        refine kb_ialdN (jn := ((46 * s0) + 32) + k) (n := 552) (f := itN (s_flow (g_was (v.1 10) (v.1 13) s0) (v.1 3) (v.1 5) (v.1 7) s0) (v.1 10) k) hx hb hX hP 0 9 rfl rfl (by simp only [nI_addE, nI_mulE] <;> rfl) (by omega) (by decide) dX7_nights_73 ?_
        refine lv_if_ne (tgt := 96) hx hb dX7_nights_74 (by decide) (fun c_74 => ?_) (fun c_74 => ?_)
        · refine lv_iconst (v := 0) hx hb dX7_nights_96 (by decide) ?_
          refine lv_istore (lv' := [(5, .int 0), (4, .int (nI ((v.1 5) ((3 * k) + 2)).toNatClampNeg)), (3, .int (nI k)), (2, .int (46 * (nI s0))), (0, .ref (a 0)), (1, .int (nI s0))]) hx hb dX7_nights_97 hl (by decide) rfl (fun ls hl => ?_)
          refine lv_iconst (v := 0) hx hb dX7_nights_99 (by decide) ?_
          refine lv_istore (lv' := [(6, .int 0), (5, .int 0), (4, .int (nI ((v.1 5) ((3 * k) + 2)).toNatClampNeg)), (3, .int (nI k)), (2, .int (46 * (nI s0))), (0, .ref (a 0)), (1, .int (nI s0))]) hx hb dX7_nights_100 hl (by decide) rfl (fun ls hl => ?_)
          refine lv_iload hx hb dX7_nights_102 (lv_at hl 0 rfl) ?_
          refine lv_aload_n hx hb dX7_nights_104 rfl (lv_at hl 5 rfl) ?_
          refine kb_get (own := RX7) (C := RX7) (T := TX7) (N := 19) (v := .ref (a 6)) hx hb hts hin7 hown hX hP 0 rfl rfl rfl 7 (by decide) rfl (by decide +kernel) rfl dX7_nights_105 ?_
          refine lv_iconst (v := 0) hx hb dX7_nights_108 (by decide) ?_
          refine kb_ialdN (jn := 0) (n := 2) (f := v.1 7) hx hb hX hP 0 6 rfl rfl rfl (by omega) (by decide) dX7_nights_109 ?_
          refine lv_icmp_ge (tgt := 184) hx hb dX7_nights_110 (by decide) (fun c_110 => ?_) (fun c_110 => ?_)
          · refine lv_iinc (v := nI (k + 1)) (lv' := [(3, .int (nI (k + 1))), (6, .int 0), (5, .int 0), (4, .int (nI ((v.1 5) ((3 * k) + 2)).toNatClampNeg)), (2, .int (46 * (nI s0))), (0, .ref (a 0)), (1, .int (nI s0))]) hx hb dX7_nights_184 hl (k := 3) rfl (nI_1 _) (by decide) rfl (fun ls hl => ?_)
            refine lv_goto (tgt := 35) hx hb dX7_nights_187 (by decide) ?_
            have hP : PP G [bX7 a G (setA (setA v 13 (g_was (v.1 10) (v.1 13) s0)) 10 (itN (s_flow (g_was (v.1 10) (v.1 13) s0) (v.1 3) (v.1 5) (v.1 7) s0) (v.1 10) (k + 1)))] H := by
              rw [itN_s]
              simp only [s_flow, if_pos c_10, if_neg c_42, if_neg c_60, if_neg c_74, if_pos c_110]
              try simp only [ov_n1, ov_m1, ov_nc, ov_mc, ov_c] at hP ⊢
              exact hP
            have hD : DD (AA (List.flatten [bX7 a G v])) [bX7 a G (setA (setA v 13 (g_was (v.1 10) (v.1 13) s0)) 10 (itN (s_flow (g_was (v.1 10) (v.1 13) s0) (v.1 3) (v.1 5) (v.1 7) s0) (v.1 10) (k + 1)))] := D_re hD (adc (bX7_ad _ _ _ _) adn)
            exact ih_35  _ _ _ hP hD hS (show lv_has ls 8 [(3, .int (nI (k + 1))), (2, .int (46 * (nI s0))), (0, .ref (a 0)), (1, .int (nI s0))] from lv_sub hl [0, 4, 5, 6] rfl) 
          · refine lv_iload hx hb dX7_nights_113 (lv_at hl 1 rfl) ?_
            refine lv_if_eq (tgt := 184) hx hb dX7_nights_115 (by decide) (fun c_115 => ?_) (fun c_115 => absurd (by decide) c_115)
            refine lv_iinc (v := nI (k + 1)) (lv' := [(3, .int (nI (k + 1))), (6, .int 0), (5, .int 0), (4, .int (nI ((v.1 5) ((3 * k) + 2)).toNatClampNeg)), (2, .int (46 * (nI s0))), (0, .ref (a 0)), (1, .int (nI s0))]) hx hb dX7_nights_184 hl (k := 3) rfl (nI_1 _) (by decide) rfl (fun ls hl => ?_)
            refine lv_goto (tgt := 35) hx hb dX7_nights_187 (by decide) ?_
            have hP : PP G [bX7 a G (setA (setA v 13 (g_was (v.1 10) (v.1 13) s0)) 10 (itN (s_flow (g_was (v.1 10) (v.1 13) s0) (v.1 3) (v.1 5) (v.1 7) s0) (v.1 10) (k + 1)))] H := by
              rw [itN_s]
              simp only [s_flow, if_pos c_10, if_neg c_42, if_neg c_60, if_neg c_74, if_neg c_110, if_pos c_115]
              try simp only [ov_n1, ov_m1, ov_nc, ov_mc, ov_c] at hP ⊢
              exact hP
            have hD : DD (AA (List.flatten [bX7 a G v])) [bX7 a G (setA (setA v 13 (g_was (v.1 10) (v.1 13) s0)) 10 (itN (s_flow (g_was (v.1 10) (v.1 13) s0) (v.1 3) (v.1 5) (v.1 7) s0) (v.1 10) (k + 1)))] := D_re hD (adc (bX7_ad _ _ _ _) adn)
            exact ih_35  _ _ _ hP hD hS (show lv_has ls 8 [(3, .int (nI (k + 1))), (2, .int (46 * (nI s0))), (0, .ref (a 0)), (1, .int (nI s0))] from lv_sub hl [0, 4, 5, 6] rfl) 
        · refine lv_aload_n hx hb dX7_nights_77 rfl (lv_at hl 3 rfl) ?_
          refine kb_get (own := RX7) (C := RX7) (T := TX7) (N := 19) (v := .ref (a 9)) hx hb hts hin7 hown hX hP 0 rfl rfl rfl 10 (by decide) rfl (by decide +kernel) rfl dX7_nights_78 ?_
          refine lv_iload_n hx hb dX7_nights_81 rfl (lv_at hl 2 rfl) ?_
          refine lv_bipush (v := 32) hx hb dX7_nights_82 (by decide) ?_
          refine lv_iadd hx hb dX7_nights_84 ?_
          refine lv_iload hx hb dX7_nights_85 (lv_at hl 0 rfl) ?_
          refine lv_iadd hx hb dX7_nights_87 ?_
          refine kb_ialdN (jn := ((46 * s0) + 32) + (((v.1 5) ((3 * k) + 2)).toNatClampNeg)) (n := 552) (f := itN (s_flow (g_was (v.1 10) (v.1 13) s0) (v.1 3) (v.1 5) (v.1 7) s0) (v.1 10) k) hx hb hX hP 0 9 rfl rfl (by simp only [nI_addE, nI_mulE] <;> rfl) (by omega) (by decide) dX7_nights_88 ?_
          refine lv_if_ne (tgt := 96) hx hb dX7_nights_89 (by decide) (fun c_89 => ?_) (fun c_89 => ?_)
          · refine lv_iconst (v := 0) hx hb dX7_nights_96 (by decide) ?_
            refine lv_istore (lv' := [(5, .int 0), (4, .int (nI ((v.1 5) ((3 * k) + 2)).toNatClampNeg)), (3, .int (nI k)), (2, .int (46 * (nI s0))), (0, .ref (a 0)), (1, .int (nI s0))]) hx hb dX7_nights_97 hl (by decide) rfl (fun ls hl => ?_)
            refine lv_iconst (v := 0) hx hb dX7_nights_99 (by decide) ?_
            refine lv_istore (lv' := [(6, .int 0), (5, .int 0), (4, .int (nI ((v.1 5) ((3 * k) + 2)).toNatClampNeg)), (3, .int (nI k)), (2, .int (46 * (nI s0))), (0, .ref (a 0)), (1, .int (nI s0))]) hx hb dX7_nights_100 hl (by decide) rfl (fun ls hl => ?_)
            refine lv_iload hx hb dX7_nights_102 (lv_at hl 0 rfl) ?_
            refine lv_aload_n hx hb dX7_nights_104 rfl (lv_at hl 5 rfl) ?_
            refine kb_get (own := RX7) (C := RX7) (T := TX7) (N := 19) (v := .ref (a 6)) hx hb hts hin7 hown hX hP 0 rfl rfl rfl 7 (by decide) rfl (by decide +kernel) rfl dX7_nights_105 ?_
            refine lv_iconst (v := 0) hx hb dX7_nights_108 (by decide) ?_
            refine kb_ialdN (jn := 0) (n := 2) (f := v.1 7) hx hb hX hP 0 6 rfl rfl rfl (by omega) (by decide) dX7_nights_109 ?_
            refine lv_icmp_ge (tgt := 184) hx hb dX7_nights_110 (by decide) (fun c_110 => ?_) (fun c_110 => ?_)
            · refine lv_iinc (v := nI (k + 1)) (lv' := [(3, .int (nI (k + 1))), (6, .int 0), (5, .int 0), (4, .int (nI ((v.1 5) ((3 * k) + 2)).toNatClampNeg)), (2, .int (46 * (nI s0))), (0, .ref (a 0)), (1, .int (nI s0))]) hx hb dX7_nights_184 hl (k := 3) rfl (nI_1 _) (by decide) rfl (fun ls hl => ?_)
              refine lv_goto (tgt := 35) hx hb dX7_nights_187 (by decide) ?_
              have hP : PP G [bX7 a G (setA (setA v 13 (g_was (v.1 10) (v.1 13) s0)) 10 (itN (s_flow (g_was (v.1 10) (v.1 13) s0) (v.1 3) (v.1 5) (v.1 7) s0) (v.1 10) (k + 1)))] H := by
                rw [itN_s]
                simp only [s_flow, if_pos c_10, if_neg c_42, if_neg c_60, if_pos c_74, if_neg c_89, if_pos c_110]
                try simp only [ov_n1, ov_m1, ov_nc, ov_mc, ov_c] at hP ⊢
                exact hP
              have hD : DD (AA (List.flatten [bX7 a G v])) [bX7 a G (setA (setA v 13 (g_was (v.1 10) (v.1 13) s0)) 10 (itN (s_flow (g_was (v.1 10) (v.1 13) s0) (v.1 3) (v.1 5) (v.1 7) s0) (v.1 10) (k + 1)))] := D_re hD (adc (bX7_ad _ _ _ _) adn)
              exact ih_35  _ _ _ hP hD hS (show lv_has ls 8 [(3, .int (nI (k + 1))), (2, .int (46 * (nI s0))), (0, .ref (a 0)), (1, .int (nI s0))] from lv_sub hl [0, 4, 5, 6] rfl) 
            · refine lv_iload hx hb dX7_nights_113 (lv_at hl 1 rfl) ?_
              refine lv_if_eq (tgt := 184) hx hb dX7_nights_115 (by decide) (fun c_115 => ?_) (fun c_115 => absurd (by decide) c_115)
              refine lv_iinc (v := nI (k + 1)) (lv' := [(3, .int (nI (k + 1))), (6, .int 0), (5, .int 0), (4, .int (nI ((v.1 5) ((3 * k) + 2)).toNatClampNeg)), (2, .int (46 * (nI s0))), (0, .ref (a 0)), (1, .int (nI s0))]) hx hb dX7_nights_184 hl (k := 3) rfl (nI_1 _) (by decide) rfl (fun ls hl => ?_)
              refine lv_goto (tgt := 35) hx hb dX7_nights_187 (by decide) ?_
              have hP : PP G [bX7 a G (setA (setA v 13 (g_was (v.1 10) (v.1 13) s0)) 10 (itN (s_flow (g_was (v.1 10) (v.1 13) s0) (v.1 3) (v.1 5) (v.1 7) s0) (v.1 10) (k + 1)))] H := by
                rw [itN_s]
                simp only [s_flow, if_pos c_10, if_neg c_42, if_neg c_60, if_pos c_74, if_neg c_89, if_neg c_110, if_pos c_115]
                try simp only [ov_n1, ov_m1, ov_nc, ov_mc, ov_c] at hP ⊢
                exact hP
              have hD : DD (AA (List.flatten [bX7 a G v])) [bX7 a G (setA (setA v 13 (g_was (v.1 10) (v.1 13) s0)) 10 (itN (s_flow (g_was (v.1 10) (v.1 13) s0) (v.1 3) (v.1 5) (v.1 7) s0) (v.1 10) (k + 1)))] := D_re hD (adc (bX7_ad _ _ _ _) adn)
              exact ih_35  _ _ _ hP hD hS (show lv_has ls 8 [(3, .int (nI (k + 1))), (2, .int (46 * (nI s0))), (0, .ref (a 0)), (1, .int (nI s0))] from lv_sub hl [0, 4, 5, 6] rfl) 
          · refine lv_iconst (v := 1) hx hb dX7_nights_92 (by decide) ?_
            refine lv_goto (tgt := 97) hx hb dX7_nights_93 (by decide) ?_
            refine lv_istore (lv' := [(5, .int 1), (4, .int (nI ((v.1 5) ((3 * k) + 2)).toNatClampNeg)), (3, .int (nI k)), (2, .int (46 * (nI s0))), (0, .ref (a 0)), (1, .int (nI s0))]) hx hb dX7_nights_97 hl (by decide) rfl (fun ls hl => ?_)
            refine lv_iconst (v := 0) hx hb dX7_nights_99 (by decide) ?_
            refine lv_istore (lv' := [(6, .int 0), (5, .int 1), (4, .int (nI ((v.1 5) ((3 * k) + 2)).toNatClampNeg)), (3, .int (nI k)), (2, .int (46 * (nI s0))), (0, .ref (a 0)), (1, .int (nI s0))]) hx hb dX7_nights_100 hl (by decide) rfl (fun ls hl => ?_)
            have eOV0 : (setA (setA v 13 (g_was (v.1 10) (v.1 13) s0)) 10 (itN (s_part (g_was (v.1 10) (v.1 13) s0) (v.1 3) (v.1 5) s0 k) (itN (s_flow (g_was (v.1 10) (v.1 13) s0) (v.1 3) (v.1 5) (v.1 7) s0) (v.1 10) k) 0)) = (setA (setA v 13 (g_was (v.1 10) (v.1 13) s0)) 10 (itN (s_flow (g_was (v.1 10) (v.1 13) s0) (v.1 3) (v.1 5) (v.1 7) s0) (v.1 10) k)) := by
              refine Prod.ext (funext fun u => ?_) (funext fun u => ?_)
              · by_cases h13 : u = 13
                · subst h13; rfl
                · skip
                  by_cases h10 : u = 10
                  · subst h10; rfl
                  · skip
                    simp only [setA, setI, if_neg h13, if_neg h10]
              · rfl
            have hP : PP G [bX7 a G (setA (setA v 13 (g_was (v.1 10) (v.1 13) s0)) 10 (itN (s_part (g_was (v.1 10) (v.1 13) s0) (v.1 3) (v.1 5) s0 k) (itN (s_flow (g_was (v.1 10) (v.1 13) s0) (v.1 3) (v.1 5) (v.1 7) s0) (v.1 10) k) 0))] H := by rw [eOV0]; exact hP
            have hD : DD (AA (List.flatten [bX7 a G v])) [bX7 a G (setA (setA v 13 (g_was (v.1 10) (v.1 13) s0)) 10 (itN (s_part (g_was (v.1 10) (v.1 13) s0) (v.1 3) (v.1 5) s0 k) (itN (s_flow (g_was (v.1 10) (v.1 13) s0) (v.1 3) (v.1 5) (v.1 7) s0) (v.1 10) k) 0))] := D_re hD (adc (bX7_ad _ _ _ _) adn)
            refine lp_up (N := (v.1 7 0).toNatClampNeg) (P := fun i => ∀ (H : Heap) (locs : List Loc) (ls : Array Slot), PP G [bX7 a G (setA (setA v 13 (g_was (v.1 10) (v.1 13) s0)) 10 (itN (s_part (g_was (v.1 10) (v.1 13) s0) (v.1 3) (v.1 5) s0 k) (itN (s_flow (g_was (v.1 10) (v.1 13) s0) (v.1 3) (v.1 5) (v.1 7) s0) (v.1 10) k) i))] H → DD (AA (List.flatten [bX7 a G v])) [bX7 a G (setA (setA v 13 (g_was (v.1 10) (v.1 13) s0)) 10 (itN (s_part (g_was (v.1 10) (v.1 13) s0) (v.1 3) (v.1 5) s0 k) (itN (s_flow (g_was (v.1 10) (v.1 13) s0) (v.1 3) (v.1 5) (v.1 7) s0) (v.1 10) k) i))] → va_S (AA (List.flatten [bX7 a G v])) s.heap H locs → lv_has ls 8 [(6, .int (nI i)), (5, .int 1), (4, .int (nI ((v.1 5) ((3 * k) + 2)).toNatClampNeg)), (3, .int (nI k)), (2, .int (46 * (nI s0))), (0, .ref (a 0)), (1, .int (nI s0))] →  W p l e (headSpec wsX7_nights rm_X7_nights).room s m ([.ref (a 0), .int (nI s0)] : List Value).toArray below meth c H locs 0 0 (MQ below (kQs G [bX7 a G v] (fun r bc => r = none ∧ bc = [bX7 a G (setA (setA v 13 (g_was ((v.1 10)) ((v.1 13)) s0)) 10 (g_nights ((v.1 3)) ((v.1 5)) ((v.1 7)) ((v.1 4)) ((v.1 6)) ((v.1 10)) ((v.1 13)) s0))])) ([.ref (a 0), .int (nI s0)] : List Value).toArray s 0 0 (AA (List.flatten [bX7 a G v]))) (F0 m 102 ls [])) ?_ ?_ 0 (Nat.zero_le _)  _ _ _ hP hD hS (lv_sub hl [0, 1, 2, 3, 4, 5, 6] rfl) 
            · skip
              intro H locs ls hP hD hS hl 
              refine lv_iload hx hb dX7_nights_102 (lv_at hl 0 rfl) ?_
              refine lv_aload_n hx hb dX7_nights_104 rfl (lv_at hl 5 rfl) ?_
              refine kb_get (own := RX7) (C := RX7) (T := TX7) (N := 19) (v := .ref (a 6)) hx hb hts hin7 hown hX hP 0 rfl rfl rfl 7 (by decide) rfl (by decide +kernel) rfl dX7_nights_105 ?_
              refine lv_iconst (v := 0) hx hb dX7_nights_108 (by decide) ?_
              refine kb_ialdN (jn := 0) (n := 2) (f := v.1 7) hx hb hX hP 0 6 rfl rfl rfl (by omega) (by decide) dX7_nights_109 ?_
              refine lv_icmp_ge (tgt := 184) hx hb dX7_nights_110 (by decide) (fun c_110 => ?_) (fun c_110 => absurd (lpx_c _) c_110)
              refine lv_iinc (v := nI (k + 1)) (lv' := [(3, .int (nI (k + 1))), (6, .int (nI ((v.1 7 0).toNatClampNeg))), (5, .int 1), (4, .int (nI ((v.1 5) ((3 * k) + 2)).toNatClampNeg)), (2, .int (46 * (nI s0))), (0, .ref (a 0)), (1, .int (nI s0))]) hx hb dX7_nights_184 hl (k := 3) rfl (nI_1 _) (by decide) rfl (fun ls hl => ?_)
              refine lv_goto (tgt := 35) hx hb dX7_nights_187 (by decide) ?_
              have hP : PP G [bX7 a G (setA (setA v 13 (g_was (v.1 10) (v.1 13) s0)) 10 (itN (s_flow (g_was (v.1 10) (v.1 13) s0) (v.1 3) (v.1 5) (v.1 7) s0) (v.1 10) (k + 1)))] H := by
                rw [itN_s]
                simp only [s_flow, if_pos c_10, if_neg c_42, if_neg c_60, if_pos c_74, if_pos c_89, if_pos c_110]
                try simp only [ov_n1, ov_m1, ov_nc, ov_mc, ov_c] at hP ⊢
                exact hP
              have hD : DD (AA (List.flatten [bX7 a G v])) [bX7 a G (setA (setA v 13 (g_was (v.1 10) (v.1 13) s0)) 10 (itN (s_flow (g_was (v.1 10) (v.1 13) s0) (v.1 3) (v.1 5) (v.1 7) s0) (v.1 10) (k + 1)))] := D_re hD (adc (bX7_ad _ _ _ _) adn)
              exact ih_35  _ _ _ hP hD hS (show lv_has ls 8 [(3, .int (nI (k + 1))), (2, .int (46 * (nI s0))), (0, .ref (a 0)), (1, .int (nI s0))] from lv_sub hl [0, 4, 5, 6] rfl) 
            · skip
              intro i hk_i ih_102 H locs ls hP hD hS hl 
              refine lv_iload hx hb dX7_nights_102 (lv_at hl 0 rfl) ?_
              refine lv_aload_n hx hb dX7_nights_104 rfl (lv_at hl 5 rfl) ?_
              refine kb_get (own := RX7) (C := RX7) (T := TX7) (N := 19) (v := .ref (a 6)) hx hb hts hin7 hown hX hP 0 rfl rfl rfl 7 (by decide) rfl (by decide +kernel) rfl dX7_nights_105 ?_
              refine lv_iconst (v := 0) hx hb dX7_nights_108 (by decide) ?_
              refine kb_ialdN (jn := 0) (n := 2) (f := v.1 7) hx hb hX hP 0 6 rfl rfl rfl (by omega) (by decide) dX7_nights_109 ?_
              refine lv_icmp_ge (tgt := 184) hx hb dX7_nights_110 (by decide) (fun c_110 => absurd c_110 (lps_c hk_i)) (fun c_110 => ?_)
              refine lv_iload hx hb dX7_nights_113 (lv_at hl 1 rfl) ?_
              refine lv_if_eq (tgt := 184) hx hb dX7_nights_115 (by decide) (fun c_115 => absurd c_115 (by decide)) (fun c_115 => ?_)
              refine lv_aload_n hx hb dX7_nights_118 rfl (lv_at hl 5 rfl) ?_
              refine kb_get (own := RX7) (C := RX7) (T := TX7) (N := 19) (v := .ref (a 10)) hx hb hts hin7 hown hX hP 0 rfl rfl rfl 13 (by decide) rfl (by decide +kernel) rfl dX7_nights_119 ?_
              refine lv_iconst (v := 4) hx hb dX7_nights_122 (by decide) ?_
              refine lv_iload_n hx hb dX7_nights_123 rfl (lv_at hl 3 rfl) ?_
              refine lv_imul hx hb dX7_nights_124 ?_
              refine lv_iload hx hb dX7_nights_125 (lv_at hl 0 rfl) ?_
              refine lv_iadd hx hb dX7_nights_127 ?_
              refine kb_ialdN (jn := (4 * k) + i) (n := 32) (f := g_was (v.1 10) (v.1 13) s0) hx hb hX hP 0 10 rfl rfl (by simp only [nI_addE, nI_mulE] <;> rfl) (by omega) (by decide) dX7_nights_128 ?_
              refine lv_aload_n hx hb dX7_nights_129 rfl (lv_at hl 5 rfl) ?_
              refine kb_get (own := RX7) (C := RX7) (T := TX7) (N := 19) (v := .ref (a 2)) hx hb hts hin7 hown hX hP 0 rfl rfl rfl 3 (by decide) rfl (by decide +kernel) rfl dX7_nights_130 ?_
              refine lv_iconst (v := 1) hx hb dX7_nights_133 (by decide) ?_
              refine kb_ialdN (jn := 1) (n := 10) (f := v.1 3) hx hb hX hP 0 2 rfl rfl rfl (by omega) (by decide) dX7_nights_134 ?_
              refine lv_imul hx hb dX7_nights_135 ?_
              refine lv_bipush (v := 10) hx hb dX7_nights_136 (by decide) ?_
              refine lv_idiv hx hb dX7_nights_138 (by decide) ?_
              refine lv_istore (lv' := [(7, .int ((((g_was (v.1 10) (v.1 13) s0) ((4 * k) + i)) * ((v.1 3) 1)) / 10)), (6, .int (nI i)), (5, .int 1), (4, .int (nI ((v.1 5) ((3 * k) + 2)).toNatClampNeg)), (3, .int (nI k)), (2, .int (46 * (nI s0))), (0, .ref (a 0)), (1, .int (nI s0))]) hx hb dX7_nights_139 hl (by decide) rfl (fun ls hl => ?_)
              refine lv_aload_n hx hb dX7_nights_141 rfl (lv_at hl 6 rfl) ?_
              refine kb_get (own := RX7) (C := RX7) (T := TX7) (N := 19) (v := .ref (a 9)) hx hb hts hin7 hown hX hP 0 rfl rfl rfl 10 (by decide) rfl (by decide +kernel) rfl dX7_nights_142 ?_
              refine lv_iload_n hx hb dX7_nights_145 rfl (lv_at hl 5 rfl) ?_
              refine lv_iconst (v := 4) hx hb dX7_nights_146 (by decide) ?_
              refine lv_iload_n hx hb dX7_nights_147 rfl (lv_at hl 4 rfl) ?_
              refine lv_imul hx hb dX7_nights_148 ?_
              refine lv_iadd hx hb dX7_nights_149 ?_
              refine lv_iload hx hb dX7_nights_150 (lv_at hl 1 rfl) ?_
              refine lv_iadd hx hb dX7_nights_152 ?_
              refine lv_dup2_11 hx hb dX7_nights_153 rfl rfl ?_
              refine kb_ialdN (jn := ((46 * s0) + (4 * k)) + i) (n := 552) (f := itN (s_part (g_was (v.1 10) (v.1 13) s0) (v.1 3) (v.1 5) s0 k) (itN (s_flow (g_was (v.1 10) (v.1 13) s0) (v.1 3) (v.1 5) (v.1 7) s0) (v.1 10) k) i) hx hb hX hP 0 9 rfl rfl (by simp only [nI_addE, nI_mulE] <;> rfl) (by omega) (by decide) dX7_nights_154 ?_
              refine lv_iload hx hb dX7_nights_155 (lv_at hl 0 rfl) ?_
              refine lv_isub hx hb dX7_nights_157 ?_
              refine kb_iastN (jn := ((46 * s0) + (4 * k)) + i) (n := 552) (f := itN (s_part (g_was (v.1 10) (v.1 13) s0) (v.1 3) (v.1 5) s0 k) (itN (s_flow (g_was (v.1 10) (v.1 13) s0) (v.1 3) (v.1 5) (v.1 7) s0) (v.1 10) k) i) hx hb hX hP hD hS 0 9 rfl rfl (by simp only [nI_addE, nI_mulE] <;> rfl) (by omega) (by decide) dX7_nights_158 (bX7_A10 a G (setA (setA v 13 (g_was (v.1 10) (v.1 13) s0)) 10 (itN (s_part (g_was (v.1 10) (v.1 13) s0) (v.1 3) (v.1 5) s0 k) (itN (s_flow (g_was (v.1 10) (v.1 13) s0) (v.1 3) (v.1 5) (v.1 7) s0) (v.1 10) k) i)) (upd (itN (s_part (g_was (v.1 10) (v.1 13) s0) (v.1 3) (v.1 5) s0 k) (itN (s_flow (g_was (v.1 10) (v.1 13) s0) (v.1 3) (v.1 5) (v.1 7) s0) (v.1 10) k) i) (((46 * s0) + (4 * k)) + i) (((itN (s_part (g_was (v.1 10) (v.1 13) s0) (v.1 3) (v.1 5) s0 k) (itN (s_flow (g_was (v.1 10) (v.1 13) s0) (v.1 3) (v.1 5) (v.1 7) s0) (v.1 10) k) i) (((46 * s0) + (4 * k)) + i)) - ((((g_was (v.1 10) (v.1 13) s0) ((4 * k) + i)) * ((v.1 3) 1)) / 10)))) (fun H locs hP hD hS => ?_)
              have hP : PP G [bX7 a G (setA (setA (setA v 13 (g_was (v.1 10) (v.1 13) s0)) 10 (itN (s_part (g_was (v.1 10) (v.1 13) s0) (v.1 3) (v.1 5) s0 k) (itN (s_flow (g_was (v.1 10) (v.1 13) s0) (v.1 3) (v.1 5) (v.1 7) s0) (v.1 10) k) i)) 10 (upd (itN (s_part (g_was (v.1 10) (v.1 13) s0) (v.1 3) (v.1 5) s0 k) (itN (s_flow (g_was (v.1 10) (v.1 13) s0) (v.1 3) (v.1 5) (v.1 7) s0) (v.1 10) k) i) (((46 * s0) + (4 * k)) + i) (((itN (s_part (g_was (v.1 10) (v.1 13) s0) (v.1 3) (v.1 5) s0 k) (itN (s_flow (g_was (v.1 10) (v.1 13) s0) (v.1 3) (v.1 5) (v.1 7) s0) (v.1 10) k) i) (((46 * s0) + (4 * k)) + i)) - ((((g_was (v.1 10) (v.1 13) s0) ((4 * k) + i)) * ((v.1 3) 1)) / 10))))] H := hP
              have hD : DD (AA (List.flatten [bX7 a G v])) [bX7 a G (setA (setA (setA v 13 (g_was (v.1 10) (v.1 13) s0)) 10 (itN (s_part (g_was (v.1 10) (v.1 13) s0) (v.1 3) (v.1 5) s0 k) (itN (s_flow (g_was (v.1 10) (v.1 13) s0) (v.1 3) (v.1 5) (v.1 7) s0) (v.1 10) k) i)) 10 (upd (itN (s_part (g_was (v.1 10) (v.1 13) s0) (v.1 3) (v.1 5) s0 k) (itN (s_flow (g_was (v.1 10) (v.1 13) s0) (v.1 3) (v.1 5) (v.1 7) s0) (v.1 10) k) i) (((46 * s0) + (4 * k)) + i) (((itN (s_part (g_was (v.1 10) (v.1 13) s0) (v.1 3) (v.1 5) s0 k) (itN (s_flow (g_was (v.1 10) (v.1 13) s0) (v.1 3) (v.1 5) (v.1 7) s0) (v.1 10) k) i) (((46 * s0) + (4 * k)) + i)) - ((((g_was (v.1 10) (v.1 13) s0) ((4 * k) + i)) * ((v.1 3) 1)) / 10))))] := D_re hD (adc (bX7_ad _ _ _ _) adn)
              refine lv_aload_n hx hb dX7_nights_159 rfl (lv_at hl 6 rfl) ?_
              refine kb_get (own := RX7) (C := RX7) (T := TX7) (N := 19) (v := .ref (a 9)) hx hb hts hin7 hown hX hP 0 rfl rfl rfl 10 (by decide) rfl (by decide +kernel) rfl dX7_nights_160 ?_
              refine lv_iload_n hx hb dX7_nights_163 rfl (lv_at hl 5 rfl) ?_
              refine lv_iconst (v := 4) hx hb dX7_nights_164 (by decide) ?_
              refine lv_iload hx hb dX7_nights_165 (lv_at hl 3 rfl) ?_
              refine lv_imul hx hb dX7_nights_167 ?_
              refine lv_iadd hx hb dX7_nights_168 ?_
              refine lv_iload hx hb dX7_nights_169 (lv_at hl 1 rfl) ?_
              refine lv_iadd hx hb dX7_nights_171 ?_
              refine lv_dup2_11 hx hb dX7_nights_172 rfl rfl ?_
              refine kb_ialdN (jn := ((46 * s0) + (4 * (((v.1 5) ((3 * k) + 2)).toNatClampNeg))) + i) (n := 552) (f := upd (itN (s_part (g_was (v.1 10) (v.1 13) s0) (v.1 3) (v.1 5) s0 k) (itN (s_flow (g_was (v.1 10) (v.1 13) s0) (v.1 3) (v.1 5) (v.1 7) s0) (v.1 10) k) i) (((46 * s0) + (4 * k)) + i) (((itN (s_part (g_was (v.1 10) (v.1 13) s0) (v.1 3) (v.1 5) s0 k) (itN (s_flow (g_was (v.1 10) (v.1 13) s0) (v.1 3) (v.1 5) (v.1 7) s0) (v.1 10) k) i) (((46 * s0) + (4 * k)) + i)) - ((((g_was (v.1 10) (v.1 13) s0) ((4 * k) + i)) * ((v.1 3) 1)) / 10))) hx hb hX hP 0 9 rfl rfl (by simp only [nI_addE, nI_mulE] <;> rfl) (by omega) (by decide) dX7_nights_173 ?_
              refine lv_iload hx hb dX7_nights_174 (lv_at hl 0 rfl) ?_
              refine lv_iadd hx hb dX7_nights_176 ?_
              refine kb_iastN (jn := ((46 * s0) + (4 * (((v.1 5) ((3 * k) + 2)).toNatClampNeg))) + i) (n := 552) (f := upd (itN (s_part (g_was (v.1 10) (v.1 13) s0) (v.1 3) (v.1 5) s0 k) (itN (s_flow (g_was (v.1 10) (v.1 13) s0) (v.1 3) (v.1 5) (v.1 7) s0) (v.1 10) k) i) (((46 * s0) + (4 * k)) + i) (((itN (s_part (g_was (v.1 10) (v.1 13) s0) (v.1 3) (v.1 5) s0 k) (itN (s_flow (g_was (v.1 10) (v.1 13) s0) (v.1 3) (v.1 5) (v.1 7) s0) (v.1 10) k) i) (((46 * s0) + (4 * k)) + i)) - ((((g_was (v.1 10) (v.1 13) s0) ((4 * k) + i)) * ((v.1 3) 1)) / 10))) hx hb hX hP hD hS 0 9 rfl rfl (by simp only [nI_addE, nI_mulE] <;> rfl) (by omega) (by decide) dX7_nights_177 (bX7_A10 a G (setA (setA (setA v 13 (g_was (v.1 10) (v.1 13) s0)) 10 (itN (s_part (g_was (v.1 10) (v.1 13) s0) (v.1 3) (v.1 5) s0 k) (itN (s_flow (g_was (v.1 10) (v.1 13) s0) (v.1 3) (v.1 5) (v.1 7) s0) (v.1 10) k) i)) 10 (upd (itN (s_part (g_was (v.1 10) (v.1 13) s0) (v.1 3) (v.1 5) s0 k) (itN (s_flow (g_was (v.1 10) (v.1 13) s0) (v.1 3) (v.1 5) (v.1 7) s0) (v.1 10) k) i) (((46 * s0) + (4 * k)) + i) (((itN (s_part (g_was (v.1 10) (v.1 13) s0) (v.1 3) (v.1 5) s0 k) (itN (s_flow (g_was (v.1 10) (v.1 13) s0) (v.1 3) (v.1 5) (v.1 7) s0) (v.1 10) k) i) (((46 * s0) + (4 * k)) + i)) - ((((g_was (v.1 10) (v.1 13) s0) ((4 * k) + i)) * ((v.1 3) 1)) / 10)))) (upd (upd (itN (s_part (g_was (v.1 10) (v.1 13) s0) (v.1 3) (v.1 5) s0 k) (itN (s_flow (g_was (v.1 10) (v.1 13) s0) (v.1 3) (v.1 5) (v.1 7) s0) (v.1 10) k) i) (((46 * s0) + (4 * k)) + i) (((itN (s_part (g_was (v.1 10) (v.1 13) s0) (v.1 3) (v.1 5) s0 k) (itN (s_flow (g_was (v.1 10) (v.1 13) s0) (v.1 3) (v.1 5) (v.1 7) s0) (v.1 10) k) i) (((46 * s0) + (4 * k)) + i)) - ((((g_was (v.1 10) (v.1 13) s0) ((4 * k) + i)) * ((v.1 3) 1)) / 10))) (((46 * s0) + (4 * (((v.1 5) ((3 * k) + 2)).toNatClampNeg))) + i) (((upd (itN (s_part (g_was (v.1 10) (v.1 13) s0) (v.1 3) (v.1 5) s0 k) (itN (s_flow (g_was (v.1 10) (v.1 13) s0) (v.1 3) (v.1 5) (v.1 7) s0) (v.1 10) k) i) (((46 * s0) + (4 * k)) + i) (((itN (s_part (g_was (v.1 10) (v.1 13) s0) (v.1 3) (v.1 5) s0 k) (itN (s_flow (g_was (v.1 10) (v.1 13) s0) (v.1 3) (v.1 5) (v.1 7) s0) (v.1 10) k) i) (((46 * s0) + (4 * k)) + i)) - ((((g_was (v.1 10) (v.1 13) s0) ((4 * k) + i)) * ((v.1 3) 1)) / 10))) (((46 * s0) + (4 * (((v.1 5) ((3 * k) + 2)).toNatClampNeg))) + i)) + ((((g_was (v.1 10) (v.1 13) s0) ((4 * k) + i)) * ((v.1 3) 1)) / 10)))) (fun H locs hP hD hS => ?_)
              have hP : PP G [bX7 a G (setA (setA (setA (setA v 13 (g_was (v.1 10) (v.1 13) s0)) 10 (itN (s_part (g_was (v.1 10) (v.1 13) s0) (v.1 3) (v.1 5) s0 k) (itN (s_flow (g_was (v.1 10) (v.1 13) s0) (v.1 3) (v.1 5) (v.1 7) s0) (v.1 10) k) i)) 10 (upd (itN (s_part (g_was (v.1 10) (v.1 13) s0) (v.1 3) (v.1 5) s0 k) (itN (s_flow (g_was (v.1 10) (v.1 13) s0) (v.1 3) (v.1 5) (v.1 7) s0) (v.1 10) k) i) (((46 * s0) + (4 * k)) + i) (((itN (s_part (g_was (v.1 10) (v.1 13) s0) (v.1 3) (v.1 5) s0 k) (itN (s_flow (g_was (v.1 10) (v.1 13) s0) (v.1 3) (v.1 5) (v.1 7) s0) (v.1 10) k) i) (((46 * s0) + (4 * k)) + i)) - ((((g_was (v.1 10) (v.1 13) s0) ((4 * k) + i)) * ((v.1 3) 1)) / 10)))) 10 (upd (upd (itN (s_part (g_was (v.1 10) (v.1 13) s0) (v.1 3) (v.1 5) s0 k) (itN (s_flow (g_was (v.1 10) (v.1 13) s0) (v.1 3) (v.1 5) (v.1 7) s0) (v.1 10) k) i) (((46 * s0) + (4 * k)) + i) (((itN (s_part (g_was (v.1 10) (v.1 13) s0) (v.1 3) (v.1 5) s0 k) (itN (s_flow (g_was (v.1 10) (v.1 13) s0) (v.1 3) (v.1 5) (v.1 7) s0) (v.1 10) k) i) (((46 * s0) + (4 * k)) + i)) - ((((g_was (v.1 10) (v.1 13) s0) ((4 * k) + i)) * ((v.1 3) 1)) / 10))) (((46 * s0) + (4 * (((v.1 5) ((3 * k) + 2)).toNatClampNeg))) + i) (((upd (itN (s_part (g_was (v.1 10) (v.1 13) s0) (v.1 3) (v.1 5) s0 k) (itN (s_flow (g_was (v.1 10) (v.1 13) s0) (v.1 3) (v.1 5) (v.1 7) s0) (v.1 10) k) i) (((46 * s0) + (4 * k)) + i) (((itN (s_part (g_was (v.1 10) (v.1 13) s0) (v.1 3) (v.1 5) s0 k) (itN (s_flow (g_was (v.1 10) (v.1 13) s0) (v.1 3) (v.1 5) (v.1 7) s0) (v.1 10) k) i) (((46 * s0) + (4 * k)) + i)) - ((((g_was (v.1 10) (v.1 13) s0) ((4 * k) + i)) * ((v.1 3) 1)) / 10))) (((46 * s0) + (4 * (((v.1 5) ((3 * k) + 2)).toNatClampNeg))) + i)) + ((((g_was (v.1 10) (v.1 13) s0) ((4 * k) + i)) * ((v.1 3) 1)) / 10))))] H := hP
              have hD : DD (AA (List.flatten [bX7 a G v])) [bX7 a G (setA (setA (setA (setA v 13 (g_was (v.1 10) (v.1 13) s0)) 10 (itN (s_part (g_was (v.1 10) (v.1 13) s0) (v.1 3) (v.1 5) s0 k) (itN (s_flow (g_was (v.1 10) (v.1 13) s0) (v.1 3) (v.1 5) (v.1 7) s0) (v.1 10) k) i)) 10 (upd (itN (s_part (g_was (v.1 10) (v.1 13) s0) (v.1 3) (v.1 5) s0 k) (itN (s_flow (g_was (v.1 10) (v.1 13) s0) (v.1 3) (v.1 5) (v.1 7) s0) (v.1 10) k) i) (((46 * s0) + (4 * k)) + i) (((itN (s_part (g_was (v.1 10) (v.1 13) s0) (v.1 3) (v.1 5) s0 k) (itN (s_flow (g_was (v.1 10) (v.1 13) s0) (v.1 3) (v.1 5) (v.1 7) s0) (v.1 10) k) i) (((46 * s0) + (4 * k)) + i)) - ((((g_was (v.1 10) (v.1 13) s0) ((4 * k) + i)) * ((v.1 3) 1)) / 10)))) 10 (upd (upd (itN (s_part (g_was (v.1 10) (v.1 13) s0) (v.1 3) (v.1 5) s0 k) (itN (s_flow (g_was (v.1 10) (v.1 13) s0) (v.1 3) (v.1 5) (v.1 7) s0) (v.1 10) k) i) (((46 * s0) + (4 * k)) + i) (((itN (s_part (g_was (v.1 10) (v.1 13) s0) (v.1 3) (v.1 5) s0 k) (itN (s_flow (g_was (v.1 10) (v.1 13) s0) (v.1 3) (v.1 5) (v.1 7) s0) (v.1 10) k) i) (((46 * s0) + (4 * k)) + i)) - ((((g_was (v.1 10) (v.1 13) s0) ((4 * k) + i)) * ((v.1 3) 1)) / 10))) (((46 * s0) + (4 * (((v.1 5) ((3 * k) + 2)).toNatClampNeg))) + i) (((upd (itN (s_part (g_was (v.1 10) (v.1 13) s0) (v.1 3) (v.1 5) s0 k) (itN (s_flow (g_was (v.1 10) (v.1 13) s0) (v.1 3) (v.1 5) (v.1 7) s0) (v.1 10) k) i) (((46 * s0) + (4 * k)) + i) (((itN (s_part (g_was (v.1 10) (v.1 13) s0) (v.1 3) (v.1 5) s0 k) (itN (s_flow (g_was (v.1 10) (v.1 13) s0) (v.1 3) (v.1 5) (v.1 7) s0) (v.1 10) k) i) (((46 * s0) + (4 * k)) + i)) - ((((g_was (v.1 10) (v.1 13) s0) ((4 * k) + i)) * ((v.1 3) 1)) / 10))) (((46 * s0) + (4 * (((v.1 5) ((3 * k) + 2)).toNatClampNeg))) + i)) + ((((g_was (v.1 10) (v.1 13) s0) ((4 * k) + i)) * ((v.1 3) 1)) / 10))))] := D_re hD (adc (bX7_ad _ _ _ _) adn)
              refine lv_iinc (v := nI (i + 1)) (lv' := [(6, .int (nI (i + 1))), (7, .int ((((g_was (v.1 10) (v.1 13) s0) ((4 * k) + i)) * ((v.1 3) 1)) / 10)), (5, .int 1), (4, .int (nI ((v.1 5) ((3 * k) + 2)).toNatClampNeg)), (3, .int (nI k)), (2, .int (46 * (nI s0))), (0, .ref (a 0)), (1, .int (nI s0))]) hx hb dX7_nights_178 hl (k := 1) rfl (nI_1 _) (by decide) rfl (fun ls hl => ?_)
              refine lv_goto (tgt := 102) hx hb dX7_nights_181 (by decide) ?_
              have hP : PP G [bX7 a G (setA (setA v 13 (g_was (v.1 10) (v.1 13) s0)) 10 (itN (s_part (g_was (v.1 10) (v.1 13) s0) (v.1 3) (v.1 5) s0 k) (itN (s_flow (g_was (v.1 10) (v.1 13) s0) (v.1 3) (v.1 5) (v.1 7) s0) (v.1 10) k) (i + 1)))] H := by
                try simp only [ov_n1, ov_m1, ov_nc, ov_mc, ov_c] at hP ⊢
                exact hP
              have hD : DD (AA (List.flatten [bX7 a G v])) [bX7 a G (setA (setA v 13 (g_was (v.1 10) (v.1 13) s0)) 10 (itN (s_part (g_was (v.1 10) (v.1 13) s0) (v.1 3) (v.1 5) s0 k) (itN (s_flow (g_was (v.1 10) (v.1 13) s0) (v.1 3) (v.1 5) (v.1 7) s0) (v.1 10) k) (i + 1)))] := D_re hD (adc (bX7_ad _ _ _ _) adn)
              exact ih_102  _ _ _ hP hD hS (show lv_has ls 8 [(6, .int (nI (i + 1))), (5, .int 1), (4, .int (nI ((v.1 5) ((3 * k) + 2)).toNatClampNeg)), (3, .int (nI k)), (2, .int (46 * (nI s0))), (0, .ref (a 0)), (1, .int (nI s0))] from lv_sub hl [0, 2, 3, 4, 5, 6, 7] rfl) 
  · skip
    intro k hk_k ih_7 H locs ls hP hD hS hl 
    refine lv_iload_n hx hb dX7_nights_7 rfl (lv_at hl 0 rfl) ?_
    refine lv_bipush (v := 32) hx hb dX7_nights_8 (by decide) ?_
    refine lv_icmp_ge (tgt := 33) hx hb dX7_nights_10 (by decide) (fun c_10 => absurd c_10 (nI_ge (b := 32) hk_k (by decide))) (fun c_10 => ?_)
    refine lv_aload_n hx hb dX7_nights_13 rfl (lv_at hl 2 rfl) ?_
    refine kb_get (own := RX7) (C := RX7) (T := TX7) (N := 19) (v := .ref (a 10)) hx hb hts hin7 hown hX hP 0 rfl rfl rfl 13 (by decide) rfl (by decide +kernel) rfl dX7_nights_14 ?_
    refine lv_iload_n hx hb dX7_nights_17 rfl (lv_at hl 0 rfl) ?_
    refine lv_aload_n hx hb dX7_nights_18 rfl (lv_at hl 2 rfl) ?_
    refine kb_get (own := RX7) (C := RX7) (T := TX7) (N := 19) (v := .ref (a 9)) hx hb hts hin7 hown hX hP 0 rfl rfl rfl 10 (by decide) rfl (by decide +kernel) rfl dX7_nights_19 ?_
    refine lv_iload_n hx hb dX7_nights_22 rfl (lv_at hl 1 rfl) ?_
    refine lv_iload_n hx hb dX7_nights_23 rfl (lv_at hl 0 rfl) ?_
    refine lv_iadd hx hb dX7_nights_24 ?_
    refine kb_ialdN (jn := (46 * s0) + k) (n := 552) (f := v.1 10) hx hb hX hP 0 9 rfl rfl (by simp only [nI_addE, nI_mulE] <;> rfl) (by omega) (by decide) dX7_nights_25 ?_
    refine kb_iastN (jn := k) (n := 32) (f := itN (s_was (v.1 10) s0) (v.1 13) k) hx hb hX hP hD hS 0 10 rfl rfl rfl (by omega) (by decide) dX7_nights_26 (bX7_A13 a G (setA v 13 (itN (s_was (v.1 10) s0) (v.1 13) k)) (upd (itN (s_was (v.1 10) s0) (v.1 13) k) k ((v.1 10) ((46 * s0) + k)))) (fun H locs hP hD hS => ?_)
    have hP : PP G [bX7 a G (setA (setA v 13 (itN (s_was (v.1 10) s0) (v.1 13) k)) 13 (upd (itN (s_was (v.1 10) s0) (v.1 13) k) k ((v.1 10) ((46 * s0) + k))))] H := hP
    have hD : DD (AA (List.flatten [bX7 a G v])) [bX7 a G (setA (setA v 13 (itN (s_was (v.1 10) s0) (v.1 13) k)) 13 (upd (itN (s_was (v.1 10) s0) (v.1 13) k) k ((v.1 10) ((46 * s0) + k))))] := D_re hD (adc (bX7_ad _ _ _ _) adn)
    refine lv_iinc (v := nI (k + 1)) (lv' := [(3, .int (nI (k + 1))), (2, .int (46 * (nI s0))), (0, .ref (a 0)), (1, .int (nI s0))]) hx hb dX7_nights_27 hl (k := 0) rfl (nI_1 _) (by decide) rfl (fun ls hl => ?_)
    refine lv_goto (tgt := 7) hx hb dX7_nights_30 (by decide) ?_
    have hP : PP G [bX7 a G (setA v 13 (itN (s_was (v.1 10) s0) (v.1 13) (k + 1)))] H := by
      try simp only [ov_n1, ov_m1, ov_nc, ov_mc, ov_c] at hP ⊢
      exact hP
    have hD : DD (AA (List.flatten [bX7 a G v])) [bX7 a G (setA v 13 (itN (s_was (v.1 10) s0) (v.1 13) (k + 1)))] := D_re hD (adc (bX7_ad _ _ _ _) adn)
    exact ih_7  _ _ _ hP hD hS (show lv_has ls 8 [(3, .int (nI (k + 1))), (2, .int (46 * (nI s0))), (0, .ref (a 0)), (1, .int (nI s0))] from lv_sub hl [0, 1, 2, 3] rfl) 

def rm_X7_ways : Room := { frames := 1, cells := 0, slots := 0, locals := 23 }
theorem hd_X7_ways : yX7_ways.cls = RX7 ∧ yX7_ways.cls ≠ "java/lang/invoke/MethodHandle" ∧ yX7_ways.cls ≠ "java/lang/invoke/VarHandle" ∧ (parseMethodDescriptor yX7_ways.desc).map (fun d => d.parameters.length) = some 4 := by decide +kernel
set_option maxRecDepth 100000 in
set_option maxHeartbeats 4000000 in
theorem c_X7_ways (l : Launch) (G : GD) (a : Nat → Nat) (v : OV) (s0 : Nat) (i : Nat) (x1 : Int32) (x2 : Int32) (hs : s0 < 12) (hi : i < 4) (hD8 : (v.1 4 0).toNatClampNeg ≤ 8) (hR : ∀ d, d < (v.1 4 0).toNatClampNeg → vp_in (v.1 5 (3 * d)) 6 ∧ vp_in (v.1 5 (3 * d + 1)) 6) : MetS l yX7_ways wsX7_ways rm_X7_ways G [bX7 a G v] [.ref (a 0), .int (nI s0), .int (nI i), .int x1, .int x2] (fun r bc => r = none ∧ bc = [bX7 a G (setA v 14 (g_ways ((v.1 5)) ((v.1 10)) ((v.1 4)) ((v.1 14)) s0 i x1 x2))]) := by
  refine kb_beginS (cc := cX7_ways) (maxL := 10) (ret := none) (by decide) rfl (Nat.le_of_ble_eq_true rfl) ?_
  intro p e s m below meth c hx hb hr hml hown hts hlocks hX H locs hP hD hS ls hl
  have hown : s.vm.findClass RX7 = some m.cls := hown
  have hl : lv_has ls 10 [(0, .ref (a 0)), (1, .int (nI s0)), (2, .int (nI i)), (3, .int x1), (4, .int x2)] := hl
  have hin7 : ∀ w ∈ u_ws RX7 TX7 19, w ∈ wsX7_ways := (fun _ h => List.mem_cons_of_mem _ (List.mem_append_right _ (h)))
  refine lv_iconst (v := 0) hx hb dX7_ways_0 (by decide) ?_
  refine lv_istore (lv' := [(5, .int 0), (0, .ref (a 0)), (1, .int (nI s0)), (2, .int (nI i)), (3, .int x1), (4, .int x2)]) hx hb dX7_ways_1 hl (by decide) rfl (fun ls hl => ?_)
  have eOV0 : (setA v 14 (itN (s_far0 x1) (v.1 14) 0)) = v := by
    refine Prod.ext (funext fun u => ?_) (funext fun u => ?_)
    · by_cases h14 : u = 14
      · subst h14; rfl
      · skip
        simp only [setA, setI, if_neg h14]
    · rfl
  have hP : PP G [bX7 a G (setA v 14 (itN (s_far0 x1) (v.1 14) 0))] H := by rw [eOV0]; exact hP
  have hD : DD (AA (List.flatten [bX7 a G v])) [bX7 a G (setA v 14 (itN (s_far0 x1) (v.1 14) 0))] := D_re hD (adc (bX7_ad _ _ _ _) adn)
  refine lp_up (N := 6) (P := fun k => ∀ (H : Heap) (locs : List Loc) (ls : Array Slot), PP G [bX7 a G (setA v 14 (itN (s_far0 x1) (v.1 14) k))] H → DD (AA (List.flatten [bX7 a G v])) [bX7 a G (setA v 14 (itN (s_far0 x1) (v.1 14) k))] → va_S (AA (List.flatten [bX7 a G v])) s.heap H locs → lv_has ls 10 [(5, .int (nI k)), (0, .ref (a 0)), (1, .int (nI s0)), (2, .int (nI i)), (3, .int x1), (4, .int x2)] →  W p l e (headSpec wsX7_ways rm_X7_ways).room s m ([.ref (a 0), .int (nI s0), .int (nI i), .int x1, .int x2] : List Value).toArray below meth c H locs 0 0 (MQ below (kQs G [bX7 a G v] (fun r bc => r = none ∧ bc = [bX7 a G (setA v 14 (g_ways ((v.1 5)) ((v.1 10)) ((v.1 4)) ((v.1 14)) s0 i x1 x2))])) ([.ref (a 0), .int (nI s0), .int (nI i), .int x1, .int x2] : List Value).toArray s 0 0 (AA (List.flatten [bX7 a G v]))) (F0 m 3 ls [])) ?_ ?_ 0 (Nat.zero_le _)  _ _ _ hP hD hS (lv_sub hl [0, 1, 2, 3, 4, 5] rfl) 
  · skip
    intro H locs ls hP hD hS hl 
    refine lv_iload hx hb dX7_ways_3 (lv_at hl 0 rfl) ?_
    refine lv_bipush (v := 6) hx hb dX7_ways_5 (by decide) ?_
    refine lv_icmp_ge (tgt := 35) hx hb dX7_ways_7 (by decide) (fun c_7 => ?_) (fun c_7 => absurd ((by decide : (6 : Int32) ≤ nI 6)) c_7)
    refine lv_iconst (v := 0) hx hb dX7_ways_35 (by decide) ?_
    refine lv_istore (lv' := [(5, .int 0), (0, .ref (a 0)), (1, .int (nI s0)), (2, .int (nI i)), (3, .int x1), (4, .int x2)]) hx hb dX7_ways_36 hl (by decide) rfl (fun ls hl => ?_)
    have eOV0 : (setA v 14 (itN (s_turn (v.1 5) (v.1 10) (v.1 4) s0 i x2) (itN (s_far0 x1) (v.1 14) 6) 0)) = (setA v 14 (itN (s_far0 x1) (v.1 14) 6)) := by
      refine Prod.ext (funext fun u => ?_) (funext fun u => ?_)
      · by_cases h14 : u = 14
        · subst h14; rfl
        · skip
          simp only [setA, setI, if_neg h14]
      · rfl
    have hP : PP G [bX7 a G (setA v 14 (itN (s_turn (v.1 5) (v.1 10) (v.1 4) s0 i x2) (itN (s_far0 x1) (v.1 14) 6) 0))] H := by rw [eOV0]; exact hP
    have hD : DD (AA (List.flatten [bX7 a G v])) [bX7 a G (setA v 14 (itN (s_turn (v.1 5) (v.1 10) (v.1 4) s0 i x2) (itN (s_far0 x1) (v.1 14) 6) 0))] := D_re hD (adc (bX7_ad _ _ _ _) adn)
    refine lp_up (N := 6) (P := fun t => ∀ (H : Heap) (locs : List Loc) (ls : Array Slot), PP G [bX7 a G (setA v 14 (itN (s_turn (v.1 5) (v.1 10) (v.1 4) s0 i x2) (itN (s_far0 x1) (v.1 14) 6) t))] H → DD (AA (List.flatten [bX7 a G v])) [bX7 a G (setA v 14 (itN (s_turn (v.1 5) (v.1 10) (v.1 4) s0 i x2) (itN (s_far0 x1) (v.1 14) 6) t))] → va_S (AA (List.flatten [bX7 a G v])) s.heap H locs → lv_has ls 10 [(5, .int (nI t)), (0, .ref (a 0)), (1, .int (nI s0)), (2, .int (nI i)), (3, .int x1), (4, .int x2)] →  W p l e (headSpec wsX7_ways rm_X7_ways).room s m ([.ref (a 0), .int (nI s0), .int (nI i), .int x1, .int x2] : List Value).toArray below meth c H locs 0 0 (MQ below (kQs G [bX7 a G v] (fun r bc => r = none ∧ bc = [bX7 a G (setA v 14 (g_ways ((v.1 5)) ((v.1 10)) ((v.1 4)) ((v.1 14)) s0 i x1 x2))])) ([.ref (a 0), .int (nI s0), .int (nI i), .int x1, .int x2] : List Value).toArray s 0 0 (AA (List.flatten [bX7 a G v]))) (F0 m 38 ls [])) ?_ ?_ 0 (Nat.zero_le _)  _ _ _ hP hD hS (lv_sub hl [0, 1, 2, 3, 4, 5] rfl) 
    · skip
      intro H locs ls hP hD hS hl 
      refine lv_iload hx hb dX7_ways_38 (lv_at hl 0 rfl) ?_
      refine lv_bipush (v := 6) hx hb dX7_ways_40 (by decide) ?_
      refine lv_icmp_ge (tgt := 214) hx hb dX7_ways_42 (by decide) (fun c_42 => ?_) (fun c_42 => absurd ((by decide : (6 : Int32) ≤ nI 6)) c_42)
      have hP : PP G [bX7 a G (setA v 14 (g_ways ((v.1 5)) ((v.1 10)) ((v.1 4)) ((v.1 14)) s0 i x1 x2))] H := by
        unfold g_ways
        exact hP
      exact kr_sv hx hb hr hlocks dX7_ways_214 hP hS (sameAd_cons (bX7_ad _ _ _ _) sameAd_nil) ⟨rfl, rfl⟩
    · skip
      intro t hk_t ih_38 H locs ls hP hD hS hl 
      refine lv_iload hx hb dX7_ways_38 (lv_at hl 0 rfl) ?_
      refine lv_bipush (v := 6) hx hb dX7_ways_40 (by decide) ?_
      refine lv_icmp_ge (tgt := 214) hx hb dX7_ways_42 (by decide) (fun c_42 => absurd c_42 (nI_ge (b := 6) hk_t (by decide))) (fun c_42 => ?_)
      refine lv_iconst (v := 0) hx hb dX7_ways_45 (by decide) ?_
      refine lv_istore (lv' := [(6, .int 0), (5, .int (nI t)), (0, .ref (a 0)), (1, .int (nI s0)), (2, .int (nI i)), (3, .int x1), (4, .int x2)]) hx hb dX7_ways_46 hl (by decide) rfl (fun ls hl => ?_)
      have eOV0 : (setA v 14 (itN (s_rel (v.1 5) (v.1 10) s0 i x2) (itN (s_turn (v.1 5) (v.1 10) (v.1 4) s0 i x2) (itN (s_far0 x1) (v.1 14) 6) t) 0)) = (setA v 14 (itN (s_turn (v.1 5) (v.1 10) (v.1 4) s0 i x2) (itN (s_far0 x1) (v.1 14) 6) t)) := by
        refine Prod.ext (funext fun u => ?_) (funext fun u => ?_)
        · by_cases h14 : u = 14
          · subst h14; rfl
          · skip
            simp only [setA, setI, if_neg h14]
        · rfl
      have hP : PP G [bX7 a G (setA v 14 (itN (s_rel (v.1 5) (v.1 10) s0 i x2) (itN (s_turn (v.1 5) (v.1 10) (v.1 4) s0 i x2) (itN (s_far0 x1) (v.1 14) 6) t) 0))] H := by rw [eOV0]; exact hP
      have hD : DD (AA (List.flatten [bX7 a G v])) [bX7 a G (setA v 14 (itN (s_rel (v.1 5) (v.1 10) s0 i x2) (itN (s_turn (v.1 5) (v.1 10) (v.1 4) s0 i x2) (itN (s_far0 x1) (v.1 14) 6) t) 0))] := D_re hD (adc (bX7_ad _ _ _ _) adn)
      refine lp_up (N := (v.1 4 0).toNatClampNeg) (P := fun k => ∀ (H : Heap) (locs : List Loc) (ls : Array Slot), PP G [bX7 a G (setA v 14 (itN (s_rel (v.1 5) (v.1 10) s0 i x2) (itN (s_turn (v.1 5) (v.1 10) (v.1 4) s0 i x2) (itN (s_far0 x1) (v.1 14) 6) t) k))] H → DD (AA (List.flatten [bX7 a G v])) [bX7 a G (setA v 14 (itN (s_rel (v.1 5) (v.1 10) s0 i x2) (itN (s_turn (v.1 5) (v.1 10) (v.1 4) s0 i x2) (itN (s_far0 x1) (v.1 14) 6) t) k))] → va_S (AA (List.flatten [bX7 a G v])) s.heap H locs → lv_has ls 10 [(6, .int (nI k)), (5, .int (nI t)), (0, .ref (a 0)), (1, .int (nI s0)), (2, .int (nI i)), (3, .int x1), (4, .int x2)] →  W p l e (headSpec wsX7_ways rm_X7_ways).room s m ([.ref (a 0), .int (nI s0), .int (nI i), .int x1, .int x2] : List Value).toArray below meth c H locs 0 0 (MQ below (kQs G [bX7 a G v] (fun r bc => r = none ∧ bc = [bX7 a G (setA v 14 (g_ways ((v.1 5)) ((v.1 10)) ((v.1 4)) ((v.1 14)) s0 i x1 x2))])) ([.ref (a 0), .int (nI s0), .int (nI i), .int x1, .int x2] : List Value).toArray s 0 0 (AA (List.flatten [bX7 a G v]))) (F0 m 48 ls [])) ?_ ?_ 0 (Nat.zero_le _)  _ _ _ hP hD hS (lv_sub hl [0, 1, 2, 3, 4, 5, 6] rfl) 
      · skip
        intro H locs ls hP hD hS hl 
        refine lv_iload hx hb dX7_ways_48 (lv_at hl 0 rfl) ?_
        refine lv_aload_n hx hb dX7_ways_50 rfl (lv_at hl 2 rfl) ?_
        refine kb_get (own := RX7) (C := RX7) (T := TX7) (N := 19) (v := .ref (a 3)) hx hb hts hin7 hown hX hP 0 rfl rfl rfl 4 (by decide) rfl (by decide +kernel) rfl dX7_ways_51 ?_
        refine lv_iconst (v := 0) hx hb dX7_ways_54 (by decide) ?_
        refine kb_ialdN (jn := 0) (n := 2) (f := v.1 4) hx hb hX hP 0 3 rfl rfl rfl (by omega) (by decide) dX7_ways_55 ?_
        refine lv_icmp_ge (tgt := 208) hx hb dX7_ways_56 (by decide) (fun c_56 => ?_) (fun c_56 => absurd (lpx_c _) c_56)
        refine lv_iinc (v := nI (t + 1)) (lv' := [(5, .int (nI (t + 1))), (6, .int (nI ((v.1 4 0).toNatClampNeg))), (0, .ref (a 0)), (1, .int (nI s0)), (2, .int (nI i)), (3, .int x1), (4, .int x2)]) hx hb dX7_ways_208 hl (k := 1) rfl (nI_1 _) (by decide) rfl (fun ls hl => ?_)
        refine lv_goto (tgt := 38) hx hb dX7_ways_211 (by decide) ?_
        have hP : PP G [bX7 a G (setA v 14 (itN (s_turn (v.1 5) (v.1 10) (v.1 4) s0 i x2) (itN (s_far0 x1) (v.1 14) 6) (t + 1)))] H := by
          try simp only [ov_n1, ov_m1, ov_nc, ov_mc, ov_c] at hP ⊢
          exact hP
        have hD : DD (AA (List.flatten [bX7 a G v])) [bX7 a G (setA v 14 (itN (s_turn (v.1 5) (v.1 10) (v.1 4) s0 i x2) (itN (s_far0 x1) (v.1 14) 6) (t + 1)))] := D_re hD (adc (bX7_ad _ _ _ _) adn)
        exact ih_38  _ _ _ hP hD hS (show lv_has ls 10 [(5, .int (nI (t + 1))), (0, .ref (a 0)), (1, .int (nI s0)), (2, .int (nI i)), (3, .int x1), (4, .int x2)] from lv_sub hl [0, 2, 3, 4, 5, 6] rfl) 
      · skip
        intro k hk_k ih_48 H locs ls hP hD hS hl 
        refine lv_iload hx hb dX7_ways_48 (lv_at hl 0 rfl) ?_
        refine lv_aload_n hx hb dX7_ways_50 rfl (lv_at hl 2 rfl) ?_
        refine kb_get (own := RX7) (C := RX7) (T := TX7) (N := 19) (v := .ref (a 3)) hx hb hts hin7 hown hX hP 0 rfl rfl rfl 4 (by decide) rfl (by decide +kernel) rfl dX7_ways_51 ?_
        refine lv_iconst (v := 0) hx hb dX7_ways_54 (by decide) ?_
        refine kb_ialdN (jn := 0) (n := 2) (f := v.1 4) hx hb hX hP 0 3 rfl rfl rfl (by omega) (by decide) dX7_ways_55 ?_
        refine lv_icmp_ge (tgt := 208) hx hb dX7_ways_56 (by decide) (fun c_56 => absurd c_56 (lps_c hk_k)) (fun c_56 => ?_)
        have hbA := (cl_of_vp (hR k hk_k).1).2
        have hbB := (cl_of_vp (hR k hk_k).2).2
        refine lv_iload hx hb dX7_ways_59 (lv_at hl 6 rfl) ?_
        refine lv_iload hx hb dX7_ways_61 (lv_at hl 0 rfl) ?_
        refine lv_ishr hx hb dX7_ways_63 ?_
        refine lv_iconst (v := 1) hx hb dX7_ways_64 (by decide) ?_
        refine lv_iand hx hb dX7_ways_65 ?_
        refine lv_iconst (v := 1) hx hb dX7_ways_66 (by decide) ?_
        refine lv_icmp_ne (tgt := 74) hx hb dX7_ways_67 (by decide) (fun c_67 => ?_) (fun c_67 => ?_)
        · refine lv_aload_n hx hb dX7_ways_74 rfl (lv_at hl 2 rfl) ?_
          refine lv_iload_n hx hb dX7_ways_75 rfl (lv_at hl 3 rfl) ?_
          refine lv_iload hx hb dX7_ways_76 (lv_at hl 0 rfl) ?_
          refine lv_iload_n hx hb dX7_ways_78 rfl (lv_at hl 4 rfl) ?_
          refine kcV_p hx hb hml hown hts hX hP (c_X7_costs l G a (setA v 14 (itN (s_rel (v.1 5) (v.1 10) s0 i x2) (itN (s_turn (v.1 5) (v.1 10) (v.1 4) s0 i x2) (itN (s_far0 x1) (v.1 14) 6) t) k)) s0 k i (by omega) (by omega) (by omega)) gX7_ways_X7_costs 3 rfl rfl rfl hd_X7_costs ⟨Nat.le_of_ble_eq_true rfl, Nat.le_of_ble_eq_true rfl⟩ [0] rfl 0 rfl rfl rfl hl.1 rfl rfl (Nat.le_of_ble_eq_true rfl) dX7_ways_79 ⟨Nat.zero_le _, Nat.zero_le _⟩ ?_
          refine kb_rw (y := g_costs ((v.1 10)) s0 k i) rfl ?_
          refine lv_istore (lv' := [(7, .int (g_costs ((v.1 10)) s0 k i)), (6, .int (nI k)), (5, .int (nI t)), (0, .ref (a 0)), (1, .int (nI s0)), (2, .int (nI i)), (3, .int x1), (4, .int x2)]) hx hb dX7_ways_82 hl (by decide) rfl (fun ls hl => ?_)
          refine lv_aload_n hx hb dX7_ways_84 rfl (lv_at hl 3 rfl) ?_
          refine kb_get (own := RX7) (C := RX7) (T := TX7) (N := 19) (v := .ref (a 4)) hx hb hts hin7 hown hX hP 0 rfl rfl rfl 5 (by decide) rfl (by decide +kernel) rfl dX7_ways_85 ?_
          refine lv_iconst (v := 3) hx hb dX7_ways_88 (by decide) ?_
          refine lv_iload hx hb dX7_ways_89 (lv_at hl 1 rfl) ?_
          refine lv_imul hx hb dX7_ways_91 ?_
          refine kb_ialdN (jn := 3 * k) (n := 48) (f := v.1 5) hx hb hX hP 0 4 rfl rfl (by simp only [nI_addE, nI_mulE] <;> rfl) (by omega) (by decide) dX7_ways_92 ?_
          refine kb_nat ((cl_of_vp (hR k hk_k).1).1) ?_
          refine lv_istore (lv' := [(8, .int (nI ((v.1 5) (3 * k)).toNatClampNeg)), (7, .int (g_costs ((v.1 10)) s0 k i)), (6, .int (nI k)), (5, .int (nI t)), (0, .ref (a 0)), (1, .int (nI s0)), (2, .int (nI i)), (3, .int x1), (4, .int x2)]) hx hb dX7_ways_93 hl (by decide) rfl (fun ls hl => ?_)
          refine lv_aload_n hx hb dX7_ways_95 rfl (lv_at hl 4 rfl) ?_
          refine kb_get (own := RX7) (C := RX7) (T := TX7) (N := 19) (v := .ref (a 4)) hx hb hts hin7 hown hX hP 0 rfl rfl rfl 5 (by decide) rfl (by decide +kernel) rfl dX7_ways_96 ?_
          refine lv_iconst (v := 3) hx hb dX7_ways_99 (by decide) ?_
          refine lv_iload hx hb dX7_ways_100 (lv_at hl 2 rfl) ?_
          refine lv_imul hx hb dX7_ways_102 ?_
          refine lv_iconst (v := 1) hx hb dX7_ways_103 (by decide) ?_
          refine lv_iadd hx hb dX7_ways_104 ?_
          refine kb_ialdN (jn := (3 * k) + 1) (n := 48) (f := v.1 5) hx hb hX hP 0 4 rfl rfl (by simp only [nI_addE, nI_mulE] <;> rfl) (by omega) (by decide) dX7_ways_105 ?_
          refine kb_nat ((cl_of_vp (hR k hk_k).2).1) ?_
          refine lv_istore (lv' := [(9, .int (nI ((v.1 5) ((3 * k) + 1)).toNatClampNeg)), (8, .int (nI ((v.1 5) (3 * k)).toNatClampNeg)), (7, .int (g_costs ((v.1 10)) s0 k i)), (6, .int (nI k)), (5, .int (nI t)), (0, .ref (a 0)), (1, .int (nI s0)), (2, .int (nI i)), (3, .int x1), (4, .int x2)]) hx hb dX7_ways_106 hl (by decide) rfl (fun ls hl => ?_)
          refine lv_aload_n hx hb dX7_ways_108 rfl (lv_at hl 5 rfl) ?_
          refine kb_get (own := RX7) (C := RX7) (T := TX7) (N := 19) (v := .ref (a 11)) hx hb hts hin7 hown hX hP 0 rfl rfl rfl 14 (by decide) rfl (by decide +kernel) rfl dX7_ways_109 ?_
          refine lv_iload hx hb dX7_ways_112 (lv_at hl 1 rfl) ?_
          refine lv_aload_n hx hb dX7_ways_114 rfl (lv_at hl 5 rfl) ?_
          refine kb_get (own := RX7) (C := RX7) (T := TX7) (N := 19) (v := .ref (a 11)) hx hb hts hin7 hown hX hP 0 rfl rfl rfl 14 (by decide) rfl (by decide +kernel) rfl dX7_ways_115 ?_
          refine lv_iload hx hb dX7_ways_118 (lv_at hl 0 rfl) ?_
          refine kb_ialdN (jn := ((v.1 5) ((3 * k) + 1)).toNatClampNeg) (n := 6) (f := itN (s_rel (v.1 5) (v.1 10) s0 i x2) (itN (s_turn (v.1 5) (v.1 10) (v.1 4) s0 i x2) (itN (s_far0 x1) (v.1 14) 6) t) k) hx hb hX hP 0 11 rfl rfl rfl (by omega) (by decide) dX7_ways_120 ?_
          refine lv_iload hx hb dX7_ways_121 (lv_at hl 2 rfl) ?_
          refine lv_iadd hx hb dX7_ways_123 ?_
          refine lv_aload_n hx hb dX7_ways_124 rfl (lv_at hl 5 rfl) ?_
          refine kb_get (own := RX7) (C := RX7) (T := TX7) (N := 19) (v := .ref (a 11)) hx hb hts hin7 hown hX hP 0 rfl rfl rfl 14 (by decide) rfl (by decide +kernel) rfl dX7_ways_125 ?_
          refine lv_iload hx hb dX7_ways_128 (lv_at hl 1 rfl) ?_
          refine kb_ialdN (jn := ((v.1 5) (3 * k)).toNatClampNeg) (n := 6) (f := itN (s_rel (v.1 5) (v.1 10) s0 i x2) (itN (s_turn (v.1 5) (v.1 10) (v.1 4) s0 i x2) (itN (s_far0 x1) (v.1 14) 6) t) k) hx hb hX hP 0 11 rfl rfl rfl (by omega) (by decide) dX7_ways_130 ?_
          refine lv_icmp_ge (tgt := 147) hx hb dX7_ways_131 (by decide) (fun c_131 => ?_) (fun c_131 => ?_)
          · refine lv_aload_n hx hb dX7_ways_147 rfl (lv_at hl 5 rfl) ?_
            refine kb_get (own := RX7) (C := RX7) (T := TX7) (N := 19) (v := .ref (a 11)) hx hb hts hin7 hown hX hP 0 rfl rfl rfl 14 (by decide) rfl (by decide +kernel) rfl dX7_ways_148 ?_
            refine lv_iload hx hb dX7_ways_151 (lv_at hl 1 rfl) ?_
            refine kb_ialdN (jn := ((v.1 5) (3 * k)).toNatClampNeg) (n := 6) (f := itN (s_rel (v.1 5) (v.1 10) s0 i x2) (itN (s_turn (v.1 5) (v.1 10) (v.1 4) s0 i x2) (itN (s_far0 x1) (v.1 14) 6) t) k) hx hb hX hP 0 11 rfl rfl rfl (by omega) (by decide) dX7_ways_153 ?_
            refine kb_iastN (jn := ((v.1 5) (3 * k)).toNatClampNeg) (n := 6) (f := itN (s_rel (v.1 5) (v.1 10) s0 i x2) (itN (s_turn (v.1 5) (v.1 10) (v.1 4) s0 i x2) (itN (s_far0 x1) (v.1 14) 6) t) k) hx hb hX hP hD hS 0 11 rfl rfl rfl (by omega) (by decide) dX7_ways_154 (bX7_A14 a G (setA v 14 (itN (s_rel (v.1 5) (v.1 10) s0 i x2) (itN (s_turn (v.1 5) (v.1 10) (v.1 4) s0 i x2) (itN (s_far0 x1) (v.1 14) 6) t) k)) (upd (itN (s_rel (v.1 5) (v.1 10) s0 i x2) (itN (s_turn (v.1 5) (v.1 10) (v.1 4) s0 i x2) (itN (s_far0 x1) (v.1 14) 6) t) k) (((v.1 5) (3 * k)).toNatClampNeg) ((itN (s_rel (v.1 5) (v.1 10) s0 i x2) (itN (s_turn (v.1 5) (v.1 10) (v.1 4) s0 i x2) (itN (s_far0 x1) (v.1 14) 6) t) k) (((v.1 5) (3 * k)).toNatClampNeg)))) (fun H locs hP hD hS => ?_)
            have hP : PP G [bX7 a G (setA (setA v 14 (itN (s_rel (v.1 5) (v.1 10) s0 i x2) (itN (s_turn (v.1 5) (v.1 10) (v.1 4) s0 i x2) (itN (s_far0 x1) (v.1 14) 6) t) k)) 14 (upd (itN (s_rel (v.1 5) (v.1 10) s0 i x2) (itN (s_turn (v.1 5) (v.1 10) (v.1 4) s0 i x2) (itN (s_far0 x1) (v.1 14) 6) t) k) (((v.1 5) (3 * k)).toNatClampNeg) ((itN (s_rel (v.1 5) (v.1 10) s0 i x2) (itN (s_turn (v.1 5) (v.1 10) (v.1 4) s0 i x2) (itN (s_far0 x1) (v.1 14) 6) t) k) (((v.1 5) (3 * k)).toNatClampNeg))))] H := hP
            have hD : DD (AA (List.flatten [bX7 a G v])) [bX7 a G (setA (setA v 14 (itN (s_rel (v.1 5) (v.1 10) s0 i x2) (itN (s_turn (v.1 5) (v.1 10) (v.1 4) s0 i x2) (itN (s_far0 x1) (v.1 14) 6) t) k)) 14 (upd (itN (s_rel (v.1 5) (v.1 10) s0 i x2) (itN (s_turn (v.1 5) (v.1 10) (v.1 4) s0 i x2) (itN (s_far0 x1) (v.1 14) 6) t) k) (((v.1 5) (3 * k)).toNatClampNeg) ((itN (s_rel (v.1 5) (v.1 10) s0 i x2) (itN (s_turn (v.1 5) (v.1 10) (v.1 4) s0 i x2) (itN (s_far0 x1) (v.1 14) 6) t) k) (((v.1 5) (3 * k)).toNatClampNeg))))] := D_re hD (adc (bX7_ad _ _ _ _) adn)
            refine lv_aload_n hx hb dX7_ways_155 rfl (lv_at hl 5 rfl) ?_
            refine kb_get (own := RX7) (C := RX7) (T := TX7) (N := 19) (v := .ref (a 11)) hx hb hts hin7 hown hX hP 0 rfl rfl rfl 14 (by decide) rfl (by decide +kernel) rfl dX7_ways_156 ?_
            refine lv_iload hx hb dX7_ways_159 (lv_at hl 0 rfl) ?_
            refine lv_aload_n hx hb dX7_ways_161 rfl (lv_at hl 5 rfl) ?_
            refine kb_get (own := RX7) (C := RX7) (T := TX7) (N := 19) (v := .ref (a 11)) hx hb hts hin7 hown hX hP 0 rfl rfl rfl 14 (by decide) rfl (by decide +kernel) rfl dX7_ways_162 ?_
            refine lv_iload hx hb dX7_ways_165 (lv_at hl 1 rfl) ?_
            refine kb_ialdN (jn := ((v.1 5) (3 * k)).toNatClampNeg) (n := 6) (f := upd (itN (s_rel (v.1 5) (v.1 10) s0 i x2) (itN (s_turn (v.1 5) (v.1 10) (v.1 4) s0 i x2) (itN (s_far0 x1) (v.1 14) 6) t) k) (((v.1 5) (3 * k)).toNatClampNeg) ((itN (s_rel (v.1 5) (v.1 10) s0 i x2) (itN (s_turn (v.1 5) (v.1 10) (v.1 4) s0 i x2) (itN (s_far0 x1) (v.1 14) 6) t) k) (((v.1 5) (3 * k)).toNatClampNeg))) hx hb hX hP 0 11 rfl rfl rfl (by omega) (by decide) dX7_ways_167 ?_
            refine lv_iload hx hb dX7_ways_168 (lv_at hl 2 rfl) ?_
            refine lv_iadd hx hb dX7_ways_170 ?_
            refine lv_aload_n hx hb dX7_ways_171 rfl (lv_at hl 5 rfl) ?_
            refine kb_get (own := RX7) (C := RX7) (T := TX7) (N := 19) (v := .ref (a 11)) hx hb hts hin7 hown hX hP 0 rfl rfl rfl 14 (by decide) rfl (by decide +kernel) rfl dX7_ways_172 ?_
            refine lv_iload hx hb dX7_ways_175 (lv_at hl 0 rfl) ?_
            refine kb_ialdN (jn := ((v.1 5) ((3 * k) + 1)).toNatClampNeg) (n := 6) (f := upd (itN (s_rel (v.1 5) (v.1 10) s0 i x2) (itN (s_turn (v.1 5) (v.1 10) (v.1 4) s0 i x2) (itN (s_far0 x1) (v.1 14) 6) t) k) (((v.1 5) (3 * k)).toNatClampNeg) ((itN (s_rel (v.1 5) (v.1 10) s0 i x2) (itN (s_turn (v.1 5) (v.1 10) (v.1 4) s0 i x2) (itN (s_far0 x1) (v.1 14) 6) t) k) (((v.1 5) (3 * k)).toNatClampNeg))) hx hb hX hP 0 11 rfl rfl rfl (by omega) (by decide) dX7_ways_177 ?_
            refine lv_icmp_ge (tgt := 194) hx hb dX7_ways_178 (by decide) (fun c_178 => ?_) (fun c_178 => ?_)
            · refine lv_aload_n hx hb dX7_ways_194 rfl (lv_at hl 5 rfl) ?_
              refine kb_get (own := RX7) (C := RX7) (T := TX7) (N := 19) (v := .ref (a 11)) hx hb hts hin7 hown hX hP 0 rfl rfl rfl 14 (by decide) rfl (by decide +kernel) rfl dX7_ways_195 ?_
              refine lv_iload hx hb dX7_ways_198 (lv_at hl 0 rfl) ?_
              refine kb_ialdN (jn := ((v.1 5) ((3 * k) + 1)).toNatClampNeg) (n := 6) (f := upd (itN (s_rel (v.1 5) (v.1 10) s0 i x2) (itN (s_turn (v.1 5) (v.1 10) (v.1 4) s0 i x2) (itN (s_far0 x1) (v.1 14) 6) t) k) (((v.1 5) (3 * k)).toNatClampNeg) ((itN (s_rel (v.1 5) (v.1 10) s0 i x2) (itN (s_turn (v.1 5) (v.1 10) (v.1 4) s0 i x2) (itN (s_far0 x1) (v.1 14) 6) t) k) (((v.1 5) (3 * k)).toNatClampNeg))) hx hb hX hP 0 11 rfl rfl rfl (by omega) (by decide) dX7_ways_200 ?_
              refine kb_iastN (jn := ((v.1 5) ((3 * k) + 1)).toNatClampNeg) (n := 6) (f := upd (itN (s_rel (v.1 5) (v.1 10) s0 i x2) (itN (s_turn (v.1 5) (v.1 10) (v.1 4) s0 i x2) (itN (s_far0 x1) (v.1 14) 6) t) k) (((v.1 5) (3 * k)).toNatClampNeg) ((itN (s_rel (v.1 5) (v.1 10) s0 i x2) (itN (s_turn (v.1 5) (v.1 10) (v.1 4) s0 i x2) (itN (s_far0 x1) (v.1 14) 6) t) k) (((v.1 5) (3 * k)).toNatClampNeg))) hx hb hX hP hD hS 0 11 rfl rfl rfl (by omega) (by decide) dX7_ways_201 (bX7_A14 a G (setA (setA v 14 (itN (s_rel (v.1 5) (v.1 10) s0 i x2) (itN (s_turn (v.1 5) (v.1 10) (v.1 4) s0 i x2) (itN (s_far0 x1) (v.1 14) 6) t) k)) 14 (upd (itN (s_rel (v.1 5) (v.1 10) s0 i x2) (itN (s_turn (v.1 5) (v.1 10) (v.1 4) s0 i x2) (itN (s_far0 x1) (v.1 14) 6) t) k) (((v.1 5) (3 * k)).toNatClampNeg) ((itN (s_rel (v.1 5) (v.1 10) s0 i x2) (itN (s_turn (v.1 5) (v.1 10) (v.1 4) s0 i x2) (itN (s_far0 x1) (v.1 14) 6) t) k) (((v.1 5) (3 * k)).toNatClampNeg)))) (upd (upd (itN (s_rel (v.1 5) (v.1 10) s0 i x2) (itN (s_turn (v.1 5) (v.1 10) (v.1 4) s0 i x2) (itN (s_far0 x1) (v.1 14) 6) t) k) (((v.1 5) (3 * k)).toNatClampNeg) ((itN (s_rel (v.1 5) (v.1 10) s0 i x2) (itN (s_turn (v.1 5) (v.1 10) (v.1 4) s0 i x2) (itN (s_far0 x1) (v.1 14) 6) t) k) (((v.1 5) (3 * k)).toNatClampNeg))) (((v.1 5) ((3 * k) + 1)).toNatClampNeg) ((upd (itN (s_rel (v.1 5) (v.1 10) s0 i x2) (itN (s_turn (v.1 5) (v.1 10) (v.1 4) s0 i x2) (itN (s_far0 x1) (v.1 14) 6) t) k) (((v.1 5) (3 * k)).toNatClampNeg) ((itN (s_rel (v.1 5) (v.1 10) s0 i x2) (itN (s_turn (v.1 5) (v.1 10) (v.1 4) s0 i x2) (itN (s_far0 x1) (v.1 14) 6) t) k) (((v.1 5) (3 * k)).toNatClampNeg))) (((v.1 5) ((3 * k) + 1)).toNatClampNeg)))) (fun H locs hP hD hS => ?_)
              have hP : PP G [bX7 a G (setA (setA (setA v 14 (itN (s_rel (v.1 5) (v.1 10) s0 i x2) (itN (s_turn (v.1 5) (v.1 10) (v.1 4) s0 i x2) (itN (s_far0 x1) (v.1 14) 6) t) k)) 14 (upd (itN (s_rel (v.1 5) (v.1 10) s0 i x2) (itN (s_turn (v.1 5) (v.1 10) (v.1 4) s0 i x2) (itN (s_far0 x1) (v.1 14) 6) t) k) (((v.1 5) (3 * k)).toNatClampNeg) ((itN (s_rel (v.1 5) (v.1 10) s0 i x2) (itN (s_turn (v.1 5) (v.1 10) (v.1 4) s0 i x2) (itN (s_far0 x1) (v.1 14) 6) t) k) (((v.1 5) (3 * k)).toNatClampNeg)))) 14 (upd (upd (itN (s_rel (v.1 5) (v.1 10) s0 i x2) (itN (s_turn (v.1 5) (v.1 10) (v.1 4) s0 i x2) (itN (s_far0 x1) (v.1 14) 6) t) k) (((v.1 5) (3 * k)).toNatClampNeg) ((itN (s_rel (v.1 5) (v.1 10) s0 i x2) (itN (s_turn (v.1 5) (v.1 10) (v.1 4) s0 i x2) (itN (s_far0 x1) (v.1 14) 6) t) k) (((v.1 5) (3 * k)).toNatClampNeg))) (((v.1 5) ((3 * k) + 1)).toNatClampNeg) ((upd (itN (s_rel (v.1 5) (v.1 10) s0 i x2) (itN (s_turn (v.1 5) (v.1 10) (v.1 4) s0 i x2) (itN (s_far0 x1) (v.1 14) 6) t) k) (((v.1 5) (3 * k)).toNatClampNeg) ((itN (s_rel (v.1 5) (v.1 10) s0 i x2) (itN (s_turn (v.1 5) (v.1 10) (v.1 4) s0 i x2) (itN (s_far0 x1) (v.1 14) 6) t) k) (((v.1 5) (3 * k)).toNatClampNeg))) (((v.1 5) ((3 * k) + 1)).toNatClampNeg))))] H := hP
              have hD : DD (AA (List.flatten [bX7 a G v])) [bX7 a G (setA (setA (setA v 14 (itN (s_rel (v.1 5) (v.1 10) s0 i x2) (itN (s_turn (v.1 5) (v.1 10) (v.1 4) s0 i x2) (itN (s_far0 x1) (v.1 14) 6) t) k)) 14 (upd (itN (s_rel (v.1 5) (v.1 10) s0 i x2) (itN (s_turn (v.1 5) (v.1 10) (v.1 4) s0 i x2) (itN (s_far0 x1) (v.1 14) 6) t) k) (((v.1 5) (3 * k)).toNatClampNeg) ((itN (s_rel (v.1 5) (v.1 10) s0 i x2) (itN (s_turn (v.1 5) (v.1 10) (v.1 4) s0 i x2) (itN (s_far0 x1) (v.1 14) 6) t) k) (((v.1 5) (3 * k)).toNatClampNeg)))) 14 (upd (upd (itN (s_rel (v.1 5) (v.1 10) s0 i x2) (itN (s_turn (v.1 5) (v.1 10) (v.1 4) s0 i x2) (itN (s_far0 x1) (v.1 14) 6) t) k) (((v.1 5) (3 * k)).toNatClampNeg) ((itN (s_rel (v.1 5) (v.1 10) s0 i x2) (itN (s_turn (v.1 5) (v.1 10) (v.1 4) s0 i x2) (itN (s_far0 x1) (v.1 14) 6) t) k) (((v.1 5) (3 * k)).toNatClampNeg))) (((v.1 5) ((3 * k) + 1)).toNatClampNeg) ((upd (itN (s_rel (v.1 5) (v.1 10) s0 i x2) (itN (s_turn (v.1 5) (v.1 10) (v.1 4) s0 i x2) (itN (s_far0 x1) (v.1 14) 6) t) k) (((v.1 5) (3 * k)).toNatClampNeg) ((itN (s_rel (v.1 5) (v.1 10) s0 i x2) (itN (s_turn (v.1 5) (v.1 10) (v.1 4) s0 i x2) (itN (s_far0 x1) (v.1 14) 6) t) k) (((v.1 5) (3 * k)).toNatClampNeg))) (((v.1 5) ((3 * k) + 1)).toNatClampNeg))))] := D_re hD (adc (bX7_ad _ _ _ _) adn)
              refine lv_iinc (v := nI (k + 1)) (lv' := [(6, .int (nI (k + 1))), (9, .int (nI ((v.1 5) ((3 * k) + 1)).toNatClampNeg)), (8, .int (nI ((v.1 5) (3 * k)).toNatClampNeg)), (7, .int (g_costs ((v.1 10)) s0 k i)), (5, .int (nI t)), (0, .ref (a 0)), (1, .int (nI s0)), (2, .int (nI i)), (3, .int x1), (4, .int x2)]) hx hb dX7_ways_202 hl (k := 3) rfl (nI_1 _) (by decide) rfl (fun ls hl => ?_)
              refine lv_goto (tgt := 48) hx hb dX7_ways_205 (by decide) ?_
              have hP : PP G [bX7 a G (setA v 14 (itN (s_rel (v.1 5) (v.1 10) s0 i x2) (itN (s_turn (v.1 5) (v.1 10) (v.1 4) s0 i x2) (itN (s_far0 x1) (v.1 14) 6) t) (k + 1)))] H := by
                rw [itN_s]
                simp only [s_rel, relA, relB, if_pos c_7, if_neg c_42, if_neg c_56, if_neg c_67, if_pos c_131, if_pos c_178]
                try simp only [ov_n1, ov_m1, ov_nc, ov_mc, ov_c] at hP ⊢
                exact hP
              have hD : DD (AA (List.flatten [bX7 a G v])) [bX7 a G (setA v 14 (itN (s_rel (v.1 5) (v.1 10) s0 i x2) (itN (s_turn (v.1 5) (v.1 10) (v.1 4) s0 i x2) (itN (s_far0 x1) (v.1 14) 6) t) (k + 1)))] := D_re hD (adc (bX7_ad _ _ _ _) adn)
              exact ih_48  _ _ _ hP hD hS (show lv_has ls 10 [(6, .int (nI (k + 1))), (5, .int (nI t)), (0, .ref (a 0)), (1, .int (nI s0)), (2, .int (nI i)), (3, .int x1), (4, .int x2)] from lv_sub hl [0, 4, 5, 6, 7, 8, 9] rfl) 
            · refine lv_aload_n hx hb dX7_ways_181 rfl (lv_at hl 5 rfl) ?_
              refine kb_get (own := RX7) (C := RX7) (T := TX7) (N := 19) (v := .ref (a 11)) hx hb hts hin7 hown hX hP 0 rfl rfl rfl 14 (by decide) rfl (by decide +kernel) rfl dX7_ways_182 ?_
              refine lv_iload hx hb dX7_ways_185 (lv_at hl 1 rfl) ?_
              refine kb_ialdN (jn := ((v.1 5) (3 * k)).toNatClampNeg) (n := 6) (f := upd (itN (s_rel (v.1 5) (v.1 10) s0 i x2) (itN (s_turn (v.1 5) (v.1 10) (v.1 4) s0 i x2) (itN (s_far0 x1) (v.1 14) 6) t) k) (((v.1 5) (3 * k)).toNatClampNeg) ((itN (s_rel (v.1 5) (v.1 10) s0 i x2) (itN (s_turn (v.1 5) (v.1 10) (v.1 4) s0 i x2) (itN (s_far0 x1) (v.1 14) 6) t) k) (((v.1 5) (3 * k)).toNatClampNeg))) hx hb hX hP 0 11 rfl rfl rfl (by omega) (by decide) dX7_ways_187 ?_
              refine lv_iload hx hb dX7_ways_188 (lv_at hl 2 rfl) ?_
              refine lv_iadd hx hb dX7_ways_190 ?_
              refine lv_goto (tgt := 201) hx hb dX7_ways_191 (by decide) ?_
              refine kb_iastN (jn := ((v.1 5) ((3 * k) + 1)).toNatClampNeg) (n := 6) (f := upd (itN (s_rel (v.1 5) (v.1 10) s0 i x2) (itN (s_turn (v.1 5) (v.1 10) (v.1 4) s0 i x2) (itN (s_far0 x1) (v.1 14) 6) t) k) (((v.1 5) (3 * k)).toNatClampNeg) ((itN (s_rel (v.1 5) (v.1 10) s0 i x2) (itN (s_turn (v.1 5) (v.1 10) (v.1 4) s0 i x2) (itN (s_far0 x1) (v.1 14) 6) t) k) (((v.1 5) (3 * k)).toNatClampNeg))) hx hb hX hP hD hS 0 11 rfl rfl rfl (by omega) (by decide) dX7_ways_201 (bX7_A14 a G (setA (setA v 14 (itN (s_rel (v.1 5) (v.1 10) s0 i x2) (itN (s_turn (v.1 5) (v.1 10) (v.1 4) s0 i x2) (itN (s_far0 x1) (v.1 14) 6) t) k)) 14 (upd (itN (s_rel (v.1 5) (v.1 10) s0 i x2) (itN (s_turn (v.1 5) (v.1 10) (v.1 4) s0 i x2) (itN (s_far0 x1) (v.1 14) 6) t) k) (((v.1 5) (3 * k)).toNatClampNeg) ((itN (s_rel (v.1 5) (v.1 10) s0 i x2) (itN (s_turn (v.1 5) (v.1 10) (v.1 4) s0 i x2) (itN (s_far0 x1) (v.1 14) 6) t) k) (((v.1 5) (3 * k)).toNatClampNeg)))) (upd (upd (itN (s_rel (v.1 5) (v.1 10) s0 i x2) (itN (s_turn (v.1 5) (v.1 10) (v.1 4) s0 i x2) (itN (s_far0 x1) (v.1 14) 6) t) k) (((v.1 5) (3 * k)).toNatClampNeg) ((itN (s_rel (v.1 5) (v.1 10) s0 i x2) (itN (s_turn (v.1 5) (v.1 10) (v.1 4) s0 i x2) (itN (s_far0 x1) (v.1 14) 6) t) k) (((v.1 5) (3 * k)).toNatClampNeg))) (((v.1 5) ((3 * k) + 1)).toNatClampNeg) (((upd (itN (s_rel (v.1 5) (v.1 10) s0 i x2) (itN (s_turn (v.1 5) (v.1 10) (v.1 4) s0 i x2) (itN (s_far0 x1) (v.1 14) 6) t) k) (((v.1 5) (3 * k)).toNatClampNeg) ((itN (s_rel (v.1 5) (v.1 10) s0 i x2) (itN (s_turn (v.1 5) (v.1 10) (v.1 4) s0 i x2) (itN (s_far0 x1) (v.1 14) 6) t) k) (((v.1 5) (3 * k)).toNatClampNeg))) (((v.1 5) (3 * k)).toNatClampNeg)) + (g_costs ((v.1 10)) s0 k i)))) (fun H locs hP hD hS => ?_)
              have hP : PP G [bX7 a G (setA (setA (setA v 14 (itN (s_rel (v.1 5) (v.1 10) s0 i x2) (itN (s_turn (v.1 5) (v.1 10) (v.1 4) s0 i x2) (itN (s_far0 x1) (v.1 14) 6) t) k)) 14 (upd (itN (s_rel (v.1 5) (v.1 10) s0 i x2) (itN (s_turn (v.1 5) (v.1 10) (v.1 4) s0 i x2) (itN (s_far0 x1) (v.1 14) 6) t) k) (((v.1 5) (3 * k)).toNatClampNeg) ((itN (s_rel (v.1 5) (v.1 10) s0 i x2) (itN (s_turn (v.1 5) (v.1 10) (v.1 4) s0 i x2) (itN (s_far0 x1) (v.1 14) 6) t) k) (((v.1 5) (3 * k)).toNatClampNeg)))) 14 (upd (upd (itN (s_rel (v.1 5) (v.1 10) s0 i x2) (itN (s_turn (v.1 5) (v.1 10) (v.1 4) s0 i x2) (itN (s_far0 x1) (v.1 14) 6) t) k) (((v.1 5) (3 * k)).toNatClampNeg) ((itN (s_rel (v.1 5) (v.1 10) s0 i x2) (itN (s_turn (v.1 5) (v.1 10) (v.1 4) s0 i x2) (itN (s_far0 x1) (v.1 14) 6) t) k) (((v.1 5) (3 * k)).toNatClampNeg))) (((v.1 5) ((3 * k) + 1)).toNatClampNeg) (((upd (itN (s_rel (v.1 5) (v.1 10) s0 i x2) (itN (s_turn (v.1 5) (v.1 10) (v.1 4) s0 i x2) (itN (s_far0 x1) (v.1 14) 6) t) k) (((v.1 5) (3 * k)).toNatClampNeg) ((itN (s_rel (v.1 5) (v.1 10) s0 i x2) (itN (s_turn (v.1 5) (v.1 10) (v.1 4) s0 i x2) (itN (s_far0 x1) (v.1 14) 6) t) k) (((v.1 5) (3 * k)).toNatClampNeg))) (((v.1 5) (3 * k)).toNatClampNeg)) + (g_costs ((v.1 10)) s0 k i))))] H := hP
              have hD : DD (AA (List.flatten [bX7 a G v])) [bX7 a G (setA (setA (setA v 14 (itN (s_rel (v.1 5) (v.1 10) s0 i x2) (itN (s_turn (v.1 5) (v.1 10) (v.1 4) s0 i x2) (itN (s_far0 x1) (v.1 14) 6) t) k)) 14 (upd (itN (s_rel (v.1 5) (v.1 10) s0 i x2) (itN (s_turn (v.1 5) (v.1 10) (v.1 4) s0 i x2) (itN (s_far0 x1) (v.1 14) 6) t) k) (((v.1 5) (3 * k)).toNatClampNeg) ((itN (s_rel (v.1 5) (v.1 10) s0 i x2) (itN (s_turn (v.1 5) (v.1 10) (v.1 4) s0 i x2) (itN (s_far0 x1) (v.1 14) 6) t) k) (((v.1 5) (3 * k)).toNatClampNeg)))) 14 (upd (upd (itN (s_rel (v.1 5) (v.1 10) s0 i x2) (itN (s_turn (v.1 5) (v.1 10) (v.1 4) s0 i x2) (itN (s_far0 x1) (v.1 14) 6) t) k) (((v.1 5) (3 * k)).toNatClampNeg) ((itN (s_rel (v.1 5) (v.1 10) s0 i x2) (itN (s_turn (v.1 5) (v.1 10) (v.1 4) s0 i x2) (itN (s_far0 x1) (v.1 14) 6) t) k) (((v.1 5) (3 * k)).toNatClampNeg))) (((v.1 5) ((3 * k) + 1)).toNatClampNeg) (((upd (itN (s_rel (v.1 5) (v.1 10) s0 i x2) (itN (s_turn (v.1 5) (v.1 10) (v.1 4) s0 i x2) (itN (s_far0 x1) (v.1 14) 6) t) k) (((v.1 5) (3 * k)).toNatClampNeg) ((itN (s_rel (v.1 5) (v.1 10) s0 i x2) (itN (s_turn (v.1 5) (v.1 10) (v.1 4) s0 i x2) (itN (s_far0 x1) (v.1 14) 6) t) k) (((v.1 5) (3 * k)).toNatClampNeg))) (((v.1 5) (3 * k)).toNatClampNeg)) + (g_costs ((v.1 10)) s0 k i))))] := D_re hD (adc (bX7_ad _ _ _ _) adn)
              refine lv_iinc (v := nI (k + 1)) (lv' := [(6, .int (nI (k + 1))), (9, .int (nI ((v.1 5) ((3 * k) + 1)).toNatClampNeg)), (8, .int (nI ((v.1 5) (3 * k)).toNatClampNeg)), (7, .int (g_costs ((v.1 10)) s0 k i)), (5, .int (nI t)), (0, .ref (a 0)), (1, .int (nI s0)), (2, .int (nI i)), (3, .int x1), (4, .int x2)]) hx hb dX7_ways_202 hl (k := 3) rfl (nI_1 _) (by decide) rfl (fun ls hl => ?_)
              refine lv_goto (tgt := 48) hx hb dX7_ways_205 (by decide) ?_
              have hP : PP G [bX7 a G (setA v 14 (itN (s_rel (v.1 5) (v.1 10) s0 i x2) (itN (s_turn (v.1 5) (v.1 10) (v.1 4) s0 i x2) (itN (s_far0 x1) (v.1 14) 6) t) (k + 1)))] H := by
                rw [itN_s]
                simp only [s_rel, relA, relB, if_pos c_7, if_neg c_42, if_neg c_56, if_neg c_67, if_pos c_131, if_neg c_178]
                try simp only [ov_n1, ov_m1, ov_nc, ov_mc, ov_c] at hP ⊢
                exact hP
              have hD : DD (AA (List.flatten [bX7 a G v])) [bX7 a G (setA v 14 (itN (s_rel (v.1 5) (v.1 10) s0 i x2) (itN (s_turn (v.1 5) (v.1 10) (v.1 4) s0 i x2) (itN (s_far0 x1) (v.1 14) 6) t) (k + 1)))] := D_re hD (adc (bX7_ad _ _ _ _) adn)
              exact ih_48  _ _ _ hP hD hS (show lv_has ls 10 [(6, .int (nI (k + 1))), (5, .int (nI t)), (0, .ref (a 0)), (1, .int (nI s0)), (2, .int (nI i)), (3, .int x1), (4, .int x2)] from lv_sub hl [0, 4, 5, 6, 7, 8, 9] rfl) 
          · refine lv_aload_n hx hb dX7_ways_134 rfl (lv_at hl 5 rfl) ?_
            refine kb_get (own := RX7) (C := RX7) (T := TX7) (N := 19) (v := .ref (a 11)) hx hb hts hin7 hown hX hP 0 rfl rfl rfl 14 (by decide) rfl (by decide +kernel) rfl dX7_ways_135 ?_
            refine lv_iload hx hb dX7_ways_138 (lv_at hl 0 rfl) ?_
            refine kb_ialdN (jn := ((v.1 5) ((3 * k) + 1)).toNatClampNeg) (n := 6) (f := itN (s_rel (v.1 5) (v.1 10) s0 i x2) (itN (s_turn (v.1 5) (v.1 10) (v.1 4) s0 i x2) (itN (s_far0 x1) (v.1 14) 6) t) k) hx hb hX hP 0 11 rfl rfl rfl (by omega) (by decide) dX7_ways_140 ?_
            refine lv_iload hx hb dX7_ways_141 (lv_at hl 2 rfl) ?_
            refine lv_iadd hx hb dX7_ways_143 ?_
            refine lv_goto (tgt := 154) hx hb dX7_ways_144 (by decide) ?_
            refine kb_iastN (jn := ((v.1 5) (3 * k)).toNatClampNeg) (n := 6) (f := itN (s_rel (v.1 5) (v.1 10) s0 i x2) (itN (s_turn (v.1 5) (v.1 10) (v.1 4) s0 i x2) (itN (s_far0 x1) (v.1 14) 6) t) k) hx hb hX hP hD hS 0 11 rfl rfl rfl (by omega) (by decide) dX7_ways_154 (bX7_A14 a G (setA v 14 (itN (s_rel (v.1 5) (v.1 10) s0 i x2) (itN (s_turn (v.1 5) (v.1 10) (v.1 4) s0 i x2) (itN (s_far0 x1) (v.1 14) 6) t) k)) (upd (itN (s_rel (v.1 5) (v.1 10) s0 i x2) (itN (s_turn (v.1 5) (v.1 10) (v.1 4) s0 i x2) (itN (s_far0 x1) (v.1 14) 6) t) k) (((v.1 5) (3 * k)).toNatClampNeg) (((itN (s_rel (v.1 5) (v.1 10) s0 i x2) (itN (s_turn (v.1 5) (v.1 10) (v.1 4) s0 i x2) (itN (s_far0 x1) (v.1 14) 6) t) k) (((v.1 5) ((3 * k) + 1)).toNatClampNeg)) + (g_costs ((v.1 10)) s0 k i)))) (fun H locs hP hD hS => ?_)
            have hP : PP G [bX7 a G (setA (setA v 14 (itN (s_rel (v.1 5) (v.1 10) s0 i x2) (itN (s_turn (v.1 5) (v.1 10) (v.1 4) s0 i x2) (itN (s_far0 x1) (v.1 14) 6) t) k)) 14 (upd (itN (s_rel (v.1 5) (v.1 10) s0 i x2) (itN (s_turn (v.1 5) (v.1 10) (v.1 4) s0 i x2) (itN (s_far0 x1) (v.1 14) 6) t) k) (((v.1 5) (3 * k)).toNatClampNeg) (((itN (s_rel (v.1 5) (v.1 10) s0 i x2) (itN (s_turn (v.1 5) (v.1 10) (v.1 4) s0 i x2) (itN (s_far0 x1) (v.1 14) 6) t) k) (((v.1 5) ((3 * k) + 1)).toNatClampNeg)) + (g_costs ((v.1 10)) s0 k i))))] H := hP
            have hD : DD (AA (List.flatten [bX7 a G v])) [bX7 a G (setA (setA v 14 (itN (s_rel (v.1 5) (v.1 10) s0 i x2) (itN (s_turn (v.1 5) (v.1 10) (v.1 4) s0 i x2) (itN (s_far0 x1) (v.1 14) 6) t) k)) 14 (upd (itN (s_rel (v.1 5) (v.1 10) s0 i x2) (itN (s_turn (v.1 5) (v.1 10) (v.1 4) s0 i x2) (itN (s_far0 x1) (v.1 14) 6) t) k) (((v.1 5) (3 * k)).toNatClampNeg) (((itN (s_rel (v.1 5) (v.1 10) s0 i x2) (itN (s_turn (v.1 5) (v.1 10) (v.1 4) s0 i x2) (itN (s_far0 x1) (v.1 14) 6) t) k) (((v.1 5) ((3 * k) + 1)).toNatClampNeg)) + (g_costs ((v.1 10)) s0 k i))))] := D_re hD (adc (bX7_ad _ _ _ _) adn)
            refine lv_aload_n hx hb dX7_ways_155 rfl (lv_at hl 5 rfl) ?_
            refine kb_get (own := RX7) (C := RX7) (T := TX7) (N := 19) (v := .ref (a 11)) hx hb hts hin7 hown hX hP 0 rfl rfl rfl 14 (by decide) rfl (by decide +kernel) rfl dX7_ways_156 ?_
            refine lv_iload hx hb dX7_ways_159 (lv_at hl 0 rfl) ?_
            refine lv_aload_n hx hb dX7_ways_161 rfl (lv_at hl 5 rfl) ?_
            refine kb_get (own := RX7) (C := RX7) (T := TX7) (N := 19) (v := .ref (a 11)) hx hb hts hin7 hown hX hP 0 rfl rfl rfl 14 (by decide) rfl (by decide +kernel) rfl dX7_ways_162 ?_
            refine lv_iload hx hb dX7_ways_165 (lv_at hl 1 rfl) ?_
            refine kb_ialdN (jn := ((v.1 5) (3 * k)).toNatClampNeg) (n := 6) (f := upd (itN (s_rel (v.1 5) (v.1 10) s0 i x2) (itN (s_turn (v.1 5) (v.1 10) (v.1 4) s0 i x2) (itN (s_far0 x1) (v.1 14) 6) t) k) (((v.1 5) (3 * k)).toNatClampNeg) (((itN (s_rel (v.1 5) (v.1 10) s0 i x2) (itN (s_turn (v.1 5) (v.1 10) (v.1 4) s0 i x2) (itN (s_far0 x1) (v.1 14) 6) t) k) (((v.1 5) ((3 * k) + 1)).toNatClampNeg)) + (g_costs ((v.1 10)) s0 k i))) hx hb hX hP 0 11 rfl rfl rfl (by omega) (by decide) dX7_ways_167 ?_
            refine lv_iload hx hb dX7_ways_168 (lv_at hl 2 rfl) ?_
            refine lv_iadd hx hb dX7_ways_170 ?_
            refine lv_aload_n hx hb dX7_ways_171 rfl (lv_at hl 5 rfl) ?_
            refine kb_get (own := RX7) (C := RX7) (T := TX7) (N := 19) (v := .ref (a 11)) hx hb hts hin7 hown hX hP 0 rfl rfl rfl 14 (by decide) rfl (by decide +kernel) rfl dX7_ways_172 ?_
            refine lv_iload hx hb dX7_ways_175 (lv_at hl 0 rfl) ?_
            refine kb_ialdN (jn := ((v.1 5) ((3 * k) + 1)).toNatClampNeg) (n := 6) (f := upd (itN (s_rel (v.1 5) (v.1 10) s0 i x2) (itN (s_turn (v.1 5) (v.1 10) (v.1 4) s0 i x2) (itN (s_far0 x1) (v.1 14) 6) t) k) (((v.1 5) (3 * k)).toNatClampNeg) (((itN (s_rel (v.1 5) (v.1 10) s0 i x2) (itN (s_turn (v.1 5) (v.1 10) (v.1 4) s0 i x2) (itN (s_far0 x1) (v.1 14) 6) t) k) (((v.1 5) ((3 * k) + 1)).toNatClampNeg)) + (g_costs ((v.1 10)) s0 k i))) hx hb hX hP 0 11 rfl rfl rfl (by omega) (by decide) dX7_ways_177 ?_
            refine lv_icmp_ge (tgt := 194) hx hb dX7_ways_178 (by decide) (fun c_178 => ?_) (fun c_178 => ?_)
            · refine lv_aload_n hx hb dX7_ways_194 rfl (lv_at hl 5 rfl) ?_
              refine kb_get (own := RX7) (C := RX7) (T := TX7) (N := 19) (v := .ref (a 11)) hx hb hts hin7 hown hX hP 0 rfl rfl rfl 14 (by decide) rfl (by decide +kernel) rfl dX7_ways_195 ?_
              refine lv_iload hx hb dX7_ways_198 (lv_at hl 0 rfl) ?_
              refine kb_ialdN (jn := ((v.1 5) ((3 * k) + 1)).toNatClampNeg) (n := 6) (f := upd (itN (s_rel (v.1 5) (v.1 10) s0 i x2) (itN (s_turn (v.1 5) (v.1 10) (v.1 4) s0 i x2) (itN (s_far0 x1) (v.1 14) 6) t) k) (((v.1 5) (3 * k)).toNatClampNeg) (((itN (s_rel (v.1 5) (v.1 10) s0 i x2) (itN (s_turn (v.1 5) (v.1 10) (v.1 4) s0 i x2) (itN (s_far0 x1) (v.1 14) 6) t) k) (((v.1 5) ((3 * k) + 1)).toNatClampNeg)) + (g_costs ((v.1 10)) s0 k i))) hx hb hX hP 0 11 rfl rfl rfl (by omega) (by decide) dX7_ways_200 ?_
              refine kb_iastN (jn := ((v.1 5) ((3 * k) + 1)).toNatClampNeg) (n := 6) (f := upd (itN (s_rel (v.1 5) (v.1 10) s0 i x2) (itN (s_turn (v.1 5) (v.1 10) (v.1 4) s0 i x2) (itN (s_far0 x1) (v.1 14) 6) t) k) (((v.1 5) (3 * k)).toNatClampNeg) (((itN (s_rel (v.1 5) (v.1 10) s0 i x2) (itN (s_turn (v.1 5) (v.1 10) (v.1 4) s0 i x2) (itN (s_far0 x1) (v.1 14) 6) t) k) (((v.1 5) ((3 * k) + 1)).toNatClampNeg)) + (g_costs ((v.1 10)) s0 k i))) hx hb hX hP hD hS 0 11 rfl rfl rfl (by omega) (by decide) dX7_ways_201 (bX7_A14 a G (setA (setA v 14 (itN (s_rel (v.1 5) (v.1 10) s0 i x2) (itN (s_turn (v.1 5) (v.1 10) (v.1 4) s0 i x2) (itN (s_far0 x1) (v.1 14) 6) t) k)) 14 (upd (itN (s_rel (v.1 5) (v.1 10) s0 i x2) (itN (s_turn (v.1 5) (v.1 10) (v.1 4) s0 i x2) (itN (s_far0 x1) (v.1 14) 6) t) k) (((v.1 5) (3 * k)).toNatClampNeg) (((itN (s_rel (v.1 5) (v.1 10) s0 i x2) (itN (s_turn (v.1 5) (v.1 10) (v.1 4) s0 i x2) (itN (s_far0 x1) (v.1 14) 6) t) k) (((v.1 5) ((3 * k) + 1)).toNatClampNeg)) + (g_costs ((v.1 10)) s0 k i)))) (upd (upd (itN (s_rel (v.1 5) (v.1 10) s0 i x2) (itN (s_turn (v.1 5) (v.1 10) (v.1 4) s0 i x2) (itN (s_far0 x1) (v.1 14) 6) t) k) (((v.1 5) (3 * k)).toNatClampNeg) (((itN (s_rel (v.1 5) (v.1 10) s0 i x2) (itN (s_turn (v.1 5) (v.1 10) (v.1 4) s0 i x2) (itN (s_far0 x1) (v.1 14) 6) t) k) (((v.1 5) ((3 * k) + 1)).toNatClampNeg)) + (g_costs ((v.1 10)) s0 k i))) (((v.1 5) ((3 * k) + 1)).toNatClampNeg) ((upd (itN (s_rel (v.1 5) (v.1 10) s0 i x2) (itN (s_turn (v.1 5) (v.1 10) (v.1 4) s0 i x2) (itN (s_far0 x1) (v.1 14) 6) t) k) (((v.1 5) (3 * k)).toNatClampNeg) (((itN (s_rel (v.1 5) (v.1 10) s0 i x2) (itN (s_turn (v.1 5) (v.1 10) (v.1 4) s0 i x2) (itN (s_far0 x1) (v.1 14) 6) t) k) (((v.1 5) ((3 * k) + 1)).toNatClampNeg)) + (g_costs ((v.1 10)) s0 k i))) (((v.1 5) ((3 * k) + 1)).toNatClampNeg)))) (fun H locs hP hD hS => ?_)
              have hP : PP G [bX7 a G (setA (setA (setA v 14 (itN (s_rel (v.1 5) (v.1 10) s0 i x2) (itN (s_turn (v.1 5) (v.1 10) (v.1 4) s0 i x2) (itN (s_far0 x1) (v.1 14) 6) t) k)) 14 (upd (itN (s_rel (v.1 5) (v.1 10) s0 i x2) (itN (s_turn (v.1 5) (v.1 10) (v.1 4) s0 i x2) (itN (s_far0 x1) (v.1 14) 6) t) k) (((v.1 5) (3 * k)).toNatClampNeg) (((itN (s_rel (v.1 5) (v.1 10) s0 i x2) (itN (s_turn (v.1 5) (v.1 10) (v.1 4) s0 i x2) (itN (s_far0 x1) (v.1 14) 6) t) k) (((v.1 5) ((3 * k) + 1)).toNatClampNeg)) + (g_costs ((v.1 10)) s0 k i)))) 14 (upd (upd (itN (s_rel (v.1 5) (v.1 10) s0 i x2) (itN (s_turn (v.1 5) (v.1 10) (v.1 4) s0 i x2) (itN (s_far0 x1) (v.1 14) 6) t) k) (((v.1 5) (3 * k)).toNatClampNeg) (((itN (s_rel (v.1 5) (v.1 10) s0 i x2) (itN (s_turn (v.1 5) (v.1 10) (v.1 4) s0 i x2) (itN (s_far0 x1) (v.1 14) 6) t) k) (((v.1 5) ((3 * k) + 1)).toNatClampNeg)) + (g_costs ((v.1 10)) s0 k i))) (((v.1 5) ((3 * k) + 1)).toNatClampNeg) ((upd (itN (s_rel (v.1 5) (v.1 10) s0 i x2) (itN (s_turn (v.1 5) (v.1 10) (v.1 4) s0 i x2) (itN (s_far0 x1) (v.1 14) 6) t) k) (((v.1 5) (3 * k)).toNatClampNeg) (((itN (s_rel (v.1 5) (v.1 10) s0 i x2) (itN (s_turn (v.1 5) (v.1 10) (v.1 4) s0 i x2) (itN (s_far0 x1) (v.1 14) 6) t) k) (((v.1 5) ((3 * k) + 1)).toNatClampNeg)) + (g_costs ((v.1 10)) s0 k i))) (((v.1 5) ((3 * k) + 1)).toNatClampNeg))))] H := hP
              have hD : DD (AA (List.flatten [bX7 a G v])) [bX7 a G (setA (setA (setA v 14 (itN (s_rel (v.1 5) (v.1 10) s0 i x2) (itN (s_turn (v.1 5) (v.1 10) (v.1 4) s0 i x2) (itN (s_far0 x1) (v.1 14) 6) t) k)) 14 (upd (itN (s_rel (v.1 5) (v.1 10) s0 i x2) (itN (s_turn (v.1 5) (v.1 10) (v.1 4) s0 i x2) (itN (s_far0 x1) (v.1 14) 6) t) k) (((v.1 5) (3 * k)).toNatClampNeg) (((itN (s_rel (v.1 5) (v.1 10) s0 i x2) (itN (s_turn (v.1 5) (v.1 10) (v.1 4) s0 i x2) (itN (s_far0 x1) (v.1 14) 6) t) k) (((v.1 5) ((3 * k) + 1)).toNatClampNeg)) + (g_costs ((v.1 10)) s0 k i)))) 14 (upd (upd (itN (s_rel (v.1 5) (v.1 10) s0 i x2) (itN (s_turn (v.1 5) (v.1 10) (v.1 4) s0 i x2) (itN (s_far0 x1) (v.1 14) 6) t) k) (((v.1 5) (3 * k)).toNatClampNeg) (((itN (s_rel (v.1 5) (v.1 10) s0 i x2) (itN (s_turn (v.1 5) (v.1 10) (v.1 4) s0 i x2) (itN (s_far0 x1) (v.1 14) 6) t) k) (((v.1 5) ((3 * k) + 1)).toNatClampNeg)) + (g_costs ((v.1 10)) s0 k i))) (((v.1 5) ((3 * k) + 1)).toNatClampNeg) ((upd (itN (s_rel (v.1 5) (v.1 10) s0 i x2) (itN (s_turn (v.1 5) (v.1 10) (v.1 4) s0 i x2) (itN (s_far0 x1) (v.1 14) 6) t) k) (((v.1 5) (3 * k)).toNatClampNeg) (((itN (s_rel (v.1 5) (v.1 10) s0 i x2) (itN (s_turn (v.1 5) (v.1 10) (v.1 4) s0 i x2) (itN (s_far0 x1) (v.1 14) 6) t) k) (((v.1 5) ((3 * k) + 1)).toNatClampNeg)) + (g_costs ((v.1 10)) s0 k i))) (((v.1 5) ((3 * k) + 1)).toNatClampNeg))))] := D_re hD (adc (bX7_ad _ _ _ _) adn)
              refine lv_iinc (v := nI (k + 1)) (lv' := [(6, .int (nI (k + 1))), (9, .int (nI ((v.1 5) ((3 * k) + 1)).toNatClampNeg)), (8, .int (nI ((v.1 5) (3 * k)).toNatClampNeg)), (7, .int (g_costs ((v.1 10)) s0 k i)), (5, .int (nI t)), (0, .ref (a 0)), (1, .int (nI s0)), (2, .int (nI i)), (3, .int x1), (4, .int x2)]) hx hb dX7_ways_202 hl (k := 3) rfl (nI_1 _) (by decide) rfl (fun ls hl => ?_)
              refine lv_goto (tgt := 48) hx hb dX7_ways_205 (by decide) ?_
              have hP : PP G [bX7 a G (setA v 14 (itN (s_rel (v.1 5) (v.1 10) s0 i x2) (itN (s_turn (v.1 5) (v.1 10) (v.1 4) s0 i x2) (itN (s_far0 x1) (v.1 14) 6) t) (k + 1)))] H := by
                rw [itN_s]
                simp only [s_rel, relA, relB, if_pos c_7, if_neg c_42, if_neg c_56, if_neg c_67, if_neg c_131, if_pos c_178]
                try simp only [ov_n1, ov_m1, ov_nc, ov_mc, ov_c] at hP ⊢
                exact hP
              have hD : DD (AA (List.flatten [bX7 a G v])) [bX7 a G (setA v 14 (itN (s_rel (v.1 5) (v.1 10) s0 i x2) (itN (s_turn (v.1 5) (v.1 10) (v.1 4) s0 i x2) (itN (s_far0 x1) (v.1 14) 6) t) (k + 1)))] := D_re hD (adc (bX7_ad _ _ _ _) adn)
              exact ih_48  _ _ _ hP hD hS (show lv_has ls 10 [(6, .int (nI (k + 1))), (5, .int (nI t)), (0, .ref (a 0)), (1, .int (nI s0)), (2, .int (nI i)), (3, .int x1), (4, .int x2)] from lv_sub hl [0, 4, 5, 6, 7, 8, 9] rfl) 
            · refine lv_aload_n hx hb dX7_ways_181 rfl (lv_at hl 5 rfl) ?_
              refine kb_get (own := RX7) (C := RX7) (T := TX7) (N := 19) (v := .ref (a 11)) hx hb hts hin7 hown hX hP 0 rfl rfl rfl 14 (by decide) rfl (by decide +kernel) rfl dX7_ways_182 ?_
              refine lv_iload hx hb dX7_ways_185 (lv_at hl 1 rfl) ?_
              refine kb_ialdN (jn := ((v.1 5) (3 * k)).toNatClampNeg) (n := 6) (f := upd (itN (s_rel (v.1 5) (v.1 10) s0 i x2) (itN (s_turn (v.1 5) (v.1 10) (v.1 4) s0 i x2) (itN (s_far0 x1) (v.1 14) 6) t) k) (((v.1 5) (3 * k)).toNatClampNeg) (((itN (s_rel (v.1 5) (v.1 10) s0 i x2) (itN (s_turn (v.1 5) (v.1 10) (v.1 4) s0 i x2) (itN (s_far0 x1) (v.1 14) 6) t) k) (((v.1 5) ((3 * k) + 1)).toNatClampNeg)) + (g_costs ((v.1 10)) s0 k i))) hx hb hX hP 0 11 rfl rfl rfl (by omega) (by decide) dX7_ways_187 ?_
              refine lv_iload hx hb dX7_ways_188 (lv_at hl 2 rfl) ?_
              refine lv_iadd hx hb dX7_ways_190 ?_
              refine lv_goto (tgt := 201) hx hb dX7_ways_191 (by decide) ?_
              refine kb_iastN (jn := ((v.1 5) ((3 * k) + 1)).toNatClampNeg) (n := 6) (f := upd (itN (s_rel (v.1 5) (v.1 10) s0 i x2) (itN (s_turn (v.1 5) (v.1 10) (v.1 4) s0 i x2) (itN (s_far0 x1) (v.1 14) 6) t) k) (((v.1 5) (3 * k)).toNatClampNeg) (((itN (s_rel (v.1 5) (v.1 10) s0 i x2) (itN (s_turn (v.1 5) (v.1 10) (v.1 4) s0 i x2) (itN (s_far0 x1) (v.1 14) 6) t) k) (((v.1 5) ((3 * k) + 1)).toNatClampNeg)) + (g_costs ((v.1 10)) s0 k i))) hx hb hX hP hD hS 0 11 rfl rfl rfl (by omega) (by decide) dX7_ways_201 (bX7_A14 a G (setA (setA v 14 (itN (s_rel (v.1 5) (v.1 10) s0 i x2) (itN (s_turn (v.1 5) (v.1 10) (v.1 4) s0 i x2) (itN (s_far0 x1) (v.1 14) 6) t) k)) 14 (upd (itN (s_rel (v.1 5) (v.1 10) s0 i x2) (itN (s_turn (v.1 5) (v.1 10) (v.1 4) s0 i x2) (itN (s_far0 x1) (v.1 14) 6) t) k) (((v.1 5) (3 * k)).toNatClampNeg) (((itN (s_rel (v.1 5) (v.1 10) s0 i x2) (itN (s_turn (v.1 5) (v.1 10) (v.1 4) s0 i x2) (itN (s_far0 x1) (v.1 14) 6) t) k) (((v.1 5) ((3 * k) + 1)).toNatClampNeg)) + (g_costs ((v.1 10)) s0 k i)))) (upd (upd (itN (s_rel (v.1 5) (v.1 10) s0 i x2) (itN (s_turn (v.1 5) (v.1 10) (v.1 4) s0 i x2) (itN (s_far0 x1) (v.1 14) 6) t) k) (((v.1 5) (3 * k)).toNatClampNeg) (((itN (s_rel (v.1 5) (v.1 10) s0 i x2) (itN (s_turn (v.1 5) (v.1 10) (v.1 4) s0 i x2) (itN (s_far0 x1) (v.1 14) 6) t) k) (((v.1 5) ((3 * k) + 1)).toNatClampNeg)) + (g_costs ((v.1 10)) s0 k i))) (((v.1 5) ((3 * k) + 1)).toNatClampNeg) (((upd (itN (s_rel (v.1 5) (v.1 10) s0 i x2) (itN (s_turn (v.1 5) (v.1 10) (v.1 4) s0 i x2) (itN (s_far0 x1) (v.1 14) 6) t) k) (((v.1 5) (3 * k)).toNatClampNeg) (((itN (s_rel (v.1 5) (v.1 10) s0 i x2) (itN (s_turn (v.1 5) (v.1 10) (v.1 4) s0 i x2) (itN (s_far0 x1) (v.1 14) 6) t) k) (((v.1 5) ((3 * k) + 1)).toNatClampNeg)) + (g_costs ((v.1 10)) s0 k i))) (((v.1 5) (3 * k)).toNatClampNeg)) + (g_costs ((v.1 10)) s0 k i)))) (fun H locs hP hD hS => ?_)
              have hP : PP G [bX7 a G (setA (setA (setA v 14 (itN (s_rel (v.1 5) (v.1 10) s0 i x2) (itN (s_turn (v.1 5) (v.1 10) (v.1 4) s0 i x2) (itN (s_far0 x1) (v.1 14) 6) t) k)) 14 (upd (itN (s_rel (v.1 5) (v.1 10) s0 i x2) (itN (s_turn (v.1 5) (v.1 10) (v.1 4) s0 i x2) (itN (s_far0 x1) (v.1 14) 6) t) k) (((v.1 5) (3 * k)).toNatClampNeg) (((itN (s_rel (v.1 5) (v.1 10) s0 i x2) (itN (s_turn (v.1 5) (v.1 10) (v.1 4) s0 i x2) (itN (s_far0 x1) (v.1 14) 6) t) k) (((v.1 5) ((3 * k) + 1)).toNatClampNeg)) + (g_costs ((v.1 10)) s0 k i)))) 14 (upd (upd (itN (s_rel (v.1 5) (v.1 10) s0 i x2) (itN (s_turn (v.1 5) (v.1 10) (v.1 4) s0 i x2) (itN (s_far0 x1) (v.1 14) 6) t) k) (((v.1 5) (3 * k)).toNatClampNeg) (((itN (s_rel (v.1 5) (v.1 10) s0 i x2) (itN (s_turn (v.1 5) (v.1 10) (v.1 4) s0 i x2) (itN (s_far0 x1) (v.1 14) 6) t) k) (((v.1 5) ((3 * k) + 1)).toNatClampNeg)) + (g_costs ((v.1 10)) s0 k i))) (((v.1 5) ((3 * k) + 1)).toNatClampNeg) (((upd (itN (s_rel (v.1 5) (v.1 10) s0 i x2) (itN (s_turn (v.1 5) (v.1 10) (v.1 4) s0 i x2) (itN (s_far0 x1) (v.1 14) 6) t) k) (((v.1 5) (3 * k)).toNatClampNeg) (((itN (s_rel (v.1 5) (v.1 10) s0 i x2) (itN (s_turn (v.1 5) (v.1 10) (v.1 4) s0 i x2) (itN (s_far0 x1) (v.1 14) 6) t) k) (((v.1 5) ((3 * k) + 1)).toNatClampNeg)) + (g_costs ((v.1 10)) s0 k i))) (((v.1 5) (3 * k)).toNatClampNeg)) + (g_costs ((v.1 10)) s0 k i))))] H := hP
              have hD : DD (AA (List.flatten [bX7 a G v])) [bX7 a G (setA (setA (setA v 14 (itN (s_rel (v.1 5) (v.1 10) s0 i x2) (itN (s_turn (v.1 5) (v.1 10) (v.1 4) s0 i x2) (itN (s_far0 x1) (v.1 14) 6) t) k)) 14 (upd (itN (s_rel (v.1 5) (v.1 10) s0 i x2) (itN (s_turn (v.1 5) (v.1 10) (v.1 4) s0 i x2) (itN (s_far0 x1) (v.1 14) 6) t) k) (((v.1 5) (3 * k)).toNatClampNeg) (((itN (s_rel (v.1 5) (v.1 10) s0 i x2) (itN (s_turn (v.1 5) (v.1 10) (v.1 4) s0 i x2) (itN (s_far0 x1) (v.1 14) 6) t) k) (((v.1 5) ((3 * k) + 1)).toNatClampNeg)) + (g_costs ((v.1 10)) s0 k i)))) 14 (upd (upd (itN (s_rel (v.1 5) (v.1 10) s0 i x2) (itN (s_turn (v.1 5) (v.1 10) (v.1 4) s0 i x2) (itN (s_far0 x1) (v.1 14) 6) t) k) (((v.1 5) (3 * k)).toNatClampNeg) (((itN (s_rel (v.1 5) (v.1 10) s0 i x2) (itN (s_turn (v.1 5) (v.1 10) (v.1 4) s0 i x2) (itN (s_far0 x1) (v.1 14) 6) t) k) (((v.1 5) ((3 * k) + 1)).toNatClampNeg)) + (g_costs ((v.1 10)) s0 k i))) (((v.1 5) ((3 * k) + 1)).toNatClampNeg) (((upd (itN (s_rel (v.1 5) (v.1 10) s0 i x2) (itN (s_turn (v.1 5) (v.1 10) (v.1 4) s0 i x2) (itN (s_far0 x1) (v.1 14) 6) t) k) (((v.1 5) (3 * k)).toNatClampNeg) (((itN (s_rel (v.1 5) (v.1 10) s0 i x2) (itN (s_turn (v.1 5) (v.1 10) (v.1 4) s0 i x2) (itN (s_far0 x1) (v.1 14) 6) t) k) (((v.1 5) ((3 * k) + 1)).toNatClampNeg)) + (g_costs ((v.1 10)) s0 k i))) (((v.1 5) (3 * k)).toNatClampNeg)) + (g_costs ((v.1 10)) s0 k i))))] := D_re hD (adc (bX7_ad _ _ _ _) adn)
              refine lv_iinc (v := nI (k + 1)) (lv' := [(6, .int (nI (k + 1))), (9, .int (nI ((v.1 5) ((3 * k) + 1)).toNatClampNeg)), (8, .int (nI ((v.1 5) (3 * k)).toNatClampNeg)), (7, .int (g_costs ((v.1 10)) s0 k i)), (5, .int (nI t)), (0, .ref (a 0)), (1, .int (nI s0)), (2, .int (nI i)), (3, .int x1), (4, .int x2)]) hx hb dX7_ways_202 hl (k := 3) rfl (nI_1 _) (by decide) rfl (fun ls hl => ?_)
              refine lv_goto (tgt := 48) hx hb dX7_ways_205 (by decide) ?_
              have hP : PP G [bX7 a G (setA v 14 (itN (s_rel (v.1 5) (v.1 10) s0 i x2) (itN (s_turn (v.1 5) (v.1 10) (v.1 4) s0 i x2) (itN (s_far0 x1) (v.1 14) 6) t) (k + 1)))] H := by
                rw [itN_s]
                simp only [s_rel, relA, relB, if_pos c_7, if_neg c_42, if_neg c_56, if_neg c_67, if_neg c_131, if_neg c_178]
                try simp only [ov_n1, ov_m1, ov_nc, ov_mc, ov_c] at hP ⊢
                exact hP
              have hD : DD (AA (List.flatten [bX7 a G v])) [bX7 a G (setA v 14 (itN (s_rel (v.1 5) (v.1 10) s0 i x2) (itN (s_turn (v.1 5) (v.1 10) (v.1 4) s0 i x2) (itN (s_far0 x1) (v.1 14) 6) t) (k + 1)))] := D_re hD (adc (bX7_ad _ _ _ _) adn)
              exact ih_48  _ _ _ hP hD hS (show lv_has ls 10 [(6, .int (nI (k + 1))), (5, .int (nI t)), (0, .ref (a 0)), (1, .int (nI s0)), (2, .int (nI i)), (3, .int x1), (4, .int x2)] from lv_sub hl [0, 4, 5, 6, 7, 8, 9] rfl) 
        · refine lv_iconst (v := 1) hx hb dX7_ways_70 (by decide) ?_
          refine lv_goto (tgt := 82) hx hb dX7_ways_71 (by decide) ?_
          refine lv_istore (lv' := [(7, .int 1), (6, .int (nI k)), (5, .int (nI t)), (0, .ref (a 0)), (1, .int (nI s0)), (2, .int (nI i)), (3, .int x1), (4, .int x2)]) hx hb dX7_ways_82 hl (by decide) rfl (fun ls hl => ?_)
          refine lv_aload_n hx hb dX7_ways_84 rfl (lv_at hl 3 rfl) ?_
          refine kb_get (own := RX7) (C := RX7) (T := TX7) (N := 19) (v := .ref (a 4)) hx hb hts hin7 hown hX hP 0 rfl rfl rfl 5 (by decide) rfl (by decide +kernel) rfl dX7_ways_85 ?_
          refine lv_iconst (v := 3) hx hb dX7_ways_88 (by decide) ?_
          refine lv_iload hx hb dX7_ways_89 (lv_at hl 1 rfl) ?_
          refine lv_imul hx hb dX7_ways_91 ?_
          refine kb_ialdN (jn := 3 * k) (n := 48) (f := v.1 5) hx hb hX hP 0 4 rfl rfl (by simp only [nI_addE, nI_mulE] <;> rfl) (by omega) (by decide) dX7_ways_92 ?_
          refine kb_nat ((cl_of_vp (hR k hk_k).1).1) ?_
          refine lv_istore (lv' := [(8, .int (nI ((v.1 5) (3 * k)).toNatClampNeg)), (7, .int 1), (6, .int (nI k)), (5, .int (nI t)), (0, .ref (a 0)), (1, .int (nI s0)), (2, .int (nI i)), (3, .int x1), (4, .int x2)]) hx hb dX7_ways_93 hl (by decide) rfl (fun ls hl => ?_)
          refine lv_aload_n hx hb dX7_ways_95 rfl (lv_at hl 4 rfl) ?_
          refine kb_get (own := RX7) (C := RX7) (T := TX7) (N := 19) (v := .ref (a 4)) hx hb hts hin7 hown hX hP 0 rfl rfl rfl 5 (by decide) rfl (by decide +kernel) rfl dX7_ways_96 ?_
          refine lv_iconst (v := 3) hx hb dX7_ways_99 (by decide) ?_
          refine lv_iload hx hb dX7_ways_100 (lv_at hl 2 rfl) ?_
          refine lv_imul hx hb dX7_ways_102 ?_
          refine lv_iconst (v := 1) hx hb dX7_ways_103 (by decide) ?_
          refine lv_iadd hx hb dX7_ways_104 ?_
          refine kb_ialdN (jn := (3 * k) + 1) (n := 48) (f := v.1 5) hx hb hX hP 0 4 rfl rfl (by simp only [nI_addE, nI_mulE] <;> rfl) (by omega) (by decide) dX7_ways_105 ?_
          refine kb_nat ((cl_of_vp (hR k hk_k).2).1) ?_
          refine lv_istore (lv' := [(9, .int (nI ((v.1 5) ((3 * k) + 1)).toNatClampNeg)), (8, .int (nI ((v.1 5) (3 * k)).toNatClampNeg)), (7, .int 1), (6, .int (nI k)), (5, .int (nI t)), (0, .ref (a 0)), (1, .int (nI s0)), (2, .int (nI i)), (3, .int x1), (4, .int x2)]) hx hb dX7_ways_106 hl (by decide) rfl (fun ls hl => ?_)
          refine lv_aload_n hx hb dX7_ways_108 rfl (lv_at hl 5 rfl) ?_
          refine kb_get (own := RX7) (C := RX7) (T := TX7) (N := 19) (v := .ref (a 11)) hx hb hts hin7 hown hX hP 0 rfl rfl rfl 14 (by decide) rfl (by decide +kernel) rfl dX7_ways_109 ?_
          refine lv_iload hx hb dX7_ways_112 (lv_at hl 1 rfl) ?_
          refine lv_aload_n hx hb dX7_ways_114 rfl (lv_at hl 5 rfl) ?_
          refine kb_get (own := RX7) (C := RX7) (T := TX7) (N := 19) (v := .ref (a 11)) hx hb hts hin7 hown hX hP 0 rfl rfl rfl 14 (by decide) rfl (by decide +kernel) rfl dX7_ways_115 ?_
          refine lv_iload hx hb dX7_ways_118 (lv_at hl 0 rfl) ?_
          refine kb_ialdN (jn := ((v.1 5) ((3 * k) + 1)).toNatClampNeg) (n := 6) (f := itN (s_rel (v.1 5) (v.1 10) s0 i x2) (itN (s_turn (v.1 5) (v.1 10) (v.1 4) s0 i x2) (itN (s_far0 x1) (v.1 14) 6) t) k) hx hb hX hP 0 11 rfl rfl rfl (by omega) (by decide) dX7_ways_120 ?_
          refine lv_iload hx hb dX7_ways_121 (lv_at hl 2 rfl) ?_
          refine lv_iadd hx hb dX7_ways_123 ?_
          refine lv_aload_n hx hb dX7_ways_124 rfl (lv_at hl 5 rfl) ?_
          refine kb_get (own := RX7) (C := RX7) (T := TX7) (N := 19) (v := .ref (a 11)) hx hb hts hin7 hown hX hP 0 rfl rfl rfl 14 (by decide) rfl (by decide +kernel) rfl dX7_ways_125 ?_
          refine lv_iload hx hb dX7_ways_128 (lv_at hl 1 rfl) ?_
          refine kb_ialdN (jn := ((v.1 5) (3 * k)).toNatClampNeg) (n := 6) (f := itN (s_rel (v.1 5) (v.1 10) s0 i x2) (itN (s_turn (v.1 5) (v.1 10) (v.1 4) s0 i x2) (itN (s_far0 x1) (v.1 14) 6) t) k) hx hb hX hP 0 11 rfl rfl rfl (by omega) (by decide) dX7_ways_130 ?_
          refine lv_icmp_ge (tgt := 147) hx hb dX7_ways_131 (by decide) (fun c_131 => ?_) (fun c_131 => ?_)
          · refine lv_aload_n hx hb dX7_ways_147 rfl (lv_at hl 5 rfl) ?_
            refine kb_get (own := RX7) (C := RX7) (T := TX7) (N := 19) (v := .ref (a 11)) hx hb hts hin7 hown hX hP 0 rfl rfl rfl 14 (by decide) rfl (by decide +kernel) rfl dX7_ways_148 ?_
            refine lv_iload hx hb dX7_ways_151 (lv_at hl 1 rfl) ?_
            refine kb_ialdN (jn := ((v.1 5) (3 * k)).toNatClampNeg) (n := 6) (f := itN (s_rel (v.1 5) (v.1 10) s0 i x2) (itN (s_turn (v.1 5) (v.1 10) (v.1 4) s0 i x2) (itN (s_far0 x1) (v.1 14) 6) t) k) hx hb hX hP 0 11 rfl rfl rfl (by omega) (by decide) dX7_ways_153 ?_
            refine kb_iastN (jn := ((v.1 5) (3 * k)).toNatClampNeg) (n := 6) (f := itN (s_rel (v.1 5) (v.1 10) s0 i x2) (itN (s_turn (v.1 5) (v.1 10) (v.1 4) s0 i x2) (itN (s_far0 x1) (v.1 14) 6) t) k) hx hb hX hP hD hS 0 11 rfl rfl rfl (by omega) (by decide) dX7_ways_154 (bX7_A14 a G (setA v 14 (itN (s_rel (v.1 5) (v.1 10) s0 i x2) (itN (s_turn (v.1 5) (v.1 10) (v.1 4) s0 i x2) (itN (s_far0 x1) (v.1 14) 6) t) k)) (upd (itN (s_rel (v.1 5) (v.1 10) s0 i x2) (itN (s_turn (v.1 5) (v.1 10) (v.1 4) s0 i x2) (itN (s_far0 x1) (v.1 14) 6) t) k) (((v.1 5) (3 * k)).toNatClampNeg) ((itN (s_rel (v.1 5) (v.1 10) s0 i x2) (itN (s_turn (v.1 5) (v.1 10) (v.1 4) s0 i x2) (itN (s_far0 x1) (v.1 14) 6) t) k) (((v.1 5) (3 * k)).toNatClampNeg)))) (fun H locs hP hD hS => ?_)
            have hP : PP G [bX7 a G (setA (setA v 14 (itN (s_rel (v.1 5) (v.1 10) s0 i x2) (itN (s_turn (v.1 5) (v.1 10) (v.1 4) s0 i x2) (itN (s_far0 x1) (v.1 14) 6) t) k)) 14 (upd (itN (s_rel (v.1 5) (v.1 10) s0 i x2) (itN (s_turn (v.1 5) (v.1 10) (v.1 4) s0 i x2) (itN (s_far0 x1) (v.1 14) 6) t) k) (((v.1 5) (3 * k)).toNatClampNeg) ((itN (s_rel (v.1 5) (v.1 10) s0 i x2) (itN (s_turn (v.1 5) (v.1 10) (v.1 4) s0 i x2) (itN (s_far0 x1) (v.1 14) 6) t) k) (((v.1 5) (3 * k)).toNatClampNeg))))] H := hP
            have hD : DD (AA (List.flatten [bX7 a G v])) [bX7 a G (setA (setA v 14 (itN (s_rel (v.1 5) (v.1 10) s0 i x2) (itN (s_turn (v.1 5) (v.1 10) (v.1 4) s0 i x2) (itN (s_far0 x1) (v.1 14) 6) t) k)) 14 (upd (itN (s_rel (v.1 5) (v.1 10) s0 i x2) (itN (s_turn (v.1 5) (v.1 10) (v.1 4) s0 i x2) (itN (s_far0 x1) (v.1 14) 6) t) k) (((v.1 5) (3 * k)).toNatClampNeg) ((itN (s_rel (v.1 5) (v.1 10) s0 i x2) (itN (s_turn (v.1 5) (v.1 10) (v.1 4) s0 i x2) (itN (s_far0 x1) (v.1 14) 6) t) k) (((v.1 5) (3 * k)).toNatClampNeg))))] := D_re hD (adc (bX7_ad _ _ _ _) adn)
            refine lv_aload_n hx hb dX7_ways_155 rfl (lv_at hl 5 rfl) ?_
            refine kb_get (own := RX7) (C := RX7) (T := TX7) (N := 19) (v := .ref (a 11)) hx hb hts hin7 hown hX hP 0 rfl rfl rfl 14 (by decide) rfl (by decide +kernel) rfl dX7_ways_156 ?_
            refine lv_iload hx hb dX7_ways_159 (lv_at hl 0 rfl) ?_
            refine lv_aload_n hx hb dX7_ways_161 rfl (lv_at hl 5 rfl) ?_
            refine kb_get (own := RX7) (C := RX7) (T := TX7) (N := 19) (v := .ref (a 11)) hx hb hts hin7 hown hX hP 0 rfl rfl rfl 14 (by decide) rfl (by decide +kernel) rfl dX7_ways_162 ?_
            refine lv_iload hx hb dX7_ways_165 (lv_at hl 1 rfl) ?_
            refine kb_ialdN (jn := ((v.1 5) (3 * k)).toNatClampNeg) (n := 6) (f := upd (itN (s_rel (v.1 5) (v.1 10) s0 i x2) (itN (s_turn (v.1 5) (v.1 10) (v.1 4) s0 i x2) (itN (s_far0 x1) (v.1 14) 6) t) k) (((v.1 5) (3 * k)).toNatClampNeg) ((itN (s_rel (v.1 5) (v.1 10) s0 i x2) (itN (s_turn (v.1 5) (v.1 10) (v.1 4) s0 i x2) (itN (s_far0 x1) (v.1 14) 6) t) k) (((v.1 5) (3 * k)).toNatClampNeg))) hx hb hX hP 0 11 rfl rfl rfl (by omega) (by decide) dX7_ways_167 ?_
            refine lv_iload hx hb dX7_ways_168 (lv_at hl 2 rfl) ?_
            refine lv_iadd hx hb dX7_ways_170 ?_
            refine lv_aload_n hx hb dX7_ways_171 rfl (lv_at hl 5 rfl) ?_
            refine kb_get (own := RX7) (C := RX7) (T := TX7) (N := 19) (v := .ref (a 11)) hx hb hts hin7 hown hX hP 0 rfl rfl rfl 14 (by decide) rfl (by decide +kernel) rfl dX7_ways_172 ?_
            refine lv_iload hx hb dX7_ways_175 (lv_at hl 0 rfl) ?_
            refine kb_ialdN (jn := ((v.1 5) ((3 * k) + 1)).toNatClampNeg) (n := 6) (f := upd (itN (s_rel (v.1 5) (v.1 10) s0 i x2) (itN (s_turn (v.1 5) (v.1 10) (v.1 4) s0 i x2) (itN (s_far0 x1) (v.1 14) 6) t) k) (((v.1 5) (3 * k)).toNatClampNeg) ((itN (s_rel (v.1 5) (v.1 10) s0 i x2) (itN (s_turn (v.1 5) (v.1 10) (v.1 4) s0 i x2) (itN (s_far0 x1) (v.1 14) 6) t) k) (((v.1 5) (3 * k)).toNatClampNeg))) hx hb hX hP 0 11 rfl rfl rfl (by omega) (by decide) dX7_ways_177 ?_
            refine lv_icmp_ge (tgt := 194) hx hb dX7_ways_178 (by decide) (fun c_178 => ?_) (fun c_178 => ?_)
            · refine lv_aload_n hx hb dX7_ways_194 rfl (lv_at hl 5 rfl) ?_
              refine kb_get (own := RX7) (C := RX7) (T := TX7) (N := 19) (v := .ref (a 11)) hx hb hts hin7 hown hX hP 0 rfl rfl rfl 14 (by decide) rfl (by decide +kernel) rfl dX7_ways_195 ?_
              refine lv_iload hx hb dX7_ways_198 (lv_at hl 0 rfl) ?_
              refine kb_ialdN (jn := ((v.1 5) ((3 * k) + 1)).toNatClampNeg) (n := 6) (f := upd (itN (s_rel (v.1 5) (v.1 10) s0 i x2) (itN (s_turn (v.1 5) (v.1 10) (v.1 4) s0 i x2) (itN (s_far0 x1) (v.1 14) 6) t) k) (((v.1 5) (3 * k)).toNatClampNeg) ((itN (s_rel (v.1 5) (v.1 10) s0 i x2) (itN (s_turn (v.1 5) (v.1 10) (v.1 4) s0 i x2) (itN (s_far0 x1) (v.1 14) 6) t) k) (((v.1 5) (3 * k)).toNatClampNeg))) hx hb hX hP 0 11 rfl rfl rfl (by omega) (by decide) dX7_ways_200 ?_
              refine kb_iastN (jn := ((v.1 5) ((3 * k) + 1)).toNatClampNeg) (n := 6) (f := upd (itN (s_rel (v.1 5) (v.1 10) s0 i x2) (itN (s_turn (v.1 5) (v.1 10) (v.1 4) s0 i x2) (itN (s_far0 x1) (v.1 14) 6) t) k) (((v.1 5) (3 * k)).toNatClampNeg) ((itN (s_rel (v.1 5) (v.1 10) s0 i x2) (itN (s_turn (v.1 5) (v.1 10) (v.1 4) s0 i x2) (itN (s_far0 x1) (v.1 14) 6) t) k) (((v.1 5) (3 * k)).toNatClampNeg))) hx hb hX hP hD hS 0 11 rfl rfl rfl (by omega) (by decide) dX7_ways_201 (bX7_A14 a G (setA (setA v 14 (itN (s_rel (v.1 5) (v.1 10) s0 i x2) (itN (s_turn (v.1 5) (v.1 10) (v.1 4) s0 i x2) (itN (s_far0 x1) (v.1 14) 6) t) k)) 14 (upd (itN (s_rel (v.1 5) (v.1 10) s0 i x2) (itN (s_turn (v.1 5) (v.1 10) (v.1 4) s0 i x2) (itN (s_far0 x1) (v.1 14) 6) t) k) (((v.1 5) (3 * k)).toNatClampNeg) ((itN (s_rel (v.1 5) (v.1 10) s0 i x2) (itN (s_turn (v.1 5) (v.1 10) (v.1 4) s0 i x2) (itN (s_far0 x1) (v.1 14) 6) t) k) (((v.1 5) (3 * k)).toNatClampNeg)))) (upd (upd (itN (s_rel (v.1 5) (v.1 10) s0 i x2) (itN (s_turn (v.1 5) (v.1 10) (v.1 4) s0 i x2) (itN (s_far0 x1) (v.1 14) 6) t) k) (((v.1 5) (3 * k)).toNatClampNeg) ((itN (s_rel (v.1 5) (v.1 10) s0 i x2) (itN (s_turn (v.1 5) (v.1 10) (v.1 4) s0 i x2) (itN (s_far0 x1) (v.1 14) 6) t) k) (((v.1 5) (3 * k)).toNatClampNeg))) (((v.1 5) ((3 * k) + 1)).toNatClampNeg) ((upd (itN (s_rel (v.1 5) (v.1 10) s0 i x2) (itN (s_turn (v.1 5) (v.1 10) (v.1 4) s0 i x2) (itN (s_far0 x1) (v.1 14) 6) t) k) (((v.1 5) (3 * k)).toNatClampNeg) ((itN (s_rel (v.1 5) (v.1 10) s0 i x2) (itN (s_turn (v.1 5) (v.1 10) (v.1 4) s0 i x2) (itN (s_far0 x1) (v.1 14) 6) t) k) (((v.1 5) (3 * k)).toNatClampNeg))) (((v.1 5) ((3 * k) + 1)).toNatClampNeg)))) (fun H locs hP hD hS => ?_)
              have hP : PP G [bX7 a G (setA (setA (setA v 14 (itN (s_rel (v.1 5) (v.1 10) s0 i x2) (itN (s_turn (v.1 5) (v.1 10) (v.1 4) s0 i x2) (itN (s_far0 x1) (v.1 14) 6) t) k)) 14 (upd (itN (s_rel (v.1 5) (v.1 10) s0 i x2) (itN (s_turn (v.1 5) (v.1 10) (v.1 4) s0 i x2) (itN (s_far0 x1) (v.1 14) 6) t) k) (((v.1 5) (3 * k)).toNatClampNeg) ((itN (s_rel (v.1 5) (v.1 10) s0 i x2) (itN (s_turn (v.1 5) (v.1 10) (v.1 4) s0 i x2) (itN (s_far0 x1) (v.1 14) 6) t) k) (((v.1 5) (3 * k)).toNatClampNeg)))) 14 (upd (upd (itN (s_rel (v.1 5) (v.1 10) s0 i x2) (itN (s_turn (v.1 5) (v.1 10) (v.1 4) s0 i x2) (itN (s_far0 x1) (v.1 14) 6) t) k) (((v.1 5) (3 * k)).toNatClampNeg) ((itN (s_rel (v.1 5) (v.1 10) s0 i x2) (itN (s_turn (v.1 5) (v.1 10) (v.1 4) s0 i x2) (itN (s_far0 x1) (v.1 14) 6) t) k) (((v.1 5) (3 * k)).toNatClampNeg))) (((v.1 5) ((3 * k) + 1)).toNatClampNeg) ((upd (itN (s_rel (v.1 5) (v.1 10) s0 i x2) (itN (s_turn (v.1 5) (v.1 10) (v.1 4) s0 i x2) (itN (s_far0 x1) (v.1 14) 6) t) k) (((v.1 5) (3 * k)).toNatClampNeg) ((itN (s_rel (v.1 5) (v.1 10) s0 i x2) (itN (s_turn (v.1 5) (v.1 10) (v.1 4) s0 i x2) (itN (s_far0 x1) (v.1 14) 6) t) k) (((v.1 5) (3 * k)).toNatClampNeg))) (((v.1 5) ((3 * k) + 1)).toNatClampNeg))))] H := hP
              have hD : DD (AA (List.flatten [bX7 a G v])) [bX7 a G (setA (setA (setA v 14 (itN (s_rel (v.1 5) (v.1 10) s0 i x2) (itN (s_turn (v.1 5) (v.1 10) (v.1 4) s0 i x2) (itN (s_far0 x1) (v.1 14) 6) t) k)) 14 (upd (itN (s_rel (v.1 5) (v.1 10) s0 i x2) (itN (s_turn (v.1 5) (v.1 10) (v.1 4) s0 i x2) (itN (s_far0 x1) (v.1 14) 6) t) k) (((v.1 5) (3 * k)).toNatClampNeg) ((itN (s_rel (v.1 5) (v.1 10) s0 i x2) (itN (s_turn (v.1 5) (v.1 10) (v.1 4) s0 i x2) (itN (s_far0 x1) (v.1 14) 6) t) k) (((v.1 5) (3 * k)).toNatClampNeg)))) 14 (upd (upd (itN (s_rel (v.1 5) (v.1 10) s0 i x2) (itN (s_turn (v.1 5) (v.1 10) (v.1 4) s0 i x2) (itN (s_far0 x1) (v.1 14) 6) t) k) (((v.1 5) (3 * k)).toNatClampNeg) ((itN (s_rel (v.1 5) (v.1 10) s0 i x2) (itN (s_turn (v.1 5) (v.1 10) (v.1 4) s0 i x2) (itN (s_far0 x1) (v.1 14) 6) t) k) (((v.1 5) (3 * k)).toNatClampNeg))) (((v.1 5) ((3 * k) + 1)).toNatClampNeg) ((upd (itN (s_rel (v.1 5) (v.1 10) s0 i x2) (itN (s_turn (v.1 5) (v.1 10) (v.1 4) s0 i x2) (itN (s_far0 x1) (v.1 14) 6) t) k) (((v.1 5) (3 * k)).toNatClampNeg) ((itN (s_rel (v.1 5) (v.1 10) s0 i x2) (itN (s_turn (v.1 5) (v.1 10) (v.1 4) s0 i x2) (itN (s_far0 x1) (v.1 14) 6) t) k) (((v.1 5) (3 * k)).toNatClampNeg))) (((v.1 5) ((3 * k) + 1)).toNatClampNeg))))] := D_re hD (adc (bX7_ad _ _ _ _) adn)
              refine lv_iinc (v := nI (k + 1)) (lv' := [(6, .int (nI (k + 1))), (9, .int (nI ((v.1 5) ((3 * k) + 1)).toNatClampNeg)), (8, .int (nI ((v.1 5) (3 * k)).toNatClampNeg)), (7, .int 1), (5, .int (nI t)), (0, .ref (a 0)), (1, .int (nI s0)), (2, .int (nI i)), (3, .int x1), (4, .int x2)]) hx hb dX7_ways_202 hl (k := 3) rfl (nI_1 _) (by decide) rfl (fun ls hl => ?_)
              refine lv_goto (tgt := 48) hx hb dX7_ways_205 (by decide) ?_
              have hP : PP G [bX7 a G (setA v 14 (itN (s_rel (v.1 5) (v.1 10) s0 i x2) (itN (s_turn (v.1 5) (v.1 10) (v.1 4) s0 i x2) (itN (s_far0 x1) (v.1 14) 6) t) (k + 1)))] H := by
                rw [itN_s]
                simp only [s_rel, relA, relB, if_pos c_7, if_neg c_42, if_neg c_56, if_pos c_67, if_pos c_131, if_pos c_178]
                try simp only [ov_n1, ov_m1, ov_nc, ov_mc, ov_c] at hP ⊢
                exact hP
              have hD : DD (AA (List.flatten [bX7 a G v])) [bX7 a G (setA v 14 (itN (s_rel (v.1 5) (v.1 10) s0 i x2) (itN (s_turn (v.1 5) (v.1 10) (v.1 4) s0 i x2) (itN (s_far0 x1) (v.1 14) 6) t) (k + 1)))] := D_re hD (adc (bX7_ad _ _ _ _) adn)
              exact ih_48  _ _ _ hP hD hS (show lv_has ls 10 [(6, .int (nI (k + 1))), (5, .int (nI t)), (0, .ref (a 0)), (1, .int (nI s0)), (2, .int (nI i)), (3, .int x1), (4, .int x2)] from lv_sub hl [0, 4, 5, 6, 7, 8, 9] rfl) 
            · refine lv_aload_n hx hb dX7_ways_181 rfl (lv_at hl 5 rfl) ?_
              refine kb_get (own := RX7) (C := RX7) (T := TX7) (N := 19) (v := .ref (a 11)) hx hb hts hin7 hown hX hP 0 rfl rfl rfl 14 (by decide) rfl (by decide +kernel) rfl dX7_ways_182 ?_
              refine lv_iload hx hb dX7_ways_185 (lv_at hl 1 rfl) ?_
              refine kb_ialdN (jn := ((v.1 5) (3 * k)).toNatClampNeg) (n := 6) (f := upd (itN (s_rel (v.1 5) (v.1 10) s0 i x2) (itN (s_turn (v.1 5) (v.1 10) (v.1 4) s0 i x2) (itN (s_far0 x1) (v.1 14) 6) t) k) (((v.1 5) (3 * k)).toNatClampNeg) ((itN (s_rel (v.1 5) (v.1 10) s0 i x2) (itN (s_turn (v.1 5) (v.1 10) (v.1 4) s0 i x2) (itN (s_far0 x1) (v.1 14) 6) t) k) (((v.1 5) (3 * k)).toNatClampNeg))) hx hb hX hP 0 11 rfl rfl rfl (by omega) (by decide) dX7_ways_187 ?_
              refine lv_iload hx hb dX7_ways_188 (lv_at hl 2 rfl) ?_
              refine lv_iadd hx hb dX7_ways_190 ?_
              refine lv_goto (tgt := 201) hx hb dX7_ways_191 (by decide) ?_
              refine kb_iastN (jn := ((v.1 5) ((3 * k) + 1)).toNatClampNeg) (n := 6) (f := upd (itN (s_rel (v.1 5) (v.1 10) s0 i x2) (itN (s_turn (v.1 5) (v.1 10) (v.1 4) s0 i x2) (itN (s_far0 x1) (v.1 14) 6) t) k) (((v.1 5) (3 * k)).toNatClampNeg) ((itN (s_rel (v.1 5) (v.1 10) s0 i x2) (itN (s_turn (v.1 5) (v.1 10) (v.1 4) s0 i x2) (itN (s_far0 x1) (v.1 14) 6) t) k) (((v.1 5) (3 * k)).toNatClampNeg))) hx hb hX hP hD hS 0 11 rfl rfl rfl (by omega) (by decide) dX7_ways_201 (bX7_A14 a G (setA (setA v 14 (itN (s_rel (v.1 5) (v.1 10) s0 i x2) (itN (s_turn (v.1 5) (v.1 10) (v.1 4) s0 i x2) (itN (s_far0 x1) (v.1 14) 6) t) k)) 14 (upd (itN (s_rel (v.1 5) (v.1 10) s0 i x2) (itN (s_turn (v.1 5) (v.1 10) (v.1 4) s0 i x2) (itN (s_far0 x1) (v.1 14) 6) t) k) (((v.1 5) (3 * k)).toNatClampNeg) ((itN (s_rel (v.1 5) (v.1 10) s0 i x2) (itN (s_turn (v.1 5) (v.1 10) (v.1 4) s0 i x2) (itN (s_far0 x1) (v.1 14) 6) t) k) (((v.1 5) (3 * k)).toNatClampNeg)))) (upd (upd (itN (s_rel (v.1 5) (v.1 10) s0 i x2) (itN (s_turn (v.1 5) (v.1 10) (v.1 4) s0 i x2) (itN (s_far0 x1) (v.1 14) 6) t) k) (((v.1 5) (3 * k)).toNatClampNeg) ((itN (s_rel (v.1 5) (v.1 10) s0 i x2) (itN (s_turn (v.1 5) (v.1 10) (v.1 4) s0 i x2) (itN (s_far0 x1) (v.1 14) 6) t) k) (((v.1 5) (3 * k)).toNatClampNeg))) (((v.1 5) ((3 * k) + 1)).toNatClampNeg) (((upd (itN (s_rel (v.1 5) (v.1 10) s0 i x2) (itN (s_turn (v.1 5) (v.1 10) (v.1 4) s0 i x2) (itN (s_far0 x1) (v.1 14) 6) t) k) (((v.1 5) (3 * k)).toNatClampNeg) ((itN (s_rel (v.1 5) (v.1 10) s0 i x2) (itN (s_turn (v.1 5) (v.1 10) (v.1 4) s0 i x2) (itN (s_far0 x1) (v.1 14) 6) t) k) (((v.1 5) (3 * k)).toNatClampNeg))) (((v.1 5) (3 * k)).toNatClampNeg)) + 1))) (fun H locs hP hD hS => ?_)
              have hP : PP G [bX7 a G (setA (setA (setA v 14 (itN (s_rel (v.1 5) (v.1 10) s0 i x2) (itN (s_turn (v.1 5) (v.1 10) (v.1 4) s0 i x2) (itN (s_far0 x1) (v.1 14) 6) t) k)) 14 (upd (itN (s_rel (v.1 5) (v.1 10) s0 i x2) (itN (s_turn (v.1 5) (v.1 10) (v.1 4) s0 i x2) (itN (s_far0 x1) (v.1 14) 6) t) k) (((v.1 5) (3 * k)).toNatClampNeg) ((itN (s_rel (v.1 5) (v.1 10) s0 i x2) (itN (s_turn (v.1 5) (v.1 10) (v.1 4) s0 i x2) (itN (s_far0 x1) (v.1 14) 6) t) k) (((v.1 5) (3 * k)).toNatClampNeg)))) 14 (upd (upd (itN (s_rel (v.1 5) (v.1 10) s0 i x2) (itN (s_turn (v.1 5) (v.1 10) (v.1 4) s0 i x2) (itN (s_far0 x1) (v.1 14) 6) t) k) (((v.1 5) (3 * k)).toNatClampNeg) ((itN (s_rel (v.1 5) (v.1 10) s0 i x2) (itN (s_turn (v.1 5) (v.1 10) (v.1 4) s0 i x2) (itN (s_far0 x1) (v.1 14) 6) t) k) (((v.1 5) (3 * k)).toNatClampNeg))) (((v.1 5) ((3 * k) + 1)).toNatClampNeg) (((upd (itN (s_rel (v.1 5) (v.1 10) s0 i x2) (itN (s_turn (v.1 5) (v.1 10) (v.1 4) s0 i x2) (itN (s_far0 x1) (v.1 14) 6) t) k) (((v.1 5) (3 * k)).toNatClampNeg) ((itN (s_rel (v.1 5) (v.1 10) s0 i x2) (itN (s_turn (v.1 5) (v.1 10) (v.1 4) s0 i x2) (itN (s_far0 x1) (v.1 14) 6) t) k) (((v.1 5) (3 * k)).toNatClampNeg))) (((v.1 5) (3 * k)).toNatClampNeg)) + 1)))] H := hP
              have hD : DD (AA (List.flatten [bX7 a G v])) [bX7 a G (setA (setA (setA v 14 (itN (s_rel (v.1 5) (v.1 10) s0 i x2) (itN (s_turn (v.1 5) (v.1 10) (v.1 4) s0 i x2) (itN (s_far0 x1) (v.1 14) 6) t) k)) 14 (upd (itN (s_rel (v.1 5) (v.1 10) s0 i x2) (itN (s_turn (v.1 5) (v.1 10) (v.1 4) s0 i x2) (itN (s_far0 x1) (v.1 14) 6) t) k) (((v.1 5) (3 * k)).toNatClampNeg) ((itN (s_rel (v.1 5) (v.1 10) s0 i x2) (itN (s_turn (v.1 5) (v.1 10) (v.1 4) s0 i x2) (itN (s_far0 x1) (v.1 14) 6) t) k) (((v.1 5) (3 * k)).toNatClampNeg)))) 14 (upd (upd (itN (s_rel (v.1 5) (v.1 10) s0 i x2) (itN (s_turn (v.1 5) (v.1 10) (v.1 4) s0 i x2) (itN (s_far0 x1) (v.1 14) 6) t) k) (((v.1 5) (3 * k)).toNatClampNeg) ((itN (s_rel (v.1 5) (v.1 10) s0 i x2) (itN (s_turn (v.1 5) (v.1 10) (v.1 4) s0 i x2) (itN (s_far0 x1) (v.1 14) 6) t) k) (((v.1 5) (3 * k)).toNatClampNeg))) (((v.1 5) ((3 * k) + 1)).toNatClampNeg) (((upd (itN (s_rel (v.1 5) (v.1 10) s0 i x2) (itN (s_turn (v.1 5) (v.1 10) (v.1 4) s0 i x2) (itN (s_far0 x1) (v.1 14) 6) t) k) (((v.1 5) (3 * k)).toNatClampNeg) ((itN (s_rel (v.1 5) (v.1 10) s0 i x2) (itN (s_turn (v.1 5) (v.1 10) (v.1 4) s0 i x2) (itN (s_far0 x1) (v.1 14) 6) t) k) (((v.1 5) (3 * k)).toNatClampNeg))) (((v.1 5) (3 * k)).toNatClampNeg)) + 1)))] := D_re hD (adc (bX7_ad _ _ _ _) adn)
              refine lv_iinc (v := nI (k + 1)) (lv' := [(6, .int (nI (k + 1))), (9, .int (nI ((v.1 5) ((3 * k) + 1)).toNatClampNeg)), (8, .int (nI ((v.1 5) (3 * k)).toNatClampNeg)), (7, .int 1), (5, .int (nI t)), (0, .ref (a 0)), (1, .int (nI s0)), (2, .int (nI i)), (3, .int x1), (4, .int x2)]) hx hb dX7_ways_202 hl (k := 3) rfl (nI_1 _) (by decide) rfl (fun ls hl => ?_)
              refine lv_goto (tgt := 48) hx hb dX7_ways_205 (by decide) ?_
              have hP : PP G [bX7 a G (setA v 14 (itN (s_rel (v.1 5) (v.1 10) s0 i x2) (itN (s_turn (v.1 5) (v.1 10) (v.1 4) s0 i x2) (itN (s_far0 x1) (v.1 14) 6) t) (k + 1)))] H := by
                rw [itN_s]
                simp only [s_rel, relA, relB, if_pos c_7, if_neg c_42, if_neg c_56, if_pos c_67, if_pos c_131, if_neg c_178]
                try simp only [ov_n1, ov_m1, ov_nc, ov_mc, ov_c] at hP ⊢
                exact hP
              have hD : DD (AA (List.flatten [bX7 a G v])) [bX7 a G (setA v 14 (itN (s_rel (v.1 5) (v.1 10) s0 i x2) (itN (s_turn (v.1 5) (v.1 10) (v.1 4) s0 i x2) (itN (s_far0 x1) (v.1 14) 6) t) (k + 1)))] := D_re hD (adc (bX7_ad _ _ _ _) adn)
              exact ih_48  _ _ _ hP hD hS (show lv_has ls 10 [(6, .int (nI (k + 1))), (5, .int (nI t)), (0, .ref (a 0)), (1, .int (nI s0)), (2, .int (nI i)), (3, .int x1), (4, .int x2)] from lv_sub hl [0, 4, 5, 6, 7, 8, 9] rfl) 
          · refine lv_aload_n hx hb dX7_ways_134 rfl (lv_at hl 5 rfl) ?_
            refine kb_get (own := RX7) (C := RX7) (T := TX7) (N := 19) (v := .ref (a 11)) hx hb hts hin7 hown hX hP 0 rfl rfl rfl 14 (by decide) rfl (by decide +kernel) rfl dX7_ways_135 ?_
            refine lv_iload hx hb dX7_ways_138 (lv_at hl 0 rfl) ?_
            refine kb_ialdN (jn := ((v.1 5) ((3 * k) + 1)).toNatClampNeg) (n := 6) (f := itN (s_rel (v.1 5) (v.1 10) s0 i x2) (itN (s_turn (v.1 5) (v.1 10) (v.1 4) s0 i x2) (itN (s_far0 x1) (v.1 14) 6) t) k) hx hb hX hP 0 11 rfl rfl rfl (by omega) (by decide) dX7_ways_140 ?_
            refine lv_iload hx hb dX7_ways_141 (lv_at hl 2 rfl) ?_
            refine lv_iadd hx hb dX7_ways_143 ?_
            refine lv_goto (tgt := 154) hx hb dX7_ways_144 (by decide) ?_
            refine kb_iastN (jn := ((v.1 5) (3 * k)).toNatClampNeg) (n := 6) (f := itN (s_rel (v.1 5) (v.1 10) s0 i x2) (itN (s_turn (v.1 5) (v.1 10) (v.1 4) s0 i x2) (itN (s_far0 x1) (v.1 14) 6) t) k) hx hb hX hP hD hS 0 11 rfl rfl rfl (by omega) (by decide) dX7_ways_154 (bX7_A14 a G (setA v 14 (itN (s_rel (v.1 5) (v.1 10) s0 i x2) (itN (s_turn (v.1 5) (v.1 10) (v.1 4) s0 i x2) (itN (s_far0 x1) (v.1 14) 6) t) k)) (upd (itN (s_rel (v.1 5) (v.1 10) s0 i x2) (itN (s_turn (v.1 5) (v.1 10) (v.1 4) s0 i x2) (itN (s_far0 x1) (v.1 14) 6) t) k) (((v.1 5) (3 * k)).toNatClampNeg) (((itN (s_rel (v.1 5) (v.1 10) s0 i x2) (itN (s_turn (v.1 5) (v.1 10) (v.1 4) s0 i x2) (itN (s_far0 x1) (v.1 14) 6) t) k) (((v.1 5) ((3 * k) + 1)).toNatClampNeg)) + 1))) (fun H locs hP hD hS => ?_)
            have hP : PP G [bX7 a G (setA (setA v 14 (itN (s_rel (v.1 5) (v.1 10) s0 i x2) (itN (s_turn (v.1 5) (v.1 10) (v.1 4) s0 i x2) (itN (s_far0 x1) (v.1 14) 6) t) k)) 14 (upd (itN (s_rel (v.1 5) (v.1 10) s0 i x2) (itN (s_turn (v.1 5) (v.1 10) (v.1 4) s0 i x2) (itN (s_far0 x1) (v.1 14) 6) t) k) (((v.1 5) (3 * k)).toNatClampNeg) (((itN (s_rel (v.1 5) (v.1 10) s0 i x2) (itN (s_turn (v.1 5) (v.1 10) (v.1 4) s0 i x2) (itN (s_far0 x1) (v.1 14) 6) t) k) (((v.1 5) ((3 * k) + 1)).toNatClampNeg)) + 1)))] H := hP
            have hD : DD (AA (List.flatten [bX7 a G v])) [bX7 a G (setA (setA v 14 (itN (s_rel (v.1 5) (v.1 10) s0 i x2) (itN (s_turn (v.1 5) (v.1 10) (v.1 4) s0 i x2) (itN (s_far0 x1) (v.1 14) 6) t) k)) 14 (upd (itN (s_rel (v.1 5) (v.1 10) s0 i x2) (itN (s_turn (v.1 5) (v.1 10) (v.1 4) s0 i x2) (itN (s_far0 x1) (v.1 14) 6) t) k) (((v.1 5) (3 * k)).toNatClampNeg) (((itN (s_rel (v.1 5) (v.1 10) s0 i x2) (itN (s_turn (v.1 5) (v.1 10) (v.1 4) s0 i x2) (itN (s_far0 x1) (v.1 14) 6) t) k) (((v.1 5) ((3 * k) + 1)).toNatClampNeg)) + 1)))] := D_re hD (adc (bX7_ad _ _ _ _) adn)
            refine lv_aload_n hx hb dX7_ways_155 rfl (lv_at hl 5 rfl) ?_
            refine kb_get (own := RX7) (C := RX7) (T := TX7) (N := 19) (v := .ref (a 11)) hx hb hts hin7 hown hX hP 0 rfl rfl rfl 14 (by decide) rfl (by decide +kernel) rfl dX7_ways_156 ?_
            refine lv_iload hx hb dX7_ways_159 (lv_at hl 0 rfl) ?_
            refine lv_aload_n hx hb dX7_ways_161 rfl (lv_at hl 5 rfl) ?_
            refine kb_get (own := RX7) (C := RX7) (T := TX7) (N := 19) (v := .ref (a 11)) hx hb hts hin7 hown hX hP 0 rfl rfl rfl 14 (by decide) rfl (by decide +kernel) rfl dX7_ways_162 ?_
            refine lv_iload hx hb dX7_ways_165 (lv_at hl 1 rfl) ?_
            refine kb_ialdN (jn := ((v.1 5) (3 * k)).toNatClampNeg) (n := 6) (f := upd (itN (s_rel (v.1 5) (v.1 10) s0 i x2) (itN (s_turn (v.1 5) (v.1 10) (v.1 4) s0 i x2) (itN (s_far0 x1) (v.1 14) 6) t) k) (((v.1 5) (3 * k)).toNatClampNeg) (((itN (s_rel (v.1 5) (v.1 10) s0 i x2) (itN (s_turn (v.1 5) (v.1 10) (v.1 4) s0 i x2) (itN (s_far0 x1) (v.1 14) 6) t) k) (((v.1 5) ((3 * k) + 1)).toNatClampNeg)) + 1)) hx hb hX hP 0 11 rfl rfl rfl (by omega) (by decide) dX7_ways_167 ?_
            refine lv_iload hx hb dX7_ways_168 (lv_at hl 2 rfl) ?_
            refine lv_iadd hx hb dX7_ways_170 ?_
            refine lv_aload_n hx hb dX7_ways_171 rfl (lv_at hl 5 rfl) ?_
            refine kb_get (own := RX7) (C := RX7) (T := TX7) (N := 19) (v := .ref (a 11)) hx hb hts hin7 hown hX hP 0 rfl rfl rfl 14 (by decide) rfl (by decide +kernel) rfl dX7_ways_172 ?_
            refine lv_iload hx hb dX7_ways_175 (lv_at hl 0 rfl) ?_
            refine kb_ialdN (jn := ((v.1 5) ((3 * k) + 1)).toNatClampNeg) (n := 6) (f := upd (itN (s_rel (v.1 5) (v.1 10) s0 i x2) (itN (s_turn (v.1 5) (v.1 10) (v.1 4) s0 i x2) (itN (s_far0 x1) (v.1 14) 6) t) k) (((v.1 5) (3 * k)).toNatClampNeg) (((itN (s_rel (v.1 5) (v.1 10) s0 i x2) (itN (s_turn (v.1 5) (v.1 10) (v.1 4) s0 i x2) (itN (s_far0 x1) (v.1 14) 6) t) k) (((v.1 5) ((3 * k) + 1)).toNatClampNeg)) + 1)) hx hb hX hP 0 11 rfl rfl rfl (by omega) (by decide) dX7_ways_177 ?_
            refine lv_icmp_ge (tgt := 194) hx hb dX7_ways_178 (by decide) (fun c_178 => ?_) (fun c_178 => ?_)
            · refine lv_aload_n hx hb dX7_ways_194 rfl (lv_at hl 5 rfl) ?_
              refine kb_get (own := RX7) (C := RX7) (T := TX7) (N := 19) (v := .ref (a 11)) hx hb hts hin7 hown hX hP 0 rfl rfl rfl 14 (by decide) rfl (by decide +kernel) rfl dX7_ways_195 ?_
              refine lv_iload hx hb dX7_ways_198 (lv_at hl 0 rfl) ?_
              refine kb_ialdN (jn := ((v.1 5) ((3 * k) + 1)).toNatClampNeg) (n := 6) (f := upd (itN (s_rel (v.1 5) (v.1 10) s0 i x2) (itN (s_turn (v.1 5) (v.1 10) (v.1 4) s0 i x2) (itN (s_far0 x1) (v.1 14) 6) t) k) (((v.1 5) (3 * k)).toNatClampNeg) (((itN (s_rel (v.1 5) (v.1 10) s0 i x2) (itN (s_turn (v.1 5) (v.1 10) (v.1 4) s0 i x2) (itN (s_far0 x1) (v.1 14) 6) t) k) (((v.1 5) ((3 * k) + 1)).toNatClampNeg)) + 1)) hx hb hX hP 0 11 rfl rfl rfl (by omega) (by decide) dX7_ways_200 ?_
              refine kb_iastN (jn := ((v.1 5) ((3 * k) + 1)).toNatClampNeg) (n := 6) (f := upd (itN (s_rel (v.1 5) (v.1 10) s0 i x2) (itN (s_turn (v.1 5) (v.1 10) (v.1 4) s0 i x2) (itN (s_far0 x1) (v.1 14) 6) t) k) (((v.1 5) (3 * k)).toNatClampNeg) (((itN (s_rel (v.1 5) (v.1 10) s0 i x2) (itN (s_turn (v.1 5) (v.1 10) (v.1 4) s0 i x2) (itN (s_far0 x1) (v.1 14) 6) t) k) (((v.1 5) ((3 * k) + 1)).toNatClampNeg)) + 1)) hx hb hX hP hD hS 0 11 rfl rfl rfl (by omega) (by decide) dX7_ways_201 (bX7_A14 a G (setA (setA v 14 (itN (s_rel (v.1 5) (v.1 10) s0 i x2) (itN (s_turn (v.1 5) (v.1 10) (v.1 4) s0 i x2) (itN (s_far0 x1) (v.1 14) 6) t) k)) 14 (upd (itN (s_rel (v.1 5) (v.1 10) s0 i x2) (itN (s_turn (v.1 5) (v.1 10) (v.1 4) s0 i x2) (itN (s_far0 x1) (v.1 14) 6) t) k) (((v.1 5) (3 * k)).toNatClampNeg) (((itN (s_rel (v.1 5) (v.1 10) s0 i x2) (itN (s_turn (v.1 5) (v.1 10) (v.1 4) s0 i x2) (itN (s_far0 x1) (v.1 14) 6) t) k) (((v.1 5) ((3 * k) + 1)).toNatClampNeg)) + 1))) (upd (upd (itN (s_rel (v.1 5) (v.1 10) s0 i x2) (itN (s_turn (v.1 5) (v.1 10) (v.1 4) s0 i x2) (itN (s_far0 x1) (v.1 14) 6) t) k) (((v.1 5) (3 * k)).toNatClampNeg) (((itN (s_rel (v.1 5) (v.1 10) s0 i x2) (itN (s_turn (v.1 5) (v.1 10) (v.1 4) s0 i x2) (itN (s_far0 x1) (v.1 14) 6) t) k) (((v.1 5) ((3 * k) + 1)).toNatClampNeg)) + 1)) (((v.1 5) ((3 * k) + 1)).toNatClampNeg) ((upd (itN (s_rel (v.1 5) (v.1 10) s0 i x2) (itN (s_turn (v.1 5) (v.1 10) (v.1 4) s0 i x2) (itN (s_far0 x1) (v.1 14) 6) t) k) (((v.1 5) (3 * k)).toNatClampNeg) (((itN (s_rel (v.1 5) (v.1 10) s0 i x2) (itN (s_turn (v.1 5) (v.1 10) (v.1 4) s0 i x2) (itN (s_far0 x1) (v.1 14) 6) t) k) (((v.1 5) ((3 * k) + 1)).toNatClampNeg)) + 1)) (((v.1 5) ((3 * k) + 1)).toNatClampNeg)))) (fun H locs hP hD hS => ?_)
              have hP : PP G [bX7 a G (setA (setA (setA v 14 (itN (s_rel (v.1 5) (v.1 10) s0 i x2) (itN (s_turn (v.1 5) (v.1 10) (v.1 4) s0 i x2) (itN (s_far0 x1) (v.1 14) 6) t) k)) 14 (upd (itN (s_rel (v.1 5) (v.1 10) s0 i x2) (itN (s_turn (v.1 5) (v.1 10) (v.1 4) s0 i x2) (itN (s_far0 x1) (v.1 14) 6) t) k) (((v.1 5) (3 * k)).toNatClampNeg) (((itN (s_rel (v.1 5) (v.1 10) s0 i x2) (itN (s_turn (v.1 5) (v.1 10) (v.1 4) s0 i x2) (itN (s_far0 x1) (v.1 14) 6) t) k) (((v.1 5) ((3 * k) + 1)).toNatClampNeg)) + 1))) 14 (upd (upd (itN (s_rel (v.1 5) (v.1 10) s0 i x2) (itN (s_turn (v.1 5) (v.1 10) (v.1 4) s0 i x2) (itN (s_far0 x1) (v.1 14) 6) t) k) (((v.1 5) (3 * k)).toNatClampNeg) (((itN (s_rel (v.1 5) (v.1 10) s0 i x2) (itN (s_turn (v.1 5) (v.1 10) (v.1 4) s0 i x2) (itN (s_far0 x1) (v.1 14) 6) t) k) (((v.1 5) ((3 * k) + 1)).toNatClampNeg)) + 1)) (((v.1 5) ((3 * k) + 1)).toNatClampNeg) ((upd (itN (s_rel (v.1 5) (v.1 10) s0 i x2) (itN (s_turn (v.1 5) (v.1 10) (v.1 4) s0 i x2) (itN (s_far0 x1) (v.1 14) 6) t) k) (((v.1 5) (3 * k)).toNatClampNeg) (((itN (s_rel (v.1 5) (v.1 10) s0 i x2) (itN (s_turn (v.1 5) (v.1 10) (v.1 4) s0 i x2) (itN (s_far0 x1) (v.1 14) 6) t) k) (((v.1 5) ((3 * k) + 1)).toNatClampNeg)) + 1)) (((v.1 5) ((3 * k) + 1)).toNatClampNeg))))] H := hP
              have hD : DD (AA (List.flatten [bX7 a G v])) [bX7 a G (setA (setA (setA v 14 (itN (s_rel (v.1 5) (v.1 10) s0 i x2) (itN (s_turn (v.1 5) (v.1 10) (v.1 4) s0 i x2) (itN (s_far0 x1) (v.1 14) 6) t) k)) 14 (upd (itN (s_rel (v.1 5) (v.1 10) s0 i x2) (itN (s_turn (v.1 5) (v.1 10) (v.1 4) s0 i x2) (itN (s_far0 x1) (v.1 14) 6) t) k) (((v.1 5) (3 * k)).toNatClampNeg) (((itN (s_rel (v.1 5) (v.1 10) s0 i x2) (itN (s_turn (v.1 5) (v.1 10) (v.1 4) s0 i x2) (itN (s_far0 x1) (v.1 14) 6) t) k) (((v.1 5) ((3 * k) + 1)).toNatClampNeg)) + 1))) 14 (upd (upd (itN (s_rel (v.1 5) (v.1 10) s0 i x2) (itN (s_turn (v.1 5) (v.1 10) (v.1 4) s0 i x2) (itN (s_far0 x1) (v.1 14) 6) t) k) (((v.1 5) (3 * k)).toNatClampNeg) (((itN (s_rel (v.1 5) (v.1 10) s0 i x2) (itN (s_turn (v.1 5) (v.1 10) (v.1 4) s0 i x2) (itN (s_far0 x1) (v.1 14) 6) t) k) (((v.1 5) ((3 * k) + 1)).toNatClampNeg)) + 1)) (((v.1 5) ((3 * k) + 1)).toNatClampNeg) ((upd (itN (s_rel (v.1 5) (v.1 10) s0 i x2) (itN (s_turn (v.1 5) (v.1 10) (v.1 4) s0 i x2) (itN (s_far0 x1) (v.1 14) 6) t) k) (((v.1 5) (3 * k)).toNatClampNeg) (((itN (s_rel (v.1 5) (v.1 10) s0 i x2) (itN (s_turn (v.1 5) (v.1 10) (v.1 4) s0 i x2) (itN (s_far0 x1) (v.1 14) 6) t) k) (((v.1 5) ((3 * k) + 1)).toNatClampNeg)) + 1)) (((v.1 5) ((3 * k) + 1)).toNatClampNeg))))] := D_re hD (adc (bX7_ad _ _ _ _) adn)
              refine lv_iinc (v := nI (k + 1)) (lv' := [(6, .int (nI (k + 1))), (9, .int (nI ((v.1 5) ((3 * k) + 1)).toNatClampNeg)), (8, .int (nI ((v.1 5) (3 * k)).toNatClampNeg)), (7, .int 1), (5, .int (nI t)), (0, .ref (a 0)), (1, .int (nI s0)), (2, .int (nI i)), (3, .int x1), (4, .int x2)]) hx hb dX7_ways_202 hl (k := 3) rfl (nI_1 _) (by decide) rfl (fun ls hl => ?_)
              refine lv_goto (tgt := 48) hx hb dX7_ways_205 (by decide) ?_
              have hP : PP G [bX7 a G (setA v 14 (itN (s_rel (v.1 5) (v.1 10) s0 i x2) (itN (s_turn (v.1 5) (v.1 10) (v.1 4) s0 i x2) (itN (s_far0 x1) (v.1 14) 6) t) (k + 1)))] H := by
                rw [itN_s]
                simp only [s_rel, relA, relB, if_pos c_7, if_neg c_42, if_neg c_56, if_pos c_67, if_neg c_131, if_pos c_178]
                try simp only [ov_n1, ov_m1, ov_nc, ov_mc, ov_c] at hP ⊢
                exact hP
              have hD : DD (AA (List.flatten [bX7 a G v])) [bX7 a G (setA v 14 (itN (s_rel (v.1 5) (v.1 10) s0 i x2) (itN (s_turn (v.1 5) (v.1 10) (v.1 4) s0 i x2) (itN (s_far0 x1) (v.1 14) 6) t) (k + 1)))] := D_re hD (adc (bX7_ad _ _ _ _) adn)
              exact ih_48  _ _ _ hP hD hS (show lv_has ls 10 [(6, .int (nI (k + 1))), (5, .int (nI t)), (0, .ref (a 0)), (1, .int (nI s0)), (2, .int (nI i)), (3, .int x1), (4, .int x2)] from lv_sub hl [0, 4, 5, 6, 7, 8, 9] rfl) 
            · refine lv_aload_n hx hb dX7_ways_181 rfl (lv_at hl 5 rfl) ?_
              refine kb_get (own := RX7) (C := RX7) (T := TX7) (N := 19) (v := .ref (a 11)) hx hb hts hin7 hown hX hP 0 rfl rfl rfl 14 (by decide) rfl (by decide +kernel) rfl dX7_ways_182 ?_
              refine lv_iload hx hb dX7_ways_185 (lv_at hl 1 rfl) ?_
              refine kb_ialdN (jn := ((v.1 5) (3 * k)).toNatClampNeg) (n := 6) (f := upd (itN (s_rel (v.1 5) (v.1 10) s0 i x2) (itN (s_turn (v.1 5) (v.1 10) (v.1 4) s0 i x2) (itN (s_far0 x1) (v.1 14) 6) t) k) (((v.1 5) (3 * k)).toNatClampNeg) (((itN (s_rel (v.1 5) (v.1 10) s0 i x2) (itN (s_turn (v.1 5) (v.1 10) (v.1 4) s0 i x2) (itN (s_far0 x1) (v.1 14) 6) t) k) (((v.1 5) ((3 * k) + 1)).toNatClampNeg)) + 1)) hx hb hX hP 0 11 rfl rfl rfl (by omega) (by decide) dX7_ways_187 ?_
              refine lv_iload hx hb dX7_ways_188 (lv_at hl 2 rfl) ?_
              refine lv_iadd hx hb dX7_ways_190 ?_
              refine lv_goto (tgt := 201) hx hb dX7_ways_191 (by decide) ?_
              refine kb_iastN (jn := ((v.1 5) ((3 * k) + 1)).toNatClampNeg) (n := 6) (f := upd (itN (s_rel (v.1 5) (v.1 10) s0 i x2) (itN (s_turn (v.1 5) (v.1 10) (v.1 4) s0 i x2) (itN (s_far0 x1) (v.1 14) 6) t) k) (((v.1 5) (3 * k)).toNatClampNeg) (((itN (s_rel (v.1 5) (v.1 10) s0 i x2) (itN (s_turn (v.1 5) (v.1 10) (v.1 4) s0 i x2) (itN (s_far0 x1) (v.1 14) 6) t) k) (((v.1 5) ((3 * k) + 1)).toNatClampNeg)) + 1)) hx hb hX hP hD hS 0 11 rfl rfl rfl (by omega) (by decide) dX7_ways_201 (bX7_A14 a G (setA (setA v 14 (itN (s_rel (v.1 5) (v.1 10) s0 i x2) (itN (s_turn (v.1 5) (v.1 10) (v.1 4) s0 i x2) (itN (s_far0 x1) (v.1 14) 6) t) k)) 14 (upd (itN (s_rel (v.1 5) (v.1 10) s0 i x2) (itN (s_turn (v.1 5) (v.1 10) (v.1 4) s0 i x2) (itN (s_far0 x1) (v.1 14) 6) t) k) (((v.1 5) (3 * k)).toNatClampNeg) (((itN (s_rel (v.1 5) (v.1 10) s0 i x2) (itN (s_turn (v.1 5) (v.1 10) (v.1 4) s0 i x2) (itN (s_far0 x1) (v.1 14) 6) t) k) (((v.1 5) ((3 * k) + 1)).toNatClampNeg)) + 1))) (upd (upd (itN (s_rel (v.1 5) (v.1 10) s0 i x2) (itN (s_turn (v.1 5) (v.1 10) (v.1 4) s0 i x2) (itN (s_far0 x1) (v.1 14) 6) t) k) (((v.1 5) (3 * k)).toNatClampNeg) (((itN (s_rel (v.1 5) (v.1 10) s0 i x2) (itN (s_turn (v.1 5) (v.1 10) (v.1 4) s0 i x2) (itN (s_far0 x1) (v.1 14) 6) t) k) (((v.1 5) ((3 * k) + 1)).toNatClampNeg)) + 1)) (((v.1 5) ((3 * k) + 1)).toNatClampNeg) (((upd (itN (s_rel (v.1 5) (v.1 10) s0 i x2) (itN (s_turn (v.1 5) (v.1 10) (v.1 4) s0 i x2) (itN (s_far0 x1) (v.1 14) 6) t) k) (((v.1 5) (3 * k)).toNatClampNeg) (((itN (s_rel (v.1 5) (v.1 10) s0 i x2) (itN (s_turn (v.1 5) (v.1 10) (v.1 4) s0 i x2) (itN (s_far0 x1) (v.1 14) 6) t) k) (((v.1 5) ((3 * k) + 1)).toNatClampNeg)) + 1)) (((v.1 5) (3 * k)).toNatClampNeg)) + 1))) (fun H locs hP hD hS => ?_)
              have hP : PP G [bX7 a G (setA (setA (setA v 14 (itN (s_rel (v.1 5) (v.1 10) s0 i x2) (itN (s_turn (v.1 5) (v.1 10) (v.1 4) s0 i x2) (itN (s_far0 x1) (v.1 14) 6) t) k)) 14 (upd (itN (s_rel (v.1 5) (v.1 10) s0 i x2) (itN (s_turn (v.1 5) (v.1 10) (v.1 4) s0 i x2) (itN (s_far0 x1) (v.1 14) 6) t) k) (((v.1 5) (3 * k)).toNatClampNeg) (((itN (s_rel (v.1 5) (v.1 10) s0 i x2) (itN (s_turn (v.1 5) (v.1 10) (v.1 4) s0 i x2) (itN (s_far0 x1) (v.1 14) 6) t) k) (((v.1 5) ((3 * k) + 1)).toNatClampNeg)) + 1))) 14 (upd (upd (itN (s_rel (v.1 5) (v.1 10) s0 i x2) (itN (s_turn (v.1 5) (v.1 10) (v.1 4) s0 i x2) (itN (s_far0 x1) (v.1 14) 6) t) k) (((v.1 5) (3 * k)).toNatClampNeg) (((itN (s_rel (v.1 5) (v.1 10) s0 i x2) (itN (s_turn (v.1 5) (v.1 10) (v.1 4) s0 i x2) (itN (s_far0 x1) (v.1 14) 6) t) k) (((v.1 5) ((3 * k) + 1)).toNatClampNeg)) + 1)) (((v.1 5) ((3 * k) + 1)).toNatClampNeg) (((upd (itN (s_rel (v.1 5) (v.1 10) s0 i x2) (itN (s_turn (v.1 5) (v.1 10) (v.1 4) s0 i x2) (itN (s_far0 x1) (v.1 14) 6) t) k) (((v.1 5) (3 * k)).toNatClampNeg) (((itN (s_rel (v.1 5) (v.1 10) s0 i x2) (itN (s_turn (v.1 5) (v.1 10) (v.1 4) s0 i x2) (itN (s_far0 x1) (v.1 14) 6) t) k) (((v.1 5) ((3 * k) + 1)).toNatClampNeg)) + 1)) (((v.1 5) (3 * k)).toNatClampNeg)) + 1)))] H := hP
              have hD : DD (AA (List.flatten [bX7 a G v])) [bX7 a G (setA (setA (setA v 14 (itN (s_rel (v.1 5) (v.1 10) s0 i x2) (itN (s_turn (v.1 5) (v.1 10) (v.1 4) s0 i x2) (itN (s_far0 x1) (v.1 14) 6) t) k)) 14 (upd (itN (s_rel (v.1 5) (v.1 10) s0 i x2) (itN (s_turn (v.1 5) (v.1 10) (v.1 4) s0 i x2) (itN (s_far0 x1) (v.1 14) 6) t) k) (((v.1 5) (3 * k)).toNatClampNeg) (((itN (s_rel (v.1 5) (v.1 10) s0 i x2) (itN (s_turn (v.1 5) (v.1 10) (v.1 4) s0 i x2) (itN (s_far0 x1) (v.1 14) 6) t) k) (((v.1 5) ((3 * k) + 1)).toNatClampNeg)) + 1))) 14 (upd (upd (itN (s_rel (v.1 5) (v.1 10) s0 i x2) (itN (s_turn (v.1 5) (v.1 10) (v.1 4) s0 i x2) (itN (s_far0 x1) (v.1 14) 6) t) k) (((v.1 5) (3 * k)).toNatClampNeg) (((itN (s_rel (v.1 5) (v.1 10) s0 i x2) (itN (s_turn (v.1 5) (v.1 10) (v.1 4) s0 i x2) (itN (s_far0 x1) (v.1 14) 6) t) k) (((v.1 5) ((3 * k) + 1)).toNatClampNeg)) + 1)) (((v.1 5) ((3 * k) + 1)).toNatClampNeg) (((upd (itN (s_rel (v.1 5) (v.1 10) s0 i x2) (itN (s_turn (v.1 5) (v.1 10) (v.1 4) s0 i x2) (itN (s_far0 x1) (v.1 14) 6) t) k) (((v.1 5) (3 * k)).toNatClampNeg) (((itN (s_rel (v.1 5) (v.1 10) s0 i x2) (itN (s_turn (v.1 5) (v.1 10) (v.1 4) s0 i x2) (itN (s_far0 x1) (v.1 14) 6) t) k) (((v.1 5) ((3 * k) + 1)).toNatClampNeg)) + 1)) (((v.1 5) (3 * k)).toNatClampNeg)) + 1)))] := D_re hD (adc (bX7_ad _ _ _ _) adn)
              refine lv_iinc (v := nI (k + 1)) (lv' := [(6, .int (nI (k + 1))), (9, .int (nI ((v.1 5) ((3 * k) + 1)).toNatClampNeg)), (8, .int (nI ((v.1 5) (3 * k)).toNatClampNeg)), (7, .int 1), (5, .int (nI t)), (0, .ref (a 0)), (1, .int (nI s0)), (2, .int (nI i)), (3, .int x1), (4, .int x2)]) hx hb dX7_ways_202 hl (k := 3) rfl (nI_1 _) (by decide) rfl (fun ls hl => ?_)
              refine lv_goto (tgt := 48) hx hb dX7_ways_205 (by decide) ?_
              have hP : PP G [bX7 a G (setA v 14 (itN (s_rel (v.1 5) (v.1 10) s0 i x2) (itN (s_turn (v.1 5) (v.1 10) (v.1 4) s0 i x2) (itN (s_far0 x1) (v.1 14) 6) t) (k + 1)))] H := by
                rw [itN_s]
                simp only [s_rel, relA, relB, if_pos c_7, if_neg c_42, if_neg c_56, if_pos c_67, if_neg c_131, if_neg c_178]
                try simp only [ov_n1, ov_m1, ov_nc, ov_mc, ov_c] at hP ⊢
                exact hP
              have hD : DD (AA (List.flatten [bX7 a G v])) [bX7 a G (setA v 14 (itN (s_rel (v.1 5) (v.1 10) s0 i x2) (itN (s_turn (v.1 5) (v.1 10) (v.1 4) s0 i x2) (itN (s_far0 x1) (v.1 14) 6) t) (k + 1)))] := D_re hD (adc (bX7_ad _ _ _ _) adn)
              exact ih_48  _ _ _ hP hD hS (show lv_has ls 10 [(6, .int (nI (k + 1))), (5, .int (nI t)), (0, .ref (a 0)), (1, .int (nI s0)), (2, .int (nI i)), (3, .int x1), (4, .int x2)] from lv_sub hl [0, 4, 5, 6, 7, 8, 9] rfl) 
  · skip
    intro k hk_k ih_3 H locs ls hP hD hS hl 
    refine lv_iload hx hb dX7_ways_3 (lv_at hl 0 rfl) ?_
    refine lv_bipush (v := 6) hx hb dX7_ways_5 (by decide) ?_
    refine lv_icmp_ge (tgt := 35) hx hb dX7_ways_7 (by decide) (fun c_7 => absurd c_7 (nI_ge (b := 6) hk_k (by decide))) (fun c_7 => ?_)
    refine lv_aload_n hx hb dX7_ways_10 rfl (lv_at hl 1 rfl) ?_
    refine kb_get (own := RX7) (C := RX7) (T := TX7) (N := 19) (v := .ref (a 11)) hx hb hts hin7 hown hX hP 0 rfl rfl rfl 14 (by decide) rfl (by decide +kernel) rfl dX7_ways_11 ?_
    refine lv_iload hx hb dX7_ways_14 (lv_at hl 0 rfl) ?_
    refine lv_iload hx hb dX7_ways_16 (lv_at hl 0 rfl) ?_
    refine lv_iload_n hx hb dX7_ways_18 rfl (lv_at hl 4 rfl) ?_
    refine lv_icmp_ne (tgt := 26) hx hb dX7_ways_19 (by decide) (fun c_19 => ?_) (fun c_19 => ?_)
    · refine lv_ldc (v := 100000) hx hb hown (hts _ (by decide +kernel)) dX7_ways_26 ?_
      refine kb_iastN (jn := k) (n := 6) (f := itN (s_far0 x1) (v.1 14) k) hx hb hX hP hD hS 0 11 rfl rfl rfl (by omega) (by decide) dX7_ways_28 (bX7_A14 a G (setA v 14 (itN (s_far0 x1) (v.1 14) k)) (upd (itN (s_far0 x1) (v.1 14) k) k 100000)) (fun H locs hP hD hS => ?_)
      have hP : PP G [bX7 a G (setA (setA v 14 (itN (s_far0 x1) (v.1 14) k)) 14 (upd (itN (s_far0 x1) (v.1 14) k) k 100000))] H := hP
      have hD : DD (AA (List.flatten [bX7 a G v])) [bX7 a G (setA (setA v 14 (itN (s_far0 x1) (v.1 14) k)) 14 (upd (itN (s_far0 x1) (v.1 14) k) k 100000))] := D_re hD (adc (bX7_ad _ _ _ _) adn)
      refine lv_iinc (v := nI (k + 1)) (lv' := [(5, .int (nI (k + 1))), (0, .ref (a 0)), (1, .int (nI s0)), (2, .int (nI i)), (3, .int x1), (4, .int x2)]) hx hb dX7_ways_29 hl (k := 0) rfl (nI_1 _) (by decide) rfl (fun ls hl => ?_)
      refine lv_goto (tgt := 3) hx hb dX7_ways_32 (by decide) ?_
      have hP : PP G [bX7 a G (setA v 14 (itN (s_far0 x1) (v.1 14) (k + 1)))] H := by
        rw [itN_s]
        simp only [s_far0, if_neg c_7, if_neg c_19]
        try simp only [ov_n1, ov_m1, ov_nc, ov_mc, ov_c] at hP ⊢
        exact hP
      have hD : DD (AA (List.flatten [bX7 a G v])) [bX7 a G (setA v 14 (itN (s_far0 x1) (v.1 14) (k + 1)))] := D_re hD (adc (bX7_ad _ _ _ _) adn)
      exact ih_3  _ _ _ hP hD hS (show lv_has ls 10 [(5, .int (nI (k + 1))), (0, .ref (a 0)), (1, .int (nI s0)), (2, .int (nI i)), (3, .int x1), (4, .int x2)] from lv_sub hl [0, 1, 2, 3, 4, 5] rfl) 
    · refine lv_iconst (v := 0) hx hb dX7_ways_22 (by decide) ?_
      refine lv_goto (tgt := 28) hx hb dX7_ways_23 (by decide) ?_
      refine kb_iastN (jn := k) (n := 6) (f := itN (s_far0 x1) (v.1 14) k) hx hb hX hP hD hS 0 11 rfl rfl rfl (by omega) (by decide) dX7_ways_28 (bX7_A14 a G (setA v 14 (itN (s_far0 x1) (v.1 14) k)) (upd (itN (s_far0 x1) (v.1 14) k) k 0)) (fun H locs hP hD hS => ?_)
      have hP : PP G [bX7 a G (setA (setA v 14 (itN (s_far0 x1) (v.1 14) k)) 14 (upd (itN (s_far0 x1) (v.1 14) k) k 0))] H := hP
      have hD : DD (AA (List.flatten [bX7 a G v])) [bX7 a G (setA (setA v 14 (itN (s_far0 x1) (v.1 14) k)) 14 (upd (itN (s_far0 x1) (v.1 14) k) k 0))] := D_re hD (adc (bX7_ad _ _ _ _) adn)
      refine lv_iinc (v := nI (k + 1)) (lv' := [(5, .int (nI (k + 1))), (0, .ref (a 0)), (1, .int (nI s0)), (2, .int (nI i)), (3, .int x1), (4, .int x2)]) hx hb dX7_ways_29 hl (k := 0) rfl (nI_1 _) (by decide) rfl (fun ls hl => ?_)
      refine lv_goto (tgt := 3) hx hb dX7_ways_32 (by decide) ?_
      have hP : PP G [bX7 a G (setA v 14 (itN (s_far0 x1) (v.1 14) (k + 1)))] H := by
        rw [itN_s]
        simp only [s_far0, if_neg c_7, if_pos c_19]
        try simp only [ov_n1, ov_m1, ov_nc, ov_mc, ov_c] at hP ⊢
        exact hP
      have hD : DD (AA (List.flatten [bX7 a G v])) [bX7 a G (setA v 14 (itN (s_far0 x1) (v.1 14) (k + 1)))] := D_re hD (adc (bX7_ad _ _ _ _) adn)
      exact ih_3  _ _ _ hP hD hS (show lv_has ls 10 [(5, .int (nI (k + 1))), (0, .ref (a 0)), (1, .int (nI s0)), (2, .int (nI i)), (3, .int x1), (4, .int x2)] from lv_sub hl [0, 1, 2, 3, 4, 5] rfl) 

def rm_X7_wayOf : Room := { frames := 2, cells := 0, slots := 0, locals := 52 }
theorem hd_X7_wayOf : yX7_wayOf.cls = RX7 ∧ yX7_wayOf.cls ≠ "java/lang/invoke/MethodHandle" ∧ yX7_wayOf.cls ≠ "java/lang/invoke/VarHandle" ∧ (parseMethodDescriptor yX7_wayOf.desc).map (fun d => d.parameters.length) = some 4 := by decide +kernel
set_option maxRecDepth 100000 in
set_option maxHeartbeats 4000000 in
theorem c_X7_wayOf (l : Launch) (G : GD) (a : Nat → Nat) (v : OV) (s0 : Nat) (i : Nat) (x : Nat) (x1 : Int32) (hs : s0 < 12) (hi : i < 4) (hx0 : x < 6) (hD8 : (v.1 4 0).toNatClampNeg ≤ 8) (hR : ∀ d, d < (v.1 4 0).toNatClampNeg → vp_in (v.1 5 (3 * d)) 6 ∧ vp_in (v.1 5 (3 * d + 1)) 6) : MetS l yX7_wayOf wsX7_wayOf rm_X7_wayOf G [bX7 a G v] [.ref (a 0), .int (nI s0), .int (nI i), .int (nI x), .int x1] (fun r bc => r = some (.int (g_wayOf ((v.1 5)) ((v.1 10)) ((v.1 4)) ((v.1 14)) s0 i x x1)) ∧ bc = [bX7 a G (setA v 14 (g_ways ((v.1 5)) ((v.1 10)) ((v.1 4)) ((v.1 14)) s0 i x1 0))]) := by
  refine kb_beginS (cc := cX7_wayOf) (maxL := 5) (ret := (some .int)) (by decide) rfl (Nat.le_of_ble_eq_true rfl) ?_
  intro p e s m below meth c hx hb hr hml hown hts hlocks hX H locs hP hD hS ls hl
  have hown : s.vm.findClass RX7 = some m.cls := hown
  have hl : lv_has ls 5 [(0, .ref (a 0)), (1, .int (nI s0)), (2, .int (nI i)), (3, .int (nI x)), (4, .int x1)] := hl
  have hin7 : ∀ w ∈ u_ws RX7 TX7 19, w ∈ wsX7_wayOf := (fun _ h => List.mem_cons_of_mem _ (List.mem_append_right _ (h)))
  refine lv_aload_n hx hb dX7_wayOf_0 rfl (lv_at hl 0 rfl) ?_
  refine lv_iload_n hx hb dX7_wayOf_1 rfl (lv_at hl 1 rfl) ?_
  refine lv_iload_n hx hb dX7_wayOf_2 rfl (lv_at hl 2 rfl) ?_
  refine lv_iload hx hb dX7_wayOf_3 (lv_at hl 4 rfl) ?_
  refine lv_iconst (v := 0) hx hb dX7_wayOf_5 (by decide) ?_
  refine kcV_s hx hb hml hown hts hX hP hD hS (c_X7_ways l G a v s0 i x1 0 (by omega) (by omega) hD8 hR) gX7_wayOf_X7_ways 4 rfl rfl rfl hd_X7_ways ⟨Nat.le_of_ble_eq_true rfl, Nat.le_of_ble_eq_true rfl⟩ [0] (by decide) rfl 0 rfl rfl rfl hl.1 rfl rfl (Nat.le_of_ble_eq_true rfl) dX7_wayOf_6 ⟨Nat.zero_le _, Nat.zero_le _⟩ (fun r_ bc_ hq_1 H locs hP hD hS => ?_)
  obtain ⟨rfl, rfl⟩ := hq_1
  have hP : PP G [bX7 a G (setA v 14 (g_ways ((v.1 5)) ((v.1 10)) ((v.1 4)) ((v.1 14)) s0 i x1 0))] H := hP
  have hD : DD (AA (List.flatten [bX7 a G v])) [bX7 a G (setA v 14 (g_ways ((v.1 5)) ((v.1 10)) ((v.1 4)) ((v.1 14)) s0 i x1 0))] := D_re hD (adc (bX7_ad _ _ _ _) adn)
  refine lv_aload_n hx hb dX7_wayOf_9 rfl (lv_at hl 0 rfl) ?_
  refine kb_get (own := RX7) (C := RX7) (T := TX7) (N := 19) (v := .ref (a 11)) hx hb hts hin7 hown hX hP 0 rfl rfl rfl 14 (by decide) rfl (by decide +kernel) rfl dX7_wayOf_10 ?_
  refine lv_iload_n hx hb dX7_wayOf_13 rfl (lv_at hl 3 rfl) ?_
  refine kb_ialdN (jn := x) (n := 6) (f := g_ways ((v.1 5)) ((v.1 10)) ((v.1 4)) ((v.1 14)) s0 i x1 0) hx hb hX hP 0 11 rfl rfl rfl (by omega) (by decide) dX7_wayOf_14 ?_
  refine lv_ldc (v := 100000) hx hb hown (hts _ (by decide +kernel)) dX7_wayOf_15 ?_
  refine lv_icmp_ge (tgt := 29) hx hb dX7_wayOf_17 (by decide) (fun c_17 => ?_) (fun c_17 => ?_)
  · refine lv_bipush (v := (-4)) hx hb dX7_wayOf_29 (by decide) ?_
    have hP : PP G [bX7 a G (setA v 14 (g_ways ((v.1 5)) ((v.1 10)) ((v.1 4)) ((v.1 14)) s0 i x1 0))] H := by
      exact hP
    exact kr_si hx hb hr hlocks dX7_wayOf_31 hP hS (sameAd_cons (bX7_ad _ _ _ _) sameAd_nil) ⟨by simp only [g_wayOf, if_pos c_17] <;> rfl, rfl⟩
  · refine lv_aload_n hx hb dX7_wayOf_20 rfl (lv_at hl 0 rfl) ?_
    refine kb_get (own := RX7) (C := RX7) (T := TX7) (N := 19) (v := .ref (a 11)) hx hb hts hin7 hown hX hP 0 rfl rfl rfl 14 (by decide) rfl (by decide +kernel) rfl dX7_wayOf_21 ?_
    refine lv_iload_n hx hb dX7_wayOf_24 rfl (lv_at hl 3 rfl) ?_
    refine kb_ialdN (jn := x) (n := 6) (f := g_ways ((v.1 5)) ((v.1 10)) ((v.1 4)) ((v.1 14)) s0 i x1 0) hx hb hX hP 0 11 rfl rfl rfl (by omega) (by decide) dX7_wayOf_25 ?_
    refine lv_goto (tgt := 31) hx hb dX7_wayOf_26 (by decide) ?_
    have hP : PP G [bX7 a G (setA v 14 (g_ways ((v.1 5)) ((v.1 10)) ((v.1 4)) ((v.1 14)) s0 i x1 0))] H := by
      exact hP
    exact kr_si hx hb hr hlocks dX7_wayOf_31 hP hS (sameAd_cons (bX7_ad _ _ _ _) sameAd_nil) ⟨by simp only [g_wayOf, if_neg c_17] <;> rfl, rfl⟩

def rm_X7_firstOf : Room := { frames := 3, cells := 0, slots := 0, locals := 76 }
theorem hd_X7_firstOf : yX7_firstOf.cls = RX7 ∧ yX7_firstOf.cls ≠ "java/lang/invoke/MethodHandle" ∧ yX7_firstOf.cls ≠ "java/lang/invoke/VarHandle" ∧ (parseMethodDescriptor yX7_firstOf.desc).map (fun d => d.parameters.length) = some 4 := by decide +kernel
set_option maxRecDepth 100000 in
set_option maxHeartbeats 4000000 in
theorem c_X7_firstOf (l : Launch) (G : GD) (a : Nat → Nat) (v : OV) (s0 : Nat) (i : Nat) (x : Nat) (x1 : Int32) (hs : s0 < 12) (hi : i < 4) (hx0 : x < 6) (hD8 : (v.1 4 0).toNatClampNeg ≤ 8) (hR : ∀ d, d < (v.1 4 0).toNatClampNeg → vp_in (v.1 5 (3 * d)) 6 ∧ vp_in (v.1 5 (3 * d + 1)) 6) : MetS l yX7_firstOf wsX7_firstOf rm_X7_firstOf G [bX7 a G v] [.ref (a 0), .int (nI s0), .int (nI i), .int (nI x), .int x1] (fun r bc => r = some (.int (g_firstOf ((v.1 5)) ((v.1 10)) ((v.1 4)) ((v.1 14)) s0 i x x1)) ∧ bc = [bX7 a G (setA v 14 (g_ways ((v.1 5)) ((v.1 10)) ((v.1 4)) ((v.1 14)) s0 i x1 0))]) := by
  refine kb_beginS (cc := cX7_firstOf) (maxL := 7) (ret := (some .int)) (by decide) rfl (Nat.le_of_ble_eq_true rfl) ?_
  intro p e s m below meth c hx hb hr hml hown hts hlocks hX H locs hP hD hS ls hl
  have hown : s.vm.findClass RX7 = some m.cls := hown
  have hl : lv_has ls 7 [(0, .ref (a 0)), (1, .int (nI s0)), (2, .int (nI i)), (3, .int (nI x)), (4, .int x1)] := hl
  have hin7 : ∀ w ∈ u_ws RX7 TX7 19, w ∈ wsX7_firstOf := (fun _ h => List.mem_cons_of_mem _ (List.mem_append_right _ (h)))
  refine lv_aload_n hx hb dX7_firstOf_0 rfl (lv_at hl 0 rfl) ?_
  refine lv_iload_n hx hb dX7_firstOf_1 rfl (lv_at hl 1 rfl) ?_
  refine lv_iload_n hx hb dX7_firstOf_2 rfl (lv_at hl 2 rfl) ?_
  refine lv_iload_n hx hb dX7_firstOf_3 rfl (lv_at hl 3 rfl) ?_
  refine lv_iload hx hb dX7_firstOf_4 (lv_at hl 4 rfl) ?_
  refine kcV_s hx hb hml hown hts hX hP hD hS (c_X7_wayOf l G a v s0 i x x1 (by omega) (by omega) (by omega) hD8 hR) gX7_firstOf_X7_wayOf 4 rfl rfl rfl hd_X7_wayOf ⟨Nat.le_of_ble_eq_true rfl, Nat.le_of_ble_eq_true rfl⟩ [0] (by decide) rfl 0 rfl rfl rfl hl.1 rfl rfl (Nat.le_of_ble_eq_true rfl) dX7_firstOf_6 ⟨Nat.zero_le _, Nat.zero_le _⟩ (fun r_ bc_ hq_1 H locs hP hD hS => ?_)
  obtain ⟨rfl, rfl⟩ := hq_1
  have hP : PP G [bX7 a G (setA v 14 (g_ways ((v.1 5)) ((v.1 10)) ((v.1 4)) ((v.1 14)) s0 i x1 0))] H := hP
  have hD : DD (AA (List.flatten [bX7 a G v])) [bX7 a G (setA v 14 (g_ways ((v.1 5)) ((v.1 10)) ((v.1 4)) ((v.1 14)) s0 i x1 0))] := D_re hD (adc (bX7_ad _ _ _ _) adn)
  refine kb_rw (y := g_wayOf ((v.1 5)) ((v.1 10)) ((v.1 4)) ((v.1 14)) s0 i x x1) rfl ?_
  refine lv_istore (lv' := [(5, .int (g_wayOf ((v.1 5)) ((v.1 10)) ((v.1 4)) ((v.1 14)) s0 i x x1)), (0, .ref (a 0)), (1, .int (nI s0)), (2, .int (nI i)), (3, .int (nI x)), (4, .int x1)]) hx hb dX7_firstOf_9 hl (by decide) rfl (fun ls hl => ?_)
  refine lv_iconst (v := 0) hx hb dX7_firstOf_11 (by decide) ?_
  refine lv_istore (lv' := [(6, .int 0), (5, .int (g_wayOf ((v.1 5)) ((v.1 10)) ((v.1 4)) ((v.1 14)) s0 i x x1)), (0, .ref (a 0)), (1, .int (nI s0)), (2, .int (nI i)), (3, .int (nI x)), (4, .int x1)]) hx hb dX7_firstOf_12 hl (by decide) rfl (fun ls hl => ?_)
  have eOV0 : (setA v 14 (g_ways (v.1 5) (v.1 10) (v.1 4) (v.1 14) s0 i x1 0)) = (setA v 14 (g_ways ((v.1 5)) ((v.1 10)) ((v.1 4)) ((v.1 14)) s0 i x1 0)) := by
    refine Prod.ext (funext fun u => ?_) (funext fun u => ?_)
    · by_cases h14 : u = 14
      · subst h14; rfl
      · skip
        simp only [setA, setI, if_neg h14]
    · rfl
  have hP : PP G [bX7 a G (setA v 14 (g_ways (v.1 5) (v.1 10) (v.1 4) (v.1 14) s0 i x1 0))] H := by rw [eOV0]; exact hP
  have hD : DD (AA (List.flatten [bX7 a G v])) [bX7 a G (setA v 14 (g_ways (v.1 5) (v.1 10) (v.1 4) (v.1 14) s0 i x1 0))] := D_re hD (adc (bX7_ad _ _ _ _) adn)
  refine lp_up (N := (v.1 4 0).toNatClampNeg) (P := fun k => ∀ (H : Heap) (locs : List Loc) (ls : Array Slot), PP G [bX7 a G (setA v 14 (g_ways (v.1 5) (v.1 10) (v.1 4) (v.1 14) s0 i x1 0))] H → DD (AA (List.flatten [bX7 a G v])) [bX7 a G (setA v 14 (g_ways (v.1 5) (v.1 10) (v.1 4) (v.1 14) s0 i x1 0))] → va_S (AA (List.flatten [bX7 a G v])) s.heap H locs → lv_has ls 7 [(6, .int (nI k)), (5, .int (g_wayOf ((v.1 5)) ((v.1 10)) ((v.1 4)) ((v.1 14)) s0 i x x1)), (0, .ref (a 0)), (1, .int (nI s0)), (2, .int (nI i)), (3, .int (nI x)), (4, .int x1)] → (∀ j, j < k → p_first (v.1 5) (v.1 10) (v.1 4) (v.1 14) s0 i x x1 j = false) → W p l e (headSpec wsX7_firstOf rm_X7_firstOf).room s m ([.ref (a 0), .int (nI s0), .int (nI i), .int (nI x), .int x1] : List Value).toArray below meth c H locs 0 0 (MQ below (kQs G [bX7 a G v] (fun r bc => r = some (.int (g_firstOf ((v.1 5)) ((v.1 10)) ((v.1 4)) ((v.1 14)) s0 i x x1)) ∧ bc = [bX7 a G (setA v 14 (g_ways ((v.1 5)) ((v.1 10)) ((v.1 4)) ((v.1 14)) s0 i x1 0))])) ([.ref (a 0), .int (nI s0), .int (nI i), .int (nI x), .int x1] : List Value).toArray s 0 0 (AA (List.flatten [bX7 a G v]))) (F0 m 14 ls [])) ?_ ?_ 0 (Nat.zero_le _)  _ _ _ hP hD hS (lv_sub hl [0, 1, 2, 3, 4, 5, 6] rfl) (fun j hj => absurd hj (Nat.not_lt_zero _))
  · skip
    intro H locs ls hP hD hS hl hf
    refine lv_iload hx hb dX7_firstOf_14 (lv_at hl 0 rfl) ?_
    refine lv_aload_n hx hb dX7_firstOf_16 rfl (lv_at hl 2 rfl) ?_
    refine kb_get (own := RX7) (C := RX7) (T := TX7) (N := 19) (v := .ref (a 3)) hx hb hts hin7 hown hX hP 0 rfl rfl rfl 4 (by decide) rfl (by decide +kernel) rfl dX7_firstOf_17 ?_
    refine lv_iconst (v := 0) hx hb dX7_firstOf_20 (by decide) ?_
    refine kb_ialdN (jn := 0) (n := 2) (f := v.1 4) hx hb hX hP 0 3 rfl rfl rfl (by omega) (by decide) dX7_firstOf_21 ?_
    refine lv_icmp_ge (tgt := 75) hx hb dX7_firstOf_22 (by decide) (fun c_22 => ?_) (fun c_22 => absurd (lpx_c _) c_22)
    refine lv_bipush (v := (-4)) hx hb dX7_firstOf_75 (by decide) ?_
    have hP : PP G [bX7 a G (setA v 14 (g_ways ((v.1 5)) ((v.1 10)) ((v.1 4)) ((v.1 14)) s0 i x1 0))] H := by
      exact hP
    exact kr_si hx hb hr hlocks dX7_firstOf_77 hP hS (sameAd_cons (bX7_ad _ _ _ _) sameAd_nil) ⟨by rw [g_firstOf, fnd_none hf]; split <;> rfl, rfl⟩
  · skip
    intro k hk_k ih_14 H locs ls hP hD hS hl hf
    refine lv_iload hx hb dX7_firstOf_14 (lv_at hl 0 rfl) ?_
    refine lv_aload_n hx hb dX7_firstOf_16 rfl (lv_at hl 2 rfl) ?_
    refine kb_get (own := RX7) (C := RX7) (T := TX7) (N := 19) (v := .ref (a 3)) hx hb hts hin7 hown hX hP 0 rfl rfl rfl 4 (by decide) rfl (by decide +kernel) rfl dX7_firstOf_17 ?_
    refine lv_iconst (v := 0) hx hb dX7_firstOf_20 (by decide) ?_
    refine kb_ialdN (jn := 0) (n := 2) (f := v.1 4) hx hb hX hP 0 3 rfl rfl rfl (by omega) (by decide) dX7_firstOf_21 ?_
    refine lv_icmp_ge (tgt := 75) hx hb dX7_firstOf_22 (by decide) (fun c_22 => absurd c_22 (lps_c hk_k)) (fun c_22 => ?_)
    refine lv_iload hx hb dX7_firstOf_25 (lv_at hl 1 rfl) ?_
    refine lv_if_le (tgt := 75) hx hb dX7_firstOf_27 (by decide) (fun c_27 => ?_) (fun c_27 => ?_)
    · refine lv_bipush (v := (-4)) hx hb dX7_firstOf_75 (by decide) ?_
      have hP : PP G [bX7 a G (setA v 14 (g_ways ((v.1 5)) ((v.1 10)) ((v.1 4)) ((v.1 14)) s0 i x1 0))] H := by
        exact hP
      exact kr_si hx hb hr hlocks dX7_firstOf_77 hP hS (sameAd_cons (bX7_ad _ _ _ _) sameAd_nil) ⟨by rw [g_firstOf, if_pos c_27], rfl⟩
    · refine lv_aload_n hx hb dX7_firstOf_30 rfl (lv_at hl 2 rfl) ?_
      refine lv_iload hx hb dX7_firstOf_31 (lv_at hl 0 rfl) ?_
      refine lv_iload_n hx hb dX7_firstOf_33 rfl (lv_at hl 5 rfl) ?_
      refine kcV_p hx hb hml hown hts hX hP (c_X7_isOf l G a (setA v 14 (g_ways (v.1 5) (v.1 10) (v.1 4) (v.1 14) s0 i x1 0)) k (nI x) (by omega)) gX7_firstOf_X7_isOf 2 rfl rfl rfl hd_X7_isOf ⟨Nat.le_of_ble_eq_true rfl, Nat.le_of_ble_eq_true rfl⟩ [0] rfl 0 rfl rfl rfl hl.1 rfl rfl (Nat.le_of_ble_eq_true rfl) dX7_firstOf_34 ⟨Nat.zero_le _, Nat.zero_le _⟩ ?_
      refine kb_rw (y := b2i (g_isOf ((v.1 5)) k (nI x))) rfl ?_
      refine lv_if_eq (tgt := 69) hx hb dX7_firstOf_37 (by decide) (fun c_37r => ?_) (fun c_37r => ?_)
      · have c_37 := b2i_fN c_37r
        refine lv_iinc (v := nI (k + 1)) (lv' := [(6, .int (nI (k + 1))), (5, .int (g_wayOf ((v.1 5)) ((v.1 10)) ((v.1 4)) ((v.1 14)) s0 i x x1)), (0, .ref (a 0)), (1, .int (nI s0)), (2, .int (nI i)), (3, .int (nI x)), (4, .int x1)]) hx hb dX7_firstOf_69 hl (k := 0) rfl (nI_1 _) (by decide) rfl (fun ls hl => ?_)
        refine lv_goto (tgt := 14) hx hb dX7_firstOf_72 (by decide) ?_
        have hP : PP G [bX7 a G (setA v 14 (g_ways (v.1 5) (v.1 10) (v.1 4) (v.1 14) s0 i x1 0))] H := hP
        have hD : DD (AA (List.flatten [bX7 a G v])) [bX7 a G (setA v 14 (g_ways (v.1 5) (v.1 10) (v.1 4) (v.1 14) s0 i x1 0))] := D_re hD (adc (bX7_ad _ _ _ _) adn)
        exact ih_14  _ _ _ hP hD hS (show lv_has ls 7 [(6, .int (nI (k + 1))), (5, .int (g_wayOf ((v.1 5)) ((v.1 10)) ((v.1 4)) ((v.1 14)) s0 i x x1)), (0, .ref (a 0)), (1, .int (nI s0)), (2, .int (nI i)), (3, .int (nI x)), (4, .int x1)] from lv_sub hl [0, 1, 2, 3, 4, 5, 6] rfl) (lt_s hf (by simp only [p_first, if_neg c_22, if_neg c_27, if_neg c_37]))
      · have c_37 := b2i_tP c_37r
        refine lv_aload_n hx hb dX7_firstOf_40 rfl (lv_at hl 2 rfl) ?_
        refine lv_iload_n hx hb dX7_firstOf_41 rfl (lv_at hl 3 rfl) ?_
        refine lv_iload hx hb dX7_firstOf_42 (lv_at hl 0 rfl) ?_
        refine lv_iload_n hx hb dX7_firstOf_44 rfl (lv_at hl 4 rfl) ?_
        have hbO := (cl_of_vp (over_vp (r := nI x) (hR k hk_k))).2
        refine kcV_p hx hb hml hown hts hX hP (c_X7_costs l G a (setA v 14 (g_ways (v.1 5) (v.1 10) (v.1 4) (v.1 14) s0 i x1 0)) s0 k i (by omega) (by omega) (by omega)) gX7_firstOf_X7_costs 3 rfl rfl rfl hd_X7_costs ⟨Nat.le_of_ble_eq_true rfl, Nat.le_of_ble_eq_true rfl⟩ [0] rfl 0 rfl rfl rfl hl.1 rfl rfl (Nat.le_of_ble_eq_true rfl) dX7_firstOf_45 ⟨Nat.zero_le _, Nat.zero_le _⟩ ?_
        refine kb_rw (y := g_costs ((v.1 10)) s0 k i) rfl ?_
        refine lv_aload_n hx hb dX7_firstOf_48 rfl (lv_at hl 2 rfl) ?_
        refine kb_get (own := RX7) (C := RX7) (T := TX7) (N := 19) (v := .ref (a 11)) hx hb hts hin7 hown hX hP 0 rfl rfl rfl 14 (by decide) rfl (by decide +kernel) rfl dX7_firstOf_49 ?_
        refine lv_aload_n hx hb dX7_firstOf_52 rfl (lv_at hl 2 rfl) ?_
        refine lv_iload hx hb dX7_firstOf_53 (lv_at hl 0 rfl) ?_
        refine lv_iload_n hx hb dX7_firstOf_55 rfl (lv_at hl 5 rfl) ?_
        refine kcV_p hx hb hml hown hts hX hP (c_X7_over l G a (setA v 14 (g_ways (v.1 5) (v.1 10) (v.1 4) (v.1 14) s0 i x1 0)) k (nI x) (by omega)) gX7_firstOf_X7_over 2 rfl rfl rfl hd_X7_over ⟨Nat.le_of_ble_eq_true rfl, Nat.le_of_ble_eq_true rfl⟩ [0] rfl 0 rfl rfl rfl hl.1 rfl rfl (Nat.le_of_ble_eq_true rfl) dX7_firstOf_56 ⟨Nat.zero_le _, Nat.zero_le _⟩ ?_
        refine kb_rw (y := g_over ((v.1 5)) k (nI x)) rfl ?_
        refine kb_nat ((cl_of_vp (over_vp (hR k hk_k))).1) ?_
        refine kb_ialdN (jn := (g_over ((v.1 5)) k (nI x)).toNatClampNeg) (n := 6) (f := g_ways (v.1 5) (v.1 10) (v.1 4) (v.1 14) s0 i x1 0) hx hb hX hP 0 11 rfl rfl rfl (by omega) (by decide) dX7_firstOf_59 ?_
        refine lv_iadd hx hb dX7_firstOf_60 ?_
        refine lv_iload hx hb dX7_firstOf_61 (lv_at hl 1 rfl) ?_
        refine lv_icmp_ne (tgt := 69) hx hb dX7_firstOf_63 (by decide) (fun c_63 => ?_) (fun c_63 => ?_)
        · refine lv_iinc (v := nI (k + 1)) (lv' := [(6, .int (nI (k + 1))), (5, .int (g_wayOf ((v.1 5)) ((v.1 10)) ((v.1 4)) ((v.1 14)) s0 i x x1)), (0, .ref (a 0)), (1, .int (nI s0)), (2, .int (nI i)), (3, .int (nI x)), (4, .int x1)]) hx hb dX7_firstOf_69 hl (k := 0) rfl (nI_1 _) (by decide) rfl (fun ls hl => ?_)
          refine lv_goto (tgt := 14) hx hb dX7_firstOf_72 (by decide) ?_
          have hP : PP G [bX7 a G (setA v 14 (g_ways (v.1 5) (v.1 10) (v.1 4) (v.1 14) s0 i x1 0))] H := hP
          have hD : DD (AA (List.flatten [bX7 a G v])) [bX7 a G (setA v 14 (g_ways (v.1 5) (v.1 10) (v.1 4) (v.1 14) s0 i x1 0))] := D_re hD (adc (bX7_ad _ _ _ _) adn)
          exact ih_14  _ _ _ hP hD hS (show lv_has ls 7 [(6, .int (nI (k + 1))), (5, .int (g_wayOf ((v.1 5)) ((v.1 10)) ((v.1 4)) ((v.1 14)) s0 i x x1)), (0, .ref (a 0)), (1, .int (nI s0)), (2, .int (nI i)), (3, .int (nI x)), (4, .int x1)] from lv_sub hl [0, 1, 2, 3, 4, 5, 6] rfl) (lt_s hf (by simp only [p_first, if_neg c_22, if_neg c_27, if_pos c_37, if_neg c_63]))
        · refine lv_iload hx hb dX7_firstOf_66 (lv_at hl 0 rfl) ?_
          have hP : PP G [bX7 a G (setA v 14 (g_ways ((v.1 5)) ((v.1 10)) ((v.1 4)) ((v.1 14)) s0 i x1 0))] H := by
            exact hP
          exact kr_si hx hb hr hlocks dX7_firstOf_68 hP hS (sameAd_cons (bX7_ad _ _ _ _) sameAd_nil) ⟨by rw [g_firstOf, if_neg c_27, fnd_some hk_k hf (by simp only [p_first, if_neg c_27, if_pos c_37, if_pos c_63])]; rfl, rfl⟩

def rm_X7_behinds : Room := { frames := 1, cells := 0, slots := 0, locals := 27 }
theorem hd_X7_behinds : yX7_behinds.cls = RX7 ∧ yX7_behinds.cls ≠ "java/lang/invoke/MethodHandle" ∧ yX7_behinds.cls ≠ "java/lang/invoke/VarHandle" ∧ (parseMethodDescriptor yX7_behinds.desc).map (fun d => d.parameters.length) = some 2 := by decide +kernel
set_option maxRecDepth 100000 in
set_option maxHeartbeats 4000000 in
theorem c_X7_behinds (l : Launch) (G : GD) (a : Nat → Nat) (v : OV) (x1 : Int32) (x2 : Int32) (hD8 : (v.1 4 0).toNatClampNeg ≤ 8) (hL4 : (v.1 7 0).toNatClampNeg ≤ 4) (hRx : ∀ d, d < (v.1 4 0).toNatClampNeg → vp_in (v.1 5 (3 * d + 2)) 8) : MetS l yX7_behinds wsX7_behinds rm_X7_behinds G [bX7 a G v] [.ref (a 0), .int x1, .int x2] (fun r bc => r = none ∧ bc = [bX7 a G (setA (setA v 13 ((g_behinds ((v.1 3)) ((v.1 5)) ((v.1 7)) ((v.1 4)) ((v.1 6)) ((v.1 10)) ((v.1 13)) x1 x2).2)) 10 ((g_behinds ((v.1 3)) ((v.1 5)) ((v.1 7)) ((v.1 4)) ((v.1 6)) ((v.1 10)) ((v.1 13)) x1 x2).1))]) := by
  refine kb_beginS (cc := cX7_behinds) (maxL := 4) (ret := none) (by decide) rfl (Nat.le_of_ble_eq_true rfl) ?_
  intro p e s m below meth c hx hb hr hml hown hts hlocks hX H locs hP hD hS ls hl
  have hown : s.vm.findClass RX7 = some m.cls := hown
  have hl : lv_has ls 4 [(0, .ref (a 0)), (1, .int x1), (2, .int x2)] := hl
  have hin7 : ∀ w ∈ u_ws RX7 TX7 19, w ∈ wsX7_behinds := (fun _ h => List.mem_cons_of_mem _ (List.mem_append_right _ (h)))
  refine lv_aload_n hx hb dX7_behinds_0 rfl (lv_at hl 0 rfl) ?_
  refine lv_iconst (v := 0) hx hb dX7_behinds_1 (by decide) ?_
  refine lv_bipush (v := 11) hx hb dX7_behinds_2 (by decide) ?_
  refine kcV_s hx hb hml hown hts hX hP hD hS (c_X7_copies l G a v 0 11 (by omega) (by omega)) gX7_behinds_X7_copies 2 rfl rfl rfl hd_X7_copies ⟨Nat.le_of_ble_eq_true rfl, Nat.le_of_ble_eq_true rfl⟩ [0] (by decide) rfl 0 rfl rfl rfl hl.1 rfl rfl (Nat.le_of_ble_eq_true rfl) dX7_behinds_4 ⟨Nat.zero_le _, Nat.zero_le _⟩ (fun r_ bc_ hq_1 H locs hP hD hS => ?_)
  obtain ⟨rfl, rfl⟩ := hq_1
  have hP : PP G [bX7 a G (setA v 10 (g_copies ((v.1 10)) 0 11))] H := hP
  have hD : DD (AA (List.flatten [bX7 a G v])) [bX7 a G (setA v 10 (g_copies ((v.1 10)) 0 11))] := D_re hD (adc (bX7_ad _ _ _ _) adn)
  refine lv_iconst (v := 0) hx hb dX7_behinds_7 (by decide) ?_
  refine lv_istore_n (lv' := [(3, .int 0), (0, .ref (a 0)), (1, .int x1), (2, .int x2)]) hx hb dX7_behinds_8 rfl hl (by decide) rfl (fun ls hl => ?_)
  have eOV0 : (setA v 10 (itN (s_oil x2) (g_copies (v.1 10) 0 11) 0)) = (setA v 10 (g_copies ((v.1 10)) 0 11)) := by
    refine Prod.ext (funext fun u => ?_) (funext fun u => ?_)
    · by_cases h10 : u = 10
      · subst h10; rfl
      · skip
        simp only [setA, setI, if_neg h10]
    · rfl
  have hP : PP G [bX7 a G (setA v 10 (itN (s_oil x2) (g_copies (v.1 10) 0 11) 0))] H := by rw [eOV0]; exact hP
  have hD : DD (AA (List.flatten [bX7 a G v])) [bX7 a G (setA v 10 (itN (s_oil x2) (g_copies (v.1 10) 0 11) 0))] := D_re hD (adc (bX7_ad _ _ _ _) adn)
  refine lp_up (N := (v.1 4 0).toNatClampNeg) (P := fun k => ∀ (H : Heap) (locs : List Loc) (ls : Array Slot), PP G [bX7 a G (setA v 10 (itN (s_oil x2) (g_copies (v.1 10) 0 11) k))] H → DD (AA (List.flatten [bX7 a G v])) [bX7 a G (setA v 10 (itN (s_oil x2) (g_copies (v.1 10) 0 11) k))] → va_S (AA (List.flatten [bX7 a G v])) s.heap H locs → lv_has ls 4 [(3, .int (nI k)), (0, .ref (a 0)), (1, .int x1), (2, .int x2)] →  W p l e (headSpec wsX7_behinds rm_X7_behinds).room s m ([.ref (a 0), .int x1, .int x2] : List Value).toArray below meth c H locs 0 0 (MQ below (kQs G [bX7 a G v] (fun r bc => r = none ∧ bc = [bX7 a G (setA (setA v 13 ((g_behinds ((v.1 3)) ((v.1 5)) ((v.1 7)) ((v.1 4)) ((v.1 6)) ((v.1 10)) ((v.1 13)) x1 x2).2)) 10 ((g_behinds ((v.1 3)) ((v.1 5)) ((v.1 7)) ((v.1 4)) ((v.1 6)) ((v.1 10)) ((v.1 13)) x1 x2).1))])) ([.ref (a 0), .int x1, .int x2] : List Value).toArray s 0 0 (AA (List.flatten [bX7 a G v]))) (F0 m 9 ls [])) ?_ ?_ 0 (Nat.zero_le _)  _ _ _ hP hD hS (lv_sub hl [0, 1, 2, 3] rfl) 
  · skip
    intro H locs ls hP hD hS hl 
    refine lv_iload_n hx hb dX7_behinds_9 rfl (lv_at hl 0 rfl) ?_
    refine lv_aload_n hx hb dX7_behinds_10 rfl (lv_at hl 1 rfl) ?_
    refine kb_get (own := RX7) (C := RX7) (T := TX7) (N := 19) (v := .ref (a 3)) hx hb hts hin7 hown hX hP 0 rfl rfl rfl 4 (by decide) rfl (by decide +kernel) rfl dX7_behinds_11 ?_
    refine lv_iconst (v := 0) hx hb dX7_behinds_14 (by decide) ?_
    refine kb_ialdN (jn := 0) (n := 2) (f := v.1 4) hx hb hX hP 0 3 rfl rfl rfl (by omega) (by decide) dX7_behinds_15 ?_
    refine lv_icmp_ge (tgt := 59) hx hb dX7_behinds_16 (by decide) (fun c_16 => ?_) (fun c_16 => absurd (lpx_c _) c_16)
    refine lv_iconst (v := 0) hx hb dX7_behinds_59 (by decide) ?_
    refine lv_istore_n (lv' := [(3, .int 0), (0, .ref (a 0)), (1, .int x1), (2, .int x2)]) hx hb dX7_behinds_60 rfl hl (by decide) rfl (fun ls hl => ?_)
    have eOV0 : (setA (setA v 13 ((itN (s_nt (v.1 3) (v.1 5) (v.1 7) (v.1 4) (v.1 6) 11) (itN (s_oil x2) (g_copies (v.1 10) 0 11) (v.1 4 0).toNatClampNeg, v.1 13) 0).2)) 10 ((itN (s_nt (v.1 3) (v.1 5) (v.1 7) (v.1 4) (v.1 6) 11) (itN (s_oil x2) (g_copies (v.1 10) 0 11) (v.1 4 0).toNatClampNeg, v.1 13) 0).1)) = (setA v 10 (itN (s_oil x2) (g_copies (v.1 10) 0 11) ((v.1 4 0).toNatClampNeg))) := by
      refine Prod.ext (funext fun u => ?_) (funext fun u => ?_)
      · by_cases h13 : u = 13
        · subst h13; rfl
        · skip
          by_cases h10 : u = 10
          · subst h10; rfl
          · skip
            simp only [setA, setI, if_neg h13, if_neg h10]
      · rfl
    have hP : PP G [bX7 a G (setA (setA v 13 ((itN (s_nt (v.1 3) (v.1 5) (v.1 7) (v.1 4) (v.1 6) 11) (itN (s_oil x2) (g_copies (v.1 10) 0 11) (v.1 4 0).toNatClampNeg, v.1 13) 0).2)) 10 ((itN (s_nt (v.1 3) (v.1 5) (v.1 7) (v.1 4) (v.1 6) 11) (itN (s_oil x2) (g_copies (v.1 10) 0 11) (v.1 4 0).toNatClampNeg, v.1 13) 0).1))] H := by rw [eOV0]; exact hP
    have hD : DD (AA (List.flatten [bX7 a G v])) [bX7 a G (setA (setA v 13 ((itN (s_nt (v.1 3) (v.1 5) (v.1 7) (v.1 4) (v.1 6) 11) (itN (s_oil x2) (g_copies (v.1 10) 0 11) (v.1 4 0).toNatClampNeg, v.1 13) 0).2)) 10 ((itN (s_nt (v.1 3) (v.1 5) (v.1 7) (v.1 4) (v.1 6) 11) (itN (s_oil x2) (g_copies (v.1 10) 0 11) (v.1 4 0).toNatClampNeg, v.1 13) 0).1))] := D_re hD (adc (bX7_ad _ _ _ _) adn)
    refine lp_up (N := x1.toNatClampNeg) (P := fun k => ∀ (H : Heap) (locs : List Loc) (ls : Array Slot), PP G [bX7 a G (setA (setA v 13 ((itN (s_nt (v.1 3) (v.1 5) (v.1 7) (v.1 4) (v.1 6) 11) (itN (s_oil x2) (g_copies (v.1 10) 0 11) (v.1 4 0).toNatClampNeg, v.1 13) k).2)) 10 ((itN (s_nt (v.1 3) (v.1 5) (v.1 7) (v.1 4) (v.1 6) 11) (itN (s_oil x2) (g_copies (v.1 10) 0 11) (v.1 4 0).toNatClampNeg, v.1 13) k).1))] H → DD (AA (List.flatten [bX7 a G v])) [bX7 a G (setA (setA v 13 ((itN (s_nt (v.1 3) (v.1 5) (v.1 7) (v.1 4) (v.1 6) 11) (itN (s_oil x2) (g_copies (v.1 10) 0 11) (v.1 4 0).toNatClampNeg, v.1 13) k).2)) 10 ((itN (s_nt (v.1 3) (v.1 5) (v.1 7) (v.1 4) (v.1 6) 11) (itN (s_oil x2) (g_copies (v.1 10) 0 11) (v.1 4 0).toNatClampNeg, v.1 13) k).1))] → va_S (AA (List.flatten [bX7 a G v])) s.heap H locs → lv_has ls 4 [(3, .int (nI k)), (0, .ref (a 0)), (1, .int x1), (2, .int x2)] →  W p l e (headSpec wsX7_behinds rm_X7_behinds).room s m ([.ref (a 0), .int x1, .int x2] : List Value).toArray below meth c H locs 0 0 (MQ below (kQs G [bX7 a G v] (fun r bc => r = none ∧ bc = [bX7 a G (setA (setA v 13 ((g_behinds ((v.1 3)) ((v.1 5)) ((v.1 7)) ((v.1 4)) ((v.1 6)) ((v.1 10)) ((v.1 13)) x1 x2).2)) 10 ((g_behinds ((v.1 3)) ((v.1 5)) ((v.1 7)) ((v.1 4)) ((v.1 6)) ((v.1 10)) ((v.1 13)) x1 x2).1))])) ([.ref (a 0), .int x1, .int x2] : List Value).toArray s 0 0 (AA (List.flatten [bX7 a G v]))) (F0 m 61 ls [])) ?_ ?_ 0 (Nat.zero_le _)  _ _ _ hP hD hS (lv_sub hl [0, 1, 2, 3] rfl) 
    · skip
      intro H locs ls hP hD hS hl 
      refine lv_iload_n hx hb dX7_behinds_61 rfl (lv_at hl 0 rfl) ?_
      refine lv_iload_n hx hb dX7_behinds_62 rfl (lv_at hl 2 rfl) ?_
      refine lv_icmp_ge (tgt := 78) hx hb dX7_behinds_63 (by decide) (fun c_63 => ?_) (fun c_63 => absurd (lpx_c _) c_63)
      have hP : PP G [bX7 a G (setA (setA v 13 ((g_behinds ((v.1 3)) ((v.1 5)) ((v.1 7)) ((v.1 4)) ((v.1 6)) ((v.1 10)) ((v.1 13)) x1 x2).2)) 10 ((g_behinds ((v.1 3)) ((v.1 5)) ((v.1 7)) ((v.1 4)) ((v.1 6)) ((v.1 10)) ((v.1 13)) x1 x2).1))] H := by
        exact hP
      exact kr_sv hx hb hr hlocks dX7_behinds_78 hP hS (sameAd_cons (bX7_ad _ _ _ _) sameAd_nil) ⟨rfl, rfl⟩
    · skip
      intro k hk_k ih_61 H locs ls hP hD hS hl 
      refine lv_iload_n hx hb dX7_behinds_61 rfl (lv_at hl 0 rfl) ?_
      refine lv_iload_n hx hb dX7_behinds_62 rfl (lv_at hl 2 rfl) ?_
      refine lv_icmp_ge (tgt := 78) hx hb dX7_behinds_63 (by decide) (fun c_63 => absurd c_63 (lps_c hk_k)) (fun c_63 => ?_)
      refine lv_aload_n hx hb dX7_behinds_66 rfl (lv_at hl 1 rfl) ?_
      refine lv_bipush (v := 11) hx hb dX7_behinds_67 (by decide) ?_
      refine kcV_s hx hb hml hown hts hX hP hD hS (c_X7_nights l G a (setA (setA v 13 ((itN (s_nt (v.1 3) (v.1 5) (v.1 7) (v.1 4) (v.1 6) 11) (itN (s_oil x2) (g_copies (v.1 10) 0 11) (v.1 4 0).toNatClampNeg, v.1 13) k).2)) 10 ((itN (s_nt (v.1 3) (v.1 5) (v.1 7) (v.1 4) (v.1 6) 11) (itN (s_oil x2) (g_copies (v.1 10) 0 11) (v.1 4 0).toNatClampNeg, v.1 13) k).1)) 11 (by omega) hD8 hL4 hRx) gX7_behinds_X7_nights 1 rfl rfl rfl hd_X7_nights ⟨Nat.le_of_ble_eq_true rfl, Nat.le_of_ble_eq_true rfl⟩ [0] (by decide) rfl 0 rfl rfl rfl hl.1 rfl rfl (Nat.le_of_ble_eq_true rfl) dX7_behinds_69 ⟨Nat.zero_le _, Nat.zero_le _⟩ (fun r_ bc_ hq_2 H locs hP hD hS => ?_)
      obtain ⟨rfl, rfl⟩ := hq_2
      have hP : PP G [bX7 a G (setA (setA (setA (setA v 13 ((itN (s_nt (v.1 3) (v.1 5) (v.1 7) (v.1 4) (v.1 6) 11) (itN (s_oil x2) (g_copies (v.1 10) 0 11) (v.1 4 0).toNatClampNeg, v.1 13) k).2)) 10 ((itN (s_nt (v.1 3) (v.1 5) (v.1 7) (v.1 4) (v.1 6) 11) (itN (s_oil x2) (g_copies (v.1 10) 0 11) (v.1 4 0).toNatClampNeg, v.1 13) k).1)) 13 (g_was (((itN (s_nt (v.1 3) (v.1 5) (v.1 7) (v.1 4) (v.1 6) 11) (itN (s_oil x2) (g_copies (v.1 10) 0 11) (v.1 4 0).toNatClampNeg, v.1 13) k).1)) (((itN (s_nt (v.1 3) (v.1 5) (v.1 7) (v.1 4) (v.1 6) 11) (itN (s_oil x2) (g_copies (v.1 10) 0 11) (v.1 4 0).toNatClampNeg, v.1 13) k).2)) 11)) 10 (g_nights ((v.1 3)) ((v.1 5)) ((v.1 7)) ((v.1 4)) ((v.1 6)) (((itN (s_nt (v.1 3) (v.1 5) (v.1 7) (v.1 4) (v.1 6) 11) (itN (s_oil x2) (g_copies (v.1 10) 0 11) (v.1 4 0).toNatClampNeg, v.1 13) k).1)) (((itN (s_nt (v.1 3) (v.1 5) (v.1 7) (v.1 4) (v.1 6) 11) (itN (s_oil x2) (g_copies (v.1 10) 0 11) (v.1 4 0).toNatClampNeg, v.1 13) k).2)) 11))] H := hP
      have hD : DD (AA (List.flatten [bX7 a G v])) [bX7 a G (setA (setA (setA (setA v 13 ((itN (s_nt (v.1 3) (v.1 5) (v.1 7) (v.1 4) (v.1 6) 11) (itN (s_oil x2) (g_copies (v.1 10) 0 11) (v.1 4 0).toNatClampNeg, v.1 13) k).2)) 10 ((itN (s_nt (v.1 3) (v.1 5) (v.1 7) (v.1 4) (v.1 6) 11) (itN (s_oil x2) (g_copies (v.1 10) 0 11) (v.1 4 0).toNatClampNeg, v.1 13) k).1)) 13 (g_was (((itN (s_nt (v.1 3) (v.1 5) (v.1 7) (v.1 4) (v.1 6) 11) (itN (s_oil x2) (g_copies (v.1 10) 0 11) (v.1 4 0).toNatClampNeg, v.1 13) k).1)) (((itN (s_nt (v.1 3) (v.1 5) (v.1 7) (v.1 4) (v.1 6) 11) (itN (s_oil x2) (g_copies (v.1 10) 0 11) (v.1 4 0).toNatClampNeg, v.1 13) k).2)) 11)) 10 (g_nights ((v.1 3)) ((v.1 5)) ((v.1 7)) ((v.1 4)) ((v.1 6)) (((itN (s_nt (v.1 3) (v.1 5) (v.1 7) (v.1 4) (v.1 6) 11) (itN (s_oil x2) (g_copies (v.1 10) 0 11) (v.1 4 0).toNatClampNeg, v.1 13) k).1)) (((itN (s_nt (v.1 3) (v.1 5) (v.1 7) (v.1 4) (v.1 6) 11) (itN (s_oil x2) (g_copies (v.1 10) 0 11) (v.1 4 0).toNatClampNeg, v.1 13) k).2)) 11))] := D_re hD (adc (bX7_ad _ _ _ _) adn)
      refine lv_iinc (v := nI (k + 1)) (lv' := [(3, .int (nI (k + 1))), (0, .ref (a 0)), (1, .int x1), (2, .int x2)]) hx hb dX7_behinds_72 hl (k := 0) rfl (nI_1 _) (by decide) rfl (fun ls hl => ?_)
      refine lv_goto (tgt := 61) hx hb dX7_behinds_75 (by decide) ?_
      have hP : PP G [bX7 a G (setA (setA v 13 ((itN (s_nt (v.1 3) (v.1 5) (v.1 7) (v.1 4) (v.1 6) 11) (itN (s_oil x2) (g_copies (v.1 10) 0 11) (v.1 4 0).toNatClampNeg, v.1 13) (k + 1)).2)) 10 ((itN (s_nt (v.1 3) (v.1 5) (v.1 7) (v.1 4) (v.1 6) 11) (itN (s_oil x2) (g_copies (v.1 10) 0 11) (v.1 4 0).toNatClampNeg, v.1 13) (k + 1)).1))] H := by
        try simp only [ov_n1, ov_m1, ov_nc, ov_mc, ov_c] at hP ⊢
        exact hP
      have hD : DD (AA (List.flatten [bX7 a G v])) [bX7 a G (setA (setA v 13 ((itN (s_nt (v.1 3) (v.1 5) (v.1 7) (v.1 4) (v.1 6) 11) (itN (s_oil x2) (g_copies (v.1 10) 0 11) (v.1 4 0).toNatClampNeg, v.1 13) (k + 1)).2)) 10 ((itN (s_nt (v.1 3) (v.1 5) (v.1 7) (v.1 4) (v.1 6) 11) (itN (s_oil x2) (g_copies (v.1 10) 0 11) (v.1 4 0).toNatClampNeg, v.1 13) (k + 1)).1))] := D_re hD (adc (bX7_ad _ _ _ _) adn)
      exact ih_61  _ _ _ hP hD hS (show lv_has ls 4 [(3, .int (nI (k + 1))), (0, .ref (a 0)), (1, .int x1), (2, .int x2)] from lv_sub hl [0, 1, 2, 3] rfl) 
  · skip
    intro k hk_k ih_9 H locs ls hP hD hS hl 
    refine lv_iload_n hx hb dX7_behinds_9 rfl (lv_at hl 0 rfl) ?_
    refine lv_aload_n hx hb dX7_behinds_10 rfl (lv_at hl 1 rfl) ?_
    refine kb_get (own := RX7) (C := RX7) (T := TX7) (N := 19) (v := .ref (a 3)) hx hb hts hin7 hown hX hP 0 rfl rfl rfl 4 (by decide) rfl (by decide +kernel) rfl dX7_behinds_11 ?_
    refine lv_iconst (v := 0) hx hb dX7_behinds_14 (by decide) ?_
    refine kb_ialdN (jn := 0) (n := 2) (f := v.1 4) hx hb hX hP 0 3 rfl rfl rfl (by omega) (by decide) dX7_behinds_15 ?_
    refine lv_icmp_ge (tgt := 59) hx hb dX7_behinds_16 (by decide) (fun c_16 => absurd c_16 (lps_c hk_k)) (fun c_16 => ?_)
    refine lv_aload_n hx hb dX7_behinds_19 rfl (lv_at hl 1 rfl) ?_
    refine kb_get (own := RX7) (C := RX7) (T := TX7) (N := 19) (v := .ref (a 9)) hx hb hts hin7 hown hX hP 0 rfl rfl rfl 10 (by decide) rfl (by decide +kernel) rfl dX7_behinds_20 ?_
    refine lv_sipush (v := 538) hx hb dX7_behinds_23 (by decide) ?_
    refine lv_iload_n hx hb dX7_behinds_26 rfl (lv_at hl 0 rfl) ?_
    refine lv_iadd hx hb dX7_behinds_27 ?_
    refine lv_iload_n hx hb dX7_behinds_28 rfl (lv_at hl 3 rfl) ?_
    refine lv_iload_n hx hb dX7_behinds_29 rfl (lv_at hl 0 rfl) ?_
    refine lv_ishr hx hb dX7_behinds_30 ?_
    refine lv_iconst (v := 1) hx hb dX7_behinds_31 (by decide) ?_
    refine lv_iand hx hb dX7_behinds_32 ?_
    refine lv_iconst (v := 1) hx hb dX7_behinds_33 (by decide) ?_
    refine lv_icmp_ne (tgt := 42) hx hb dX7_behinds_34 (by decide) (fun c_34 => ?_) (fun c_34 => ?_)
    · refine lv_aload_n hx hb dX7_behinds_42 rfl (lv_at hl 1 rfl) ?_
      refine kb_get (own := RX7) (C := RX7) (T := TX7) (N := 19) (v := .ref (a 9)) hx hb hts hin7 hown hX hP 0 rfl rfl rfl 10 (by decide) rfl (by decide +kernel) rfl dX7_behinds_43 ?_
      refine lv_sipush (v := 538) hx hb dX7_behinds_46 (by decide) ?_
      refine lv_iload_n hx hb dX7_behinds_49 rfl (lv_at hl 0 rfl) ?_
      refine lv_iadd hx hb dX7_behinds_50 ?_
      refine kb_ialdN (jn := 538 + k) (n := 552) (f := itN (s_oil x2) (g_copies (v.1 10) 0 11) k) hx hb hX hP 0 9 rfl rfl (by simp only [nI_addE, nI_mulE] <;> rfl) (by omega) (by decide) dX7_behinds_51 ?_
      refine kb_iastN (jn := 538 + k) (n := 552) (f := itN (s_oil x2) (g_copies (v.1 10) 0 11) k) hx hb hX hP hD hS 0 9 rfl rfl (by simp only [nI_addE, nI_mulE] <;> rfl) (by omega) (by decide) dX7_behinds_52 (bX7_A10 a G (setA v 10 (itN (s_oil x2) (g_copies (v.1 10) 0 11) k)) (upd (itN (s_oil x2) (g_copies (v.1 10) 0 11) k) (538 + k) ((itN (s_oil x2) (g_copies (v.1 10) 0 11) k) (538 + k)))) (fun H locs hP hD hS => ?_)
      have hP : PP G [bX7 a G (setA (setA v 10 (itN (s_oil x2) (g_copies (v.1 10) 0 11) k)) 10 (upd (itN (s_oil x2) (g_copies (v.1 10) 0 11) k) (538 + k) ((itN (s_oil x2) (g_copies (v.1 10) 0 11) k) (538 + k))))] H := hP
      have hD : DD (AA (List.flatten [bX7 a G v])) [bX7 a G (setA (setA v 10 (itN (s_oil x2) (g_copies (v.1 10) 0 11) k)) 10 (upd (itN (s_oil x2) (g_copies (v.1 10) 0 11) k) (538 + k) ((itN (s_oil x2) (g_copies (v.1 10) 0 11) k) (538 + k))))] := D_re hD (adc (bX7_ad _ _ _ _) adn)
      refine lv_iinc (v := nI (k + 1)) (lv' := [(3, .int (nI (k + 1))), (0, .ref (a 0)), (1, .int x1), (2, .int x2)]) hx hb dX7_behinds_53 hl (k := 0) rfl (nI_1 _) (by decide) rfl (fun ls hl => ?_)
      refine lv_goto (tgt := 9) hx hb dX7_behinds_56 (by decide) ?_
      have hP : PP G [bX7 a G (setA v 10 (itN (s_oil x2) (g_copies (v.1 10) 0 11) (k + 1)))] H := by
        rw [itN_s]
        simp only [s_oil, if_neg c_16, if_neg c_34]
        try simp only [ov_n1, ov_m1, ov_nc, ov_mc, ov_c] at hP ⊢
        exact hP
      have hD : DD (AA (List.flatten [bX7 a G v])) [bX7 a G (setA v 10 (itN (s_oil x2) (g_copies (v.1 10) 0 11) (k + 1)))] := D_re hD (adc (bX7_ad _ _ _ _) adn)
      exact ih_9  _ _ _ hP hD hS (show lv_has ls 4 [(3, .int (nI (k + 1))), (0, .ref (a 0)), (1, .int x1), (2, .int x2)] from lv_sub hl [0, 1, 2, 3] rfl) 
    · refine lv_bipush (v := 100) hx hb dX7_behinds_37 (by decide) ?_
      refine lv_goto (tgt := 52) hx hb dX7_behinds_39 (by decide) ?_
      refine kb_iastN (jn := 538 + k) (n := 552) (f := itN (s_oil x2) (g_copies (v.1 10) 0 11) k) hx hb hX hP hD hS 0 9 rfl rfl (by simp only [nI_addE, nI_mulE] <;> rfl) (by omega) (by decide) dX7_behinds_52 (bX7_A10 a G (setA v 10 (itN (s_oil x2) (g_copies (v.1 10) 0 11) k)) (upd (itN (s_oil x2) (g_copies (v.1 10) 0 11) k) (538 + k) 100)) (fun H locs hP hD hS => ?_)
      have hP : PP G [bX7 a G (setA (setA v 10 (itN (s_oil x2) (g_copies (v.1 10) 0 11) k)) 10 (upd (itN (s_oil x2) (g_copies (v.1 10) 0 11) k) (538 + k) 100))] H := hP
      have hD : DD (AA (List.flatten [bX7 a G v])) [bX7 a G (setA (setA v 10 (itN (s_oil x2) (g_copies (v.1 10) 0 11) k)) 10 (upd (itN (s_oil x2) (g_copies (v.1 10) 0 11) k) (538 + k) 100))] := D_re hD (adc (bX7_ad _ _ _ _) adn)
      refine lv_iinc (v := nI (k + 1)) (lv' := [(3, .int (nI (k + 1))), (0, .ref (a 0)), (1, .int x1), (2, .int x2)]) hx hb dX7_behinds_53 hl (k := 0) rfl (nI_1 _) (by decide) rfl (fun ls hl => ?_)
      refine lv_goto (tgt := 9) hx hb dX7_behinds_56 (by decide) ?_
      have hP : PP G [bX7 a G (setA v 10 (itN (s_oil x2) (g_copies (v.1 10) 0 11) (k + 1)))] H := by
        rw [itN_s]
        simp only [s_oil, if_neg c_16, if_pos c_34]
        try simp only [ov_n1, ov_m1, ov_nc, ov_mc, ov_c] at hP ⊢
        exact hP
      have hD : DD (AA (List.flatten [bX7 a G v])) [bX7 a G (setA v 10 (itN (s_oil x2) (g_copies (v.1 10) 0 11) (k + 1)))] := D_re hD (adc (bX7_ad _ _ _ _) adn)
      exact ih_9  _ _ _ hP hD hS (show lv_has ls 4 [(3, .int (nI (k + 1))), (0, .ref (a 0)), (1, .int x1), (2, .int x2)] from lv_sub hl [0, 1, 2, 3] rfl) 
