/-! the reference: its calls -/
theorem nI_pm {n : Nat} (h : ¬ nI n = 0) : nI n - 1 = nI (n - 1) := by
  cases n with
  | zero => exact absurd nI_0 h
  | succ n => exact nI_pred n
theorem vpn {x : Int32} {n : Nat} (h : vp_in x n) : ¬ x < 0 := (cl_of_vp h).1
def g_undoR (dn : Nat) : Int32 := if nI dn = 0 then -2 else nI (dn - 1)
def g_undoV (v : OV) (dn : Nat) : OV := if nI dn = 0 then v else setA (setI v 12 (nI (dn - 1))) 10 (g_copies (v.1 10) (3 + (dn - 1)) 0)
def g_keepR (kp : Nat) : Int32 := if nI kp = 2 then -3 else nI (kp + 1)
def g_keepV (v : OV) (kp : Nat) : OV := if nI kp = 2 then v else setA (setI v 11 (nI (kp + 1))) 10 (g_copies (v.1 10) 0 (kp + 1))
def g_backR (kp : Nat) : Int32 := if nI kp = 0 then -2 else nI (kp - 1)
def g_backV (v : OV) (kp : Nat) : OV := if nI kp = 0 then v else setI (setI (setA v 10 (g_copies (v.1 10) kp 0)) 11 (nI (kp - 1))) 12 0
def g_goR (v : OV) (x y : Int32) : Int32 := if gIsDoor (v.1 7) x = true then (if gIsDoor (v.1 4) y = true then (if g_isOf (v.1 5) y.toNatClampNeg (v.1 10 (40 + x.toNatClampNeg)) = true then g_costs (g_knownS (v.1 10) (v.2 12)) 0 y.toNatClampNeg x.toNatClampNeg else -2) else -1) else -1
def g_goV (v : OV) (x y z : Int32) : OV := if gIsDoor (v.1 7) x = true then (if gIsDoor (v.1 4) y = true then (if g_isOf (v.1 5) y.toNatClampNeg (v.1 10 (40 + x.toNatClampNeg)) = true then setA (setI (setA v 10 (g_knownS (v.1 10) (v.2 12))) 12 (g_knownD (v.2 12))) 10 (g_goesS (v.1 3) (v.1 8) (v.1 5) (g_knownS (v.1 10) (v.2 12)) 0 x.toNatClampNeg y.toNatClampNeg z) else v) else v) else v
abbrev g_oilS (v : OV) (x : Int32) : Nat → Int32 := upd (g_knownS (v.1 10) (v.2 12)) (32 + x.toNatClampNeg) (v.1 3 4)
def s_oiln (S : Nat → Int32) (k : Nat) (n : Int32) : Int32 := n + (if S (32 + k) ≤ 0 then 0 else 1)
def g_oilR (v : OV) (x : Int32) : Int32 := if gIsDoor (v.1 4) x = true then itN (s_oiln (g_oilS v x)) 0 (v.1 4 0).toNatClampNeg else -1
def g_oilV (v : OV) (x : Int32) : OV := if gIsDoor (v.1 4) x = true then setA (setI (setA v 10 (g_knownS (v.1 10) (v.2 12))) 12 (g_knownD (v.2 12))) 10 (g_oilS v x) else v
def g_nightN (v : OV) (k : Nat) : (Nat → Int32) × (Nat → Int32) := itN (s_nt (v.1 3) (v.1 5) (v.1 7) (v.1 4) (v.1 6) 0) (g_knownS (v.1 10) (v.2 12), v.1 13) k
def g_nightR (v : OV) (x : Int32) : Int32 := if gIn x.toInt64 1 60 = true then (if v.1 10 45 + x ≤ 9999 then (g_nightN v x.toNatClampNeg).1 45 else -2) else -1
def g_nightV (v : OV) (x : Int32) : OV := if gIn x.toInt64 1 60 = true then (if v.1 10 45 + x ≤ 9999 then setA (setA (setI v 12 (g_knownD (v.2 12))) 13 (g_nightN v x.toNatClampNeg).2) 10 (g_nightN v x.toNatClampNeg).1 else v) else v
def g_wayR (v : OV) (x y z : Int32) : Int32 := if gIsDoor (v.1 7) x = true then (if gIsDoor (v.1 3) y = true then (if gIsDoor (v.1 3) z = true then g_wayOf (v.1 5) (v.1 10) (v.1 4) (v.1 14) 0 x.toNatClampNeg y.toNatClampNeg z else -1) else -1) else -1
def g_wayV (v : OV) (x y z : Int32) : OV := if gIsDoor (v.1 7) x = true then (if gIsDoor (v.1 3) y = true then (if gIsDoor (v.1 3) z = true then setA v 14 (g_ways (v.1 5) (v.1 10) (v.1 4) (v.1 14) 0 x.toNatClampNeg z 0) else v) else v) else v
def g_firstR (v : OV) (x y z : Int32) : Int32 := if gIsDoor (v.1 7) x = true then (if gIsDoor (v.1 3) y = true then (if gIsDoor (v.1 3) z = true then g_firstOf (v.1 5) (v.1 10) (v.1 4) (v.1 14) 0 x.toNatClampNeg y.toNatClampNeg z else -1) else -1) else -1
/-- in time: the set found so far and the row of ways -/
def s_inT (R S D : Nat → Int32) (i w : Nat) (g m : Int32) (k : Nat) (q : Int32 × (Nat → Int32)) : Int32 × (Nat → Int32) :=
  (if m < g_ways R S D q.2 0 i g (nI k) w then q.1 else if q.1 < 0 then nI k else if g_many q.1 ≤ g_many (nI k) then q.1 else nI k, g_ways R S D q.2 0 i g (nI k))
def g_inT (v : OV) (x m : Int32) (k : Nat) : Int32 × (Nat → Int32) := itN (s_inT (v.1 5) (v.1 10) (v.1 4) x.toNatClampNeg (v.1 10 (40 + x.toNatClampNeg)).toNatClampNeg (v.1 8 (3 * x.toNatClampNeg + 2)) m) (-4, v.1 14) k
abbrev n_sets (v : OV) : Int32 := 1 <<< (v.1 4 0 &&& 31)
def g_inTimeR (v : OV) (x m : Int32) : Int32 := if gIsDoor (v.1 7) x = true then (if gIn m.toInt64 0 600 = true then (g_inT v x m (n_sets v).toNatClampNeg).1 else -1) else -1
def g_inTimeV (v : OV) (x m : Int32) : OV := if gIsDoor (v.1 7) x = true then (if gIn m.toInt64 0 600 = true then setA v 14 (g_inT v x m (n_sets v).toNatClampNeg).2 else v) else v
abbrev g_bh (v : OV) (n o : Int32) : (Nat → Int32) × (Nat → Int32) := g_behinds (v.1 3) (v.1 5) (v.1 7) (v.1 4) (v.1 6) (v.1 10) (v.1 13) n o
def g_behindR (v : OV) (n d i : Int32) : Int32 := if g_isBehind n = true then (if gIsDoor (v.1 4) d = true then (if gIsDoor (v.1 7) i = true then (g_bh v n 0).1 (506 + 4 * d.toNatClampNeg + i.toNatClampNeg) else -1) else -1) else -1
def g_behindV (v : OV) (n d i : Int32) : OV := if g_isBehind n = true then (if gIsDoor (v.1 4) d = true then (if gIsDoor (v.1 7) i = true then setA (setA v 13 (g_bh v n 0).2) 10 (g_bh v n 0).1 else v) else v) else v
def s_worst (S : Nat → Int32) (i k : Nat) (f : Nat) : Nat := if S (506 + 4 * (k + 1) + i) ≤ S (506 + 4 * f + i) then f else k + 1
def g_worstR (v : OV) (n i : Int32) : Int32 := if g_isBehind n = true then (if gIsDoor (v.1 7) i = true then nI (itN (s_worst (g_bh v n 0).1 i.toNatClampNeg) 0 ((v.1 4 0).toNatClampNeg - 1)) else -1) else -1
def g_worstV (v : OV) (n i : Int32) : OV := if g_isBehind n = true then (if gIsDoor (v.1 7) i = true then setA (setA v 13 (g_bh v n 0).2) 10 (g_bh v n 0).1 else v) else v
theorem worst_lt {S : Nat → Int32} {i : Nat} : ∀ n, itN (s_worst S i) 0 n ≤ n
  | 0 => Nat.le_refl 0
  | n + 1 => by
    have := worst_lt (S := S) (i := i) n
    rw [itN_s]
    simp only [s_worst]
    split
    · omega
    · exact Nat.le_refl _
/-- stop: the set found so far, the slots and the row of grudges -/
def s_stop (T R L D U : Nat → Int32) (n d i g : Int32) (k : Nat) (q : Int32 × (Nat → Int32) × (Nat → Int32)) : Int32 × (Nat → Int32) × (Nat → Int32) :=
  if (nI k >>> (d &&& 31)) &&& 1 = 0 then
    (if q.1 < 0 then (if g ≤ (g_behinds T R L D U q.2.1 q.2.2 n (nI k)).1 (506 + 4 * d.toNatClampNeg + i.toNatClampNeg) then q.1 else nI k, g_behinds T R L D U q.2.1 q.2.2 n (nI k))
     else if g_many q.1 ≤ g_many (nI k) then q
     else (if g ≤ (g_behinds T R L D U q.2.1 q.2.2 n (nI k)).1 (506 + 4 * d.toNatClampNeg + i.toNatClampNeg) then q.1 else nI k, g_behinds T R L D U q.2.1 q.2.2 n (nI k)))
  else q
def g_stop (v : OV) (n d i g : Int32) (k : Nat) : Int32 × (Nat → Int32) × (Nat → Int32) := itN (s_stop (v.1 3) (v.1 5) (v.1 7) (v.1 4) (v.1 6) n d i g) (-4, v.1 10, v.1 13) k
def g_stopR (v : OV) (n d i g : Int32) : Int32 := if g_isBehind n = true then (if gIsDoor (v.1 4) d = true then (if gIsDoor (v.1 7) i = true then (if gIn g.toInt64 1 99 = true then (g_stop v n d i g (n_sets v).toNatClampNeg).1 else -1) else -1) else -1) else -1
def g_stopV (v : OV) (n d i g : Int32) : OV := if g_isBehind n = true then (if gIsDoor (v.1 4) d = true then (if gIsDoor (v.1 7) i = true then (if gIn g.toInt64 1 99 = true then setA (setA v 13 (g_stop v n d i g (n_sets v).toNatClampNeg).2.2) 10 (g_stop v n d i g (n_sets v).toNatClampNeg).2.1 else v) else v) else v) else v
def s_becq (T E : Nat → Int32) (i : Nat) (o : Int32) (k : Nat) (g : Int32) : Int32 := g_becomes T E i g (if (o >>> (nI k &&& 31)) &&& 1 = 1 then 1 else 0)
abbrev g_becq (v : OV) (x d k : Int32) (o : Int32) : Int32 := itN (s_becq (v.1 3) (v.1 8) x.toNatClampNeg o) (v.1 9 (4 * d.toNatClampNeg + x.toNatClampNeg)) k.toNatClampNeg
def s_how (v : OV) (x d k m : Int32) (o : Nat) (q : Int32 × Int32) : Int32 × Int32 :=
  if g_becq v x d k (nI o) + 1 = m then (q.1 + 1, if q.2 < 0 then g_many (nI o) else if q.2 ≤ g_many (nI o) then q.2 else g_many (nI o)) else q
def g_how (v : OV) (x d k m : Int32) (o : Nat) : Int32 × Int32 := itN (s_how v x d k m) (0, -4) o
def g_howR (v : OV) (x d k m w : Int32) : Int32 := if gIsDoor (v.1 7) x = true then (if gIsDoor (v.1 4) d = true then (if gIn k.toInt64 0 8 = true then (if gIn m.toInt64 1 100 = true then (if gIn w.toInt64 0 1 = true then (if w = 0 then (g_how v x d k m (1 <<< (k &&& 31) : Int32).toNatClampNeg).1 else (g_how v x d k m (1 <<< (k &&& 31) : Int32).toNatClampNeg).2) else -1) else -1) else -1) else -1) else -1
def s_fresh (L S : Nat → Int32) (k : Nat) (f : Nat) : Nat := if g_news L S f ≤ g_news L S (k + 1) then f else k + 1
theorem fresh_lt {L S : Nat → Int32} : ∀ n, itN (s_fresh L S) 0 n ≤ n
  | 0 => Nat.le_refl 0
  | n + 1 => by
    have := fresh_lt (L := L) (S := S) n
    rw [itN_s]
    simp only [s_fresh]
    split
    · omega
    · exact Nat.le_refl _
def g_freshR (v : OV) (d : Int32) : Int32 := if d = -1 then nI (itN (s_fresh (v.1 7) (v.1 10)) 0 ((v.1 4 0).toNatClampNeg - 1)) else (if gIsDoor (v.1 4) d = true then g_news (v.1 7) (v.1 10) d.toNatClampNeg else -1)
theorem lp_m1 {b : Int32} {k : Nat} (hb : b.toNatClampNeg ≤ 8) (h : k < b.toNatClampNeg - 1) : ¬ b ≤ nI (k + 1) := lps_c (by omega)

def rm_X7_undo : Room := { frames := 1, cells := 0, slots := 0, locals := 23 }
theorem hd_X7_undo : yX7_undo.cls = RX7 ∧ yX7_undo.cls ≠ "java/lang/invoke/MethodHandle" ∧ yX7_undo.cls ≠ "java/lang/invoke/VarHandle" ∧ (parseMethodDescriptor yX7_undo.desc).map (fun d => d.parameters.length) = some 0 := by decide +kernel
set_option maxRecDepth 100000 in
set_option maxHeartbeats 4000000 in
theorem c_X7_undo (l : Launch) (G : GD) (a : Nat → Nat) (v : OV) (dn : Nat) (hdn : v.2 12 = nI dn) (hd8 : dn ≤ 8) : MetS l yX7_undo wsX7_undo rm_X7_undo G [bX7 a G v] [.ref (a 0)] (fun r bc => r = some (.int (g_undoR dn)) ∧ bc = [bX7 a G (g_undoV v dn)]) := by
  refine kb_beginS (cc := cX7_undo) (maxL := 1) (ret := (some .int)) (by decide) rfl (Nat.le_of_ble_eq_true rfl) ?_
  intro p e s m below meth c hx hb hr hml hown hts hlocks hX H locs hP hD hS ls hl
  have hown : s.vm.findClass RX7 = some m.cls := hown
  have hl : lv_has ls 1 [(0, .ref (a 0))] := hl
  have hin7 : ∀ w ∈ u_ws RX7 TX7 19, w ∈ wsX7_undo := (fun _ h => List.mem_cons_of_mem _ (List.mem_append_right _ (h)))
  refine lv_aload_n hx hb dX7_undo_0 rfl (lv_at hl 0 rfl) ?_
  refine kb_get (own := RX7) (C := RX7) (T := TX7) (N := 19) (v := .int (v.2 12)) hx hb hts hin7 hown hX hP 0 rfl rfl rfl 12 (by decide) rfl (by decide +kernel) rfl dX7_undo_1 ?_
  refine kb_rw (y := nI dn) hdn ?_
  refine lv_if_ne (tgt := 10) hx hb dX7_undo_4 (by decide) (fun c_4 => ?_) (fun c_4 => ?_)
  · refine lv_aload_n hx hb dX7_undo_10 rfl (lv_at hl 0 rfl) ?_
    refine lv_dup hx hb dX7_undo_11 rfl ?_
    refine kb_get (own := RX7) (C := RX7) (T := TX7) (N := 19) (v := .int (v.2 12)) hx hb hts hin7 hown hX hP 0 rfl rfl rfl 12 (by decide) rfl (by decide +kernel) rfl dX7_undo_12 ?_
    refine kb_rw (y := nI dn) hdn ?_
    refine lv_iconst (v := 1) hx hb dX7_undo_15 (by decide) ?_
    refine lv_isub hx hb dX7_undo_16 ?_
    refine kb_rw (y := nI (dn - 1)) (nI_pm c_4) ?_
    refine kb_put (own := RX7) (C := RX7) (T := TX7) (N := 19) hx hb hts hin7 tyX7 tyX7_ok nmX7 (ty := .int) hown hX hP hD hS 0 rfl rfl rfl 12 (by decide) rfl (by decide +kernel) (by decide +kernel) rfl rfl (Nat.le_of_ble_eq_true rfl) dX7_undo_17 (bX7_I12 a G v (nI (dn - 1))) (fun H locs hP hD hS => ?_)
    have hP : PP G [bX7 a G (setI v 12 (nI (dn - 1)))] H := hP
    have hD : DD (AA (List.flatten [bX7 a G v])) [bX7 a G (setI v 12 (nI (dn - 1)))] := D_re hD (adc (bX7_ad _ _ _ _) adn)
    refine lv_aload_n hx hb dX7_undo_20 rfl (lv_at hl 0 rfl) ?_
    refine lv_iconst (v := 3) hx hb dX7_undo_21 (by decide) ?_
    refine lv_aload_n hx hb dX7_undo_22 rfl (lv_at hl 0 rfl) ?_
    refine kb_get (own := RX7) (C := RX7) (T := TX7) (N := 19) (v := .int (nI (dn - 1))) hx hb hts hin7 hown hX hP 0 rfl rfl rfl 12 (by decide) rfl (by decide +kernel) rfl dX7_undo_23 ?_
    refine lv_iadd hx hb dX7_undo_26 ?_
    refine kb_rw (y := nI (3 + (dn - 1))) (by rw [nI_addE]; rfl) ?_
    refine lv_iconst (v := 0) hx hb dX7_undo_27 (by decide) ?_
    refine kcV_s hx hb hml hown hts hX hP hD hS (c_X7_copies l G a (setI v 12 (nI (dn - 1))) (3 + (dn - 1)) 0 (by omega) (by omega)) gX7_undo_X7_copies 2 rfl rfl rfl hd_X7_copies ⟨Nat.le_of_ble_eq_true rfl, Nat.le_of_ble_eq_true rfl⟩ [0] (by decide) rfl 0 rfl rfl rfl hl.1 rfl rfl (Nat.le_of_ble_eq_true rfl) dX7_undo_28 ⟨Nat.zero_le _, Nat.zero_le _⟩ (fun r_ bc_ hq_1 H locs hP hD hS => ?_)
    obtain ⟨rfl, rfl⟩ := hq_1
    have hP : PP G [bX7 a G (setA (setI v 12 (nI (dn - 1))) 10 (g_copies ((v.1 10)) (3 + (dn - 1)) 0))] H := hP
    have hD : DD (AA (List.flatten [bX7 a G v])) [bX7 a G (setA (setI v 12 (nI (dn - 1))) 10 (g_copies ((v.1 10)) (3 + (dn - 1)) 0))] := D_re hD (adc (bX7_ad _ _ _ _) adn)
    refine lv_aload_n hx hb dX7_undo_31 rfl (lv_at hl 0 rfl) ?_
    refine kb_get (own := RX7) (C := RX7) (T := TX7) (N := 19) (v := .int (nI (dn - 1))) hx hb hts hin7 hown hX hP 0 rfl rfl rfl 12 (by decide) rfl (by decide +kernel) rfl dX7_undo_32 ?_
    have hP : PP G [bX7 a G (g_undoV v dn)] H := by
      simp only [g_undoV, if_neg c_4]
      try simp only [ov_n1, ov_m1, ov_nc, ov_mc, ov_c] at hP ⊢
      exact hP
    exact kr_si hx hb hr hlocks dX7_undo_35 hP hS (sameAd_cons (bX7_ad _ _ _ _) sameAd_nil) ⟨by simp only [g_undoR, if_neg c_4] <;> rfl, rfl⟩
  · refine lv_bipush (v := (-2)) hx hb dX7_undo_7 (by decide) ?_
    have hP : PP G [bX7 a G (g_undoV v dn)] H := by
      simp only [g_undoV, if_pos c_4]
      try simp only [ov_n1, ov_m1, ov_nc, ov_mc, ov_c] at hP ⊢
      exact hP
    exact kr_si hx hb hr hlocks dX7_undo_9 hP hS (sameAd_cons (bX7_ad _ _ _ _) sameAd_nil) ⟨by simp only [g_undoR, if_pos c_4] <;> rfl, rfl⟩

def rm_X7_keep : Room := { frames := 1, cells := 0, slots := 0, locals := 23 }
theorem hd_X7_keep : yX7_keep.cls = RX7 ∧ yX7_keep.cls ≠ "java/lang/invoke/MethodHandle" ∧ yX7_keep.cls ≠ "java/lang/invoke/VarHandle" ∧ (parseMethodDescriptor yX7_keep.desc).map (fun d => d.parameters.length) = some 0 := by decide +kernel
set_option maxRecDepth 100000 in
set_option maxHeartbeats 4000000 in
theorem c_X7_keep (l : Launch) (G : GD) (a : Nat → Nat) (v : OV) (kp : Nat) (hkp : v.2 11 = nI kp) (hk2 : kp ≤ 2) : MetS l yX7_keep wsX7_keep rm_X7_keep G [bX7 a G v] [.ref (a 0)] (fun r bc => r = some (.int (g_keepR kp)) ∧ bc = [bX7 a G (g_keepV v kp)]) := by
  refine kb_beginS (cc := cX7_keep) (maxL := 1) (ret := (some .int)) (by decide) rfl (Nat.le_of_ble_eq_true rfl) ?_
  intro p e s m below meth c hx hb hr hml hown hts hlocks hX H locs hP hD hS ls hl
  have hown : s.vm.findClass RX7 = some m.cls := hown
  have hl : lv_has ls 1 [(0, .ref (a 0))] := hl
  have hin7 : ∀ w ∈ u_ws RX7 TX7 19, w ∈ wsX7_keep := (fun _ h => List.mem_cons_of_mem _ (List.mem_append_right _ (h)))
  refine lv_aload_n hx hb dX7_keep_0 rfl (lv_at hl 0 rfl) ?_
  refine kb_get (own := RX7) (C := RX7) (T := TX7) (N := 19) (v := .int (v.2 11)) hx hb hts hin7 hown hX hP 0 rfl rfl rfl 11 (by decide) rfl (by decide +kernel) rfl dX7_keep_1 ?_
  refine kb_rw (y := nI kp) hkp ?_
  refine lv_iconst (v := 2) hx hb dX7_keep_4 (by decide) ?_
  refine lv_icmp_ne (tgt := 11) hx hb dX7_keep_5 (by decide) (fun c_5 => ?_) (fun c_5 => ?_)
  · refine lv_aload_n hx hb dX7_keep_11 rfl (lv_at hl 0 rfl) ?_
    refine lv_dup hx hb dX7_keep_12 rfl ?_
    refine kb_get (own := RX7) (C := RX7) (T := TX7) (N := 19) (v := .int (v.2 11)) hx hb hts hin7 hown hX hP 0 rfl rfl rfl 11 (by decide) rfl (by decide +kernel) rfl dX7_keep_13 ?_
    refine kb_rw (y := nI kp) hkp ?_
    refine lv_iconst (v := 1) hx hb dX7_keep_16 (by decide) ?_
    refine lv_iadd hx hb dX7_keep_17 ?_
    refine kb_rw (y := nI (kp + 1)) (nI_1 _) ?_
    have hkp2 : kp < 2 := by rcases Nat.lt_or_ge kp 2 with h | h; exact h; exact absurd (by rw [show kp = 2 by omega]; rfl) c_5
    refine kb_put (own := RX7) (C := RX7) (T := TX7) (N := 19) hx hb hts hin7 tyX7 tyX7_ok nmX7 (ty := .int) hown hX hP hD hS 0 rfl rfl rfl 11 (by decide) rfl (by decide +kernel) (by decide +kernel) rfl rfl (Nat.le_of_ble_eq_true rfl) dX7_keep_18 (bX7_I11 a G v (nI (kp + 1))) (fun H locs hP hD hS => ?_)
    have hP : PP G [bX7 a G (setI v 11 (nI (kp + 1)))] H := hP
    have hD : DD (AA (List.flatten [bX7 a G v])) [bX7 a G (setI v 11 (nI (kp + 1)))] := D_re hD (adc (bX7_ad _ _ _ _) adn)
    refine lv_aload_n hx hb dX7_keep_21 rfl (lv_at hl 0 rfl) ?_
    refine lv_iconst (v := 0) hx hb dX7_keep_22 (by decide) ?_
    refine lv_aload_n hx hb dX7_keep_23 rfl (lv_at hl 0 rfl) ?_
    refine kb_get (own := RX7) (C := RX7) (T := TX7) (N := 19) (v := .int (nI (kp + 1))) hx hb hts hin7 hown hX hP 0 rfl rfl rfl 11 (by decide) rfl (by decide +kernel) rfl dX7_keep_24 ?_
    refine kcV_s hx hb hml hown hts hX hP hD hS (c_X7_copies l G a (setI v 11 (nI (kp + 1))) 0 (kp + 1) (by omega) (by omega)) gX7_keep_X7_copies 2 rfl rfl rfl hd_X7_copies ⟨Nat.le_of_ble_eq_true rfl, Nat.le_of_ble_eq_true rfl⟩ [0] (by decide) rfl 0 rfl rfl rfl hl.1 rfl rfl (Nat.le_of_ble_eq_true rfl) dX7_keep_27 ⟨Nat.zero_le _, Nat.zero_le _⟩ (fun r_ bc_ hq_1 H locs hP hD hS => ?_)
    obtain ⟨rfl, rfl⟩ := hq_1
    have hP : PP G [bX7 a G (setA (setI v 11 (nI (kp + 1))) 10 (g_copies ((v.1 10)) 0 (kp + 1)))] H := hP
    have hD : DD (AA (List.flatten [bX7 a G v])) [bX7 a G (setA (setI v 11 (nI (kp + 1))) 10 (g_copies ((v.1 10)) 0 (kp + 1)))] := D_re hD (adc (bX7_ad _ _ _ _) adn)
    refine lv_aload_n hx hb dX7_keep_30 rfl (lv_at hl 0 rfl) ?_
    refine kb_get (own := RX7) (C := RX7) (T := TX7) (N := 19) (v := .int (nI (kp + 1))) hx hb hts hin7 hown hX hP 0 rfl rfl rfl 11 (by decide) rfl (by decide +kernel) rfl dX7_keep_31 ?_
    have hP : PP G [bX7 a G (g_keepV v kp)] H := by
      simp only [g_keepV, if_neg c_5]
      try simp only [ov_n1, ov_m1, ov_nc, ov_mc, ov_c] at hP ⊢
      exact hP
    exact kr_si hx hb hr hlocks dX7_keep_34 hP hS (sameAd_cons (bX7_ad _ _ _ _) sameAd_nil) ⟨by simp only [g_keepR, if_neg c_5] <;> rfl, rfl⟩
  · refine lv_bipush (v := (-3)) hx hb dX7_keep_8 (by decide) ?_
    have hP : PP G [bX7 a G (g_keepV v kp)] H := by
      simp only [g_keepV, if_pos c_5]
      try simp only [ov_n1, ov_m1, ov_nc, ov_mc, ov_c] at hP ⊢
      exact hP
    exact kr_si hx hb hr hlocks dX7_keep_10 hP hS (sameAd_cons (bX7_ad _ _ _ _) sameAd_nil) ⟨by simp only [g_keepR, if_pos c_5] <;> rfl, rfl⟩

def rm_X7_back : Room := { frames := 1, cells := 0, slots := 0, locals := 23 }
theorem hd_X7_back : yX7_back.cls = RX7 ∧ yX7_back.cls ≠ "java/lang/invoke/MethodHandle" ∧ yX7_back.cls ≠ "java/lang/invoke/VarHandle" ∧ (parseMethodDescriptor yX7_back.desc).map (fun d => d.parameters.length) = some 0 := by decide +kernel
set_option maxRecDepth 100000 in
set_option maxHeartbeats 4000000 in
theorem c_X7_back (l : Launch) (G : GD) (a : Nat → Nat) (v : OV) (kp : Nat) (hkp : v.2 11 = nI kp) (hk2 : kp ≤ 2) : MetS l yX7_back wsX7_back rm_X7_back G [bX7 a G v] [.ref (a 0)] (fun r bc => r = some (.int (g_backR kp)) ∧ bc = [bX7 a G (g_backV v kp)]) := by
  refine kb_beginS (cc := cX7_back) (maxL := 1) (ret := (some .int)) (by decide) rfl (Nat.le_of_ble_eq_true rfl) ?_
  intro p e s m below meth c hx hb hr hml hown hts hlocks hX H locs hP hD hS ls hl
  have hown : s.vm.findClass RX7 = some m.cls := hown
  have hl : lv_has ls 1 [(0, .ref (a 0))] := hl
  have hin7 : ∀ w ∈ u_ws RX7 TX7 19, w ∈ wsX7_back := (fun _ h => List.mem_cons_of_mem _ (List.mem_append_right _ (h)))
  refine lv_aload_n hx hb dX7_back_0 rfl (lv_at hl 0 rfl) ?_
  refine kb_get (own := RX7) (C := RX7) (T := TX7) (N := 19) (v := .int (v.2 11)) hx hb hts hin7 hown hX hP 0 rfl rfl rfl 11 (by decide) rfl (by decide +kernel) rfl dX7_back_1 ?_
  refine kb_rw (y := nI kp) hkp ?_
  refine lv_if_ne (tgt := 10) hx hb dX7_back_4 (by decide) (fun c_4 => ?_) (fun c_4 => ?_)
  · refine lv_aload_n hx hb dX7_back_10 rfl (lv_at hl 0 rfl) ?_
    refine lv_aload_n hx hb dX7_back_11 rfl (lv_at hl 0 rfl) ?_
    refine kb_get (own := RX7) (C := RX7) (T := TX7) (N := 19) (v := .int (v.2 11)) hx hb hts hin7 hown hX hP 0 rfl rfl rfl 11 (by decide) rfl (by decide +kernel) rfl dX7_back_12 ?_
    refine kb_rw (y := nI kp) hkp ?_
    refine lv_iconst (v := 0) hx hb dX7_back_15 (by decide) ?_
    refine kcV_s hx hb hml hown hts hX hP hD hS (c_X7_copies l G a v kp 0 (by omega) (by omega)) gX7_back_X7_copies 2 rfl rfl rfl hd_X7_copies ⟨Nat.le_of_ble_eq_true rfl, Nat.le_of_ble_eq_true rfl⟩ [0] (by decide) rfl 0 rfl rfl rfl hl.1 rfl rfl (Nat.le_of_ble_eq_true rfl) dX7_back_16 ⟨Nat.zero_le _, Nat.zero_le _⟩ (fun r_ bc_ hq_1 H locs hP hD hS => ?_)
    obtain ⟨rfl, rfl⟩ := hq_1
    have hP : PP G [bX7 a G (setA v 10 (g_copies ((v.1 10)) kp 0))] H := hP
    have hD : DD (AA (List.flatten [bX7 a G v])) [bX7 a G (setA v 10 (g_copies ((v.1 10)) kp 0))] := D_re hD (adc (bX7_ad _ _ _ _) adn)
    refine lv_aload_n hx hb dX7_back_19 rfl (lv_at hl 0 rfl) ?_
    refine lv_dup hx hb dX7_back_20 rfl ?_
    refine kb_get (own := RX7) (C := RX7) (T := TX7) (N := 19) (v := .int (v.2 11)) hx hb hts hin7 hown hX hP 0 rfl rfl rfl 11 (by decide) rfl (by decide +kernel) rfl dX7_back_21 ?_
    refine kb_rw (y := nI kp) hkp ?_
    refine lv_iconst (v := 1) hx hb dX7_back_24 (by decide) ?_
    refine lv_isub hx hb dX7_back_25 ?_
    refine kb_rw (y := nI (kp - 1)) (nI_pm c_4) ?_
    refine kb_put (own := RX7) (C := RX7) (T := TX7) (N := 19) hx hb hts hin7 tyX7 tyX7_ok nmX7 (ty := .int) hown hX hP hD hS 0 rfl rfl rfl 11 (by decide) rfl (by decide +kernel) (by decide +kernel) rfl rfl (Nat.le_of_ble_eq_true rfl) dX7_back_26 (bX7_I11 a G (setA v 10 (g_copies ((v.1 10)) kp 0)) (nI (kp - 1))) (fun H locs hP hD hS => ?_)
    have hP : PP G [bX7 a G (setI (setA v 10 (g_copies ((v.1 10)) kp 0)) 11 (nI (kp - 1)))] H := hP
    have hD : DD (AA (List.flatten [bX7 a G v])) [bX7 a G (setI (setA v 10 (g_copies ((v.1 10)) kp 0)) 11 (nI (kp - 1)))] := D_re hD (adc (bX7_ad _ _ _ _) adn)
    refine lv_aload_n hx hb dX7_back_29 rfl (lv_at hl 0 rfl) ?_
    refine lv_iconst (v := 0) hx hb dX7_back_30 (by decide) ?_
    refine kb_put (own := RX7) (C := RX7) (T := TX7) (N := 19) hx hb hts hin7 tyX7 tyX7_ok nmX7 (ty := .int) hown hX hP hD hS 0 rfl rfl rfl 12 (by decide) rfl (by decide +kernel) (by decide +kernel) rfl rfl (Nat.le_of_ble_eq_true rfl) dX7_back_31 (bX7_I12 a G (setI (setA v 10 (g_copies ((v.1 10)) kp 0)) 11 (nI (kp - 1))) 0) (fun H locs hP hD hS => ?_)
    have hP : PP G [bX7 a G (setI (setI (setA v 10 (g_copies ((v.1 10)) kp 0)) 11 (nI (kp - 1))) 12 0)] H := hP
    have hD : DD (AA (List.flatten [bX7 a G v])) [bX7 a G (setI (setI (setA v 10 (g_copies ((v.1 10)) kp 0)) 11 (nI (kp - 1))) 12 0)] := D_re hD (adc (bX7_ad _ _ _ _) adn)
    refine lv_aload_n hx hb dX7_back_34 rfl (lv_at hl 0 rfl) ?_
    refine kb_get (own := RX7) (C := RX7) (T := TX7) (N := 19) (v := .int (nI (kp - 1))) hx hb hts hin7 hown hX hP 0 rfl rfl rfl 11 (by decide) rfl (by decide +kernel) rfl dX7_back_35 ?_
    have hP : PP G [bX7 a G (g_backV v kp)] H := by
      simp only [g_backV, if_neg c_4]
      try simp only [ov_n1, ov_m1, ov_nc, ov_mc, ov_c] at hP ⊢
      exact hP
    exact kr_si hx hb hr hlocks dX7_back_38 hP hS (sameAd_cons (bX7_ad _ _ _ _) sameAd_nil) ⟨by simp only [g_backR, if_neg c_4] <;> rfl, rfl⟩
  · refine lv_bipush (v := (-2)) hx hb dX7_back_7 (by decide) ?_
    have hP : PP G [bX7 a G (g_backV v kp)] H := by
      simp only [g_backV, if_pos c_4]
      try simp only [ov_n1, ov_m1, ov_nc, ov_mc, ov_c] at hP ⊢
      exact hP
    exact kr_si hx hb hr hlocks dX7_back_9 hP hS (sameAd_cons (bX7_ad _ _ _ _) sameAd_nil) ⟨by simp only [g_backR, if_pos c_4] <;> rfl, rfl⟩

def rm_X7_go : Room := { frames := 2, cells := 0, slots := 0, locals := 50 }
theorem hd_X7_go : yX7_go.cls = RX7 ∧ yX7_go.cls ≠ "java/lang/invoke/MethodHandle" ∧ yX7_go.cls ≠ "java/lang/invoke/VarHandle" ∧ (parseMethodDescriptor yX7_go.desc).map (fun d => d.parameters.length) = some 3 := by decide +kernel
set_option maxRecDepth 100000 in
set_option maxHeartbeats 4000000 in
theorem c_X7_go (l : Launch) (G : GD) (a : Nat → Nat) (v : OV) (x1 : Int32) (x2 : Int32) (x3 : Int32) (hDc : ¬ v.1 4 0 < 0) (hD8 : (v.1 4 0).toNatClampNeg ≤ 8) (hL : ¬ v.1 7 0 < 0) (hL4 : (v.1 7 0).toNatClampNeg ≤ 4) (hdn : ¬ v.2 12 < 0) (hd8 : (v.2 12).toNatClampNeg ≤ 8) : MetS l yX7_go wsX7_go rm_X7_go G [bX7 a G v] [.ref (a 0), .int x1, .int x2, .int x3] (fun r bc => r = some (.int (g_goR v x1 x2)) ∧ bc = [bX7 a G (g_goV v x1 x2 x3)]) := by
  refine kb_beginS (cc := cX7_go) (maxL := 4) (ret := (some .int)) (by decide) rfl (Nat.le_of_ble_eq_true rfl) ?_
  intro p e s m below meth c hx hb hr hml hown hts hlocks hX H locs hP hD hS ls hl
  have hown : s.vm.findClass RX7 = some m.cls := hown
  have hl : lv_has ls 4 [(0, .ref (a 0)), (1, .int x1), (2, .int x2), (3, .int x3)] := hl
  have hin7 : ∀ w ∈ u_ws RX7 TX7 19, w ∈ wsX7_go := (fun _ h => List.mem_cons_of_mem _ (List.mem_append_right _ (h)))
  refine lv_aload_n hx hb dX7_go_0 rfl (lv_at hl 0 rfl) ?_
  refine lv_iload_n hx hb dX7_go_1 rfl (lv_at hl 1 rfl) ?_
  refine kcV_p hx hb hml hown hts hX hP (c_X7_isLodger l G a v x1) gX7_go_X7_isLodger 1 rfl rfl rfl hd_X7_isLodger ⟨Nat.le_of_ble_eq_true rfl, Nat.le_of_ble_eq_true rfl⟩ [0] rfl 0 rfl rfl rfl hl.1 rfl rfl (Nat.le_of_ble_eq_true rfl) dX7_go_2 ⟨Nat.zero_le _, Nat.zero_le _⟩ ?_
  refine kb_rw (y := b2i (gIsDoor ((v.1 7)) x1)) rfl ?_
  refine lv_if_eq (tgt := 16) hx hb dX7_go_5 (by decide) (fun c_5r => ?_) (fun c_5r => ?_)
  · have c_5 := b2i_fN c_5r
    refine lv_iconst (v := (-1)) hx hb dX7_go_16 (by decide) ?_
    have hP : PP G [bX7 a G (g_goV v x1 x2 x3)] H := by
      simp only [g_goV, if_neg c_5]
      try simp only [ov_n1, ov_m1, ov_nc, ov_mc, ov_c] at hP ⊢
      exact hP
    exact kr_si hx hb hr hlocks dX7_go_17 hP hS (sameAd_cons (bX7_ad _ _ _ _) sameAd_nil) ⟨by simp only [g_goR, if_neg c_5] <;> rfl, rfl⟩
  · have c_5 := b2i_tP c_5r
    have hn_x1 := isDoor_n c_5 hL
    have hb_x1 := hn_x1.2
    refine lv_aload_n hx hb dX7_go_8 rfl (lv_at hl 0 rfl) ?_
    refine lv_iload_n hx hb dX7_go_9 rfl (lv_at hl 2 rfl) ?_
    refine kcV_p hx hb hml hown hts hX hP (c_X7_isDoor l G a v x2) gX7_go_X7_isDoor 1 rfl rfl rfl hd_X7_isDoor ⟨Nat.le_of_ble_eq_true rfl, Nat.le_of_ble_eq_true rfl⟩ [0] rfl 0 rfl rfl rfl hl.1 rfl rfl (Nat.le_of_ble_eq_true rfl) dX7_go_10 ⟨Nat.zero_le _, Nat.zero_le _⟩ ?_
    refine kb_rw (y := b2i (gIsDoor ((v.1 4)) x2)) rfl ?_
    refine lv_if_ne (tgt := 18) hx hb dX7_go_13 (by decide) (fun c_13r => ?_) (fun c_13r => ?_)
    · have c_13 := b2i_tP c_13r
      have hn_x2 := isDoor_n c_13 hDc
      have hb_x2 := hn_x2.2
      refine lv_aload_n hx hb dX7_go_18 rfl (lv_at hl 0 rfl) ?_
      refine lv_iload_n hx hb dX7_go_19 rfl (lv_at hl 2 rfl) ?_
      refine kb_nat hn_x2.1 ?_
      refine lv_aload_n hx hb dX7_go_20 rfl (lv_at hl 0 rfl) ?_
      refine kb_get (own := RX7) (C := RX7) (T := TX7) (N := 19) (v := .ref (a 9)) hx hb hts hin7 hown hX hP 0 rfl rfl rfl 10 (by decide) rfl (by decide +kernel) rfl dX7_go_21 ?_
      refine lv_bipush (v := 40) hx hb dX7_go_24 (by decide) ?_
      refine lv_iload_n hx hb dX7_go_26 rfl (lv_at hl 1 rfl) ?_
      refine kb_nat hn_x1.1 ?_
      refine lv_iadd hx hb dX7_go_27 ?_
      refine kb_ialdN (jn := 40 + x1.toNatClampNeg) (n := 552) (f := v.1 10) hx hb hX hP 0 9 rfl rfl (by simp only [nI_addE, nI_mulE] <;> rfl) (by omega) (by decide) dX7_go_28 ?_
      refine kcV_p hx hb hml hown hts hX hP (c_X7_isOf l G a v x2.toNatClampNeg ((v.1 10) (40 + x1.toNatClampNeg)) (by omega)) gX7_go_X7_isOf 2 rfl rfl rfl hd_X7_isOf ⟨Nat.le_of_ble_eq_true rfl, Nat.le_of_ble_eq_true rfl⟩ [0] rfl 0 rfl rfl rfl hl.1 rfl rfl (Nat.le_of_ble_eq_true rfl) dX7_go_29 ⟨Nat.zero_le _, Nat.zero_le _⟩ ?_
      refine kb_rw (y := b2i (g_isOf ((v.1 5)) x2.toNatClampNeg ((v.1 10) (40 + x1.toNatClampNeg)))) rfl ?_
      refine lv_if_ne (tgt := 38) hx hb dX7_go_32 (by decide) (fun c_32r => ?_) (fun c_32r => ?_)
      · have c_32 := b2i_tP c_32r
        refine lv_aload_n hx hb dX7_go_38 rfl (lv_at hl 0 rfl) ?_
        refine kcV_s hx hb hml hown hts hX hP hD hS (c_X7_known l G a v hdn hd8) gX7_go_X7_known 0 rfl rfl rfl hd_X7_known ⟨Nat.le_of_ble_eq_true rfl, Nat.le_of_ble_eq_true rfl⟩ [0] (by decide) rfl 0 rfl rfl rfl hl.1 rfl rfl (Nat.le_of_ble_eq_true rfl) dX7_go_39 ⟨Nat.zero_le _, Nat.zero_le _⟩ (fun r_ bc_ hq_1 H locs hP hD hS => ?_)
        obtain ⟨rfl, rfl⟩ := hq_1
        have hP : PP G [bX7 a G (setI (setA v 10 (g_knownS ((v.1 10)) ((v.2 12)))) 12 (g_knownD ((v.2 12))))] H := hP
        have hD : DD (AA (List.flatten [bX7 a G v])) [bX7 a G (setI (setA v 10 (g_knownS ((v.1 10)) ((v.2 12)))) 12 (g_knownD ((v.2 12))))] := D_re hD (adc (bX7_ad _ _ _ _) adn)
        refine lv_aload_n hx hb dX7_go_42 rfl (lv_at hl 0 rfl) ?_
        refine lv_iconst (v := 0) hx hb dX7_go_43 (by decide) ?_
        refine lv_iload_n hx hb dX7_go_44 rfl (lv_at hl 1 rfl) ?_
        refine kb_nat hn_x1.1 ?_
        refine lv_iload_n hx hb dX7_go_45 rfl (lv_at hl 2 rfl) ?_
        refine kb_nat hn_x2.1 ?_
        refine lv_iload_n hx hb dX7_go_46 rfl (lv_at hl 3 rfl) ?_
        refine kcV_s hx hb hml hown hts hX hP hD hS (c_X7_goes l G a (setI (setA v 10 (g_knownS ((v.1 10)) ((v.2 12)))) 12 (g_knownD ((v.2 12)))) 0 x1.toNatClampNeg x2.toNatClampNeg x3 (by omega) (by omega) (by omega)) gX7_go_X7_goes 4 rfl rfl rfl hd_X7_goes ⟨Nat.le_of_ble_eq_true rfl, Nat.le_of_ble_eq_true rfl⟩ [0] (by decide) rfl 0 rfl rfl rfl hl.1 rfl rfl (Nat.le_of_ble_eq_true rfl) dX7_go_47 ⟨Nat.zero_le _, Nat.zero_le _⟩ (fun r_ bc_ hq_2 H locs hP hD hS => ?_)
        obtain ⟨rfl, rfl⟩ := hq_2
        have hP : PP G [bX7 a G (setA (setI (setA v 10 (g_knownS ((v.1 10)) ((v.2 12)))) 12 (g_knownD ((v.2 12)))) 10 (g_goesS ((v.1 3)) ((v.1 8)) ((v.1 5)) ((g_knownS ((v.1 10)) ((v.2 12)))) 0 x1.toNatClampNeg x2.toNatClampNeg x3))] H := hP
        have hD : DD (AA (List.flatten [bX7 a G v])) [bX7 a G (setA (setI (setA v 10 (g_knownS ((v.1 10)) ((v.2 12)))) 12 (g_knownD ((v.2 12)))) 10 (g_goesS ((v.1 3)) ((v.1 8)) ((v.1 5)) ((g_knownS ((v.1 10)) ((v.2 12)))) 0 x1.toNatClampNeg x2.toNatClampNeg x3))] := D_re hD (adc (bX7_ad _ _ _ _) adn)
        refine kb_rw (y := g_costs ((g_knownS ((v.1 10)) ((v.2 12)))) 0 x2.toNatClampNeg x1.toNatClampNeg) rfl ?_
        have hP : PP G [bX7 a G (g_goV v x1 x2 x3)] H := by
          simp only [g_goV, if_pos c_5, if_pos c_13, if_pos c_32]
          try simp only [ov_n1, ov_m1, ov_nc, ov_mc, ov_c] at hP ⊢
          exact hP
        exact kr_si hx hb hr hlocks dX7_go_50 hP hS (sameAd_cons (bX7_ad _ _ _ _) sameAd_nil) ⟨by simp only [g_goR, if_pos c_5, if_pos c_13, if_pos c_32] <;> rfl, rfl⟩
      · have c_32 := b2i_fN c_32r
        refine lv_bipush (v := (-2)) hx hb dX7_go_35 (by decide) ?_
        have hP : PP G [bX7 a G (g_goV v x1 x2 x3)] H := by
          simp only [g_goV, if_pos c_5, if_pos c_13, if_neg c_32]
          try simp only [ov_n1, ov_m1, ov_nc, ov_mc, ov_c] at hP ⊢
          exact hP
        exact kr_si hx hb hr hlocks dX7_go_37 hP hS (sameAd_cons (bX7_ad _ _ _ _) sameAd_nil) ⟨by simp only [g_goR, if_pos c_5, if_pos c_13, if_neg c_32] <;> rfl, rfl⟩
    · have c_13 := b2i_fN c_13r
      refine lv_iconst (v := (-1)) hx hb dX7_go_16 (by decide) ?_
      have hP : PP G [bX7 a G (g_goV v x1 x2 x3)] H := by
        simp only [g_goV, if_pos c_5, if_neg c_13]
        try simp only [ov_n1, ov_m1, ov_nc, ov_mc, ov_c] at hP ⊢
        exact hP
      exact kr_si hx hb hr hlocks dX7_go_17 hP hS (sameAd_cons (bX7_ad _ _ _ _) sameAd_nil) ⟨by simp only [g_goR, if_pos c_5, if_neg c_13] <;> rfl, rfl⟩

def rm_X7_oil : Room := { frames := 2, cells := 0, slots := 0, locals := 46 }
theorem hd_X7_oil : yX7_oil.cls = RX7 ∧ yX7_oil.cls ≠ "java/lang/invoke/MethodHandle" ∧ yX7_oil.cls ≠ "java/lang/invoke/VarHandle" ∧ (parseMethodDescriptor yX7_oil.desc).map (fun d => d.parameters.length) = some 1 := by decide +kernel
set_option maxRecDepth 100000 in
set_option maxHeartbeats 4000000 in
theorem c_X7_oil (l : Launch) (G : GD) (a : Nat → Nat) (v : OV) (x1 : Int32) (hDc : ¬ v.1 4 0 < 0) (hD8 : (v.1 4 0).toNatClampNeg ≤ 8) (hdn : ¬ v.2 12 < 0) (hd8 : (v.2 12).toNatClampNeg ≤ 8) : MetS l yX7_oil wsX7_oil rm_X7_oil G [bX7 a G v] [.ref (a 0), .int x1] (fun r bc => r = some (.int (g_oilR v x1)) ∧ bc = [bX7 a G (g_oilV v x1)]) := by
  refine kb_beginS (cc := cX7_oil) (maxL := 4) (ret := (some .int)) (by decide) rfl (Nat.le_of_ble_eq_true rfl) ?_
  intro p e s m below meth c hx hb hr hml hown hts hlocks hX H locs hP hD hS ls hl
  have hown : s.vm.findClass RX7 = some m.cls := hown
  have hl : lv_has ls 4 [(0, .ref (a 0)), (1, .int x1)] := hl
  have hin7 : ∀ w ∈ u_ws RX7 TX7 19, w ∈ wsX7_oil := (fun _ h => List.mem_cons_of_mem _ (List.mem_append_right _ (h)))
  refine lv_aload_n hx hb dX7_oil_0 rfl (lv_at hl 0 rfl) ?_
  refine lv_iload_n hx hb dX7_oil_1 rfl (lv_at hl 1 rfl) ?_
  refine kcV_p hx hb hml hown hts hX hP (c_X7_isDoor l G a v x1) gX7_oil_X7_isDoor 1 rfl rfl rfl hd_X7_isDoor ⟨Nat.le_of_ble_eq_true rfl, Nat.le_of_ble_eq_true rfl⟩ [0] rfl 0 rfl rfl rfl hl.1 rfl rfl (Nat.le_of_ble_eq_true rfl) dX7_oil_2 ⟨Nat.zero_le _, Nat.zero_le _⟩ ?_
  refine kb_rw (y := b2i (gIsDoor ((v.1 4)) x1)) rfl ?_
  refine lv_if_ne (tgt := 10) hx hb dX7_oil_5 (by decide) (fun c_5r => ?_) (fun c_5r => ?_)
  · have c_5 := b2i_tP c_5r
    have hn_x1 := isDoor_n c_5 hDc
    have hb_x1 := hn_x1.2
    refine lv_aload_n hx hb dX7_oil_10 rfl (lv_at hl 0 rfl) ?_
    refine kcV_s hx hb hml hown hts hX hP hD hS (c_X7_known l G a v hdn hd8) gX7_oil_X7_known 0 rfl rfl rfl hd_X7_known ⟨Nat.le_of_ble_eq_true rfl, Nat.le_of_ble_eq_true rfl⟩ [0] (by decide) rfl 0 rfl rfl rfl hl.1 rfl rfl (Nat.le_of_ble_eq_true rfl) dX7_oil_11 ⟨Nat.zero_le _, Nat.zero_le _⟩ (fun r_ bc_ hq_1 H locs hP hD hS => ?_)
    obtain ⟨rfl, rfl⟩ := hq_1
    have hP : PP G [bX7 a G (setI (setA v 10 (g_knownS ((v.1 10)) ((v.2 12)))) 12 (g_knownD ((v.2 12))))] H := hP
    have hD : DD (AA (List.flatten [bX7 a G v])) [bX7 a G (setI (setA v 10 (g_knownS ((v.1 10)) ((v.2 12)))) 12 (g_knownD ((v.2 12))))] := D_re hD (adc (bX7_ad _ _ _ _) adn)
    refine lv_aload_n hx hb dX7_oil_14 rfl (lv_at hl 0 rfl) ?_
    refine kb_get (own := RX7) (C := RX7) (T := TX7) (N := 19) (v := .ref (a 9)) hx hb hts hin7 hown hX hP 0 rfl rfl rfl 10 (by decide) rfl (by decide +kernel) rfl dX7_oil_15 ?_
    refine lv_bipush (v := 32) hx hb dX7_oil_18 (by decide) ?_
    refine lv_iload_n hx hb dX7_oil_20 rfl (lv_at hl 1 rfl) ?_
    refine kb_nat hn_x1.1 ?_
    refine lv_iadd hx hb dX7_oil_21 ?_
    refine lv_aload_n hx hb dX7_oil_22 rfl (lv_at hl 0 rfl) ?_
    refine kb_get (own := RX7) (C := RX7) (T := TX7) (N := 19) (v := .ref (a 2)) hx hb hts hin7 hown hX hP 0 rfl rfl rfl 3 (by decide) rfl (by decide +kernel) rfl dX7_oil_23 ?_
    refine lv_iconst (v := 4) hx hb dX7_oil_26 (by decide) ?_
    refine kb_ialdN (jn := 4) (n := 10) (f := v.1 3) hx hb hX hP 0 2 rfl rfl rfl (by omega) (by decide) dX7_oil_27 ?_
    refine kb_iastN (jn := 32 + x1.toNatClampNeg) (n := 552) (f := g_knownS ((v.1 10)) ((v.2 12))) hx hb hX hP hD hS 0 9 rfl rfl (by simp only [nI_addE, nI_mulE] <;> rfl) (by omega) (by decide) dX7_oil_28 (bX7_A10 a G (setI (setA v 10 (g_knownS ((v.1 10)) ((v.2 12)))) 12 (g_knownD ((v.2 12)))) (upd (g_knownS ((v.1 10)) ((v.2 12))) (32 + x1.toNatClampNeg) ((v.1 3) 4))) (fun H locs hP hD hS => ?_)
    have hP : PP G [bX7 a G (setA (setI (setA v 10 (g_knownS ((v.1 10)) ((v.2 12)))) 12 (g_knownD ((v.2 12)))) 10 (upd (g_knownS ((v.1 10)) ((v.2 12))) (32 + x1.toNatClampNeg) ((v.1 3) 4)))] H := hP
    have hD : DD (AA (List.flatten [bX7 a G v])) [bX7 a G (setA (setI (setA v 10 (g_knownS ((v.1 10)) ((v.2 12)))) 12 (g_knownD ((v.2 12)))) 10 (upd (g_knownS ((v.1 10)) ((v.2 12))) (32 + x1.toNatClampNeg) ((v.1 3) 4)))] := D_re hD (adc (bX7_ad _ _ _ _) adn)
    refine lv_iconst (v := 0) hx hb dX7_oil_29 (by decide) ?_
    refine lv_istore_n (lv' := [(2, .int 0), (0, .ref (a 0)), (1, .int x1)]) hx hb dX7_oil_30 rfl hl (by decide) rfl (fun ls hl => ?_)
    refine lv_iconst (v := 0) hx hb dX7_oil_31 (by decide) ?_
    refine lv_istore_n (lv' := [(3, .int 0), (2, .int 0), (0, .ref (a 0)), (1, .int x1)]) hx hb dX7_oil_32 rfl hl (by decide) rfl (fun ls hl => ?_)
    refine lp_up (N := (v.1 4 0).toNatClampNeg) (P := fun k => ∀ (H : Heap) (locs : List Loc) (ls : Array Slot), PP G [bX7 a G (setA (setI (setA v 10 (g_knownS ((v.1 10)) ((v.2 12)))) 12 (g_knownD ((v.2 12)))) 10 (upd (g_knownS ((v.1 10)) ((v.2 12))) (32 + x1.toNatClampNeg) ((v.1 3) 4)))] H → DD (AA (List.flatten [bX7 a G v])) [bX7 a G (setA (setI (setA v 10 (g_knownS ((v.1 10)) ((v.2 12)))) 12 (g_knownD ((v.2 12)))) 10 (upd (g_knownS ((v.1 10)) ((v.2 12))) (32 + x1.toNatClampNeg) ((v.1 3) 4)))] → va_S (AA (List.flatten [bX7 a G v])) s.heap H locs → lv_has ls 4 [(3, .int (nI k)), (2, .int (itN (s_oiln (g_oilS v x1)) 0 k)), (0, .ref (a 0)), (1, .int x1)] →  W p l e (headSpec wsX7_oil rm_X7_oil).room s m ([.ref (a 0), .int x1] : List Value).toArray below meth c H locs 0 0 (MQ below (kQs G [bX7 a G v] (fun r bc => r = some (.int (g_oilR v x1)) ∧ bc = [bX7 a G (g_oilV v x1)])) ([.ref (a 0), .int x1] : List Value).toArray s 0 0 (AA (List.flatten [bX7 a G v]))) (F0 m 33 ls [])) ?_ ?_ 0 (Nat.zero_le _)  _ _ _ hP hD hS (lv_sub hl [0, 1, 2, 3] rfl) 
    · skip
      intro H locs ls hP hD hS hl 
      refine lv_iload_n hx hb dX7_oil_33 rfl (lv_at hl 0 rfl) ?_
      refine lv_aload_n hx hb dX7_oil_34 rfl (lv_at hl 2 rfl) ?_
      refine kb_get (own := RX7) (C := RX7) (T := TX7) (N := 19) (v := .ref (a 3)) hx hb hts hin7 hown hX hP 0 rfl rfl rfl 4 (by decide) rfl (by decide +kernel) rfl dX7_oil_35 ?_
      refine lv_iconst (v := 0) hx hb dX7_oil_38 (by decide) ?_
      refine kb_ialdN (jn := 0) (n := 2) (f := v.1 4) hx hb hX hP 0 3 rfl rfl rfl (by omega) (by decide) dX7_oil_39 ?_
      refine lv_icmp_ge (tgt := 69) hx hb dX7_oil_40 (by decide) (fun c_40 => ?_) (fun c_40 => absurd (lpx_c _) c_40)
      refine lv_iload_n hx hb dX7_oil_69 rfl (lv_at hl 1 rfl) ?_
      have hP : PP G [bX7 a G (g_oilV v x1)] H := by
        simp only [g_oilV, if_pos c_5, if_pos c_40]
        try simp only [ov_n1, ov_m1, ov_nc, ov_mc, ov_c] at hP ⊢
        exact hP
      exact kr_si hx hb hr hlocks dX7_oil_70 hP hS (sameAd_cons (bX7_ad _ _ _ _) sameAd_nil) ⟨by simp only [g_oilR, if_pos c_5, if_pos c_40] <;> rfl, rfl⟩
    · skip
      intro k hk_k ih_33 H locs ls hP hD hS hl 
      refine lv_iload_n hx hb dX7_oil_33 rfl (lv_at hl 0 rfl) ?_
      refine lv_aload_n hx hb dX7_oil_34 rfl (lv_at hl 2 rfl) ?_
      refine kb_get (own := RX7) (C := RX7) (T := TX7) (N := 19) (v := .ref (a 3)) hx hb hts hin7 hown hX hP 0 rfl rfl rfl 4 (by decide) rfl (by decide +kernel) rfl dX7_oil_35 ?_
      refine lv_iconst (v := 0) hx hb dX7_oil_38 (by decide) ?_
      refine kb_ialdN (jn := 0) (n := 2) (f := v.1 4) hx hb hX hP 0 3 rfl rfl rfl (by omega) (by decide) dX7_oil_39 ?_
      refine lv_icmp_ge (tgt := 69) hx hb dX7_oil_40 (by decide) (fun c_40 => absurd c_40 (lps_c hk_k)) (fun c_40 => ?_)
      refine lv_iload_n hx hb dX7_oil_43 rfl (lv_at hl 1 rfl) ?_
      refine lv_aload_n hx hb dX7_oil_44 rfl (lv_at hl 2 rfl) ?_
      refine kb_get (own := RX7) (C := RX7) (T := TX7) (N := 19) (v := .ref (a 9)) hx hb hts hin7 hown hX hP 0 rfl rfl rfl 10 (by decide) rfl (by decide +kernel) rfl dX7_oil_45 ?_
      refine lv_bipush (v := 32) hx hb dX7_oil_48 (by decide) ?_
      refine lv_iload_n hx hb dX7_oil_50 rfl (lv_at hl 0 rfl) ?_
      refine lv_iadd hx hb dX7_oil_51 ?_
      refine kb_ialdN (jn := 32 + k) (n := 552) (f := upd (g_knownS ((v.1 10)) ((v.2 12))) (32 + x1.toNatClampNeg) ((v.1 3) 4)) hx hb hX hP 0 9 rfl rfl (by simp only [nI_addE, nI_mulE] <;> rfl) (by omega) (by decide) dX7_oil_52 ?_
      refine lv_if_le (tgt := 60) hx hb dX7_oil_53 (by decide) (fun c_53 => ?_) (fun c_53 => ?_)
      · refine lv_iconst (v := 0) hx hb dX7_oil_60 (by decide) ?_
        refine lv_iadd hx hb dX7_oil_61 ?_
        refine lv_istore_n (lv' := [(2, .int ((itN (s_oiln (g_oilS v x1)) 0 k) + 0)), (3, .int (nI k)), (0, .ref (a 0)), (1, .int x1)]) hx hb dX7_oil_62 rfl hl (by decide) rfl (fun ls hl => ?_)
        refine lv_iinc (v := nI (k + 1)) (lv' := [(3, .int (nI (k + 1))), (2, .int ((itN (s_oiln (g_oilS v x1)) 0 k) + 0)), (0, .ref (a 0)), (1, .int x1)]) hx hb dX7_oil_63 hl (k := 1) rfl (nI_1 _) (by decide) rfl (fun ls hl => ?_)
        refine lv_goto (tgt := 33) hx hb dX7_oil_66 (by decide) ?_
        have hP : PP G [bX7 a G (setA (setI (setA v 10 (g_knownS ((v.1 10)) ((v.2 12)))) 12 (g_knownD ((v.2 12)))) 10 (upd (g_knownS ((v.1 10)) ((v.2 12))) (32 + x1.toNatClampNeg) ((v.1 3) 4)))] H := hP
        have hD : DD (AA (List.flatten [bX7 a G v])) [bX7 a G (setA (setI (setA v 10 (g_knownS ((v.1 10)) ((v.2 12)))) 12 (g_knownD ((v.2 12)))) 10 (upd (g_knownS ((v.1 10)) ((v.2 12))) (32 + x1.toNatClampNeg) ((v.1 3) 4)))] := D_re hD (adc (bX7_ad _ _ _ _) adn)
        exact ih_33  _ _ _ hP hD hS (by rw [itN_s]; simp only [s_oiln, if_pos c_5, if_neg c_40, if_pos c_53]; exact lv_sub hl [0, 1, 2, 3] rfl) 
      · refine lv_iconst (v := 1) hx hb dX7_oil_56 (by decide) ?_
        refine lv_goto (tgt := 61) hx hb dX7_oil_57 (by decide) ?_
        refine lv_iadd hx hb dX7_oil_61 ?_
        refine lv_istore_n (lv' := [(2, .int ((itN (s_oiln (g_oilS v x1)) 0 k) + 1)), (3, .int (nI k)), (0, .ref (a 0)), (1, .int x1)]) hx hb dX7_oil_62 rfl hl (by decide) rfl (fun ls hl => ?_)
        refine lv_iinc (v := nI (k + 1)) (lv' := [(3, .int (nI (k + 1))), (2, .int ((itN (s_oiln (g_oilS v x1)) 0 k) + 1)), (0, .ref (a 0)), (1, .int x1)]) hx hb dX7_oil_63 hl (k := 1) rfl (nI_1 _) (by decide) rfl (fun ls hl => ?_)
        refine lv_goto (tgt := 33) hx hb dX7_oil_66 (by decide) ?_
        have hP : PP G [bX7 a G (setA (setI (setA v 10 (g_knownS ((v.1 10)) ((v.2 12)))) 12 (g_knownD ((v.2 12)))) 10 (upd (g_knownS ((v.1 10)) ((v.2 12))) (32 + x1.toNatClampNeg) ((v.1 3) 4)))] H := hP
        have hD : DD (AA (List.flatten [bX7 a G v])) [bX7 a G (setA (setI (setA v 10 (g_knownS ((v.1 10)) ((v.2 12)))) 12 (g_knownD ((v.2 12)))) 10 (upd (g_knownS ((v.1 10)) ((v.2 12))) (32 + x1.toNatClampNeg) ((v.1 3) 4)))] := D_re hD (adc (bX7_ad _ _ _ _) adn)
        exact ih_33  _ _ _ hP hD hS (by rw [itN_s]; simp only [s_oiln, if_pos c_5, if_neg c_40, if_neg c_53]; exact lv_sub hl [0, 1, 2, 3] rfl) 
  · have c_5 := b2i_fN c_5r
    refine lv_iconst (v := (-1)) hx hb dX7_oil_8 (by decide) ?_
    have hP : PP G [bX7 a G (g_oilV v x1)] H := by
      simp only [g_oilV, if_neg c_5]
      try simp only [ov_n1, ov_m1, ov_nc, ov_mc, ov_c] at hP ⊢
      exact hP
    exact kr_si hx hb hr hlocks dX7_oil_9 hP hS (sameAd_cons (bX7_ad _ _ _ _) sameAd_nil) ⟨by simp only [g_oilR, if_neg c_5] <;> rfl, rfl⟩

def rm_X7_night : Room := { frames := 2, cells := 0, slots := 0, locals := 44 }
theorem hd_X7_night : yX7_night.cls = RX7 ∧ yX7_night.cls ≠ "java/lang/invoke/MethodHandle" ∧ yX7_night.cls ≠ "java/lang/invoke/VarHandle" ∧ (parseMethodDescriptor yX7_night.desc).map (fun d => d.parameters.length) = some 1 := by decide +kernel
set_option maxRecDepth 100000 in
set_option maxHeartbeats 4000000 in
theorem c_X7_night (l : Launch) (G : GD) (a : Nat → Nat) (v : OV) (x1 : Int32) (hdn : ¬ v.2 12 < 0) (hd8 : (v.2 12).toNatClampNeg ≤ 8) (hD8 : (v.1 4 0).toNatClampNeg ≤ 8) (hL4 : (v.1 7 0).toNatClampNeg ≤ 4) (hRx : ∀ d, d < (v.1 4 0).toNatClampNeg → vp_in (v.1 5 (3 * d + 2)) 8) : MetS l yX7_night wsX7_night rm_X7_night G [bX7 a G v] [.ref (a 0), .int x1] (fun r bc => r = some (.int (g_nightR v x1)) ∧ bc = [bX7 a G (g_nightV v x1)]) := by
  refine kb_beginS (cc := cX7_night) (maxL := 3) (ret := (some .int)) (by decide) rfl (Nat.le_of_ble_eq_true rfl) ?_
  intro p e s m below meth c hx hb hr hml hown hts hlocks hX H locs hP hD hS ls hl
  have hown : s.vm.findClass RX7 = some m.cls := hown
  have hl : lv_has ls 3 [(0, .ref (a 0)), (1, .int x1)] := hl
  have hin7 : ∀ w ∈ u_ws RX7 TX7 19, w ∈ wsX7_night := (fun _ h => List.mem_cons_of_mem _ (List.mem_append_right _ (h)))
  refine lv_iload_n hx hb dX7_night_0 rfl (lv_at hl 1 rfl) ?_
  refine lv_i2l (v := (x1 : Int32).toInt64) hx hb dX7_night_1 rfl ?_
  refine lv_lconst (v := 1) hx hb dX7_night_2 (by decide) ?_
  refine lv_ldc2 (own := RX7) (v := 60) hx hb hown (hts (.constantLong RX7 153 60) (by decide +kernel)) dX7_night_3 ?_
  refine kcS_p hx hb hml hown hts hX hP (c_X7_in l G ((x1 : Int32).toInt64) 1 60) gX7_night_X7_in 3 rfl rfl rfl hdS_X7_in ⟨Nat.le_of_ble_eq_true rfl, Nat.le_of_ble_eq_true rfl⟩ (fun q hq => absurd hq List.not_mem_nil) hl.1 rfl rfl (Nat.le_of_ble_eq_true rfl) dX7_night_6 ⟨Nat.zero_le _, Nat.zero_le _⟩ ?_
  refine lv_if_ne (tgt := 14) hx hb dX7_night_9 (by decide) (fun c_9r => ?_) (fun c_9r => ?_)
  · have c_9 := b2i_tP c_9r
    refine lv_aload_n hx hb dX7_night_14 rfl (lv_at hl 0 rfl) ?_
    refine kb_get (own := RX7) (C := RX7) (T := TX7) (N := 19) (v := .ref (a 9)) hx hb hts hin7 hown hX hP 0 rfl rfl rfl 10 (by decide) rfl (by decide +kernel) rfl dX7_night_15 ?_
    refine lv_bipush (v := 45) hx hb dX7_night_18 (by decide) ?_
    refine kb_ialdN (jn := 45) (n := 552) (f := v.1 10) hx hb hX hP 0 9 rfl rfl rfl (by omega) (by decide) dX7_night_20 ?_
    refine lv_iload_n hx hb dX7_night_21 rfl (lv_at hl 1 rfl) ?_
    refine lv_iadd hx hb dX7_night_22 ?_
    refine lv_sipush (v := 9999) hx hb dX7_night_23 (by decide) ?_
    refine lv_icmp_le (tgt := 32) hx hb dX7_night_26 (by decide) (fun c_26 => ?_) (fun c_26 => ?_)
    · refine lv_aload_n hx hb dX7_night_32 rfl (lv_at hl 0 rfl) ?_
      refine kcV_s hx hb hml hown hts hX hP hD hS (c_X7_known l G a v hdn hd8) gX7_night_X7_known 0 rfl rfl rfl hd_X7_known ⟨Nat.le_of_ble_eq_true rfl, Nat.le_of_ble_eq_true rfl⟩ [0] (by decide) rfl 0 rfl rfl rfl hl.1 rfl rfl (Nat.le_of_ble_eq_true rfl) dX7_night_33 ⟨Nat.zero_le _, Nat.zero_le _⟩ (fun r_ bc_ hq_1 H locs hP hD hS => ?_)
      obtain ⟨rfl, rfl⟩ := hq_1
      have hP : PP G [bX7 a G (setI (setA v 10 (g_knownS ((v.1 10)) ((v.2 12)))) 12 (g_knownD ((v.2 12))))] H := hP
      have hD : DD (AA (List.flatten [bX7 a G v])) [bX7 a G (setI (setA v 10 (g_knownS ((v.1 10)) ((v.2 12)))) 12 (g_knownD ((v.2 12))))] := D_re hD (adc (bX7_ad _ _ _ _) adn)
      refine lv_iconst (v := 0) hx hb dX7_night_36 (by decide) ?_
      refine lv_istore_n (lv' := [(2, .int 0), (0, .ref (a 0)), (1, .int x1)]) hx hb dX7_night_37 rfl hl (by decide) rfl (fun ls hl => ?_)
      have eOV0 : (setA (setA (setI v 12 (g_knownD (v.2 12))) 13 ((g_nightN v 0).2)) 10 ((g_nightN v 0).1)) = (setI (setA v 10 (g_knownS ((v.1 10)) ((v.2 12)))) 12 (g_knownD ((v.2 12)))) := by
        refine Prod.ext (funext fun u => ?_) (funext fun u => ?_)
        · by_cases h13 : u = 13
          · subst h13; rfl
          · skip
            by_cases h10 : u = 10
            · subst h10; rfl
            · skip
              simp only [setA, setI, if_neg h13, if_neg h10]
        · by_cases h12 : u = 12
          · subst h12; rfl
          · skip
            simp only [setA, setI, if_neg h12]
      have hP : PP G [bX7 a G (setA (setA (setI v 12 (g_knownD (v.2 12))) 13 ((g_nightN v 0).2)) 10 ((g_nightN v 0).1))] H := by rw [eOV0]; exact hP
      have hD : DD (AA (List.flatten [bX7 a G v])) [bX7 a G (setA (setA (setI v 12 (g_knownD (v.2 12))) 13 ((g_nightN v 0).2)) 10 ((g_nightN v 0).1))] := D_re hD (adc (bX7_ad _ _ _ _) adn)
      refine lp_up (N := x1.toNatClampNeg) (P := fun k => ∀ (H : Heap) (locs : List Loc) (ls : Array Slot), PP G [bX7 a G (setA (setA (setI v 12 (g_knownD (v.2 12))) 13 ((g_nightN v k).2)) 10 ((g_nightN v k).1))] H → DD (AA (List.flatten [bX7 a G v])) [bX7 a G (setA (setA (setI v 12 (g_knownD (v.2 12))) 13 ((g_nightN v k).2)) 10 ((g_nightN v k).1))] → va_S (AA (List.flatten [bX7 a G v])) s.heap H locs → lv_has ls 3 [(2, .int (nI k)), (0, .ref (a 0)), (1, .int x1)] →  W p l e (headSpec wsX7_night rm_X7_night).room s m ([.ref (a 0), .int x1] : List Value).toArray below meth c H locs 0 0 (MQ below (kQs G [bX7 a G v] (fun r bc => r = some (.int (g_nightR v x1)) ∧ bc = [bX7 a G (g_nightV v x1)])) ([.ref (a 0), .int x1] : List Value).toArray s 0 0 (AA (List.flatten [bX7 a G v]))) (F0 m 38 ls [])) ?_ ?_ 0 (Nat.zero_le _)  _ _ _ hP hD hS (lv_sub hl [0, 1, 2] rfl) 
      · skip
        intro H locs ls hP hD hS hl 
        refine lv_iload_n hx hb dX7_night_38 rfl (lv_at hl 0 rfl) ?_
        refine lv_iload_n hx hb dX7_night_39 rfl (lv_at hl 2 rfl) ?_
        refine lv_icmp_ge (tgt := 54) hx hb dX7_night_40 (by decide) (fun c_40 => ?_) (fun c_40 => absurd (lpx_c _) c_40)
        refine lv_aload_n hx hb dX7_night_54 rfl (lv_at hl 1 rfl) ?_
        refine kb_get (own := RX7) (C := RX7) (T := TX7) (N := 19) (v := .ref (a 9)) hx hb hts hin7 hown hX hP 0 rfl rfl rfl 10 (by decide) rfl (by decide +kernel) rfl dX7_night_55 ?_
        refine lv_bipush (v := 45) hx hb dX7_night_58 (by decide) ?_
        refine kb_ialdN (jn := 45) (n := 552) (f := (g_nightN v x1.toNatClampNeg).1) hx hb hX hP 0 9 rfl rfl rfl (by omega) (by decide) dX7_night_60 ?_
        have hP : PP G [bX7 a G (g_nightV v x1)] H := by
          simp only [g_nightV, if_pos c_9, if_pos c_26, if_pos c_40]
          try simp only [ov_n1, ov_m1, ov_nc, ov_mc, ov_c] at hP ⊢
          exact hP
        exact kr_si hx hb hr hlocks dX7_night_61 hP hS (sameAd_cons (bX7_ad _ _ _ _) sameAd_nil) ⟨by simp only [g_nightR, if_pos c_9, if_pos c_26, if_pos c_40] <;> rfl, rfl⟩
      · skip
        intro k hk_k ih_38 H locs ls hP hD hS hl 
        refine lv_iload_n hx hb dX7_night_38 rfl (lv_at hl 0 rfl) ?_
        refine lv_iload_n hx hb dX7_night_39 rfl (lv_at hl 2 rfl) ?_
        refine lv_icmp_ge (tgt := 54) hx hb dX7_night_40 (by decide) (fun c_40 => absurd c_40 (lps_c hk_k)) (fun c_40 => ?_)
        refine lv_aload_n hx hb dX7_night_43 rfl (lv_at hl 1 rfl) ?_
        refine lv_iconst (v := 0) hx hb dX7_night_44 (by decide) ?_
        refine kcV_s hx hb hml hown hts hX hP hD hS (c_X7_nights l G a (setA (setA (setI v 12 (g_knownD (v.2 12))) 13 ((g_nightN v k).2)) 10 ((g_nightN v k).1)) 0 (by omega) hD8 hL4 hRx) gX7_night_X7_nights 1 rfl rfl rfl hd_X7_nights ⟨Nat.le_of_ble_eq_true rfl, Nat.le_of_ble_eq_true rfl⟩ [0] (by decide) rfl 0 rfl rfl rfl hl.1 rfl rfl (Nat.le_of_ble_eq_true rfl) dX7_night_45 ⟨Nat.zero_le _, Nat.zero_le _⟩ (fun r_ bc_ hq_2 H locs hP hD hS => ?_)
        obtain ⟨rfl, rfl⟩ := hq_2
        have hP : PP G [bX7 a G (setA (setA (setA (setA (setI v 12 (g_knownD (v.2 12))) 13 ((g_nightN v k).2)) 10 ((g_nightN v k).1)) 13 (g_was (((g_nightN v k).1)) (((g_nightN v k).2)) 0)) 10 (g_nights ((v.1 3)) ((v.1 5)) ((v.1 7)) ((v.1 4)) ((v.1 6)) (((g_nightN v k).1)) (((g_nightN v k).2)) 0))] H := hP
        have hD : DD (AA (List.flatten [bX7 a G v])) [bX7 a G (setA (setA (setA (setA (setI v 12 (g_knownD (v.2 12))) 13 ((g_nightN v k).2)) 10 ((g_nightN v k).1)) 13 (g_was (((g_nightN v k).1)) (((g_nightN v k).2)) 0)) 10 (g_nights ((v.1 3)) ((v.1 5)) ((v.1 7)) ((v.1 4)) ((v.1 6)) (((g_nightN v k).1)) (((g_nightN v k).2)) 0))] := D_re hD (adc (bX7_ad _ _ _ _) adn)
        refine lv_iinc (v := nI (k + 1)) (lv' := [(2, .int (nI (k + 1))), (0, .ref (a 0)), (1, .int x1)]) hx hb dX7_night_48 hl (k := 0) rfl (nI_1 _) (by decide) rfl (fun ls hl => ?_)
        refine lv_goto (tgt := 38) hx hb dX7_night_51 (by decide) ?_
        have hP : PP G [bX7 a G (setA (setA (setI v 12 (g_knownD (v.2 12))) 13 ((g_nightN v (k + 1)).2)) 10 ((g_nightN v (k + 1)).1))] H := by
          try simp only [ov_n1, ov_m1, ov_nc, ov_mc, ov_c] at hP ⊢
          exact hP
        have hD : DD (AA (List.flatten [bX7 a G v])) [bX7 a G (setA (setA (setI v 12 (g_knownD (v.2 12))) 13 ((g_nightN v (k + 1)).2)) 10 ((g_nightN v (k + 1)).1))] := D_re hD (adc (bX7_ad _ _ _ _) adn)
        exact ih_38  _ _ _ hP hD hS (show lv_has ls 3 [(2, .int (nI (k + 1))), (0, .ref (a 0)), (1, .int x1)] from lv_sub hl [0, 1, 2] rfl) 
    · refine lv_bipush (v := (-2)) hx hb dX7_night_29 (by decide) ?_
      have hP : PP G [bX7 a G (g_nightV v x1)] H := by
        simp only [g_nightV, if_pos c_9, if_neg c_26]
        try simp only [ov_n1, ov_m1, ov_nc, ov_mc, ov_c] at hP ⊢
        exact hP
      exact kr_si hx hb hr hlocks dX7_night_31 hP hS (sameAd_cons (bX7_ad _ _ _ _) sameAd_nil) ⟨by simp only [g_nightR, if_pos c_9, if_neg c_26] <;> rfl, rfl⟩
  · have c_9 := b2i_fN c_9r
    refine lv_iconst (v := (-1)) hx hb dX7_night_12 (by decide) ?_
    have hP : PP G [bX7 a G (g_nightV v x1)] H := by
      simp only [g_nightV, if_neg c_9]
      try simp only [ov_n1, ov_m1, ov_nc, ov_mc, ov_c] at hP ⊢
      exact hP
    exact kr_si hx hb hr hlocks dX7_night_13 hP hS (sameAd_cons (bX7_ad _ _ _ _) sameAd_nil) ⟨by simp only [g_nightR, if_neg c_9] <;> rfl, rfl⟩

def rm_X7_way : Room := { frames := 3, cells := 0, slots := 0, locals := 76 }
theorem hd_X7_way : yX7_way.cls = RX7 ∧ yX7_way.cls ≠ "java/lang/invoke/MethodHandle" ∧ yX7_way.cls ≠ "java/lang/invoke/VarHandle" ∧ (parseMethodDescriptor yX7_way.desc).map (fun d => d.parameters.length) = some 3 := by decide +kernel
set_option maxRecDepth 100000 in
set_option maxHeartbeats 4000000 in
theorem c_X7_way (l : Launch) (G : GD) (a : Nat → Nat) (v : OV) (x1 : Int32) (x2 : Int32) (x3 : Int32) (hDc : ¬ v.1 4 0 < 0) (hD8 : (v.1 4 0).toNatClampNeg ≤ 8) (hL : ¬ v.1 7 0 < 0) (hL4 : (v.1 7 0).toNatClampNeg ≤ 4) (hT : ¬ v.1 3 0 < 0) (hT6 : (v.1 3 0).toNatClampNeg ≤ 6) (hR : ∀ d, d < (v.1 4 0).toNatClampNeg → vp_in (v.1 5 (3 * d)) 6 ∧ vp_in (v.1 5 (3 * d + 1)) 6) : MetS l yX7_way wsX7_way rm_X7_way G [bX7 a G v] [.ref (a 0), .int x1, .int x2, .int x3] (fun r bc => r = some (.int (g_wayR v x1 x2 x3)) ∧ bc = [bX7 a G (g_wayV v x1 x2 x3)]) := by
  refine kb_beginS (cc := cX7_way) (maxL := 4) (ret := (some .int)) (by decide) rfl (Nat.le_of_ble_eq_true rfl) ?_
  intro p e s m below meth c hx hb hr hml hown hts hlocks hX H locs hP hD hS ls hl
  have hown : s.vm.findClass RX7 = some m.cls := hown
  have hl : lv_has ls 4 [(0, .ref (a 0)), (1, .int x1), (2, .int x2), (3, .int x3)] := hl
  refine lv_aload_n hx hb dX7_way_0 rfl (lv_at hl 0 rfl) ?_
  refine lv_iload_n hx hb dX7_way_1 rfl (lv_at hl 1 rfl) ?_
  refine kcV_p hx hb hml hown hts hX hP (c_X7_isLodger l G a v x1) gX7_way_X7_isLodger 1 rfl rfl rfl hd_X7_isLodger ⟨Nat.le_of_ble_eq_true rfl, Nat.le_of_ble_eq_true rfl⟩ [0] rfl 0 rfl rfl rfl hl.1 rfl rfl (Nat.le_of_ble_eq_true rfl) dX7_way_2 ⟨Nat.zero_le _, Nat.zero_le _⟩ ?_
  refine kb_rw (y := b2i (gIsDoor ((v.1 7)) x1)) rfl ?_
  refine lv_if_eq (tgt := 35) hx hb dX7_way_5 (by decide) (fun c_5r => ?_) (fun c_5r => ?_)
  · have c_5 := b2i_fN c_5r
    refine lv_iconst (v := (-1)) hx hb dX7_way_35 (by decide) ?_
    have hP : PP G [bX7 a G (g_wayV v x1 x2 x3)] H := by
      simp only [g_wayV, if_neg c_5]
      try simp only [ov_n1, ov_m1, ov_nc, ov_mc, ov_c] at hP ⊢
      exact hP
    exact kr_si hx hb hr hlocks dX7_way_36 hP hS (sameAd_cons (bX7_ad _ _ _ _) sameAd_nil) ⟨by simp only [g_wayR, if_neg c_5] <;> rfl, rfl⟩
  · have c_5 := b2i_tP c_5r
    have hn_x1 := isDoor_n c_5 hL
    have hb_x1 := hn_x1.2
    refine lv_aload_n hx hb dX7_way_8 rfl (lv_at hl 0 rfl) ?_
    refine lv_iload_n hx hb dX7_way_9 rfl (lv_at hl 2 rfl) ?_
    refine kcV_p hx hb hml hown hts hX hP (c_X7_isRoom l G a v x2) gX7_way_X7_isRoom 1 rfl rfl rfl hd_X7_isRoom ⟨Nat.le_of_ble_eq_true rfl, Nat.le_of_ble_eq_true rfl⟩ [0] rfl 0 rfl rfl rfl hl.1 rfl rfl (Nat.le_of_ble_eq_true rfl) dX7_way_10 ⟨Nat.zero_le _, Nat.zero_le _⟩ ?_
    refine kb_rw (y := b2i (gIsDoor ((v.1 3)) x2)) rfl ?_
    refine lv_if_eq (tgt := 35) hx hb dX7_way_13 (by decide) (fun c_13r => ?_) (fun c_13r => ?_)
    · have c_13 := b2i_fN c_13r
      refine lv_iconst (v := (-1)) hx hb dX7_way_35 (by decide) ?_
      have hP : PP G [bX7 a G (g_wayV v x1 x2 x3)] H := by
        simp only [g_wayV, if_pos c_5, if_neg c_13]
        try simp only [ov_n1, ov_m1, ov_nc, ov_mc, ov_c] at hP ⊢
        exact hP
      exact kr_si hx hb hr hlocks dX7_way_36 hP hS (sameAd_cons (bX7_ad _ _ _ _) sameAd_nil) ⟨by simp only [g_wayR, if_pos c_5, if_neg c_13] <;> rfl, rfl⟩
    · have c_13 := b2i_tP c_13r
      have hn_x2 := isDoor_n c_13 hT
      have hb_x2 := hn_x2.2
      refine lv_aload_n hx hb dX7_way_16 rfl (lv_at hl 0 rfl) ?_
      refine lv_iload_n hx hb dX7_way_17 rfl (lv_at hl 3 rfl) ?_
      refine kcV_p hx hb hml hown hts hX hP (c_X7_isRoom l G a v x3) gX7_way_X7_isRoom 1 rfl rfl rfl hd_X7_isRoom ⟨Nat.le_of_ble_eq_true rfl, Nat.le_of_ble_eq_true rfl⟩ [0] rfl 0 rfl rfl rfl hl.1 rfl rfl (Nat.le_of_ble_eq_true rfl) dX7_way_18 ⟨Nat.zero_le _, Nat.zero_le _⟩ ?_
      refine kb_rw (y := b2i (gIsDoor ((v.1 3)) x3)) rfl ?_
      refine lv_if_eq (tgt := 35) hx hb dX7_way_21 (by decide) (fun c_21r => ?_) (fun c_21r => ?_)
      · have c_21 := b2i_fN c_21r
        refine lv_iconst (v := (-1)) hx hb dX7_way_35 (by decide) ?_
        have hP : PP G [bX7 a G (g_wayV v x1 x2 x3)] H := by
          simp only [g_wayV, if_pos c_5, if_pos c_13, if_neg c_21]
          try simp only [ov_n1, ov_m1, ov_nc, ov_mc, ov_c] at hP ⊢
          exact hP
        exact kr_si hx hb hr hlocks dX7_way_36 hP hS (sameAd_cons (bX7_ad _ _ _ _) sameAd_nil) ⟨by simp only [g_wayR, if_pos c_5, if_pos c_13, if_neg c_21] <;> rfl, rfl⟩
      · have c_21 := b2i_tP c_21r
        refine lv_aload_n hx hb dX7_way_24 rfl (lv_at hl 0 rfl) ?_
        refine lv_iconst (v := 0) hx hb dX7_way_25 (by decide) ?_
        refine lv_iload_n hx hb dX7_way_26 rfl (lv_at hl 1 rfl) ?_
        refine kb_nat hn_x1.1 ?_
        refine lv_iload_n hx hb dX7_way_27 rfl (lv_at hl 2 rfl) ?_
        refine kb_nat hn_x2.1 ?_
        refine lv_iload_n hx hb dX7_way_28 rfl (lv_at hl 3 rfl) ?_
        refine kcV_s hx hb hml hown hts hX hP hD hS (c_X7_wayOf l G a v 0 x1.toNatClampNeg x2.toNatClampNeg x3 (by omega) (by omega) (by omega) hD8 hR) gX7_way_X7_wayOf 4 rfl rfl rfl hd_X7_wayOf ⟨Nat.le_of_ble_eq_true rfl, Nat.le_of_ble_eq_true rfl⟩ [0] (by decide) rfl 0 rfl rfl rfl hl.1 rfl rfl (Nat.le_of_ble_eq_true rfl) dX7_way_29 ⟨Nat.zero_le _, Nat.zero_le _⟩ (fun r_ bc_ hq_1 H locs hP hD hS => ?_)
        obtain ⟨rfl, rfl⟩ := hq_1
        have hP : PP G [bX7 a G (setA v 14 (g_ways ((v.1 5)) ((v.1 10)) ((v.1 4)) ((v.1 14)) 0 x1.toNatClampNeg x3 0))] H := hP
        have hD : DD (AA (List.flatten [bX7 a G v])) [bX7 a G (setA v 14 (g_ways ((v.1 5)) ((v.1 10)) ((v.1 4)) ((v.1 14)) 0 x1.toNatClampNeg x3 0))] := D_re hD (adc (bX7_ad _ _ _ _) adn)
        refine kb_rw (y := g_wayOf ((v.1 5)) ((v.1 10)) ((v.1 4)) ((v.1 14)) 0 x1.toNatClampNeg x2.toNatClampNeg x3) rfl ?_
        refine lv_goto (tgt := 36) hx hb dX7_way_32 (by decide) ?_
        have hP : PP G [bX7 a G (g_wayV v x1 x2 x3)] H := by
          simp only [g_wayV, if_pos c_5, if_pos c_13, if_pos c_21]
          try simp only [ov_n1, ov_m1, ov_nc, ov_mc, ov_c] at hP ⊢
          exact hP
        exact kr_si hx hb hr hlocks dX7_way_36 hP hS (sameAd_cons (bX7_ad _ _ _ _) sameAd_nil) ⟨by simp only [g_wayR, if_pos c_5, if_pos c_13, if_pos c_21] <;> rfl, rfl⟩

def rm_X7_first : Room := { frames := 4, cells := 0, slots := 0, locals := 102 }
theorem hd_X7_first : yX7_first.cls = RX7 ∧ yX7_first.cls ≠ "java/lang/invoke/MethodHandle" ∧ yX7_first.cls ≠ "java/lang/invoke/VarHandle" ∧ (parseMethodDescriptor yX7_first.desc).map (fun d => d.parameters.length) = some 3 := by decide +kernel
set_option maxRecDepth 100000 in
set_option maxHeartbeats 4000000 in
theorem c_X7_first (l : Launch) (G : GD) (a : Nat → Nat) (v : OV) (x1 : Int32) (x2 : Int32) (x3 : Int32) (hDc : ¬ v.1 4 0 < 0) (hD8 : (v.1 4 0).toNatClampNeg ≤ 8) (hL : ¬ v.1 7 0 < 0) (hL4 : (v.1 7 0).toNatClampNeg ≤ 4) (hT : ¬ v.1 3 0 < 0) (hT6 : (v.1 3 0).toNatClampNeg ≤ 6) (hR : ∀ d, d < (v.1 4 0).toNatClampNeg → vp_in (v.1 5 (3 * d)) 6 ∧ vp_in (v.1 5 (3 * d + 1)) 6) : MetS l yX7_first wsX7_first rm_X7_first G [bX7 a G v] [.ref (a 0), .int x1, .int x2, .int x3] (fun r bc => r = some (.int (g_firstR v x1 x2 x3)) ∧ bc = [bX7 a G (g_wayV v x1 x2 x3)]) := by
  refine kb_beginS (cc := cX7_first) (maxL := 4) (ret := (some .int)) (by decide) rfl (Nat.le_of_ble_eq_true rfl) ?_
  intro p e s m below meth c hx hb hr hml hown hts hlocks hX H locs hP hD hS ls hl
  have hown : s.vm.findClass RX7 = some m.cls := hown
  have hl : lv_has ls 4 [(0, .ref (a 0)), (1, .int x1), (2, .int x2), (3, .int x3)] := hl
  refine lv_aload_n hx hb dX7_first_0 rfl (lv_at hl 0 rfl) ?_
  refine lv_iload_n hx hb dX7_first_1 rfl (lv_at hl 1 rfl) ?_
  refine kcV_p hx hb hml hown hts hX hP (c_X7_isLodger l G a v x1) gX7_first_X7_isLodger 1 rfl rfl rfl hd_X7_isLodger ⟨Nat.le_of_ble_eq_true rfl, Nat.le_of_ble_eq_true rfl⟩ [0] rfl 0 rfl rfl rfl hl.1 rfl rfl (Nat.le_of_ble_eq_true rfl) dX7_first_2 ⟨Nat.zero_le _, Nat.zero_le _⟩ ?_
  refine kb_rw (y := b2i (gIsDoor ((v.1 7)) x1)) rfl ?_
  refine lv_if_eq (tgt := 35) hx hb dX7_first_5 (by decide) (fun c_5r => ?_) (fun c_5r => ?_)
  · have c_5 := b2i_fN c_5r
    refine lv_iconst (v := (-1)) hx hb dX7_first_35 (by decide) ?_
    have hP : PP G [bX7 a G (g_wayV v x1 x2 x3)] H := by
      simp only [g_wayV, if_neg c_5]
      try simp only [ov_n1, ov_m1, ov_nc, ov_mc, ov_c] at hP ⊢
      exact hP
    exact kr_si hx hb hr hlocks dX7_first_36 hP hS (sameAd_cons (bX7_ad _ _ _ _) sameAd_nil) ⟨by simp only [g_firstR, if_neg c_5] <;> rfl, rfl⟩
  · have c_5 := b2i_tP c_5r
    have hn_x1 := isDoor_n c_5 hL
    have hb_x1 := hn_x1.2
    refine lv_aload_n hx hb dX7_first_8 rfl (lv_at hl 0 rfl) ?_
    refine lv_iload_n hx hb dX7_first_9 rfl (lv_at hl 2 rfl) ?_
    refine kcV_p hx hb hml hown hts hX hP (c_X7_isRoom l G a v x2) gX7_first_X7_isRoom 1 rfl rfl rfl hd_X7_isRoom ⟨Nat.le_of_ble_eq_true rfl, Nat.le_of_ble_eq_true rfl⟩ [0] rfl 0 rfl rfl rfl hl.1 rfl rfl (Nat.le_of_ble_eq_true rfl) dX7_first_10 ⟨Nat.zero_le _, Nat.zero_le _⟩ ?_
    refine kb_rw (y := b2i (gIsDoor ((v.1 3)) x2)) rfl ?_
    refine lv_if_eq (tgt := 35) hx hb dX7_first_13 (by decide) (fun c_13r => ?_) (fun c_13r => ?_)
    · have c_13 := b2i_fN c_13r
      refine lv_iconst (v := (-1)) hx hb dX7_first_35 (by decide) ?_
      have hP : PP G [bX7 a G (g_wayV v x1 x2 x3)] H := by
        simp only [g_wayV, if_pos c_5, if_neg c_13]
        try simp only [ov_n1, ov_m1, ov_nc, ov_mc, ov_c] at hP ⊢
        exact hP
      exact kr_si hx hb hr hlocks dX7_first_36 hP hS (sameAd_cons (bX7_ad _ _ _ _) sameAd_nil) ⟨by simp only [g_firstR, if_pos c_5, if_neg c_13] <;> rfl, rfl⟩
    · have c_13 := b2i_tP c_13r
      have hn_x2 := isDoor_n c_13 hT
      have hb_x2 := hn_x2.2
      refine lv_aload_n hx hb dX7_first_16 rfl (lv_at hl 0 rfl) ?_
      refine lv_iload_n hx hb dX7_first_17 rfl (lv_at hl 3 rfl) ?_
      refine kcV_p hx hb hml hown hts hX hP (c_X7_isRoom l G a v x3) gX7_first_X7_isRoom 1 rfl rfl rfl hd_X7_isRoom ⟨Nat.le_of_ble_eq_true rfl, Nat.le_of_ble_eq_true rfl⟩ [0] rfl 0 rfl rfl rfl hl.1 rfl rfl (Nat.le_of_ble_eq_true rfl) dX7_first_18 ⟨Nat.zero_le _, Nat.zero_le _⟩ ?_
      refine kb_rw (y := b2i (gIsDoor ((v.1 3)) x3)) rfl ?_
      refine lv_if_eq (tgt := 35) hx hb dX7_first_21 (by decide) (fun c_21r => ?_) (fun c_21r => ?_)
      · have c_21 := b2i_fN c_21r
        refine lv_iconst (v := (-1)) hx hb dX7_first_35 (by decide) ?_
        have hP : PP G [bX7 a G (g_wayV v x1 x2 x3)] H := by
          simp only [g_wayV, if_pos c_5, if_pos c_13, if_neg c_21]
          try simp only [ov_n1, ov_m1, ov_nc, ov_mc, ov_c] at hP ⊢
          exact hP
        exact kr_si hx hb hr hlocks dX7_first_36 hP hS (sameAd_cons (bX7_ad _ _ _ _) sameAd_nil) ⟨by simp only [g_firstR, if_pos c_5, if_pos c_13, if_neg c_21] <;> rfl, rfl⟩
      · have c_21 := b2i_tP c_21r
        refine lv_aload_n hx hb dX7_first_24 rfl (lv_at hl 0 rfl) ?_
        refine lv_iconst (v := 0) hx hb dX7_first_25 (by decide) ?_
        refine lv_iload_n hx hb dX7_first_26 rfl (lv_at hl 1 rfl) ?_
        refine kb_nat hn_x1.1 ?_
        refine lv_iload_n hx hb dX7_first_27 rfl (lv_at hl 2 rfl) ?_
        refine kb_nat hn_x2.1 ?_
        refine lv_iload_n hx hb dX7_first_28 rfl (lv_at hl 3 rfl) ?_
        refine kcV_s hx hb hml hown hts hX hP hD hS (c_X7_firstOf l G a v 0 x1.toNatClampNeg x2.toNatClampNeg x3 (by omega) (by omega) (by omega) hD8 hR) gX7_first_X7_firstOf 4 rfl rfl rfl hd_X7_firstOf ⟨Nat.le_of_ble_eq_true rfl, Nat.le_of_ble_eq_true rfl⟩ [0] (by decide) rfl 0 rfl rfl rfl hl.1 rfl rfl (Nat.le_of_ble_eq_true rfl) dX7_first_29 ⟨Nat.zero_le _, Nat.zero_le _⟩ (fun r_ bc_ hq_1 H locs hP hD hS => ?_)
        obtain ⟨rfl, rfl⟩ := hq_1
        have hP : PP G [bX7 a G (setA v 14 (g_ways ((v.1 5)) ((v.1 10)) ((v.1 4)) ((v.1 14)) 0 x1.toNatClampNeg x3 0))] H := hP
        have hD : DD (AA (List.flatten [bX7 a G v])) [bX7 a G (setA v 14 (g_ways ((v.1 5)) ((v.1 10)) ((v.1 4)) ((v.1 14)) 0 x1.toNatClampNeg x3 0))] := D_re hD (adc (bX7_ad _ _ _ _) adn)
        refine kb_rw (y := g_firstOf ((v.1 5)) ((v.1 10)) ((v.1 4)) ((v.1 14)) 0 x1.toNatClampNeg x2.toNatClampNeg x3) rfl ?_
        refine lv_goto (tgt := 36) hx hb dX7_first_32 (by decide) ?_
        have hP : PP G [bX7 a G (g_wayV v x1 x2 x3)] H := by
          simp only [g_wayV, if_pos c_5, if_pos c_13, if_pos c_21]
          try simp only [ov_n1, ov_m1, ov_nc, ov_mc, ov_c] at hP ⊢
          exact hP
        exact kr_si hx hb hr hlocks dX7_first_36 hP hS (sameAd_cons (bX7_ad _ _ _ _) sameAd_nil) ⟨by simp only [g_firstR, if_pos c_5, if_pos c_13, if_pos c_21] <;> rfl, rfl⟩

def rm_X7_inTime : Room := { frames := 2, cells := 0, slots := 0, locals := 52 }
theorem hd_X7_inTime : yX7_inTime.cls = RX7 ∧ yX7_inTime.cls ≠ "java/lang/invoke/MethodHandle" ∧ yX7_inTime.cls ≠ "java/lang/invoke/VarHandle" ∧ (parseMethodDescriptor yX7_inTime.desc).map (fun d => d.parameters.length) = some 2 := by decide +kernel
set_option maxRecDepth 100000 in
set_option maxHeartbeats 4000000 in
theorem c_X7_inTime (l : Launch) (G : GD) (a : Nat → Nat) (v : OV) (x1 : Int32) (x2 : Int32) (hDc : ¬ v.1 4 0 < 0) (hD8 : (v.1 4 0).toNatClampNeg ≤ 8) (hL : ¬ v.1 7 0 < 0) (hL4 : (v.1 7 0).toNatClampNeg ≤ 4) (hR : ∀ d, d < (v.1 4 0).toNatClampNeg → vp_in (v.1 5 (3 * d)) 6 ∧ vp_in (v.1 5 (3 * d + 1)) 6) (hW : ∀ i, i < (v.1 7 0).toNatClampNeg → vp_in (v.1 10 (40 + i)) 6) : MetS l yX7_inTime wsX7_inTime rm_X7_inTime G [bX7 a G v] [.ref (a 0), .int x1, .int x2] (fun r bc => r = some (.int (g_inTimeR v x1 x2)) ∧ bc = [bX7 a G (g_inTimeV v x1 x2)]) := by
  refine kb_beginS (cc := cX7_inTime) (maxL := 5) (ret := (some .int)) (by decide) rfl (Nat.le_of_ble_eq_true rfl) ?_
  intro p e s m below meth c hx hb hr hml hown hts hlocks hX H locs hP hD hS ls hl
  have hown : s.vm.findClass RX7 = some m.cls := hown
  have hl : lv_has ls 5 [(0, .ref (a 0)), (1, .int x1), (2, .int x2)] := hl
  have hin7 : ∀ w ∈ u_ws RX7 TX7 19, w ∈ wsX7_inTime := (fun _ h => List.mem_cons_of_mem _ (List.mem_append_right _ (h)))
  refine lv_aload_n hx hb dX7_inTime_0 rfl (lv_at hl 0 rfl) ?_
  refine lv_iload_n hx hb dX7_inTime_1 rfl (lv_at hl 1 rfl) ?_
  refine kcV_p hx hb hml hown hts hX hP (c_X7_isLodger l G a v x1) gX7_inTime_X7_isLodger 1 rfl rfl rfl hd_X7_isLodger ⟨Nat.le_of_ble_eq_true rfl, Nat.le_of_ble_eq_true rfl⟩ [0] rfl 0 rfl rfl rfl hl.1 rfl rfl (Nat.le_of_ble_eq_true rfl) dX7_inTime_2 ⟨Nat.zero_le _, Nat.zero_le _⟩ ?_
  refine kb_rw (y := b2i (gIsDoor ((v.1 7)) x1)) rfl ?_
  refine lv_if_eq (tgt := 20) hx hb dX7_inTime_5 (by decide) (fun c_5r => ?_) (fun c_5r => ?_)
  · have c_5 := b2i_fN c_5r
    refine lv_iconst (v := (-1)) hx hb dX7_inTime_20 (by decide) ?_
    have hP : PP G [bX7 a G (g_inTimeV v x1 x2)] H := by
      simp only [g_inTimeV, if_neg c_5]
      try simp only [ov_n1, ov_m1, ov_nc, ov_mc, ov_c] at hP ⊢
      exact hP
    exact kr_si hx hb hr hlocks dX7_inTime_21 hP hS (sameAd_cons (bX7_ad _ _ _ _) sameAd_nil) ⟨by simp only [g_inTimeR, if_neg c_5] <;> rfl, rfl⟩
  · have c_5 := b2i_tP c_5r
    have hn_x1 := isDoor_n c_5 hL
    have hb_x1 := hn_x1.2
    have hbw := (cl_of_vp (hW _ hn_x1.2)).2
    refine lv_iload_n hx hb dX7_inTime_8 rfl (lv_at hl 2 rfl) ?_
    refine lv_i2l (v := (x2 : Int32).toInt64) hx hb dX7_inTime_9 rfl ?_
    refine lv_lconst (v := 0) hx hb dX7_inTime_10 (by decide) ?_
    refine lv_ldc2 (own := RX7) (v := 600) hx hb hown (hts (.constantLong RX7 174 600) (by decide +kernel)) dX7_inTime_11 ?_
    refine kcS_p hx hb hml hown hts hX hP (c_X7_in l G ((x2 : Int32).toInt64) 0 600) gX7_inTime_X7_in 3 rfl rfl rfl hdS_X7_in ⟨Nat.le_of_ble_eq_true rfl, Nat.le_of_ble_eq_true rfl⟩ (fun q hq => absurd hq List.not_mem_nil) hl.1 rfl rfl (Nat.le_of_ble_eq_true rfl) dX7_inTime_14 ⟨Nat.zero_le _, Nat.zero_le _⟩ ?_
    refine lv_if_ne (tgt := 22) hx hb dX7_inTime_17 (by decide) (fun c_17r => ?_) (fun c_17r => ?_)
    · have c_17 := b2i_tP c_17r
      refine lv_bipush (v := (-4)) hx hb dX7_inTime_22 (by decide) ?_
      refine lv_istore_n (lv' := [(3, .int (-4)), (0, .ref (a 0)), (1, .int x1), (2, .int x2)]) hx hb dX7_inTime_24 rfl hl (by decide) rfl (fun ls hl => ?_)
      refine lv_iconst (v := 0) hx hb dX7_inTime_25 (by decide) ?_
      refine lv_istore (lv' := [(4, .int 0), (3, .int (-4)), (0, .ref (a 0)), (1, .int x1), (2, .int x2)]) hx hb dX7_inTime_26 hl (by decide) rfl (fun ls hl => ?_)
      have eOV0 : (setA v 14 ((g_inT v x1 x2 0).2)) = v := by
        refine Prod.ext (funext fun u => ?_) (funext fun u => ?_)
        · by_cases h14 : u = 14
          · subst h14; rfl
          · skip
            simp only [setA, setI, if_neg h14]
        · rfl
      have hP : PP G [bX7 a G (setA v 14 ((g_inT v x1 x2 0).2))] H := by rw [eOV0]; exact hP
      have hD : DD (AA (List.flatten [bX7 a G v])) [bX7 a G (setA v 14 ((g_inT v x1 x2 0).2))] := D_re hD (adc (bX7_ad _ _ _ _) adn)
      refine lp_up (N := (n_sets v).toNatClampNeg) (P := fun k => ∀ (H : Heap) (locs : List Loc) (ls : Array Slot), PP G [bX7 a G (setA v 14 ((g_inT v x1 x2 k).2))] H → DD (AA (List.flatten [bX7 a G v])) [bX7 a G (setA v 14 ((g_inT v x1 x2 k).2))] → va_S (AA (List.flatten [bX7 a G v])) s.heap H locs → lv_has ls 5 [(4, .int (nI k)), (3, .int ((g_inT v x1 x2 k).1)), (0, .ref (a 0)), (1, .int x1), (2, .int x2)] →  W p l e (headSpec wsX7_inTime rm_X7_inTime).room s m ([.ref (a 0), .int x1, .int x2] : List Value).toArray below meth c H locs 0 0 (MQ below (kQs G [bX7 a G v] (fun r bc => r = some (.int (g_inTimeR v x1 x2)) ∧ bc = [bX7 a G (g_inTimeV v x1 x2)])) ([.ref (a 0), .int x1, .int x2] : List Value).toArray s 0 0 (AA (List.flatten [bX7 a G v]))) (F0 m 28 ls [])) ?_ ?_ 0 (Nat.zero_le _)  _ _ _ hP hD hS (lv_sub hl [0, 1, 2, 3, 4] rfl) 
      · skip
        intro H locs ls hP hD hS hl 
        refine lv_iload hx hb dX7_inTime_28 (lv_at hl 0 rfl) ?_
        refine lv_iconst (v := 1) hx hb dX7_inTime_30 (by decide) ?_
        refine lv_aload_n hx hb dX7_inTime_31 rfl (lv_at hl 2 rfl) ?_
        refine kb_get (own := RX7) (C := RX7) (T := TX7) (N := 19) (v := .ref (a 3)) hx hb hts hin7 hown hX hP 0 rfl rfl rfl 4 (by decide) rfl (by decide +kernel) rfl dX7_inTime_32 ?_
        refine lv_iconst (v := 0) hx hb dX7_inTime_35 (by decide) ?_
        refine kb_ialdN (jn := 0) (n := 2) (f := v.1 4) hx hb hX hP 0 3 rfl rfl rfl (by omega) (by decide) dX7_inTime_36 ?_
        refine lv_ishl hx hb dX7_inTime_37 ?_
        refine lv_icmp_ge (tgt := 106) hx hb dX7_inTime_38 (by decide) (fun c_38 => ?_) (fun c_38 => absurd (lpx_c _) c_38)
        refine lv_iload_n hx hb dX7_inTime_106 rfl (lv_at hl 1 rfl) ?_
        have hP : PP G [bX7 a G (g_inTimeV v x1 x2)] H := by
          simp only [g_inTimeV, if_pos c_5, if_pos c_17, if_pos c_38]
          try simp only [ov_n1, ov_m1, ov_nc, ov_mc, ov_c] at hP ⊢
          exact hP
        exact kr_si hx hb hr hlocks dX7_inTime_107 hP hS (sameAd_cons (bX7_ad _ _ _ _) sameAd_nil) ⟨by simp only [g_inTimeR, if_pos c_5, if_pos c_17, if_pos c_38] <;> rfl, rfl⟩
      · skip
        intro k hk_k ih_28 H locs ls hP hD hS hl 
        refine lv_iload hx hb dX7_inTime_28 (lv_at hl 0 rfl) ?_
        refine lv_iconst (v := 1) hx hb dX7_inTime_30 (by decide) ?_
        refine lv_aload_n hx hb dX7_inTime_31 rfl (lv_at hl 2 rfl) ?_
        refine kb_get (own := RX7) (C := RX7) (T := TX7) (N := 19) (v := .ref (a 3)) hx hb hts hin7 hown hX hP 0 rfl rfl rfl 4 (by decide) rfl (by decide +kernel) rfl dX7_inTime_32 ?_
        refine lv_iconst (v := 0) hx hb dX7_inTime_35 (by decide) ?_
        refine kb_ialdN (jn := 0) (n := 2) (f := v.1 4) hx hb hX hP 0 3 rfl rfl rfl (by omega) (by decide) dX7_inTime_36 ?_
        refine lv_ishl hx hb dX7_inTime_37 ?_
        refine lv_icmp_ge (tgt := 106) hx hb dX7_inTime_38 (by decide) (fun c_38 => absurd c_38 (lps_c hk_k)) (fun c_38 => ?_)
        refine lv_aload_n hx hb dX7_inTime_41 rfl (lv_at hl 2 rfl) ?_
        refine lv_iconst (v := 0) hx hb dX7_inTime_42 (by decide) ?_
        refine lv_iload_n hx hb dX7_inTime_43 rfl (lv_at hl 3 rfl) ?_
        refine kb_nat hn_x1.1 ?_
        refine lv_aload_n hx hb dX7_inTime_44 rfl (lv_at hl 2 rfl) ?_
        refine kb_get (own := RX7) (C := RX7) (T := TX7) (N := 19) (v := .ref (a 7)) hx hb hts hin7 hown hX hP 0 rfl rfl rfl 8 (by decide) rfl (by decide +kernel) rfl dX7_inTime_45 ?_
        refine lv_iconst (v := 3) hx hb dX7_inTime_48 (by decide) ?_
        refine lv_iload_n hx hb dX7_inTime_49 rfl (lv_at hl 3 rfl) ?_
        refine kb_nat hn_x1.1 ?_
        refine lv_imul hx hb dX7_inTime_50 ?_
        refine lv_iconst (v := 2) hx hb dX7_inTime_51 (by decide) ?_
        refine lv_iadd hx hb dX7_inTime_52 ?_
        refine kb_ialdN (jn := (3 * x1.toNatClampNeg) + 2) (n := 24) (f := v.1 8) hx hb hX hP 0 7 rfl rfl (by simp only [nI_addE, nI_mulE] <;> rfl) (by omega) (by decide) dX7_inTime_53 ?_
        refine lv_iload hx hb dX7_inTime_54 (lv_at hl 0 rfl) ?_
        refine kcV_s hx hb hml hown hts hX hP hD hS (c_X7_ways l G a (setA v 14 ((g_inT v x1 x2 k).2)) 0 x1.toNatClampNeg ((v.1 8) ((3 * x1.toNatClampNeg) + 2)) (nI k) (by omega) (by omega) hD8 hR) gX7_inTime_X7_ways 4 rfl rfl rfl hd_X7_ways ⟨Nat.le_of_ble_eq_true rfl, Nat.le_of_ble_eq_true rfl⟩ [0] (by decide) rfl 0 rfl rfl rfl hl.1 rfl rfl (Nat.le_of_ble_eq_true rfl) dX7_inTime_56 ⟨Nat.zero_le _, Nat.zero_le _⟩ (fun r_ bc_ hq_1 H locs hP hD hS => ?_)
        obtain ⟨rfl, rfl⟩ := hq_1
        have hP : PP G [bX7 a G (setA (setA v 14 ((g_inT v x1 x2 k).2)) 14 (g_ways ((v.1 5)) ((v.1 10)) ((v.1 4)) (((g_inT v x1 x2 k).2)) 0 x1.toNatClampNeg ((v.1 8) ((3 * x1.toNatClampNeg) + 2)) (nI k)))] H := hP
        have hD : DD (AA (List.flatten [bX7 a G v])) [bX7 a G (setA (setA v 14 ((g_inT v x1 x2 k).2)) 14 (g_ways ((v.1 5)) ((v.1 10)) ((v.1 4)) (((g_inT v x1 x2 k).2)) 0 x1.toNatClampNeg ((v.1 8) ((3 * x1.toNatClampNeg) + 2)) (nI k)))] := D_re hD (adc (bX7_ad _ _ _ _) adn)
        refine lv_aload_n hx hb dX7_inTime_59 rfl (lv_at hl 2 rfl) ?_
        refine kb_get (own := RX7) (C := RX7) (T := TX7) (N := 19) (v := .ref (a 11)) hx hb hts hin7 hown hX hP 0 rfl rfl rfl 14 (by decide) rfl (by decide +kernel) rfl dX7_inTime_60 ?_
        refine lv_aload_n hx hb dX7_inTime_63 rfl (lv_at hl 2 rfl) ?_
        refine kb_get (own := RX7) (C := RX7) (T := TX7) (N := 19) (v := .ref (a 9)) hx hb hts hin7 hown hX hP 0 rfl rfl rfl 10 (by decide) rfl (by decide +kernel) rfl dX7_inTime_64 ?_
        refine lv_bipush (v := 40) hx hb dX7_inTime_67 (by decide) ?_
        refine lv_iload_n hx hb dX7_inTime_69 rfl (lv_at hl 3 rfl) ?_
        refine kb_nat hn_x1.1 ?_
        refine lv_iadd hx hb dX7_inTime_70 ?_
        refine kb_ialdN (jn := 40 + x1.toNatClampNeg) (n := 552) (f := v.1 10) hx hb hX hP 0 9 rfl rfl (by simp only [nI_addE, nI_mulE] <;> rfl) (by omega) (by decide) dX7_inTime_71 ?_
        refine kb_nat ((cl_of_vp (hW _ hn_x1.2)).1) ?_
        refine kb_ialdN (jn := ((v.1 10) (40 + x1.toNatClampNeg)).toNatClampNeg) (n := 6) (f := g_ways ((v.1 5)) ((v.1 10)) ((v.1 4)) (((g_inT v x1 x2 k).2)) 0 x1.toNatClampNeg ((v.1 8) ((3 * x1.toNatClampNeg) + 2)) (nI k)) hx hb hX hP 0 11 rfl rfl rfl (by omega) (by decide) dX7_inTime_72 ?_
        refine lv_iload_n hx hb dX7_inTime_73 rfl (lv_at hl 4 rfl) ?_
        refine lv_icmp_gt (tgt := 98) hx hb dX7_inTime_74 (by decide) (fun c_74 => ?_) (fun c_74 => ?_)
        · refine lv_iload_n hx hb dX7_inTime_98 rfl (lv_at hl 1 rfl) ?_
          refine lv_istore_n (lv' := [(3, .int ((g_inT v x1 x2 k).1)), (4, .int (nI k)), (0, .ref (a 0)), (1, .int x1), (2, .int x2)]) hx hb dX7_inTime_99 rfl hl (by decide) rfl (fun ls hl => ?_)
          refine lv_iinc (v := nI (k + 1)) (lv' := [(4, .int (nI (k + 1))), (3, .int ((g_inT v x1 x2 k).1)), (0, .ref (a 0)), (1, .int x1), (2, .int x2)]) hx hb dX7_inTime_100 hl (k := 1) rfl (nI_1 _) (by decide) rfl (fun ls hl => ?_)
          refine lv_goto (tgt := 28) hx hb dX7_inTime_103 (by decide) ?_
          have hP : PP G [bX7 a G (setA v 14 ((g_inT v x1 x2 (k + 1)).2))] H := by
            rw [g_inT, itN_s, ← g_inT]
            simp only [s_inT]
            try simp only [ov_n1, ov_m1, ov_nc, ov_mc, ov_c] at hP ⊢
            exact hP
          have hD : DD (AA (List.flatten [bX7 a G v])) [bX7 a G (setA v 14 ((g_inT v x1 x2 (k + 1)).2))] := D_re hD (adc (bX7_ad _ _ _ _) adn)
          exact ih_28  _ _ _ hP hD hS (by rw [g_inT, itN_s, ← g_inT]; simp only [s_inT, if_pos c_5, if_pos c_17, if_neg c_38, if_pos c_74]; exact lv_sub hl [0, 1, 2, 3, 4] rfl) 
        · refine lv_iload_n hx hb dX7_inTime_77 rfl (lv_at hl 1 rfl) ?_
          refine lv_if_lt (tgt := 93) hx hb dX7_inTime_78 (by decide) (fun c_78 => ?_) (fun c_78 => ?_)
          · refine lv_iload hx hb dX7_inTime_93 (lv_at hl 0 rfl) ?_
            refine lv_goto (tgt := 99) hx hb dX7_inTime_95 (by decide) ?_
            refine lv_istore_n (lv' := [(3, .int (nI k)), (4, .int (nI k)), (0, .ref (a 0)), (1, .int x1), (2, .int x2)]) hx hb dX7_inTime_99 rfl hl (by decide) rfl (fun ls hl => ?_)
            refine lv_iinc (v := nI (k + 1)) (lv' := [(4, .int (nI (k + 1))), (3, .int (nI k)), (0, .ref (a 0)), (1, .int x1), (2, .int x2)]) hx hb dX7_inTime_100 hl (k := 1) rfl (nI_1 _) (by decide) rfl (fun ls hl => ?_)
            refine lv_goto (tgt := 28) hx hb dX7_inTime_103 (by decide) ?_
            have hP : PP G [bX7 a G (setA v 14 ((g_inT v x1 x2 (k + 1)).2))] H := by
              rw [g_inT, itN_s, ← g_inT]
              simp only [s_inT]
              try simp only [ov_n1, ov_m1, ov_nc, ov_mc, ov_c] at hP ⊢
              exact hP
            have hD : DD (AA (List.flatten [bX7 a G v])) [bX7 a G (setA v 14 ((g_inT v x1 x2 (k + 1)).2))] := D_re hD (adc (bX7_ad _ _ _ _) adn)
            exact ih_28  _ _ _ hP hD hS (by rw [g_inT, itN_s, ← g_inT]; simp only [s_inT, if_pos c_5, if_pos c_17, if_neg c_38, if_neg c_74, if_pos c_78]; exact lv_sub hl [0, 1, 2, 3, 4] rfl) 
          · refine lv_iload hx hb dX7_inTime_81 (lv_at hl 0 rfl) ?_
            refine kcS_p hx hb hml hown hts hX hP (c_X7_many l G (nI k)) gX7_inTime_X7_many 1 rfl rfl rfl hdS_X7_many ⟨Nat.le_of_ble_eq_true rfl, Nat.le_of_ble_eq_true rfl⟩ (fun q hq => absurd hq List.not_mem_nil) hl.1 rfl rfl (Nat.le_of_ble_eq_true rfl) dX7_inTime_83 ⟨Nat.zero_le _, Nat.zero_le _⟩ ?_
            refine lv_iload_n hx hb dX7_inTime_86 rfl (lv_at hl 1 rfl) ?_
            refine kcS_p hx hb hml hown hts hX hP (c_X7_many l G ((g_inT v x1 x2 k).1)) gX7_inTime_X7_many 1 rfl rfl rfl hdS_X7_many ⟨Nat.le_of_ble_eq_true rfl, Nat.le_of_ble_eq_true rfl⟩ (fun q hq => absurd hq List.not_mem_nil) hl.1 rfl rfl (Nat.le_of_ble_eq_true rfl) dX7_inTime_87 ⟨Nat.zero_le _, Nat.zero_le _⟩ ?_
            refine lv_icmp_ge (tgt := 98) hx hb dX7_inTime_90 (by decide) (fun c_90 => ?_) (fun c_90 => ?_)
            · refine lv_iload_n hx hb dX7_inTime_98 rfl (lv_at hl 1 rfl) ?_
              refine lv_istore_n (lv' := [(3, .int ((g_inT v x1 x2 k).1)), (4, .int (nI k)), (0, .ref (a 0)), (1, .int x1), (2, .int x2)]) hx hb dX7_inTime_99 rfl hl (by decide) rfl (fun ls hl => ?_)
              refine lv_iinc (v := nI (k + 1)) (lv' := [(4, .int (nI (k + 1))), (3, .int ((g_inT v x1 x2 k).1)), (0, .ref (a 0)), (1, .int x1), (2, .int x2)]) hx hb dX7_inTime_100 hl (k := 1) rfl (nI_1 _) (by decide) rfl (fun ls hl => ?_)
              refine lv_goto (tgt := 28) hx hb dX7_inTime_103 (by decide) ?_
              have hP : PP G [bX7 a G (setA v 14 ((g_inT v x1 x2 (k + 1)).2))] H := by
                rw [g_inT, itN_s, ← g_inT]
                simp only [s_inT]
                try simp only [ov_n1, ov_m1, ov_nc, ov_mc, ov_c] at hP ⊢
                exact hP
              have hD : DD (AA (List.flatten [bX7 a G v])) [bX7 a G (setA v 14 ((g_inT v x1 x2 (k + 1)).2))] := D_re hD (adc (bX7_ad _ _ _ _) adn)
              exact ih_28  _ _ _ hP hD hS (by rw [g_inT, itN_s, ← g_inT]; simp only [s_inT, if_pos c_5, if_pos c_17, if_neg c_38, if_neg c_74, if_neg c_78, if_pos c_90]; exact lv_sub hl [0, 1, 2, 3, 4] rfl) 
            · refine lv_iload hx hb dX7_inTime_93 (lv_at hl 0 rfl) ?_
              refine lv_goto (tgt := 99) hx hb dX7_inTime_95 (by decide) ?_
              refine lv_istore_n (lv' := [(3, .int (nI k)), (4, .int (nI k)), (0, .ref (a 0)), (1, .int x1), (2, .int x2)]) hx hb dX7_inTime_99 rfl hl (by decide) rfl (fun ls hl => ?_)
              refine lv_iinc (v := nI (k + 1)) (lv' := [(4, .int (nI (k + 1))), (3, .int (nI k)), (0, .ref (a 0)), (1, .int x1), (2, .int x2)]) hx hb dX7_inTime_100 hl (k := 1) rfl (nI_1 _) (by decide) rfl (fun ls hl => ?_)
              refine lv_goto (tgt := 28) hx hb dX7_inTime_103 (by decide) ?_
              have hP : PP G [bX7 a G (setA v 14 ((g_inT v x1 x2 (k + 1)).2))] H := by
                rw [g_inT, itN_s, ← g_inT]
                simp only [s_inT]
                try simp only [ov_n1, ov_m1, ov_nc, ov_mc, ov_c] at hP ⊢
                exact hP
              have hD : DD (AA (List.flatten [bX7 a G v])) [bX7 a G (setA v 14 ((g_inT v x1 x2 (k + 1)).2))] := D_re hD (adc (bX7_ad _ _ _ _) adn)
              exact ih_28  _ _ _ hP hD hS (by rw [g_inT, itN_s, ← g_inT]; simp only [s_inT, if_pos c_5, if_pos c_17, if_neg c_38, if_neg c_74, if_neg c_78, if_neg c_90]; exact lv_sub hl [0, 1, 2, 3, 4] rfl) 
    · have c_17 := b2i_fN c_17r
      refine lv_iconst (v := (-1)) hx hb dX7_inTime_20 (by decide) ?_
      have hP : PP G [bX7 a G (g_inTimeV v x1 x2)] H := by
        simp only [g_inTimeV, if_pos c_5, if_neg c_17]
        try simp only [ov_n1, ov_m1, ov_nc, ov_mc, ov_c] at hP ⊢
        exact hP
      exact kr_si hx hb hr hlocks dX7_inTime_21 hP hS (sameAd_cons (bX7_ad _ _ _ _) sameAd_nil) ⟨by simp only [g_inTimeR, if_pos c_5, if_neg c_17] <;> rfl, rfl⟩

def rm_X7_behind : Room := { frames := 2, cells := 0, slots := 0, locals := 50 }
theorem hd_X7_behind : yX7_behind.cls = RX7 ∧ yX7_behind.cls ≠ "java/lang/invoke/MethodHandle" ∧ yX7_behind.cls ≠ "java/lang/invoke/VarHandle" ∧ (parseMethodDescriptor yX7_behind.desc).map (fun d => d.parameters.length) = some 3 := by decide +kernel
set_option maxRecDepth 100000 in
set_option maxHeartbeats 4000000 in
theorem c_X7_behind (l : Launch) (G : GD) (a : Nat → Nat) (v : OV) (x1 : Int32) (x2 : Int32) (x3 : Int32) (hDc : ¬ v.1 4 0 < 0) (hD8 : (v.1 4 0).toNatClampNeg ≤ 8) (hL : ¬ v.1 7 0 < 0) (hL4 : (v.1 7 0).toNatClampNeg ≤ 4) (hRx : ∀ d, d < (v.1 4 0).toNatClampNeg → vp_in (v.1 5 (3 * d + 2)) 8) : MetS l yX7_behind wsX7_behind rm_X7_behind G [bX7 a G v] [.ref (a 0), .int x1, .int x2, .int x3] (fun r bc => r = some (.int (g_behindR v x1 x2 x3)) ∧ bc = [bX7 a G (g_behindV v x1 x2 x3)]) := by
  refine kb_beginS (cc := cX7_behind) (maxL := 4) (ret := (some .int)) (by decide) rfl (Nat.le_of_ble_eq_true rfl) ?_
  intro p e s m below meth c hx hb hr hml hown hts hlocks hX H locs hP hD hS ls hl
  have hown : s.vm.findClass RX7 = some m.cls := hown
  have hl : lv_has ls 4 [(0, .ref (a 0)), (1, .int x1), (2, .int x2), (3, .int x3)] := hl
  have hin7 : ∀ w ∈ u_ws RX7 TX7 19, w ∈ wsX7_behind := (fun _ h => List.mem_cons_of_mem _ (List.mem_append_right _ (h)))
  refine lv_iload_n hx hb dX7_behind_0 rfl (lv_at hl 1 rfl) ?_
  refine kcS_p hx hb hml hown hts hX hP (c_X7_isBehind l G x1) gX7_behind_X7_isBehind 1 rfl rfl rfl hdS_X7_isBehind ⟨Nat.le_of_ble_eq_true rfl, Nat.le_of_ble_eq_true rfl⟩ (fun q hq => absurd hq List.not_mem_nil) hl.1 rfl rfl (Nat.le_of_ble_eq_true rfl) dX7_behind_1 ⟨Nat.zero_le _, Nat.zero_le _⟩ ?_
  refine lv_if_eq (tgt := 23) hx hb dX7_behind_4 (by decide) (fun c_4r => ?_) (fun c_4r => ?_)
  · have c_4 := b2i_fN c_4r
    refine lv_iconst (v := (-1)) hx hb dX7_behind_23 (by decide) ?_
    have hP : PP G [bX7 a G (g_behindV v x1 x2 x3)] H := by
      simp only [g_behindV, if_neg c_4]
      try simp only [ov_n1, ov_m1, ov_nc, ov_mc, ov_c] at hP ⊢
      exact hP
    exact kr_si hx hb hr hlocks dX7_behind_24 hP hS (sameAd_cons (bX7_ad _ _ _ _) sameAd_nil) ⟨by simp only [g_behindR, if_neg c_4] <;> rfl, rfl⟩
  · have c_4 := b2i_tP c_4r
    refine lv_aload_n hx hb dX7_behind_7 rfl (lv_at hl 0 rfl) ?_
    refine lv_iload_n hx hb dX7_behind_8 rfl (lv_at hl 2 rfl) ?_
    refine kcV_p hx hb hml hown hts hX hP (c_X7_isDoor l G a v x2) gX7_behind_X7_isDoor 1 rfl rfl rfl hd_X7_isDoor ⟨Nat.le_of_ble_eq_true rfl, Nat.le_of_ble_eq_true rfl⟩ [0] rfl 0 rfl rfl rfl hl.1 rfl rfl (Nat.le_of_ble_eq_true rfl) dX7_behind_9 ⟨Nat.zero_le _, Nat.zero_le _⟩ ?_
    refine kb_rw (y := b2i (gIsDoor ((v.1 4)) x2)) rfl ?_
    refine lv_if_eq (tgt := 23) hx hb dX7_behind_12 (by decide) (fun c_12r => ?_) (fun c_12r => ?_)
    · have c_12 := b2i_fN c_12r
      refine lv_iconst (v := (-1)) hx hb dX7_behind_23 (by decide) ?_
      have hP : PP G [bX7 a G (g_behindV v x1 x2 x3)] H := by
        simp only [g_behindV, if_pos c_4, if_neg c_12]
        try simp only [ov_n1, ov_m1, ov_nc, ov_mc, ov_c] at hP ⊢
        exact hP
      exact kr_si hx hb hr hlocks dX7_behind_24 hP hS (sameAd_cons (bX7_ad _ _ _ _) sameAd_nil) ⟨by simp only [g_behindR, if_pos c_4, if_neg c_12] <;> rfl, rfl⟩
    · have c_12 := b2i_tP c_12r
      have hn_x2 := isDoor_n c_12 hDc
      have hb_x2 := hn_x2.2
      refine lv_aload_n hx hb dX7_behind_15 rfl (lv_at hl 0 rfl) ?_
      refine lv_iload_n hx hb dX7_behind_16 rfl (lv_at hl 3 rfl) ?_
      refine kcV_p hx hb hml hown hts hX hP (c_X7_isLodger l G a v x3) gX7_behind_X7_isLodger 1 rfl rfl rfl hd_X7_isLodger ⟨Nat.le_of_ble_eq_true rfl, Nat.le_of_ble_eq_true rfl⟩ [0] rfl 0 rfl rfl rfl hl.1 rfl rfl (Nat.le_of_ble_eq_true rfl) dX7_behind_17 ⟨Nat.zero_le _, Nat.zero_le _⟩ ?_
      refine kb_rw (y := b2i (gIsDoor ((v.1 7)) x3)) rfl ?_
      refine lv_if_ne (tgt := 25) hx hb dX7_behind_20 (by decide) (fun c_20r => ?_) (fun c_20r => ?_)
      · have c_20 := b2i_tP c_20r
        have hn_x3 := isDoor_n c_20 hL
        have hb_x3 := hn_x3.2
        refine lv_aload_n hx hb dX7_behind_25 rfl (lv_at hl 0 rfl) ?_
        refine lv_iload_n hx hb dX7_behind_26 rfl (lv_at hl 1 rfl) ?_
        refine lv_iconst (v := 0) hx hb dX7_behind_27 (by decide) ?_
        refine kcV_s hx hb hml hown hts hX hP hD hS (c_X7_behinds l G a v x1 0 hD8 hL4 hRx) gX7_behind_X7_behinds 2 rfl rfl rfl hd_X7_behinds ⟨Nat.le_of_ble_eq_true rfl, Nat.le_of_ble_eq_true rfl⟩ [0] (by decide) rfl 0 rfl rfl rfl hl.1 rfl rfl (Nat.le_of_ble_eq_true rfl) dX7_behind_28 ⟨Nat.zero_le _, Nat.zero_le _⟩ (fun r_ bc_ hq_1 H locs hP hD hS => ?_)
        obtain ⟨rfl, rfl⟩ := hq_1
        have hP : PP G [bX7 a G (setA (setA v 13 ((g_behinds ((v.1 3)) ((v.1 5)) ((v.1 7)) ((v.1 4)) ((v.1 6)) ((v.1 10)) ((v.1 13)) x1 0).2)) 10 ((g_behinds ((v.1 3)) ((v.1 5)) ((v.1 7)) ((v.1 4)) ((v.1 6)) ((v.1 10)) ((v.1 13)) x1 0).1))] H := hP
        have hD : DD (AA (List.flatten [bX7 a G v])) [bX7 a G (setA (setA v 13 ((g_behinds ((v.1 3)) ((v.1 5)) ((v.1 7)) ((v.1 4)) ((v.1 6)) ((v.1 10)) ((v.1 13)) x1 0).2)) 10 ((g_behinds ((v.1 3)) ((v.1 5)) ((v.1 7)) ((v.1 4)) ((v.1 6)) ((v.1 10)) ((v.1 13)) x1 0).1))] := D_re hD (adc (bX7_ad _ _ _ _) adn)
        refine lv_aload_n hx hb dX7_behind_31 rfl (lv_at hl 0 rfl) ?_
        refine kb_get (own := RX7) (C := RX7) (T := TX7) (N := 19) (v := .ref (a 9)) hx hb hts hin7 hown hX hP 0 rfl rfl rfl 10 (by decide) rfl (by decide +kernel) rfl dX7_behind_32 ?_
        refine lv_sipush (v := 506) hx hb dX7_behind_35 (by decide) ?_
        refine lv_iconst (v := 4) hx hb dX7_behind_38 (by decide) ?_
        refine lv_iload_n hx hb dX7_behind_39 rfl (lv_at hl 2 rfl) ?_
        refine kb_nat hn_x2.1 ?_
        refine lv_imul hx hb dX7_behind_40 ?_
        refine lv_iadd hx hb dX7_behind_41 ?_
        refine lv_iload_n hx hb dX7_behind_42 rfl (lv_at hl 3 rfl) ?_
        refine kb_nat hn_x3.1 ?_
        refine lv_iadd hx hb dX7_behind_43 ?_
        refine kb_ialdN (jn := (506 + (4 * x2.toNatClampNeg)) + x3.toNatClampNeg) (n := 552) (f := (g_behinds ((v.1 3)) ((v.1 5)) ((v.1 7)) ((v.1 4)) ((v.1 6)) ((v.1 10)) ((v.1 13)) x1 0).1) hx hb hX hP 0 9 rfl rfl (by simp only [nI_addE, nI_mulE] <;> rfl) (by omega) (by decide) dX7_behind_44 ?_
        have hP : PP G [bX7 a G (g_behindV v x1 x2 x3)] H := by
          simp only [g_behindV, if_pos c_4, if_pos c_12, if_pos c_20]
          try simp only [ov_n1, ov_m1, ov_nc, ov_mc, ov_c] at hP ⊢
          exact hP
        exact kr_si hx hb hr hlocks dX7_behind_45 hP hS (sameAd_cons (bX7_ad _ _ _ _) sameAd_nil) ⟨by simp only [g_behindR, if_pos c_4, if_pos c_12, if_pos c_20] <;> rfl, rfl⟩
      · have c_20 := b2i_fN c_20r
        refine lv_iconst (v := (-1)) hx hb dX7_behind_23 (by decide) ?_
        have hP : PP G [bX7 a G (g_behindV v x1 x2 x3)] H := by
          simp only [g_behindV, if_pos c_4, if_pos c_12, if_neg c_20]
          try simp only [ov_n1, ov_m1, ov_nc, ov_mc, ov_c] at hP ⊢
          exact hP
        exact kr_si hx hb hr hlocks dX7_behind_24 hP hS (sameAd_cons (bX7_ad _ _ _ _) sameAd_nil) ⟨by simp only [g_behindR, if_pos c_4, if_pos c_12, if_neg c_20] <;> rfl, rfl⟩

def rm_X7_worst : Room := { frames := 2, cells := 0, slots := 0, locals := 50 }
theorem hd_X7_worst : yX7_worst.cls = RX7 ∧ yX7_worst.cls ≠ "java/lang/invoke/MethodHandle" ∧ yX7_worst.cls ≠ "java/lang/invoke/VarHandle" ∧ (parseMethodDescriptor yX7_worst.desc).map (fun d => d.parameters.length) = some 2 := by decide +kernel
set_option maxRecDepth 100000 in
set_option maxHeartbeats 4000000 in
theorem c_X7_worst (l : Launch) (G : GD) (a : Nat → Nat) (v : OV) (x1 : Int32) (x2 : Int32) (hDc : ¬ v.1 4 0 < 0) (hD8 : (v.1 4 0).toNatClampNeg ≤ 8) (hL : ¬ v.1 7 0 < 0) (hL4 : (v.1 7 0).toNatClampNeg ≤ 4) (hRx : ∀ d, d < (v.1 4 0).toNatClampNeg → vp_in (v.1 5 (3 * d + 2)) 8) : MetS l yX7_worst wsX7_worst rm_X7_worst G [bX7 a G v] [.ref (a 0), .int x1, .int x2] (fun r bc => r = some (.int (g_worstR v x1 x2)) ∧ bc = [bX7 a G (g_worstV v x1 x2)]) := by
  refine kb_beginS (cc := cX7_worst) (maxL := 5) (ret := (some .int)) (by decide) rfl (Nat.le_of_ble_eq_true rfl) ?_
  intro p e s m below meth c hx hb hr hml hown hts hlocks hX H locs hP hD hS ls hl
  have hown : s.vm.findClass RX7 = some m.cls := hown
  have hl : lv_has ls 5 [(0, .ref (a 0)), (1, .int x1), (2, .int x2)] := hl
  have hin7 : ∀ w ∈ u_ws RX7 TX7 19, w ∈ wsX7_worst := (fun _ h => List.mem_cons_of_mem _ (List.mem_append_right _ (h)))
  refine lv_iload_n hx hb dX7_worst_0 rfl (lv_at hl 1 rfl) ?_
  refine kcS_p hx hb hml hown hts hX hP (c_X7_isBehind l G x1) gX7_worst_X7_isBehind 1 rfl rfl rfl hdS_X7_isBehind ⟨Nat.le_of_ble_eq_true rfl, Nat.le_of_ble_eq_true rfl⟩ (fun q hq => absurd hq List.not_mem_nil) hl.1 rfl rfl (Nat.le_of_ble_eq_true rfl) dX7_worst_1 ⟨Nat.zero_le _, Nat.zero_le _⟩ ?_
  refine lv_if_eq (tgt := 15) hx hb dX7_worst_4 (by decide) (fun c_4r => ?_) (fun c_4r => ?_)
  · have c_4 := b2i_fN c_4r
    refine lv_iconst (v := (-1)) hx hb dX7_worst_15 (by decide) ?_
    have hP : PP G [bX7 a G (g_worstV v x1 x2)] H := by
      simp only [g_worstV, if_neg c_4]
      try simp only [ov_n1, ov_m1, ov_nc, ov_mc, ov_c] at hP ⊢
      exact hP
    exact kr_si hx hb hr hlocks dX7_worst_16 hP hS (sameAd_cons (bX7_ad _ _ _ _) sameAd_nil) ⟨by simp only [g_worstR, if_neg c_4] <;> rfl, rfl⟩
  · have c_4 := b2i_tP c_4r
    refine lv_aload_n hx hb dX7_worst_7 rfl (lv_at hl 0 rfl) ?_
    refine lv_iload_n hx hb dX7_worst_8 rfl (lv_at hl 2 rfl) ?_
    refine kcV_p hx hb hml hown hts hX hP (c_X7_isLodger l G a v x2) gX7_worst_X7_isLodger 1 rfl rfl rfl hd_X7_isLodger ⟨Nat.le_of_ble_eq_true rfl, Nat.le_of_ble_eq_true rfl⟩ [0] rfl 0 rfl rfl rfl hl.1 rfl rfl (Nat.le_of_ble_eq_true rfl) dX7_worst_9 ⟨Nat.zero_le _, Nat.zero_le _⟩ ?_
    refine kb_rw (y := b2i (gIsDoor ((v.1 7)) x2)) rfl ?_
    refine lv_if_ne (tgt := 17) hx hb dX7_worst_12 (by decide) (fun c_12r => ?_) (fun c_12r => ?_)
    · have c_12 := b2i_tP c_12r
      have hn_x2 := isDoor_n c_12 hL
      have hb_x2 := hn_x2.2
      refine lv_aload_n hx hb dX7_worst_17 rfl (lv_at hl 0 rfl) ?_
      refine lv_iload_n hx hb dX7_worst_18 rfl (lv_at hl 1 rfl) ?_
      refine lv_iconst (v := 0) hx hb dX7_worst_19 (by decide) ?_
      refine kcV_s hx hb hml hown hts hX hP hD hS (c_X7_behinds l G a v x1 0 hD8 hL4 hRx) gX7_worst_X7_behinds 2 rfl rfl rfl hd_X7_behinds ⟨Nat.le_of_ble_eq_true rfl, Nat.le_of_ble_eq_true rfl⟩ [0] (by decide) rfl 0 rfl rfl rfl hl.1 rfl rfl (Nat.le_of_ble_eq_true rfl) dX7_worst_20 ⟨Nat.zero_le _, Nat.zero_le _⟩ (fun r_ bc_ hq_1 H locs hP hD hS => ?_)
      obtain ⟨rfl, rfl⟩ := hq_1
      have hP : PP G [bX7 a G (setA (setA v 13 ((g_behinds ((v.1 3)) ((v.1 5)) ((v.1 7)) ((v.1 4)) ((v.1 6)) ((v.1 10)) ((v.1 13)) x1 0).2)) 10 ((g_behinds ((v.1 3)) ((v.1 5)) ((v.1 7)) ((v.1 4)) ((v.1 6)) ((v.1 10)) ((v.1 13)) x1 0).1))] H := hP
      have hD : DD (AA (List.flatten [bX7 a G v])) [bX7 a G (setA (setA v 13 ((g_behinds ((v.1 3)) ((v.1 5)) ((v.1 7)) ((v.1 4)) ((v.1 6)) ((v.1 10)) ((v.1 13)) x1 0).2)) 10 ((g_behinds ((v.1 3)) ((v.1 5)) ((v.1 7)) ((v.1 4)) ((v.1 6)) ((v.1 10)) ((v.1 13)) x1 0).1))] := D_re hD (adc (bX7_ad _ _ _ _) adn)
      refine lv_iconst (v := 0) hx hb dX7_worst_23 (by decide) ?_
      refine lv_istore_n (lv' := [(3, .int 0), (0, .ref (a 0)), (1, .int x1), (2, .int x2)]) hx hb dX7_worst_24 rfl hl (by decide) rfl (fun ls hl => ?_)
      refine lv_iconst (v := 1) hx hb dX7_worst_25 (by decide) ?_
      refine lv_istore (lv' := [(4, .int 1), (3, .int 0), (0, .ref (a 0)), (1, .int x1), (2, .int x2)]) hx hb dX7_worst_26 hl (by decide) rfl (fun ls hl => ?_)
      refine lp_up (N := (v.1 4 0).toNatClampNeg - 1) (P := fun k => ∀ (H : Heap) (locs : List Loc) (ls : Array Slot), PP G [bX7 a G (setA (setA v 13 ((g_behinds ((v.1 3)) ((v.1 5)) ((v.1 7)) ((v.1 4)) ((v.1 6)) ((v.1 10)) ((v.1 13)) x1 0).2)) 10 ((g_behinds ((v.1 3)) ((v.1 5)) ((v.1 7)) ((v.1 4)) ((v.1 6)) ((v.1 10)) ((v.1 13)) x1 0).1))] H → DD (AA (List.flatten [bX7 a G v])) [bX7 a G (setA (setA v 13 ((g_behinds ((v.1 3)) ((v.1 5)) ((v.1 7)) ((v.1 4)) ((v.1 6)) ((v.1 10)) ((v.1 13)) x1 0).2)) 10 ((g_behinds ((v.1 3)) ((v.1 5)) ((v.1 7)) ((v.1 4)) ((v.1 6)) ((v.1 10)) ((v.1 13)) x1 0).1))] → va_S (AA (List.flatten [bX7 a G v])) s.heap H locs → lv_has ls 5 [(4, .int (nI (k + 1))), (3, .int (nI (itN (s_worst (g_bh v x1 0).1 x2.toNatClampNeg) 0 k))), (0, .ref (a 0)), (1, .int x1), (2, .int x2)] →  W p l e (headSpec wsX7_worst rm_X7_worst).room s m ([.ref (a 0), .int x1, .int x2] : List Value).toArray below meth c H locs 0 0 (MQ below (kQs G [bX7 a G v] (fun r bc => r = some (.int (g_worstR v x1 x2)) ∧ bc = [bX7 a G (g_worstV v x1 x2)])) ([.ref (a 0), .int x1, .int x2] : List Value).toArray s 0 0 (AA (List.flatten [bX7 a G v]))) (F0 m 28 ls [])) ?_ ?_ 0 (Nat.zero_le _)  _ _ _ hP hD hS (lv_sub hl [0, 1, 2, 3, 4] rfl) 
      · skip
        intro H locs ls hP hD hS hl 
        refine lv_iload hx hb dX7_worst_28 (lv_at hl 0 rfl) ?_
        refine lv_aload_n hx hb dX7_worst_30 rfl (lv_at hl 2 rfl) ?_
        refine kb_get (own := RX7) (C := RX7) (T := TX7) (N := 19) (v := .ref (a 3)) hx hb hts hin7 hown hX hP 0 rfl rfl rfl 4 (by decide) rfl (by decide +kernel) rfl dX7_worst_31 ?_
        refine lv_iconst (v := 0) hx hb dX7_worst_34 (by decide) ?_
        refine kb_ialdN (jn := 0) (n := 2) (f := v.1 4) hx hb hX hP 0 3 rfl rfl rfl (by omega) (by decide) dX7_worst_35 ?_
        refine lv_icmp_ge (tgt := 84) hx hb dX7_worst_36 (by decide) (fun c_36 => ?_) (fun c_36 => absurd (lpx_c1 _) c_36)
        refine lv_iload_n hx hb dX7_worst_84 rfl (lv_at hl 1 rfl) ?_
        have hP : PP G [bX7 a G (g_worstV v x1 x2)] H := by
          simp only [g_worstV, if_pos c_4, if_pos c_12, if_pos c_36]
          try simp only [ov_n1, ov_m1, ov_nc, ov_mc, ov_c] at hP ⊢
          exact hP
        exact kr_si hx hb hr hlocks dX7_worst_85 hP hS (sameAd_cons (bX7_ad _ _ _ _) sameAd_nil) ⟨by simp only [g_worstR, if_pos c_4, if_pos c_12, if_pos c_36] <;> rfl, rfl⟩
      · skip
        intro k hk_k ih_28 H locs ls hP hD hS hl 
        refine lv_iload hx hb dX7_worst_28 (lv_at hl 0 rfl) ?_
        refine lv_aload_n hx hb dX7_worst_30 rfl (lv_at hl 2 rfl) ?_
        refine kb_get (own := RX7) (C := RX7) (T := TX7) (N := 19) (v := .ref (a 3)) hx hb hts hin7 hown hX hP 0 rfl rfl rfl 4 (by decide) rfl (by decide +kernel) rfl dX7_worst_31 ?_
        refine lv_iconst (v := 0) hx hb dX7_worst_34 (by decide) ?_
        refine kb_ialdN (jn := 0) (n := 2) (f := v.1 4) hx hb hX hP 0 3 rfl rfl rfl (by omega) (by decide) dX7_worst_35 ?_
        refine lv_icmp_ge (tgt := 84) hx hb dX7_worst_36 (by decide) (fun c_36 => absurd c_36 (lp_m1 hD8 hk_k)) (fun c_36 => ?_)
        have hfk := worst_lt (S := (g_bh v x1 0).1) (i := x2.toNatClampNeg) k
        refine lv_aload_n hx hb dX7_worst_39 rfl (lv_at hl 2 rfl) ?_
        refine kb_get (own := RX7) (C := RX7) (T := TX7) (N := 19) (v := .ref (a 9)) hx hb hts hin7 hown hX hP 0 rfl rfl rfl 10 (by decide) rfl (by decide +kernel) rfl dX7_worst_40 ?_
        refine lv_sipush (v := 506) hx hb dX7_worst_43 (by decide) ?_
        refine lv_iconst (v := 4) hx hb dX7_worst_46 (by decide) ?_
        refine lv_iload hx hb dX7_worst_47 (lv_at hl 0 rfl) ?_
        refine lv_imul hx hb dX7_worst_49 ?_
        refine lv_iadd hx hb dX7_worst_50 ?_
        refine lv_iload_n hx hb dX7_worst_51 rfl (lv_at hl 4 rfl) ?_
        refine kb_nat hn_x2.1 ?_
        refine lv_iadd hx hb dX7_worst_52 ?_
        refine kb_ialdN (jn := (506 + (4 * (k + 1))) + x2.toNatClampNeg) (n := 552) (f := (g_behinds ((v.1 3)) ((v.1 5)) ((v.1 7)) ((v.1 4)) ((v.1 6)) ((v.1 10)) ((v.1 13)) x1 0).1) hx hb hX hP 0 9 rfl rfl (by simp only [nI_addE, nI_mulE] <;> rfl) (by omega) (by decide) dX7_worst_53 ?_
        refine lv_aload_n hx hb dX7_worst_54 rfl (lv_at hl 2 rfl) ?_
        refine kb_get (own := RX7) (C := RX7) (T := TX7) (N := 19) (v := .ref (a 9)) hx hb hts hin7 hown hX hP 0 rfl rfl rfl 10 (by decide) rfl (by decide +kernel) rfl dX7_worst_55 ?_
        refine lv_sipush (v := 506) hx hb dX7_worst_58 (by decide) ?_
        refine lv_iconst (v := 4) hx hb dX7_worst_61 (by decide) ?_
        refine lv_iload_n hx hb dX7_worst_62 rfl (lv_at hl 1 rfl) ?_
        refine lv_imul hx hb dX7_worst_63 ?_
        refine lv_iadd hx hb dX7_worst_64 ?_
        refine lv_iload_n hx hb dX7_worst_65 rfl (lv_at hl 4 rfl) ?_
        refine kb_nat hn_x2.1 ?_
        refine lv_iadd hx hb dX7_worst_66 ?_
        refine kb_ialdN (jn := (506 + (4 * (itN (s_worst (g_bh v x1 0).1 x2.toNatClampNeg) 0 k))) + x2.toNatClampNeg) (n := 552) (f := (g_behinds ((v.1 3)) ((v.1 5)) ((v.1 7)) ((v.1 4)) ((v.1 6)) ((v.1 10)) ((v.1 13)) x1 0).1) hx hb hX hP 0 9 rfl rfl (by simp only [nI_addE, nI_mulE] <;> rfl) (by omega) (by decide) dX7_worst_67 ?_
        refine lv_icmp_le (tgt := 76) hx hb dX7_worst_68 (by decide) (fun c_68 => ?_) (fun c_68 => ?_)
        · refine lv_iload_n hx hb dX7_worst_76 rfl (lv_at hl 1 rfl) ?_
          refine lv_istore_n (lv' := [(3, .int (nI (itN (s_worst (g_bh v x1 0).1 x2.toNatClampNeg) 0 k))), (4, .int (nI (k + 1))), (0, .ref (a 0)), (1, .int x1), (2, .int x2)]) hx hb dX7_worst_77 rfl hl (by decide) rfl (fun ls hl => ?_)
          refine lv_iinc (v := nI ((k + 1) + 1)) (lv' := [(4, .int (nI ((k + 1) + 1))), (3, .int (nI (itN (s_worst (g_bh v x1 0).1 x2.toNatClampNeg) 0 k))), (0, .ref (a 0)), (1, .int x1), (2, .int x2)]) hx hb dX7_worst_78 hl (k := 1) rfl (nI_1 _) (by decide) rfl (fun ls hl => ?_)
          refine lv_goto (tgt := 28) hx hb dX7_worst_81 (by decide) ?_
          have hP : PP G [bX7 a G (setA (setA v 13 ((g_behinds ((v.1 3)) ((v.1 5)) ((v.1 7)) ((v.1 4)) ((v.1 6)) ((v.1 10)) ((v.1 13)) x1 0).2)) 10 ((g_behinds ((v.1 3)) ((v.1 5)) ((v.1 7)) ((v.1 4)) ((v.1 6)) ((v.1 10)) ((v.1 13)) x1 0).1))] H := hP
          have hD : DD (AA (List.flatten [bX7 a G v])) [bX7 a G (setA (setA v 13 ((g_behinds ((v.1 3)) ((v.1 5)) ((v.1 7)) ((v.1 4)) ((v.1 6)) ((v.1 10)) ((v.1 13)) x1 0).2)) 10 ((g_behinds ((v.1 3)) ((v.1 5)) ((v.1 7)) ((v.1 4)) ((v.1 6)) ((v.1 10)) ((v.1 13)) x1 0).1))] := D_re hD (adc (bX7_ad _ _ _ _) adn)
          exact ih_28  _ _ _ hP hD hS (by rw [itN_s]; simp only [s_worst, if_pos c_4, if_pos c_12, if_neg c_36, if_pos c_68]; exact lv_sub hl [0, 1, 2, 3, 4] rfl) 
        · refine lv_iload hx hb dX7_worst_71 (lv_at hl 0 rfl) ?_
          refine lv_goto (tgt := 77) hx hb dX7_worst_73 (by decide) ?_
          refine lv_istore_n (lv' := [(3, .int (nI (k + 1))), (4, .int (nI (k + 1))), (0, .ref (a 0)), (1, .int x1), (2, .int x2)]) hx hb dX7_worst_77 rfl hl (by decide) rfl (fun ls hl => ?_)
          refine lv_iinc (v := nI ((k + 1) + 1)) (lv' := [(4, .int (nI ((k + 1) + 1))), (3, .int (nI (k + 1))), (0, .ref (a 0)), (1, .int x1), (2, .int x2)]) hx hb dX7_worst_78 hl (k := 1) rfl (nI_1 _) (by decide) rfl (fun ls hl => ?_)
          refine lv_goto (tgt := 28) hx hb dX7_worst_81 (by decide) ?_
          have hP : PP G [bX7 a G (setA (setA v 13 ((g_behinds ((v.1 3)) ((v.1 5)) ((v.1 7)) ((v.1 4)) ((v.1 6)) ((v.1 10)) ((v.1 13)) x1 0).2)) 10 ((g_behinds ((v.1 3)) ((v.1 5)) ((v.1 7)) ((v.1 4)) ((v.1 6)) ((v.1 10)) ((v.1 13)) x1 0).1))] H := hP
          have hD : DD (AA (List.flatten [bX7 a G v])) [bX7 a G (setA (setA v 13 ((g_behinds ((v.1 3)) ((v.1 5)) ((v.1 7)) ((v.1 4)) ((v.1 6)) ((v.1 10)) ((v.1 13)) x1 0).2)) 10 ((g_behinds ((v.1 3)) ((v.1 5)) ((v.1 7)) ((v.1 4)) ((v.1 6)) ((v.1 10)) ((v.1 13)) x1 0).1))] := D_re hD (adc (bX7_ad _ _ _ _) adn)
          exact ih_28  _ _ _ hP hD hS (by rw [itN_s]; simp only [s_worst, if_pos c_4, if_pos c_12, if_neg c_36, if_neg c_68]; exact lv_sub hl [0, 1, 2, 3, 4] rfl) 
    · have c_12 := b2i_fN c_12r
      refine lv_iconst (v := (-1)) hx hb dX7_worst_15 (by decide) ?_
      have hP : PP G [bX7 a G (g_worstV v x1 x2)] H := by
        simp only [g_worstV, if_pos c_4, if_neg c_12]
        try simp only [ov_n1, ov_m1, ov_nc, ov_mc, ov_c] at hP ⊢
        exact hP
      exact kr_si hx hb hr hlocks dX7_worst_16 hP hS (sameAd_cons (bX7_ad _ _ _ _) sameAd_nil) ⟨by simp only [g_worstR, if_pos c_4, if_neg c_12] <;> rfl, rfl⟩

def rm_X7_stop : Room := { frames := 2, cells := 0, slots := 0, locals := 50 }
theorem hd_X7_stop : yX7_stop.cls = RX7 ∧ yX7_stop.cls ≠ "java/lang/invoke/MethodHandle" ∧ yX7_stop.cls ≠ "java/lang/invoke/VarHandle" ∧ (parseMethodDescriptor yX7_stop.desc).map (fun d => d.parameters.length) = some 4 := by decide +kernel
set_option maxRecDepth 100000 in
set_option maxHeartbeats 4000000 in
theorem c_X7_stop (l : Launch) (G : GD) (a : Nat → Nat) (v : OV) (x1 : Int32) (x2 : Int32) (x3 : Int32) (x4 : Int32) (hDc : ¬ v.1 4 0 < 0) (hD8 : (v.1 4 0).toNatClampNeg ≤ 8) (hL : ¬ v.1 7 0 < 0) (hL4 : (v.1 7 0).toNatClampNeg ≤ 4) (hRx : ∀ d, d < (v.1 4 0).toNatClampNeg → vp_in (v.1 5 (3 * d + 2)) 8) : MetS l yX7_stop wsX7_stop rm_X7_stop G [bX7 a G v] [.ref (a 0), .int x1, .int x2, .int x3, .int x4] (fun r bc => r = some (.int (g_stopR v x1 x2 x3 x4)) ∧ bc = [bX7 a G (g_stopV v x1 x2 x3 x4)]) := by
  refine kb_beginS (cc := cX7_stop) (maxL := 7) (ret := (some .int)) (by decide) rfl (Nat.le_of_ble_eq_true rfl) ?_
  intro p e s m below meth c hx hb hr hml hown hts hlocks hX H locs hP hD hS ls hl
  have hown : s.vm.findClass RX7 = some m.cls := hown
  have hl : lv_has ls 7 [(0, .ref (a 0)), (1, .int x1), (2, .int x2), (3, .int x3), (4, .int x4)] := hl
  have hin7 : ∀ w ∈ u_ws RX7 TX7 19, w ∈ wsX7_stop := (fun _ h => List.mem_cons_of_mem _ (List.mem_append_right _ (h)))
  refine lv_iload_n hx hb dX7_stop_0 rfl (lv_at hl 1 rfl) ?_
  refine kcS_p hx hb hml hown hts hX hP (c_X7_isBehind l G x1) gX7_stop_X7_isBehind 1 rfl rfl rfl hdS_X7_isBehind ⟨Nat.le_of_ble_eq_true rfl, Nat.le_of_ble_eq_true rfl⟩ (fun q hq => absurd hq List.not_mem_nil) hl.1 rfl rfl (Nat.le_of_ble_eq_true rfl) dX7_stop_1 ⟨Nat.zero_le _, Nat.zero_le _⟩ ?_
  refine lv_if_eq (tgt := 36) hx hb dX7_stop_4 (by decide) (fun c_4r => ?_) (fun c_4r => ?_)
  · have c_4 := b2i_fN c_4r
    refine lv_iconst (v := (-1)) hx hb dX7_stop_36 (by decide) ?_
    have hP : PP G [bX7 a G (g_stopV v x1 x2 x3 x4)] H := by
      simp only [g_stopV, if_neg c_4]
      try simp only [ov_n1, ov_m1, ov_nc, ov_mc, ov_c] at hP ⊢
      exact hP
    exact kr_si hx hb hr hlocks dX7_stop_37 hP hS (sameAd_cons (bX7_ad _ _ _ _) sameAd_nil) ⟨by simp only [g_stopR, if_neg c_4] <;> rfl, rfl⟩
  · have c_4 := b2i_tP c_4r
    refine lv_aload_n hx hb dX7_stop_7 rfl (lv_at hl 0 rfl) ?_
    refine lv_iload_n hx hb dX7_stop_8 rfl (lv_at hl 2 rfl) ?_
    refine kcV_p hx hb hml hown hts hX hP (c_X7_isDoor l G a v x2) gX7_stop_X7_isDoor 1 rfl rfl rfl hd_X7_isDoor ⟨Nat.le_of_ble_eq_true rfl, Nat.le_of_ble_eq_true rfl⟩ [0] rfl 0 rfl rfl rfl hl.1 rfl rfl (Nat.le_of_ble_eq_true rfl) dX7_stop_9 ⟨Nat.zero_le _, Nat.zero_le _⟩ ?_
    refine kb_rw (y := b2i (gIsDoor ((v.1 4)) x2)) rfl ?_
    refine lv_if_eq (tgt := 36) hx hb dX7_stop_12 (by decide) (fun c_12r => ?_) (fun c_12r => ?_)
    · have c_12 := b2i_fN c_12r
      refine lv_iconst (v := (-1)) hx hb dX7_stop_36 (by decide) ?_
      have hP : PP G [bX7 a G (g_stopV v x1 x2 x3 x4)] H := by
        simp only [g_stopV, if_pos c_4, if_neg c_12]
        try simp only [ov_n1, ov_m1, ov_nc, ov_mc, ov_c] at hP ⊢
        exact hP
      exact kr_si hx hb hr hlocks dX7_stop_37 hP hS (sameAd_cons (bX7_ad _ _ _ _) sameAd_nil) ⟨by simp only [g_stopR, if_pos c_4, if_neg c_12] <;> rfl, rfl⟩
    · have c_12 := b2i_tP c_12r
      have hn_x2 := isDoor_n c_12 hDc
      have hb_x2 := hn_x2.2
      refine lv_aload_n hx hb dX7_stop_15 rfl (lv_at hl 0 rfl) ?_
      refine lv_iload_n hx hb dX7_stop_16 rfl (lv_at hl 3 rfl) ?_
      refine kcV_p hx hb hml hown hts hX hP (c_X7_isLodger l G a v x3) gX7_stop_X7_isLodger 1 rfl rfl rfl hd_X7_isLodger ⟨Nat.le_of_ble_eq_true rfl, Nat.le_of_ble_eq_true rfl⟩ [0] rfl 0 rfl rfl rfl hl.1 rfl rfl (Nat.le_of_ble_eq_true rfl) dX7_stop_17 ⟨Nat.zero_le _, Nat.zero_le _⟩ ?_
      refine kb_rw (y := b2i (gIsDoor ((v.1 7)) x3)) rfl ?_
      refine lv_if_eq (tgt := 36) hx hb dX7_stop_20 (by decide) (fun c_20r => ?_) (fun c_20r => ?_)
      · have c_20 := b2i_fN c_20r
        refine lv_iconst (v := (-1)) hx hb dX7_stop_36 (by decide) ?_
        have hP : PP G [bX7 a G (g_stopV v x1 x2 x3 x4)] H := by
          simp only [g_stopV, if_pos c_4, if_pos c_12, if_neg c_20]
          try simp only [ov_n1, ov_m1, ov_nc, ov_mc, ov_c] at hP ⊢
          exact hP
        exact kr_si hx hb hr hlocks dX7_stop_37 hP hS (sameAd_cons (bX7_ad _ _ _ _) sameAd_nil) ⟨by simp only [g_stopR, if_pos c_4, if_pos c_12, if_neg c_20] <;> rfl, rfl⟩
      · have c_20 := b2i_tP c_20r
        have hn_x3 := isDoor_n c_20 hL
        have hb_x3 := hn_x3.2
        refine lv_iload hx hb dX7_stop_23 (lv_at hl 4 rfl) ?_
        refine lv_i2l (v := (x4 : Int32).toInt64) hx hb dX7_stop_25 rfl ?_
        refine lv_lconst (v := 1) hx hb dX7_stop_26 (by decide) ?_
        refine lv_ldc2 (own := RX7) (v := 99) hx hb hown (hts (.constantLong RX7 193 99) (by decide +kernel)) dX7_stop_27 ?_
        refine kcS_p hx hb hml hown hts hX hP (c_X7_in l G ((x4 : Int32).toInt64) 1 99) gX7_stop_X7_in 3 rfl rfl rfl hdS_X7_in ⟨Nat.le_of_ble_eq_true rfl, Nat.le_of_ble_eq_true rfl⟩ (fun q hq => absurd hq List.not_mem_nil) hl.1 rfl rfl (Nat.le_of_ble_eq_true rfl) dX7_stop_30 ⟨Nat.zero_le _, Nat.zero_le _⟩ ?_
        refine lv_if_ne (tgt := 38) hx hb dX7_stop_33 (by decide) (fun c_33r => ?_) (fun c_33r => ?_)
        · have c_33 := b2i_tP c_33r
          refine lv_bipush (v := (-4)) hx hb dX7_stop_38 (by decide) ?_
          refine lv_istore (lv' := [(5, .int (-4)), (0, .ref (a 0)), (1, .int x1), (2, .int x2), (3, .int x3), (4, .int x4)]) hx hb dX7_stop_40 hl (by decide) rfl (fun ls hl => ?_)
          refine lv_iconst (v := 0) hx hb dX7_stop_42 (by decide) ?_
          refine lv_istore (lv' := [(6, .int 0), (5, .int (-4)), (0, .ref (a 0)), (1, .int x1), (2, .int x2), (3, .int x3), (4, .int x4)]) hx hb dX7_stop_43 hl (by decide) rfl (fun ls hl => ?_)
          have eOV0 : (setA (setA v 13 ((g_stop v x1 x2 x3 x4 0).2.2)) 10 ((g_stop v x1 x2 x3 x4 0).2.1)) = v := by
            refine Prod.ext (funext fun u => ?_) (funext fun u => ?_)
            · by_cases h13 : u = 13
              · subst h13; rfl
              · skip
                by_cases h10 : u = 10
                · subst h10; rfl
                · skip
                  simp only [setA, setI, if_neg h13, if_neg h10]
            · rfl
          have hP : PP G [bX7 a G (setA (setA v 13 ((g_stop v x1 x2 x3 x4 0).2.2)) 10 ((g_stop v x1 x2 x3 x4 0).2.1))] H := by rw [eOV0]; exact hP
          have hD : DD (AA (List.flatten [bX7 a G v])) [bX7 a G (setA (setA v 13 ((g_stop v x1 x2 x3 x4 0).2.2)) 10 ((g_stop v x1 x2 x3 x4 0).2.1))] := D_re hD (adc (bX7_ad _ _ _ _) adn)
          refine lp_up (N := (n_sets v).toNatClampNeg) (P := fun k => ∀ (H : Heap) (locs : List Loc) (ls : Array Slot), PP G [bX7 a G (setA (setA v 13 ((g_stop v x1 x2 x3 x4 k).2.2)) 10 ((g_stop v x1 x2 x3 x4 k).2.1))] H → DD (AA (List.flatten [bX7 a G v])) [bX7 a G (setA (setA v 13 ((g_stop v x1 x2 x3 x4 k).2.2)) 10 ((g_stop v x1 x2 x3 x4 k).2.1))] → va_S (AA (List.flatten [bX7 a G v])) s.heap H locs → lv_has ls 7 [(6, .int (nI k)), (5, .int ((g_stop v x1 x2 x3 x4 k).1)), (0, .ref (a 0)), (1, .int x1), (2, .int x2), (3, .int x3), (4, .int x4)] →  W p l e (headSpec wsX7_stop rm_X7_stop).room s m ([.ref (a 0), .int x1, .int x2, .int x3, .int x4] : List Value).toArray below meth c H locs 0 0 (MQ below (kQs G [bX7 a G v] (fun r bc => r = some (.int (g_stopR v x1 x2 x3 x4)) ∧ bc = [bX7 a G (g_stopV v x1 x2 x3 x4)])) ([.ref (a 0), .int x1, .int x2, .int x3, .int x4] : List Value).toArray s 0 0 (AA (List.flatten [bX7 a G v]))) (F0 m 45 ls [])) ?_ ?_ 0 (Nat.zero_le _)  _ _ _ hP hD hS (lv_sub hl [0, 1, 2, 3, 4, 5, 6] rfl) 
          · skip
            intro H locs ls hP hD hS hl 
            refine lv_iload hx hb dX7_stop_45 (lv_at hl 0 rfl) ?_
            refine lv_iconst (v := 1) hx hb dX7_stop_47 (by decide) ?_
            refine lv_aload_n hx hb dX7_stop_48 rfl (lv_at hl 2 rfl) ?_
            refine kb_get (own := RX7) (C := RX7) (T := TX7) (N := 19) (v := .ref (a 3)) hx hb hts hin7 hown hX hP 0 rfl rfl rfl 4 (by decide) rfl (by decide +kernel) rfl dX7_stop_49 ?_
            refine lv_iconst (v := 0) hx hb dX7_stop_52 (by decide) ?_
            refine kb_ialdN (jn := 0) (n := 2) (f := v.1 4) hx hb hX hP 0 3 rfl rfl rfl (by omega) (by decide) dX7_stop_53 ?_
            refine lv_ishl hx hb dX7_stop_54 ?_
            refine lv_icmp_ge (tgt := 126) hx hb dX7_stop_55 (by decide) (fun c_55 => ?_) (fun c_55 => absurd (lpx_c _) c_55)
            refine lv_iload hx hb dX7_stop_126 (lv_at hl 1 rfl) ?_
            have hP : PP G [bX7 a G (g_stopV v x1 x2 x3 x4)] H := by
              simp only [g_stopV, if_pos c_4, if_pos c_12, if_pos c_20, if_pos c_33, if_pos c_55]
              try simp only [ov_n1, ov_m1, ov_nc, ov_mc, ov_c] at hP ⊢
              exact hP
            exact kr_si hx hb hr hlocks dX7_stop_128 hP hS (sameAd_cons (bX7_ad _ _ _ _) sameAd_nil) ⟨by simp only [g_stopR, if_pos c_4, if_pos c_12, if_pos c_20, if_pos c_33, if_pos c_55] <;> rfl, rfl⟩
          · skip
            intro k hk_k ih_45 H locs ls hP hD hS hl 
            refine lv_iload hx hb dX7_stop_45 (lv_at hl 0 rfl) ?_
            refine lv_iconst (v := 1) hx hb dX7_stop_47 (by decide) ?_
            refine lv_aload_n hx hb dX7_stop_48 rfl (lv_at hl 2 rfl) ?_
            refine kb_get (own := RX7) (C := RX7) (T := TX7) (N := 19) (v := .ref (a 3)) hx hb hts hin7 hown hX hP 0 rfl rfl rfl 4 (by decide) rfl (by decide +kernel) rfl dX7_stop_49 ?_
            refine lv_iconst (v := 0) hx hb dX7_stop_52 (by decide) ?_
            refine kb_ialdN (jn := 0) (n := 2) (f := v.1 4) hx hb hX hP 0 3 rfl rfl rfl (by omega) (by decide) dX7_stop_53 ?_
            refine lv_ishl hx hb dX7_stop_54 ?_
            refine lv_icmp_ge (tgt := 126) hx hb dX7_stop_55 (by decide) (fun c_55 => absurd c_55 (lps_c hk_k)) (fun c_55 => ?_)
            refine lv_iload hx hb dX7_stop_58 (lv_at hl 0 rfl) ?_
            refine lv_iload_n hx hb dX7_stop_60 rfl (lv_at hl 4 rfl) ?_
            refine lv_ishr hx hb dX7_stop_61 ?_
            refine lv_iconst (v := 1) hx hb dX7_stop_62 (by decide) ?_
            refine lv_iand hx hb dX7_stop_63 ?_
            refine lv_if_ne (tgt := 120) hx hb dX7_stop_64 (by decide) (fun c_64 => ?_) (fun c_64 => ?_)
            · refine lv_iinc (v := nI (k + 1)) (lv' := [(6, .int (nI (k + 1))), (5, .int ((g_stop v x1 x2 x3 x4 k).1)), (0, .ref (a 0)), (1, .int x1), (2, .int x2), (3, .int x3), (4, .int x4)]) hx hb dX7_stop_120 hl (k := 0) rfl (nI_1 _) (by decide) rfl (fun ls hl => ?_)
              refine lv_goto (tgt := 45) hx hb dX7_stop_123 (by decide) ?_
              have hP : PP G [bX7 a G (setA (setA v 13 ((g_stop v x1 x2 x3 x4 (k + 1)).2.2)) 10 ((g_stop v x1 x2 x3 x4 (k + 1)).2.1))] H := by
                rw [g_stop, itN_s, ← g_stop]
                simp only [s_stop, if_pos c_4, if_pos c_12, if_pos c_20, if_pos c_33, if_neg c_55, if_neg c_64]
                try simp only [ov_n1, ov_m1, ov_nc, ov_mc, ov_c] at hP ⊢
                exact hP
              have hD : DD (AA (List.flatten [bX7 a G v])) [bX7 a G (setA (setA v 13 ((g_stop v x1 x2 x3 x4 (k + 1)).2.2)) 10 ((g_stop v x1 x2 x3 x4 (k + 1)).2.1))] := D_re hD (adc (bX7_ad _ _ _ _) adn)
              exact ih_45  _ _ _ hP hD hS (by rw [g_stop, itN_s, ← g_stop]; simp only [s_stop, if_pos c_4, if_pos c_12, if_pos c_20, if_pos c_33, if_neg c_55, if_neg c_64]; exact lv_sub hl [0, 1, 2, 3, 4, 5, 6] rfl) 
            · refine lv_iload hx hb dX7_stop_67 (lv_at hl 1 rfl) ?_
              refine lv_if_lt (tgt := 85) hx hb dX7_stop_69 (by decide) (fun c_69 => ?_) (fun c_69 => ?_)
              · refine lv_aload_n hx hb dX7_stop_85 rfl (lv_at hl 2 rfl) ?_
                refine lv_iload_n hx hb dX7_stop_86 rfl (lv_at hl 3 rfl) ?_
                refine lv_iload hx hb dX7_stop_87 (lv_at hl 0 rfl) ?_
                refine kcV_s hx hb hml hown hts hX hP hD hS (c_X7_behinds l G a (setA (setA v 13 ((g_stop v x1 x2 x3 x4 k).2.2)) 10 ((g_stop v x1 x2 x3 x4 k).2.1)) x1 (nI k) hD8 hL4 hRx) gX7_stop_X7_behinds 2 rfl rfl rfl hd_X7_behinds ⟨Nat.le_of_ble_eq_true rfl, Nat.le_of_ble_eq_true rfl⟩ [0] (by decide) rfl 0 rfl rfl rfl hl.1 rfl rfl (Nat.le_of_ble_eq_true rfl) dX7_stop_89 ⟨Nat.zero_le _, Nat.zero_le _⟩ (fun r_ bc_ hq_1 H locs hP hD hS => ?_)
                obtain ⟨rfl, rfl⟩ := hq_1
                have hP : PP G [bX7 a G (setA (setA (setA (setA v 13 ((g_stop v x1 x2 x3 x4 k).2.2)) 10 ((g_stop v x1 x2 x3 x4 k).2.1)) 13 ((g_behinds ((v.1 3)) ((v.1 5)) ((v.1 7)) ((v.1 4)) ((v.1 6)) (((g_stop v x1 x2 x3 x4 k).2.1)) (((g_stop v x1 x2 x3 x4 k).2.2)) x1 (nI k)).2)) 10 ((g_behinds ((v.1 3)) ((v.1 5)) ((v.1 7)) ((v.1 4)) ((v.1 6)) (((g_stop v x1 x2 x3 x4 k).2.1)) (((g_stop v x1 x2 x3 x4 k).2.2)) x1 (nI k)).1))] H := hP
                have hD : DD (AA (List.flatten [bX7 a G v])) [bX7 a G (setA (setA (setA (setA v 13 ((g_stop v x1 x2 x3 x4 k).2.2)) 10 ((g_stop v x1 x2 x3 x4 k).2.1)) 13 ((g_behinds ((v.1 3)) ((v.1 5)) ((v.1 7)) ((v.1 4)) ((v.1 6)) (((g_stop v x1 x2 x3 x4 k).2.1)) (((g_stop v x1 x2 x3 x4 k).2.2)) x1 (nI k)).2)) 10 ((g_behinds ((v.1 3)) ((v.1 5)) ((v.1 7)) ((v.1 4)) ((v.1 6)) (((g_stop v x1 x2 x3 x4 k).2.1)) (((g_stop v x1 x2 x3 x4 k).2.2)) x1 (nI k)).1))] := D_re hD (adc (bX7_ad _ _ _ _) adn)
                refine lv_aload_n hx hb dX7_stop_92 rfl (lv_at hl 2 rfl) ?_
                refine kb_get (own := RX7) (C := RX7) (T := TX7) (N := 19) (v := .ref (a 9)) hx hb hts hin7 hown hX hP 0 rfl rfl rfl 10 (by decide) rfl (by decide +kernel) rfl dX7_stop_93 ?_
                refine lv_sipush (v := 506) hx hb dX7_stop_96 (by decide) ?_
                refine lv_iconst (v := 4) hx hb dX7_stop_99 (by decide) ?_
                refine lv_iload_n hx hb dX7_stop_100 rfl (lv_at hl 4 rfl) ?_
                refine kb_nat hn_x2.1 ?_
                refine lv_imul hx hb dX7_stop_101 ?_
                refine lv_iadd hx hb dX7_stop_102 ?_
                refine lv_iload_n hx hb dX7_stop_103 rfl (lv_at hl 5 rfl) ?_
                refine kb_nat hn_x3.1 ?_
                refine lv_iadd hx hb dX7_stop_104 ?_
                refine kb_ialdN (jn := (506 + (4 * x2.toNatClampNeg)) + x3.toNatClampNeg) (n := 552) (f := (g_behinds ((v.1 3)) ((v.1 5)) ((v.1 7)) ((v.1 4)) ((v.1 6)) (((g_stop v x1 x2 x3 x4 k).2.1)) (((g_stop v x1 x2 x3 x4 k).2.2)) x1 (nI k)).1) hx hb hX hP 0 9 rfl rfl (by simp only [nI_addE, nI_mulE] <;> rfl) (by omega) (by decide) dX7_stop_105 ?_
                refine lv_iload hx hb dX7_stop_106 (lv_at hl 6 rfl) ?_
                refine lv_icmp_ge (tgt := 116) hx hb dX7_stop_108 (by decide) (fun c_108 => ?_) (fun c_108 => ?_)
                · refine lv_iload hx hb dX7_stop_116 (lv_at hl 1 rfl) ?_
                  refine lv_istore (lv' := [(5, .int ((g_stop v x1 x2 x3 x4 k).1)), (6, .int (nI k)), (0, .ref (a 0)), (1, .int x1), (2, .int x2), (3, .int x3), (4, .int x4)]) hx hb dX7_stop_118 hl (by decide) rfl (fun ls hl => ?_)
                  refine lv_iinc (v := nI (k + 1)) (lv' := [(6, .int (nI (k + 1))), (5, .int ((g_stop v x1 x2 x3 x4 k).1)), (0, .ref (a 0)), (1, .int x1), (2, .int x2), (3, .int x3), (4, .int x4)]) hx hb dX7_stop_120 hl (k := 1) rfl (nI_1 _) (by decide) rfl (fun ls hl => ?_)
                  refine lv_goto (tgt := 45) hx hb dX7_stop_123 (by decide) ?_
                  have hP : PP G [bX7 a G (setA (setA v 13 ((g_stop v x1 x2 x3 x4 (k + 1)).2.2)) 10 ((g_stop v x1 x2 x3 x4 (k + 1)).2.1))] H := by
                    rw [g_stop, itN_s, ← g_stop]
                    simp only [s_stop, if_pos c_4, if_pos c_12, if_pos c_20, if_pos c_33, if_neg c_55, if_pos c_64, if_pos c_69, if_pos c_108]
                    try simp only [ov_n1, ov_m1, ov_nc, ov_mc, ov_c] at hP ⊢
                    exact hP
                  have hD : DD (AA (List.flatten [bX7 a G v])) [bX7 a G (setA (setA v 13 ((g_stop v x1 x2 x3 x4 (k + 1)).2.2)) 10 ((g_stop v x1 x2 x3 x4 (k + 1)).2.1))] := D_re hD (adc (bX7_ad _ _ _ _) adn)
                  exact ih_45  _ _ _ hP hD hS (by rw [g_stop, itN_s, ← g_stop]; simp only [s_stop, if_pos c_4, if_pos c_12, if_pos c_20, if_pos c_33, if_neg c_55, if_pos c_64, if_pos c_69, if_pos c_108]; exact lv_sub hl [0, 1, 2, 3, 4, 5, 6] rfl) 
                · refine lv_iload hx hb dX7_stop_111 (lv_at hl 0 rfl) ?_
                  refine lv_goto (tgt := 118) hx hb dX7_stop_113 (by decide) ?_
                  refine lv_istore (lv' := [(5, .int (nI k)), (6, .int (nI k)), (0, .ref (a 0)), (1, .int x1), (2, .int x2), (3, .int x3), (4, .int x4)]) hx hb dX7_stop_118 hl (by decide) rfl (fun ls hl => ?_)
                  refine lv_iinc (v := nI (k + 1)) (lv' := [(6, .int (nI (k + 1))), (5, .int (nI k)), (0, .ref (a 0)), (1, .int x1), (2, .int x2), (3, .int x3), (4, .int x4)]) hx hb dX7_stop_120 hl (k := 1) rfl (nI_1 _) (by decide) rfl (fun ls hl => ?_)
                  refine lv_goto (tgt := 45) hx hb dX7_stop_123 (by decide) ?_
                  have hP : PP G [bX7 a G (setA (setA v 13 ((g_stop v x1 x2 x3 x4 (k + 1)).2.2)) 10 ((g_stop v x1 x2 x3 x4 (k + 1)).2.1))] H := by
                    rw [g_stop, itN_s, ← g_stop]
                    simp only [s_stop, if_pos c_4, if_pos c_12, if_pos c_20, if_pos c_33, if_neg c_55, if_pos c_64, if_pos c_69, if_neg c_108]
                    try simp only [ov_n1, ov_m1, ov_nc, ov_mc, ov_c] at hP ⊢
                    exact hP
                  have hD : DD (AA (List.flatten [bX7 a G v])) [bX7 a G (setA (setA v 13 ((g_stop v x1 x2 x3 x4 (k + 1)).2.2)) 10 ((g_stop v x1 x2 x3 x4 (k + 1)).2.1))] := D_re hD (adc (bX7_ad _ _ _ _) adn)
                  exact ih_45  _ _ _ hP hD hS (by rw [g_stop, itN_s, ← g_stop]; simp only [s_stop, if_pos c_4, if_pos c_12, if_pos c_20, if_pos c_33, if_neg c_55, if_pos c_64, if_pos c_69, if_neg c_108]; exact lv_sub hl [0, 1, 2, 3, 4, 5, 6] rfl) 
              · refine lv_iload hx hb dX7_stop_72 (lv_at hl 0 rfl) ?_
                refine kcS_p hx hb hml hown hts hX hP (c_X7_many l G (nI k)) gX7_stop_X7_many 1 rfl rfl rfl hdS_X7_many ⟨Nat.le_of_ble_eq_true rfl, Nat.le_of_ble_eq_true rfl⟩ (fun q hq => absurd hq List.not_mem_nil) hl.1 rfl rfl (Nat.le_of_ble_eq_true rfl) dX7_stop_74 ⟨Nat.zero_le _, Nat.zero_le _⟩ ?_
                refine lv_iload hx hb dX7_stop_77 (lv_at hl 1 rfl) ?_
                refine kcS_p hx hb hml hown hts hX hP (c_X7_many l G ((g_stop v x1 x2 x3 x4 k).1)) gX7_stop_X7_many 1 rfl rfl rfl hdS_X7_many ⟨Nat.le_of_ble_eq_true rfl, Nat.le_of_ble_eq_true rfl⟩ (fun q hq => absurd hq List.not_mem_nil) hl.1 rfl rfl (Nat.le_of_ble_eq_true rfl) dX7_stop_79 ⟨Nat.zero_le _, Nat.zero_le _⟩ ?_
                refine lv_icmp_ge (tgt := 120) hx hb dX7_stop_82 (by decide) (fun c_82 => ?_) (fun c_82 => ?_)
                · refine lv_iinc (v := nI (k + 1)) (lv' := [(6, .int (nI (k + 1))), (5, .int ((g_stop v x1 x2 x3 x4 k).1)), (0, .ref (a 0)), (1, .int x1), (2, .int x2), (3, .int x3), (4, .int x4)]) hx hb dX7_stop_120 hl (k := 0) rfl (nI_1 _) (by decide) rfl (fun ls hl => ?_)
                  refine lv_goto (tgt := 45) hx hb dX7_stop_123 (by decide) ?_
                  have hP : PP G [bX7 a G (setA (setA v 13 ((g_stop v x1 x2 x3 x4 (k + 1)).2.2)) 10 ((g_stop v x1 x2 x3 x4 (k + 1)).2.1))] H := by
                    rw [g_stop, itN_s, ← g_stop]
                    simp only [s_stop, if_pos c_4, if_pos c_12, if_pos c_20, if_pos c_33, if_neg c_55, if_pos c_64, if_neg c_69, if_pos c_82]
                    try simp only [ov_n1, ov_m1, ov_nc, ov_mc, ov_c] at hP ⊢
                    exact hP
                  have hD : DD (AA (List.flatten [bX7 a G v])) [bX7 a G (setA (setA v 13 ((g_stop v x1 x2 x3 x4 (k + 1)).2.2)) 10 ((g_stop v x1 x2 x3 x4 (k + 1)).2.1))] := D_re hD (adc (bX7_ad _ _ _ _) adn)
                  exact ih_45  _ _ _ hP hD hS (by rw [g_stop, itN_s, ← g_stop]; simp only [s_stop, if_pos c_4, if_pos c_12, if_pos c_20, if_pos c_33, if_neg c_55, if_pos c_64, if_neg c_69, if_pos c_82]; exact lv_sub hl [0, 1, 2, 3, 4, 5, 6] rfl) 
                · refine lv_aload_n hx hb dX7_stop_85 rfl (lv_at hl 2 rfl) ?_
                  refine lv_iload_n hx hb dX7_stop_86 rfl (lv_at hl 3 rfl) ?_
                  refine lv_iload hx hb dX7_stop_87 (lv_at hl 0 rfl) ?_
                  refine kcV_s hx hb hml hown hts hX hP hD hS (c_X7_behinds l G a (setA (setA v 13 ((g_stop v x1 x2 x3 x4 k).2.2)) 10 ((g_stop v x1 x2 x3 x4 k).2.1)) x1 (nI k) hD8 hL4 hRx) gX7_stop_X7_behinds 2 rfl rfl rfl hd_X7_behinds ⟨Nat.le_of_ble_eq_true rfl, Nat.le_of_ble_eq_true rfl⟩ [0] (by decide) rfl 0 rfl rfl rfl hl.1 rfl rfl (Nat.le_of_ble_eq_true rfl) dX7_stop_89 ⟨Nat.zero_le _, Nat.zero_le _⟩ (fun r_ bc_ hq_2 H locs hP hD hS => ?_)
                  obtain ⟨rfl, rfl⟩ := hq_2
                  have hP : PP G [bX7 a G (setA (setA (setA (setA v 13 ((g_stop v x1 x2 x3 x4 k).2.2)) 10 ((g_stop v x1 x2 x3 x4 k).2.1)) 13 ((g_behinds ((v.1 3)) ((v.1 5)) ((v.1 7)) ((v.1 4)) ((v.1 6)) (((g_stop v x1 x2 x3 x4 k).2.1)) (((g_stop v x1 x2 x3 x4 k).2.2)) x1 (nI k)).2)) 10 ((g_behinds ((v.1 3)) ((v.1 5)) ((v.1 7)) ((v.1 4)) ((v.1 6)) (((g_stop v x1 x2 x3 x4 k).2.1)) (((g_stop v x1 x2 x3 x4 k).2.2)) x1 (nI k)).1))] H := hP
                  have hD : DD (AA (List.flatten [bX7 a G v])) [bX7 a G (setA (setA (setA (setA v 13 ((g_stop v x1 x2 x3 x4 k).2.2)) 10 ((g_stop v x1 x2 x3 x4 k).2.1)) 13 ((g_behinds ((v.1 3)) ((v.1 5)) ((v.1 7)) ((v.1 4)) ((v.1 6)) (((g_stop v x1 x2 x3 x4 k).2.1)) (((g_stop v x1 x2 x3 x4 k).2.2)) x1 (nI k)).2)) 10 ((g_behinds ((v.1 3)) ((v.1 5)) ((v.1 7)) ((v.1 4)) ((v.1 6)) (((g_stop v x1 x2 x3 x4 k).2.1)) (((g_stop v x1 x2 x3 x4 k).2.2)) x1 (nI k)).1))] := D_re hD (adc (bX7_ad _ _ _ _) adn)
                  refine lv_aload_n hx hb dX7_stop_92 rfl (lv_at hl 2 rfl) ?_
                  refine kb_get (own := RX7) (C := RX7) (T := TX7) (N := 19) (v := .ref (a 9)) hx hb hts hin7 hown hX hP 0 rfl rfl rfl 10 (by decide) rfl (by decide +kernel) rfl dX7_stop_93 ?_
                  refine lv_sipush (v := 506) hx hb dX7_stop_96 (by decide) ?_
                  refine lv_iconst (v := 4) hx hb dX7_stop_99 (by decide) ?_
                  refine lv_iload_n hx hb dX7_stop_100 rfl (lv_at hl 4 rfl) ?_
                  refine kb_nat hn_x2.1 ?_
                  refine lv_imul hx hb dX7_stop_101 ?_
                  refine lv_iadd hx hb dX7_stop_102 ?_
                  refine lv_iload_n hx hb dX7_stop_103 rfl (lv_at hl 5 rfl) ?_
                  refine kb_nat hn_x3.1 ?_
                  refine lv_iadd hx hb dX7_stop_104 ?_
                  refine kb_ialdN (jn := (506 + (4 * x2.toNatClampNeg)) + x3.toNatClampNeg) (n := 552) (f := (g_behinds ((v.1 3)) ((v.1 5)) ((v.1 7)) ((v.1 4)) ((v.1 6)) (((g_stop v x1 x2 x3 x4 k).2.1)) (((g_stop v x1 x2 x3 x4 k).2.2)) x1 (nI k)).1) hx hb hX hP 0 9 rfl rfl (by simp only [nI_addE, nI_mulE] <;> rfl) (by omega) (by decide) dX7_stop_105 ?_
                  refine lv_iload hx hb dX7_stop_106 (lv_at hl 6 rfl) ?_
                  refine lv_icmp_ge (tgt := 116) hx hb dX7_stop_108 (by decide) (fun c_108 => ?_) (fun c_108 => ?_)
                  · refine lv_iload hx hb dX7_stop_116 (lv_at hl 1 rfl) ?_
                    refine lv_istore (lv' := [(5, .int ((g_stop v x1 x2 x3 x4 k).1)), (6, .int (nI k)), (0, .ref (a 0)), (1, .int x1), (2, .int x2), (3, .int x3), (4, .int x4)]) hx hb dX7_stop_118 hl (by decide) rfl (fun ls hl => ?_)
                    refine lv_iinc (v := nI (k + 1)) (lv' := [(6, .int (nI (k + 1))), (5, .int ((g_stop v x1 x2 x3 x4 k).1)), (0, .ref (a 0)), (1, .int x1), (2, .int x2), (3, .int x3), (4, .int x4)]) hx hb dX7_stop_120 hl (k := 1) rfl (nI_1 _) (by decide) rfl (fun ls hl => ?_)
                    refine lv_goto (tgt := 45) hx hb dX7_stop_123 (by decide) ?_
                    have hP : PP G [bX7 a G (setA (setA v 13 ((g_stop v x1 x2 x3 x4 (k + 1)).2.2)) 10 ((g_stop v x1 x2 x3 x4 (k + 1)).2.1))] H := by
                      rw [g_stop, itN_s, ← g_stop]
                      simp only [s_stop, if_pos c_4, if_pos c_12, if_pos c_20, if_pos c_33, if_neg c_55, if_pos c_64, if_neg c_69, if_neg c_82, if_pos c_108]
                      try simp only [ov_n1, ov_m1, ov_nc, ov_mc, ov_c] at hP ⊢
                      exact hP
                    have hD : DD (AA (List.flatten [bX7 a G v])) [bX7 a G (setA (setA v 13 ((g_stop v x1 x2 x3 x4 (k + 1)).2.2)) 10 ((g_stop v x1 x2 x3 x4 (k + 1)).2.1))] := D_re hD (adc (bX7_ad _ _ _ _) adn)
                    exact ih_45  _ _ _ hP hD hS (by rw [g_stop, itN_s, ← g_stop]; simp only [s_stop, if_pos c_4, if_pos c_12, if_pos c_20, if_pos c_33, if_neg c_55, if_pos c_64, if_neg c_69, if_neg c_82, if_pos c_108]; exact lv_sub hl [0, 1, 2, 3, 4, 5, 6] rfl) 
                  · refine lv_iload hx hb dX7_stop_111 (lv_at hl 0 rfl) ?_
                    refine lv_goto (tgt := 118) hx hb dX7_stop_113 (by decide) ?_
                    refine lv_istore (lv' := [(5, .int (nI k)), (6, .int (nI k)), (0, .ref (a 0)), (1, .int x1), (2, .int x2), (3, .int x3), (4, .int x4)]) hx hb dX7_stop_118 hl (by decide) rfl (fun ls hl => ?_)
                    refine lv_iinc (v := nI (k + 1)) (lv' := [(6, .int (nI (k + 1))), (5, .int (nI k)), (0, .ref (a 0)), (1, .int x1), (2, .int x2), (3, .int x3), (4, .int x4)]) hx hb dX7_stop_120 hl (k := 1) rfl (nI_1 _) (by decide) rfl (fun ls hl => ?_)
                    refine lv_goto (tgt := 45) hx hb dX7_stop_123 (by decide) ?_
                    have hP : PP G [bX7 a G (setA (setA v 13 ((g_stop v x1 x2 x3 x4 (k + 1)).2.2)) 10 ((g_stop v x1 x2 x3 x4 (k + 1)).2.1))] H := by
                      rw [g_stop, itN_s, ← g_stop]
                      simp only [s_stop, if_pos c_4, if_pos c_12, if_pos c_20, if_pos c_33, if_neg c_55, if_pos c_64, if_neg c_69, if_neg c_82, if_neg c_108]
                      try simp only [ov_n1, ov_m1, ov_nc, ov_mc, ov_c] at hP ⊢
                      exact hP
                    have hD : DD (AA (List.flatten [bX7 a G v])) [bX7 a G (setA (setA v 13 ((g_stop v x1 x2 x3 x4 (k + 1)).2.2)) 10 ((g_stop v x1 x2 x3 x4 (k + 1)).2.1))] := D_re hD (adc (bX7_ad _ _ _ _) adn)
                    exact ih_45  _ _ _ hP hD hS (by rw [g_stop, itN_s, ← g_stop]; simp only [s_stop, if_pos c_4, if_pos c_12, if_pos c_20, if_pos c_33, if_neg c_55, if_pos c_64, if_neg c_69, if_neg c_82, if_neg c_108]; exact lv_sub hl [0, 1, 2, 3, 4, 5, 6] rfl) 
        · have c_33 := b2i_fN c_33r
          refine lv_iconst (v := (-1)) hx hb dX7_stop_36 (by decide) ?_
          have hP : PP G [bX7 a G (g_stopV v x1 x2 x3 x4)] H := by
            simp only [g_stopV, if_pos c_4, if_pos c_12, if_pos c_20, if_neg c_33]
            try simp only [ov_n1, ov_m1, ov_nc, ov_mc, ov_c] at hP ⊢
            exact hP
          exact kr_si hx hb hr hlocks dX7_stop_37 hP hS (sameAd_cons (bX7_ad _ _ _ _) sameAd_nil) ⟨by simp only [g_stopR, if_pos c_4, if_pos c_12, if_pos c_20, if_neg c_33] <;> rfl, rfl⟩

def rm_X7_how : Room := { frames := 2, cells := 0, slots := 0, locals := 46 }
theorem hd_X7_how : yX7_how.cls = RX7 ∧ yX7_how.cls ≠ "java/lang/invoke/MethodHandle" ∧ yX7_how.cls ≠ "java/lang/invoke/VarHandle" ∧ (parseMethodDescriptor yX7_how.desc).map (fun d => d.parameters.length) = some 5 := by decide +kernel
set_option maxRecDepth 100000 in
set_option maxHeartbeats 4000000 in
theorem c_X7_how (l : Launch) (G : GD) (a : Nat → Nat) (v : OV) (x1 : Int32) (x2 : Int32) (x3 : Int32) (x4 : Int32) (x5 : Int32) (hD : ¬ v.1 4 0 < 0) (hD8 : (v.1 4 0).toNatClampNeg ≤ 8) (hL : ¬ v.1 7 0 < 0) (hL4 : (v.1 7 0).toNatClampNeg ≤ 4) : MetP l yX7_how wsX7_how rm_X7_how G [bX7 a G v] [.ref (a 0), .int x1, .int x2, .int x3, .int x4, .int x5] (some (.int (g_howR v x1 x2 x3 x4 x5))) := by
  refine kb_beginP (cc := cX7_how) (maxL := 11) (ret := (some .int)) (by decide) rfl (Nat.le_of_ble_eq_true rfl) ?_
  intro p e s m below meth c hx hb hr hml hown hts hlocks hX hP ls hl
  have hown : s.vm.findClass RX7 = some m.cls := hown
  have hl : lv_has ls 11 [(0, .ref (a 0)), (1, .int x1), (2, .int x2), (3, .int x3), (4, .int x4), (5, .int x5)] := hl
  have hin7 : ∀ w ∈ u_ws RX7 TX7 19, w ∈ wsX7_how := (fun _ h => List.mem_cons_of_mem _ (List.mem_append_right _ (h)))
  refine lv_aload_n hx hb dX7_how_0 rfl (lv_at hl 0 rfl) ?_
  refine lv_iload_n hx hb dX7_how_1 rfl (lv_at hl 1 rfl) ?_
  refine kcV_p hx hb hml hown hts hX hP (c_X7_isLodger l G a v x1) gX7_how_X7_isLodger 1 rfl rfl rfl hd_X7_isLodger ⟨Nat.le_of_ble_eq_true rfl, Nat.le_of_ble_eq_true rfl⟩ [0] rfl 0 rfl rfl rfl hl.1 rfl rfl (Nat.le_of_ble_eq_true rfl) dX7_how_2 ⟨Nat.zero_le _, Nat.zero_le _⟩ ?_
  refine kb_rw (y := b2i (gIsDoor ((v.1 7)) x1)) rfl ?_
  refine lv_if_eq (tgt := 52) hx hb dX7_how_5 (by decide) (fun c_5r => ?_) (fun c_5r => ?_)
  · have c_5 := b2i_fN c_5r
    refine lv_iconst (v := (-1)) hx hb dX7_how_52 (by decide) ?_
    exact kr_pi hx hb hr hlocks dX7_how_53 (by simp only [g_howR, if_neg c_5] <;> rfl)
  · have c_5 := b2i_tP c_5r
    have hn_x1 := isDoor_n c_5 hL
    have hb_x1 := hn_x1.2
    refine lv_aload_n hx hb dX7_how_8 rfl (lv_at hl 0 rfl) ?_
    refine lv_iload_n hx hb dX7_how_9 rfl (lv_at hl 2 rfl) ?_
    refine kcV_p hx hb hml hown hts hX hP (c_X7_isDoor l G a v x2) gX7_how_X7_isDoor 1 rfl rfl rfl hd_X7_isDoor ⟨Nat.le_of_ble_eq_true rfl, Nat.le_of_ble_eq_true rfl⟩ [0] rfl 0 rfl rfl rfl hl.1 rfl rfl (Nat.le_of_ble_eq_true rfl) dX7_how_10 ⟨Nat.zero_le _, Nat.zero_le _⟩ ?_
    refine kb_rw (y := b2i (gIsDoor ((v.1 4)) x2)) rfl ?_
    refine lv_if_eq (tgt := 52) hx hb dX7_how_13 (by decide) (fun c_13r => ?_) (fun c_13r => ?_)
    · have c_13 := b2i_fN c_13r
      refine lv_iconst (v := (-1)) hx hb dX7_how_52 (by decide) ?_
      exact kr_pi hx hb hr hlocks dX7_how_53 (by simp only [g_howR, if_pos c_5, if_neg c_13] <;> rfl)
    · have c_13 := b2i_tP c_13r
      have hn_x2 := isDoor_n c_13 hD
      have hb_x2 := hn_x2.2
      refine lv_iload_n hx hb dX7_how_16 rfl (lv_at hl 3 rfl) ?_
      refine lv_i2l (v := (x3 : Int32).toInt64) hx hb dX7_how_17 rfl ?_
      refine lv_lconst (v := 0) hx hb dX7_how_18 (by decide) ?_
      refine lv_ldc2 (own := RX7) (v := 8) hx hb hown (hts (.constantLong RX7 59 8) (by decide +kernel)) dX7_how_19 ?_
      refine kcS_p hx hb hml hown hts hX hP (c_X7_in l G ((x3 : Int32).toInt64) 0 8) gX7_how_X7_in 3 rfl rfl rfl hdS_X7_in ⟨Nat.le_of_ble_eq_true rfl, Nat.le_of_ble_eq_true rfl⟩ (fun q hq => absurd hq List.not_mem_nil) hl.1 rfl rfl (Nat.le_of_ble_eq_true rfl) dX7_how_22 ⟨Nat.zero_le _, Nat.zero_le _⟩ ?_
      refine lv_if_eq (tgt := 52) hx hb dX7_how_25 (by decide) (fun c_25r => ?_) (fun c_25r => ?_)
      · have c_25 := b2i_fN c_25r
        refine lv_iconst (v := (-1)) hx hb dX7_how_52 (by decide) ?_
        exact kr_pi hx hb hr hlocks dX7_how_53 (by simp only [g_howR, if_pos c_5, if_pos c_13, if_neg c_25] <;> rfl)
      · have c_25 := b2i_tP c_25r
        refine lv_iload hx hb dX7_how_28 (lv_at hl 4 rfl) ?_
        refine lv_i2l (v := (x4 : Int32).toInt64) hx hb dX7_how_30 rfl ?_
        refine lv_lconst (v := 1) hx hb dX7_how_31 (by decide) ?_
        refine lv_ldc2 (own := RX7) (v := 100) hx hb hown (hts (.constantLong RX7 195 100) (by decide +kernel)) dX7_how_32 ?_
        refine kcS_p hx hb hml hown hts hX hP (c_X7_in l G ((x4 : Int32).toInt64) 1 100) gX7_how_X7_in 3 rfl rfl rfl hdS_X7_in ⟨Nat.le_of_ble_eq_true rfl, Nat.le_of_ble_eq_true rfl⟩ (fun q hq => absurd hq List.not_mem_nil) hl.1 rfl rfl (Nat.le_of_ble_eq_true rfl) dX7_how_35 ⟨Nat.zero_le _, Nat.zero_le _⟩ ?_
        refine lv_if_eq (tgt := 52) hx hb dX7_how_38 (by decide) (fun c_38r => ?_) (fun c_38r => ?_)
        · have c_38 := b2i_fN c_38r
          refine lv_iconst (v := (-1)) hx hb dX7_how_52 (by decide) ?_
          exact kr_pi hx hb hr hlocks dX7_how_53 (by simp only [g_howR, if_pos c_5, if_pos c_13, if_pos c_25, if_neg c_38] <;> rfl)
        · have c_38 := b2i_tP c_38r
          refine lv_iload hx hb dX7_how_41 (lv_at hl 5 rfl) ?_
          refine lv_i2l (v := (x5 : Int32).toInt64) hx hb dX7_how_43 rfl ?_
          refine lv_lconst (v := 0) hx hb dX7_how_44 (by decide) ?_
          refine lv_lconst (v := 1) hx hb dX7_how_45 (by decide) ?_
          refine kcS_p hx hb hml hown hts hX hP (c_X7_in l G ((x5 : Int32).toInt64) 0 1) gX7_how_X7_in 3 rfl rfl rfl hdS_X7_in ⟨Nat.le_of_ble_eq_true rfl, Nat.le_of_ble_eq_true rfl⟩ (fun q hq => absurd hq List.not_mem_nil) hl.1 rfl rfl (Nat.le_of_ble_eq_true rfl) dX7_how_46 ⟨Nat.zero_le _, Nat.zero_le _⟩ ?_
          refine lv_if_ne (tgt := 54) hx hb dX7_how_49 (by decide) (fun c_49r => ?_) (fun c_49r => ?_)
          · have c_49 := b2i_tP c_49r
            refine lv_iconst (v := 0) hx hb dX7_how_54 (by decide) ?_
            refine lv_istore (lv' := [(6, .int 0), (0, .ref (a 0)), (1, .int x1), (2, .int x2), (3, .int x3), (4, .int x4), (5, .int x5)]) hx hb dX7_how_55 hl (by decide) rfl (fun ls hl => ?_)
            refine lv_bipush (v := (-4)) hx hb dX7_how_57 (by decide) ?_
            refine lv_istore (lv' := [(7, .int (-4)), (6, .int 0), (0, .ref (a 0)), (1, .int x1), (2, .int x2), (3, .int x3), (4, .int x4), (5, .int x5)]) hx hb dX7_how_59 hl (by decide) rfl (fun ls hl => ?_)
            refine lv_iconst (v := 0) hx hb dX7_how_61 (by decide) ?_
            refine lv_istore (lv' := [(8, .int 0), (7, .int (-4)), (6, .int 0), (0, .ref (a 0)), (1, .int x1), (2, .int x2), (3, .int x3), (4, .int x4), (5, .int x5)]) hx hb dX7_how_62 hl (by decide) rfl (fun ls hl => ?_)
            refine lp_up (N := (1 <<< (x3 &&& 31) : Int32).toNatClampNeg) (P := fun o => ∀ (ls : Array Slot), lv_has ls 11 [(8, .int (nI o)), (7, .int ((g_how v x1 x2 x3 x4 o).2)), (6, .int ((g_how v x1 x2 x3 x4 o).1)), (0, .ref (a 0)), (1, .int x1), (2, .int x2), (3, .int x3), (4, .int x4), (5, .int x5)] →  W p l e (headSpec wsX7_how rm_X7_how).room s m ([.ref (a 0), .int x1, .int x2, .int x3, .int x4, .int x5] : List Value).toArray below meth c s.heap [] 0 0 (MQ below (kQp (some (.int (g_howR v x1 x2 x3 x4 x5)))) ([.ref (a 0), .int x1, .int x2, .int x3, .int x4, .int x5] : List Value).toArray s 0 0 (fun _ => False)) (F0 m 64 ls [])) ?_ ?_ 0 (Nat.zero_le _)  _ (lv_sub hl [0, 1, 2, 3, 4, 5, 6, 7, 8] rfl) 
            · skip
              intro ls hl 
              refine lv_iload hx hb dX7_how_64 (lv_at hl 0 rfl) ?_
              refine lv_iconst (v := 1) hx hb dX7_how_66 (by decide) ?_
              refine lv_iload_n hx hb dX7_how_67 rfl (lv_at hl 6 rfl) ?_
              refine lv_ishl hx hb dX7_how_68 ?_
              refine lv_icmp_ge (tgt := 169) hx hb dX7_how_69 (by decide) (fun c_69 => ?_) (fun c_69 => absurd (lpx_c _) c_69)
              refine lv_iload hx hb dX7_how_169 (lv_at hl 8 rfl) ?_
              refine lv_if_ne (tgt := 179) hx hb dX7_how_171 (by decide) (fun c_171 => ?_) (fun c_171 => ?_)
              · refine lv_iload hx hb dX7_how_179 (lv_at hl 1 rfl) ?_
                exact kr_pi hx hb hr hlocks dX7_how_181 (by simp only [g_howR, if_pos c_5, if_pos c_13, if_pos c_25, if_pos c_38, if_pos c_49, if_pos c_69, if_neg c_171] <;> rfl)
              · refine lv_iload hx hb dX7_how_174 (lv_at hl 2 rfl) ?_
                refine lv_goto (tgt := 181) hx hb dX7_how_176 (by decide) ?_
                exact kr_pi hx hb hr hlocks dX7_how_181 (by simp only [g_howR, if_pos c_5, if_pos c_13, if_pos c_25, if_pos c_38, if_pos c_49, if_pos c_69, if_pos c_171] <;> rfl)
            · skip
              intro o hk_o ih_64 ls hl 
              refine lv_iload hx hb dX7_how_64 (lv_at hl 0 rfl) ?_
              refine lv_iconst (v := 1) hx hb dX7_how_66 (by decide) ?_
              refine lv_iload_n hx hb dX7_how_67 rfl (lv_at hl 6 rfl) ?_
              refine lv_ishl hx hb dX7_how_68 ?_
              refine lv_icmp_ge (tgt := 169) hx hb dX7_how_69 (by decide) (fun c_69 => absurd c_69 (lps_c hk_o)) (fun c_69 => ?_)
              refine lv_aload_n hx hb dX7_how_72 rfl (lv_at hl 3 rfl) ?_
              refine kb_get (own := RX7) (C := RX7) (T := TX7) (N := 19) (v := .ref (a 8)) hx hb hts hin7 hown hX hP 0 rfl rfl rfl 9 (by decide) rfl (by decide +kernel) rfl dX7_how_73 ?_
              refine lv_iconst (v := 4) hx hb dX7_how_76 (by decide) ?_
              refine lv_iload_n hx hb dX7_how_77 rfl (lv_at hl 5 rfl) ?_
              refine kb_nat hn_x2.1 ?_
              refine lv_imul hx hb dX7_how_78 ?_
              refine lv_iload_n hx hb dX7_how_79 rfl (lv_at hl 4 rfl) ?_
              refine kb_nat hn_x1.1 ?_
              refine lv_iadd hx hb dX7_how_80 ?_
              refine kb_ialdN (jn := (4 * x2.toNatClampNeg) + x1.toNatClampNeg) (n := 64) (f := v.1 9) hx hb hX hP 0 8 rfl rfl (by simp only [nI_addE, nI_mulE] <;> rfl) (by omega) (by decide) dX7_how_81 ?_
              refine lv_istore (lv' := [(9, .int ((v.1 9) ((4 * x2.toNatClampNeg) + x1.toNatClampNeg))), (8, .int (nI o)), (7, .int ((g_how v x1 x2 x3 x4 o).2)), (6, .int ((g_how v x1 x2 x3 x4 o).1)), (0, .ref (a 0)), (1, .int x1), (2, .int x2), (3, .int x3), (4, .int x4), (5, .int x5)]) hx hb dX7_how_82 hl (by decide) rfl (fun ls hl => ?_)
              refine lv_iconst (v := 0) hx hb dX7_how_84 (by decide) ?_
              refine lv_istore (lv' := [(10, .int 0), (9, .int ((v.1 9) ((4 * x2.toNatClampNeg) + x1.toNatClampNeg))), (8, .int (nI o)), (7, .int ((g_how v x1 x2 x3 x4 o).2)), (6, .int ((g_how v x1 x2 x3 x4 o).1)), (0, .ref (a 0)), (1, .int x1), (2, .int x2), (3, .int x3), (4, .int x4), (5, .int x5)]) hx hb dX7_how_85 hl (by decide) rfl (fun ls hl => ?_)
              refine lp_up (N := x3.toNatClampNeg) (P := fun k => ∀ (ls : Array Slot), lv_has ls 11 [(10, .int (nI k)), (9, .int (itN (s_becq (v.1 3) (v.1 8) x1.toNatClampNeg (nI o)) (v.1 9 (4 * x2.toNatClampNeg + x1.toNatClampNeg)) k)), (8, .int (nI o)), (7, .int ((g_how v x1 x2 x3 x4 o).2)), (6, .int ((g_how v x1 x2 x3 x4 o).1)), (0, .ref (a 0)), (1, .int x1), (2, .int x2), (3, .int x3), (4, .int x4), (5, .int x5)] →  W p l e (headSpec wsX7_how rm_X7_how).room s m ([.ref (a 0), .int x1, .int x2, .int x3, .int x4, .int x5] : List Value).toArray below meth c s.heap [] 0 0 (MQ below (kQp (some (.int (g_howR v x1 x2 x3 x4 x5)))) ([.ref (a 0), .int x1, .int x2, .int x3, .int x4, .int x5] : List Value).toArray s 0 0 (fun _ => False)) (F0 m 87 ls [])) ?_ ?_ 0 (Nat.zero_le _)  _ (lv_sub hl [0, 1, 2, 3, 4, 5, 6, 7, 8, 9, 10] rfl) 
              · skip
                intro ls hl 
                refine lv_iload hx hb dX7_how_87 (lv_at hl 0 rfl) ?_
                refine lv_iload_n hx hb dX7_how_89 rfl (lv_at hl 8 rfl) ?_
                refine lv_icmp_ge (tgt := 124) hx hb dX7_how_90 (by decide) (fun c_90 => ?_) (fun c_90 => absurd (lpx_c _) c_90)
                refine lv_iload hx hb dX7_how_124 (lv_at hl 1 rfl) ?_
                refine lv_iconst (v := 1) hx hb dX7_how_126 (by decide) ?_
                refine lv_iadd hx hb dX7_how_127 ?_
                refine lv_iload hx hb dX7_how_128 (lv_at hl 9 rfl) ?_
                refine lv_icmp_ne (tgt := 163) hx hb dX7_how_130 (by decide) (fun c_130 => ?_) (fun c_130 => ?_)
                · refine lv_iinc (v := nI (o + 1)) (lv' := [(8, .int (nI (o + 1))), (10, .int (nI x3.toNatClampNeg)), (9, .int (itN (s_becq (v.1 3) (v.1 8) x1.toNatClampNeg (nI o)) (v.1 9 (4 * x2.toNatClampNeg + x1.toNatClampNeg)) x3.toNatClampNeg)), (7, .int ((g_how v x1 x2 x3 x4 o).2)), (6, .int ((g_how v x1 x2 x3 x4 o).1)), (0, .ref (a 0)), (1, .int x1), (2, .int x2), (3, .int x3), (4, .int x4), (5, .int x5)]) hx hb dX7_how_163 hl (k := 2) rfl (nI_1 _) (by decide) rfl (fun ls hl => ?_)
                  refine lv_goto (tgt := 64) hx hb dX7_how_166 (by decide) ?_
                  exact ih_64  _ (by rw [g_how, itN_s, ← g_how]; simp only [s_how, if_pos c_5, if_pos c_13, if_pos c_25, if_pos c_38, if_pos c_49, if_neg c_69, if_pos c_90, if_neg c_130]; exact lv_sub hl [0, 3, 4, 5, 6, 7, 8, 9, 10] rfl) 
                · refine lv_iinc (v := ((g_how v x1 x2 x3 x4 o).1) + 1) (lv' := [(6, .int (((g_how v x1 x2 x3 x4 o).1) + 1)), (10, .int (nI x3.toNatClampNeg)), (9, .int (itN (s_becq (v.1 3) (v.1 8) x1.toNatClampNeg (nI o)) (v.1 9 (4 * x2.toNatClampNeg + x1.toNatClampNeg)) x3.toNatClampNeg)), (8, .int (nI o)), (7, .int ((g_how v x1 x2 x3 x4 o).2)), (0, .ref (a 0)), (1, .int x1), (2, .int x2), (3, .int x3), (4, .int x4), (5, .int x5)]) hx hb dX7_how_133 hl (k := 4) rfl rfl (by decide) rfl (fun ls hl => ?_)
                  refine lv_iload hx hb dX7_how_136 (lv_at hl 4 rfl) ?_
                  refine lv_if_lt (tgt := 151) hx hb dX7_how_138 (by decide) (fun c_138 => ?_) (fun c_138 => ?_)
                  · refine lv_iload hx hb dX7_how_151 (lv_at hl 3 rfl) ?_
                    refine kcS_p hx hb hml hown hts hX hP (c_X7_many l G (nI o)) gX7_how_X7_many 1 rfl rfl rfl hdS_X7_many ⟨Nat.le_of_ble_eq_true rfl, Nat.le_of_ble_eq_true rfl⟩ (fun q hq => absurd hq List.not_mem_nil) hl.1 rfl rfl (Nat.le_of_ble_eq_true rfl) dX7_how_153 ⟨Nat.zero_le _, Nat.zero_le _⟩ ?_
                    refine lv_goto (tgt := 161) hx hb dX7_how_156 (by decide) ?_
                    refine lv_istore (lv' := [(7, .int (g_many (nI o))), (6, .int (((g_how v x1 x2 x3 x4 o).1) + 1)), (10, .int (nI x3.toNatClampNeg)), (9, .int (itN (s_becq (v.1 3) (v.1 8) x1.toNatClampNeg (nI o)) (v.1 9 (4 * x2.toNatClampNeg + x1.toNatClampNeg)) x3.toNatClampNeg)), (8, .int (nI o)), (0, .ref (a 0)), (1, .int x1), (2, .int x2), (3, .int x3), (4, .int x4), (5, .int x5)]) hx hb dX7_how_161 hl (by decide) rfl (fun ls hl => ?_)
                    refine lv_iinc (v := nI (o + 1)) (lv' := [(8, .int (nI (o + 1))), (7, .int (g_many (nI o))), (6, .int (((g_how v x1 x2 x3 x4 o).1) + 1)), (10, .int (nI x3.toNatClampNeg)), (9, .int (itN (s_becq (v.1 3) (v.1 8) x1.toNatClampNeg (nI o)) (v.1 9 (4 * x2.toNatClampNeg + x1.toNatClampNeg)) x3.toNatClampNeg)), (0, .ref (a 0)), (1, .int x1), (2, .int x2), (3, .int x3), (4, .int x4), (5, .int x5)]) hx hb dX7_how_163 hl (k := 4) rfl (nI_1 _) (by decide) rfl (fun ls hl => ?_)
                    refine lv_goto (tgt := 64) hx hb dX7_how_166 (by decide) ?_
                    exact ih_64  _ (by rw [g_how, itN_s, ← g_how]; simp only [s_how, if_pos c_5, if_pos c_13, if_pos c_25, if_pos c_38, if_pos c_49, if_neg c_69, if_pos c_90, if_pos c_130, if_pos c_138]; exact lv_sub hl [0, 1, 2, 5, 6, 7, 8, 9, 10] rfl) 
                  · refine lv_iload hx hb dX7_how_141 (lv_at hl 3 rfl) ?_
                    refine kcS_p hx hb hml hown hts hX hP (c_X7_many l G (nI o)) gX7_how_X7_many 1 rfl rfl rfl hdS_X7_many ⟨Nat.le_of_ble_eq_true rfl, Nat.le_of_ble_eq_true rfl⟩ (fun q hq => absurd hq List.not_mem_nil) hl.1 rfl rfl (Nat.le_of_ble_eq_true rfl) dX7_how_143 ⟨Nat.zero_le _, Nat.zero_le _⟩ ?_
                    refine lv_iload hx hb dX7_how_146 (lv_at hl 4 rfl) ?_
                    refine lv_icmp_ge (tgt := 159) hx hb dX7_how_148 (by decide) (fun c_148 => ?_) (fun c_148 => ?_)
                    · refine lv_iload hx hb dX7_how_159 (lv_at hl 4 rfl) ?_
                      refine lv_istore (lv' := [(7, .int ((g_how v x1 x2 x3 x4 o).2)), (6, .int (((g_how v x1 x2 x3 x4 o).1) + 1)), (10, .int (nI x3.toNatClampNeg)), (9, .int (itN (s_becq (v.1 3) (v.1 8) x1.toNatClampNeg (nI o)) (v.1 9 (4 * x2.toNatClampNeg + x1.toNatClampNeg)) x3.toNatClampNeg)), (8, .int (nI o)), (0, .ref (a 0)), (1, .int x1), (2, .int x2), (3, .int x3), (4, .int x4), (5, .int x5)]) hx hb dX7_how_161 hl (by decide) rfl (fun ls hl => ?_)
                      refine lv_iinc (v := nI (o + 1)) (lv' := [(8, .int (nI (o + 1))), (7, .int ((g_how v x1 x2 x3 x4 o).2)), (6, .int (((g_how v x1 x2 x3 x4 o).1) + 1)), (10, .int (nI x3.toNatClampNeg)), (9, .int (itN (s_becq (v.1 3) (v.1 8) x1.toNatClampNeg (nI o)) (v.1 9 (4 * x2.toNatClampNeg + x1.toNatClampNeg)) x3.toNatClampNeg)), (0, .ref (a 0)), (1, .int x1), (2, .int x2), (3, .int x3), (4, .int x4), (5, .int x5)]) hx hb dX7_how_163 hl (k := 4) rfl (nI_1 _) (by decide) rfl (fun ls hl => ?_)
                      refine lv_goto (tgt := 64) hx hb dX7_how_166 (by decide) ?_
                      exact ih_64  _ (by rw [g_how, itN_s, ← g_how]; simp only [s_how, if_pos c_5, if_pos c_13, if_pos c_25, if_pos c_38, if_pos c_49, if_neg c_69, if_pos c_90, if_pos c_130, if_neg c_138, if_pos c_148]; exact lv_sub hl [0, 1, 2, 5, 6, 7, 8, 9, 10] rfl) 
                    · refine lv_iload hx hb dX7_how_151 (lv_at hl 3 rfl) ?_
                      refine kcS_p hx hb hml hown hts hX hP (c_X7_many l G (nI o)) gX7_how_X7_many 1 rfl rfl rfl hdS_X7_many ⟨Nat.le_of_ble_eq_true rfl, Nat.le_of_ble_eq_true rfl⟩ (fun q hq => absurd hq List.not_mem_nil) hl.1 rfl rfl (Nat.le_of_ble_eq_true rfl) dX7_how_153 ⟨Nat.zero_le _, Nat.zero_le _⟩ ?_
                      refine lv_goto (tgt := 161) hx hb dX7_how_156 (by decide) ?_
                      refine lv_istore (lv' := [(7, .int (g_many (nI o))), (6, .int (((g_how v x1 x2 x3 x4 o).1) + 1)), (10, .int (nI x3.toNatClampNeg)), (9, .int (itN (s_becq (v.1 3) (v.1 8) x1.toNatClampNeg (nI o)) (v.1 9 (4 * x2.toNatClampNeg + x1.toNatClampNeg)) x3.toNatClampNeg)), (8, .int (nI o)), (0, .ref (a 0)), (1, .int x1), (2, .int x2), (3, .int x3), (4, .int x4), (5, .int x5)]) hx hb dX7_how_161 hl (by decide) rfl (fun ls hl => ?_)
                      refine lv_iinc (v := nI (o + 1)) (lv' := [(8, .int (nI (o + 1))), (7, .int (g_many (nI o))), (6, .int (((g_how v x1 x2 x3 x4 o).1) + 1)), (10, .int (nI x3.toNatClampNeg)), (9, .int (itN (s_becq (v.1 3) (v.1 8) x1.toNatClampNeg (nI o)) (v.1 9 (4 * x2.toNatClampNeg + x1.toNatClampNeg)) x3.toNatClampNeg)), (0, .ref (a 0)), (1, .int x1), (2, .int x2), (3, .int x3), (4, .int x4), (5, .int x5)]) hx hb dX7_how_163 hl (k := 4) rfl (nI_1 _) (by decide) rfl (fun ls hl => ?_)
                      refine lv_goto (tgt := 64) hx hb dX7_how_166 (by decide) ?_
                      exact ih_64  _ (by rw [g_how, itN_s, ← g_how]; simp only [s_how, if_pos c_5, if_pos c_13, if_pos c_25, if_pos c_38, if_pos c_49, if_neg c_69, if_pos c_90, if_pos c_130, if_neg c_138, if_neg c_148]; exact lv_sub hl [0, 1, 2, 5, 6, 7, 8, 9, 10] rfl) 
              · skip
                intro k hk_k ih_87 ls hl 
                refine lv_iload hx hb dX7_how_87 (lv_at hl 0 rfl) ?_
                refine lv_iload_n hx hb dX7_how_89 rfl (lv_at hl 8 rfl) ?_
                refine lv_icmp_ge (tgt := 124) hx hb dX7_how_90 (by decide) (fun c_90 => absurd c_90 (lps_c hk_k)) (fun c_90 => ?_)
                refine lv_aload_n hx hb dX7_how_93 rfl (lv_at hl 5 rfl) ?_
                refine lv_iload_n hx hb dX7_how_94 rfl (lv_at hl 6 rfl) ?_
                refine kb_nat hn_x1.1 ?_
                refine lv_iload hx hb dX7_how_95 (lv_at hl 1 rfl) ?_
                refine lv_iload hx hb dX7_how_97 (lv_at hl 2 rfl) ?_
                refine lv_iload hx hb dX7_how_99 (lv_at hl 0 rfl) ?_
                refine lv_ishr hx hb dX7_how_101 ?_
                refine lv_iconst (v := 1) hx hb dX7_how_102 (by decide) ?_
                refine lv_iand hx hb dX7_how_103 ?_
                refine lv_iconst (v := 1) hx hb dX7_how_104 (by decide) ?_
                refine lv_icmp_ne (tgt := 112) hx hb dX7_how_105 (by decide) (fun c_105 => ?_) (fun c_105 => ?_)
                · refine lv_iconst (v := 0) hx hb dX7_how_112 (by decide) ?_
                  refine kcV_p hx hb hml hown hts hX hP (c_X7_becomes l G a v x1.toNatClampNeg (itN (s_becq (v.1 3) (v.1 8) x1.toNatClampNeg (nI o)) (v.1 9 (4 * x2.toNatClampNeg + x1.toNatClampNeg)) k) 0 (by omega)) gX7_how_X7_becomes 3 rfl rfl rfl hd_X7_becomes ⟨Nat.le_of_ble_eq_true rfl, Nat.le_of_ble_eq_true rfl⟩ [0] rfl 0 rfl rfl rfl hl.1 rfl rfl (Nat.le_of_ble_eq_true rfl) dX7_how_113 ⟨Nat.zero_le _, Nat.zero_le _⟩ ?_
                  refine kb_rw (y := g_becomes ((v.1 3)) ((v.1 8)) x1.toNatClampNeg (itN (s_becq (v.1 3) (v.1 8) x1.toNatClampNeg (nI o)) (v.1 9 (4 * x2.toNatClampNeg + x1.toNatClampNeg)) k) 0) rfl ?_
                  refine lv_istore (lv' := [(9, .int (g_becomes ((v.1 3)) ((v.1 8)) x1.toNatClampNeg (itN (s_becq (v.1 3) (v.1 8) x1.toNatClampNeg (nI o)) (v.1 9 (4 * x2.toNatClampNeg + x1.toNatClampNeg)) k) 0)), (10, .int (nI k)), (8, .int (nI o)), (7, .int ((g_how v x1 x2 x3 x4 o).2)), (6, .int ((g_how v x1 x2 x3 x4 o).1)), (0, .ref (a 0)), (1, .int x1), (2, .int x2), (3, .int x3), (4, .int x4), (5, .int x5)]) hx hb dX7_how_116 hl (by decide) rfl (fun ls hl => ?_)
                  refine lv_iinc (v := nI (k + 1)) (lv' := [(10, .int (nI (k + 1))), (9, .int (g_becomes ((v.1 3)) ((v.1 8)) x1.toNatClampNeg (itN (s_becq (v.1 3) (v.1 8) x1.toNatClampNeg (nI o)) (v.1 9 (4 * x2.toNatClampNeg + x1.toNatClampNeg)) k) 0)), (8, .int (nI o)), (7, .int ((g_how v x1 x2 x3 x4 o).2)), (6, .int ((g_how v x1 x2 x3 x4 o).1)), (0, .ref (a 0)), (1, .int x1), (2, .int x2), (3, .int x3), (4, .int x4), (5, .int x5)]) hx hb dX7_how_118 hl (k := 1) rfl (nI_1 _) (by decide) rfl (fun ls hl => ?_)
                  refine lv_goto (tgt := 87) hx hb dX7_how_121 (by decide) ?_
                  exact ih_87  _ (by rw [itN_s]; simp only [s_becq, if_pos c_5, if_pos c_13, if_pos c_25, if_pos c_38, if_pos c_49, if_neg c_69, if_neg c_90, if_neg c_105]; exact lv_sub hl [0, 1, 2, 3, 4, 5, 6, 7, 8, 9, 10] rfl) 
                · refine lv_iconst (v := 1) hx hb dX7_how_108 (by decide) ?_
                  refine lv_goto (tgt := 113) hx hb dX7_how_109 (by decide) ?_
                  refine kcV_p hx hb hml hown hts hX hP (c_X7_becomes l G a v x1.toNatClampNeg (itN (s_becq (v.1 3) (v.1 8) x1.toNatClampNeg (nI o)) (v.1 9 (4 * x2.toNatClampNeg + x1.toNatClampNeg)) k) 1 (by omega)) gX7_how_X7_becomes 3 rfl rfl rfl hd_X7_becomes ⟨Nat.le_of_ble_eq_true rfl, Nat.le_of_ble_eq_true rfl⟩ [0] rfl 0 rfl rfl rfl hl.1 rfl rfl (Nat.le_of_ble_eq_true rfl) dX7_how_113 ⟨Nat.zero_le _, Nat.zero_le _⟩ ?_
                  refine kb_rw (y := g_becomes ((v.1 3)) ((v.1 8)) x1.toNatClampNeg (itN (s_becq (v.1 3) (v.1 8) x1.toNatClampNeg (nI o)) (v.1 9 (4 * x2.toNatClampNeg + x1.toNatClampNeg)) k) 1) rfl ?_
                  refine lv_istore (lv' := [(9, .int (g_becomes ((v.1 3)) ((v.1 8)) x1.toNatClampNeg (itN (s_becq (v.1 3) (v.1 8) x1.toNatClampNeg (nI o)) (v.1 9 (4 * x2.toNatClampNeg + x1.toNatClampNeg)) k) 1)), (10, .int (nI k)), (8, .int (nI o)), (7, .int ((g_how v x1 x2 x3 x4 o).2)), (6, .int ((g_how v x1 x2 x3 x4 o).1)), (0, .ref (a 0)), (1, .int x1), (2, .int x2), (3, .int x3), (4, .int x4), (5, .int x5)]) hx hb dX7_how_116 hl (by decide) rfl (fun ls hl => ?_)
                  refine lv_iinc (v := nI (k + 1)) (lv' := [(10, .int (nI (k + 1))), (9, .int (g_becomes ((v.1 3)) ((v.1 8)) x1.toNatClampNeg (itN (s_becq (v.1 3) (v.1 8) x1.toNatClampNeg (nI o)) (v.1 9 (4 * x2.toNatClampNeg + x1.toNatClampNeg)) k) 1)), (8, .int (nI o)), (7, .int ((g_how v x1 x2 x3 x4 o).2)), (6, .int ((g_how v x1 x2 x3 x4 o).1)), (0, .ref (a 0)), (1, .int x1), (2, .int x2), (3, .int x3), (4, .int x4), (5, .int x5)]) hx hb dX7_how_118 hl (k := 1) rfl (nI_1 _) (by decide) rfl (fun ls hl => ?_)
                  refine lv_goto (tgt := 87) hx hb dX7_how_121 (by decide) ?_
                  exact ih_87  _ (by rw [itN_s]; simp only [s_becq, if_pos c_5, if_pos c_13, if_pos c_25, if_pos c_38, if_pos c_49, if_neg c_69, if_neg c_90, if_pos c_105]; exact lv_sub hl [0, 1, 2, 3, 4, 5, 6, 7, 8, 9, 10] rfl) 
          · have c_49 := b2i_fN c_49r
            refine lv_iconst (v := (-1)) hx hb dX7_how_52 (by decide) ?_
            exact kr_pi hx hb hr hlocks dX7_how_53 (by simp only [g_howR, if_pos c_5, if_pos c_13, if_pos c_25, if_pos c_38, if_neg c_49] <;> rfl)

def rm_X7_fresh : Room := { frames := 2, cells := 0, slots := 0, locals := 46 }
theorem hd_X7_fresh : yX7_fresh.cls = RX7 ∧ yX7_fresh.cls ≠ "java/lang/invoke/MethodHandle" ∧ yX7_fresh.cls ≠ "java/lang/invoke/VarHandle" ∧ (parseMethodDescriptor yX7_fresh.desc).map (fun d => d.parameters.length) = some 1 := by decide +kernel
set_option maxRecDepth 100000 in
set_option maxHeartbeats 4000000 in
theorem c_X7_fresh (l : Launch) (G : GD) (a : Nat → Nat) (v : OV) (x1 : Int32) (hD : ¬ v.1 4 0 < 0) (hD8 : (v.1 4 0).toNatClampNeg ≤ 8) (hL4 : (v.1 7 0).toNatClampNeg ≤ 4) (hL0 : ¬ v.1 7 0 = 0) : MetP l yX7_fresh wsX7_fresh rm_X7_fresh G [bX7 a G v] [.ref (a 0), .int x1] (some (.int (g_freshR v x1))) := by
  refine kb_beginP (cc := cX7_fresh) (maxL := 4) (ret := (some .int)) (by decide) rfl (Nat.le_of_ble_eq_true rfl) ?_
  intro p e s m below meth c hx hb hr hml hown hts hlocks hX hP ls hl
  have hown : s.vm.findClass RX7 = some m.cls := hown
  have hl : lv_has ls 4 [(0, .ref (a 0)), (1, .int x1)] := hl
  have hin7 : ∀ w ∈ u_ws RX7 TX7 19, w ∈ wsX7_fresh := (fun _ h => List.mem_cons_of_mem _ (List.mem_append_right _ (h)))
  refine lv_iload_n hx hb dX7_fresh_0 rfl (lv_at hl 1 rfl) ?_
  refine lv_iconst (v := (-1)) hx hb dX7_fresh_1 (by decide) ?_
  refine lv_icmp_ne (tgt := 46) hx hb dX7_fresh_2 (by decide) (fun c_2 => ?_) (fun c_2 => ?_)
  · refine lv_aload_n hx hb dX7_fresh_46 rfl (lv_at hl 0 rfl) ?_
    refine lv_iload_n hx hb dX7_fresh_47 rfl (lv_at hl 1 rfl) ?_
    refine kcV_p hx hb hml hown hts hX hP (c_X7_isDoor l G a v x1) gX7_fresh_X7_isDoor 1 rfl rfl rfl hd_X7_isDoor ⟨Nat.le_of_ble_eq_true rfl, Nat.le_of_ble_eq_true rfl⟩ [0] rfl 0 rfl rfl rfl hl.1 rfl rfl (Nat.le_of_ble_eq_true rfl) dX7_fresh_48 ⟨Nat.zero_le _, Nat.zero_le _⟩ ?_
    refine kb_rw (y := b2i (gIsDoor ((v.1 4)) x1)) rfl ?_
    refine lv_if_eq (tgt := 62) hx hb dX7_fresh_51 (by decide) (fun c_51r => ?_) (fun c_51r => ?_)
    · have c_51 := b2i_fN c_51r
      refine lv_iconst (v := (-1)) hx hb dX7_fresh_62 (by decide) ?_
      exact kr_pi hx hb hr hlocks dX7_fresh_63 (by simp only [g_freshR, if_neg c_2, if_neg c_51] <;> rfl)
    · have c_51 := b2i_tP c_51r
      have hn_x1 := isDoor_n c_51 hD
      have hb_x1 := hn_x1.2
      refine lv_aload_n hx hb dX7_fresh_54 rfl (lv_at hl 0 rfl) ?_
      refine lv_iload_n hx hb dX7_fresh_55 rfl (lv_at hl 1 rfl) ?_
      refine kb_nat hn_x1.1 ?_
      refine kcV_p hx hb hml hown hts hX hP (c_X7_news l G a v x1.toNatClampNeg (by omega) hL4 hL0) gX7_fresh_X7_news 1 rfl rfl rfl hd_X7_news ⟨Nat.le_of_ble_eq_true rfl, Nat.le_of_ble_eq_true rfl⟩ [0] rfl 0 rfl rfl rfl hl.1 rfl rfl (Nat.le_of_ble_eq_true rfl) dX7_fresh_56 ⟨Nat.zero_le _, Nat.zero_le _⟩ ?_
      refine kb_rw (y := g_news ((v.1 7)) ((v.1 10)) x1.toNatClampNeg) rfl ?_
      refine lv_goto (tgt := 63) hx hb dX7_fresh_59 (by decide) ?_
      exact kr_pi hx hb hr hlocks dX7_fresh_63 (by simp only [g_freshR, if_neg c_2, if_pos c_51] <;> rfl)
  · refine lv_iconst (v := 0) hx hb dX7_fresh_5 (by decide) ?_
    refine lv_istore_n (lv' := [(2, .int 0), (0, .ref (a 0)), (1, .int x1)]) hx hb dX7_fresh_6 rfl hl (by decide) rfl (fun ls hl => ?_)
    refine lv_iconst (v := 1) hx hb dX7_fresh_7 (by decide) ?_
    refine lv_istore_n (lv' := [(3, .int 1), (2, .int 0), (0, .ref (a 0)), (1, .int x1)]) hx hb dX7_fresh_8 rfl hl (by decide) rfl (fun ls hl => ?_)
    refine lp_up (N := (v.1 4 0).toNatClampNeg - 1) (P := fun k => ∀ (ls : Array Slot), lv_has ls 4 [(3, .int (nI (k + 1))), (2, .int (nI (itN (s_fresh (v.1 7) (v.1 10)) 0 k))), (0, .ref (a 0)), (1, .int x1)] →  W p l e (headSpec wsX7_fresh rm_X7_fresh).room s m ([.ref (a 0), .int x1] : List Value).toArray below meth c s.heap [] 0 0 (MQ below (kQp (some (.int (g_freshR v x1)))) ([.ref (a 0), .int x1] : List Value).toArray s 0 0 (fun _ => False)) (F0 m 9 ls [])) ?_ ?_ 0 (Nat.zero_le _)  _ (lv_sub hl [0, 1, 2, 3] rfl) 
    · skip
      intro ls hl 
      refine lv_iload_n hx hb dX7_fresh_9 rfl (lv_at hl 0 rfl) ?_
      refine lv_aload_n hx hb dX7_fresh_10 rfl (lv_at hl 2 rfl) ?_
      refine kb_get (own := RX7) (C := RX7) (T := TX7) (N := 19) (v := .ref (a 3)) hx hb hts hin7 hown hX hP 0 rfl rfl rfl 4 (by decide) rfl (by decide +kernel) rfl dX7_fresh_11 ?_
      refine lv_iconst (v := 0) hx hb dX7_fresh_14 (by decide) ?_
      refine kb_ialdN (jn := 0) (n := 2) (f := v.1 4) hx hb hX hP 0 3 rfl rfl rfl (by omega) (by decide) dX7_fresh_15 ?_
      refine lv_icmp_ge (tgt := 44) hx hb dX7_fresh_16 (by decide) (fun c_16 => ?_) (fun c_16 => absurd (lpx_c1 _) c_16)
      refine lv_iload_n hx hb dX7_fresh_44 rfl (lv_at hl 1 rfl) ?_
      exact kr_pi hx hb hr hlocks dX7_fresh_45 (by simp only [g_freshR, if_pos c_2, if_pos c_16] <;> rfl)
    · skip
      intro k hk_k ih_9 ls hl 
      refine lv_iload_n hx hb dX7_fresh_9 rfl (lv_at hl 0 rfl) ?_
      refine lv_aload_n hx hb dX7_fresh_10 rfl (lv_at hl 2 rfl) ?_
      refine kb_get (own := RX7) (C := RX7) (T := TX7) (N := 19) (v := .ref (a 3)) hx hb hts hin7 hown hX hP 0 rfl rfl rfl 4 (by decide) rfl (by decide +kernel) rfl dX7_fresh_11 ?_
      refine lv_iconst (v := 0) hx hb dX7_fresh_14 (by decide) ?_
      refine kb_ialdN (jn := 0) (n := 2) (f := v.1 4) hx hb hX hP 0 3 rfl rfl rfl (by omega) (by decide) dX7_fresh_15 ?_
      refine lv_icmp_ge (tgt := 44) hx hb dX7_fresh_16 (by decide) (fun c_16 => absurd c_16 (lp_m1 hD8 hk_k)) (fun c_16 => ?_)
      have hfk := fresh_lt (L := v.1 7) (S := v.1 10) k
      refine lv_aload_n hx hb dX7_fresh_19 rfl (lv_at hl 2 rfl) ?_
      refine lv_iload_n hx hb dX7_fresh_20 rfl (lv_at hl 0 rfl) ?_
      refine kcV_p hx hb hml hown hts hX hP (c_X7_news l G a v (k + 1) (by omega) hL4 hL0) gX7_fresh_X7_news 1 rfl rfl rfl hd_X7_news ⟨Nat.le_of_ble_eq_true rfl, Nat.le_of_ble_eq_true rfl⟩ [0] rfl 0 rfl rfl rfl hl.1 rfl rfl (Nat.le_of_ble_eq_true rfl) dX7_fresh_21 ⟨Nat.zero_le _, Nat.zero_le _⟩ ?_
      refine kb_rw (y := g_news ((v.1 7)) ((v.1 10)) (k + 1)) rfl ?_
      refine lv_aload_n hx hb dX7_fresh_24 rfl (lv_at hl 2 rfl) ?_
      refine lv_iload_n hx hb dX7_fresh_25 rfl (lv_at hl 1 rfl) ?_
      refine kcV_p hx hb hml hown hts hX hP (c_X7_news l G a v (itN (s_fresh (v.1 7) (v.1 10)) 0 k) (by omega) hL4 hL0) gX7_fresh_X7_news 1 rfl rfl rfl hd_X7_news ⟨Nat.le_of_ble_eq_true rfl, Nat.le_of_ble_eq_true rfl⟩ [0] rfl 0 rfl rfl rfl hl.1 rfl rfl (Nat.le_of_ble_eq_true rfl) dX7_fresh_26 ⟨Nat.zero_le _, Nat.zero_le _⟩ ?_
      refine kb_rw (y := g_news ((v.1 7)) ((v.1 10)) (itN (s_fresh (v.1 7) (v.1 10)) 0 k)) rfl ?_
      refine lv_icmp_ge (tgt := 36) hx hb dX7_fresh_29 (by decide) (fun c_29 => ?_) (fun c_29 => ?_)
      · refine lv_iload_n hx hb dX7_fresh_36 rfl (lv_at hl 1 rfl) ?_
        refine lv_istore_n (lv' := [(2, .int (nI (itN (s_fresh (v.1 7) (v.1 10)) 0 k))), (3, .int (nI (k + 1))), (0, .ref (a 0)), (1, .int x1)]) hx hb dX7_fresh_37 rfl hl (by decide) rfl (fun ls hl => ?_)
        refine lv_iinc (v := nI ((k + 1) + 1)) (lv' := [(3, .int (nI ((k + 1) + 1))), (2, .int (nI (itN (s_fresh (v.1 7) (v.1 10)) 0 k))), (0, .ref (a 0)), (1, .int x1)]) hx hb dX7_fresh_38 hl (k := 1) rfl (nI_1 _) (by decide) rfl (fun ls hl => ?_)
        refine lv_goto (tgt := 9) hx hb dX7_fresh_41 (by decide) ?_
        exact ih_9  _ (by rw [itN_s]; simp only [s_fresh, if_pos c_2, if_neg c_16, if_pos c_29]; exact lv_sub hl [0, 1, 2, 3] rfl) 
      · refine lv_iload_n hx hb dX7_fresh_32 rfl (lv_at hl 0 rfl) ?_
        refine lv_goto (tgt := 37) hx hb dX7_fresh_33 (by decide) ?_
        refine lv_istore_n (lv' := [(2, .int (nI (k + 1))), (3, .int (nI (k + 1))), (0, .ref (a 0)), (1, .int x1)]) hx hb dX7_fresh_37 rfl hl (by decide) rfl (fun ls hl => ?_)
        refine lv_iinc (v := nI ((k + 1) + 1)) (lv' := [(3, .int (nI ((k + 1) + 1))), (2, .int (nI (k + 1))), (0, .ref (a 0)), (1, .int x1)]) hx hb dX7_fresh_38 hl (k := 1) rfl (nI_1 _) (by decide) rfl (fun ls hl => ?_)
        refine lv_goto (tgt := 9) hx hb dX7_fresh_41 (by decide) ?_
        exact ih_9  _ (by rw [itN_s]; simp only [s_fresh, if_pos c_2, if_neg c_16, if_neg c_29]; exact lv_sub hl [0, 1, 2, 3] rfl) 
