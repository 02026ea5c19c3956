def rm_X7_walks : Room := { frames := 4, cells := 0, slots := 0, locals := 102 }
theorem hd_X7_walks : yX7_walks.cls = RX7 ∧ yX7_walks.cls ≠ "java/lang/invoke/MethodHandle" ∧ yX7_walks.cls ≠ "java/lang/invoke/VarHandle" ∧ (parseMethodDescriptor yX7_walks.desc).map (fun d => d.parameters.length) = some 3 := by decide +kernel
set_option maxRecDepth 100000 in
set_option maxHeartbeats 4000000 in
theorem c_X7_walks (l : Launch) (G : GD) (a : Nat → Nat) (v : OV) (i : Nat) (x2 : Int32) (x3 : Int32) (N : Nat) (hi : i < 4) (hD8 : (v.1 4 0).toNatClampNeg ≤ 8) (hR : ∀ d, d < (v.1 4 0).toNatClampNeg → vp_in (v.1 5 (3 * d)) 6 ∧ vp_in (v.1 5 (3 * d + 1)) 6) (hwk : wkOk (v.1 3) (v.1 8) (v.1 5) (v.1 4) i x2 x3 (v.1 10, v.1 14) N) : MetS l yX7_walks wsX7_walks rm_X7_walks G [bX7 a G v] [.ref (a 0), .int (nI i), .int x2, .int x3] (fun r bc => r = none ∧ bc = [bX7 a G (setA (setA v 10 ((g_walked ((v.1 3)) ((v.1 8)) ((v.1 5)) ((v.1 4)) i x2 x3 ((v.1 10), (v.1 14)) N).1)) 14 ((g_walked ((v.1 3)) ((v.1 8)) ((v.1 5)) ((v.1 4)) i x2 x3 ((v.1 10), (v.1 14)) N).2))]) := by
  refine kb_beginS (cc := cX7_walks) (maxL := 6) (ret := none) (by decide) rfl (Nat.le_of_ble_eq_true rfl) ?_
  intro p e s m below meth c hx hb hr hml hown hts hlocks hX H locs hP hD hS ls hl
  have hown : s.vm.findClass RX7 = some m.cls := hown
  have hl : lv_has ls 6 [(0, .ref (a 0)), (1, .int (nI i)), (2, .int x2), (3, .int x3)] := hl
  have hin7 : ∀ w ∈ u_ws RX7 TX7 19, w ∈ wsX7_walks := (fun _ h => List.mem_cons_of_mem _ (List.mem_append_right _ (h)))
  have hb0 : ((v.1 10) (546 + i)).toNatClampNeg < 6 := (cl_of_vp (hwk.1 0 (Nat.zero_le _))).2
  refine lv_aload_n hx hb dX7_walks_0 rfl (lv_at hl 0 rfl) ?_
  refine lv_bipush (v := 11) hx hb dX7_walks_1 (by decide) ?_
  refine lv_iload_n hx hb dX7_walks_3 rfl (lv_at hl 1 rfl) ?_
  refine lv_aload_n hx hb dX7_walks_4 rfl (lv_at hl 0 rfl) ?_
  refine kb_get (own := RX7) (C := RX7) (T := TX7) (N := 19) (v := .ref (a 9)) hx hb hts hin7 hown hX hP 0 rfl rfl rfl 10 (by decide) rfl (by decide +kernel) rfl dX7_walks_5 ?_
  refine lv_sipush (v := 546) hx hb dX7_walks_8 (by decide) ?_
  refine lv_iload_n hx hb dX7_walks_11 rfl (lv_at hl 1 rfl) ?_
  refine lv_iadd hx hb dX7_walks_12 ?_
  refine kb_ialdN (jn := 546 + i) (n := 552) (f := v.1 10) hx hb hX hP 0 9 rfl rfl (by simp only [nI_addE, nI_mulE] <;> rfl) (by omega) (by decide) dX7_walks_13 ?_
  refine kb_nat ((cl_of_vp (hwk.1 0 (Nat.zero_le _))).1) ?_
  refine lv_iload_n hx hb dX7_walks_14 rfl (lv_at hl 2 rfl) ?_
  refine kcV_s hx hb hml hown hts hX hP hD hS (c_X7_firstOf l G a v 11 i (((v.1 10) (546 + i)).toNatClampNeg) x2 (by omega) (by omega) (by omega) hD8 hR) gX7_walks_X7_firstOf 4 rfl rfl rfl hd_X7_firstOf ⟨Nat.le_of_ble_eq_true rfl, Nat.le_of_ble_eq_true rfl⟩ [0] (by decide) rfl 0 rfl rfl rfl hl.1 rfl rfl (Nat.le_of_ble_eq_true rfl) dX7_walks_15 ⟨Nat.zero_le _, Nat.zero_le _⟩ (fun r_ bc_ hq_1 H locs hP hD hS => ?_)
  obtain ⟨rfl, rfl⟩ := hq_1
  have hP : PP G [bX7 a G (setA v 14 (g_ways ((v.1 5)) ((v.1 10)) ((v.1 4)) ((v.1 14)) 11 i x2 0))] H := hP
  have hD : DD (AA (List.flatten [bX7 a G v])) [bX7 a G (setA v 14 (g_ways ((v.1 5)) ((v.1 10)) ((v.1 4)) ((v.1 14)) 11 i x2 0))] := D_re hD (adc (bX7_ad _ _ _ _) adn)
  refine kb_rw (y := g_firstOf ((v.1 5)) ((v.1 10)) ((v.1 4)) ((v.1 14)) 11 i (((v.1 10) (546 + i)).toNatClampNeg) x2) rfl ?_
  refine lv_istore (lv' := [(4, .int (g_firstOf ((v.1 5)) ((v.1 10)) ((v.1 4)) ((v.1 14)) 11 i (((v.1 10) (546 + i)).toNatClampNeg) x2)), (0, .ref (a 0)), (1, .int (nI i)), (2, .int x2), (3, .int x3)]) hx hb dX7_walks_18 hl (by decide) rfl (fun ls hl => ?_)
  have eOV0 : (setA (setA v 10 ((g_wk (v.1 3) (v.1 8) (v.1 5) (v.1 4) i x2 x3 (v.1 10, v.1 14) 0).1)) 14 (g_ways (v.1 5) (g_wk (v.1 3) (v.1 8) (v.1 5) (v.1 4) i x2 x3 (v.1 10, v.1 14) 0).1 (v.1 4) (g_wk (v.1 3) (v.1 8) (v.1 5) (v.1 4) i x2 x3 (v.1 10, v.1 14) 0).2 11 i x2 0)) = (setA v 14 (g_ways ((v.1 5)) ((v.1 10)) ((v.1 4)) ((v.1 14)) 11 i x2 0)) := by
    refine Prod.ext (funext fun u => ?_) (funext fun u => ?_)
    · by_cases h10 : u = 10
      · subst h10; rfl
      · skip
        by_cases h14 : u = 14
        · subst h14; rfl
        · skip
          simp only [setA, setI, if_neg h10, if_neg h14]
    · rfl
  have hP : PP G [bX7 a G (setA (setA v 10 ((g_wk (v.1 3) (v.1 8) (v.1 5) (v.1 4) i x2 x3 (v.1 10, v.1 14) 0).1)) 14 (g_ways (v.1 5) (g_wk (v.1 3) (v.1 8) (v.1 5) (v.1 4) i x2 x3 (v.1 10, v.1 14) 0).1 (v.1 4) (g_wk (v.1 3) (v.1 8) (v.1 5) (v.1 4) i x2 x3 (v.1 10, v.1 14) 0).2 11 i x2 0))] H := by rw [eOV0]; exact hP
  have hD : DD (AA (List.flatten [bX7 a G v])) [bX7 a G (setA (setA v 10 ((g_wk (v.1 3) (v.1 8) (v.1 5) (v.1 4) i x2 x3 (v.1 10, v.1 14) 0).1)) 14 (g_ways (v.1 5) (g_wk (v.1 3) (v.1 8) (v.1 5) (v.1 4) i x2 x3 (v.1 10, v.1 14) 0).1 (v.1 4) (g_wk (v.1 3) (v.1 8) (v.1 5) (v.1 4) i x2 x3 (v.1 10, v.1 14) 0).2 11 i x2 0))] := D_re hD (adc (bX7_ad _ _ _ _) adn)
  refine lp_up (N := N) (P := fun k => ∀ (H : Heap) (locs : List Loc) (ls : Array Slot), PP G [bX7 a G (setA (setA v 10 ((g_wk (v.1 3) (v.1 8) (v.1 5) (v.1 4) i x2 x3 (v.1 10, v.1 14) k).1)) 14 (g_ways (v.1 5) (g_wk (v.1 3) (v.1 8) (v.1 5) (v.1 4) i x2 x3 (v.1 10, v.1 14) k).1 (v.1 4) (g_wk (v.1 3) (v.1 8) (v.1 5) (v.1 4) i x2 x3 (v.1 10, v.1 14) k).2 11 i x2 0))] H → DD (AA (List.flatten [bX7 a G v])) [bX7 a G (setA (setA v 10 ((g_wk (v.1 3) (v.1 8) (v.1 5) (v.1 4) i x2 x3 (v.1 10, v.1 14) k).1)) 14 (g_ways (v.1 5) (g_wk (v.1 3) (v.1 8) (v.1 5) (v.1 4) i x2 x3 (v.1 10, v.1 14) k).1 (v.1 4) (g_wk (v.1 3) (v.1 8) (v.1 5) (v.1 4) i x2 x3 (v.1 10, v.1 14) k).2 11 i x2 0))] → va_S (AA (List.flatten [bX7 a G v])) s.heap H locs → lv_has ls 6 [(4, .int (fo (v.1 5) (v.1 4) i x2 (g_wk (v.1 3) (v.1 8) (v.1 5) (v.1 4) i x2 x3 (v.1 10, v.1 14) k))), (0, .ref (a 0)), (1, .int (nI i)), (2, .int x2), (3, .int x3)] →  W p l e (headSpec wsX7_walks rm_X7_walks).room s m ([.ref (a 0), .int (nI i), .int x2, .int x3] : List Value).toArray below meth c H locs 0 0 (MQ below (kQs G [bX7 a G v] (fun r bc => r = none ∧ bc = [bX7 a G (setA (setA v 10 ((g_walked ((v.1 3)) ((v.1 8)) ((v.1 5)) ((v.1 4)) i x2 x3 ((v.1 10), (v.1 14)) N).1)) 14 ((g_walked ((v.1 3)) ((v.1 8)) ((v.1 5)) ((v.1 4)) i x2 x3 ((v.1 10), (v.1 14)) N).2))])) ([.ref (a 0), .int (nI i), .int x2, .int x3] : List Value).toArray s 0 0 (AA (List.flatten [bX7 a G v]))) (F0 m 20 ls [])) ?_ ?_ 0 (Nat.zero_le _)  _ _ _ hP hD hS (lv_sub hl [0, 1, 2, 3, 4] rfl) 
  · skip
    intro H locs ls hP hD hS hl 
    refine lv_iload hx hb dX7_walks_20 (lv_at hl 0 rfl) ?_
    refine lv_if_lt (tgt := 70) hx hb dX7_walks_22 (by decide) (fun c_22 => ?_) (fun c_22 => absurd (hwk.2.2) c_22)
    have hP : PP G [bX7 a G (setA (setA v 10 ((g_walked ((v.1 3)) ((v.1 8)) ((v.1 5)) ((v.1 4)) i x2 x3 ((v.1 10), (v.1 14)) N).1)) 14 ((g_walked ((v.1 3)) ((v.1 8)) ((v.1 5)) ((v.1 4)) i x2 x3 ((v.1 10), (v.1 14)) N).2))] H := by
      exact hP
    exact kr_sv hx hb hr hlocks dX7_walks_70 hP hS (sameAd_cons (bX7_ad _ _ _ _) sameAd_nil) ⟨rfl, rfl⟩
  · skip
    intro k hk_k ih_20 H locs ls hP hD hS hl 
    refine lv_iload hx hb dX7_walks_20 (lv_at hl 0 rfl) ?_
    refine lv_if_lt (tgt := 70) hx hb dX7_walks_22 (by decide) (fun c_22 => absurd c_22 ((hwk.2.1 k hk_k).1)) (fun c_22 => ?_)
    have hdb : (fo (v.1 5) (v.1 4) i x2 (g_wk (v.1 3) (v.1 8) (v.1 5) (v.1 4) i x2 x3 (v.1 10, v.1 14) k)).toNatClampNeg < 8 := (hwk.2.1 k hk_k).2.1
    refine lv_aload_n hx hb dX7_walks_25 rfl (lv_at hl 1 rfl) ?_
    refine lv_bipush (v := 11) hx hb dX7_walks_26 (by decide) ?_
    refine lv_iload_n hx hb dX7_walks_28 rfl (lv_at hl 2 rfl) ?_
    refine lv_iload hx hb dX7_walks_29 (lv_at hl 0 rfl) ?_
    refine kb_nat ((hwk.2.1 k hk_k).1) ?_
    refine lv_iload_n hx hb dX7_walks_31 rfl (lv_at hl 4 rfl) ?_
    refine kcV_s hx hb hml hown hts hX hP hD hS (c_X7_goes l G a (setA (setA v 10 ((g_wk (v.1 3) (v.1 8) (v.1 5) (v.1 4) i x2 x3 (v.1 10, v.1 14) k).1)) 14 (g_ways (v.1 5) (g_wk (v.1 3) (v.1 8) (v.1 5) (v.1 4) i x2 x3 (v.1 10, v.1 14) k).1 (v.1 4) (g_wk (v.1 3) (v.1 8) (v.1 5) (v.1 4) i x2 x3 (v.1 10, v.1 14) k).2 11 i x2 0)) 11 i ((fo (v.1 5) (v.1 4) i x2 (g_wk (v.1 3) (v.1 8) (v.1 5) (v.1 4) i x2 x3 (v.1 10, v.1 14) k)).toNatClampNeg) x3 (by omega) (by omega) (by omega)) gX7_walks_X7_goes 4 rfl rfl rfl hd_X7_goes ⟨Nat.le_of_ble_eq_true rfl, Nat.le_of_ble_eq_true rfl⟩ [0] (by decide) rfl 0 rfl rfl rfl hl.1 rfl rfl (Nat.le_of_ble_eq_true rfl) dX7_walks_32 ⟨Nat.zero_le _, Nat.zero_le _⟩ (fun r_ bc_ hq_2 H locs hP hD hS => ?_)
    obtain ⟨rfl, rfl⟩ := hq_2
    have hP : PP G [bX7 a G (setA (setA (setA v 10 ((g_wk (v.1 3) (v.1 8) (v.1 5) (v.1 4) i x2 x3 (v.1 10, v.1 14) k).1)) 14 (g_ways (v.1 5) (g_wk (v.1 3) (v.1 8) (v.1 5) (v.1 4) i x2 x3 (v.1 10, v.1 14) k).1 (v.1 4) (g_wk (v.1 3) (v.1 8) (v.1 5) (v.1 4) i x2 x3 (v.1 10, v.1 14) k).2 11 i x2 0)) 10 (g_goesS ((v.1 3)) ((v.1 8)) ((v.1 5)) (((g_wk (v.1 3) (v.1 8) (v.1 5) (v.1 4) i x2 x3 (v.1 10, v.1 14) k).1)) 11 i ((fo (v.1 5) (v.1 4) i x2 (g_wk (v.1 3) (v.1 8) (v.1 5) (v.1 4) i x2 x3 (v.1 10, v.1 14) k)).toNatClampNeg) x3))] H := hP
    have hD : DD (AA (List.flatten [bX7 a G v])) [bX7 a G (setA (setA (setA v 10 ((g_wk (v.1 3) (v.1 8) (v.1 5) (v.1 4) i x2 x3 (v.1 10, v.1 14) k).1)) 14 (g_ways (v.1 5) (g_wk (v.1 3) (v.1 8) (v.1 5) (v.1 4) i x2 x3 (v.1 10, v.1 14) k).1 (v.1 4) (g_wk (v.1 3) (v.1 8) (v.1 5) (v.1 4) i x2 x3 (v.1 10, v.1 14) k).2 11 i x2 0)) 10 (g_goesS ((v.1 3)) ((v.1 8)) ((v.1 5)) (((g_wk (v.1 3) (v.1 8) (v.1 5) (v.1 4) i x2 x3 (v.1 10, v.1 14) k).1)) 11 i ((fo (v.1 5) (v.1 4) i x2 (g_wk (v.1 3) (v.1 8) (v.1 5) (v.1 4) i x2 x3 (v.1 10, v.1 14) k)).toNatClampNeg) x3))] := D_re hD (adc (bX7_ad _ _ _ _) adn)
    refine kb_rw (y := g_costs (((g_wk (v.1 3) (v.1 8) (v.1 5) (v.1 4) i x2 x3 (v.1 10, v.1 14) k).1)) 11 ((fo (v.1 5) (v.1 4) i x2 (g_wk (v.1 3) (v.1 8) (v.1 5) (v.1 4) i x2 x3 (v.1 10, v.1 14) k)).toNatClampNeg) i) rfl ?_
    refine lv_istore (lv' := [(5, .int (g_costs (((g_wk (v.1 3) (v.1 8) (v.1 5) (v.1 4) i x2 x3 (v.1 10, v.1 14) k).1)) 11 ((fo (v.1 5) (v.1 4) i x2 (g_wk (v.1 3) (v.1 8) (v.1 5) (v.1 4) i x2 x3 (v.1 10, v.1 14) k)).toNatClampNeg) i)), (4, .int (fo (v.1 5) (v.1 4) i x2 (g_wk (v.1 3) (v.1 8) (v.1 5) (v.1 4) i x2 x3 (v.1 10, v.1 14) k))), (0, .ref (a 0)), (1, .int (nI i)), (2, .int x2), (3, .int x3)]) hx hb dX7_walks_35 hl (by decide) rfl (fun ls hl => ?_)
    refine lv_iload hx hb dX7_walks_37 (lv_at hl 0 rfl) ?_
    refine lv_if_le (tgt := 63) hx hb dX7_walks_39 (by decide) (fun c_39 => absurd c_39 ((hwk.2.1 k hk_k).2.2)) (fun c_39 => ?_)
    refine lv_aload_n hx hb dX7_walks_42 rfl (lv_at hl 2 rfl) ?_
    refine lv_bipush (v := 11) hx hb dX7_walks_43 (by decide) ?_
    have hb1 : ((g_goesS ((v.1 3)) ((v.1 8)) ((v.1 5)) (((g_wk (v.1 3) (v.1 8) (v.1 5) (v.1 4) i x2 x3 (v.1 10, v.1 14) k).1)) 11 i ((fo (v.1 5) (v.1 4) i x2 (g_wk (v.1 3) (v.1 8) (v.1 5) (v.1 4) i x2 x3 (v.1 10, v.1 14) k)).toNatClampNeg) x3) (546 + i)).toNatClampNeg < 6 := (cl_of_vp (hwk.1 (k + 1) hk_k)).2
    refine lv_iload_n hx hb dX7_walks_45 rfl (lv_at hl 3 rfl) ?_
    refine lv_aload_n hx hb dX7_walks_46 rfl (lv_at hl 2 rfl) ?_
    refine kb_get (own := RX7) (C := RX7) (T := TX7) (N := 19) (v := .ref (a 9)) hx hb hts hin7 hown hX hP 0 rfl rfl rfl 10 (by decide) rfl (by decide +kernel) rfl dX7_walks_47 ?_
    refine lv_sipush (v := 546) hx hb dX7_walks_50 (by decide) ?_
    refine lv_iload_n hx hb dX7_walks_53 rfl (lv_at hl 3 rfl) ?_
    refine lv_iadd hx hb dX7_walks_54 ?_
    refine kb_ialdN (jn := 546 + i) (n := 552) (f := g_goesS ((v.1 3)) ((v.1 8)) ((v.1 5)) (((g_wk (v.1 3) (v.1 8) (v.1 5) (v.1 4) i x2 x3 (v.1 10, v.1 14) k).1)) 11 i ((fo (v.1 5) (v.1 4) i x2 (g_wk (v.1 3) (v.1 8) (v.1 5) (v.1 4) i x2 x3 (v.1 10, v.1 14) k)).toNatClampNeg) x3) hx hb hX hP 0 9 rfl rfl (by simp only [nI_addE, nI_mulE] <;> rfl) (by omega) (by decide) dX7_walks_55 ?_
    refine kb_nat ((cl_of_vp (hwk.1 (k + 1) hk_k)).1) ?_
    refine lv_iload_n hx hb dX7_walks_56 rfl (lv_at hl 4 rfl) ?_
    refine kcV_s hx hb hml hown hts hX hP hD hS (c_X7_firstOf l G a (setA (setA (setA v 10 ((g_wk (v.1 3) (v.1 8) (v.1 5) (v.1 4) i x2 x3 (v.1 10, v.1 14) k).1)) 14 (g_ways (v.1 5) (g_wk (v.1 3) (v.1 8) (v.1 5) (v.1 4) i x2 x3 (v.1 10, v.1 14) k).1 (v.1 4) (g_wk (v.1 3) (v.1 8) (v.1 5) (v.1 4) i x2 x3 (v.1 10, v.1 14) k).2 11 i x2 0)) 10 (g_goesS ((v.1 3)) ((v.1 8)) ((v.1 5)) (((g_wk (v.1 3) (v.1 8) (v.1 5) (v.1 4) i x2 x3 (v.1 10, v.1 14) k).1)) 11 i ((fo (v.1 5) (v.1 4) i x2 (g_wk (v.1 3) (v.1 8) (v.1 5) (v.1 4) i x2 x3 (v.1 10, v.1 14) k)).toNatClampNeg) x3)) 11 i (((g_goesS ((v.1 3)) ((v.1 8)) ((v.1 5)) (((g_wk (v.1 3) (v.1 8) (v.1 5) (v.1 4) i x2 x3 (v.1 10, v.1 14) k).1)) 11 i ((fo (v.1 5) (v.1 4) i x2 (g_wk (v.1 3) (v.1 8) (v.1 5) (v.1 4) i x2 x3 (v.1 10, v.1 14) k)).toNatClampNeg) x3) (546 + i)).toNatClampNeg) x2 (by omega) (by omega) (by omega) hD8 hR) gX7_walks_X7_firstOf 4 rfl rfl rfl hd_X7_firstOf ⟨Nat.le_of_ble_eq_true rfl, Nat.le_of_ble_eq_true rfl⟩ [0] (by decide) rfl 0 rfl rfl rfl hl.1 rfl rfl (Nat.le_of_ble_eq_true rfl) dX7_walks_57 ⟨Nat.zero_le _, Nat.zero_le _⟩ (fun r_ bc_ hq_3 H locs hP hD hS => ?_)
    obtain ⟨rfl, rfl⟩ := hq_3
    have hP : PP G [bX7 a G (setA (setA (setA (setA v 10 ((g_wk (v.1 3) (v.1 8) (v.1 5) (v.1 4) i x2 x3 (v.1 10, v.1 14) k).1)) 14 (g_ways (v.1 5) (g_wk (v.1 3) (v.1 8) (v.1 5) (v.1 4) i x2 x3 (v.1 10, v.1 14) k).1 (v.1 4) (g_wk (v.1 3) (v.1 8) (v.1 5) (v.1 4) i x2 x3 (v.1 10, v.1 14) k).2 11 i x2 0)) 10 (g_goesS ((v.1 3)) ((v.1 8)) ((v.1 5)) (((g_wk (v.1 3) (v.1 8) (v.1 5) (v.1 4) i x2 x3 (v.1 10, v.1 14) k).1)) 11 i ((fo (v.1 5) (v.1 4) i x2 (g_wk (v.1 3) (v.1 8) (v.1 5) (v.1 4) i x2 x3 (v.1 10, v.1 14) k)).toNatClampNeg) x3)) 14 (g_ways ((v.1 5)) ((g_goesS ((v.1 3)) ((v.1 8)) ((v.1 5)) (((g_wk (v.1 3) (v.1 8) (v.1 5) (v.1 4) i x2 x3 (v.1 10, v.1 14) k).1)) 11 i ((fo (v.1 5) (v.1 4) i x2 (g_wk (v.1 3) (v.1 8) (v.1 5) (v.1 4) i x2 x3 (v.1 10, v.1 14) k)).toNatClampNeg) x3)) ((v.1 4)) ((g_ways (v.1 5) (g_wk (v.1 3) (v.1 8) (v.1 5) (v.1 4) i x2 x3 (v.1 10, v.1 14) k).1 (v.1 4) (g_wk (v.1 3) (v.1 8) (v.1 5) (v.1 4) i x2 x3 (v.1 10, v.1 14) k).2 11 i x2 0)) 11 i x2 0))] H := hP
    have hD : DD (AA (List.flatten [bX7 a G v])) [bX7 a G (setA (setA (setA (setA v 10 ((g_wk (v.1 3) (v.1 8) (v.1 5) (v.1 4) i x2 x3 (v.1 10, v.1 14) k).1)) 14 (g_ways (v.1 5) (g_wk (v.1 3) (v.1 8) (v.1 5) (v.1 4) i x2 x3 (v.1 10, v.1 14) k).1 (v.1 4) (g_wk (v.1 3) (v.1 8) (v.1 5) (v.1 4) i x2 x3 (v.1 10, v.1 14) k).2 11 i x2 0)) 10 (g_goesS ((v.1 3)) ((v.1 8)) ((v.1 5)) (((g_wk (v.1 3) (v.1 8) (v.1 5) (v.1 4) i x2 x3 (v.1 10, v.1 14) k).1)) 11 i ((fo (v.1 5) (v.1 4) i x2 (g_wk (v.1 3) (v.1 8) (v.1 5) (v.1 4) i x2 x3 (v.1 10, v.1 14) k)).toNatClampNeg) x3)) 14 (g_ways ((v.1 5)) ((g_goesS ((v.1 3)) ((v.1 8)) ((v.1 5)) (((g_wk (v.1 3) (v.1 8) (v.1 5) (v.1 4) i x2 x3 (v.1 10, v.1 14) k).1)) 11 i ((fo (v.1 5) (v.1 4) i x2 (g_wk (v.1 3) (v.1 8) (v.1 5) (v.1 4) i x2 x3 (v.1 10, v.1 14) k)).toNatClampNeg) x3)) ((v.1 4)) ((g_ways (v.1 5) (g_wk (v.1 3) (v.1 8) (v.1 5) (v.1 4) i x2 x3 (v.1 10, v.1 14) k).1 (v.1 4) (g_wk (v.1 3) (v.1 8) (v.1 5) (v.1 4) i x2 x3 (v.1 10, v.1 14) k).2 11 i x2 0)) 11 i x2 0))] := D_re hD (adc (bX7_ad _ _ _ _) adn)
    refine kb_rw (y := g_firstOf ((v.1 5)) ((g_goesS ((v.1 3)) ((v.1 8)) ((v.1 5)) (((g_wk (v.1 3) (v.1 8) (v.1 5) (v.1 4) i x2 x3 (v.1 10, v.1 14) k).1)) 11 i ((fo (v.1 5) (v.1 4) i x2 (g_wk (v.1 3) (v.1 8) (v.1 5) (v.1 4) i x2 x3 (v.1 10, v.1 14) k)).toNatClampNeg) x3)) ((v.1 4)) ((g_ways (v.1 5) (g_wk (v.1 3) (v.1 8) (v.1 5) (v.1 4) i x2 x3 (v.1 10, v.1 14) k).1 (v.1 4) (g_wk (v.1 3) (v.1 8) (v.1 5) (v.1 4) i x2 x3 (v.1 10, v.1 14) k).2 11 i x2 0)) 11 i (((g_goesS ((v.1 3)) ((v.1 8)) ((v.1 5)) (((g_wk (v.1 3) (v.1 8) (v.1 5) (v.1 4) i x2 x3 (v.1 10, v.1 14) k).1)) 11 i ((fo (v.1 5) (v.1 4) i x2 (g_wk (v.1 3) (v.1 8) (v.1 5) (v.1 4) i x2 x3 (v.1 10, v.1 14) k)).toNatClampNeg) x3) (546 + i)).toNatClampNeg) x2) rfl ?_
    refine lv_goto (tgt := 65) hx hb dX7_walks_60 (by decide) ?_
    refine lv_istore (lv' := [(4, .int (g_firstOf ((v.1 5)) ((g_goesS ((v.1 3)) ((v.1 8)) ((v.1 5)) (((g_wk (v.1 3) (v.1 8) (v.1 5) (v.1 4) i x2 x3 (v.1 10, v.1 14) k).1)) 11 i ((fo (v.1 5) (v.1 4) i x2 (g_wk (v.1 3) (v.1 8) (v.1 5) (v.1 4) i x2 x3 (v.1 10, v.1 14) k)).toNatClampNeg) x3)) ((v.1 4)) ((g_ways (v.1 5) (g_wk (v.1 3) (v.1 8) (v.1 5) (v.1 4) i x2 x3 (v.1 10, v.1 14) k).1 (v.1 4) (g_wk (v.1 3) (v.1 8) (v.1 5) (v.1 4) i x2 x3 (v.1 10, v.1 14) k).2 11 i x2 0)) 11 i (((g_goesS ((v.1 3)) ((v.1 8)) ((v.1 5)) (((g_wk (v.1 3) (v.1 8) (v.1 5) (v.1 4) i x2 x3 (v.1 10, v.1 14) k).1)) 11 i ((fo (v.1 5) (v.1 4) i x2 (g_wk (v.1 3) (v.1 8) (v.1 5) (v.1 4) i x2 x3 (v.1 10, v.1 14) k)).toNatClampNeg) x3) (546 + i)).toNatClampNeg) x2)), (5, .int (g_costs (((g_wk (v.1 3) (v.1 8) (v.1 5) (v.1 4) i x2 x3 (v.1 10, v.1 14) k).1)) 11 ((fo (v.1 5) (v.1 4) i x2 (g_wk (v.1 3) (v.1 8) (v.1 5) (v.1 4) i x2 x3 (v.1 10, v.1 14) k)).toNatClampNeg) i)), (0, .ref (a 0)), (1, .int (nI i)), (2, .int x2), (3, .int x3)]) hx hb dX7_walks_65 hl (by decide) rfl (fun ls hl => ?_)
    refine lv_goto (tgt := 20) hx hb dX7_walks_67 (by decide) ?_
    have hP : PP G [bX7 a G (setA (setA v 10 ((g_wk (v.1 3) (v.1 8) (v.1 5) (v.1 4) i x2 x3 (v.1 10, v.1 14) (k + 1)).1)) 14 (g_ways (v.1 5) (g_wk (v.1 3) (v.1 8) (v.1 5) (v.1 4) i x2 x3 (v.1 10, v.1 14) (k + 1)).1 (v.1 4) (g_wk (v.1 3) (v.1 8) (v.1 5) (v.1 4) i x2 x3 (v.1 10, v.1 14) (k + 1)).2 11 i x2 0))] H := by
      exact hP
    have hD : DD (AA (List.flatten [bX7 a G v])) [bX7 a G (setA (setA v 10 ((g_wk (v.1 3) (v.1 8) (v.1 5) (v.1 4) i x2 x3 (v.1 10, v.1 14) (k + 1)).1)) 14 (g_ways (v.1 5) (g_wk (v.1 3) (v.1 8) (v.1 5) (v.1 4) i x2 x3 (v.1 10, v.1 14) (k + 1)).1 (v.1 4) (g_wk (v.1 3) (v.1 8) (v.1 5) (v.1 4) i x2 x3 (v.1 10, v.1 14) (k + 1)).2 11 i x2 0))] := D_re hD (adc (bX7_ad _ _ _ _) adn)
    exact ih_20  _ _ _ hP hD hS (show lv_has ls 6 [(4, .int (fo (v.1 5) (v.1 4) i x2 (g_wk (v.1 3) (v.1 8) (v.1 5) (v.1 4) i x2 x3 (v.1 10, v.1 14) (k + 1)))), (0, .ref (a 0)), (1, .int (nI i)), (2, .int x2), (3, .int x3)] from lv_sub hl [0, 2, 3, 4, 5] rfl) 

def rm_X7_week : Room := { frames := 5, cells := 0, slots := 0, locals := 127 }
theorem hd_X7_week : yX7_week.cls = RX7 ∧ yX7_week.cls ≠ "java/lang/invoke/MethodHandle" ∧ yX7_week.cls ≠ "java/lang/invoke/VarHandle" ∧ (parseMethodDescriptor yX7_week.desc).map (fun d => d.parameters.length) = some 3 := by decide +kernel
set_option maxRecDepth 100000 in
set_option maxHeartbeats 4000000 in
theorem c_X7_week (l : Launch) (G : GD) (a : Nat → Nat) (v : OV) (x1 : Int32) (x2 : Int32) (x3 : Int32) (ln : Nat) (hln : v.1 7 0 = nI ln) (hl1 : 1 ≤ ln) (hl4 : ln ≤ 4) (hD8 : (v.1 4 0).toNatClampNeg ≤ 8) (hR : ∀ d, d < (v.1 4 0).toNatClampNeg → vp_in (v.1 5 (3 * d)) 6 ∧ vp_in (v.1 5 (3 * d + 1)) 6) (hRx : ∀ d, d < (v.1 4 0).toNatClampNeg → vp_in (v.1 5 (3 * d + 2)) 8) (hday : ∀ k, k < x2.toNatClampNeg → dayOk v ln x1.toNatClampNeg k (g_week v ln x1.toNatClampNeg k)) : MetS l yX7_week wsX7_week rm_X7_week G [bX7 a G v] [.ref (a 0), .int x1, .int x2, .int x3] (fun r bc => r = some (.int (g_weekR v ln x1 x2 x3)) ∧ bc = [bX7 a G (g_weekV v ln x1 x2 x3)]) := by
  refine kb_beginS (cc := cX7_week) (maxL := 10) (ret := (some .int)) (by decide) rfl (Nat.le_of_ble_eq_true rfl) ?_
  intro p e s m below meth c hx hb hr hml hown hts hlocks hX H locs hP hD hS ls hl
  have hown : s.vm.findClass RX7 = some m.cls := hown
  have hl : lv_has ls 10 [(0, .ref (a 0)), (1, .int x1), (2, .int x2), (3, .int x3)] := hl
  have hin7 : ∀ w ∈ u_ws RX7 TX7 19, w ∈ wsX7_week := (fun _ h => List.mem_cons_of_mem _ (List.mem_append_right _ (h)))
  have hL4 : (v.1 7 0).toNatClampNeg ≤ 4 := by rw [hln, nI_clamp (by omega)]; exact hl4
  refine lv_iload_n hx hb dX7_week_0 rfl (lv_at hl 1 rfl) ?_
  refine lv_i2l (v := (x1 : Int32).toInt64) hx hb dX7_week_1 rfl ?_
  refine lv_lconst (v := 0) hx hb dX7_week_2 (by decide) ?_
  refine lv_ldc2 (own := RX7) (v := 9999) hx hb hown (hts (.constantLong RX7 200 9999) (by decide +kernel)) dX7_week_3 ?_
  refine kcS_p hx hb hml hown hts hX hP (c_X7_in l G ((x1 : Int32).toInt64) 0 9999) gX7_week_X7_in 3 rfl rfl rfl hdS_X7_in ⟨Nat.le_of_ble_eq_true rfl, Nat.le_of_ble_eq_true rfl⟩ (fun q hq => absurd hq List.not_mem_nil) hl.1 rfl rfl (Nat.le_of_ble_eq_true rfl) dX7_week_6 ⟨Nat.zero_le _, Nat.zero_le _⟩ ?_
  refine lv_if_eq (tgt := 34) hx hb dX7_week_9 (by decide) (fun c_9r => ?_) (fun c_9r => ?_)
  · have c_9 := b2i_fN c_9r
    refine lv_iconst (v := (-1)) hx hb dX7_week_34 (by decide) ?_
    have hP : PP G [bX7 a G (g_weekV v ln x1 x2 x3)] H := by
      simp only [g_weekV, if_neg c_9]
      exact hP
    exact kr_si hx hb hr hlocks dX7_week_35 hP hS (sameAd_cons (bX7_ad _ _ _ _) sameAd_nil) ⟨by simp only [g_weekR, if_neg c_9], rfl⟩
  · have c_9 := b2i_tP c_9r
    refine lv_iload_n hx hb dX7_week_12 rfl (lv_at hl 2 rfl) ?_
    refine lv_i2l (v := (x2 : Int32).toInt64) hx hb dX7_week_13 rfl ?_
    refine lv_lconst (v := 1) hx hb dX7_week_14 (by decide) ?_
    refine lv_ldc2 (own := RX7) (v := 60) hx hb hown (hts (.constantLong RX7 153 60) (by decide +kernel)) dX7_week_15 ?_
    refine kcS_p hx hb hml hown hts hX hP (c_X7_in l G ((x2 : Int32).toInt64) 1 60) gX7_week_X7_in 3 rfl rfl rfl hdS_X7_in ⟨Nat.le_of_ble_eq_true rfl, Nat.le_of_ble_eq_true rfl⟩ (fun q hq => absurd hq List.not_mem_nil) hl.1 rfl rfl (Nat.le_of_ble_eq_true rfl) dX7_week_18 ⟨Nat.zero_le _, Nat.zero_le _⟩ ?_
    refine lv_if_eq (tgt := 34) hx hb dX7_week_21 (by decide) (fun c_21r => ?_) (fun c_21r => ?_)
    · have c_21 := b2i_fN c_21r
      refine lv_iconst (v := (-1)) hx hb dX7_week_34 (by decide) ?_
      have hP : PP G [bX7 a G (g_weekV v ln x1 x2 x3)] H := by
        simp only [g_weekV, if_pos c_9, if_neg c_21]
        exact hP
      exact kr_si hx hb hr hlocks dX7_week_35 hP hS (sameAd_cons (bX7_ad _ _ _ _) sameAd_nil) ⟨by simp only [g_weekR, if_pos c_9, if_neg c_21], rfl⟩
    · have c_21 := b2i_tP c_21r
      refine lv_iload_n hx hb dX7_week_24 rfl (lv_at hl 3 rfl) ?_
      refine lv_i2l (v := (x3 : Int32).toInt64) hx hb dX7_week_25 rfl ?_
      refine lv_lconst (v := 0) hx hb dX7_week_26 (by decide) ?_
      refine lv_lconst (v := 1) hx hb dX7_week_27 (by decide) ?_
      refine kcS_p hx hb hml hown hts hX hP (c_X7_in l G ((x3 : Int32).toInt64) 0 1) gX7_week_X7_in 3 rfl rfl rfl hdS_X7_in ⟨Nat.le_of_ble_eq_true rfl, Nat.le_of_ble_eq_true rfl⟩ (fun q hq => absurd hq List.not_mem_nil) hl.1 rfl rfl (Nat.le_of_ble_eq_true rfl) dX7_week_28 ⟨Nat.zero_le _, Nat.zero_le _⟩ ?_
      refine lv_if_ne (tgt := 36) hx hb dX7_week_31 (by decide) (fun c_31r => ?_) (fun c_31r => ?_)
      · have c_31 := b2i_tP c_31r
        have hn_x1 := in0_n (n := 9999) c_9 rfl (by decide)
        have hn_x2 := in1_n (n := 60) c_21 rfl (by decide)
        refine lv_aload_n hx hb dX7_week_36 rfl (lv_at hl 0 rfl) ?_
        refine lv_iconst (v := 0) hx hb dX7_week_37 (by decide) ?_
        refine lv_bipush (v := 11) hx hb dX7_week_38 (by decide) ?_
        refine kcV_s hx hb hml hown hts hX hP hD hS (c_X7_copies l G a v 0 11 (by omega) (by omega)) gX7_week_X7_copies 2 rfl rfl rfl hd_X7_copies ⟨Nat.le_of_ble_eq_true rfl, Nat.le_of_ble_eq_true rfl⟩ [0] (by decide) rfl 0 rfl rfl rfl hl.1 rfl rfl (Nat.le_of_ble_eq_true rfl) dX7_week_40 ⟨Nat.zero_le _, Nat.zero_le _⟩ (fun r_ bc_ hq_1 H locs hP hD hS => ?_)
        obtain ⟨rfl, rfl⟩ := hq_1
        have hP : PP G [bX7 a G (setA v 10 (g_copies ((v.1 10)) 0 11))] H := hP
        have hD : DD (AA (List.flatten [bX7 a G v])) [bX7 a G (setA v 10 (g_copies ((v.1 10)) 0 11))] := D_re hD (adc (bX7_ad _ _ _ _) adn)
        have hP : PP G [bX7 a G (setA (setA (setA v 10 (g_copies ((v.1 10)) 0 11)) 13 (v.1 13)) 14 (v.1 14))] H := by rw [ov_putA (v := setA (setA v 10 (g_copies ((v.1 10)) 0 11)) 13 (v.1 13)) (t := 14) (f := v.1 14) rfl, ov_putA (v := setA v 10 (g_copies ((v.1 10)) 0 11)) (t := 13) (f := v.1 13) rfl]; exact hP
        have hD : DD (AA (List.flatten [bX7 a G v])) [bX7 a G (setA (setA (setA v 10 (g_copies ((v.1 10)) 0 11)) 13 (v.1 13)) 14 (v.1 14))] := D_re hD (adc (bX7_ad _ _ _ _) adn)
        refine lv_iconst (v := 0) hx hb dX7_week_43 (by decide) ?_
        refine lv_istore (lv' := [(4, .int 0), (0, .ref (a 0)), (1, .int x1), (2, .int x2), (3, .int x3)]) hx hb dX7_week_44 hl (by decide) rfl (fun ls hl => ?_)
        refine lp_up (N := x2.toNatClampNeg) (P := fun k => ∀ (S : Nat → Int32), ∀ (F : Nat → Int32), ∀ (V : Nat → Int32), ∀ (H : Heap) (locs : List Loc) (ls : Array Slot), PP G [bX7 a G (setA (setA (setA v 10 S) 13 V) 14 F)] H → DD (AA (List.flatten [bX7 a G v])) [bX7 a G (setA (setA (setA v 10 S) 13 V) 14 F)] → va_S (AA (List.flatten [bX7 a G v])) s.heap H locs → lv_has ls 10 [(4, .int (nI k)), (0, .ref (a 0)), (1, .int x1), (2, .int x2), (3, .int x3)] → (g_week v ln x1.toNatClampNeg k = (S, F, V)) → W p l e (headSpec wsX7_week rm_X7_week).room s m ([.ref (a 0), .int x1, .int x2, .int x3] : List Value).toArray below meth c H locs 0 0 (MQ below (kQs G [bX7 a G v] (fun r bc => r = some (.int (g_weekR v ln x1 x2 x3)) ∧ bc = [bX7 a G (g_weekV v ln x1 x2 x3)])) ([.ref (a 0), .int x1, .int x2, .int x3] : List Value).toArray s 0 0 (AA (List.flatten [bX7 a G v]))) (F0 m 46 ls [])) ?_ ?_ 0 (Nat.zero_le _) (g_copies ((v.1 10)) 0 11) (v.1 14) (v.1 13) _ _ _ hP hD hS (lv_sub hl [0, 1, 2, 3, 4] rfl) (rfl)
        · skip
          intro S F V H locs ls hP hD hS hl hs
          refine lv_iload hx hb dX7_week_46 (lv_at hl 0 rfl) ?_
          refine lv_iload_n hx hb dX7_week_48 rfl (lv_at hl 3 rfl) ?_
          refine lv_icmp_ge (tgt := 175) hx hb dX7_week_49 (by decide) (fun c_49 => ?_) (fun c_49 => absurd (lpx_c _) c_49)
          refine lv_iload_n hx hb dX7_week_175 rfl (lv_at hl 4 rfl) ?_
          refine lv_if_ne (tgt := 196) hx hb dX7_week_176 (by decide) (fun c_176 => ?_) (fun c_176 => ?_)
          · refine lv_iconst (v := 0) hx hb dX7_week_196 (by decide) ?_
            refine lv_istore (lv' := [(4, .int 0), (0, .ref (a 0)), (1, .int x1), (2, .int x2), (3, .int x3)]) hx hb dX7_week_197 hl (by decide) rfl (fun ls hl => ?_)
            refine lv_iconst (v := 0) hx hb dX7_week_199 (by decide) ?_
            refine lv_istore (lv' := [(5, .int 0), (4, .int 0), (0, .ref (a 0)), (1, .int x1), (2, .int x2), (3, .int x3)]) hx hb dX7_week_200 hl (by decide) rfl (fun ls hl => ?_)
            refine lp_up (N := 32) (P := fun k => ∀ (H : Heap) (locs : List Loc) (ls : Array Slot), PP G [bX7 a G (setA (setA (setA v 10 S) 13 V) 14 F)] H → DD (AA (List.flatten [bX7 a G v])) [bX7 a G (setA (setA (setA v 10 S) 13 V) 14 F)] → va_S (AA (List.flatten [bX7 a G v])) s.heap H locs → lv_has ls 10 [(5, .int (nI k)), (4, .int (itN (s_wsum (v.1 4) (v.1 7) S) 0 k)), (0, .ref (a 0)), (1, .int x1), (2, .int x2), (3, .int x3)] →  W p l e (headSpec wsX7_week rm_X7_week).room s m ([.ref (a 0), .int x1, .int x2, .int x3] : List Value).toArray below meth c H locs 0 0 (MQ below (kQs G [bX7 a G v] (fun r bc => r = some (.int (g_weekR v ln x1 x2 x3)) ∧ bc = [bX7 a G (g_weekV v ln x1 x2 x3)])) ([.ref (a 0), .int x1, .int x2, .int x3] : List Value).toArray s 0 0 (AA (List.flatten [bX7 a G v]))) (F0 m 202 ls [])) ?_ ?_ 0 (Nat.zero_le _)  _ _ _ hP hD hS (lv_sub hl [0, 1, 2, 3, 4, 5] rfl) 
            · skip
              intro H locs ls hP hD hS hl 
              refine lv_iload hx hb dX7_week_202 (lv_at hl 0 rfl) ?_
              refine lv_bipush (v := 32) hx hb dX7_week_204 (by decide) ?_
              refine lv_icmp_ge (tgt := 261) hx hb dX7_week_206 (by decide) (fun c_206 => ?_) (fun c_206 => absurd ((by decide : (32 : Int32) ≤ nI 32)) c_206)
              refine lv_iload hx hb dX7_week_261 (lv_at hl 1 rfl) ?_
              have hP : PP G [bX7 a G (g_weekV v ln x1 x2 x3)] H := by
                simp only [g_weekV, if_pos c_9, if_pos c_21, if_pos c_31]
                rw [hs]
                exact hP
              exact kr_si hx hb hr hlocks dX7_week_263 hP hS (sameAd_cons (bX7_ad _ _ _ _) sameAd_nil) ⟨by simp only [g_weekR, if_pos c_9, if_pos c_21, if_pos c_31]; rw [hs]; simp only [if_neg c_176] <;> rfl, rfl⟩
            · skip
              intro k hk_k ih_202 H locs ls hP hD hS hl 
              refine lv_iload hx hb dX7_week_202 (lv_at hl 0 rfl) ?_
              refine lv_bipush (v := 32) hx hb dX7_week_204 (by decide) ?_
              refine lv_icmp_ge (tgt := 261) hx hb dX7_week_206 (by decide) (fun c_206 => absurd c_206 (nI_ge (b := 32) hk_k (by decide))) (fun c_206 => ?_)
              refine lv_iload hx hb dX7_week_209 (lv_at hl 1 rfl) ?_
              refine lv_iload hx hb dX7_week_211 (lv_at hl 0 rfl) ?_
              refine lv_iconst (v := 4) hx hb dX7_week_213 (by decide) ?_
              refine lv_idiv hx hb dX7_week_214 (by decide) ?_
              refine kb_rw (y := nI (k / 4)) (pk_div (d := 4) (by omega) (by decide) (by decide)) ?_
              refine lv_aload_n hx hb dX7_week_215 rfl (lv_at hl 2 rfl) ?_
              refine kb_get (own := RX7) (C := RX7) (T := TX7) (N := 19) (v := .ref (a 3)) hx hb hts hin7 hown hX hP 0 rfl rfl rfl 4 (by decide) rfl (by decide +kernel) rfl dX7_week_216 ?_
              refine lv_iconst (v := 0) hx hb dX7_week_219 (by decide) ?_
              refine kb_ialdN (jn := 0) (n := 2) (f := v.1 4) hx hb hX hP 0 3 rfl rfl rfl (by omega) (by decide) dX7_week_220 ?_
              refine lv_icmp_ge (tgt := 251) hx hb dX7_week_221 (by decide) (fun c_221 => ?_) (fun c_221 => ?_)
              · refine lv_iconst (v := 0) hx hb dX7_week_251 (by decide) ?_
                refine lv_iadd hx hb dX7_week_252 ?_
                refine lv_istore (lv' := [(4, .int ((itN (s_wsum (v.1 4) (v.1 7) S) 0 k) + 0)), (5, .int (nI k)), (0, .ref (a 0)), (1, .int x1), (2, .int x2), (3, .int x3)]) hx hb dX7_week_253 hl (by decide) rfl (fun ls hl => ?_)
                refine lv_iinc (v := nI (k + 1)) (lv' := [(5, .int (nI (k + 1))), (4, .int ((itN (s_wsum (v.1 4) (v.1 7) S) 0 k) + 0)), (0, .ref (a 0)), (1, .int x1), (2, .int x2), (3, .int x3)]) hx hb dX7_week_255 hl (k := 1) rfl (nI_1 _) (by decide) rfl (fun ls hl => ?_)
                refine lv_goto (tgt := 202) hx hb dX7_week_258 (by decide) ?_
                have hP : PP G [bX7 a G (setA (setA (setA v 10 S) 13 V) 14 F)] H := hP
                have hD : DD (AA (List.flatten [bX7 a G v])) [bX7 a G (setA (setA (setA v 10 S) 13 V) 14 F)] := D_re hD (adc (bX7_ad _ _ _ _) adn)
                exact ih_202  _ _ _ hP hD hS (by rw [itN_s]; simp only [s_wsum, if_pos c_9, if_pos c_21, if_pos c_31, if_pos c_49, if_neg c_176, if_neg c_206, if_pos c_221]; exact lv_sub hl [0, 1, 2, 3, 4, 5] rfl) 
              · refine lv_iload hx hb dX7_week_224 (lv_at hl 0 rfl) ?_
                refine lv_iconst (v := 4) hx hb dX7_week_226 (by decide) ?_
                refine lv_irem hx hb dX7_week_227 (by decide) ?_
                refine kb_rw (y := nI (k % 4)) (pk_rem (d := 4) (by omega) (by decide) (by decide)) ?_
                refine lv_aload_n hx hb dX7_week_228 rfl (lv_at hl 2 rfl) ?_
                refine kb_get (own := RX7) (C := RX7) (T := TX7) (N := 19) (v := .ref (a 6)) hx hb hts hin7 hown hX hP 0 rfl rfl rfl 7 (by decide) rfl (by decide +kernel) rfl dX7_week_229 ?_
                refine lv_iconst (v := 0) hx hb dX7_week_232 (by decide) ?_
                refine kb_ialdN (jn := 0) (n := 2) (f := v.1 7) hx hb hX hP 0 6 rfl rfl rfl (by omega) (by decide) dX7_week_233 ?_
                refine lv_icmp_ge (tgt := 251) hx hb dX7_week_234 (by decide) (fun c_234 => ?_) (fun c_234 => ?_)
                · refine lv_iconst (v := 0) hx hb dX7_week_251 (by decide) ?_
                  refine lv_iadd hx hb dX7_week_252 ?_
                  refine lv_istore (lv' := [(4, .int ((itN (s_wsum (v.1 4) (v.1 7) S) 0 k) + 0)), (5, .int (nI k)), (0, .ref (a 0)), (1, .int x1), (2, .int x2), (3, .int x3)]) hx hb dX7_week_253 hl (by decide) rfl (fun ls hl => ?_)
                  refine lv_iinc (v := nI (k + 1)) (lv' := [(5, .int (nI (k + 1))), (4, .int ((itN (s_wsum (v.1 4) (v.1 7) S) 0 k) + 0)), (0, .ref (a 0)), (1, .int x1), (2, .int x2), (3, .int x3)]) hx hb dX7_week_255 hl (k := 1) rfl (nI_1 _) (by decide) rfl (fun ls hl => ?_)
                  refine lv_goto (tgt := 202) hx hb dX7_week_258 (by decide) ?_
                  have hP : PP G [bX7 a G (setA (setA (setA v 10 S) 13 V) 14 F)] H := hP
                  have hD : DD (AA (List.flatten [bX7 a G v])) [bX7 a G (setA (setA (setA v 10 S) 13 V) 14 F)] := D_re hD (adc (bX7_ad _ _ _ _) adn)
                  exact ih_202  _ _ _ hP hD hS (by rw [itN_s]; simp only [s_wsum, if_pos c_9, if_pos c_21, if_pos c_31, if_pos c_49, if_neg c_176, if_neg c_206, if_neg c_221, if_pos c_234]; exact lv_sub hl [0, 1, 2, 3, 4, 5] rfl) 
                · refine lv_aload_n hx hb dX7_week_237 rfl (lv_at hl 2 rfl) ?_
                  refine kb_get (own := RX7) (C := RX7) (T := TX7) (N := 19) (v := .ref (a 9)) hx hb hts hin7 hown hX hP 0 rfl rfl rfl 10 (by decide) rfl (by decide +kernel) rfl dX7_week_238 ?_
                  refine lv_sipush (v := 506) hx hb dX7_week_241 (by decide) ?_
                  refine lv_iload hx hb dX7_week_244 (lv_at hl 0 rfl) ?_
                  refine lv_iadd hx hb dX7_week_246 ?_
                  refine kb_ialdN (jn := 506 + k) (n := 552) (f := S) hx hb hX hP 0 9 rfl rfl (by simp only [nI_addE, nI_mulE] <;> rfl) (by omega) (by decide) dX7_week_247 ?_
                  refine lv_goto (tgt := 252) hx hb dX7_week_248 (by decide) ?_
                  refine lv_iadd hx hb dX7_week_252 ?_
                  refine lv_istore (lv' := [(4, .int ((itN (s_wsum (v.1 4) (v.1 7) S) 0 k) + (S (506 + k)))), (5, .int (nI k)), (0, .ref (a 0)), (1, .int x1), (2, .int x2), (3, .int x3)]) hx hb dX7_week_253 hl (by decide) rfl (fun ls hl => ?_)
                  refine lv_iinc (v := nI (k + 1)) (lv' := [(5, .int (nI (k + 1))), (4, .int ((itN (s_wsum (v.1 4) (v.1 7) S) 0 k) + (S (506 + k)))), (0, .ref (a 0)), (1, .int x1), (2, .int x2), (3, .int x3)]) hx hb dX7_week_255 hl (k := 1) rfl (nI_1 _) (by decide) rfl (fun ls hl => ?_)
                  refine lv_goto (tgt := 202) hx hb dX7_week_258 (by decide) ?_
                  have hP : PP G [bX7 a G (setA (setA (setA v 10 S) 13 V) 14 F)] H := hP
                  have hD : DD (AA (List.flatten [bX7 a G v])) [bX7 a G (setA (setA (setA v 10 S) 13 V) 14 F)] := D_re hD (adc (bX7_ad _ _ _ _) adn)
                  exact ih_202  _ _ _ hP hD hS (by rw [itN_s]; simp only [s_wsum, if_pos c_9, if_pos c_21, if_pos c_31, if_pos c_49, if_neg c_176, if_neg c_206, if_neg c_221, if_neg c_234]; exact lv_sub hl [0, 1, 2, 3, 4, 5] rfl) 
          · refine lv_aload_n hx hb dX7_week_179 rfl (lv_at hl 1 rfl) ?_
            refine kb_get (own := RX7) (C := RX7) (T := TX7) (N := 19) (v := .ref (a 9)) hx hb hts hin7 hown hX hP 0 rfl rfl rfl 10 (by decide) rfl (by decide +kernel) rfl dX7_week_180 ?_
            refine lv_sipush (v := 550) hx hb dX7_week_183 (by decide) ?_
            refine kb_ialdN (jn := 550) (n := 552) (f := S) hx hb hX hP 0 9 rfl rfl rfl (by omega) (by decide) dX7_week_186 ?_
            refine lv_aload_n hx hb dX7_week_187 rfl (lv_at hl 1 rfl) ?_
            refine kb_get (own := RX7) (C := RX7) (T := TX7) (N := 19) (v := .ref (a 9)) hx hb hts hin7 hown hX hP 0 rfl rfl rfl 10 (by decide) rfl (by decide +kernel) rfl dX7_week_188 ?_
            refine lv_bipush (v := 44) hx hb dX7_week_191 (by decide) ?_
            refine kb_ialdN (jn := 44) (n := 552) (f := S) hx hb hX hP 0 9 rfl rfl rfl (by omega) (by decide) dX7_week_193 ?_
            refine lv_isub hx hb dX7_week_194 ?_
            have hP : PP G [bX7 a G (g_weekV v ln x1 x2 x3)] H := by
              simp only [g_weekV, if_pos c_9, if_pos c_21, if_pos c_31]
              rw [hs]
              exact hP
            exact kr_si hx hb hr hlocks dX7_week_195 hP hS (sameAd_cons (bX7_ad _ _ _ _) sameAd_nil) ⟨by simp only [g_weekR, if_pos c_9, if_pos c_21, if_pos c_31]; rw [hs]; simp only [if_pos c_176] <;> rfl, rfl⟩
        · skip
          intro k hk_k ih_46 S F V H locs ls hP hD hS hl hs
          refine lv_iload hx hb dX7_week_46 (lv_at hl 0 rfl) ?_
          refine lv_iload_n hx hb dX7_week_48 rfl (lv_at hl 3 rfl) ?_
          refine lv_icmp_ge (tgt := 175) hx hb dX7_week_49 (by decide) (fun c_49 => absurd c_49 (lps_c hk_k)) (fun c_49 => ?_)
          have hib : wk_i ln x1.toNatClampNeg k < 4 := Nat.lt_of_lt_of_le (Nat.mod_lt _ (by omega)) hl4
          have hdr := draw_b x1.toNatClampNeg k
          have hk60 : k < 60 := by omega
          have hdy := hday k hk_k
          rw [hs] at hdy
          refine lv_ldc2 (own := RX7) (v := 7919) hx hb hown (hts (.constantLong RX7 202 7919) (by decide +kernel)) dX7_week_52 ?_
          refine lv_iload_n hx hb dX7_week_55 rfl (lv_at hl 2 rfl) ?_
          refine kb_nat hn_x1.1 ?_
          refine lv_i2l (v := (nI x1.toNatClampNeg : Int32).toInt64) hx hb dX7_week_56 rfl ?_
          refine lv_lmul hx hb dX7_week_57 ?_
          refine lv_ldc2 (own := RX7) (v := 6151) hx hb hown (hts (.constantLong RX7 204 6151) (by decide +kernel)) dX7_week_58 ?_
          refine lv_iload hx hb dX7_week_61 (lv_at hl 0 rfl) ?_
          refine lv_i2l (v := (nI k : Int32).toInt64) hx hb dX7_week_63 rfl ?_
          refine lv_lmul hx hb dX7_week_64 ?_
          refine lv_ladd hx hb dX7_week_65 ?_
          refine lv_lconst (v := 1) hx hb dX7_week_66 (by decide) ?_
          refine lv_ladd hx hb dX7_week_67 ?_
          refine lv_lstore (lv' := [(5, .long (((7919 * ((nI x1.toNatClampNeg : Int32).toInt64)) + (6151 * ((nI k : Int32).toInt64))) + 1)), (4, .int (nI k)), (0, .ref (a 0)), (1, .int x1), (2, .int x2), (3, .int x3)]) hx hb dX7_week_68 hl (by decide) rfl (fun ls hl => ?_)
          refine lv_lload hx hb dX7_week_70 (lv_at hl 0 rfl) ?_
          refine lv_lload hx hb dX7_week_72 (lv_at hl 0 rfl) ?_
          refine lv_lmul hx hb dX7_week_74 ?_
          refine lv_ldc2 (own := RX7) (v := 65521) hx hb hown (hts (.constantLong RX7 206 65521) (by decide +kernel)) dX7_week_75 ?_
          refine lv_lrem hx hb dX7_week_78 (by decide) ?_
          refine lv_l2i (v := (((((7919 * ((nI x1.toNatClampNeg : Int32).toInt64)) + (6151 * ((nI k : Int32).toInt64))) + 1) * (((7919 * ((nI x1.toNatClampNeg : Int32).toInt64)) + (6151 * ((nI k : Int32).toInt64))) + 1)) - ((((7919 * ((nI x1.toNatClampNeg : Int32).toInt64)) + (6151 * ((nI k : Int32).toInt64))) + 1) * (((7919 * ((nI x1.toNatClampNeg : Int32).toInt64)) + (6151 * ((nI k : Int32).toInt64))) + 1)) / 65521 * 65521 : Int64).toInt32) hx hb dX7_week_79 rfl ?_
          refine kb_rw (y := nI (drawN x1.toNatClampNeg k)) (draw_n hn_x1.2 hk60) ?_
          refine lv_istore (lv' := [(7, .int (nI (drawN x1.toNatClampNeg k))), (5, .long (((7919 * ((nI x1.toNatClampNeg : Int32).toInt64)) + (6151 * ((nI k : Int32).toInt64))) + 1)), (4, .int (nI k)), (0, .ref (a 0)), (1, .int x1), (2, .int x2), (3, .int x3)]) hx hb dX7_week_80 hl (by decide) rfl (fun ls hl => ?_)
          refine lv_iload hx hb dX7_week_82 (lv_at hl 0 rfl) ?_
          refine lv_aload_n hx hb dX7_week_84 rfl (lv_at hl 3 rfl) ?_
          refine kb_get (own := RX7) (C := RX7) (T := TX7) (N := 19) (v := .ref (a 6)) hx hb hts hin7 hown hX hP 0 rfl rfl rfl 7 (by decide) rfl (by decide +kernel) rfl dX7_week_85 ?_
          refine lv_iconst (v := 0) hx hb dX7_week_88 (by decide) ?_
          refine kb_ialdN (jn := 0) (n := 2) (f := v.1 7) hx hb hX hP 0 6 rfl rfl rfl (by omega) (by decide) dX7_week_89 ?_
          refine kb_rw (y := nI ln) (hln) ?_
          refine lv_irem hx hb dX7_week_90 (nI_ne0 (by omega) (by omega)) ?_
          refine kb_rw (y := nI (wk_i ln x1.toNatClampNeg k)) (pk_rem (by omega) (by omega) (by omega)) ?_
          refine lv_istore (lv' := [(8, .int (nI (wk_i ln x1.toNatClampNeg k))), (7, .int (nI (drawN x1.toNatClampNeg k))), (5, .long (((7919 * ((nI x1.toNatClampNeg : Int32).toInt64)) + (6151 * ((nI k : Int32).toInt64))) + 1)), (4, .int (nI k)), (0, .ref (a 0)), (1, .int x1), (2, .int x2), (3, .int x3)]) hx hb dX7_week_91 hl (by decide) rfl (fun ls hl => ?_)
          refine lv_aload_n hx hb dX7_week_93 rfl (lv_at hl 4 rfl) ?_
          refine kb_get (own := RX7) (C := RX7) (T := TX7) (N := 19) (v := .ref (a 9)) hx hb hts hin7 hown hX hP 0 rfl rfl rfl 10 (by decide) rfl (by decide +kernel) rfl dX7_week_94 ?_
          refine lv_sipush (v := 546) hx hb dX7_week_97 (by decide) ?_
          refine lv_iload hx hb dX7_week_100 (lv_at hl 0 rfl) ?_
          refine lv_iadd hx hb dX7_week_102 ?_
          refine kb_ialdN (jn := 546 + (wk_i ln x1.toNatClampNeg k)) (n := 552) (f := S) hx hb hX hP 0 9 rfl rfl (by simp only [nI_addE, nI_mulE] <;> rfl) (by omega) (by decide) dX7_week_103 ?_
          refine lv_istore (lv' := [(9, .int (S (546 + (wk_i ln x1.toNatClampNeg k)))), (8, .int (nI (wk_i ln x1.toNatClampNeg k))), (7, .int (nI (drawN x1.toNatClampNeg k))), (5, .long (((7919 * ((nI x1.toNatClampNeg : Int32).toInt64)) + (6151 * ((nI k : Int32).toInt64))) + 1)), (4, .int (nI k)), (0, .ref (a 0)), (1, .int x1), (2, .int x2), (3, .int x3)]) hx hb dX7_week_104 hl (by decide) rfl (fun ls hl => ?_)
          refine lv_aload_n hx hb dX7_week_106 rfl (lv_at hl 5 rfl) ?_
          refine lv_iload hx hb dX7_week_107 (lv_at hl 1 rfl) ?_
          refine lv_aload_n hx hb dX7_week_109 rfl (lv_at hl 5 rfl) ?_
          refine kb_get (own := RX7) (C := RX7) (T := TX7) (N := 19) (v := .ref (a 7)) hx hb hts hin7 hown hX hP 0 rfl rfl rfl 8 (by decide) rfl (by decide +kernel) rfl dX7_week_110 ?_
          refine lv_iconst (v := 3) hx hb dX7_week_113 (by decide) ?_
          refine lv_iload hx hb dX7_week_114 (lv_at hl 1 rfl) ?_
          refine lv_imul hx hb dX7_week_116 ?_
          refine lv_iconst (v := 2) hx hb dX7_week_117 (by decide) ?_
          refine lv_iadd hx hb dX7_week_118 ?_
          refine kb_ialdN (jn := (3 * (wk_i ln x1.toNatClampNeg k)) + 2) (n := 24) (f := v.1 8) hx hb hX hP 0 7 rfl rfl (by simp only [nI_addE, nI_mulE] <;> rfl) (by omega) (by decide) dX7_week_119 ?_
          refine lv_iload hx hb dX7_week_120 (lv_at hl 2 rfl) ?_
          refine lv_bipush (v := 8) hx hb dX7_week_122 (by decide) ?_
          refine lv_idiv hx hb dX7_week_124 (by decide) ?_
          refine kb_rw (y := nI (drawN x1.toNatClampNeg k / 8)) (pk_div (d := 8) (by omega) (by decide) (by decide)) ?_
          refine lv_iconst (v := 2) hx hb dX7_week_125 (by decide) ?_
          refine lv_irem hx hb dX7_week_126 (by decide) ?_
          refine kb_rw (y := nI (drawN x1.toNatClampNeg k / 8 % 2)) (pk_rem (d := 2) (by omega) (by decide) (by decide)) ?_
          refine lv_iconst (v := 1) hx hb dX7_week_127 (by decide) ?_
          refine lv_icmp_ne (tgt := 135) hx hb dX7_week_128 (by decide) (fun c_128 => ?_) (fun c_128 => ?_)
          · have hz : wk_z x1.toNatClampNeg k = 0 := if_neg c_128
            refine lv_iconst (v := 0) hx hb dX7_week_135 (by decide) ?_
            refine kcV_s hx hb hml hown hts hX hP hD hS (c_X7_walks l G a (setA (setA (setA v 10 S) 13 V) 14 F) (wk_i ln x1.toNatClampNeg k) ((v.1 8) ((3 * (wk_i ln x1.toNatClampNeg k)) + 2)) 0 (wkN (v.1 3) (v.1 8) (v.1 5) (v.1 4) (wk_i ln x1.toNatClampNeg k) (v.1 8 (3 * wk_i ln x1.toNatClampNeg k + 2)) 0 (S, F)) (by omega) hD8 hR (by have h := hdy.1; rw [hz] at h; exact h)) gX7_week_X7_walks 3 rfl rfl rfl hd_X7_walks ⟨Nat.le_of_ble_eq_true rfl, Nat.le_of_ble_eq_true rfl⟩ [0] (by decide) rfl 0 rfl rfl rfl hl.1 rfl rfl (Nat.le_of_ble_eq_true rfl) dX7_week_136 ⟨Nat.zero_le _, Nat.zero_le _⟩ (fun r_ bc_ hq_2 H locs hP hD hS => ?_)
            obtain ⟨rfl, rfl⟩ := hq_2
            have hP : PP G [bX7 a G (setA (setA (setA (setA (setA v 10 S) 13 V) 14 F) 10 ((g_walked ((v.1 3)) ((v.1 8)) ((v.1 5)) ((v.1 4)) (wk_i ln x1.toNatClampNeg k) ((v.1 8) ((3 * (wk_i ln x1.toNatClampNeg k)) + 2)) 0 (S, F) (wkN (v.1 3) (v.1 8) (v.1 5) (v.1 4) (wk_i ln x1.toNatClampNeg k) (v.1 8 (3 * wk_i ln x1.toNatClampNeg k + 2)) 0 (S, F))).1)) 14 ((g_walked ((v.1 3)) ((v.1 8)) ((v.1 5)) ((v.1 4)) (wk_i ln x1.toNatClampNeg k) ((v.1 8) ((3 * (wk_i ln x1.toNatClampNeg k)) + 2)) 0 (S, F) (wkN (v.1 3) (v.1 8) (v.1 5) (v.1 4) (wk_i ln x1.toNatClampNeg k) (v.1 8 (3 * wk_i ln x1.toNatClampNeg k + 2)) 0 (S, F))).2))] H := hP
            have hD : DD (AA (List.flatten [bX7 a G v])) [bX7 a G (setA (setA (setA (setA (setA v 10 S) 13 V) 14 F) 10 ((g_walked ((v.1 3)) ((v.1 8)) ((v.1 5)) ((v.1 4)) (wk_i ln x1.toNatClampNeg k) ((v.1 8) ((3 * (wk_i ln x1.toNatClampNeg k)) + 2)) 0 (S, F) (wkN (v.1 3) (v.1 8) (v.1 5) (v.1 4) (wk_i ln x1.toNatClampNeg k) (v.1 8 (3 * wk_i ln x1.toNatClampNeg k + 2)) 0 (S, F))).1)) 14 ((g_walked ((v.1 3)) ((v.1 8)) ((v.1 5)) ((v.1 4)) (wk_i ln x1.toNatClampNeg k) ((v.1 8) ((3 * (wk_i ln x1.toNatClampNeg k)) + 2)) 0 (S, F) (wkN (v.1 3) (v.1 8) (v.1 5) (v.1 4) (wk_i ln x1.toNatClampNeg k) (v.1 8 (3 * wk_i ln x1.toNatClampNeg k + 2)) 0 (S, F))).2))] := D_re hD (adc (bX7_ad _ _ _ _) adn)
            obtain ⟨E10a, hE10a⟩ : ∃ E : Nat → Int32, E = (g_walked ((v.1 3)) ((v.1 8)) ((v.1 5)) ((v.1 4)) (wk_i ln x1.toNatClampNeg k) ((v.1 8) ((3 * (wk_i ln x1.toNatClampNeg k)) + 2)) 0 (S, F) (wkN (v.1 3) (v.1 8) (v.1 5) (v.1 4) (wk_i ln x1.toNatClampNeg k) (v.1 8 (3 * wk_i ln x1.toNatClampNeg k + 2)) 0 (S, F))).1 := ⟨_, rfl⟩
            obtain ⟨E14a, hE14a⟩ : ∃ E : Nat → Int32, E = (g_walked ((v.1 3)) ((v.1 8)) ((v.1 5)) ((v.1 4)) (wk_i ln x1.toNatClampNeg k) ((v.1 8) ((3 * (wk_i ln x1.toNatClampNeg k)) + 2)) 0 (S, F) (wkN (v.1 3) (v.1 8) (v.1 5) (v.1 4) (wk_i ln x1.toNatClampNeg k) (v.1 8 (3 * wk_i ln x1.toNatClampNeg k + 2)) 0 (S, F))).2 := ⟨_, rfl⟩
            have hP : PP G [bX7 a G (setA (setA (setA v 10 E10a) 13 V) 14 E14a)] H := by
              rw [hE10a, hE14a]
              try simp only [ov_n1, ov_m1, ov_nc, ov_mc, ov_c] at hP ⊢
              exact hP
            have hD : DD (AA (List.flatten [bX7 a G v])) [bX7 a G (setA (setA (setA v 10 E10a) 13 V) 14 E14a)] := D_re hD (adc (bX7_ad _ _ _ _) adn)
            have hw1 : wk1 v ln x1.toNatClampNeg k (S, F, V) = (E10a, E14a) := by rw [hE10a, hE14a]; unfold wk1; rw [hz]
            refine lv_aload_n hx hb dX7_week_139 rfl (lv_at hl 5 rfl) ?_
            refine lv_iload hx hb dX7_week_140 (lv_at hl 1 rfl) ?_
            refine lv_iload hx hb dX7_week_142 (lv_at hl 0 rfl) ?_
            refine lv_iload hx hb dX7_week_144 (lv_at hl 2 rfl) ?_
            refine lv_bipush (v := 8) hx hb dX7_week_146 (by decide) ?_
            refine lv_idiv hx hb dX7_week_148 (by decide) ?_
            refine kb_rw (y := nI (drawN x1.toNatClampNeg k / 8)) (pk_div (d := 8) (by omega) (by decide) (by decide)) ?_
            refine lv_iconst (v := 2) hx hb dX7_week_149 (by decide) ?_
            refine lv_irem hx hb dX7_week_150 (by decide) ?_
            refine kb_rw (y := nI (drawN x1.toNatClampNeg k / 8 % 2)) (pk_rem (d := 2) (by omega) (by decide) (by decide)) ?_
            refine lv_iconst (v := 1) hx hb dX7_week_151 (by decide) ?_
            refine lv_icmp_ne (tgt := 159) hx hb dX7_week_152 (by decide) (fun c_152 => ?_) (fun c_152 => absurd c_152 (c_128))
            refine lv_iconst (v := 0) hx hb dX7_week_159 (by decide) ?_
            refine kcV_s hx hb hml hown hts hX hP hD hS (c_X7_walks l G a (setA (setA (setA v 10 E10a) 13 V) 14 E14a) (wk_i ln x1.toNatClampNeg k) (S (546 + (wk_i ln x1.toNatClampNeg k))) 0 (wkN (v.1 3) (v.1 8) (v.1 5) (v.1 4) (wk_i ln x1.toNatClampNeg k) (S (546 + wk_i ln x1.toNatClampNeg k)) 0 (E10a, E14a)) (by omega) hD8 hR (by have h := hdy.2; rw [hw1, hz] at h; exact h)) gX7_week_X7_walks 3 rfl rfl rfl hd_X7_walks ⟨Nat.le_of_ble_eq_true rfl, Nat.le_of_ble_eq_true rfl⟩ [0] (by decide) rfl 0 rfl rfl rfl hl.1 rfl rfl (Nat.le_of_ble_eq_true rfl) dX7_week_160 ⟨Nat.zero_le _, Nat.zero_le _⟩ (fun r_ bc_ hq_3 H locs hP hD hS => ?_)
            obtain ⟨rfl, rfl⟩ := hq_3
            have hP : PP G [bX7 a G (setA (setA (setA (setA (setA v 10 E10a) 13 V) 14 E14a) 10 ((g_walked ((v.1 3)) ((v.1 8)) ((v.1 5)) ((v.1 4)) (wk_i ln x1.toNatClampNeg k) (S (546 + (wk_i ln x1.toNatClampNeg k))) 0 (E10a, E14a) (wkN (v.1 3) (v.1 8) (v.1 5) (v.1 4) (wk_i ln x1.toNatClampNeg k) (S (546 + wk_i ln x1.toNatClampNeg k)) 0 (E10a, E14a))).1)) 14 ((g_walked ((v.1 3)) ((v.1 8)) ((v.1 5)) ((v.1 4)) (wk_i ln x1.toNatClampNeg k) (S (546 + (wk_i ln x1.toNatClampNeg k))) 0 (E10a, E14a) (wkN (v.1 3) (v.1 8) (v.1 5) (v.1 4) (wk_i ln x1.toNatClampNeg k) (S (546 + wk_i ln x1.toNatClampNeg k)) 0 (E10a, E14a))).2))] H := hP
            have hD : DD (AA (List.flatten [bX7 a G v])) [bX7 a G (setA (setA (setA (setA (setA v 10 E10a) 13 V) 14 E14a) 10 ((g_walked ((v.1 3)) ((v.1 8)) ((v.1 5)) ((v.1 4)) (wk_i ln x1.toNatClampNeg k) (S (546 + (wk_i ln x1.toNatClampNeg k))) 0 (E10a, E14a) (wkN (v.1 3) (v.1 8) (v.1 5) (v.1 4) (wk_i ln x1.toNatClampNeg k) (S (546 + wk_i ln x1.toNatClampNeg k)) 0 (E10a, E14a))).1)) 14 ((g_walked ((v.1 3)) ((v.1 8)) ((v.1 5)) ((v.1 4)) (wk_i ln x1.toNatClampNeg k) (S (546 + (wk_i ln x1.toNatClampNeg k))) 0 (E10a, E14a) (wkN (v.1 3) (v.1 8) (v.1 5) (v.1 4) (wk_i ln x1.toNatClampNeg k) (S (546 + wk_i ln x1.toNatClampNeg k)) 0 (E10a, E14a))).2))] := D_re hD (adc (bX7_ad _ _ _ _) adn)
            obtain ⟨E10b, hE10b⟩ : ∃ E : Nat → Int32, E = (g_walked ((v.1 3)) ((v.1 8)) ((v.1 5)) ((v.1 4)) (wk_i ln x1.toNatClampNeg k) (S (546 + (wk_i ln x1.toNatClampNeg k))) 0 (E10a, E14a) (wkN (v.1 3) (v.1 8) (v.1 5) (v.1 4) (wk_i ln x1.toNatClampNeg k) (S (546 + wk_i ln x1.toNatClampNeg k)) 0 (E10a, E14a))).1 := ⟨_, rfl⟩
            obtain ⟨E14b, hE14b⟩ : ∃ E : Nat → Int32, E = (g_walked ((v.1 3)) ((v.1 8)) ((v.1 5)) ((v.1 4)) (wk_i ln x1.toNatClampNeg k) (S (546 + (wk_i ln x1.toNatClampNeg k))) 0 (E10a, E14a) (wkN (v.1 3) (v.1 8) (v.1 5) (v.1 4) (wk_i ln x1.toNatClampNeg k) (S (546 + wk_i ln x1.toNatClampNeg k)) 0 (E10a, E14a))).2 := ⟨_, rfl⟩
            have hP : PP G [bX7 a G (setA (setA (setA v 10 E10b) 13 V) 14 E14b)] H := by
              rw [hE10b, hE14b]
              try simp only [ov_n1, ov_m1, ov_nc, ov_mc, ov_c] at hP ⊢
              exact hP
            have hD : DD (AA (List.flatten [bX7 a G v])) [bX7 a G (setA (setA (setA v 10 E10b) 13 V) 14 E14b)] := D_re hD (adc (bX7_ad _ _ _ _) adn)
            have hw2 : wk2 v ln x1.toNatClampNeg k (S, F, V) = (E10b, E14b) := by rw [hE10b, hE14b]; unfold wk2; rw [hw1, hz]
            refine lv_aload_n hx hb dX7_week_163 rfl (lv_at hl 5 rfl) ?_
            refine lv_bipush (v := 11) hx hb dX7_week_164 (by decide) ?_
            refine kcV_s hx hb hml hown hts hX hP hD hS (c_X7_nights l G a (setA (setA (setA v 10 E10b) 13 V) 14 E14b) 11 (by omega) hD8 hL4 hRx) gX7_week_X7_nights 1 rfl rfl rfl hd_X7_nights ⟨Nat.le_of_ble_eq_true rfl, Nat.le_of_ble_eq_true rfl⟩ [0] (by decide) rfl 0 rfl rfl rfl hl.1 rfl rfl (Nat.le_of_ble_eq_true rfl) dX7_week_166 ⟨Nat.zero_le _, Nat.zero_le _⟩ (fun r_ bc_ hq_4 H locs hP hD hS => ?_)
            obtain ⟨rfl, rfl⟩ := hq_4
            have hP : PP G [bX7 a G (setA (setA (setA (setA (setA v 10 E10b) 13 V) 14 E14b) 13 (g_was (E10b) (V) 11)) 10 (g_nights ((v.1 3)) ((v.1 5)) ((v.1 7)) ((v.1 4)) ((v.1 6)) (E10b) (V) 11))] H := hP
            have hD : DD (AA (List.flatten [bX7 a G v])) [bX7 a G (setA (setA (setA (setA (setA v 10 E10b) 13 V) 14 E14b) 13 (g_was (E10b) (V) 11)) 10 (g_nights ((v.1 3)) ((v.1 5)) ((v.1 7)) ((v.1 4)) ((v.1 6)) (E10b) (V) 11))] := D_re hD (adc (bX7_ad _ _ _ _) adn)
            obtain ⟨E10c, hE10c⟩ : ∃ E : Nat → Int32, E = g_nights ((v.1 3)) ((v.1 5)) ((v.1 7)) ((v.1 4)) ((v.1 6)) (E10b) (V) 11 := ⟨_, rfl⟩
            obtain ⟨E13c, hE13c⟩ : ∃ E : Nat → Int32, E = g_was (E10b) (V) 11 := ⟨_, rfl⟩
            have hP : PP G [bX7 a G (setA (setA (setA v 10 E10c) 13 E13c) 14 E14b)] H := by
              rw [hE10c, hE13c]
              try simp only [ov_n1, ov_m1, ov_nc, ov_mc, ov_c] at hP ⊢
              exact hP
            have hD : DD (AA (List.flatten [bX7 a G v])) [bX7 a G (setA (setA (setA v 10 E10c) 13 E13c) 14 E14b)] := D_re hD (adc (bX7_ad _ _ _ _) adn)
            refine lv_iinc (v := nI (k + 1)) (lv' := [(4, .int (nI (k + 1))), (9, .int (S (546 + (wk_i ln x1.toNatClampNeg k)))), (8, .int (nI (wk_i ln x1.toNatClampNeg k))), (7, .int (nI (drawN x1.toNatClampNeg k))), (5, .long (((7919 * ((nI x1.toNatClampNeg : Int32).toInt64)) + (6151 * ((nI k : Int32).toInt64))) + 1)), (0, .ref (a 0)), (1, .int x1), (2, .int x2), (3, .int x3)]) hx hb dX7_week_169 hl (k := 4) rfl (nI_1 _) (by decide) rfl (fun ls hl => ?_)
            refine lv_goto (tgt := 46) hx hb dX7_week_172 (by decide) ?_
            have hP : PP G [bX7 a G (setA (setA (setA v 10 E10c) 13 E13c) 14 E14b)] H := hP
            have hD : DD (AA (List.flatten [bX7 a G v])) [bX7 a G (setA (setA (setA v 10 E10c) 13 E13c) 14 E14b)] := D_re hD (adc (bX7_ad _ _ _ _) adn)
            exact ih_46 E10c E14b E13c _ _ _ hP hD hS (show lv_has ls 10 [(4, .int (nI (k + 1))), (0, .ref (a 0)), (1, .int x1), (2, .int x2), (3, .int x3)] from lv_sub hl [0, 5, 6, 7, 8] rfl) (by rw [g_week, itN_s, ← g_week, hs, s_week, hw2, hE10c, hE13c])
          · have hz : wk_z x1.toNatClampNeg k = 1 := if_pos c_128
            refine lv_iconst (v := 1) hx hb dX7_week_131 (by decide) ?_
            refine lv_goto (tgt := 136) hx hb dX7_week_132 (by decide) ?_
            refine kcV_s hx hb hml hown hts hX hP hD hS (c_X7_walks l G a (setA (setA (setA v 10 S) 13 V) 14 F) (wk_i ln x1.toNatClampNeg k) ((v.1 8) ((3 * (wk_i ln x1.toNatClampNeg k)) + 2)) 1 (wkN (v.1 3) (v.1 8) (v.1 5) (v.1 4) (wk_i ln x1.toNatClampNeg k) (v.1 8 (3 * wk_i ln x1.toNatClampNeg k + 2)) 1 (S, F)) (by omega) hD8 hR (by have h := hdy.1; rw [hz] at h; exact h)) gX7_week_X7_walks 3 rfl rfl rfl hd_X7_walks ⟨Nat.le_of_ble_eq_true rfl, Nat.le_of_ble_eq_true rfl⟩ [0] (by decide) rfl 0 rfl rfl rfl hl.1 rfl rfl (Nat.le_of_ble_eq_true rfl) dX7_week_136 ⟨Nat.zero_le _, Nat.zero_le _⟩ (fun r_ bc_ hq_5 H locs hP hD hS => ?_)
            obtain ⟨rfl, rfl⟩ := hq_5
            have hP : PP G [bX7 a G (setA (setA (setA (setA (setA v 10 S) 13 V) 14 F) 10 ((g_walked ((v.1 3)) ((v.1 8)) ((v.1 5)) ((v.1 4)) (wk_i ln x1.toNatClampNeg k) ((v.1 8) ((3 * (wk_i ln x1.toNatClampNeg k)) + 2)) 1 (S, F) (wkN (v.1 3) (v.1 8) (v.1 5) (v.1 4) (wk_i ln x1.toNatClampNeg k) (v.1 8 (3 * wk_i ln x1.toNatClampNeg k + 2)) 1 (S, F))).1)) 14 ((g_walked ((v.1 3)) ((v.1 8)) ((v.1 5)) ((v.1 4)) (wk_i ln x1.toNatClampNeg k) ((v.1 8) ((3 * (wk_i ln x1.toNatClampNeg k)) + 2)) 1 (S, F) (wkN (v.1 3) (v.1 8) (v.1 5) (v.1 4) (wk_i ln x1.toNatClampNeg k) (v.1 8 (3 * wk_i ln x1.toNatClampNeg k + 2)) 1 (S, F))).2))] H := hP
            have hD : DD (AA (List.flatten [bX7 a G v])) [bX7 a G (setA (setA (setA (setA (setA v 10 S) 13 V) 14 F) 10 ((g_walked ((v.1 3)) ((v.1 8)) ((v.1 5)) ((v.1 4)) (wk_i ln x1.toNatClampNeg k) ((v.1 8) ((3 * (wk_i ln x1.toNatClampNeg k)) + 2)) 1 (S, F) (wkN (v.1 3) (v.1 8) (v.1 5) (v.1 4) (wk_i ln x1.toNatClampNeg k) (v.1 8 (3 * wk_i ln x1.toNatClampNeg k + 2)) 1 (S, F))).1)) 14 ((g_walked ((v.1 3)) ((v.1 8)) ((v.1 5)) ((v.1 4)) (wk_i ln x1.toNatClampNeg k) ((v.1 8) ((3 * (wk_i ln x1.toNatClampNeg k)) + 2)) 1 (S, F) (wkN (v.1 3) (v.1 8) (v.1 5) (v.1 4) (wk_i ln x1.toNatClampNeg k) (v.1 8 (3 * wk_i ln x1.toNatClampNeg k + 2)) 1 (S, F))).2))] := D_re hD (adc (bX7_ad _ _ _ _) adn)
            obtain ⟨E10a, hE10a⟩ : ∃ E : Nat → Int32, E = (g_walked ((v.1 3)) ((v.1 8)) ((v.1 5)) ((v.1 4)) (wk_i ln x1.toNatClampNeg k) ((v.1 8) ((3 * (wk_i ln x1.toNatClampNeg k)) + 2)) 1 (S, F) (wkN (v.1 3) (v.1 8) (v.1 5) (v.1 4) (wk_i ln x1.toNatClampNeg k) (v.1 8 (3 * wk_i ln x1.toNatClampNeg k + 2)) 1 (S, F))).1 := ⟨_, rfl⟩
            obtain ⟨E14a, hE14a⟩ : ∃ E : Nat → Int32, E = (g_walked ((v.1 3)) ((v.1 8)) ((v.1 5)) ((v.1 4)) (wk_i ln x1.toNatClampNeg k) ((v.1 8) ((3 * (wk_i ln x1.toNatClampNeg k)) + 2)) 1 (S, F) (wkN (v.1 3) (v.1 8) (v.1 5) (v.1 4) (wk_i ln x1.toNatClampNeg k) (v.1 8 (3 * wk_i ln x1.toNatClampNeg k + 2)) 1 (S, F))).2 := ⟨_, rfl⟩
            have hP : PP G [bX7 a G (setA (setA (setA v 10 E10a) 13 V) 14 E14a)] H := by
              rw [hE10a, hE14a]
              try simp only [ov_n1, ov_m1, ov_nc, ov_mc, ov_c] at hP ⊢
              exact hP
            have hD : DD (AA (List.flatten [bX7 a G v])) [bX7 a G (setA (setA (setA v 10 E10a) 13 V) 14 E14a)] := D_re hD (adc (bX7_ad _ _ _ _) adn)
            have hw1 : wk1 v ln x1.toNatClampNeg k (S, F, V) = (E10a, E14a) := by rw [hE10a, hE14a]; unfold wk1; rw [hz]
            refine lv_aload_n hx hb dX7_week_139 rfl (lv_at hl 5 rfl) ?_
            refine lv_iload hx hb dX7_week_140 (lv_at hl 1 rfl) ?_
            refine lv_iload hx hb dX7_week_142 (lv_at hl 0 rfl) ?_
            refine lv_iload hx hb dX7_week_144 (lv_at hl 2 rfl) ?_
            refine lv_bipush (v := 8) hx hb dX7_week_146 (by decide) ?_
            refine lv_idiv hx hb dX7_week_148 (by decide) ?_
            refine kb_rw (y := nI (drawN x1.toNatClampNeg k / 8)) (pk_div (d := 8) (by omega) (by decide) (by decide)) ?_
            refine lv_iconst (v := 2) hx hb dX7_week_149 (by decide) ?_
            refine lv_irem hx hb dX7_week_150 (by decide) ?_
            refine kb_rw (y := nI (drawN x1.toNatClampNeg k / 8 % 2)) (pk_rem (d := 2) (by omega) (by decide) (by decide)) ?_
            refine lv_iconst (v := 1) hx hb dX7_week_151 (by decide) ?_
            refine lv_icmp_ne (tgt := 159) hx hb dX7_week_152 (by decide) (fun c_152 => absurd (c_128) c_152) (fun c_152 => ?_)
            refine lv_iconst (v := 1) hx hb dX7_week_155 (by decide) ?_
            refine lv_goto (tgt := 160) hx hb dX7_week_156 (by decide) ?_
            refine kcV_s hx hb hml hown hts hX hP hD hS (c_X7_walks l G a (setA (setA (setA v 10 E10a) 13 V) 14 E14a) (wk_i ln x1.toNatClampNeg k) (S (546 + (wk_i ln x1.toNatClampNeg k))) 1 (wkN (v.1 3) (v.1 8) (v.1 5) (v.1 4) (wk_i ln x1.toNatClampNeg k) (S (546 + wk_i ln x1.toNatClampNeg k)) 1 (E10a, E14a)) (by omega) hD8 hR (by have h := hdy.2; rw [hw1, hz] at h; exact h)) gX7_week_X7_walks 3 rfl rfl rfl hd_X7_walks ⟨Nat.le_of_ble_eq_true rfl, Nat.le_of_ble_eq_true rfl⟩ [0] (by decide) rfl 0 rfl rfl rfl hl.1 rfl rfl (Nat.le_of_ble_eq_true rfl) dX7_week_160 ⟨Nat.zero_le _, Nat.zero_le _⟩ (fun r_ bc_ hq_6 H locs hP hD hS => ?_)
            obtain ⟨rfl, rfl⟩ := hq_6
            have hP : PP G [bX7 a G (setA (setA (setA (setA (setA v 10 E10a) 13 V) 14 E14a) 10 ((g_walked ((v.1 3)) ((v.1 8)) ((v.1 5)) ((v.1 4)) (wk_i ln x1.toNatClampNeg k) (S (546 + (wk_i ln x1.toNatClampNeg k))) 1 (E10a, E14a) (wkN (v.1 3) (v.1 8) (v.1 5) (v.1 4) (wk_i ln x1.toNatClampNeg k) (S (546 + wk_i ln x1.toNatClampNeg k)) 1 (E10a, E14a))).1)) 14 ((g_walked ((v.1 3)) ((v.1 8)) ((v.1 5)) ((v.1 4)) (wk_i ln x1.toNatClampNeg k) (S (546 + (wk_i ln x1.toNatClampNeg k))) 1 (E10a, E14a) (wkN (v.1 3) (v.1 8) (v.1 5) (v.1 4) (wk_i ln x1.toNatClampNeg k) (S (546 + wk_i ln x1.toNatClampNeg k)) 1 (E10a, E14a))).2))] H := hP
            have hD : DD (AA (List.flatten [bX7 a G v])) [bX7 a G (setA (setA (setA (setA (setA v 10 E10a) 13 V) 14 E14a) 10 ((g_walked ((v.1 3)) ((v.1 8)) ((v.1 5)) ((v.1 4)) (wk_i ln x1.toNatClampNeg k) (S (546 + (wk_i ln x1.toNatClampNeg k))) 1 (E10a, E14a) (wkN (v.1 3) (v.1 8) (v.1 5) (v.1 4) (wk_i ln x1.toNatClampNeg k) (S (546 + wk_i ln x1.toNatClampNeg k)) 1 (E10a, E14a))).1)) 14 ((g_walked ((v.1 3)) ((v.1 8)) ((v.1 5)) ((v.1 4)) (wk_i ln x1.toNatClampNeg k) (S (546 + (wk_i ln x1.toNatClampNeg k))) 1 (E10a, E14a) (wkN (v.1 3) (v.1 8) (v.1 5) (v.1 4) (wk_i ln x1.toNatClampNeg k) (S (546 + wk_i ln x1.toNatClampNeg k)) 1 (E10a, E14a))).2))] := D_re hD (adc (bX7_ad _ _ _ _) adn)
            obtain ⟨E10b, hE10b⟩ : ∃ E : Nat → Int32, E = (g_walked ((v.1 3)) ((v.1 8)) ((v.1 5)) ((v.1 4)) (wk_i ln x1.toNatClampNeg k) (S (546 + (wk_i ln x1.toNatClampNeg k))) 1 (E10a, E14a) (wkN (v.1 3) (v.1 8) (v.1 5) (v.1 4) (wk_i ln x1.toNatClampNeg k) (S (546 + wk_i ln x1.toNatClampNeg k)) 1 (E10a, E14a))).1 := ⟨_, rfl⟩
            obtain ⟨E14b, hE14b⟩ : ∃ E : Nat → Int32, E = (g_walked ((v.1 3)) ((v.1 8)) ((v.1 5)) ((v.1 4)) (wk_i ln x1.toNatClampNeg k) (S (546 + (wk_i ln x1.toNatClampNeg k))) 1 (E10a, E14a) (wkN (v.1 3) (v.1 8) (v.1 5) (v.1 4) (wk_i ln x1.toNatClampNeg k) (S (546 + wk_i ln x1.toNatClampNeg k)) 1 (E10a, E14a))).2 := ⟨_, rfl⟩
            have hP : PP G [bX7 a G (setA (setA (setA v 10 E10b) 13 V) 14 E14b)] H := by
              rw [hE10b, hE14b]
              try simp only [ov_n1, ov_m1, ov_nc, ov_mc, ov_c] at hP ⊢
              exact hP
            have hD : DD (AA (List.flatten [bX7 a G v])) [bX7 a G (setA (setA (setA v 10 E10b) 13 V) 14 E14b)] := D_re hD (adc (bX7_ad _ _ _ _) adn)
            have hw2 : wk2 v ln x1.toNatClampNeg k (S, F, V) = (E10b, E14b) := by rw [hE10b, hE14b]; unfold wk2; rw [hw1, hz]
            refine lv_aload_n hx hb dX7_week_163 rfl (lv_at hl 5 rfl) ?_
            refine lv_bipush (v := 11) hx hb dX7_week_164 (by decide) ?_
            refine kcV_s hx hb hml hown hts hX hP hD hS (c_X7_nights l G a (setA (setA (setA v 10 E10b) 13 V) 14 E14b) 11 (by omega) hD8 hL4 hRx) gX7_week_X7_nights 1 rfl rfl rfl hd_X7_nights ⟨Nat.le_of_ble_eq_true rfl, Nat.le_of_ble_eq_true rfl⟩ [0] (by decide) rfl 0 rfl rfl rfl hl.1 rfl rfl (Nat.le_of_ble_eq_true rfl) dX7_week_166 ⟨Nat.zero_le _, Nat.zero_le _⟩ (fun r_ bc_ hq_7 H locs hP hD hS => ?_)
            obtain ⟨rfl, rfl⟩ := hq_7
            have hP : PP G [bX7 a G (setA (setA (setA (setA (setA v 10 E10b) 13 V) 14 E14b) 13 (g_was (E10b) (V) 11)) 10 (g_nights ((v.1 3)) ((v.1 5)) ((v.1 7)) ((v.1 4)) ((v.1 6)) (E10b) (V) 11))] H := hP
            have hD : DD (AA (List.flatten [bX7 a G v])) [bX7 a G (setA (setA (setA (setA (setA v 10 E10b) 13 V) 14 E14b) 13 (g_was (E10b) (V) 11)) 10 (g_nights ((v.1 3)) ((v.1 5)) ((v.1 7)) ((v.1 4)) ((v.1 6)) (E10b) (V) 11))] := D_re hD (adc (bX7_ad _ _ _ _) adn)
            obtain ⟨E10c, hE10c⟩ : ∃ E : Nat → Int32, E = g_nights ((v.1 3)) ((v.1 5)) ((v.1 7)) ((v.1 4)) ((v.1 6)) (E10b) (V) 11 := ⟨_, rfl⟩
            obtain ⟨E13c, hE13c⟩ : ∃ E : Nat → Int32, E = g_was (E10b) (V) 11 := ⟨_, rfl⟩
            have hP : PP G [bX7 a G (setA (setA (setA v 10 E10c) 13 E13c) 14 E14b)] H := by
              rw [hE10c, hE13c]
              try simp only [ov_n1, ov_m1, ov_nc, ov_mc, ov_c] at hP ⊢
              exact hP
            have hD : DD (AA (List.flatten [bX7 a G v])) [bX7 a G (setA (setA (setA v 10 E10c) 13 E13c) 14 E14b)] := D_re hD (adc (bX7_ad _ _ _ _) adn)
            refine lv_iinc (v := nI (k + 1)) (lv' := [(4, .int (nI (k + 1))), (9, .int (S (546 + (wk_i ln x1.toNatClampNeg k)))), (8, .int (nI (wk_i ln x1.toNatClampNeg k))), (7, .int (nI (drawN x1.toNatClampNeg k))), (5, .long (((7919 * ((nI x1.toNatClampNeg : Int32).toInt64)) + (6151 * ((nI k : Int32).toInt64))) + 1)), (0, .ref (a 0)), (1, .int x1), (2, .int x2), (3, .int x3)]) hx hb dX7_week_169 hl (k := 4) rfl (nI_1 _) (by decide) rfl (fun ls hl => ?_)
            refine lv_goto (tgt := 46) hx hb dX7_week_172 (by decide) ?_
            have hP : PP G [bX7 a G (setA (setA (setA v 10 E10c) 13 E13c) 14 E14b)] H := hP
            have hD : DD (AA (List.flatten [bX7 a G v])) [bX7 a G (setA (setA (setA v 10 E10c) 13 E13c) 14 E14b)] := D_re hD (adc (bX7_ad _ _ _ _) adn)
            exact ih_46 E10c E14b E13c _ _ _ hP hD hS (show lv_has ls 10 [(4, .int (nI (k + 1))), (0, .ref (a 0)), (1, .int x1), (2, .int x2), (3, .int x3)] from lv_sub hl [0, 5, 6, 7, 8] rfl) (by rw [g_week, itN_s, ← g_week, hs, s_week, hw2, hE10c, hE13c])
      · have c_31 := b2i_fN c_31r
        refine lv_iconst (v := (-1)) hx hb dX7_week_34 (by decide) ?_
        have hP : PP G [bX7 a G (g_weekV v ln x1 x2 x3)] H := by
          simp only [g_weekV, if_pos c_9, if_pos c_21, if_neg c_31]
          exact hP
        exact kr_si hx hb hr hlocks dX7_week_35 hP hS (sameAd_cons (bX7_ad _ _ _ _) sameAd_nil) ⟨by simp only [g_weekR, if_pos c_9, if_pos c_21, if_neg c_31], rfl⟩
