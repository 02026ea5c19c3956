/-! the questions -/
section AK
variable {q : PN} {vt vn vp v : OV} {hvu hvk : Nat → OV} {nu nk : Nat}
theorem wx {x : Int32} {a b : Nat} {A B : Int32} (hA : A = nI a) (hB : B = nI b) (hb : b < 2 ^ 31) (hab : a ≤ b) (h : fWithin x A B = true) : ∃ j, a ≤ j ∧ j ≤ b ∧ x = nI j := by
  subst hA hB
  exact within_ex hb hab h
theorem RelQ.mk {v' : OV} (h : RelQ q vt vn vp hvu nu hvk nk v) (hs : Sm v v') (hS : sameS (v'.1 10) (v.1 10)) (h2 : v'.2 11 = v.2 11 ∧ v'.2 12 = v.2 12) : RelQ q vt vn vp hvu nu hvk nk v' := h.fr hs hS h2.1 h2.2
theorem sS_rf (S : Nat → Int32) : sameS S S := fun _ _ => rfl
theorem sm14 (v : OV) (F : Nat → Int32) : Sm v (setA v 14 F) := ⟨⟨rfl, rfl, rfl, rfl, rfl, rfl, rfl, rfl⟩, rfl⟩
theorem sm1310 (v : OV) (F X : Nat → Int32) : Sm v (setA (setA v 13 F) 10 X) := ⟨⟨rfl, rfl, rfl, rfl, rfl, rfl, rfl, rfl⟩, rfl⟩
theorem RelQ.s14 (h : RelQ q vt vn vp hvu nu hvk nk v) (F : Nat → Int32) : RelQ q vt vn vp hvu nu hvk nk (setA v 14 F) := h.mk (sm14 v F) (sS_rf _) ⟨rfl, rfl⟩
theorem RelQ.s1310 (h : RelQ q vt vn vp hvu nu hvk nk v) (F : Nat → Int32) {X : Nat → Int32} (hX : sameS X (v.1 10)) : RelQ q vt vn vp hvu nu hvk nk (setA (setA v 13 F) 10 X) := h.mk (sm1310 v F X) hX ⟨rfl, rfl⟩
theorem RelQ.way (h : RelQ q vt vn vp hvu nu hvk nk v) (x y z : Int32) : RelQ q vt vn vp hvu nu hvk nk (g_wayV v x y z) := by
  unfold g_wayV
  split
  · split
    · split
      · exact h.s14 _
      · exact h
    · exact h
  · exact h
theorem a_way (h : RelQ q vt vn vp hvu nu hvk nk v) (vy : OV) (x y z : Int32) : f_wayR vp vn vy x y z = g_wayR v x y z := by
  obtain ⟨hq, hw, hv, ⟨h, hh, hu, hS⟩, hU, hK, ht⟩ := h
  have h8 := hq.2.1.2
  have h4 := hq.2.2.1.2
  have h6 := hq.1.2
  rw [f_wayR, g_wayR, (dmL hw hv hq x).1, (dmL hw hv hq x).2, (dmR hw hv hq y).1, (dmR hw hv hq y).2, (dmR hw hv hq z).1, (dmR hw hv hq z).2]
  by_cases g1 : fIn x (nI (q.2 10)) = true
  · obtain ⟨i, hi, rfl⟩ := (fIn_iff (by omega)).mp g1
    by_cases g2 : fIn y (nI (q.2 8)) = true
    · obtain ⟨a, ha, rfl⟩ := (fIn_iff (by omega)).mp g2
      by_cases g3 : fIn z (nI (q.2 8)) = true
      · obtain ⟨b, hb, rfl⟩ := (fIn_iff (by omega)).mp g3
        rw [if_pos g1, if_pos g1, if_pos g2, if_pos g2, if_pos g3, if_pos g3, nI_clamp (by omega), nI_clamp (by omega), r_wayOf hq hv hh hS hi (by omega) (by omega), show (0 : Int32) = nI 0 from rfl, c_minutes hq hw hh hu hi (by decide) (by omega) (by omega)]
      · rw [if_pos g1, if_pos g1, if_pos g2, if_pos g2, if_neg g3, if_neg g3]
    · rw [if_pos g1, if_pos g1, if_neg g2, if_neg g2]
  · rw [if_neg g1, if_neg g1]
theorem a_first (h : RelQ q vt vn vp hvu nu hvk nk v) (vy : OV) (x y z : Int32) : f_firstR vp vn vy x y z = g_firstR v x y z := by
  obtain ⟨hq, hw, hv, ⟨h, hh, hu, hS⟩, hU, hK, ht⟩ := h
  have h8 := hq.2.1.2
  have h4 := hq.2.2.1.2
  have h6 := hq.1.2
  rw [f_firstR, g_firstR, (dmL hw hv hq x).1, (dmL hw hv hq x).2, (dmR hw hv hq y).1, (dmR hw hv hq y).2, (dmR hw hv hq z).1, (dmR hw hv hq z).2]
  by_cases g1 : fIn x (nI (q.2 10)) = true
  · obtain ⟨i, hi, rfl⟩ := (fIn_iff (by omega)).mp g1
    by_cases g2 : fIn y (nI (q.2 8)) = true
    · obtain ⟨a, ha, rfl⟩ := (fIn_iff (by omega)).mp g2
      by_cases g3 : fIn z (nI (q.2 8)) = true
      · obtain ⟨b, hb, rfl⟩ := (fIn_iff (by omega)).mp g3
        rw [if_pos g1, if_pos g1, if_pos g2, if_pos g2, if_pos g3, if_pos g3, nI_clamp (by omega), nI_clamp (by omega), r_firstOf hq hv hh hS hi (by omega) (by omega), c_lowest hq hw hh hu hi (by omega) (by omega)]
      · rw [if_pos g1, if_pos g1, if_pos g2, if_pos g2, if_neg g3, if_neg g3]
    · rw [if_pos g1, if_pos g1, if_neg g2, if_neg g2]
  · rw [if_neg g1, if_neg g1]
theorem cnd_t {α : Type} {b : Bool} {x y : α} (h : b = true) : cnd b x y = x := if_pos h
theorem cnd_f {α : Type} {b : Bool} {x y : α} (h : b = false) : cnd b x y = y := if_neg (fun e => by rw [h] at e; cases e)
theorem nsets (hv : RP q v) (hq : POk q) : (n_sets v).toNatClampNeg = 2 ^ q.2 9 := by
  have h8 := hq.2.1.2
  have := two_le h8
  rw [n_sets, hv.2.2.2.2.1, sets_n _ (by omega), nI_clamp (by omega)]
theorem RelQ.inTime (h : RelQ q vt vn vp hvu nu hvk nk v) (x m : Int32) : RelQ q vt vn vp hvu nu hvk nk (g_inTimeV v x m) := by
  unfold g_inTimeV
  split
  · split
    · exact h.s14 _
    · exact h
  · exact h
theorem a_inTime (h : RelQ q vt vn vp hvu nu hvk nk v) (vy : OV) (x m : Int32) : f_inTimeR vp vn vy x m = g_inTimeR v x m := by
  obtain ⟨hq, hw, hv, ⟨h, hh, hu, hS⟩, hU, hK, ht⟩ := h
  have h8 := hq.2.1.2
  have h4 := hq.2.2.1.2
  have h2 := two_le h8
  have em : gIn m.toInt64 0 600 = fWithin m 0 600 := gIn32 m 0 600
  rw [f_inTimeR, g_inTimeR, okInT, (dmL hw hv hq x).1, (dmL hw hv hq x).2, em, nsets hv hq]
  by_cases g1 : fIn x (nI (q.2 10)) = true
  · obtain ⟨i, hi, rfl⟩ := (fIn_iff (by omega)).mp g1
    rw [if_pos g1, if_pos g1]
    by_cases g2 : fWithin m 0 600 = true
    · obtain ⟨j, hj0, hj, rfl⟩ := wx (a := 0) (b := 600) rfl rfl (by decide) (by decide) g2
      rw [if_pos g2, if_pos g2, cnd_t rfl, r_inTime hq hv hh hS hi hj _ h2]
      exact congrArg optI (best_one (c_inTime hq hw hh hu hi hj vy) (stepB_ok _))
    · rw [if_neg g2, if_neg g2, cnd_f rfl]
  · rw [if_neg g1, if_neg g1, cnd_f rfl]
theorem behind_d {x : Int32} : g_isBehind x = fWithin x 0 60 := gIn32 x 0 60
theorem bh_n (hq : POk q) (hv : RP q v) {h : HN} (hh : HOk q h) (hS : RH q h 0 (v.1 10)) {n : Nat} (hn : n ≤ 60) : RH q (nightsM q h n) 11 (g_bh v (nI n) 0).1 ∧ sameS (g_bh v (nI n) 0).1 (v.1 10) := by
  have := r_behinds hq hv hh (v.1 13) hS (o := 0) (by decide) hn
  rw [oilM_0] at this
  exact this
theorem bh_r (h : RelQ q vt vn vp hvu nu hvk nk v) {n : Int32} (hn : fWithin n 0 60 = true) : RelQ q vt vn vp hvu nu hvk nk (setA (setA v 13 (g_bh v n 0).2) 10 (g_bh v n 0).1) := by
  obtain ⟨j, hj0, hj, rfl⟩ := wx (a := 0) (b := 60) rfl rfl (by decide) (by decide) hn
  have h' := h
  obtain ⟨hq, hw, hv, ⟨h, hh, hu, hS⟩, hU, hK, ht⟩ := h'
  rename_i hh' 
  exact hh'.s1310 _ (bh_n hq hv hh hS hj).2
theorem RelQ.behind (h : RelQ q vt vn vp hvu nu hvk nk v) (n d i : Int32) : RelQ q vt vn vp hvu nu hvk nk (g_behindV v n d i) := by
  unfold g_behindV
  rw [behind_d]
  by_cases g : fWithin n 0 60 = true
  · rw [if_pos g]
    split
    · split
      · exact bh_r h g
      · exact h
    · exact h
  · rw [if_neg g]; exact h
theorem RelQ.worst (h : RelQ q vt vn vp hvu nu hvk nk v) (n i : Int32) : RelQ q vt vn vp hvu nu hvk nk (g_worstV v n i) := by
  unfold g_worstV
  rw [behind_d]
  by_cases g : fWithin n 0 60 = true
  · rw [if_pos g]
    split
    · exact bh_r h g
    · exact h
  · rw [if_neg g]; exact h
theorem a_behind (h : RelQ q vt vn vp hvu nu hvk nk v) (vr : OV) (n d i : Int32) : f_behindR vp vn vr n d i = g_behindR v n d i := by
  obtain ⟨hq, hw, hv, ⟨h, hh, hu, hS⟩, hU, hK, ht⟩ := h
  have h8 := hq.2.1.2
  have h4 := hq.2.2.1.2
  rw [f_behindR, g_behindR, okBeh, behind_d, (dmD hw hv hq d).1, (dmD hw hv hq d).2, (dmL hw hv hq i).1, (dmL hw hv hq i).2]
  by_cases g1 : fWithin n 0 60 = true
  · obtain ⟨n, _, hn, rfl⟩ := wx (a := 0) (b := 60) rfl rfl (by decide) (by decide) g1
    rw [if_pos g1, if_pos g1]
    by_cases g2 : fIn d (nI (q.2 9)) = true
    · obtain ⟨d, hd, rfl⟩ := (fIn_iff (by omega)).mp g2
      rw [if_pos g2, if_pos g2]
      by_cases g3 : fIn i (nI (q.2 10)) = true
      · obtain ⟨i, hi, rfl⟩ := (fIn_iff (by omega)).mp g3
        rw [if_pos g3, if_pos g3, cnd_t rfl, nI_clamp (by omega), nI_clamp (by omega), c_beh hq hw hh hu hn hi vr hd]
        exact ((bh_n hq hv hh hS hn).1.1 d i hd hi).symm
      · rw [if_neg g3, if_neg g3, cnd_f rfl]
    · rw [if_neg g2, if_neg g2, cnd_f rfl]
  · rw [if_neg g1, if_neg g1, cnd_f rfl]
theorem a_worst (h : RelQ q vt vn vp hvu nu hvk nk v) (vr : OV) (n i : Int32) : f_worstR vp vn vr n i = g_worstR v n i := by
  obtain ⟨hq, hw, hv, ⟨h, hh, hu, hS⟩, hU, hK, ht⟩ := h
  have h8 := hq.2.1.2
  have h4 := hq.2.2.1.2
  rw [f_worstR, g_worstR, okWorst, behind_d, (dmL hw hv hq i).1, (dmL hw hv hq i).2, hw.2.2.2.2.1, hv.2.2.2.2.1, nI_clamp (by omega)]
  by_cases g1 : fWithin n 0 60 = true
  · obtain ⟨n, _, hn, rfl⟩ := wx (a := 0) (b := 60) rfl rfl (by decide) (by decide) g1
    rw [if_pos g1, if_pos g1]
    by_cases g3 : fIn i (nI (q.2 10)) = true
    · obtain ⟨i, hi, rfl⟩ := (fIn_iff (by omega)).mp g3
      rw [if_pos g3, if_pos g3, cnd_t rfl, nI_clamp (by omega)]
      exact (worst_n (G := fun d => (nightsM q h n).1 d i) (D := q.2 9) (fun d hd => c_beh hq hw hh hu hn hi vr hd) (fun d hd => (bh_n hq hv hh hS hn).1.1 d i hd hi) _ (Nat.le_refl _)).1
    · rw [if_neg g3, if_neg g3, cnd_f rfl]
  · rw [if_neg g1, if_neg g1, cnd_f rfl]
end AK
