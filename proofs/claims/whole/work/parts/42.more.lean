/-! more questions -/
section AM
variable {q : PN} {vt vn vp v : OV} {hvu hvk : Nat → OV} {nu nk : Nat}
theorem RelQ.stop (h : RelQ q vt vn vp hvu nu hvk nk v) (n d i g : Int32) : RelQ q vt vn vp hvu nu hvk nk (g_stopV v n d i g) := by
  have hR := h
  obtain ⟨hq, hw, hv, ⟨h, hh, hu, hS⟩, hU, hK, ht⟩ := hR
  rename RelQ q vt vn vp hvu nu hvk nk v => hR
  have h8 := hq.2.1.2
  have h4 := hq.2.2.1.2
  have h2 := two_le h8
  have eg : gIn g.toInt64 1 99 = fWithin g 1 99 := gIn32 g 1 99
  rw [g_stopV, behind_d, (dmD hw hv hq d).1, (dmL hw hv hq i).1, eg, nsets hv hq]
  by_cases g1 : fWithin n 0 60 = true
  · obtain ⟨n, _, hn, rfl⟩ := wx (a := 0) (b := 60) rfl rfl (by decide) (by decide) g1
    rw [if_pos g1]
    by_cases g2 : fIn d (nI (q.2 9)) = true
    · obtain ⟨d, hd, rfl⟩ := (fIn_iff (by omega)).mp g2
      rw [if_pos g2]
      by_cases g3 : fIn i (nI (q.2 10)) = true
      · obtain ⟨i, hi, rfl⟩ := (fIn_iff (by omega)).mp g3
        rw [if_pos g3]
        by_cases g4 : fWithin g 1 99 = true
        · obtain ⟨g, _, hg, rfl⟩ := wx (a := 1) (b := 99) rfl rfl (by decide) (by decide) g4
          rw [if_pos g4]
          exact hR.s1310 _ (r_stop hq hv hh hS hn hd hi hg _ h2).2.2
        · rw [if_neg g4]; exact hR
      · rw [if_neg g3]; exact hR
    · rw [if_neg g2]; exact hR
  · rw [if_neg g1]; exact hR
theorem a_stop (h : RelQ q vt vn vp hvu nu hvk nk v) (vr : OV) (n d i g : Int32) : f_stopR vp vn vr n d i g = g_stopR v n d i g := by
  obtain ⟨hq, hw, hv, ⟨h, hh, hu, hS⟩, hU, hK, ht⟩ := h
  have h8 := hq.2.1.2
  have h4 := hq.2.2.1.2
  have h2 := two_le h8
  have eg : gIn g.toInt64 1 99 = fWithin g 1 99 := gIn32 g 1 99
  rw [f_stopR, g_stopR, okStop, behind_d, (dmD hw hv hq d).1, (dmD hw hv hq d).2, (dmL hw hv hq i).1, (dmL hw hv hq i).2, eg, nsets hv hq]
  by_cases g1 : fWithin n 0 60 = true
  · obtain ⟨n, _, hn, rfl⟩ := wx (a := 0) (b := 60) rfl rfl (by decide) (by decide) g1
    rw [if_pos g1, if_pos g1]
    by_cases g2 : fIn d (nI (q.2 9)) = true
    · obtain ⟨d, hd, rfl⟩ := (fIn_iff (by omega)).mp g2
      rw [if_pos g2, if_pos g2]
      by_cases g3 : fIn i (nI (q.2 10)) = true
      · obtain ⟨i, hi, rfl⟩ := (fIn_iff (by omega)).mp g3
        rw [if_pos g3, if_pos g3]
        by_cases g4 : fWithin g 1 99 = true
        · obtain ⟨g, _, hg, rfl⟩ := wx (a := 1) (b := 99) rfl rfl (by decide) (by decide) g4
          rw [if_pos g4, if_pos g4, cnd_t rfl, (r_stop hq hv hh hS hn hd hi hg _ h2).1]
          exact congrArg optI (best_one (c_stop hq hw hh hu hn hd hi hg vr) (stepB_ok _))
        · rw [if_neg g4, if_neg g4, cnd_f rfl]
      · rw [if_neg g3, if_neg g3, cnd_f rfl]
    · rw [if_neg g2, if_neg g2, cnd_f rfl]
  · rw [if_neg g1, if_neg g1, cnd_f rfl]
theorem rm_dom {x : Int32} {L : Nat} (h1 : 1 ≤ L) (h4 : L ≤ 4) : gIn x.toInt64 (-1) (nI L - 1).toInt64 = (if x = -1 then true else if fIn x (nI L) = true then true else false) := by
  rw [Bool.eq_iff_iff]
  have em : (-1 : Int32).toInt = -1 := by decide
  constructor
  · intro h
    by_cases g : x = -1
    · rw [if_pos g]
    · rw [if_neg g]
      have hx : 0 ≤ x := by
        have h1 : gIn x.toInt64 (-1 : Int32).toInt64 (nI L - 1).toInt64 = true := h
        rw [gIn_iff, Int64.le_iff_toInt_le, Int64.le_iff_toInt_le, Int32.toInt_toInt64, Int32.toInt_toInt64, Int32.toInt_toInt64] at h1
        rw [Int32.le_iff_toInt_le, show (0 : Int32).toInt = 0 by decide]
        have : x.toInt ≠ -1 := fun e => g (Int32.toInt_inj.mp (e.trans em.symm))
        omega
      have := rm_ix h h4 hx
      rw [if_pos ((fIn_iff (by omega)).mpr ⟨_, this.2, (nI_cl this.1).symm⟩)]
  · intro h
    show gIn x.toInt64 (-1 : Int32).toInt64 (nI L - 1).toInt64 = true
    obtain ⟨m, rfl⟩ : ∃ m, L = m + 1 := ⟨L - 1, by omega⟩
    rw [gIn_iff, Int64.le_iff_toInt_le, Int64.le_iff_toInt_le, Int32.toInt_toInt64, Int32.toInt_toInt64, Int32.toInt_toInt64, nI_pred, nI_toInt (by omega), em]
    by_cases g : x = -1
    · rw [g, em]; omega
    · rw [if_neg g] at h
      by_cases g2 : fIn x (nI (m + 1)) = true
      · obtain ⟨j, hj, rfl⟩ := (fIn_iff (by omega)).mp g2
        rw [nI_toInt (by omega)]; omega
      · rw [if_neg g2] at h; cases h
theorem RelQ.rooms (h : RelQ q vt vn vp hvu nu hvk nk v) (x : Int32) : RelQ q vt vn vp hvu nu hvk nk (g_roomsV v (q.2 8) (q.2 10) x) := by
  have hR := h
  obtain ⟨hq, hw, hv, ⟨h, hh, hu, hS⟩, hU, hK, ht⟩ := hR
  rename RelQ q vt vn vp hvu nu hvk nk v => hR
  unfold g_roomsV
  split
  · obtain ⟨-, r1, r2⟩ := r_roomsN hq hv hh hS (q.2 8 ^ q.2 10)
    exact hR.mk ⟨⟨r1 1 (by decide) (by decide) (by decide), r1 3 (by decide) (by decide) (by decide), r1 4 (by decide) (by decide) (by decide), r1 5 (by decide) (by decide) (by decide), r1 6 (by decide) (by decide) (by decide), r1 7 (by decide) (by decide) (by decide), r1 8 (by decide) (by decide) (by decide), r1 9 (by decide) (by decide) (by decide)⟩, r2 0 (by decide)⟩ (fun j _ => congrFun (r1 10 (by decide) (by decide) (by decide)) j) ⟨r2 11 (by decide), r2 12 (by decide)⟩
  · exact hR
theorem a_rooms (h : RelQ q vt vn vp hvu nu hvk nk v) (vy vm : OV) (x : Int32) : f_roomsR vp vn vy vm x = g_roomsR v (q.2 8) (q.2 10) x := by
  obtain ⟨hq, hw, hv, ⟨h, hh, hu, hS⟩, hU, hK, ht⟩ := h
  have h4 := hq.2.2.1
  have hb := (r_roomsN hq hv hh hS (q.2 8 ^ q.2 10)).1
  have hc := c_rooms hq hw hh hu (y := vy) vm
  have hB : itN (fun c => stepR q h (q.2 10) (rowC (q.2 8) (q.2 10) c)) none (q.2 8 ^ q.2 10) = bestR q h := rfl
  rw [hB] at hb
  have ed : gIn x.toInt64 (-1) (v.1 7 0 - 1).toInt64 = okRooms vp x := by
    rw [hv.2.2.2.2.2.1, rm_dom h4.1 h4.2, okRooms, (dmL hw hv hq x).2]
  rw [f_roomsR, g_roomsR, ed]
  cases eo : okRooms vp x with
  | false => rw [cnd_f rfl, if_neg (by decide)]
  | true =>
    rw [cnd_t rfl, if_pos rfl]
    rcases hc with ⟨c1, c2⟩ | ⟨c, p, c1, c2, c3, c4, c5⟩
    · rw [c2] at hb
      rw [if_neg (show ¬ (0 : Int32) ≤ f_X3_bestCode _ from fun e => absurd (Int32.lt_of_le_of_lt e c1) (by decide)), (show (g_roomsU v (q.2 8) (q.2 10) (q.2 8 ^ q.2 10)).2 17 = -1 from hb), if_neg (by decide)]
    · rw [c1] at hb
      obtain ⟨b1, b2, b3⟩ := hb
      rw [c2, b2, if_pos (show (0 : Int32) ≤ nI c from nI_le (a := 0) (Nat.zero_le _) c3), if_pos (show (0 : Int32) ≤ nI p.1 from nI_le (a := 0) (Nat.zero_le _) (by omega)), c4]
      rw [okRooms] at eo
      by_cases g : x = -1
      · rw [g, if_neg (by decide), if_neg (by decide)]
      · rw [if_neg g, (dmL hw hv hq x).2] at eo
        by_cases g2 : fIn x (nI (q.2 10)) = true
        · obtain ⟨j, hj, rfl⟩ := (fIn_iff (by omega)).mp g2
          rw [if_pos (show (0 : Int32) ≤ nI j from nI_le (a := 0) (Nat.zero_le _) (by omega)), if_pos (show (0 : Int32) ≤ nI j from nI_le (a := 0) (Nat.zero_le _) (by omega)), c5 j hj, nI_clamp (by omega), b3 j hj]
        · rw [if_neg g2] at eo; cases eo
theorem a_how (h : RelQ q vt vn vp hvu nu hvk nk v) (i d k m w : Int32) : f_howR vp i d k m w = g_howR v i d k m w := by
  obtain ⟨hq, hw, hv, -, hU, hK, ht⟩ := h
  have h8 := hq.2.1.2
  have h4 := hq.2.2.1.2
  have ek : gIn k.toInt64 0 8 = fWithin k 0 8 := gIn32 k 0 8
  have em : gIn m.toInt64 1 100 = fWithin m 1 100 := gIn32 m 1 100
  have ew : gIn w.toInt64 0 1 = fWithin w 0 1 := gIn32 w 0 1
  rw [f_howR, g_howR, okHow, (dmD hw hv hq d).1, (dmD hw hv hq d).2, (dmL hw hv hq i).1, (dmL hw hv hq i).2, ek, em, ew]
  by_cases g2 : fIn i (nI (q.2 10)) = true
  · obtain ⟨i, hi, rfl⟩ := (fIn_iff (by omega)).mp g2
    rw [if_pos g2, if_pos g2]
    by_cases g3 : fIn d (nI (q.2 9)) = true
    · obtain ⟨d, hd, rfl⟩ := (fIn_iff (by omega)).mp g3
      rw [if_pos g3, if_pos g3]
      by_cases g4 : fWithin k 0 8 = true
      · obtain ⟨k, _, hk, rfl⟩ := wx (a := 0) (b := 8) rfl rfl (by decide) (by decide) g4
        rw [if_pos g4, if_pos g4]
        by_cases g5 : fWithin m 1 100 = true
        · obtain ⟨m, _, hm, rfl⟩ := wx (a := 1) (b := 100) rfl rfl (by decide) (by decide) g5
          rw [if_pos g5, if_pos g5]
          by_cases g6 : fWithin w 0 1 = true
          · rw [if_pos g6, if_pos g6, if_pos rfl]
            have h2 := two_le hk
            obtain ⟨f, x, b1, b2, b3, b4, b5⟩ := how_n hq hw hv (m := m) hd hi hk (2 ^ k) h2
            rw [f_how, sets_n k (by omega), nI_clamp (by omega), b2, b4]
            by_cases g7 : w = 0
            · rw [if_pos g7, if_pos g7]
            · rw [if_neg g7, if_neg g7]
              show (if nI f ≤ 0 then -4 else nI x) = if f = 0 then -4 else nI x
              by_cases g8 : f = 0
              · rw [if_pos g8, g8, if_pos (by decide)]
              · rw [if_neg g8, if_neg (fun e => by have := (nI_leI (by omega) (by decide) : nI f ≤ nI 0 ↔ f ≤ 0).mp e; omega)]
          · rw [if_neg g6, if_neg g6, if_neg (by decide)]
        · rw [if_neg g5, if_neg g5, if_neg (by decide)]
      · rw [if_neg g4, if_neg g4, if_neg (by decide)]
    · rw [if_neg g3, if_neg g3]
  · rw [if_neg g2, if_neg g2]
theorem a_fresh (h : RelQ q vt vn vp hvu nu hvk nk v) (d : Int32) : f_freshR vp vn d = g_freshR v d := by
  obtain ⟨hq, hw, hv, ⟨h, hh, hu, hS⟩, hU, hK, ht⟩ := h
  have h8 := hq.2.1.2
  rw [f_freshR, g_freshR, (dmD hw hv hq d).1, (dmD hw hv hq d).2, hw.2.2.2.2.1, hv.2.2.2.2.1, nI_clamp (by omega)]
  by_cases g : d = -1
  · rw [if_pos g, if_pos g, g, if_pos (by decide)]
    exact (fresh_n hq hw hv hu hS _ (Nat.le_refl _)).1
  · rw [if_neg g, if_neg g]
    by_cases g2 : fIn d (nI (q.2 9)) = true
    · obtain ⟨j, hj, rfl⟩ := (fIn_iff (by omega)).mp g2
      rw [if_pos g2, if_pos g2, if_neg (nI_pos (by omega)), nI_clamp (by omega)]
      exact news_eq hq hw hv hu hS hj
    · rw [if_neg g2, if_neg g2]
theorem RelQ.week (h : RelQ q vt vn vp hvu nu hvk nk v) (z n w : Int32) : RelQ q vt vn vp hvu nu hvk nk (g_weekV v (q.2 10) z n w) := by
  have hR := h
  obtain ⟨hq, hw, hv, ⟨h, hh, hu, hS⟩, hU, hK, ht⟩ := hR
  rename RelQ q vt vn vp hvu nu hvk nk v => hR
  unfold g_weekV
  split
  · split
    · split
      · exact hR.mk ⟨⟨rfl, rfl, rfl, rfl, rfl, rfl, rfl, rfl⟩, rfl⟩ (r_week hq hv hh hS z.toNatClampNeg n.toNatClampNeg).2 ⟨rfl, rfl⟩
      · exact hR
    · exact hR
  · exact hR
theorem a_week (h : RelQ q vt vn vp hvu nu hvk nk v) (vr vy : OV) (z n w : Int32) : f_weekR vp vn vr vy z n w = g_weekR v (q.2 10) z n w := by
  obtain ⟨hq, hw, hv, ⟨h, hh, hu, hS⟩, hU, hK, ht⟩ := h
  have ez : gIn z.toInt64 0 9999 = fWithin z 0 9999 := gIn32 z 0 9999
  have en : gIn n.toInt64 1 60 = fWithin n 1 60 := gIn32 n 1 60
  have ew : gIn w.toInt64 0 1 = fWithin w 0 1 := gIn32 w 0 1
  rw [f_weekR, g_weekR, okWeek, ez, en, ew]
  by_cases g1 : fWithin z 0 9999 = true
  · obtain ⟨z, _, hz, rfl⟩ := wx (a := 0) (b := 9999) rfl rfl (by decide) (by decide) g1
    rw [if_pos g1, if_pos g1]
    by_cases g2 : fWithin n 1 60 = true
    · obtain ⟨n, _, hn, rfl⟩ := wx (a := 1) (b := 60) rfl rfl (by decide) (by decide) g2
      rw [if_pos g2, if_pos g2]
      by_cases g3 : fWithin w 0 1 = true
      · rw [if_pos g3, if_pos g3, cnd_t rfl, nI_clamp (by omega), nI_clamp (by omega)]
        have c := c_week hq hw hh hu hz vr vy n hn
        have r := (r_week hq hv hh hS z n).1
        by_cases g4 : w = 0
        · rw [if_pos g4, if_pos g4, c.2.2.2.2.1, hu.2.2.2.2.1, (show (g_week v (q.2 10) z n).1 550 = _ from r.2.2.2.1)]
          have s44 : (g_week v (q.2 10) z n).1 44 = v.1 10 44 := (r_week hq hv hh hS z n).2 44 (by decide)
          rw [s44, (show v.1 10 44 = _ from hS.2.2.2.1)]
        · rw [if_neg g4, if_neg g4, c_all hq hw c, r_all hq hv r]
      · rw [if_neg g3, if_neg g3, cnd_f rfl]
    · rw [if_neg g2, if_neg g2, cnd_f rfl]
  · rw [if_neg g1, if_neg g1, cnd_f rfl]
end AM
