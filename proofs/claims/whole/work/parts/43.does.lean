/-! what is done -/
section DS
variable {q : PN} {vt vn vn' vp v v' : OV} {hvu hvu' hvk : Nat → OV} {nu nu' nk : Nat}
theorem shift_n (S : Nat → Int32) : ∀ n j, itN s_shift S n j = if 138 ≤ j ∧ j < 138 + 46 * n then S (j + 46) else S j
  | 0, j => by rw [if_neg (by omega)]; rfl
  | n + 1, j => by
    rw [itN_s, s_shift, g_copies, copies_n _ _ _ 46 (Nat.le_refl _)]
    by_cases h : 46 * (n + 3) ≤ j ∧ j < 46 * (n + 3) + 46
    · rw [if_pos h, shift_n S n, if_neg (by omega), if_pos (by omega), show 46 * (n + 3 + 1) + (j - 46 * (n + 3)) = j + 46 by omega]
    · rw [if_neg h, shift_n S n]
      by_cases h2 : 138 ≤ j ∧ j < 138 + 46 * n
      · rw [if_pos h2, if_pos (by omega)]
      · rw [if_neg h2, if_neg (by omega)]
theorem known_n (hq : POk q) {S : Nat → Int32} (h0 : HR q vn S 0) (hnu : nu ≤ 8) (hu : ∀ j, j < nu → HR q (hvu j) S (3 + j)) : g_knownD (nI nu) = nI (pushN 8 nu) ∧ pushN 8 nu ≤ 8 ∧ (∀ j, j < pushN 8 nu → HR q (pushH 8 nu hvu vn j) (g_knownS S (nI nu)) (3 + j)) ∧ ∀ j, j < 138 → g_knownS S (nI nu) j = S j := by
  by_cases g : nu = 8
  · subst g
    have eS : g_knownS S (nI 8) = g_copies (itN s_shift S 7) 0 10 := if_pos rfl
    have eN : pushN 8 8 = 8 := rfl
    rw [eS, eN]
    refine ⟨rfl, Nat.le_refl _, fun j hj => ?_, fun j hj => ?_⟩
    · by_cases gj : j = 7
      · subst gj
        have e : pushH 8 8 hvu vn 7 = f_X0_become (rot 8 hvu 7) vn := rfl
        rw [e]
        refine (h0.bc hq _).mv hq (fun k hk => ?_)
        rw [show 46 * (3 + 7) + k = 46 * 10 + k by omega, copies_in _ _ _ hk, shift_n, if_neg (by omega)]
      · have e : pushH 8 8 hvu vn j = hvu (j + 1) := by
          show upF (rot 8 hvu) 7 _ j = _
          rw [upF, if_neg gj, rot, if_pos (by omega)]
        rw [e]
        refine (hu (j + 1) (by omega)).mv hq (fun k hk => ?_)
        rw [copies_out _ _ _ (by omega), shift_n, if_pos (by omega), show 46 * (3 + j) + k + 46 = 46 * (3 + (j + 1)) + k by omega]
    · rw [copies_out _ _ _ (by omega), shift_n, if_neg (by omega)]
  · have g8 : nu < 8 := by omega
    have hne : ¬ nI nu = 8 := nI_ne (c := 8) (by omega) (by decide) g
    have eS : g_knownS S (nI nu) = g_copies S 0 (3 + nu) := by rw [g_knownS, if_neg hne, nI_clamp (by omega)]
    have eN : pushN 8 nu = nu + 1 := if_pos g8
    have eH : pushH 8 nu hvu vn = upF hvu nu (f_X0_become (hvu nu) vn) := if_pos g8
    rw [eS, eN, eH]
    refine ⟨by rw [g_knownD, if_neg hne, nI_1], by omega, fun j hj => ?_, fun j hj => copies_out _ _ _ (by omega)⟩
    by_cases gj : j = nu
    · subst gj
      rw [upF, if_pos rfl]
      exact (h0.bc hq _).mv hq (fun k hk => by rw [copies_in _ _ _ hk])
    · rw [upF, if_neg gj]
      exact (hu j (by omega)).mv hq (fun k hk => by rw [copies_out _ _ _ (by omega)])
theorem RelQ.push (h : RelQ q vt vn vp hvu nu hvk nk v) (hs : Sm v v') {F : Nat → Int32} (h10 : v'.1 10 = F) (hF : ∀ j, 46 ≤ j → F j = g_knownS (v.1 10) (v.2 12) j) (h0 : HR q vn' F 0) (h12 : v'.2 12 = g_knownD (v.2 12)) (h11 : v'.2 11 = v.2 11) : RelQ q vt vn' vp (pushH 8 nu hvu vn) (pushN 8 nu) hvk nk v' := by
  obtain ⟨hq, hw, hv, hn, ⟨u1, u2, u3⟩, ⟨k1, k2, k3⟩, ht⟩ := h
  obtain ⟨p1, p2, p3, p4⟩ := known_n hq hn u1 u3
  rw [u2] at hF h12
  refine ⟨hq, hw, hv.sm hs, by rw [h10]; exact h0, ⟨p2, h12.trans p1, fun j hj => ?_⟩, ⟨k1, h11.trans k2, fun j hj => ?_⟩, ht.sm hs⟩
  · rw [h10]
    exact (p3 j hj).mv hq (fun k hk => hF _ (by omega))
  · rw [h10]
    exact (k3 j hj).mv hq (fun k hk => by rw [hF _ (by omega), p4 _ (by omega)])
theorem known0 (h : RelQ q vt vn vp hvu nu hvk nk v) {m : HN} (hm : RH q m 0 (v.1 10)) : RH q m 0 (g_knownS (v.1 10) (v.2 12)) := by
  obtain ⟨hq, hw, hv, hn, ⟨u1, u2, u3⟩, hK, ht⟩ := h
  obtain ⟨p1, p2, p3, p4⟩ := known_n hq hn u1 u3
  rw [u2]
  exact RH_mv hq.2.1.2 hq.2.2.1.2 (fun k hk => p4 _ (by omega)) hm
theorem okGo_n (hq : POk q) (hw : CP q vp) {m : HN} (hh : HOk q m) (hu : CH q m vn) {i d : Nat} (hi : i < q.2 10) (hd : d < q.2 9) : (0 : Int32) ≤ f_X2_otherSide vp (nI d) (rAt (vn.1 3) 4 (nI i)) ↔ isOfM q d (m.2.2.1 i) := by
  have h8 := hq.2.1.2
  have h4 := hq.2.2.1.2
  have h6 := hq.1.2
  have hr := hh.2.2 i hi
  have hx := hq.2.2.2.2.2.2.2.1 d hd
  rw [rAt_n (by omega) (by decide), hu.2.2.2.1 i hi, c_oth hq hw hd (by omega)]
  unfold isOfM
  by_cases g1 : q.1 0 d = m.2.2.1 i
  · rw [if_pos g1]; exact ⟨fun _ => Or.inl g1, fun _ => nI_le (a := 0) (Nat.zero_le _) (by omega)⟩
  · rw [if_neg g1]
    by_cases g2 : q.1 1 d = m.2.2.1 i
    · rw [if_pos g2]; exact ⟨fun _ => Or.inr g2, fun _ => nI_le (a := 0) (Nat.zero_le _) (by omega)⟩
    · rw [if_neg g2]
      exact ⟨fun e => absurd e (by decide), fun e => by rcases e with e | e
                                                        · exact absurd e g1
                                                        · exact absurd e g2⟩
theorem a_go (h : RelQ q vt vn vp hvu nu hvk nk v) (x y z : Int32) : f_goR vp vn x y = g_goR v x y ∧ RelQ q vt (cnd (okGo vp vn x y) (f_X0_passThrough vn vp x y z) vn) vp (cnd (okGo vp vn x y) (pushH 8 nu hvu vn) hvu) (cnd (okGo vp vn x y) (pushN 8 nu) nu) hvk nk (g_goV v x y z) := by
  have hR := h
  obtain ⟨hq, hw, hv, ⟨m, hh, hu, hS⟩, hU, hK, ht⟩ := h
  have h8 := hq.2.1.2
  have h4 := hq.2.2.1.2
  have h6 := hq.1.2
  rw [f_goR, g_goR, okGo, g_goV, (dmL hw hv hq x).1, (dmL hw hv hq x).2, (dmD hw hv hq y).1, (dmD hw hv hq y).2]
  by_cases g1 : fIn x (nI (q.2 10)) = true
  · obtain ⟨i, hi, rfl⟩ := (fIn_iff (by omega)).mp g1
    rw [if_pos g1, if_pos g1, if_pos g1, if_pos g1]
    by_cases g2 : fIn y (nI (q.2 9)) = true
    · obtain ⟨d, hd, rfl⟩ := (fIn_iff (by omega)).mp g2
      rw [if_pos g2, if_pos g2, if_pos g2, if_pos g2]
      have so := hS.2.2.1 i hi
      rw [show 46 * 0 + 40 + i = 40 + i by omega] at so
      have hr := hh.2.2 i hi
      have hc := okGo_n (vn := vn) hq hw hh hu hi hd
      have hg := r_isOf hq hv hd (r := m.2.2.1 i) (by omega)
      rw [nI_clamp (by omega), nI_clamp (by omega), so]
      by_cases g3 : isOfM q d (m.2.2.1 i)
      · have hk := known0 hR hS
        rw [if_pos (hc.mpr g3), if_pos (hc.mpr g3), if_pos (hg.mpr g3), if_pos (hg.mpr g3), cnd_t rfl, cnd_t rfl, cnd_t rfl]
        refine ⟨by rw [c_cost hq hh hu hd hi, r_cost hq hh hk hd hi], ?_⟩
        refine hR.push (F := g_goesS (v.1 3) (v.1 8) (v.1 5) (g_knownS (v.1 10) (v.2 12)) 0 i d z) ⟨⟨rfl, rfl, rfl, rfl, rfl, rfl, rfl, rfl⟩, rfl⟩ (setA_s _ _ _) (fun j hj => goes_out _ _ _ _ 0 z (by omega) (by omega) (Or.inr (by omega))) ?_ rfl rfl
        exact ⟨_, pass_ok hq hh hi hd _, c_pass hq hw hh hu hi hd g3 z, r_goes hq hv hh hk hi hd z⟩
      · rw [if_neg (fun e => g3 (hc.mp e)), if_neg (fun e => g3 (hc.mp e)), if_neg (fun e => g3 (hg.mp e)), if_neg (fun e => g3 (hg.mp e)), cnd_f rfl, cnd_f rfl, cnd_f rfl]
        exact ⟨rfl, hR⟩
    · rw [if_neg g2, if_neg g2, if_neg g2, if_neg g2, cnd_f rfl, cnd_f rfl, cnd_f rfl]
      exact ⟨rfl, hR⟩
  · rw [if_neg g1, if_neg g1, if_neg g1, if_neg g1, cnd_f rfl, cnd_f rfl, cnd_f rfl]
    exact ⟨rfl, hR⟩
def oil1 (h : HN) (d x : Nat) : HN := (h.1, upN h.2.1 d x, h.2.2.1, h.2.2.2.1, h.2.2.2.2)
theorem oiled_n (hq : POk q) {m : HN} (hh : HOk q m) (hu : CH q m vn) {S : Nat → Int32} (hS : RH q m 0 S) : f_X0_oiledDoors vn = itN (s_oiln S) 0 (q.2 9) := by
  have h8 := hq.2.1.2
  have key : ∀ k, k ≤ q.2 9 → itN (s_oiled vn) 0 k = itN (s_oiln S) 0 k := by
    intro k
    induction k with
    | zero => intro _; rfl
    | succ k ih =>
      intro hk
      have ho := hh.2.1 k (by omega)
      have so := hS.2.1 k (by omega)
      rw [show 46 * 0 + 32 + k = 32 + k by omega] at so
      rw [itN_s, itN_s, ih (by omega), s_oiled, s_oiln, oil_n (by omega) (by omega) (hu.2.1 k (by omega)), so]
      have i0 : nI (m.2.1 k) ≤ 0 ↔ m.2.1 k ≤ 0 := (nI_leI (by omega) (by decide) : nI _ ≤ nI 0 ↔ _ ≤ 0)
      by_cases g : m.2.1 k ≤ 0
      · rw [if_pos (i0.mpr g), if_neg (fun e => by have := of_decide_eq_true e; omega)]
      · rw [if_neg (fun e => g (i0.mp e)), if_pos (decide_eq_true (by omega))]
  have rest : ∀ n, q.2 9 + n ≤ 8 → itN (s_oiled vn) 0 (q.2 9 + n) = itN (s_oiln S) 0 (q.2 9) := by
    intro n
    induction n with
    | zero => intro _; exact key _ (Nat.le_refl _)
    | succ n ih =>
      intro hn
      rw [← Nat.add_assoc, itN_s, ih (by omega), s_oiled, oil_n (o := 0) (by omega) (by decide) (hu.2.2.1 _ (by omega) (by omega)), if_neg (by decide), Int32.add_zero]
  have := rest (8 - q.2 9) (by omega)
  rw [show q.2 9 + (8 - q.2 9) = 8 by omega] at this
  exact this
theorem a_oil (h : RelQ q vt vn vp hvu nu hvk nk v) (x : Int32) : f_oilR vp vn x = g_oilR v x ∧ RelQ q vt (cnd (fIn x (vp.2 9)) (f_oilN vp vn x) vn) vp (cnd (fIn x (vp.2 9)) (pushH 8 nu hvu vn) hvu) (cnd (fIn x (vp.2 9)) (pushN 8 nu) nu) hvk nk (g_oilV v x) := by
  have hR := h
  obtain ⟨hq, hw, hv, ⟨m, hh, hu, hS⟩, hU, hK, ht⟩ := h
  have h8 := hq.2.1.2
  rw [f_oilR, g_oilR, g_oilV, (dmD hw hv hq x).1, (dmD hw hv hq x).2]
  by_cases g1 : fIn x (nI (q.2 9)) = true
  · have g1' := g1
    obtain ⟨d, hd, rfl⟩ := (fIn_iff (by omega)).mp g1
    rw [if_pos g1, if_pos g1, if_pos g1, cnd_t g1', cnd_t g1', cnd_t g1']
    have hk := known0 hR hS
    have ho : HOk q (oil1 m d (q.2 14)) := ⟨hh.1, fun j hj => by
      show upN m.2.1 d (q.2 14) j ≤ 100
      by_cases g : j = d
      · rw [g, upN_s]; have := hq.2.2.2.2.2.2.1; omega
      · rw [upN_n g]; exact hh.2.1 j hj, hh.2.2⟩
    have hc : CH q (oil1 m d (q.2 14)) (f_oilN vp vn (nI d)) := by
      have e2 : (f_oilN vp vn (nI d)).1 2 = upd (vn.1 2) d (nI (q.2 14)) := by
        rw [f_oilN, setA_s, rPut_n (by omega) (by decide), hw.2.2.2.2.2.2.2.2.2]
      have en : ∀ t, t ≠ 2 → (f_oilN vp vn (nI d)).1 t = vn.1 t := fun t ht => setA_n ht
      refine ⟨fun a b ha hb => by rw [en 0 (by decide)]; exact hu.1 a b ha hb, fun a ha => ?_, fun a ha ha8 => ?_, fun a ha => by rw [en 3 (by decide)]; exact hu.2.2.2.1 a ha, hu.2.2.2.2.1, hu.2.2.2.2.2⟩
      · rw [e2]
        show _ = nI (upN m.2.1 d (q.2 14) a)
        by_cases g : a = d
        · rw [g, upN_s, pk_us]
        · rw [upN_n g, pk_un g]; exact hu.2.1 a ha
      · rw [e2, pk_un (by omega)]; exact hu.2.2.1 a ha ha8
    have hr : RH q (oil1 m d (q.2 14)) 0 (g_oilS v (nI d)) := by
      rw [g_oilS, nI_clamp (by omega), hv.2.2.2.2.2.2.2.2.2]
      obtain ⟨r1, r2, r3, r4, r5⟩ := hk
      have := hq.2.2.1.2
      refine ⟨fun a b ha hb => by rw [pk_un (by omega)]; exact r1 a b ha hb, fun a ha => ?_, fun a ha => by rw [pk_un (by omega)]; exact r3 a ha, by rw [pk_un (by omega)]; exact r4, by rw [pk_un (by omega)]; exact r5⟩
      show _ = nI (upN m.2.1 d (q.2 14) a)
      by_cases g : a = d
      · rw [g, upN_s, show 46 * 0 + 32 + d = 32 + d by omega, pk_us]
      · rw [upN_n g, pk_un (by omega)]; exact r2 a ha
    refine ⟨?_, ?_⟩
    · rw [hv.2.2.2.2.1, nI_clamp (by omega)]
      exact oiled_n hq ho hc hr
    · refine hR.push (F := g_oilS v (nI d)) ⟨⟨rfl, rfl, rfl, rfl, rfl, rfl, rfl, rfl⟩, rfl⟩ (setA_s _ _ _) (fun j hj => ?_) ⟨_, ho, hc, hr⟩ rfl rfl
      rw [g_oilS, nI_clamp (by omega), pk_un (by omega)]
  · rw [if_neg g1, if_neg g1, if_neg g1, cnd_f (eq_false_of_ne_true g1), cnd_f (eq_false_of_ne_true g1), cnd_f (eq_false_of_ne_true g1)]
    exact ⟨rfl, hR⟩
theorem a_night (h : RelQ q vt vn vp hvu nu hvk nk v) (x : Int32) : f_nightR vp vn x = g_nightR v x ∧ RelQ q vt (cnd (okNight vn x) (f_sleeps vp vn x.toNatClampNeg) vn) vp (cnd (okNight vn x) (pushH 8 nu hvu vn) hvu) (cnd (okNight vn x) (pushN 8 nu) nu) hvk nk (g_nightV v x) := by
  have hR := h
  obtain ⟨hq, hw, hv, ⟨m, hh, hu, hS⟩, hU, hK, ht⟩ := h
  have ex : gIn x.toInt64 1 60 = fWithin x 1 60 := gIn32 x 1 60
  have s45 : v.1 10 45 = vn.2 5 := (show v.1 10 45 = _ from hS.2.2.2.2).trans hu.2.2.2.2.2.symm
  rw [f_nightR, g_nightR, okNight, g_nightV, ex, s45]
  by_cases g1 : fWithin x 1 60 = true
  · rw [if_pos g1, if_pos g1, if_pos g1, if_pos g1]
    by_cases g2 : vn.2 5 + x ≤ 9999
    · rw [if_pos g2, if_pos g2, if_pos g2, if_pos g2, cnd_t rfl, cnd_t rfl, cnd_t rfl]
      have hk := known0 hR hS
      have c := c_nights hq hw hh hu x.toNatClampNeg
      have r := r_nights hq hv hh (V := v.1 13) hk x.toNatClampNeg
      refine ⟨c.2.2.2.2.2.trans (show (g_nightN v x.toNatClampNeg).1 45 = _ from r.1.2.2.2.2).symm, ?_⟩
      exact hR.push (F := (g_nightN v x.toNatClampNeg).1) ⟨⟨rfl, rfl, rfl, rfl, rfl, rfl, rfl, rfl⟩, rfl⟩ (setA_s _ _ _) (fun j hj => r.2 j (Or.inr (by omega))) ⟨_, nights_ok hh _, c, r.1⟩ rfl rfl
    · rw [if_neg g2, if_neg g2, if_neg g2, if_neg g2, cnd_f rfl, cnd_f rfl, cnd_f rfl]
      exact ⟨rfl, hR⟩
  · rw [if_neg g1, if_neg g1, if_neg g1, if_neg g1, cnd_f rfl, cnd_f rfl, cnd_f rfl]
    exact ⟨rfl, hR⟩
theorem a_undo (h : RelQ q vt vn vp hvu nu hvk nk v) : f_undoR nu = g_undoR nu ∧ RelQ q vt (popV nu hvu vn) vp hvu (nu - 1) hvk nk (g_undoV v nu) := by
  have hR := h
  obtain ⟨hq, hw, hv, hn, ⟨u1, u2, u3⟩, ⟨k1, k2, k3⟩, ht⟩ := h
  rw [f_undoR, g_undoR, g_undoV, popV, popR]
  by_cases g : nu = 0
  · subst g
    rw [if_pos rfl, if_pos rfl, if_pos rfl, if_pos (show nI 0 = 0 from rfl), if_pos (show nI 0 = 0 from rfl)]
    exact ⟨rfl, hR⟩
  · have g' : ¬ nI nu = 0 := nI_ne (c := 0) (by omega) (by decide) g
    rw [if_neg g, if_neg g, if_neg g', if_neg g', if_neg (show ¬ (1 : Int32) = 0 by decide)]
    have hS : ∀ j, 46 ≤ j → (setA (setI v 12 (nI (nu - 1))) 10 (g_copies (v.1 10) (3 + (nu - 1)) 0)).1 10 j = v.1 10 j := fun j hj => by rw [setA_s]; exact copies_out _ _ _ (Or.inr (by omega))
    refine ⟨rfl, hq, hw, hv.sm ⟨⟨rfl, rfl, rfl, rfl, rfl, rfl, rfl, rfl⟩, rfl⟩, ?_, ⟨by omega, rfl, fun j hj => (u3 j (by omega)).mv hq (fun k hk => hS _ (by omega))⟩, ⟨k1, k2, fun j hj => (k3 j hj).mv hq (fun k hk => hS _ (by omega))⟩, ht.sm ⟨⟨rfl, rfl, rfl, rfl, rfl, rfl, rfl, rfl⟩, rfl⟩⟩
    refine ((u3 (nu - 1) (by omega)).bc hq vn).mv hq (fun k hk => ?_)
    rw [setA_s, copies_in _ _ _ hk]
theorem a_keep (h : RelQ q vt vn vp hvu nu hvk nk v) : f_keepR nk = g_keepR nk ∧ RelQ q vt vn vp hvu nu (cnd (okKeep nk) (pushH 2 nk hvk vn) hvk) (cnd (okKeep nk) (pushN 2 nk) nk) (g_keepV v nk) := by
  have hR := h
  obtain ⟨hq, hw, hv, hn, ⟨u1, u2, u3⟩, ⟨k1, k2, k3⟩, ht⟩ := h
  rw [f_keepR, g_keepR, g_keepV, okKeep]
  by_cases g : nk < 2
  · have g1 : nI nk < 2 := (nI_ltI (by omega) (by decide) : nI nk < nI 2 ↔ nk < 2).mpr g
    have g2 : ¬ nI nk = 2 := nI_ne (c := 2) (by omega) (by decide) (by omega)
    have eN : pushN 2 nk = nk + 1 := if_pos g
    have eH : pushH 2 nk hvk vn = upF hvk nk (f_X0_become (hvk nk) vn) := if_pos g
    rw [if_pos g1, if_pos g1, if_neg g2, if_neg g2, cnd_t rfl, cnd_t rfl, eN, eH]
    have hS : ∀ j, (j < 46 * (nk + 1) ∨ 46 * (nk + 1) + 46 ≤ j) → (setA (setI v 11 (nI (nk + 1))) 10 (g_copies (v.1 10) 0 (nk + 1))).1 10 j = v.1 10 j := fun j hj => by rw [setA_s]; exact copies_out _ _ _ hj
    refine ⟨rfl, hq, hw, hv.sm ⟨⟨rfl, rfl, rfl, rfl, rfl, rfl, rfl, rfl⟩, rfl⟩, hn.mv hq (fun k hk => hS _ (by omega)), ⟨u1, u2, fun j hj => (u3 j hj).mv hq (fun k hk => hS _ (by omega))⟩, ⟨by omega, rfl, fun j hj => ?_⟩, ht.sm ⟨⟨rfl, rfl, rfl, rfl, rfl, rfl, rfl, rfl⟩, rfl⟩⟩
    by_cases gj : j = nk
    · subst gj
      rw [upF, if_pos rfl]
      refine (hn.bc hq _).mv hq (fun k hk => ?_)
      rw [setA_s, Nat.add_comm 1 j, copies_in _ _ _ hk]
    · rw [upF, if_neg gj]
      exact (k3 j (by omega)).mv hq (fun k hk => hS _ (by omega))
  · have g0 : nk = 2 := by omega
    subst g0
    rw [if_neg (show ¬ nI 2 < 2 by decide), if_neg (show ¬ nI 2 < 2 by decide), if_pos (show nI 2 = 2 from rfl), if_pos (show nI 2 = 2 from rfl), cnd_f rfl, cnd_f rfl]
    exact ⟨rfl, hR⟩
theorem a_back (h : RelQ q vt vn vp hvu nu hvk nk v) : f_backR nk = g_backR nk ∧ RelQ q vt (popV nk hvk vn) vp hvu (f_backU nk nu) hvk (nk - 1) (g_backV v nk) := by
  have hR := h
  obtain ⟨hq, hw, hv, hn, ⟨u1, u2, u3⟩, ⟨k1, k2, k3⟩, ht⟩ := h
  rw [f_backR, g_backR, g_backV, popV, f_backU, popR]
  by_cases g : nk = 0
  · subst g
    rw [if_pos rfl, if_pos rfl, if_pos rfl, if_pos rfl, if_pos (show nI 0 = 0 from rfl), if_pos (show nI 0 = 0 from rfl)]
    exact ⟨rfl, hR⟩
  · have g' : ¬ nI nk = 0 := nI_ne (c := 0) (by omega) (by decide) g
    rw [if_neg g, if_neg g, if_neg g', if_neg g', if_neg (show ¬ (1 : Int32) = 0 by decide), if_neg (show ¬ (1 : Int32) = 0 by decide)]
    have hS : ∀ j, 46 ≤ j → (setI (setI (setA v 10 (g_copies (v.1 10) nk 0)) 11 (nI (nk - 1))) 12 0).1 10 j = v.1 10 j := fun j hj => by rw [setI_f, setI_f, setA_s]; exact copies_out _ _ _ (Or.inr (by omega))
    refine ⟨rfl, hq, hw, hv.sm ⟨⟨rfl, rfl, rfl, rfl, rfl, rfl, rfl, rfl⟩, rfl⟩, ?_, ⟨by omega, rfl, fun j hj => absurd hj (Nat.not_lt_zero j)⟩, ⟨by omega, rfl, fun j hj => (k3 j (by omega)).mv hq (fun k hk => hS _ (by omega))⟩, ht.sm ⟨⟨rfl, rfl, rfl, rfl, rfl, rfl, rfl, rfl⟩, rfl⟩⟩
    refine ((k3 (nk - 1) (by omega)).bc hq vn).mv hq (fun k hk => ?_)
    rw [setI_f, setI_f, setA_s, copies_in _ _ _ hk, show 1 + (nk - 1) = nk by omega]
end DS
