/-! both sides: what is told of both, and what each call answers -/
def HR (q : PN) (u : OV) (S : Nat → Int32) (s : Nat) : Prop := ∃ h, HOk q h ∧ CH q h u ∧ RH q h s S
def TX (vt v : OV) : Prop := ∃ bt : Nat → Nat, ∃ len, len ≤ 300 ∧ (∀ k, k < len → bt k < 256) ∧ CT bt len vt ∧ v.2 0 = nI len ∧ ∀ k, k < len → v.1 1 k = sb (bt k)
def UR (q : PN) (hvu : Nat → OV) (nu : Nat) (v : OV) : Prop := nu ≤ 8 ∧ v.2 12 = nI nu ∧ ∀ j, j < nu → HR q (hvu j) (v.1 10) (3 + j)
def KR (q : PN) (hvk : Nat → OV) (nk : Nat) (v : OV) : Prop := nk ≤ 2 ∧ v.2 11 = nI nk ∧ ∀ j, j < nk → HR q (hvk j) (v.1 10) (1 + j)
def RelQ (q : PN) (vt vn vp : OV) (hvu : Nat → OV) (nu : Nat) (hvk : Nat → OV) (nk : Nat) (v : OV) : Prop :=
  POk q ∧ CP q vp ∧ RP q v ∧ HR q vn (v.1 10) 0 ∧ UR q hvu nu v ∧ KR q hvk nk v ∧ TX vt v
theorem HR.mv {q : PN} {u : OV} {S S' : Nat → Int32} {s s' : Nat} (hq : POk q) (h : HR q u S s) (he : ∀ k, k < 46 → S' (46 * s' + k) = S (46 * s + k)) : HR q u S' s' := by
  obtain ⟨h, h1, h2, h3⟩ := h
  exact ⟨h, h1, h2, RH_mv hq.2.1.2 hq.2.2.1.2 he h3⟩
theorem HR.sm {q : PN} {u : OV} {S S' : Nat → Int32} {s : Nat} (hq : POk q) (hs : s < 11) (h : HR q u S s) (he : sameS S' S) : HR q u S' s := h.mv hq (fun k hk => he _ (by omega))
theorem HR.bc {q : PN} {u : OV} {S : Nat → Int32} {s : Nat} (hq : POk q) (u0 : OV) (h : HR q u S s) : HR q (f_X0_become u0 u) S s := by
  obtain ⟨h, h1, h2, h3⟩ := h
  exact ⟨h, h1, c_become hq h2 u0, h3⟩
theorem RP.fr {q : PN} {v v' : OV} (h : RP q v) (h3 : v'.1 3 = v.1 3) (h4 : v'.1 4 = v.1 4) (h5 : v'.1 5 = v.1 5) (h6 : v'.1 6 = v.1 6) (h7 : v'.1 7 = v.1 7) (h8 : v'.1 8 = v.1 8) (h9 : v'.1 9 = v.1 9) : RP q v' := by
  unfold RP at h ⊢
  rw [h3, h4, h5, h6, h7, h8, h9]
  exact h
theorem TX.fr {vt vt' v v' : OV} (h : TX vt v) (ht : CTn vt' vt) (h0 : v'.2 0 = v.2 0) (h1 : v'.1 1 = v.1 1) : TX vt' v' := by
  obtain ⟨bt, len, a, b, c, d, e⟩ := h
  exact ⟨bt, len, a, b, ht.ct c, h0.trans d, fun k hk => by rw [h1]; exact e k hk⟩
theorem CTn.rf (u : OV) : CTn u u := ⟨rfl, rfl⟩
/-- the parts that no call but laying writes -/
def Sm (v v' : OV) : Prop := (v'.1 1 = v.1 1 ∧ v'.1 3 = v.1 3 ∧ v'.1 4 = v.1 4 ∧ v'.1 5 = v.1 5 ∧ v'.1 6 = v.1 6 ∧ v'.1 7 = v.1 7 ∧ v'.1 8 = v.1 8 ∧ v'.1 9 = v.1 9) ∧ v'.2 0 = v.2 0
theorem RP.sm {q : PN} {v v' : OV} (h : RP q v) (hs : Sm v v') : RP q v' := h.fr hs.1.2.1 hs.1.2.2.1 hs.1.2.2.2.1 hs.1.2.2.2.2.1 hs.1.2.2.2.2.2.1 hs.1.2.2.2.2.2.2.1 hs.1.2.2.2.2.2.2.2
theorem TX.sm {vt v v' : OV} (h : TX vt v) (hs : Sm v v') : TX vt v' := h.fr (CTn.rf vt) hs.2 hs.1.1
section RL
variable {q : PN} {vt vn vp v : OV} {hvu hvk : Nat → OV} {nu nk : Nat}
theorem RelQ.fr {v' : OV} (h : RelQ q vt vn vp hvu nu hvk nk v) (hs : Sm v v') (hS : sameS (v'.1 10) (v.1 10)) (h11 : v'.2 11 = v.2 11) (h12 : v'.2 12 = v.2 12) : RelQ q vt vn vp hvu nu hvk nk v' := by
  obtain ⟨hq, hw, hv, hn, ⟨u1, u2, u3⟩, ⟨k1, k2, k3⟩, ht⟩ := h
  exact ⟨hq, hw, hv.sm hs, hn.sm hq (by decide) hS, ⟨u1, h12.trans u2, fun j hj => (u3 j hj).sm hq (by omega) hS⟩, ⟨k1, h11.trans k2, fun j hj => (k3 j hj).sm hq (by omega) hS⟩, ht.sm hs⟩
theorem dmD (hw : CP q vp) (hv : RP q v) (hq : POk q) (x : Int32) : gIsDoor (v.1 4) x = fIn x (nI (q.2 9)) ∧ fIn x (vp.2 9) = fIn x (nI (q.2 9)) := ⟨gIsDoor_f hv.2.2.2.2.1 (by have := hq.2.1.2; omega), by rw [hw.2.2.2.2.1]⟩
theorem dmL (hw : CP q vp) (hv : RP q v) (hq : POk q) (x : Int32) : gIsDoor (v.1 7) x = fIn x (nI (q.2 10)) ∧ fIn x (vp.2 10) = fIn x (nI (q.2 10)) := ⟨gIsDoor_f hv.2.2.2.2.2.1 (by have := hq.2.2.1.2; omega), by rw [hw.2.2.2.2.2.1]⟩
theorem dmR (hw : CP q vp) (hv : RP q v) (hq : POk q) (x : Int32) : gIsDoor (v.1 3) x = fIn x (nI (q.2 8)) ∧ fIn x (vp.2 8) = fIn x (nI (q.2 8)) := ⟨gIsDoor_f hv.2.2.2.1 (by have := hq.1.2; omega), by rw [hw.2.2.2.1]⟩
theorem wi4 {y : Int32} (hy : ∀ k, k < 5 → y ≠ nI k) : gIn y.toInt64 0 4 = false := by
  cases e : gIn y.toInt64 0 4 with
  | false => rfl
  | true =>
    obtain ⟨j, h1, h2, h3⟩ := within_ex (a := 0) (b := 4) (by decide) (by decide) ((gIn32 y 0 4).symm.trans e)
    exact absurd h3 (hy j (by omega))
theorem wi2 {y : Int32} (hy : ∀ k, k < 3 → y ≠ nI k) : gIn y.toInt64 0 2 = false := by
  cases e : gIn y.toInt64 0 2 with
  | false => rfl
  | true =>
    obtain ⟨j, h1, h2, h3⟩ := within_ex (a := 0) (b := 2) (by decide) (by decide) ((gIn32 y 0 2).symm.trans e)
    exact absurd h3 (hy j (by omega))
theorem a_door (h : RelQ q vt vn vp hvu nu hvk nk v) (x y : Int32) : f_door vp vn x y = g_door (v.1 4) (v.1 5) (v.1 10) (v.1 6) x y := by
  obtain ⟨hq, hw, hv, ⟨h, hh, hu, hS⟩, hU, hK, ht⟩ := h
  have h8 := hq.2.1.2
  rw [f_door, g_door, (dmD hw hv hq x).1, (dmD hw hv hq x).2]
  by_cases g : fIn x (nI (q.2 9)) = true
  · obtain ⟨d, hd, rfl⟩ := (fIn_iff (by omega)).mp g
    have c := hw.1 d hd
    have r := hv.1 d hd
    have so := hS.2.1 d hd
    have co := hu.2.1 d hd
    rw [if_pos g, if_pos g, nI_clamp (by omega), rAt_n (by omega) (by decide), rAt_n (by omega) (by decide), rAt_n (by omega) (by decide), rAt_n (by omega) (by decide), rAt_n (by omega) (by decide)]
    by_cases g0 : y = nI 0
    · subst g0
      rw [if_pos (by decide), if_pos (by decide), if_neg (by decide), c.1]; exact r.1.symm
    by_cases g1 : y = nI 1
    · subst g1
      rw [if_neg (by decide), if_pos (by decide), if_pos (by decide), if_neg (by decide), c.2.1]; exact r.2.1.symm
    by_cases g2 : y = nI 2
    · subst g2
      rw [if_neg (by decide), if_neg (by decide), if_pos (by decide), if_pos (by decide), if_neg (by decide), c.2.2.1]; exact r.2.2.1.symm
    by_cases g3 : y = nI 3
    · subst g3
      rw [if_neg (by decide), if_neg (by decide), if_neg (by decide), if_pos (by decide), if_pos (by decide), if_pos (by decide), if_pos (by decide), co]
      rw [show 46 * 0 + 32 + d = 32 + d by omega] at so
      exact so.symm
    by_cases g4 : y = nI 4
    · subst g4
      rw [if_neg (by decide), if_neg (by decide), if_neg (by decide), if_neg (by decide), if_pos (by decide), if_pos (by decide), if_pos (by decide), if_neg (by decide), c.2.2.2]; exact r.2.2.2.symm
    rw [if_neg (show ¬ y = 0 from g0), if_neg (show ¬ y = 1 from g1), if_neg (show ¬ y = 2 from g2), if_neg (show ¬ y = 3 from g3), if_neg (show ¬ y = 4 from g4), wi4 (fun k hk e => by
      have : k = 0 ∨ k = 1 ∨ k = 2 ∨ k = 3 ∨ k = 4 := by omega
      rcases this with rfl | rfl | rfl | rfl | rfl
      · exact g0 e
      · exact g1 e
      · exact g2 e
      · exact g3 e
      · exact g4 e), if_neg (by decide)]
  · rw [if_neg g, if_neg g]
theorem a_lodger (h : RelQ q vt vn vp hvu nu hvk nk v) (x y : Int32) : f_lodger vp vn x y = g_lodger (v.1 7) (v.1 8) (v.1 10) x y := by
  obtain ⟨hq, hw, hv, ⟨h, hh, hu, hS⟩, hU, hK, ht⟩ := h
  have h8 := hq.2.2.1.2
  rw [f_lodger, g_lodger, (dmL hw hv hq x).1, (dmL hw hv hq x).2]
  by_cases g : fIn x (nI (q.2 10)) = true
  · obtain ⟨d, hd, rfl⟩ := (fIn_iff (by omega)).mp g
    have c := hw.2.1 d hd
    have r := hv.2.1 d hd
    have so := hS.2.2.1 d hd
    have co := hu.2.2.2.1 d hd
    rw [if_pos g, if_pos g, nI_clamp (by omega), rAt_n (by omega) (by decide), rAt_n (by omega) (by decide), rAt_n (by omega) (by decide)]
    by_cases g0 : y = nI 0
    · subst g0
      rw [if_pos (by decide), if_pos (by decide), if_pos (by decide), co]
      rw [show 46 * 0 + 40 + d = 40 + d by omega] at so
      exact so.symm
    by_cases g1 : y = nI 1
    · subst g1
      rw [if_neg (by decide), if_pos (by decide), if_pos (by decide), if_neg (by decide), c.1]; exact r.1.symm
    by_cases g2 : y = nI 2
    · subst g2
      rw [if_neg (by decide), if_neg (by decide), if_pos (by decide), if_pos (by decide), if_neg (by decide), c.2]; exact r.2.symm
    rw [if_neg (show ¬ y = 0 from g0), if_neg (show ¬ y = 1 from g1), if_neg (show ¬ y = 2 from g2), wi2 (fun k hk e => by
      have : k = 0 ∨ k = 1 ∨ k = 2 := by omega
      rcases this with rfl | rfl | rfl
      · exact g0 e
      · exact g1 e
      · exact g2 e), if_neg (by decide)]
  · rw [if_neg g, if_neg g]
theorem a_grudge (h : RelQ q vt vn vp hvu nu hvk nk v) (x y : Int32) : f_grudge vp vn x y = g_grudge (v.1 4) (v.1 7) (v.1 10) x y := by
  obtain ⟨hq, hw, hv, ⟨h, hh, hu, hS⟩, hU, hK, ht⟩ := h
  have h8 := hq.2.1.2
  have h4 := hq.2.2.1.2
  rw [f_grudge, g_grudge, (dmD hw hv hq x).1, (dmD hw hv hq x).2, (dmL hw hv hq y).1, (dmL hw hv hq y).2]
  by_cases g : fIn x (nI (q.2 9)) = true
  · obtain ⟨d, hd, rfl⟩ := (fIn_iff (by omega)).mp g
    rw [if_pos g, if_pos g]
    by_cases g' : fIn y (nI (q.2 10)) = true
    · obtain ⟨i, hi, rfl⟩ := (fIn_iff (by omega)).mp g'
      have so := hS.1 d i hd hi
      rw [if_pos g', if_pos g', nI_clamp (by omega), nI_clamp (by omega), gOf_n (by omega) (by omega), hu.1 d i hd hi]
      rw [show 46 * 0 + 4 * d + i = 4 * d + i by omega] at so
      exact so.symm
    · rw [if_neg g', if_neg g']
  · rw [if_neg g, if_neg g]
theorem a_count (h : RelQ q vt vn vp hvu nu hvk nk v) (x : Int32) : f_count vp vn vt nu nk x = g_count v x := by
  obtain ⟨hq, hw, hv, ⟨h, hh, hu, hS⟩, hU, hK, bt, len, t1, t2, t3, t4, t5⟩ := h
  rw [f_count, g_count, hw.2.2.2.1, hw.2.2.2.2.1, hw.2.2.2.2.2.1, hv.2.2.2.1, hv.2.2.2.2.1, hv.2.2.2.2.2.1, hU.2.1, hK.2.1, t3.1, t4, hu.2.2.2.2.1, hu.2.2.2.2.2, (show v.1 10 44 = _ from hS.2.2.2.1), (show v.1 10 45 = _ from hS.2.2.2.2)]
end RL
