/-! ways, in natural numbers and in both -/
theorem smod_n : ∀ d, d < 32 → ((nI d).toBitVec.smod 32).toNat = d := by decide +kernel
theorem bitR {x d : Nat} (hx : x < 2 ^ 31) (hd : d < 32) : (((nI x >>> (nI d &&& 31)) &&& 1 : Int32) = 1) ↔ x.testBit d = true := by
  have h2 : x / 2 ^ d ≤ x := Nat.div_le_self _ _
  rw [pk_andN (n := d) (by omega) (m := 31) 5 (by decide), Nat.mod_eq_of_lt (show d < 2 ^ 5 by omega), pk_shrN hx (nI d) d (smod_n d hd), pk_andN (n := x / 2 ^ d) (by omega) (m := 1) 1 (by decide), show (1 : Int32) = nI 1 from rfl, nI_eq (by omega) (by decide), Nat.testBit_eq_decide_div_mod_eq, decide_eq_true_iff]
theorem bit_n {x d : Nat} (hx : x < 2 ^ 31) (hd : d < 32) : fHolds (nI x) (nI d) = x.testBit d := by
  rw [fHolds, Bool.eq_iff_iff, decide_eq_true_iff]
  exact bitR hx hd
theorem fnd_congr {P Q : Nat → Bool} : ∀ {n : Nat}, (∀ k, k < n → P k = Q k) → fnd P n = fnd Q n
  | 0, _ => rfl
  | n + 1, h => by
    simp only [fnd]
    rw [fnd_congr (n := n) (fun k hk => h k (by omega)), h n (by omega)]
theorem fnd_ex {P : Nat → Bool} : ∀ {n : Nat} {k : Nat}, fnd P n = some k → k < n ∧ P k = true ∧ ∀ j, j < k → P j = false
  | 0, _, h => by simp [fnd] at h
  | n + 1, k, h => by
    simp only [fnd] at h
    cases e : fnd P n with
    | some k' =>
      rw [e] at h
      simp only [Option.some.injEq] at h
      subst h
      obtain ⟨h1, h2, h3⟩ := fnd_ex e
      exact ⟨by omega, h2, h3⟩
    | none =>
      rw [e] at h
      by_cases g : P n = true
      · simp only [g, if_true, Option.some.injEq] at h
        subst h
        refine ⟨by omega, g, fun j hj => ?_⟩
        cases e2 : P j with
        | false => rfl
        | true =>
          exfalso
          obtain ⟨k2, hk2, hk3⟩ := pk_least (fun x => P x = true) ⟨j, e2⟩
          have hle : k2 ≤ j := Nat.le_of_not_lt (fun g2 => hk3 j g2 e2)
          have := fnd_some (P := P) (k := k2) (n := n) (by omega) (fun x hx => by
            have := hk3 x hx
            simpa using this) hk2
          rw [this] at e
          cases e
      · rw [if_neg g] at h; cases h
theorem fnd_no {P : Nat → Bool} {n : Nat} (h : fnd P n = none) : ∀ j, j < n → P j = false := by
  intro j hj
  cases e2 : P j with
  | false => rfl
  | true =>
    exfalso
    obtain ⟨k2, hk2, hk3⟩ := pk_least (fun x => P x = true) ⟨j, e2⟩
    have hle : k2 ≤ j := Nat.le_of_not_lt (fun g2 => hk3 j g2 e2)
    have := fnd_some (P := P) (k := k2) (n := n) (by omega) (fun x hx => by
      have := hk3 x hx
      simpa using this) hk2
    rw [this] at h
    cases h
def costO (h : HN) (i o d : Nat) : Nat := if o.testBit d = true then 1 else costM h d i
def distM (q : PN) (h : HN) (i o to : Nat) : Nat → Nat := runM (costO h i o) (q.1 0) (q.1 1) (q.2 9) 100000 to 6
def wayM (q : PN) (h : HN) (i o a to : Nat) : Int32 := if distM q h i o to a < 100000 then nI (distM q h i o to a) else -4
noncomputable def pfM (q : PN) (h : HN) (i to a k : Nat) : Bool := if q.1 0 k = a ∨ q.1 1 k = a then decide (costM h k i + distM q h i 0 to (othM q k a) = distM q h i 0 to a) else false
noncomputable def firstO (q : PN) (h : HN) (i to a : Nat) : Option Nat := if 0 < distM q h i 0 to a ∧ distM q h i 0 to a < 100000 then fnd (pfM q h i to a) (q.2 9) else none
section WM
variable {q : PN} {h : HN} {w v u y : OV} {S : Nat → Int32} {s : Nat}
theorem costO_0 (h : HN) (i d : Nat) : costO h i 0 d = costM h d i := by
  unfold costO
  rw [Nat.zero_testBit]
  rfl
theorem costO_b (hh : HOk q h) {d i : Nat} (o : Nat) (hd : d < q.2 9) (hi : i < q.2 10) : 1 ≤ costO h i o d ∧ costO h i o d ≤ 100 := by
  unfold costO
  split
  · omega
  · exact cost_b hh hd hi
theorem ends_b (hq : POk q) : ∀ d, d < q.2 9 → q.1 0 d < q.2 8 ∧ q.1 1 d < q.2 8 ∧ q.1 0 d ≠ q.1 1 d := fun d hd => by
  obtain ⟨b0, b1, b2, -⟩ := hq.2.2.2.2.2.2.2.1 d hd
  exact ⟨b0, b1, b2⟩
theorem dist_good (hq : POk q) (hh : HOk q h) {i : Nat} (hi : i < q.2 10) (o to : Nat) : Good (costO h i o) (q.1 0) (q.1 1) (q.2 9) 100000 to (distM q h i o to) :=
  run_good (R := q.2 8) (fun d hd => costO_b hh o hd hi) (ends_b hq) (by have := hq.1.2; omega) (Nat.le_refl _) hq.2.1.2
theorem dist_big (hq : POk q) (hh : HOk q h) {i : Nat} (hi : i < q.2 10) (o to r : Nat) : runM (costO h i o) (q.1 0) (q.1 1) (q.2 9) 1000000 to (q.2 8 - 1) r = if distM q h i o to r < 100000 then distM q h i o to r else 1000000 :=
  good_eq (fun d hd => (costO_b hh o hd hi).1) (by decide) (by decide) (run_good (R := q.2 8) (fun d hd => costO_b hh o hd hi) (ends_b hq) (Nat.le_refl _) (by have := hq.1.2; omega) hq.2.1.2) (dist_good hq hh hi o to) r
/-- the class's row of ways -/
def RepW (D : Nat) (u : OV) (F c : Nat → Nat) : Prop := (∀ r, r < 6 → u.1 0 r = nI (F r)) ∧ (∀ d, d < D → u.1 1 d = nI (c d))
theorem price_n (hq : POk q) (hh : HOk q h) (hu : CH q h u) {i o : Nat} (hi : i < q.2 10) (ho : o < 2 ^ 31) : ∀ k, k ≤ q.2 9 → ∀ d, d < k → (itN (s_price u (nI i) (nI o)) y k).1 1 d = nI (costO h i o d)
  | 0, _, d, hd => absurd hd (by omega)
  | k + 1, hk, d, hd => by
    have hD := hq.2.1.2
    rw [itN_s, s_price, setA_s, rPut_n (by omega) (by decide)]
    by_cases e : d = k
    · subst e
      rw [pk_us, bit_n ho (by omega), costO, c_cost hq hh hu (by omega) hi]
      by_cases g : o.testBit d = true
      · rw [if_pos g, if_pos g]; rfl
      · rw [if_neg g, if_neg g]
    · rw [pk_un e]; exact price_n hq hh hu hi ho k (by omega) d (by omega)
theorem short_n (hq : POk q) (hw : CP q w) {c F : Nat → Nat} (hc : ∀ d, d < q.2 9 → c d ≤ 100) (hF : ∀ r, F r ≤ 1000000) {p : OV × Bool} (hp : RepW (q.2 9) p.1 F c) {k : Nat} (hk : k < q.2 9) : RepW (q.2 9) (s_short w k p).1 (stepM c (q.1 0) (q.1 1) k F) c ∧ ((s_short w k p).2 = false → p.2 = false ∧ stepM c (q.1 0) (q.1 1) k F = F) := by
  have hD := hq.2.1.2
  have hR := hq.1.2
  obtain ⟨b0, b1, b2, -⟩ := hq.2.2.2.2.2.2.2.1 k hk
  have eA : wA w k = nI (q.1 0 k) := by rw [wA, rAt_n (by omega) (by decide)]; exact (hw.1 k hk).1
  have eB : wB w k = nI (q.1 1 k) := by rw [wB, rAt_n (by omega) (by decide)]; exact (hw.1 k hk).2.1
  have hck := hc k hk
  have f1 := hF (q.1 0 k)
  have f2 := hF (q.1 1 k)
  unfold s_short
  rw [eA, eB, rAt_n (by omega) (by decide), rAt_n (by omega) (by decide), rAt_n (by omega) (by decide), hp.1 _ (by omega), hp.1 _ (by omega), hp.2 k hk, nI_add, nI_add]
  unfold stepM
  by_cases g1 : F (q.1 1 k) + c k < F (q.1 0 k)
  · rw [if_neg (fun e => by have := (nI_leI (by omega) (by omega)).mp e; omega), if_pos g1]
    refine ⟨⟨fun r hr => ?_, fun d hd => by rw [setA_n (by decide)]; exact hp.2 d hd⟩, fun e => by cases e⟩
    rw [setA_s, rPut_n (by omega) (by decide)]
    by_cases e : r = q.1 0 k
    · rw [e, pk_us, upN_s]
    · rw [pk_un e, upN_n e]; exact hp.1 r hr
  · rw [if_pos ((nI_leI (by omega) (by omega)).mpr (by omega)), if_neg g1]
    by_cases g2 : F (q.1 0 k) + c k < F (q.1 1 k)
    · rw [if_neg (fun e => by have := (nI_leI (by omega) (by omega)).mp e; omega), if_pos g2]
      refine ⟨⟨fun r hr => ?_, fun d hd => by rw [setA_n (by decide)]; exact hp.2 d hd⟩, fun e => by cases e⟩
      rw [setA_s, rPut_n (by omega) (by decide)]
      by_cases e : r = q.1 1 k
      · rw [e, pk_us, upN_s]
      · rw [pk_un e, upN_n e]; exact hp.1 r hr
    · rw [if_pos ((nI_leI (by omega) (by omega)).mpr (by omega)), if_neg g2]
      exact ⟨hp, fun e => ⟨e, rfl⟩⟩
theorem shortL_n (hq : POk q) (hw : CP q w) {c F : Nat → Nat} (hc : ∀ d, d < q.2 9 → c d ≤ 100) (hF : ∀ r, F r ≤ 1000000) {p : OV} (hp : RepW (q.2 9) p F c) : ∀ k, k ≤ q.2 9 → RepW (q.2 9) (itN (s_short w) (p, false) k).1 (itN (stepM c (q.1 0) (q.1 1)) F k) c ∧ ((itN (s_short w) (p, false) k).2 = false → itN (stepM c (q.1 0) (q.1 1)) F k = F) ∧ ∀ r, itN (stepM c (q.1 0) (q.1 1)) F k r ≤ 1000000
  | 0, _ => ⟨hp, fun _ => rfl, hF⟩
  | k + 1, hk => by
    obtain ⟨h1, h2, h3⟩ := shortL_n hq hw hc hF hp k (by omega)
    obtain ⟨g1, g2⟩ := short_n hq hw hc h3 h1 (k := k) (by omega)
    refine ⟨g1, fun e => ?_, fun r => Nat.le_trans (step_le _ _ _ _ _ r) (h3 r)⟩
    obtain ⟨g3, g4⟩ := g2 e
    rw [itN_s, g4]
    exact h2 g3
theorem cRun_n (hq : POk q) (hw : CP q w) {c : Nat → Nat} (hc : ∀ d, d < q.2 9 → c d ≤ 100) {to : Nat} {p : OV} (hp : RepW (q.2 9) p (initM 1000000 to) c) : ∀ k, RepW (q.2 9) (itN (s_round w) (p, true) k).1 (runM c (q.1 0) (q.1 1) (q.2 9) 1000000 to k) c ∧ ((itN (s_round w) (p, true) k).2 = false → roundM c (q.1 0) (q.1 1) (q.2 9) 0 (runM c (q.1 0) (q.1 1) (q.2 9) 1000000 to k) = runM c (q.1 0) (q.1 1) (q.2 9) 1000000 to k) ∧ ∀ r, runM c (q.1 0) (q.1 1) (q.2 9) 1000000 to k r ≤ 1000000
  | 0 => ⟨hp, fun e => (by cases e), fun r => by
      show (if r = to then 0 else 1000000) ≤ 1000000
      split <;> omega⟩
  | k + 1 => by
    obtain ⟨h1, h2, h3⟩ := cRun_n hq hw hc hp k
    have e9 : (w.2 9).toNatClampNeg = q.2 9 := by rw [hw.2.2.2.2.1, nI_clamp (by have := hq.2.1.2; omega)]
    rw [itN_s]
    show RepW _ (s_round w k _).1 (roundM c (q.1 0) (q.1 1) (q.2 9) 0 (runM c (q.1 0) (q.1 1) (q.2 9) 1000000 to k)) c ∧ ((s_round w k _).2 = false → roundM c (q.1 0) (q.1 1) (q.2 9) 0 (roundM c (q.1 0) (q.1 1) (q.2 9) 0 (runM c (q.1 0) (q.1 1) (q.2 9) 1000000 to k)) = roundM c (q.1 0) (q.1 1) (q.2 9) 0 (runM c (q.1 0) (q.1 1) (q.2 9) 1000000 to k)) ∧ ∀ r, roundM c (q.1 0) (q.1 1) (q.2 9) 0 (runM c (q.1 0) (q.1 1) (q.2 9) 1000000 to k) r ≤ 1000000
    generalize runM c (q.1 0) (q.1 1) (q.2 9) 1000000 to k = F at h1 h2 h3
    generalize itN (s_round w) (p, true) k = P at h1 h2
    unfold s_round
    by_cases g : P.2 = true
    · rw [if_pos g, f_X5_short, e9]
      obtain ⟨g1, g2, g3⟩ := shortL_n hq hw hc h3 h1 (q.2 9) (Nat.le_refl _)
      refine ⟨g1, fun e => ?_, g3⟩
      have := g2 e
      show itN (stepM c (q.1 0) (q.1 1)) (itN (stepM c (q.1 0) (q.1 1)) F (q.2 9)) (q.2 9) = itN (stepM c (q.1 0) (q.1 1)) F (q.2 9)
      rw [this, this]
    · rw [if_neg g]
      have e : P.2 = false := by simpa using g
      have e2 := h2 e
      rw [e2]
      exact ⟨h1, fun _ => e2, h3⟩
theorem measure_n (hq : POk q) (hw : CP q w) (hh : HOk q h) (hu : CH q h u) {i o to : Nat} (hi : i < q.2 10) (ho : o < 2 ^ 31) (hto : to < 6) : (∀ r, r < 6 → (f_X5_measure y w u (nI i) (nI to) (nI o)).1 0 r = nI (if distM q h i o to r < 100000 then distM q h i o to r else 1000000)) ∧ ∀ d, d < q.2 9 → (f_X5_measure y w u (nI i) (nI to) (nI o)).1 1 d = nI (costO h i o d) := by
  have e8 : (w.2 8).toNatClampNeg = q.2 8 := by rw [hw.2.2.2.1, nI_clamp (by have := hq.1.2; omega)]
  have e9 : (w.2 9).toNatClampNeg = q.2 9 := by rw [hw.2.2.2.2.1, nI_clamp (by have := hq.2.1.2; omega)]
  have hp : RepW (q.2 9) (m_init y w u (nI i) (nI to) (nI o)) (initM 1000000 to) (costO h i o) := by
    refine ⟨fun r hr => ?_, fun d hd => ?_⟩
    · rw [m_init, setA_s, rPut_n hto (by decide), initM]
      by_cases e : r = to
      · rw [e, pk_us, if_pos rfl]; rfl
      · rw [pk_un e, if_neg e, rFill, if_pos hr]; rfl
    · rw [m_init, setA_n (by decide), setA_n (by decide), m_price, e9]
      exact price_n hq hh hu hi ho (q.2 9) (Nat.le_refl _) d hd
  obtain ⟨h1, -, -⟩ := cRun_n hq hw (fun d hd => (costO_b hh o hd hi).2) hp (q.2 8 - 1)
  rw [f_X5_measure, e8]
  exact ⟨fun r hr => by rw [h1.1 r hr, dist_big hq hh hi], h1.2⟩
theorem c_minutes (hq : POk q) (hw : CP q w) (hh : HOk q h) (hu : CH q h u) {i o to a : Nat} (hi : i < q.2 10) (ho : o < 2 ^ 31) (hto : to < 6) (ha : a < 6) : f_X5_minutesFrom (f_X5_measure y w u (nI i) (nI to) (nI o)) (nI a) = wayM q h i o a to := by
  have hb := (dist_good hq hh hi o to).2.2.2.2 a
  rw [f_X5_minutesFrom, rAt_n ha (by decide), (measure_n hq hw hh hu hi ho hto).1 a ha, wayM, show (1000000 : Int32) = nI 1000000 from rfl]
  by_cases g : distM q h i o to a < 100000
  · rw [if_pos g, if_pos g, if_neg (fun e => by have := (nI_leI (by decide) (by omega)).mp e; omega)]
  · rw [if_neg g, if_neg g, if_pos (Int32.le_refl _)]
theorem way_pos (hq : POk q) (hh : HOk q h) {i o to a : Nat} (hi : i < q.2 10) : 0 < wayM q h i o a to ↔ 0 < distM q h i o to a ∧ distM q h i o to a < 100000 := by
  unfold wayM
  by_cases g : distM q h i o to a < 100000
  · rw [if_pos g, show (0 : Int32) = nI 0 from rfl, nI_ltI (by decide) (by omega)]
    omega
  · rw [if_neg g]
    constructor
    · intro e; exact absurd e (by decide)
    · intro e; exact absurd e.2 g
theorem c_lowest (hq : POk q) (hw : CP q w) (hh : HOk q h) (hu : CH q h u) {i to a : Nat} (hi : i < q.2 10) (hto : to < 6) (ha : a < 6) : f_X5_lowest (f_X5_measure y w u (nI i) (nI to) 0) w (nI a) = optI (firstO q h i to a) := by
  have e9 : (w.2 9).toNatClampNeg = q.2 9 := by rw [hw.2.2.2.2.1, nI_clamp (by have := hq.2.1.2; omega)]
  have hm := measure_n (y := y) hq hw hh hu (o := 0) hi (by decide) hto
  have hmin := c_minutes (y := y) hq hw hh hu (o := 0) hi (by decide) hto ha
  rw [show nI 0 = (0 : Int32) from rfl] at hm hmin
  have hD := hq.2.1.2
  have hR := hq.1.2
  have hg := dist_good hq hh hi 0 to
  rw [f_X5_lowest, hmin, e9, firstO]
  by_cases g : 0 < distM q h i 0 to a ∧ distM q h i 0 to a < 100000
  · rw [if_pos ((way_pos hq hh hi).mpr g), if_pos g]
    congr 1
    refine fnd_congr (fun k hk => ?_)
    rw [p_low, pfM, c_oth hq hw hk (by omega)]
    obtain ⟨b0, b1, -⟩ := ends_b hq k hk
    have hkey : ∀ x, x < 6 → x = othM q k a → (if nI x < 0 then false else if rAt ((f_X5_measure y w u (nI i) (nI to) 0).1 1) 8 (nI k) + rAt ((f_X5_measure y w u (nI i) (nI to) 0).1 0) 6 (nI x) = rAt ((f_X5_measure y w u (nI i) (nI to) 0).1 0) 6 (nI a) then true else false) = decide (costM h k i + distM q h i 0 to (othM q k a) = distM q h i 0 to a) := by
      intro x hx ex
      have hxb := hg.2.2.2.2 x
      have hab := hg.2.2.2.2 a g.2
      have hcb := cost_b hh hk hi
      rw [if_neg (nI_pos (by omega)), rAt_n (by omega) (by decide), rAt_n hx (by decide), rAt_n ha (by decide), hm.2 k hk, hm.1 x hx, hm.1 a ha, if_pos g.2, costO_0, nI_add, ← ex]
      by_cases g2 : distM q h i 0 to x < 100000
      · rw [if_pos g2]
        by_cases g3 : costM h k i + distM q h i 0 to x = distM q h i 0 to a
        · rw [if_pos (by rw [g3]), decide_eq_true g3]
        · rw [if_neg (fun e => g3 ((nI_eq (by omega) (by omega)).mp e)), decide_eq_false g3]
      · rw [if_neg g2, if_neg (fun e => by have := (nI_eq (by omega) (by omega)).mp e; omega), decide_eq_false (by omega)]
    by_cases g0 : q.1 0 k = a
    · rw [if_pos g0, if_pos (Or.inl g0)]
      exact hkey _ (by omega) (by rw [othM, if_pos g0])
    · rw [if_neg g0]
      by_cases g1 : q.1 1 k = a
      · rw [if_pos g1, if_pos (Or.inr g1)]
        exact hkey _ (by omega) (by rw [othM, if_neg g0])
      · rw [if_neg g1, if_pos (show (-1 : Int32) < 0 by decide), if_neg (fun e : q.1 0 k = a ∨ q.1 1 k = a => e.elim g0 g1)]
  · rw [if_neg (fun e => g ((way_pos hq hh hi).mp e)), if_neg g]
    rfl
/-- the reference's row of ways -/
theorem rel_n {x y c : Nat} {F : Nat → Int32} {G : Nat → Nat} (hF : ∀ r, r < 6 → F r = nI (G r)) (hG : ∀ r, G r ≤ 100000) (hx : x < 6) (hy : y < 6) (hxy : x ≠ y) (hc : 1 ≤ c ∧ c ≤ 100) : ∀ r, r < 6 → relA x y (nI c) F r = nI ((if G y + c < G x then upN G x (G y + c) else if G x + c < G y then upN G y (G x + c) else G) r) := by
  intro r hr
  have f1 := hG x
  have f2 := hG y
  have hid : ∀ (E : Nat → Int32) (k : Nat), upd E k (E k) = E := fun E k => by
    funext j
    by_cases e : j = k
    · rw [e, pk_us]
    · rw [pk_un e]
  rw [relA, hF x hx, hF y hy, nI_add]
  by_cases g1 : G y + c < G x
  · rw [if_neg (fun e => by have := (nI_leI (by omega) (by omega)).mp e; omega), if_pos g1, relB, pk_un (Ne.symm hxy), pk_us, hF y hy, nI_add, if_pos ((nI_leI (by omega) (by omega)).mpr (by omega))]
    have e2 : upd (upd F x (nI (G y + c))) y (nI (G y)) = upd F x (nI (G y + c)) := by
      have := hid (upd F x (nI (G y + c))) y
      rw [pk_un (Ne.symm hxy), hF y hy] at this
      exact this
    rw [e2]
    by_cases e : r = x
    · rw [e, pk_us, upN_s]
    · rw [pk_un e, upN_n e]; exact hF r hr
  · rw [if_pos ((nI_leI (by omega) (by omega)).mpr (by omega)), if_neg g1]
    have e1 : upd F x (nI (G x)) = F := by rw [← hF x hx]; exact hid F x
    rw [e1, relB, hF x hx, hF y hy, nI_add]
    by_cases g2 : G x + c < G y
    · rw [if_neg (fun e => by have := (nI_leI (by omega) (by omega)).mp e; omega), if_pos g2]
      by_cases e : r = y
      · rw [e, pk_us, upN_s]
      · rw [pk_un e, upN_n e]; exact hF r hr
    · rw [if_pos ((nI_leI (by omega) (by omega)).mpr (by omega)), if_neg g2]
      have e2 : upd F y (nI (G y)) = F := by rw [← hF y hy]; exact hid F y
      rw [e2]
      exact hF r hr
theorem rRound_n (hq : POk q) (hv : RP q v) (hh : HOk q h) (hS : RH q h s S) {i o : Nat} (hi : i < q.2 10) (ho : o < 2 ^ 31) {F : Nat → Int32} {G : Nat → Nat} (hF : ∀ r, r < 6 → F r = nI (G r)) (hG : ∀ r, G r ≤ 100000) : ∀ k, k ≤ q.2 9 → (∀ r, r < 6 → itN (s_rel (v.1 5) S s i (nI o)) F k r = nI (itN (stepM (costO h i o) (q.1 0) (q.1 1)) G k r)) ∧ ∀ r, itN (stepM (costO h i o) (q.1 0) (q.1 1)) G k r ≤ 100000
  | 0, _ => ⟨hF, hG⟩
  | k + 1, hk => by
    obtain ⟨h1, h2⟩ := rRound_n hq hv hh hS hi ho hF hG k (by omega)
    have hD := hq.2.1.2
    have hR := hq.1.2
    have hkD : k < q.2 9 := by omega
    obtain ⟨b0, b1, b2⟩ := ends_b hq k hkD
    have eA : rA (v.1 5) k = q.1 0 k := by
      show (v.1 5 (3 * k)).toNatClampNeg = _
      rw [(hv.1 k hkD).1, nI_clamp (by omega)]
    have eB : rB (v.1 5) k = q.1 1 k := by
      show (v.1 5 (3 * k + 1)).toNatClampNeg = _
      rw [(hv.1 k hkD).2.1, nI_clamp (by omega)]
    refine ⟨fun r hr => ?_, fun r => Nat.le_trans (step_le _ _ _ _ _ r) (h2 r)⟩
    rw [itN_s, itN_s]
    have key : s_rel (v.1 5) S s i (nI o) k (itN (s_rel (v.1 5) S s i (nI o)) F k) = relA (q.1 0 k) (q.1 1 k) (nI (costO h i o k)) (itN (s_rel (v.1 5) S s i (nI o)) F k) := by
      rw [s_rel, eA, eB, r_cost hq hh hS hkD hi, costO]
      by_cases g : o.testBit k = true
      · rw [if_pos ((bitR ho (by omega)).mpr g), if_pos g]; rfl
      · rw [if_neg (fun e => g ((bitR ho (by omega)).mp e)), if_neg g]
    rw [key]
    exact rel_n h1 h2 (by omega) (by omega) b2 (costO_b hh o hkD hi) r hr
theorem r_ways (hq : POk q) (hv : RP q v) (hh : HOk q h) (hS : RH q h s S) {i o to : Nat} (hi : i < q.2 10) (ho : o < 2 ^ 31) (hto : to < 6) (F : Nat → Int32) : ∀ r, r < 6 → g_ways (v.1 5) S (v.1 4) F s i (nI to) (nI o) r = nI (distM q h i o to r) := by
  have e4 : (v.1 4 0).toNatClampNeg = q.2 9 := by rw [hv.2.2.2.2.1, nI_clamp (by have := hq.2.1.2; omega)]
  have h0 : ∀ n, n ≤ 6 → ∀ r, r < n → itN (s_far0 (nI to)) F n r = nI (initM 100000 to r) := by
    intro n
    induction n with
    | zero => intro _ r hr; exact absurd hr (by omega)
    | succ n ih =>
      intro hn r hr
      rw [itN_s, s_far0, initM]
      by_cases e : r = n
      · subst e
        by_cases e2 : r = to
        · rw [if_pos (by rw [e2]), pk_us, if_pos e2]; rfl
        · rw [if_neg (fun e => e2 ((nI_eq (by omega) (by omega)).mp e)), pk_us, if_neg e2]; rfl
      · have := ih (by omega) r (by omega)
        rw [initM] at this
        by_cases e2 : nI n = nI to
        · rw [if_pos e2, pk_un e]; exact this
        · rw [if_neg e2, pk_un e]; exact this
  have h1 : ∀ k, (∀ r, r < 6 → itN (s_turn (v.1 5) S (v.1 4) s i (nI o)) (itN (s_far0 (nI to)) F 6) k r = nI (runM (costO h i o) (q.1 0) (q.1 1) (q.2 9) 100000 to k r)) ∧ ∀ r, runM (costO h i o) (q.1 0) (q.1 1) (q.2 9) 100000 to k r ≤ 100000 := by
    intro k
    induction k with
    | zero =>
      refine ⟨h0 6 (Nat.le_refl _), fun r => ?_⟩
      show (if r = to then 0 else 100000) ≤ 100000
      split <;> omega
    | succ k ih =>
      have := rRound_n hq hv hh hS hi ho ih.1 ih.2 (q.2 9) (Nat.le_refl _)
      rw [← e4] at this
      refine ⟨fun r hr => ?_, fun r => ?_⟩
      · rw [itN_s, s_turn]
        have := this.1 r hr
        rw [this]
        show _ = nI (itN (stepM (costO h i o) (q.1 0) (q.1 1)) (runM (costO h i o) (q.1 0) (q.1 1) (q.2 9) 100000 to k) (q.2 9) r)
        rw [e4]
      · have := this.2 r
        rw [e4] at this
        exact this
  exact (h1 6).1
theorem r_wayOf (hq : POk q) (hv : RP q v) (hh : HOk q h) (hS : RH q h s S) {i to a : Nat} (hi : i < q.2 10) (hto : to < 6) (ha : a < 6) (F : Nat → Int32) : g_wayOf (v.1 5) S (v.1 4) F s i a (nI to) = wayM q h i 0 a to := by
  have := r_ways hq hv hh hS (o := 0) hi (by decide) hto F a ha
  rw [show nI 0 = (0 : Int32) from rfl] at this
  have hb := (dist_good hq hh hi 0 to).2.2.1 a
  rw [g_wayOf, this, wayM, show (100000 : Int32) = nI 100000 from rfl]
  by_cases g : distM q h i 0 to a < 100000
  · rw [if_pos g, if_neg (fun e => by have := (nI_leI (by decide) (by omega)).mp e; omega)]
  · rw [if_neg g, if_pos ((nI_leI (by decide) (by omega)).mpr (by omega))]
theorem r_firstOf (hq : POk q) (hv : RP q v) (hh : HOk q h) (hS : RH q h s S) {i to a : Nat} (hi : i < q.2 10) (hto : to < 6) (ha : a < 6) (F : Nat → Int32) : g_firstOf (v.1 5) S (v.1 4) F s i a (nI to) = optI (firstO q h i to a) := by
  have e4 : (v.1 4 0).toNatClampNeg = q.2 9 := by rw [hv.2.2.2.2.1, nI_clamp (by have := hq.2.1.2; omega)]
  have hw := r_ways hq hv hh hS (o := 0) hi (by decide) hto F
  rw [show nI 0 = (0 : Int32) from rfl] at hw
  have hR := hq.1.2
  have hg := dist_good hq hh hi 0 to
  rw [g_firstOf, r_wayOf hq hv hh hS hi hto ha, e4, firstO]
  by_cases g : 0 < distM q h i 0 to a ∧ distM q h i 0 to a < 100000
  · rw [if_neg (Int32.not_le.mpr ((way_pos hq hh hi).mpr g)), if_pos g]
    congr 1
    refine fnd_congr (fun k hk => ?_)
    obtain ⟨b0, b1, -⟩ := ends_b hq k hk
    have ho := oth_b hq a hk
    have hcb := cost_b hh hk hi
    have hxb := hg.2.2.1 (othM q k a)
    have hab := hg.2.2.2.2 a g.2
    rw [p_first, pfM]
    by_cases g0 : q.1 0 k = a ∨ q.1 1 k = a
    · rw [if_pos ((r_isOf hq hv hk (by omega)).mpr g0), if_pos g0, r_cost hq hh hS hk hi, r_over hq hv hk (by omega), nI_clamp (by omega), hw _ (by omega), nI_add, r_wayOf hq hv hh hS hi hto ha, wayM, if_pos g.2]
      by_cases g3 : costM h k i + distM q h i 0 to (othM q k a) = distM q h i 0 to a
      · rw [if_pos (by rw [g3]), decide_eq_true g3]
      · rw [if_neg (fun e => g3 ((nI_eq (by omega) (by omega)).mp e)), decide_eq_false g3]
    · rw [if_neg (fun e => g0 ((r_isOf hq hv hk (by omega)).mp e)), if_neg g0]
  · rw [if_pos (Int32.not_lt.mp (fun e => g ((way_pos hq hh hi).mp e))), if_neg g]
    rfl
theorem first_ex (hq : POk q) (hh : HOk q h) {i to a d : Nat} (hi : i < q.2 10) (hf : firstO q h i to a = some d) : d < q.2 9 ∧ isOfM q d a ∧ costM h d i + distM q h i 0 to (othM q d a) = distM q h i 0 to a ∧ distM q h i 0 to a < 100000 := by
  unfold firstO at hf
  by_cases g : 0 < distM q h i 0 to a ∧ distM q h i 0 to a < 100000
  · rw [if_pos g] at hf
    obtain ⟨h1, h2, -⟩ := fnd_ex hf
    unfold pfM at h2
    by_cases g0 : q.1 0 d = a ∨ q.1 1 d = a
    · rw [if_pos g0] at h2
      exact ⟨h1, g0, of_decide_eq_true h2, g.2⟩
    · rw [if_neg g0] at h2; cases h2
  · rw [if_neg g] at hf; cases hf
end WM
