/-! walks and weeks, in natural numbers and in both -/
noncomputable def stepW (q : PN) (i to : Nat) (z : Bool) (h : HN) : HN := (firstO q h i to (h.2.2.1 i)).elim h (fun d => passM q h i d z)
noncomputable def walkW (q : PN) (i to : Nat) (z : Bool) (h : HN) (n : Nat) : HN := itN (fun _ => stepW q i to z) h n
section WW
variable {q : PN} {h : HN} {w v u y : OV} {S : Nat → Int32} {s : Nat}
theorem stepW_no {i to : Nat} {z : Bool} (e : firstO q h i to (h.2.2.1 i) = none) : stepW q i to z h = h := by rw [stepW, e]; rfl
theorem stepW_some {i to d : Nat} {z : Bool} (e : firstO q h i to (h.2.2.1 i) = some d) : stepW q i to z h = passM q h i d z := by rw [stepW, e]; rfl
theorem stepW_ok (hq : POk q) (hh : HOk q h) {i to : Nat} (z : Bool) (hi : i < q.2 10) : HOk q (stepW q i to z h) := by
  cases e : firstO q h i to (h.2.2.1 i) with
  | none => rw [stepW_no e]; exact hh
  | some d => rw [stepW_some e]; exact pass_ok hq hh hi (first_ex hq hh hi e).1 z
theorem walkW_ok (hq : POk q) (hh : HOk q h) {i to : Nat} (z : Bool) (hi : i < q.2 10) : ∀ n, HOk q (walkW q i to z h n)
  | 0 => hh
  | n + 1 => stepW_ok hq (walkW_ok hq hh z hi n) z hi
theorem walkW_front (i to : Nat) (z : Bool) : ∀ (n : Nat) (h : HN), walkW q i to z h (n + 1) = walkW q i to z (stepW q i to z h) n
  | 0, _ => rfl
  | n + 1, h => by
    show stepW q i to z (walkW q i to z h (n + 1)) = stepW q i to z (walkW q i to z (stepW q i to z h) n)
    rw [walkW_front i to z n h]
theorem walkW_stop {i to : Nat} {z : Bool} (e : firstO q h i to (h.2.2.1 i) = none) : ∀ n, walkW q i to z h n = h
  | 0 => rfl
  | n + 1 => by
    show stepW q i to z (walkW q i to z h n) = h
    rw [walkW_stop e n, stepW_no e]
theorem walkW_add (i to : Nat) (z : Bool) (n : Nat) : ∀ m, walkW q i to z h (n + m) = walkW q i to z (walkW q i to z h n) m
  | 0 => rfl
  | m + 1 => by
    show stepW q i to z (walkW q i to z h (n + m)) = stepW q i to z (walkW q i to z (walkW q i to z h n) m)
    rw [walkW_add i to z n m]
/-- how many rooms are farther -/
def farC (q : PN) (h : HN) (i to : Nat) : Nat := cnt (fun r => decide (distM q h i 0 to (h.2.2.1 i) < distM q h i 0 to r)) (q.2 8)
theorem far_b (hh : HOk q h) {i to : Nat} (hi : i < q.2 10) : farC q h i to + 1 ≤ q.2 8 := cnt_top (hh.2.2 i hi)
theorem far_step (hq : POk q) (hh : HOk q h) {i to d : Nat} (z : Bool) (hi : i < q.2 10) (e : firstO q h i to (h.2.2.1 i) = some d) : farC q h i to + 1 ≤ farC q (stepW q i to z h) i to := by
  obtain ⟨hd, ho, hc, hlt⟩ := first_ex hq hh hi e
  have hp := pass_ok hq hh hi hd z
  rw [stepW_some e]
  have hs : ∀ d', d' ≠ d → costO (passM q h i d z) i 0 d' = costO h i 0 d' := by
    intro d' hne
    rw [costO_0, costO_0]
    unfold costM
    have e0 : upd2 h.1 d i (becM q i (h.1 d i) z) d' i = h.1 d' i := if_neg (fun e => hne e.1)
    show (if h.2.1 d' = 0 then 1 + upd2 h.1 d i (becM q i (h.1 d i) z) d' i else 1) = _
    rw [e0]
  have he : Edg (q.1 0) (q.1 1) d (h.2.2.1 i) (othM q d (h.2.2.1 i)) := by
    unfold othM
    by_cases g : q.1 0 d = h.2.2.1 i
    · rw [if_pos g]; exact Or.inl ⟨g, rfl⟩
    · rw [if_neg g]; exact Or.inr ⟨ho.resolve_left g, rfl⟩
  have hpl : (passM q h i d z).2.2.1 i = othM q d (h.2.2.1 i) := upN_s _ _ _
  unfold farC
  rw [hpl]
  exact walk_cnt (c := costO h i 0) (c' := costO (passM q h i d z) i 0) (d0 := d) (fun d' hd' => (costO_b hh 0 hd' hi).1) (fun d' hd' => (costO_b hp 0 hd' hi).1) hs (dist_good hq hh hi 0 to) (dist_good hq hp hi 0 to) he (by rw [costO_0]; omega) hd hlt (hh.2.2 i hi)
theorem walk_end (hq : POk q) (hh : HOk q h) {i to : Nat} (z : Bool) (hi : i < q.2 10) : ∃ n, n ≤ 5 ∧ firstO q (walkW q i to z h n) i to ((walkW q i to z h n).2.2.1 i) = none ∧ ∀ k, k < n → firstO q (walkW q i to z h k) i to ((walkW q i to z h k).2.2.1 i) ≠ none := by
  have hR := hq.1.2
  have hex : ∃ n, n ≤ 5 ∧ firstO q (walkW q i to z h n) i to ((walkW q i to z h n).2.2.1 i) = none := by
    refine Classical.byContradiction fun hno => ?_
    have hall : ∀ n, n ≤ 6 → n ≤ farC q (walkW q i to z h n) i to := by
      intro n
      induction n with
      | zero => intro _; exact Nat.zero_le _
      | succ n ih =>
        intro hn
        cases e : firstO q (walkW q i to z h n) i to ((walkW q i to z h n).2.2.1 i) with
        | none => exact absurd ⟨n, by omega, e⟩ hno
        | some d =>
          have := far_step hq (walkW_ok hq hh z hi n) z hi e
          have := ih (by omega)
          show n + 1 ≤ farC q (stepW q i to z (walkW q i to z h n)) i to
          omega
    have h1 := hall 6 (Nat.le_refl _)
    have h2 := far_b (to := to) (walkW_ok hq hh (to := to) z hi 6) hi
    omega
  obtain ⟨n, ⟨hn, he⟩, hm⟩ := pk_least (fun n => n ≤ 5 ∧ firstO q (walkW q i to z h n) i to ((walkW q i to z h n).2.2.1 i) = none) hex
  exact ⟨n, hn, he, fun k hk e => hm k hk ⟨by omega, e⟩⟩
theorem c_go (hq : POk q) (hw : CP q w) {i to : Nat} (z : Int32) (hi : i < q.2 10) (hto : to < 6) : ∀ n h u y, HOk q h → CH q h u → CH q (walkW q i to (decide (¬ z = 0)) h n) (goGo w (nI i) (nI to) z n (u, y)).1
  | 0, h, u, y, _, hu => hu
  | n + 1, h, u, y, hh, hu => by
    have hL := hq.2.2.1.2
    have hR := hq.1.2
    have hp := hh.2.2 i hi
    have hlow := c_lowest (y := y) hq hw hh hu hi hto (a := h.2.2.1 i) (by omega)
    simp only [goGo]
    rw [rAt_n (by omega) (by decide), hu.2.2.2.1 i hi, hlow]
    cases e : firstO q h i to (h.2.2.1 i) with
    | none =>
      rw [if_neg (show ¬ (0 : Int32) ≤ optI none by decide), walkW_stop e]
      exact hu
    | some d =>
      obtain ⟨hd, ho, -, -⟩ := first_ex hq hh hi e
      have hD := hq.2.1.2
      rw [if_pos (show (0 : Int32) ≤ optI (some d) from nI_pos' (by omega)), walkW_front, stepW_some e]
      exact c_go hq hw z hi hto n _ _ _ (pass_ok hq hh hi hd _) (c_pass hq hw hh hu hi hd ho z)
theorem fo_n (hq : POk q) (hv : RP q v) (hh : HOk q h) {i to : Nat} (hi : i < q.2 10) (hto : to < 6) {X : (Nat → Int32) × (Nat → Int32)} (hS : RH q h 11 X.1) : fo (v.1 5) (v.1 4) i (nI to) X = optI (firstO q h i to (h.2.2.1 i)) := by
  have hR := hq.1.2
  have hp := hh.2.2 i hi
  have e1 : X.1 (546 + i) = nI (h.2.2.1 i) := hS.2.2.1 i hi
  rw [fo, e1, nI_clamp (by omega)]
  exact r_firstOf hq hv hh hS hi hto (by omega) X.2
theorem r_wk (hq : POk q) (hv : RP q v) (hh : HOk q h) {i to : Nat} (z : Int32) (hi : i < q.2 10) (hto : to < 6) {X : (Nat → Int32) × (Nat → Int32)} (hS : RH q h 11 X.1) {n : Nat} (hn : ∀ k, k < n → firstO q (walkW q i to (decide (¬ z = 0)) h k) i to ((walkW q i to (decide (¬ z = 0)) h k).2.2.1 i) ≠ none) : ∀ k, k ≤ n → RH q (walkW q i to (decide (¬ z = 0)) h k) 11 (g_wk (v.1 3) (v.1 8) (v.1 5) (v.1 4) i (nI to) z X k).1 ∧ sameS (g_wk (v.1 3) (v.1 8) (v.1 5) (v.1 4) i (nI to) z X k).1 X.1
  | 0, _ => ⟨hS, fun _ _ => rfl⟩
  | k + 1, hk => by
    obtain ⟨h1, h2⟩ := r_wk hq hv hh z hi hto hS hn k (by omega)
    have hok := walkW_ok hq hh (to := to) (decide (¬ z = 0)) hi k
    have hD := hq.2.1.2
    have hL := hq.2.2.1.2
    have hfo := fo_n hq hv hok hi hto h1
    unfold g_wk at h1 h2 hfo ⊢
    rw [itN_s]
    generalize itN (s_wk (v.1 3) (v.1 8) (v.1 5) (v.1 4) i (nI to) z) X k = Y at h1 h2 hfo
    cases e : firstO q (walkW q i to (decide (¬ z = 0)) h k) i to ((walkW q i to (decide (¬ z = 0)) h k).2.2.1 i) with
    | none => exact absurd e (hn k (by omega))
    | some d =>
      obtain ⟨hd, -, -, -⟩ := first_ex hq hok hi e
      rw [e] at hfo
      show RH q (stepW q i to _ (walkW q i to _ h k)) 11 (g_goesS (v.1 3) (v.1 8) (v.1 5) Y.1 11 i (fo (v.1 5) (v.1 4) i (nI to) Y).toNatClampNeg z) ∧ sameS (g_goesS (v.1 3) (v.1 8) (v.1 5) Y.1 11 i (fo (v.1 5) (v.1 4) i (nI to) Y).toNatClampNeg z) X.1
      rw [hfo, stepW_some e]
      show RH q _ 11 (g_goesS (v.1 3) (v.1 8) (v.1 5) Y.1 11 i (nI d).toNatClampNeg z) ∧ sameS (g_goesS (v.1 3) (v.1 8) (v.1 5) Y.1 11 i (nI d).toNatClampNeg z) X.1
      rw [nI_clamp (by omega)]
      exact ⟨r_goes hq hv hok h1 hi hd z, fun j hj => by rw [goes_out _ _ _ _ 11 z (by omega) (by omega) (by omega)]; exact h2 j hj⟩
theorem r_walk (hq : POk q) (hv : RP q v) (hh : HOk q h) {i to : Nat} (z : Int32) (hi : i < q.2 10) (hto : to < 6) {X : (Nat → Int32) × (Nat → Int32)} (hS : RH q h 11 X.1) : wkOk (v.1 3) (v.1 8) (v.1 5) (v.1 4) i (nI to) z X (wkN (v.1 3) (v.1 8) (v.1 5) (v.1 4) i (nI to) z X) ∧ RH q (walkW q i to (decide (¬ z = 0)) h 6) 11 (g_walked (v.1 3) (v.1 8) (v.1 5) (v.1 4) i (nI to) z X (wkN (v.1 3) (v.1 8) (v.1 5) (v.1 4) i (nI to) z X)).1 ∧ sameS (g_walked (v.1 3) (v.1 8) (v.1 5) (v.1 4) i (nI to) z X (wkN (v.1 3) (v.1 8) (v.1 5) (v.1 4) i (nI to) z X)).1 X.1 := by
  have hD := hq.2.1.2
  have hL := hq.2.2.1.2
  have hR := hq.1.2
  obtain ⟨n, hn5, hnone, hsome⟩ := walk_end hq hh (to := to) (decide (¬ z = 0)) hi
  have hk := r_wk hq hv hh z hi hto hS hsome
  have hfo : ∀ k, k ≤ n → fo (v.1 5) (v.1 4) i (nI to) (g_wk (v.1 3) (v.1 8) (v.1 5) (v.1 4) i (nI to) z X k) = optI (firstO q (walkW q i to (decide (¬ z = 0)) h k) i to ((walkW q i to (decide (¬ z = 0)) h k).2.2.1 i)) := fun k hkn => fo_n hq hv (walkW_ok hq hh _ hi k) hi hto (hk k hkn).1
  have hN : wkN (v.1 3) (v.1 8) (v.1 5) (v.1 4) i (nI to) z X = n := by
    have f1 : ∀ j, j < n → decide (fo (v.1 5) (v.1 4) i (nI to) (g_wk (v.1 3) (v.1 8) (v.1 5) (v.1 4) i (nI to) z X j) < 0) = false := by
      intro j hj
      rw [hfo j (by omega)]
      cases e : firstO q (walkW q i to (decide (¬ z = 0)) h j) i to ((walkW q i to (decide (¬ z = 0)) h j).2.2.1 i) with
      | none => exact absurd e (hsome j hj)
      | some d =>
        have := (first_ex hq (walkW_ok hq hh _ hi j) hi e).1
        exact decide_eq_false (nI_pos (by omega))
    have f2 : decide (fo (v.1 5) (v.1 4) i (nI to) (g_wk (v.1 3) (v.1 8) (v.1 5) (v.1 4) i (nI to) z X n) < 0) = true := by
      rw [hfo n (Nat.le_refl _), hnone]
      decide
    unfold wkN
    rw [fnd_some (P := fun k => decide (fo (v.1 5) (v.1 4) i (nI to) (g_wk (v.1 3) (v.1 8) (v.1 5) (v.1 4) i (nI to) z X k) < 0)) (k := n) (by omega) f1 f2]
    rfl
  rw [hN]
  have h6 : walkW q i to (decide (¬ z = 0)) h 6 = walkW q i to (decide (¬ z = 0)) h n := by
    rw [show 6 = n + (6 - n) by omega, walkW_add, walkW_stop hnone]
  refine ⟨⟨fun k hkn => ?_, fun k hkn => ?_, ?_⟩, ?_, (hk n (Nat.le_refl _)).2⟩
  · have hp := (walkW_ok hq hh (to := to) (decide (¬ z = 0)) hi k).2.2 i hi
    have := (hk k hkn).1.2.2.1 i hi
    rw [show 546 + i = 46 * 11 + 40 + i by omega, this]
    exact vp_in_nI (by omega) (by decide)
  · rw [hfo k (by omega)]
    have hok := walkW_ok hq hh (to := to) (decide (¬ z = 0)) hi k
    cases e : firstO q (walkW q i to (decide (¬ z = 0)) h k) i to ((walkW q i to (decide (¬ z = 0)) h k).2.2.1 i) with
    | none => exact absurd e (hsome k hkn)
    | some d =>
      have hd := (first_ex hq hok hi e).1
      show ¬ nI d < 0 ∧ (nI d).toNatClampNeg < 8 ∧ ¬ g_costs _ 11 (nI d).toNatClampNeg i ≤ 0
      rw [nI_clamp (by omega), r_cost hq hok (hk k (by omega)).1 hd hi]
      have hcb := cost_b hok hd hi
      exact ⟨nI_pos (by omega), by omega, nI_nle (by omega) (by omega)⟩
  · rw [hfo n (Nat.le_refl _), hnone]
    decide
  · rw [h6]
    exact (hk n (Nat.le_refl _)).1
/-- a day: there and back, and a night -/
noncomputable def dayM (q : PN) (z k : Nat) (h : HN) : HN := nightM q (walkW q (drawN z k % q.2 10) (h.2.2.1 (drawN z k % q.2 10)) (decide (¬ wk_z z k = 0)) (walkW q (drawN z k % q.2 10) (q.1 6 (drawN z k % q.2 10)) (decide (¬ wk_z z k = 0)) h 6) 6)
noncomputable def weekM (q : PN) (z : Nat) (h : HN) (n : Nat) : HN := itN (dayM q z) h n
theorem draw_i (hq : POk q) (z k : Nat) : drawN z k % q.2 10 < q.2 10 := Nat.mod_lt _ (by have := hq.2.2.1.1; omega)
theorem day_ok (hq : POk q) (hh : HOk q h) (z k : Nat) : HOk q (dayM q z k h) := night_ok (walkW_ok hq (walkW_ok hq hh _ (draw_i hq z k) 6) _ (draw_i hq z k) 6)
theorem week_ok (hq : POk q) (hh : HOk q h) (z : Nat) : ∀ n, HOk q (weekM q z h n)
  | 0 => hh
  | n + 1 => day_ok hq (week_ok hq hh z n) z n
theorem th_n (hq : POk q) (hw : CP q w) {x : Nat} (hx : x < 2 ^ 31) : th_i w (nI x) = nI (x % q.2 10) := by
  have := hq.2.2.1
  rw [th_i, hw.2.2.2.2.2.1, pk_rem hx (by omega) (by omega)]
theorem thz_n {x : Nat} (hx : x < 2 ^ 31) : th_z (nI x) = if nI (x / 8 % 2) = 1 then 1 else 0 := by
  have h8 : x / 8 ≤ x := Nat.div_le_self _ _
  rw [th_z, show (8 : Int32) = nI 8 from rfl, pk_div hx (by decide) (by decide), show (2 : Int32) = nI 2 from rfl, pk_rem (by omega) (by decide) (by decide)]
theorem wkd_n {z k : Nat} (hz : z ≤ 9999) (hk : k < 60) : wk_d (nI z) k = nI (drawN z k) := draw_n hz hk
theorem c_day (hq : POk q) (hw : CP q w) (hh : HOk q h) (hu : CH q h u) {z k : Nat} (hz : z ≤ 9999) (hk : k < 60) (y : OV) : CH q (dayM q z k h) (s_wkF w (nI z) k (u, y)).1 := by
  have hL := hq.2.2.1
  have hR := hq.1.2
  have hi := draw_i hq z k
  have hdb := draw_b z k
  have hE := (hq.2.2.2.2.2.2.2.2.1 _ hi).2
  have hp := hh.2.2 _ hi
  have h1 : (1 : Int32) ≤ w.2 10 := by rw [hw.2.2.2.2.2.1]; exact nI_le (a := 1) hL.1 (by omega)
  unfold s_wkF
  rw [wkd_n hz hk, there_eq h1 (thz_n (by omega)), show nI (drawN z k) - nI (drawN z k) / w.2 10 * w.2 10 = nI (drawN z k % q.2 10) from th_n hq hw (by omega)]
  rw [rAt_n (by omega) (by decide), rAt_n (by omega) (by decide), (hw.2.1 _ hi).2, hu.2.2.2.1 _ hi]
  exact c_night hq hw (walkW_ok hq (walkW_ok hq hh _ hi 6) _ hi 6) (c_go hq hw _ hi (by omega) 6 _ _ _ (walkW_ok hq hh _ hi 6) (c_go hq hw _ hi (by omega) 6 _ _ _ hh hu))
theorem c_week (hq : POk q) (hw : CP q w) (hh : HOk q h) (hu : CH q h u) {z : Nat} (hz : z ≤ 9999) (r y : OV) : ∀ n, n ≤ 60 → CH q (weekM q z h n) (f_week w u r y (nI z) n).1
  | 0, _ => c_become hq hu r
  | n + 1, hn => by
    have ih := c_week hq hw hh hu hz r y n (by omega)
    have := c_day hq hw (week_ok hq hh z n) ih hz (k := n) (by omega) (f_week w u r y (nI z) n).2
    rw [mk_eta] at this
    exact this
theorem r_day (hq : POk q) (hv : RP q v) (hh : HOk q h) {z k : Nat} {X : (Nat → Int32) × (Nat → Int32) × (Nat → Int32)} (hS : RH q h 11 X.1) : dayOk v (q.2 10) z k X ∧ RH q (dayM q z k h) 11 (s_week v (q.2 10) z k X).1 ∧ sameS (s_week v (q.2 10) z k X).1 X.1 := by
  have hL := hq.2.2.1
  have hR := hq.1.2
  have hi := draw_i hq z k
  have hE := (hq.2.2.2.2.2.2.2.2.1 _ hi).2
  have hp := hh.2.2 _ hi
  have eE : v.1 8 (3 * wk_i (q.2 10) z k + 2) = nI (q.1 6 (drawN z k % q.2 10)) := (hv.2.1 _ hi).2
  have eP : X.1 (546 + wk_i (q.2 10) z k) = nI (h.2.2.1 (drawN z k % q.2 10)) := hS.2.2.1 _ hi
  have w1 := r_walk hq hv hh (to := q.1 6 (drawN z k % q.2 10)) (wk_z z k) hi (by omega) (X := (X.1, X.2.1)) hS
  have hok := walkW_ok hq hh (to := q.1 6 (drawN z k % q.2 10)) (decide (¬ wk_z z k = 0)) hi 6
  have d1 : wk1 v (q.2 10) z k X = g_walked (v.1 3) (v.1 8) (v.1 5) (v.1 4) (drawN z k % q.2 10) (nI (q.1 6 (drawN z k % q.2 10))) (wk_z z k) (X.1, X.2.1) (wkN (v.1 3) (v.1 8) (v.1 5) (v.1 4) (drawN z k % q.2 10) (nI (q.1 6 (drawN z k % q.2 10))) (wk_z z k) (X.1, X.2.1)) := by
    unfold wk1
    rw [eE]
  have w2 := r_walk hq hv hok (to := h.2.2.1 (drawN z k % q.2 10)) (wk_z z k) hi (by omega) (X := wk1 v (q.2 10) z k X) (by rw [d1]; exact w1.2.1)
  have d2 : wk2 v (q.2 10) z k X = g_walked (v.1 3) (v.1 8) (v.1 5) (v.1 4) (drawN z k % q.2 10) (nI (h.2.2.1 (drawN z k % q.2 10))) (wk_z z k) (wk1 v (q.2 10) z k X) (wkN (v.1 3) (v.1 8) (v.1 5) (v.1 4) (drawN z k % q.2 10) (nI (h.2.2.1 (drawN z k % q.2 10))) (wk_z z k) (wk1 v (q.2 10) z k X)) := by
    unfold wk2
    rw [eP]
  refine ⟨⟨?_, ?_⟩, ?_⟩
  · rw [eE]; exact w1.1
  · rw [eP]; exact w2.1
  · have hn := r_night hq hv (walkW_ok hq hok (to := h.2.2.1 (drawN z k % q.2 10)) (decide (¬ wk_z z k = 0)) hi 6) X.2.2 (by rw [← d2] at w2; exact w2.2.1)
    refine ⟨hn.1, fun j hj => ?_⟩
    show nightR v (wk2 v (q.2 10) z k X).1 X.2.2 11 j = _
    rw [hn.2 j (by omega), d2, w2.2.2 j hj, d1]
    exact w1.2.2 j hj
theorem r_week (hq : POk q) (hv : RP q v) (hh : HOk q h) (hS : RH q h 0 (v.1 10)) (z : Nat) : ∀ n, RH q (weekM q z h n) 11 (g_week v (q.2 10) z n).1 ∧ sameS (g_week v (q.2 10) z n).1 (v.1 10)
  | 0 => ⟨RH_mv (s := 0) hq.2.1.2 hq.2.2.1.2 (fun k hk => copies_in (v.1 10) 0 11 hk) hS, fun j hj => copies_out _ _ _ (by omega)⟩
  | n + 1 => by
    obtain ⟨h1, h2⟩ := r_week hq hv hh hS z n
    have h3 := r_day hq hv (week_ok hq hh z n) (z := z) (k := n) h1
    exact ⟨h3.2.1, fun j hj => (h3.2.2 j hj).trans (h2 j hj)⟩
theorem r_weekDay (hq : POk q) (hv : RP q v) (hh : HOk q h) (hS : RH q h 0 (v.1 10)) (z n : Nat) : dayOk v (q.2 10) z n (g_week v (q.2 10) z n) := (r_day hq hv (week_ok hq hh z n) (z := z) (k := n) (r_week hq hv hh hS z n).1).1
/-! sums of grudges -/
def rowSum (h : HN) (d : Nat) : Nat → Nat
  | 0 => 0
  | k + 1 => rowSum h d k + h.1 d k
def allSum (q : PN) (h : HN) : Nat → Nat
  | 0 => 0
  | d + 1 => allSum q h d + rowSum h d (q.2 10)
theorem c_row (hq : POk q) (hu : CH q h u) {d : Nat} (hd : d < q.2 9) : ∀ k, k ≤ q.2 10 → itN (s_gsum u (nI d)) 0 k = nI (rowSum h d k)
  | 0, _ => rfl
  | k + 1, hk => by
    have hD := hq.2.1.2
    have hL := hq.2.2.1.2
    rw [itN_s, c_row hq hu hd k (by omega), s_gsum, gOf_n (by omega) (by omega), hu.1 d k hd (by omega), nI_add]
    rfl
theorem c_rowD (hq : POk q) (hw : CP q w) (hu : CH q h u) {d : Nat} (hd : d < q.2 9) : f_X0_grudgesOfDoor u w (nI d) = nI (rowSum h d (q.2 10)) := by
  rw [f_X0_grudgesOfDoor, hw.2.2.2.2.2.1, nI_clamp (by have := hq.2.2.1.2; omega)]
  exact c_row hq hu hd _ (Nat.le_refl _)
theorem c_all (hq : POk q) (hw : CP q w) (hu : CH q h u) : f_X0_allGrudges u w = nI (allSum q h (q.2 9)) := by
  have hD := hq.2.1.2
  have key : ∀ k, k ≤ q.2 9 → itN (s_gall u w) 0 k = nI (allSum q h k) := by
    intro k
    induction k with
    | zero => intro _; rfl
    | succ k ih =>
      intro hk
      rw [itN_s, ih (by omega), s_gall, c_rowD hq hw hu (by omega), nI_add]
      rfl
  rw [f_X0_allGrudges, hw.2.2.2.2.1, nI_clamp (by omega)]
  exact key _ (Nat.le_refl _)
theorem r_all (hq : POk q) (hv : RP q v) {S : Nat → Int32} (hS : RH q h 11 S) : itN (s_wsum (v.1 4) (v.1 7) S) 0 32 = nI (allSum q h (q.2 9)) := by
  have hD := hq.2.1
  have hL := hq.2.2.1
  have e4 : v.1 4 0 = nI (q.2 9) := hv.2.2.2.2.1
  have e7 : v.1 7 0 = nI (q.2 10) := hv.2.2.2.2.2.1
  have term : ∀ d j n, d < 8 → j < 4 → s_wsum (v.1 4) (v.1 7) S (4 * d + j) (nI n) = nI (n + (if d < q.2 9 then (if j < q.2 10 then h.1 d j else 0) else 0)) := by
    intro d j n hd hj
    have hS1 := hS.1 d j
    unfold s_wsum
    rw [e4, e7, show (4 * d + j) / 4 = d by omega, show (4 * d + j) % 4 = j by omega]
    by_cases g1 : d < q.2 9
    · rw [if_neg (nI_ge g1 (by omega)), if_pos g1]
      by_cases g2 : j < q.2 10
      · rw [if_neg (nI_ge g2 (by omega)), if_pos g2, show 506 + (4 * d + j) = 46 * 11 + 4 * d + j by omega, hS1 g1 g2, nI_add]
      · rw [if_pos (nI_le (by omega) (by omega)), if_neg g2, show (0 : Int32) = nI 0 from rfl, nI_add]
    · rw [if_pos (nI_le (by omega) (by omega)), if_neg g1, show (0 : Int32) = nI 0 from rfl, nI_add]
  have key : ∀ d, d ≤ 8 → itN (s_wsum (v.1 4) (v.1 7) S) 0 (4 * d) = nI (allSum q h (min d (q.2 9))) := by
    intro d
    induction d with
    | zero => intro _; rw [Nat.zero_min]; rfl
    | succ d ih =>
      intro hd
      rw [show 4 * (d + 1) = 4 * d + 3 + 1 by omega, itN_s, show 4 * d + 3 = 4 * d + 2 + 1 by omega, itN_s, show 4 * d + 2 = 4 * d + 1 + 1 by omega, itN_s, itN_s, ih (by omega), show 4 * d + 1 + 1 + 1 = 4 * d + 3 by omega, show 4 * d + 1 + 1 = 4 * d + 2 by omega]
      have t0 := term d 0 (allSum q h (min d (q.2 9))) (by omega) (by omega)
      rw [Nat.add_zero] at t0
      rw [t0, term d 1 _ (by omega) (by omega), term d 2 _ (by omega) (by omega), term d 3 _ (by omega) (by omega)]
      congr 1
      by_cases g : d < q.2 9
      · rw [Nat.min_eq_left (by omega), Nat.min_eq_left (by omega)]
        simp only [if_pos g, allSum]
        have hL1 := hL.1
        have hL2 := hL.2
        generalize q.2 10 = L at hL1 hL2
        rcases (show L = 1 ∨ L = 2 ∨ L = 3 ∨ L = 4 by omega) with rfl | rfl | rfl | rfl <;> simp [rowSum] <;> omega
      · rw [Nat.min_eq_right (by omega), Nat.min_eq_right (by omega)]
        simp only [if_neg g]
        omega
  have := key 8 (Nat.le_refl _)
  rw [Nat.min_eq_right hD.2] at this
  exact this
theorem news_eq (hq : POk q) (hw : CP q w) (hv : RP q v) (hu : CH q h u) (hS : RH q h 0 (v.1 10)) {d : Nat} (hd : d < q.2 9) : f_new w u (nI d) = g_news (v.1 7) (v.1 10) d := by
  have hL := hq.2.2.1
  have key : ∀ k, k ≤ q.2 10 → itN (s_news (v.1 10) d) 0 k = nI (rowSum h d k) := by
    intro k
    induction k with
    | zero => intro _; rfl
    | succ k ih =>
      intro hk
      have e := hS.1 d k hd (by omega)
      rw [Nat.mul_zero, Nat.zero_add] at e
      rw [itN_s, ih (by omega), s_news, e, nI_add]
      rfl
  rw [f_new, hw.2.2.2.2.2.1, if_neg (nI_nle (by omega) (by omega)), c_rowD hq hw hu hd, g_news, hv.2.2.2.2.2.1, nI_clamp (by omega), key _ (Nat.le_refl _)]
theorem fresh_n (hq : POk q) (hw : CP q w) (hv : RP q v) (hu : CH q h u) (hS : RH q h 0 (v.1 10)) : ∀ k, k ≤ q.2 9 - 1 → itN (s_frs w u) 0 k = nI (itN (s_fresh (v.1 7) (v.1 10)) 0 k) ∧ itN (s_fresh (v.1 7) (v.1 10)) 0 k ≤ k
  | 0, _ => ⟨rfl, Nat.le_refl _⟩
  | k + 1, hk => by
    obtain ⟨h1, h2⟩ := fresh_n hq hw hv hu hS k (by omega)
    rw [itN_s, itN_s, h1]
    generalize itN (s_fresh (v.1 7) (v.1 10)) 0 k = f at h1 h2
    unfold s_frs s_fresh
    rw [news_eq hq hw hv hu hS (by omega), news_eq hq hw hv hu hS (by omega)]
    by_cases g : g_news (v.1 7) (v.1 10) f ≤ g_news (v.1 7) (v.1 10) (k + 1)
    · rw [if_pos g, if_pos g]; exact ⟨rfl, by omega⟩
    · rw [if_neg g, if_neg g]; exact ⟨rfl, Nat.le_refl _⟩
theorem worst_n {G : Nat → Nat} {i D : Nat} {S : Nat → Int32} (hc : ∀ d, d < D → f_X0_grudgeOf u (nI d) (nI i) = nI (G d)) (hr : ∀ d, d < D → S (506 + 4 * d + i) = nI (G d)) : ∀ k, k ≤ D - 1 → itN (s_wst u (nI i)) 0 k = nI (itN (s_worst S i) 0 k) ∧ itN (s_worst S i) 0 k ≤ k
  | 0, _ => ⟨rfl, Nat.le_refl _⟩
  | k + 1, hk => by
    obtain ⟨h1, h2⟩ := worst_n hc hr k (by omega)
    rw [itN_s, itN_s, h1]
    generalize itN (s_worst S i) 0 k = f at h1 h2
    unfold s_wst s_worst
    rw [hc _ (by omega), hc _ (by omega), hr _ (by omega), hr _ (by omega)]
    by_cases g : nI (G (k + 1)) ≤ nI (G f)
    · rw [if_pos g, if_pos g]; exact ⟨rfl, by omega⟩
    · rw [if_neg g, if_neg g]; exact ⟨rfl, Nat.le_refl _⟩
/-! how often slammed -/
def aftM (q : PN) (i d o : Nat) : Nat → Nat
  | 0 => q.1 7 (i * 8 + d)
  | k + 1 => becM q i (aftM q i d o k) (o.testBit k)
theorem aft_b (hq : POk q) {i d : Nat} (hd : d < q.2 9) (hi : i < q.2 10) (o : Nat) : ∀ k, aftM q i d o k ≤ 99
  | 0 => hq.2.2.2.2.2.2.2.2.2 d i hd hi
  | k + 1 => bec_b hq (aft_b hq hd hi o k) _
theorem c_aft (hq : POk q) (hw : CP q w) {i d o k : Nat} (hd : d < q.2 9) (hi : i < q.2 10) (hk : k ≤ 8) (ho : o < 2 ^ 31) : f_X2_grudgeAfter w (nI d) (nI i) (nI k) (nI o) = nI (aftM q i d o k) := by
  have hD := hq.2.1.2
  have hL := hq.2.2.1.2
  rw [f_X2_grudgeAfter, nI_clamp (by omega), ix8, rAt_n (by omega) (by decide), hw.2.2.1 d i hd hi]
  have key : ∀ n, n ≤ 8 → itN (s_after w (nI i) (nI o)) (nI (q.1 7 (i * 8 + d))) n = nI (aftM q i d o n) := by
    intro n
    induction n with
    | zero => intro _; rfl
    | succ n ih =>
      intro hn
      rw [itN_s, ih (by omega), s_after, bit_n ho (by omega), c_bec hq hw hi (aft_b hq hd hi o n)]
      show nI (becM q i _ _) = nI (becM q i _ _)
      cases o.testBit n <;> rfl
  exact key k hk
theorem r_aft (hq : POk q) (hv : RP q v) {i d o k : Nat} (hd : d < q.2 9) (hi : i < q.2 10) (hk : k ≤ 8) (ho : o < 2 ^ 31) : g_becq v (nI i) (nI d) (nI k) (nI o) = nI (aftM q i d o k) := by
  have hD := hq.2.1.2
  have hL := hq.2.2.1.2
  rw [g_becq, nI_clamp (by omega), nI_clamp (by omega), nI_clamp (by omega), hv.2.2.1 d i hd hi]
  have key : ∀ n, n ≤ 8 → itN (s_becq (v.1 3) (v.1 8) i (nI o)) (nI (q.1 7 (i * 8 + d))) n = nI (aftM q i d o n) := by
    intro n
    induction n with
    | zero => intro _; rfl
    | succ n ih =>
      intro hn
      rw [itN_s, ih (by omega), s_becq, r_bec hq hv hi (aft_b hq hd hi o n)]
      show nI (becM q i _ _) = nI (becM q i _ _)
      by_cases g : o.testBit n = true
      · rw [if_pos ((bitR ho (by omega)).mpr g), g]; rfl
      · rw [if_neg (fun e => g ((bitR ho (by omega)).mp e)), show o.testBit n = false by simpa using g]; rfl
  exact key k hk
theorem how_n (hq : POk q) (hw : CP q w) (hv : RP q v) {i d k m : Nat} (hd : d < q.2 9) (hi : i < q.2 10) (hk : k ≤ 8) : ∀ n, n ≤ 256 → ∃ f x, f ≤ n ∧ itN (s_hw w (nI i) (nI d) (nI k) (nI m)) (0, 9) n = (nI f, nI x) ∧ x ≤ 9 ∧ g_how v (nI i) (nI d) (nI k) (nI m) n = (nI f, if f = 0 then -4 else nI x) ∧ (f = 0 → x = 9)
  | 0, _ => ⟨0, 9, Nat.le_refl _, rfl, Nat.le_refl _, rfl, fun _ => rfl⟩
  | n + 1, hn => by
    obtain ⟨f, x, hf, h1, h2, h3, h4⟩ := how_n hq hw hv (m := m) hd hi hk n (by omega)
    have hb := pop_bits n (by omega)
    have hp := pop_le 8 (by decide) n (by omega)
    unfold g_how at h3 ⊢
    rw [itN_s, itN_s, h1, h3, s_hw, s_how, c_aft hq hw hd hi hk (by omega), r_aft hq hv hd hi hk (by omega), hb.1, hb.2, show (1 : Int32) = nI 1 from rfl, nI_add, nI_add, nI_add, Nat.add_comm 1]
    by_cases g : nI (aftM q i d n k + 1) = nI m
    · rw [if_pos g, if_pos g]
      by_cases g2 : f = 0
      · subst g2
        have := h4 rfl
        subst this
        refine ⟨1, pop n, by omega, ?_, by omega, ?_, fun e => by omega⟩
        · show (nI (0 + 1), if nI (pop n) < nI 9 then nI (pop n) else nI 9) = _
          rw [if_pos (nI_lt (by omega) (by omega))]
        · show (nI (0 + 1), if (if 0 = 0 then -4 else nI 9 : Int32) < 0 then nI (pop n) else _) = _
          rw [if_pos (show (if 0 = 0 then -4 else nI 9 : Int32) < 0 by decide)]
          rfl
      · by_cases g3 : pop n < x
        · refine ⟨f + 1, pop n, by omega, ?_, by omega, ?_, fun e => by omega⟩
          · show (nI (f + 1), if nI (pop n) < nI x then nI (pop n) else nI x) = _
            rw [if_pos (nI_lt g3 (by omega))]
          · show (nI (f + 1), if (if f = 0 then -4 else nI x) < 0 then nI (pop n) else if (if f = 0 then -4 else nI x) ≤ nI (pop n) then (if f = 0 then -4 else nI x) else nI (pop n)) = (nI (f + 1), if f + 1 = 0 then -4 else nI (pop n))
            rw [if_neg g2, if_neg (nI_pos (by omega)), if_neg (nI_ge g3 (by omega)), if_neg (show ¬ f + 1 = 0 by omega)]
        · refine ⟨f + 1, x, by omega, ?_, h2, ?_, fun e => by omega⟩
          · show (nI (f + 1), if nI (pop n) < nI x then nI (pop n) else nI x) = _
            rw [if_neg (nI_nlt (by omega) (by omega))]
          · show (nI (f + 1), if (if f = 0 then -4 else nI x) < 0 then nI (pop n) else if (if f = 0 then -4 else nI x) ≤ nI (pop n) then (if f = 0 then -4 else nI x) else nI (pop n)) = (nI (f + 1), if f + 1 = 0 then -4 else nI x)
            rw [if_neg g2, if_neg (nI_pos (by omega)), if_pos (nI_le (by omega) (by omega)), if_neg (show ¬ f + 1 = 0 by omega)]
    · rw [if_neg g, if_neg g]
      exact ⟨f, x, by omega, rfl, h2, rfl, h4⟩
end WW
