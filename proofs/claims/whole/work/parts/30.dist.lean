/-! the ways in natural numbers: rounds over the doors, when they are at rest, that what is at rest is one -/
def cnt (P : Nat → Bool) : Nat → Nat
  | 0 => 0
  | n + 1 => (if P n = true then 1 else 0) + cnt P n
theorem cnt_mono {P Q : Nat → Bool} : ∀ {n : Nat}, (∀ k, k < n → P k = true → Q k = true) → cnt P n ≤ cnt Q n
  | 0, _ => Nat.le_refl _
  | n + 1, h => by
    have ih := cnt_mono (P := P) (Q := Q) (n := n) (fun k hk => h k (by omega))
    simp only [cnt]
    by_cases h1 : P n = true
    · rw [if_pos h1, if_pos (h n (by omega) h1)]; omega
    · rw [if_neg h1]
      split <;> omega
theorem cnt_lt {P Q : Nat → Bool} {j : Nat} (hp : P j = false) (hq : Q j = true) : ∀ {n : Nat}, j < n → (∀ k, k < n → P k = true → Q k = true) → cnt P n + 1 ≤ cnt Q n
  | 0, h, _ => absurd h (by omega)
  | n + 1, hj, h => by
    simp only [cnt]
    by_cases hjn : j = n
    · subst hjn
      have ih := cnt_mono (P := P) (Q := Q) (n := j) (fun k hk => h k (by omega))
      rw [if_neg (by rw [hp]; decide), if_pos hq]; omega
    · have ih := cnt_lt (P := P) (Q := Q) (j := j) hp hq (n := n) (by omega) (fun k hk => h k (by omega))
      by_cases h1 : P n = true
      · rw [if_pos h1, if_pos (h n (by omega) h1)]; omega
      · rw [if_neg h1]
        split <;> omega
theorem cnt_le (P : Nat → Bool) : ∀ n : Nat, cnt P n ≤ n
  | 0 => Nat.le_refl _
  | n + 1 => by
    have ih := cnt_le P n
    simp only [cnt]
    split <;> omega
theorem cnt_two {P : Nat → Bool} {i j n : Nat} (hi : i < n) (hj : j < n) (hij : i ≠ j) (h1 : P i = false) (h2 : P j = false) : cnt P n + 2 ≤ n := by
  have a1 := cnt_lt (P := P) (Q := fun k => P k || decide (k = i)) (j := i) h1 (by simp) (n := n) hi (fun k _ h => by simp [h])
  have a2 := cnt_lt (P := fun k => P k || decide (k = i)) (Q := fun _ => true) (j := j) (by simp [h2]; exact fun e => hij e.symm) rfl (n := n) hj (fun _ _ _ => rfl)
  have a3 := cnt_le (fun _ => true) n
  omega
def upN (F : Nat → Nat) (k x : Nat) : Nat → Nat := fun j => if j = k then x else F j
theorem upN_s (F : Nat → Nat) (k x : Nat) : upN F k x k = x := if_pos rfl
theorem upN_n {F : Nat → Nat} {k x j : Nat} (h : j ≠ k) : upN F k x j = F j := if_neg h
def stepM (c A B : Nat → Nat) (d : Nat) (F : Nat → Nat) : Nat → Nat :=
  if F (B d) + c d < F (A d) then upN F (A d) (F (B d) + c d) else if F (A d) + c d < F (B d) then upN F (B d) (F (A d) + c d) else F
def roundM (c A B : Nat → Nat) (D : Nat) (_ : Nat) (F : Nat → Nat) : Nat → Nat := itN (stepM c A B) F D
def initM (Z to : Nat) : Nat → Nat := fun r => if r = to then 0 else Z
def runM (c A B : Nat → Nat) (D Z to k : Nat) : Nat → Nat := itN (roundM c A B D) (initM Z to) k
theorem step_cases {c A B : Nat → Nat} {d : Nat} {F : Nat → Nat} {P : (Nat → Nat) → Prop} (h1 : F (B d) + c d < F (A d) → P (upN F (A d) (F (B d) + c d))) (h2 : F (A d) ≤ F (B d) + c d → F (A d) + c d < F (B d) → P (upN F (B d) (F (A d) + c d))) (h3 : F (A d) ≤ F (B d) + c d → F (B d) ≤ F (A d) + c d → P F) : P (stepM c A B d F) := by
  unfold stepM
  by_cases g1 : F (B d) + c d < F (A d)
  · rw [if_pos g1]; exact h1 g1
  · rw [if_neg g1]
    by_cases g2 : F (A d) + c d < F (B d)
    · rw [if_pos g2]; exact h2 (by omega) g2
    · rw [if_neg g2]; exact h3 (by omega) (by omega)
theorem step_le (c A B : Nat → Nat) (d : Nat) (F : Nat → Nat) (r : Nat) : stepM c A B d F r ≤ F r := by
  refine step_cases (P := fun G => G r ≤ F r) (fun h => ?_) (fun _ h => ?_) (fun _ _ => Nat.le_refl _)
  · by_cases e : r = A d
    · subst e; rw [upN_s]; omega
    · rw [upN_n e]; exact Nat.le_refl _
  · by_cases e : r = B d
    · subst e; rw [upN_s]; omega
    · rw [upN_n e]; exact Nat.le_refl _
theorem step_ok (c A B : Nat → Nat) (d : Nat) (F : Nat → Nat) : stepM c A B d F (A d) ≤ stepM c A B d F (B d) + c d ∧ stepM c A B d F (B d) ≤ stepM c A B d F (A d) + c d := by
  refine step_cases (P := fun G => G (A d) ≤ G (B d) + c d ∧ G (B d) ≤ G (A d) + c d) (fun h => ?_) (fun _ h => ?_) (fun h1 h2 => ⟨h1, h2⟩)
  · have e : B d ≠ A d := fun e => by rw [e] at h; omega
    rw [upN_s, upN_n e]; omega
  · have e : A d ≠ B d := fun e => by rw [e] at h; omega
    rw [upN_s, upN_n e]; omega
/-- a change comes out of one of its ends -/
theorem step_ch {c A B : Nat → Nat} {d : Nat} {F : Nat → Nat} {r : Nat} (h : stepM c A B d F r ≠ F r) : (r = A d ∧ F (B d) + c d < F (A d) ∧ stepM c A B d F r = F (B d) + c d) ∨ (r = B d ∧ F (A d) + c d < F (B d) ∧ stepM c A B d F r = F (A d) + c d) := by
  revert h
  refine step_cases (P := fun G => G r ≠ F r → (r = A d ∧ F (B d) + c d < F (A d) ∧ G r = F (B d) + c d) ∨ (r = B d ∧ F (A d) + c d < F (B d) ∧ G r = F (A d) + c d)) (fun h g => ?_) (fun _ h g => ?_) (fun _ _ g => absurd rfl g)
  · by_cases e : r = A d
    · subst e; exact Or.inl ⟨rfl, h, upN_s _ _ _⟩
    · exact absurd (upN_n e) g
  · by_cases e : r = B d
    · subst e; exact Or.inr ⟨rfl, h, upN_s _ _ _⟩
    · exact absurd (upN_n e) g
def Inv (c A B : Nat → Nat) (D Z to t : Nat) (F : Nat → Nat) : Prop :=
  F to = 0 ∧ (∀ r, F r ≤ Z) ∧ (∀ r, F r < Z → r ≠ to → ∃ d, d < D ∧ ((A d = r ∧ F (B d) + c d ≤ F r) ∨ (B d = r ∧ F (A d) + c d ≤ F r))) ∧ (∀ r, F r < Z → F r ≤ 100 * t)
theorem inv_step {c A B : Nat → Nat} {D Z to t d : Nat} {F : Nat → Nat} (hd : d < D) (hc : 1 ≤ c d ∧ c d ≤ 100) (h : Inv c A B D Z to t F) : Inv c A B D Z to (t + 1) (stepM c A B d F) := by
  obtain ⟨h1, h2, h3, h4⟩ := h
  refine ⟨?_, fun r => Nat.le_trans (step_le c A B d F r) (h2 r), fun r hr hn => ?_, fun r hr => ?_⟩
  · have := step_le c A B d F to
    omega
  · by_cases e : stepM c A B d F r = F r
    · rw [e] at hr
      obtain ⟨k, hk, ⟨g1, g2⟩ | ⟨g1, g2⟩⟩ := h3 r hr hn
      · exact ⟨k, hk, Or.inl ⟨g1, by have := step_le c A B d F (B k); omega⟩⟩
      · exact ⟨k, hk, Or.inr ⟨g1, by have := step_le c A B d F (A k); omega⟩⟩
    · rcases step_ch e with ⟨rfl, g2, g3⟩ | ⟨rfl, g2, g3⟩
      · exact ⟨d, hd, Or.inl ⟨rfl, by have := step_le c A B d F (B d); omega⟩⟩
      · exact ⟨d, hd, Or.inr ⟨rfl, by have := step_le c A B d F (A d); omega⟩⟩
  · by_cases e : stepM c A B d F r = F r
    · rw [e] at hr ⊢
      have := h4 r hr
      omega
    · rcases step_ch e with ⟨rfl, g2, g3⟩ | ⟨rfl, g2, g3⟩
      · have := h4 (B d) (by have := h2 (A d); omega)
        omega
      · have := h4 (A d) (by have := h2 (B d); omega)
        omega
theorem inv_part {c A B : Nat → Nat} {D Z to t : Nat} {F : Nat → Nat} (hc : ∀ d, d < D → 1 ≤ c d ∧ c d ≤ 100) (h : Inv c A B D Z to t F) : ∀ j, j ≤ D → Inv c A B D Z to (t + j) (itN (stepM c A B) F j)
  | 0, _ => h
  | j + 1, hj => inv_step (by omega) (hc j (by omega)) (inv_part hc h j (by omega))
theorem inv_run {c A B : Nat → Nat} {D Z to : Nat} (hc : ∀ d, d < D → 1 ≤ c d ∧ c d ≤ 100) : ∀ k, Inv c A B D Z to (k * D) (runM c A B D Z to k)
  | 0 => by
    refine ⟨if_pos rfl, fun r => ?_, fun r hr hn => ?_, fun r hr => ?_⟩
    · show (if r = to then 0 else Z) ≤ Z
      split <;> omega
    · have : (if r = to then 0 else Z) < Z := hr
      rw [if_neg hn] at this
      omega
    · have h1 : (if r = to then 0 else Z) < Z := hr
      show (if r = to then 0 else Z) ≤ _
      split at h1
      · rename_i e; rw [if_pos e]; omega
      · omega
  | k + 1 => by
    have := inv_part (A := A) (B := B) hc (inv_run (A := A) (B := B) (Z := Z) (to := to) hc k) D (Nat.le_refl _)
    rw [Nat.succ_mul]
    exact this
def StX (c A B : Nat → Nat) (D : Nat) (F : Nat → Nat) (x : Nat) : Prop := ∀ d, d < D → (F (B d) < x → F (A d) ≤ F (B d) + c d) ∧ (F (A d) < x → F (B d) ≤ F (A d) + c d)
def Done (c A B : Nat → Nat) (D : Nat) (F : Nat → Nat) : Prop := ∀ d, d < D → F (A d) ≤ F (B d) + c d ∧ F (B d) ≤ F (A d) + c d
theorem part_st {c A B : Nat → Nat} {D x : Nat} {F : Nat → Nat} (hc : ∀ d, d < D → 1 ≤ c d) (hF : StX c A B D F x) : ∀ j, j ≤ D → (∀ r, itN (stepM c A B) F j r ≤ F r) ∧ (∀ r, itN (stepM c A B) F j r ≠ F r → x < itN (stepM c A B) F j r) ∧ (∀ d, d < j → (itN (stepM c A B) F j (B d) ≤ x → itN (stepM c A B) F j (A d) ≤ itN (stepM c A B) F j (B d) + c d) ∧ (itN (stepM c A B) F j (A d) ≤ x → itN (stepM c A B) F j (B d) ≤ itN (stepM c A B) F j (A d) + c d))
  | 0, _ => ⟨fun _ => Nat.le_refl _, fun _ h => absurd rfl h, fun d h => absurd h (by omega)⟩
  | j + 1, hj => by
    obtain ⟨h1, h2, h3⟩ := part_st hc hF j (by omega)
    rw [itN_s]
    generalize itN (stepM c A B) F j = E at h1 h2 h3
    have k1 : ∀ r, stepM c A B j E r ≤ F r := fun r => Nat.le_trans (step_le c A B j E r) (h1 r)
    have k2 : ∀ r, stepM c A B j E r ≠ F r → x < stepM c A B j E r := by
      intro r hr
      by_cases e : stepM c A B j E r = E r
      · rw [e] at hr ⊢; exact h2 r hr
      · have hcj := hc j (by omega)
        have hFj := hF j (by omega)
        rcases step_ch e with ⟨rfl, g2, g3⟩ | ⟨rfl, g2, g3⟩
        · rw [g3]
          rcases Nat.lt_or_ge (E (B j)) x with g | g
          · have e2 : E (B j) = F (B j) := Classical.byContradiction fun n => by have := h2 _ n; omega
            have := hFj.1 (by omega)
            have := h1 (A j)
            omega
          · omega
        · rw [g3]
          rcases Nat.lt_or_ge (E (A j)) x with g | g
          · have e2 : E (A j) = F (A j) := Classical.byContradiction fun n => by have := h2 _ n; omega
            have := hFj.2 (by omega)
            have := h1 (B j)
            omega
          · omega
    refine ⟨k1, k2, fun d hd => ?_⟩
    by_cases e : d = j
    · subst e
      exact ⟨fun _ => (step_ok c A B d E).1, fun _ => (step_ok c A B d E).2⟩
    · have g := h3 d (by omega)
      have m1 := step_le c A B j E (A d)
      have m2 := step_le c A B j E (B d)
      constructor
      · intro hx
        have e2 : stepM c A B j E (B d) = F (B d) := Classical.byContradiction fun n => by have := k2 _ n; omega
        have := h1 (B d)
        have := g.1 (by omega)
        omega
      · intro hx
        have e2 : stepM c A B j E (A d) = F (A d) := Classical.byContradiction fun n => by have := k2 _ n; omega
        have := h1 (A d)
        have := g.2 (by omega)
        omega
theorem round_st {c A B : Nat → Nat} {D x : Nat} {F : Nat → Nat} (k : Nat) (hc : ∀ d, d < D → 1 ≤ c d) (hF : StX c A B D F x) : StX c A B D (roundM c A B D k F) (x + 1) ∧ ∀ r, F r ≤ x → roundM c A B D k F r = F r := by
  obtain ⟨h1, h2, h3⟩ := part_st hc hF D (Nat.le_refl _)
  refine ⟨fun d hd => ⟨fun h => (h3 d hd).1 (Nat.lt_succ_iff.mp h), fun h => (h3 d hd).2 (Nat.lt_succ_iff.mp h)⟩, fun r hr => ?_⟩
  refine Classical.byContradiction fun n => ?_
  have a1 := h2 r n
  have a2 := h1 r
  omega
theorem done_step {c A B : Nat → Nat} {D : Nat} {F : Nat → Nat} (h : Done c A B D F) {d : Nat} (hd : d < D) : stepM c A B d F = F := by
  have := h d hd
  unfold stepM
  rw [if_neg (by omega), if_neg (by omega)]
theorem done_part {c A B : Nat → Nat} {D : Nat} {F : Nat → Nat} (h : Done c A B D F) : ∀ j, j ≤ D → itN (stepM c A B) F j = F
  | 0, _ => rfl
  | j + 1, hj => by rw [itN_s, done_part h j (by omega)]; exact done_step h (by omega)
theorem done_round {c A B : Nat → Nat} {D : Nat} {F : Nat → Nat} (k : Nat) (h : Done c A B D F) : roundM c A B D k F = F := done_part h D (Nat.le_refl _)
/-- after k rounds k rooms are at rest, or all is -/
theorem run_rest {c A B : Nat → Nat} {D Z to R : Nat} (hc : ∀ d, d < D → 1 ≤ c d) (hR : ∀ d, d < D → A d < R ∧ B d < R) : ∀ k, Done c A B D (runM c A B D Z to k) ∨ ∃ x, StX c A B D (runM c A B D Z to k) x ∧ k ≤ cnt (fun r => decide (runM c A B D Z to k r < x)) R
  | 0 => Or.inr ⟨0, fun d _ => ⟨fun h => absurd h (by omega), fun h => absurd h (by omega)⟩, Nat.zero_le _⟩
  | k + 1 => by
    have e : runM c A B D Z to (k + 1) = roundM c A B D k (runM c A B D Z to k) := rfl
    rw [e]
    rcases run_rest (Z := Z) (to := to) hc hR k with h | ⟨x, h1, h2⟩
    · left
      rw [done_round k h]; exact h
    · generalize runM c A B D Z to k = F at h1 h2
      by_cases hy : ∃ y, x ≤ y ∧ ∃ r, r < R ∧ F r = y
      · obtain ⟨y, ⟨hxy, r0, hr0, hF0⟩, hmin⟩ := pk_least (fun y => x ≤ y ∧ ∃ r, r < R ∧ F r = y) hy
        have hno : ∀ r, r < R → F r < y → F r < x := fun r hr hlt => Classical.byContradiction fun n => hmin (F r) hlt ⟨by omega, r, hr, rfl⟩
        have hy2 : StX c A B D F y := fun d hd => ⟨fun h => (h1 d hd).1 (hno _ (hR d hd).2 h), fun h => (h1 d hd).2 (hno _ (hR d hd).1 h)⟩
        obtain ⟨g1, g2⟩ := round_st k hc hy2
        refine Or.inr ⟨y + 1, g1, ?_⟩
        have a := cnt_lt (P := fun r => decide (F r < x)) (Q := fun r => decide (roundM c A B D k F r < y + 1)) (j := r0) (decide_eq_false (by omega)) (decide_eq_true (by rw [g2 r0 (by omega)]; omega)) (n := R) hr0 (fun r _ h => by
          have h' : F r < x := of_decide_eq_true h
          exact decide_eq_true (by rw [g2 r (by omega)]; omega))
        omega
      · left
        have hall : ∀ r, r < R → F r < x := fun r hr => Classical.byContradiction fun n => hy ⟨F r, by omega, r, hr, rfl⟩
        have hd : Done c A B D F := fun d hd => ⟨(h1 d hd).1 (hall _ (hR d hd).2), (h1 d hd).2 (hall _ (hR d hd).1)⟩
        rw [done_round k hd]
        exact hd
theorem run_done1 {c A B : Nat → Nat} {D Z to R : Nat} (hc : ∀ d, d < D → 1 ≤ c d) (hR : ∀ d, d < D → A d < R ∧ B d < R ∧ A d ≠ B d) : Done c A B D (runM c A B D Z to (R - 1)) := by
  rcases run_rest (Z := Z) (to := to) hc (fun d hd => ⟨(hR d hd).1, (hR d hd).2.1⟩) (R - 1) with h | ⟨x, h1, h2⟩
  · exact h
  · generalize runM c A B D Z to (R - 1) = F at h1 h2
    intro d hd
    obtain ⟨q1, q2, q3⟩ := hR d hd
    have hone : F (A d) < x ∨ F (B d) < x := Classical.byContradiction fun n => by
      have := cnt_two (P := fun r => decide (F r < x)) (n := R) q1 q2 q3 (decide_eq_false (by omega)) (decide_eq_false (by omega))
      omega
    have := h1 d hd
    have hcd := hc d hd
    constructor
    · rcases Nat.lt_or_ge (F (B d)) x with g | g
      · exact (h1 d hd).1 g
      · omega
    · rcases Nat.lt_or_ge (F (A d)) x with g | g
      · exact (h1 d hd).2 g
      · omega
theorem run_done {c A B : Nat → Nat} {D Z to R k : Nat} (hc : ∀ d, d < D → 1 ≤ c d) (hR : ∀ d, d < D → A d < R ∧ B d < R ∧ A d ≠ B d) (hk : R - 1 ≤ k) : Done c A B D (runM c A B D Z to k) := by
  obtain ⟨m, rfl⟩ : ∃ m, k = R - 1 + m := ⟨k - (R - 1), by omega⟩
  clear hk
  induction m with
  | zero => exact run_done1 hc hR
  | succ m ih =>
    show Done c A B D (roundM c A B D 0 (runM c A B D Z to (R - 1 + m)))
    rw [done_round _ ih]
    exact ih
def Good (c A B : Nat → Nat) (D Z to : Nat) (F : Nat → Nat) : Prop :=
  F to = 0 ∧ Done c A B D F ∧ (∀ r, F r ≤ Z) ∧ (∀ r, F r < Z → r ≠ to → ∃ d, d < D ∧ ((A d = r ∧ F r = F (B d) + c d) ∨ (B d = r ∧ F r = F (A d) + c d))) ∧ (∀ r, F r < Z → F r ≤ 4800)
theorem run_good {c A B : Nat → Nat} {D Z to R k : Nat} (hc : ∀ d, d < D → 1 ≤ c d ∧ c d ≤ 100) (hR : ∀ d, d < D → A d < R ∧ B d < R ∧ A d ≠ B d) (hk : R - 1 ≤ k) (hk6 : k ≤ 6) (hD : D ≤ 8) : Good c A B D Z to (runM c A B D Z to k) := by
  have hd : Done c A B D (runM c A B D Z to k) := run_done (fun d hd => (hc d hd).1) hR hk
  obtain ⟨h1, h2, h3, h4⟩ := inv_run (Z := Z) (to := to) hc k
  generalize runM c A B D Z to k = F at hd h1 h2 h3 h4
  refine ⟨h1, hd, h2, fun r hr hn => ?_, fun r hr => ?_⟩
  · obtain ⟨d, hdd, ⟨rfl, g⟩ | ⟨rfl, g⟩⟩ := h3 r hr hn
    · exact ⟨d, hdd, Or.inl ⟨rfl, by have := (hd d hdd).1; omega⟩⟩
    · exact ⟨d, hdd, Or.inr ⟨rfl, by have := (hd d hdd).2; omega⟩⟩
  · have := h4 r hr
    have h5 : k * D ≤ 6 * 8 := Nat.mul_le_mul hk6 hD
    omega
theorem good_le {c A B : Nat → Nat} {D Z Z' to : Nat} {F G : Nat → Nat} (hc : ∀ d, d < D → 1 ≤ c d) (hF : Good c A B D Z to F) (hG : Good c A B D Z' to G) : ∀ n r, G r = n → G r < Z' → F r ≤ G r := by
  intro n
  induction n using Nat.strongRecOn with
  | _ n ih =>
    intro r hr hlt
    by_cases h : r = to
    · subst h; rw [hF.1]; exact Nat.zero_le _
    · obtain ⟨d, hd, ⟨rfl, h1⟩ | ⟨rfl, h1⟩⟩ := hG.2.2.2.1 r hlt h
      · have hcd := hc d hd
        have h2 := ih (G (B d)) (by omega) (B d) rfl (by omega)
        have h3 := (hF.2.1 d hd).1
        omega
      · have hcd := hc d hd
        have h2 := ih (G (A d)) (by omega) (A d) rfl (by omega)
        have h3 := (hF.2.1 d hd).2
        omega
theorem good_eq {c A B : Nat → Nat} {D Z Z' to : Nat} {F G : Nat → Nat} (hc : ∀ d, d < D → 1 ≤ c d) (hZ : 4800 < Z) (hZ' : 4800 < Z') (hF : Good c A B D Z to F) (hG : Good c A B D Z' to G) (r : Nat) : F r = if G r < Z' then G r else Z := by
  by_cases h : G r < Z'
  · rw [if_pos h]
    have h1 := good_le hc hF hG _ r rfl h
    have h2 := hG.2.2.2.2 r h
    have h3 := good_le hc hG hF _ r rfl (by omega)
    omega
  · rw [if_neg h]
    have h1 := hF.2.2.1 r
    rcases Nat.lt_or_ge (F r) Z with g | g
    · have h2 := good_le hc hG hF _ r rfl g
      have h3 := hF.2.2.2.2 r g
      omega
    · omega
/-- a door between two rooms -/
def Edg (A B : Nat → Nat) (d r s : Nat) : Prop := (A d = r ∧ B d = s) ∨ (B d = r ∧ A d = s)
theorem Edg.sym {A B : Nat → Nat} {d r s : Nat} (h : Edg A B d r s) : Edg A B d s r := by
  rcases h with ⟨h1, h2⟩ | ⟨h1, h2⟩
  · exact Or.inr ⟨h2, h1⟩
  · exact Or.inl ⟨h2, h1⟩
theorem Edg.two {A B : Nat → Nat} {d r s r' s' : Nat} (h : Edg A B d r s) (h' : Edg A B d r' s') : (r' = r ∧ s' = s) ∨ (r' = s ∧ s' = r) := by
  rcases h with ⟨h1, h2⟩ | ⟨h1, h2⟩ <;> rcases h' with ⟨h3, h4⟩ | ⟨h3, h4⟩ <;> first | (left; omega) | (right; omega)
theorem done_e {c A B : Nat → Nat} {D d r s : Nat} {F : Nat → Nat} (h : Done c A B D F) (hd : d < D) (he : Edg A B d r s) : F r ≤ F s + c d := by
  rcases he with ⟨rfl, rfl⟩ | ⟨rfl, rfl⟩
  · exact (h d hd).1
  · exact (h d hd).2
theorem good_e {c A B : Nat → Nat} {D Z to r : Nat} {F : Nat → Nat} (h : Good c A B D Z to F) (hr : F r < Z) (hn : r ≠ to) : ∃ d s, d < D ∧ Edg A B d r s ∧ F r = F s + c d := by
  obtain ⟨d, hd, ⟨rfl, g⟩ | ⟨rfl, g⟩⟩ := h.2.2.2.1 r hr hn
  · exact ⟨d, B d, hd, Or.inl ⟨rfl, rfl⟩, g⟩
  · exact ⟨d, A d, hd, Or.inr ⟨rfl, rfl⟩, g⟩
section WK
variable {c c' A B : Nat → Nat} {D Z to d0 a b : Nat} {F F' : Nat → Nat}
theorem walk_le (hc : ∀ d, d < D → 1 ≤ c d) (hs : ∀ d, d ≠ d0 → c' d = c d) (hF : Good c A B D Z to F) (hF' : Good c' A B D Z to F') (he : Edg A B d0 a b) (hab : F a = F b + c d0) (hd0 : d0 < D) (ha : F a < Z) : ∀ n r, F r = n → F r ≤ F b → F' r ≤ F r := by
  intro n
  induction n using Nat.strongRecOn with
  | _ n ih =>
    intro r hr hle
    have h0 := hc d0 hd0
    by_cases h : r = to
    · subst h; rw [hF'.1]; exact Nat.zero_le _
    · obtain ⟨d, s, hd, g1, g2⟩ := good_e hF (r := r) (by omega) h
      have hcd := hc d hd
      have hne : d ≠ d0 := by
        rintro rfl
        rcases he.two g1 with ⟨rfl, rfl⟩ | ⟨rfl, rfl⟩ <;> omega
      have h2 := ih (F s) (by omega) s rfl (by omega)
      have h3 := done_e hF'.2.1 hd g1
      rw [hs d hne] at h3
      omega
theorem walk_ge (hc : ∀ d, d < D → 1 ≤ c d) (hc' : ∀ d, d < D → 1 ≤ c' d) (hs : ∀ d, d ≠ d0 → c' d = c d) (hF : Good c A B D Z to F) (hF' : Good c' A B D Z to F') (he : Edg A B d0 a b) (hab : F a = F b + c d0) (hd0 : d0 < D) : ∀ n r, F' r = n → F' r < Z → F r ≤ F' r ∨ F b ≤ F' r := by
  intro n
  induction n using Nat.strongRecOn with
  | _ n ih =>
    intro r hr hlt
    have h0 := hc d0 hd0
    by_cases h : r = to
    · subst h; rw [hF.1]; exact Or.inl (Nat.zero_le _)
    · obtain ⟨d, s, hd, g1, g2⟩ := good_e hF' (r := r) hlt h
      have hcd := hc' d hd
      have h2 := ih (F' s) (by omega) s rfl (by omega)
      rcases h2 with h2 | h2
      · by_cases hne : d = d0
        · subst hne
          right
          rcases he.two g1 with ⟨rfl, rfl⟩ | ⟨rfl, rfl⟩ <;> omega
        · left
          have h3 := done_e hF.2.1 hd g1
          rw [hs d hne] at g2
          omega
      · right; omega
theorem walk_gt (hc : ∀ d, d < D → 1 ≤ c d) (hc' : ∀ d, d < D → 1 ≤ c' d) (hs : ∀ d, d ≠ d0 → c' d = c d) (hF : Good c A B D Z to F) (hF' : Good c' A B D Z to F') (he : Edg A B d0 a b) (hab : F a = F b + c d0) (hd0 : d0 < D) (ha : F a < Z) {r : Nat} (hr : F b < F r) : F b < F' r := by
  rcases Nat.lt_or_ge (F' r) Z with hlt | hge
  · have h0 := hc d0 hd0
    by_cases h : r = to
    · subst h; have := hF.1; omega
    · obtain ⟨d, s, hd, g1, g2⟩ := good_e hF' (r := r) hlt h
      have hcd := hc' d hd
      rcases walk_ge hc hc' hs hF hF' he hab hd0 _ s rfl (by omega) with h2 | h2
      · by_cases hne : d = d0
        · subst hne
          rcases he.two g1 with ⟨rfl, rfl⟩ | ⟨rfl, rfl⟩ <;> omega
        · have h3 := done_e hF.2.1 hd g1
          rw [hs d hne] at g2
          omega
      · omega
  · omega
theorem walk_eq (hc : ∀ d, d < D → 1 ≤ c d) (hc' : ∀ d, d < D → 1 ≤ c' d) (hs : ∀ d, d ≠ d0 → c' d = c d) (hF : Good c A B D Z to F) (hF' : Good c' A B D Z to F') (he : Edg A B d0 a b) (hab : F a = F b + c d0) (hd0 : d0 < D) (ha : F a < Z) : F' b = F b := by
  have h0 := hc d0 hd0
  have h1 := walk_le hc hs hF hF' he hab hd0 ha _ b rfl (Nat.le_refl _)
  rcases walk_ge hc hc' hs hF hF' he hab hd0 _ b rfl (by omega) with h | h <;> omega
/-- each step leaves one room more behind -/
theorem walk_cnt (hc : ∀ d, d < D → 1 ≤ c d) (hc' : ∀ d, d < D → 1 ≤ c' d) (hs : ∀ d, d ≠ d0 → c' d = c d) (hF : Good c A B D Z to F) (hF' : Good c' A B D Z to F') (he : Edg A B d0 a b) (hab : F a = F b + c d0) (hd0 : d0 < D) (ha : F a < Z) {R : Nat} (haR : a < R) : cnt (fun r => decide (F a < F r)) R + 1 ≤ cnt (fun r => decide (F' b < F' r)) R := by
  have h0 := hc d0 hd0
  have hb := walk_eq hc hc' hs hF hF' he hab hd0 ha
  refine cnt_lt (j := a) (decide_eq_false (Nat.lt_irrefl _)) (decide_eq_true ?_) haR (fun r _ h => decide_eq_true ?_)
  · rw [hb]; exact walk_gt hc hc' hs hF hF' he hab hd0 ha (by omega)
  · have h' : F a < F r := of_decide_eq_true h
    rw [hb]; exact walk_gt hc hc' hs hF hF' he hab hd0 ha (by omega)
end WK
theorem cnt_top {F : Nat → Nat} {a R : Nat} (ha : a < R) : cnt (fun r => decide (F a < F r)) R + 1 ≤ R := by
  have h1 := cnt_lt (P := fun r => decide (F a < F r)) (Q := fun _ => true) (j := a) (decide_eq_false (Nat.lt_irrefl _)) rfl (n := R) ha (fun _ _ _ => rfl)
  exact Nat.le_trans h1 (cnt_le _ R)
