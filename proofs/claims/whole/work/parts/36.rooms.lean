/-! rooms for all -/
noncomputable def sel {α : Type} (p : Prop) (a b : α) : α := @ite α p (Classical.propDecidable p) a b
theorem sel_t {α : Type} {p : Prop} {a b : α} (h : p) : sel p a b = a := if_pos h
theorem sel_f {α : Type} {p : Prop} {a b : α} (h : ¬ p) : sel p a b = b := if_neg h
def lossM (q : PN) (h : HN) (k r : Nat) : Nat := distM q h k 0 (q.1 6 k) r
def vRow (q : PN) (h : HN) (row : Nat → Nat) (n : Nat) : Prop := (∀ k, k < n → row k < q.2 8 ∧ lossM q h k (row k) < 100000) ∧ ∀ j k, j < k → k < n → row j ≠ row k
def sRow (q : PN) (h : HN) (row : Nat → Nat) : Nat → Nat
  | 0 => 0
  | n + 1 => sRow q h row n + lossM q h n (row n)
def rowC (b : Nat) : Nat → Nat → Nat → Nat
  | 0, _ => fun _ => 0
  | j + 1, r => upN (rowC b j (r / b)) j (r % b)
theorem itN_mul {α : Type} (f : Nat → α → α) (b : Nat) : ∀ n s, itN f s (n * b) = itN (fun c s => itN (fun x s => f (c * b + x) s) s b) s n
  | 0, s => by rw [Nat.zero_mul]; rfl
  | n + 1, s => by
    rw [itN_s, ← itN_mul f b n s]
    have key : ∀ x, itN f s (n * b + x) = itN (fun x s => f (n * b + x) s) (itN f s (n * b)) x := by
      intro x
      induction x with
      | zero => rfl
      | succ x ih =>
        rw [show n * b + (x + 1) = (n * b + x) + 1 by omega, itN_s, ih]
        rfl
    rw [← key b, Nat.succ_mul]
theorem itN_skip {α : Type} (f : Nat → α → α) {R N : Nat} (h : ∀ x, R ≤ x → x < N → ∀ s, f x s = s) (hR : R ≤ N) (s : α) : itN f s N = itN f s R := by
  obtain ⟨d, rfl⟩ : ∃ d, N = R + d := ⟨N - R, by omega⟩
  induction d with
  | zero => rfl
  | succ d ih =>
    rw [show R + (d + 1) = (R + d) + 1 by omega, itN_s, h (R + d) (by omega) (by omega), ih (fun x h1 h2 => h x h1 (by omega)) (by omega)]
theorem itN_cg {α : Type} {f g : Nat → α → α} : ∀ (n : Nat) (s : α), (∀ k, k < n → ∀ s, f k s = g k s) → itN f s n = itN g s n
  | 0, _, _ => rfl
  | n + 1, s, h => by rw [itN_s, itN_s, itN_cg n s (fun k hk => h k (by omega)), h n (by omega)]
theorem itN_id {α : Type} {f : Nat → α → α} : ∀ (n : Nat) (s : α), (∀ k, k < n → ∀ s, f k s = s) → itN f s n = s
  | 0, _, _ => rfl
  | n + 1, s, h => by rw [itN_s, itN_id n s (fun k hk => h k (by omega)), h n (by omega)]
theorem rowC_out (b : Nat) : ∀ j r k, j ≤ k → rowC b j r k = 0
  | 0, _, _, _ => rfl
  | j + 1, r, k, h => by rw [rowC, upN_n (by omega)]; exact rowC_out b j _ k (by omega)
theorem rowC_lt {b : Nat} (hb : 0 < b) : ∀ j r k, rowC b j r k < b
  | 0, _, _ => hb
  | j + 1, r, k => by
    rw [rowC]
    by_cases e : k = j
    · rw [e, upN_s]; exact Nat.mod_lt _ hb
    · rw [upN_n e]; exact rowC_lt hb j _ k
/-- the same in any base, if what is too large is passed over -/
theorem fold_base {α : Type} {R : Nat} (h0 : 0 < R) (h6 : R ≤ 6) : ∀ (j : Nat) (g : (Nat → Nat) → α → α), (∀ row, (∃ k, k < j ∧ R ≤ row k) → ∀ s, g row s = s) → ∀ s, itN (fun c => g (rowC 6 j c)) s (6 ^ j) = itN (fun c => g (rowC R j c)) s (R ^ j)
  | 0, g, _, s => rfl
  | j + 1, g, hg, s => by
    have e1 : ∀ (b : Nat), 0 < b → itN (fun c => g (rowC b (j + 1) c)) s (b ^ (j + 1)) = itN (fun c s => itN (fun x s => g (upN (rowC b j c) j x) s) s b) s (b ^ j) := by
      intro b hb
      rw [Nat.pow_succ, itN_mul]
      refine itN_cg _ _ (fun c _ s => itN_cg _ _ (fun x hx s => ?_))
      show g (upN (rowC b j ((c * b + x) / b)) j ((c * b + x) % b)) s = _
      rw [Nat.mul_comm c b, Nat.mul_add_div hb, Nat.div_eq_of_lt hx, Nat.add_zero, Nat.mul_add_mod, Nat.mod_eq_of_lt hx]
    rw [e1 6 (by decide), e1 R h0]
    have e2 : ∀ row s, itN (fun x s => g (upN row j x) s) s 6 = itN (fun x s => g (upN row j x) s) s R := fun row s =>
      itN_skip (fun x s => g (upN row j x) s) (fun x hx _ s => hg _ ⟨j, by omega, by rw [upN_s]; exact hx⟩ s) h6 s
    rw [itN_cg (g := fun c s => itN (fun x s => g (upN (rowC 6 j c) j x) s) s R) _ _ (fun c _ s => e2 _ s)]
    exact fold_base h0 h6 j (fun row s => itN (fun x s => g (upN row j x) s) s R) (fun row ⟨k, hk, hr⟩ s => itN_id _ _ (fun x _ s => hg _ ⟨k, by omega, by rw [upN_n (by omega)]; exact hr⟩ s)) s
noncomputable def stepR (q : PN) (h : HN) (L : Nat) (row : Nat → Nat) (st : Option (Nat × (Nat → Nat))) : Option (Nat × (Nat → Nat)) :=
  sel (vRow q h row L) (st.elim (some (sRow q h row L, row)) (fun p => if p.1 ≤ sRow q h row L then some p else some (sRow q h row L, row))) st
section RM
variable {q : PN} {h : HN} {w v u y : OV} {S : Nat → Int32} {s : Nat}
theorem loss_b (hq : POk q) (hh : HOk q h) {k : Nat} (hk : k < q.2 10) (r : Nat) (hr : lossM q h k r < 100000) : lossM q h k r ≤ 4800 := (dist_good hq hh hk 0 (q.1 6 k)).2.2.2.2 r hr
theorem sRow_b (hq : POk q) (hh : HOk q h) {row : Nat → Nat} : ∀ n, n ≤ q.2 10 → (∀ k, k < n → lossM q h k (row k) < 100000) → sRow q h row n ≤ 4800 * n
  | 0, _, _ => Nat.le_refl _
  | n + 1, hn, hv => by
    have ih := sRow_b hq hh n (by omega) (fun k hk => hv k (by omega))
    have := loss_b hq hh (k := n) (by omega) _ (hv n (by omega))
    simp only [sRow]
    omega
theorem or_nI (a b : Nat) : nI a ||| nI b = nI (a ||| b) := by
  refine Int32.toBitVec_inj.mp ?_
  rw [Int32.toBitVec_or]
  exact (BitVec.ofNat_or ..).symm
theorem shl_1 : ∀ r, r < 6 → (1 <<< (nI r &&& 31) : Int32) = nI (2 ^ r) := by decide +kernel
theorem tk_bit {t r x : Nat} : (t ||| 2 ^ r).testBit x = (t.testBit x || decide (r = x)) := by rw [Nat.testBit_or, Nat.testBit_two_pow]
theorem tk_b {t r : Nat} (ht : t < 64) (hr : r < 6) : t ||| 2 ^ r < 64 := by
  have h1 : 2 ^ r < 2 ^ 6 := Nat.pow_lt_pow_right (by decide) hr
  exact Nat.or_lt_two_pow (n := 6) ht h1
theorem way_l (hq : POk q) (hh : HOk q h) {k r : Nat} (hk : k < q.2 10) : (lossM q h k r < 100000 → wayM q h k 0 r (q.1 6 k) = nI (lossM q h k r)) ∧ (¬ lossM q h k r < 100000 → wayM q h k 0 r (q.1 6 k) = -4) := ⟨fun e => if_pos e, fun e => if_neg e⟩
/-- the class's table of losses -/
def Los (q : PN) (h : HN) (f : Nat → Int32) : Prop := ∀ k r, k < q.2 10 → r < q.2 8 → f (k * 6 + r) = wayM q h k 0 r (q.1 6 k)
theorem rm_n (hq : POk q) (hw : CP q w) (hh : HOk q h) (hu : CH q h u) (V : OV) : ∀ n, n ≤ q.2 10 → ∀ k r, k < n → r < q.2 8 → (itN (s_rm w u) (V.1 0, y) n).1 (k * 6 + r) = wayM q h k 0 r (q.1 6 k)
  | 0, _, k, r, hk, _ => absurd hk (by omega)
  | n + 1, hn, k, r, hk, hr => by
    have hL := hq.2.2.1.2
    have hR := hq.1.2
    have ih := rm_n hq hw hh hu V n (by omega)
    rw [itN_s]
    generalize itN (s_rm w u) (V.1 0, y) n = X at ih
    have hE := (hq.2.2.2.2.2.2.2.2.1 n (by omega)).2
    have e8 : (w.2 8).toNatClampNeg = q.2 8 := by rw [hw.2.2.2.1, nI_clamp (by omega)]
    show itN (s_lossf (m_rm X.2 w u n) n) X.1 (w.2 8).toNatClampNeg (k * 6 + r) = _
    rw [e8]
    have key : ∀ m, m ≤ q.2 8 → ∀ j, itN (s_lossf (m_rm X.2 w u n) n) X.1 m j = if n * 6 ≤ j ∧ j < n * 6 + m then wayM q h n 0 (j - n * 6) (q.1 6 n) else X.1 j := by
      intro m
      induction m with
      | zero => intro _ j; rw [if_neg (by omega)]; rfl
      | succ m ihm =>
        intro hm j
        have hmin := c_minutes (y := X.2) hq hw hh hu (i := n) (o := 0) (to := q.1 6 n) (a := m) (by omega) (by decide) (by omega) (by omega)
        rw [show nI 0 = (0 : Int32) from rfl] at hmin
        rw [itN_s, s_lossf, m_rm, rAt_n (by omega) (by decide), (hw.2.1 n (by omega)).2, hmin, show (6 : Int32) = nI 6 from rfl, pk_mul, nI_add, rPut_n (by omega) (by decide)]
        have ihm' := ihm (by omega)
        rw [m_rm, rAt_n (by omega) (by decide), (hw.2.1 n (by omega)).2] at ihm'
        by_cases e : j = n * 6 + m
        · rw [e, pk_us, if_pos (by omega), show n * 6 + m - n * 6 = m by omega]
        · rw [pk_un e, ihm' j]
          by_cases e2 : n * 6 ≤ j ∧ j < n * 6 + m
          · rw [if_pos e2, if_pos (by omega)]
          · rw [if_neg e2, if_neg (by omega)]
    rw [key (q.2 8) (Nat.le_refl _)]
    by_cases e : k = n
    · subst e
      rw [if_pos (by omega), show k * 6 + r - k * 6 = r by omega]
    · rw [if_neg (by omega)]
      exact ih k r (by omega) hr
theorem los_n (hq : POk q) (hw : CP q w) (hh : HOk q h) (hu : CH q h u) (V : OV) : Los q h ((f_X3_measure V w u y).1 0) := by
  intro k r hk hr
  show (f_rm V w u y).1 (k * 6 + r) = _
  rw [f_rm, hw.2.2.2.2.2.1, nI_clamp (by have := hq.2.2.1.2; omega)]
  exact rm_n hq hw hh hu V _ (Nat.le_refl _) k r hk hr
theorem vRow_s {row : Nat → Nat} {n : Nat} : vRow q h row (n + 1) ↔ vRow q h row n ∧ (row n < q.2 8 ∧ lossM q h n (row n) < 100000) ∧ ∀ k, k < n → row k ≠ row n := by
  constructor
  · rintro ⟨h1, h2⟩
    exact ⟨⟨fun k hk => h1 k (by omega), fun j k hjk hk => h2 j k hjk (by omega)⟩, h1 n (by omega), fun k hk => h2 k n hk (by omega)⟩
  · rintro ⟨⟨h1, h2⟩, h3, h4⟩
    refine ⟨fun k hk => ?_, fun j k hjk hk => ?_⟩
    · by_cases e : k = n
      · subst e; exact h3
      · exact h1 k (by omega)
    · by_cases e : k = n
      · subst e; exact h4 j hjk
      · exact h2 j k hjk (by omega)
theorem vRow_cg {row row' : Nat → Nat} {n : Nat} (he : ∀ k, k < n → row k = row' k) (hv : vRow q h row n) : vRow q h row' n := ⟨fun k hk => by rw [← he k hk]; exact hv.1 k hk, fun j k hjk hk => by rw [← he j (by omega), ← he k hk]; exact hv.2 j k hjk hk⟩
theorem sRow_cg {row row' : Nat → Nat} : ∀ {n : Nat}, (∀ k, k < n → row k = row' k) → sRow q h row n = sRow q h row' n
  | 0, _ => rfl
  | n + 1, he => by simp only [sRow]; rw [sRow_cg (fun k hk => he k (by omega)), he n (by omega)]
theorem mod6 {r : Nat} (hr : r < 2 ^ 31) : nI r - nI r / 6 * 6 = nI (r % 6) := pk_rem hr (by decide) (by decide)
theorem div6 {r : Nat} (hr : r < 2 ^ 31) : nI r / 6 = nI (r / 6) := pk_div hr (by decide) (by decide)
theorem sumGo_n (hq : POk q) (hh : HOk q h) {f : Nat → Int32} (hf : Los q h f) : ∀ j, j ≤ q.2 10 → ∀ s t r, s + 4800 * j ≤ 100000 → t < 64 → r < 2 ^ 31 → ((vRow q h (rowC 6 j r) j ∧ ∀ k, k < j → t.testBit (rowC 6 j r k) = false) → sumGo f (nI (q.2 8)) j (nI s) (nI t) (nI r) = nI (s + sRow q h (rowC 6 j r) j)) ∧ (¬ (vRow q h (rowC 6 j r) j ∧ ∀ k, k < j → t.testBit (rowC 6 j r k) = false) → sumGo f (nI (q.2 8)) j (nI s) (nI t) (nI r) = -4)
  | 0, _, s, t, r, _, _, _ => ⟨fun _ => rfl, fun e => absurd ⟨⟨fun k hk => absurd hk (by omega), fun j k _ hk => absurd hk (by omega)⟩, fun k hk => absurd hk (by omega)⟩ e⟩
  | j + 1, hj, s, t, r, hs, ht, hr => by
    have hL := hq.2.2.1.2
    have hR := hq.1.2
    have hm : r % 6 < 6 := Nat.mod_lt _ (by decide)
    have hdv : r / 6 ≤ r := Nat.div_le_self _ _
    have hrow : ∀ k, k < j → rowC 6 (j + 1) r k = rowC 6 j (r / 6) k := fun k hk => upN_n (by omega)
    have hrj : rowC 6 (j + 1) r j = r % 6 := upN_s _ _ _
    have hsum : sRow q h (rowC 6 (j + 1) r) (j + 1) = sRow q h (rowC 6 j (r / 6)) j + lossM q h j (r % 6) := by
      simp only [sRow]
      rw [sRow_cg hrow, hrj]
    have hval : (vRow q h (rowC 6 (j + 1) r) (j + 1) ∧ ∀ k, k < j + 1 → t.testBit (rowC 6 (j + 1) r k) = false) ↔ (r % 6 < q.2 8 ∧ t.testBit (r % 6) = false ∧ lossM q h j (r % 6) < 100000) ∧ (vRow q h (rowC 6 j (r / 6)) j ∧ ∀ k, k < j → (t ||| 2 ^ (r % 6)).testBit (rowC 6 j (r / 6) k) = false) := by
      rw [vRow_s, hrj]
      constructor
      · rintro ⟨⟨h1, h2, h3⟩, h4⟩
        have h5 := h4 j (by omega)
        rw [hrj] at h5
        refine ⟨⟨h2.1, h5, h2.2⟩, vRow_cg hrow h1, fun k hk => ?_⟩
        have h6 := h4 k (by omega)
        have h7 := h3 k hk
        rw [hrow k hk] at h6 h7
        rw [tk_bit, h6, decide_eq_false (fun e => h7 e.symm)]
        rfl
      · rintro ⟨⟨h1, h2, h3⟩, h4, h5⟩
        refine ⟨⟨vRow_cg (fun k hk => (hrow k hk).symm) h4, ⟨h1, h3⟩, fun k hk => ?_⟩, fun k hk => ?_⟩
        · have h6 := h5 k hk
          rw [tk_bit, Bool.or_eq_false_iff, decide_eq_false_iff_not] at h6
          rw [hrow k hk]
          exact fun e => h6.2 e.symm
        · by_cases e : k = j
          · subst e; rw [hrj]; exact h2
          · have h6 := h5 k (by omega)
            rw [tk_bit, Bool.or_eq_false_iff] at h6
            rw [hrow k (by omega)]
            exact h6.1
    rw [hval]
    simp only [sumGo]
    rw [mod6 hr, div6 hr, bit_n (by omega) (by omega), show (6 : Int32) = nI 6 from rfl, pk_mul, nI_add]
    by_cases g1 : r % 6 < q.2 8
    · rw [if_neg (nI_ge g1 (by omega))]
      by_cases g2 : t.testBit (r % 6) = true
      · rw [if_pos g2]
        exact ⟨fun e => (by have := e.1.2.1; rw [g2] at this; cases this), fun _ => rfl⟩
      · have g2' : t.testBit (r % 6) = false := by simpa using g2
        rw [if_neg g2, rAt_n (by omega) (by decide), hf j (r % 6) (by omega) g1, shl_1 _ hm, or_nI]
        obtain ⟨w1, w2⟩ := way_l hq hh (k := j) (r := r % 6) (by omega)
        by_cases g3 : lossM q h j (r % 6) < 100000
        · have hlb := loss_b hq hh (k := j) (by omega) _ g3
          rw [w1 g3, if_pos (nI_pos' (by omega)), nI_add]
          obtain ⟨a1, a2⟩ := sumGo_n hq hh hf j (by omega) (s + lossM q h j (r % 6)) (t ||| 2 ^ (r % 6)) (r / 6) (by omega) (tk_b ht hm) (by omega)
          refine ⟨fun e => ?_, fun e => a2 (fun e2 => e ⟨⟨g1, g2', g3⟩, e2⟩)⟩
          rw [a1 e.2, hsum]
          congr 1
          omega
        · rw [w2 g3, if_neg (by decide)]
          exact ⟨fun e => absurd e.1.2.2 g3, fun _ => rfl⟩
    · rw [if_pos (nI_le (by omega) (by omega))]
      exact ⟨fun e => absurd e.1.1 g1, fun _ => rfl⟩
theorem c_sumOf (hq : POk q) (hw : CP q w) (hh : HOk q h) (hu : CH q h u) (V : OV) {r : Nat} (hr : r < 2 ^ 31) : (vRow q h (rowC 6 (q.2 10) r) (q.2 10) → f_X3_sumOf (f_X3_measure V w u y) (nI r) = nI (sRow q h (rowC 6 (q.2 10) r) (q.2 10))) ∧ (¬ vRow q h (rowC 6 (q.2 10) r) (q.2 10) → f_X3_sumOf (f_X3_measure V w u y) (nI r) = -4) := by
  have hL := hq.2.2.1.2
  have e1 : (f_X3_measure V w u y).2 1 = nI (q.2 10) := hw.2.2.2.2.2.1
  have e2 : (f_X3_measure V w u y).2 2 = nI (q.2 8) := hw.2.2.2.1
  have := sumGo_n hq hh (los_n (y := y) hq hw hh hu V) (q.2 10) (Nat.le_refl _) 0 0 r (by omega) (by decide) hr
  rw [f_X3_sumOf, e1, e2, nI_clamp (by omega)]
  refine ⟨fun e => ?_, fun e => this.2 (fun e2 => e e2.1)⟩
  have h1 := this.1 ⟨e, fun k _ => Nat.zero_testBit _⟩
  rw [Nat.zero_add] at h1
  exact h1
/-- where the class's search stands -/
def bestC (q : PN) (h : HN) (X : Int32 × Int32) (n : Nat) : Option (Nat × (Nat → Nat)) → Prop
  | none => X = (-1, 1000000)
  | some p => p.1 ≤ 19200 ∧ ∃ c, c < n ∧ p.2 = rowC 6 (q.2 10) c ∧ X = (nI c, nI p.1) ∧ vRow q h (rowC 6 (q.2 10) c) (q.2 10) ∧ p.1 = sRow q h (rowC 6 (q.2 10) c) (q.2 10)
theorem stepR_some {L : Nat} {row : Nat → Nat} {p : Nat × (Nat → Nat)} (hv : vRow q h row L) : stepR q h L row (some p) = if p.1 ≤ sRow q h row L then some p else some (sRow q h row L, row) := sel_t hv
theorem stepR_none {L : Nat} {row : Nat → Nat} (hv : vRow q h row L) : stepR q h L row none = some (sRow q h row L, row) := sel_t hv
theorem stepR_no {L : Nat} {row : Nat → Nat} {st : Option (Nat × (Nat → Nat))} (hv : ¬ vRow q h row L) : stepR q h L row st = st := sel_f hv
theorem c_bestN (hq : POk q) (hw : CP q w) (hh : HOk q h) (hu : CH q h u) (V : OV) : ∀ n, n ≤ 1296 → bestC q h (itN (s_best (f_X3_measure V w u y)) (-1, 1000000) n) n (itN (fun c => stepR q h (q.2 10) (rowC 6 (q.2 10) c)) none n)
  | 0, _ => rfl
  | n + 1, hn => by
    have ih := c_bestN hq hw hh hu V n (by omega)
    have hL := hq.2.2.1.2
    rw [itN_s, itN_s]
    generalize itN (fun c => stepR q h (q.2 10) (rowC 6 (q.2 10) c)) none n = st at ih
    generalize itN (s_best (f_X3_measure V w u y)) (-1, 1000000) n = X at ih
    obtain ⟨c1, c2⟩ := c_sumOf (y := y) hq hw hh hu V (r := n) (by omega)
    unfold s_best
    by_cases g : vRow q h (rowC 6 (q.2 10) n) (q.2 10)
    · have hb := sRow_b hq hh (row := rowC 6 (q.2 10) n) (q.2 10) (Nat.le_refl _) (fun k hk => (g.1 k hk).2)
      rw [c1 g, if_neg (nI_pos (by omega))]
      cases st with
      | none =>
        have ih' : X = (-1, 1000000) := ih
        rw [stepR_none g, ih']
        rw [if_neg (show ¬ (1000000 : Int32) ≤ nI _ from nI_ge (b := 1000000) (by omega) (by omega))]
        exact ⟨by omega, n, by omega, rfl, rfl, g, rfl⟩
      | some p =>
        obtain ⟨h1, c, h2, h3, h4, h5, h6⟩ := ih
        rw [stepR_some g, h4]
        show bestC q h (if nI p.1 ≤ _ then (nI c, nI p.1) else _) (n + 1) _
        by_cases g2 : p.1 ≤ sRow q h (rowC 6 (q.2 10) n) (q.2 10)
        · rw [if_pos (nI_le g2 (by omega)), if_pos g2]
          exact ⟨h1, c, by omega, h3, rfl, h5, h6⟩
        · rw [if_neg (nI_ge (by omega) (by omega)), if_neg g2]
          exact ⟨by omega, n, by omega, rfl, rfl, g, rfl⟩
    · rw [c2 g, if_pos (by decide), stepR_no g]
      cases st with
      | none => exact ih
      | some p =>
        obtain ⟨h1, c, h2, h3, h4, h5, h6⟩ := ih
        exact ⟨h1, c, by omega, h3, h4, h5, h6⟩
theorem roomGo_n {i : Nat} : ∀ j r, i < j → j ≤ 4 → r < 2 ^ 31 → roomGo (nI i) j (nI r) = nI (rowC 6 j r i)
  | 0, _, h, _, _ => absurd h (by omega)
  | j + 1, r, h, hj, hr => by
    simp only [roomGo]
    by_cases e : i = j
    · subst e
      rw [if_pos (Int32.le_refl _), mod6 hr, rowC, upN_s]
    · have hdv : r / 6 ≤ r := Nat.div_le_self _ _
      rw [if_neg (nI_ge (by omega) (by omega)), div6 hr, roomGo_n j (r / 6) (by omega) (by omega) (by omega), rowC, upN_n e]
/-- what is best, and what is asked of it -/
noncomputable def bestR (q : PN) (h : HN) : Option (Nat × (Nat → Nat)) := itN (fun c => stepR q h (q.2 10) (rowC (q.2 8) (q.2 10) c)) none (q.2 8 ^ q.2 10)
theorem best_base (hq : POk q) : itN (fun c => stepR q h (q.2 10) (rowC 6 (q.2 10) c)) none (6 ^ q.2 10) = bestR q h :=
  fold_base (R := q.2 8) (by have := hq.1.1; omega) hq.1.2 (q.2 10) (stepR q h (q.2 10)) (fun row ⟨k, hk, hr⟩ s => stepR_no (fun e => by have := (e.1 k hk).1; omega)) none
def roomsA (st : Option (Nat × (Nat → Nat))) (x : Option Nat) : Int32 := st.elim (-4) (fun p => x.elim (nI p.1) (fun i => nI (p.2 i)))
theorem c_rooms (hq : POk q) (hw : CP q w) (hh : HOk q h) (hu : CH q h u) (V : OV) : (f_X3_bestCode (f_X3_measure V w u y) < 0 ∧ bestR q h = none) ∨ ∃ c p, bestR q h = some p ∧ f_X3_bestCode (f_X3_measure V w u y) = nI c ∧ c < 2 ^ 31 ∧ f_X3_sumOf (f_X3_measure V w u y) (nI c) = nI p.1 ∧ ∀ i, i < q.2 10 → f_X3_roomIn (f_X3_measure V w u y) (nI c) (nI i) = nI (p.2 i) := by
  have hL := hq.2.2.1
  have e1 : (f_X3_measure V w u y).2 1 = nI (q.2 10) := hw.2.2.2.2.2.1
  have hc : ∀ n, n ≤ 4 → itN s_codes 1 n = nI (6 ^ n) := by
    intro n
    induction n with
    | zero => intro _; rfl
    | succ n ih =>
      intro hn
      rw [itN_s, ih (by omega), s_codes, show (6 : Int32) = nI 6 from rfl, pk_mul, Nat.pow_succ]
  have h6 : 6 ^ q.2 10 ≤ 1296 := Nat.le_trans (Nat.pow_le_pow_right (by decide) hL.2) (by decide)
  have hb := c_bestN (y := y) hq hw hh hu V (6 ^ q.2 10) h6
  rw [best_base hq] at hb
  rw [f_X3_bestCode, n_codes, e1, nI_clamp (by omega), hc _ hL.2, nI_clamp (by omega)]
  generalize itN (s_best (f_X3_measure V w u y)) (-1, 1000000) (6 ^ q.2 10) = X at hb
  cases e : bestR q h with
  | none =>
    rw [e] at hb
    have hb' : X = (-1, 1000000) := hb
    left
    rw [hb']
    exact ⟨by decide, rfl⟩
  | some p =>
    rw [e] at hb
    obtain ⟨h1, c, h2, h3, h4, h5, h6'⟩ := hb
    right
    refine ⟨c, p, rfl, by rw [h4], by omega, ?_, fun i hi => ?_⟩
    · rw [(c_sumOf (y := y) hq hw hh hu V (r := c) (by omega)).1 h5, h6']
    · rw [f_X3_roomIn, e1, nI_clamp (by omega), roomGo_n _ _ hi hL.2 (by omega), h3]
/-! the reference -/
theorem tries_n (hq : POk q) (hv : RP q v) (hh : HOk q h) (hS : RH q h 0 S) {X : Nat → Int32} {row : Nat → Nat} (hX : ∀ k, k < q.2 10 → X k = nI (row k)) (hrow : ∀ k, k < q.2 10 → row k < q.2 8) : ∀ n k t s F, k + n = q.2 10 → s + 4800 * n ≤ 100000 → t < 64 → (((∀ j, k ≤ j → j < q.2 10 → lossM q h j (row j) < 100000 ∧ t.testBit (row j) = false) ∧ ∀ i j, k ≤ i → i < j → j < q.2 10 → row i ≠ row j) → (triesGo (v.1 5) S (v.1 4) (v.1 8) X n k (nI t) (nI s) F).1 = true ∧ (triesGo (v.1 5) S (v.1 4) (v.1 8) X n k (nI t) (nI s) F).2.1 = nI (s + sRow q h row (k + n) - sRow q h row k)) ∧ (¬ ((∀ j, k ≤ j → j < q.2 10 → lossM q h j (row j) < 100000 ∧ t.testBit (row j) = false) ∧ ∀ i j, k ≤ i → i < j → j < q.2 10 → row i ≠ row j) → (triesGo (v.1 5) S (v.1 4) (v.1 8) X n k (nI t) (nI s) F).1 = false)
  | 0, k, t, s, F, hk, _, _ => ⟨fun _ => ⟨rfl, by rw [Nat.add_zero, Nat.add_sub_cancel]; rfl⟩, fun e => absurd ⟨fun j h1 h2 => absurd h1 (by omega), fun i j h1 h2 h3 => absurd h1 (by omega)⟩ e⟩
  | n + 1, k, t, s, F, hk, hs, ht => by
    have hL := hq.2.2.1.2
    have hR := hq.1.2
    have hkL : k < q.2 10 := by omega
    have hr := hrow k hkL
    have hE := (hq.2.2.2.2.2.2.2.2.1 k hkL).2
    simp only [triesGo]
    rw [hX k hkL, (hv.2.1 k hkL).2, nI_clamp (by omega), r_wayOf hq hv hh hS hkL (by omega) (by omega)]
    obtain ⟨w1, w2⟩ := way_l hq hh (k := k) (r := row k) hkL
    by_cases g2 : t.testBit (row k) = true
    · rw [if_pos ((bitR (by omega) (by omega)).mpr g2)]
      exact ⟨fun e => (by have := (e.1 k (Nat.le_refl _) hkL).2; rw [g2] at this; cases this), fun _ => rfl⟩
    · have g2' : t.testBit (row k) = false := by simpa using g2
      rw [if_neg (fun e => g2 ((bitR (by omega) (by omega)).mp e))]
      by_cases g3 : lossM q h k (row k) < 100000
      · have hlb := loss_b hq hh hkL _ g3
        rw [w1 g3, if_pos (nI_pos' (by omega)), shl_1 _ (by omega), or_nI, nI_add]
        obtain ⟨a1, a2⟩ := tries_n hq hv hh hS hX hrow n (k + 1) (t ||| 2 ^ row k) (s + lossM q h k (row k)) (g_ways (v.1 5) S (v.1 4) F 0 k (nI (q.1 6 k)) 0) (by omega) (by omega) (tk_b ht (by omega))
        have hequiv : ((∀ j, k ≤ j → j < q.2 10 → lossM q h j (row j) < 100000 ∧ t.testBit (row j) = false) ∧ ∀ i j, k ≤ i → i < j → j < q.2 10 → row i ≠ row j) ↔ ((∀ j, k + 1 ≤ j → j < q.2 10 → lossM q h j (row j) < 100000 ∧ (t ||| 2 ^ row k).testBit (row j) = false) ∧ ∀ i j, k + 1 ≤ i → i < j → j < q.2 10 → row i ≠ row j) := by
          constructor
          · rintro ⟨h1, h2⟩
            refine ⟨fun j hj hj2 => ⟨(h1 j (by omega) hj2).1, ?_⟩, fun i j hi hij hj => h2 i j (by omega) hij hj⟩
            rw [tk_bit, (h1 j (by omega) hj2).2, decide_eq_false (h2 k j (Nat.le_refl _) (by omega) hj2)]
            rfl
          · rintro ⟨h1, h2⟩
            refine ⟨fun j hj hj2 => ?_, fun i j hi hij hj => ?_⟩
            · by_cases e : j = k
              · subst e; exact ⟨g3, g2'⟩
              · have := h1 j (by omega) hj2
                rw [tk_bit, Bool.or_eq_false_iff] at this
                exact ⟨this.1, this.2.1⟩
            · by_cases e : i = k
              · subst e
                have := (h1 j (by omega) hj).2
                rw [tk_bit, Bool.or_eq_false_iff, decide_eq_false_iff_not] at this
                exact this.2
              · exact h2 i j (by omega) hij hj
        rw [hequiv]
        refine ⟨fun e => ?_, a2⟩
        obtain ⟨b1, b2⟩ := a1 e
        refine ⟨b1, ?_⟩
        rw [b2, show k + 1 + n = k + (n + 1) by omega]
        have hmono : ∀ d, sRow q h row k + lossM q h k (row k) ≤ sRow q h row (k + 1 + d) := by
          intro d
          induction d with
          | zero => exact Nat.le_refl _
          | succ d ih => rw [show k + 1 + (d + 1) = (k + 1 + d) + 1 by omega]; simp only [sRow]; omega
        have hm := hmono n
        rw [show k + 1 + n = k + (n + 1) by omega] at hm
        congr 1
        simp only [sRow] at hm ⊢
        omega
      · rw [w2 g3, if_neg (by decide)]
        exact ⟨fun e => absurd (e.1 k (Nat.le_refl _) hkL).1 g3, fun _ => rfl⟩
theorem row_n {tn : Nat} (ht : 0 < tn) : ∀ (j n : Nat) (X : Nat → Int32) (i : Nat), i < j → rowGo tn j n X i = nI (rowC tn j n i)
  | 0, _, _, _, h => absurd h (Nat.not_lt_zero _)
  | j + 1, n, X, i, h => by
    rw [rowGo, rowC]
    by_cases e : i = j
    · subst e
      rw [row_keep tn i _ _ i (Nat.le_refl _), pk_us, upN_s]
    · rw [upN_n e]
      exact row_n ht j _ _ i (by omega)
/-- where the reference's search stands -/
def bestG (q : PN) (X : OV) : Option (Nat × (Nat → Nat)) → Prop
  | none => X.2 17 = -1
  | some p => p.1 ≤ 19200 ∧ X.2 17 = nI p.1 ∧ ∀ k, k < q.2 10 → X.1 16 k = nI (p.2 k)
theorem bst_n (X F : Nat → Int32) : ∀ n k, itN (s_bst X) F n k = if k < n then X k else F k
  | 0, _ => rfl
  | n + 1, k => by
    rw [itN_s, s_bst]
    by_cases e : k = n
    · rw [e, pk_us, if_pos (by omega)]
    · rw [pk_un e, bst_n X F n k]
      by_cases e2 : k < n
      · rw [if_pos e2, if_pos (by omega)]
      · rw [if_neg e2, if_neg (by omega)]
theorem r_roomsN (hq : POk q) (hv : RP q v) (hh : HOk q h) (hS : RH q h 0 (v.1 10)) : ∀ n, bestG q (g_roomsU v (q.2 8) (q.2 10) n) (itN (fun c => stepR q h (q.2 10) (rowC (q.2 8) (q.2 10) c)) none n) ∧ rmOk v (g_roomsU v (q.2 8) (q.2 10) n) ∧ ∀ t, t ≠ 17 → (g_roomsU v (q.2 8) (q.2 10) n).2 t = v.2 t
  | 0 => ⟨setI_s _ _ _, fun _ _ _ _ => rfl, fun t ht => setI_n ht⟩
  | n + 1 => by
    obtain ⟨h1, h2, h3⟩ := r_roomsN hq hv hh hS n
    have hL := hq.2.2.1
    have hR := hq.1
    unfold g_roomsU at h1 h2 h3 ⊢
    rw [itN_s, itN_s]
    generalize itN (s_code (q.2 8) (q.2 10)) (setI v 17 (-1)) n = U at h1 h2 h3
    generalize itN (fun c => stepR q h (q.2 10) (rowC (q.2 8) (q.2 10) c)) none n = st at h1
    have e10 : U.1 10 = v.1 10 := h2 10 (by decide) (by decide) (by decide)
    have e5 : U.1 5 = v.1 5 := h2 5 (by decide) (by decide) (by decide)
    have e4 : U.1 4 = v.1 4 := h2 4 (by decide) (by decide) (by decide)
    have e8 : U.1 8 = v.1 8 := h2 8 (by decide) (by decide) (by decide)
    have e7 : (U.1 7 0).toNatClampNeg = q.2 10 := by rw [h2 7 (by decide) (by decide) (by decide), hv.2.2.2.2.2.1, nI_clamp (by omega)]
    have hX : ∀ k, k < q.2 10 → rowGo (q.2 8) (q.2 10) n (U.1 15) k = nI (rowC (q.2 8) (q.2 10) n k) := fun k hk => row_n (by omega) _ _ _ k hk
    have htr := tries_n hq hv hh hS (X := rowGo (q.2 8) (q.2 10) n (U.1 15)) (row := rowC (q.2 8) (q.2 10) n) hX (fun k _ => rowC_lt (by omega) _ _ k) (q.2 10) 0 0 0 (U.1 14) (by omega) (by omega) (by decide)
    have hT : g_triesR (setA U 15 (rowGo (q.2 8) (q.2 10) n (U.1 15))) = triesGo (v.1 5) (v.1 10) (v.1 4) (v.1 8) (rowGo (q.2 8) (q.2 10) n (U.1 15)) (q.2 10) 0 (nI 0) (nI 0) (U.1 14) := by
      show triesGo (U.1 5) (U.1 10) (U.1 4) (U.1 8) _ (U.1 7 0).toNatClampNeg 0 0 0 (U.1 14) = _
      rw [e5, e10, e4, e8, e7]
      rfl
    generalize triesGo (v.1 5) (v.1 10) (v.1 4) (v.1 8) (rowGo (q.2 8) (q.2 10) n (U.1 15)) (q.2 10) 0 (nI 0) (nI 0) (U.1 14) = Y at htr hT
    have hvr : vRow q h (rowC (q.2 8) (q.2 10) n) (q.2 10) ↔ ((∀ j, 0 ≤ j → j < q.2 10 → lossM q h j (rowC (q.2 8) (q.2 10) n j) < 100000 ∧ (0 : Nat).testBit (rowC (q.2 8) (q.2 10) n j) = false) ∧ ∀ i j, 0 ≤ i → i < j → j < q.2 10 → rowC (q.2 8) (q.2 10) n i ≠ rowC (q.2 8) (q.2 10) n j) :=
      ⟨fun e => ⟨fun j _ hj => ⟨(e.1 j hj).2, Nat.zero_testBit _⟩, fun i j _ hij hj => e.2 i j hij hj⟩, fun e => ⟨fun k hk => ⟨rowC_lt (by omega) _ _ k, (e.1 k (Nat.zero_le _) hk).1⟩, fun i j hij hj => e.2 i j (Nat.zero_le _) hij hj⟩⟩
    have hrm : rmOk v (g_triesV (setA U 15 (rowGo (q.2 8) (q.2 10) n (U.1 15)))) := tr_ok h2
    refine ⟨?_, hrm, ?_⟩
    · show bestG q (g_triesV (setA U 15 (rowGo (q.2 8) (q.2 10) n (U.1 15)))) _
      unfold g_triesV tr_end
      rw [hT]
      by_cases g : vRow q h (rowC (q.2 8) (q.2 10) n) (q.2 10)
      · obtain ⟨t1, t2⟩ := htr.1 (hvr.mp g)
        have hb := sRow_b hq hh (row := rowC (q.2 8) (q.2 10) n) (q.2 10) (Nat.le_refl _) (fun k hk => (g.1 k hk).2)
        have t2' : Y.2.1 = nI (sRow q h (rowC (q.2 8) (q.2 10) n) (q.2 10)) := by
          rw [t2]
          congr 1
          simp only [Nat.zero_add, sRow]
          omega
        have hnew : bestG q (tr_best (setA U 15 (rowGo (q.2 8) (q.2 10) n (U.1 15))) Y.2.1 Y.2.2) (some (sRow q h (rowC (q.2 8) (q.2 10) n) (q.2 10), rowC (q.2 8) (q.2 10) n)) := by
          refine ⟨by show sRow q h _ _ ≤ 19200; omega, ?_, fun k hk => ?_⟩
          · show Y.2.1 = _
            exact t2'
          · show itN (s_bst (rowGo (q.2 8) (q.2 10) n (U.1 15))) _ 4 k = _
            rw [bst_n, if_pos (by omega)]
            exact hX k hk
        rw [if_pos t1]
        cases st with
        | none =>
          have e17 : U.2 17 = -1 := h1
          rw [stepR_none g, if_pos (show (setA U 15 (rowGo (q.2 8) (q.2 10) n (U.1 15))).2 17 < 0 from by show U.2 17 < 0; rw [e17]; decide)]
          exact hnew
        | some p =>
          obtain ⟨b1, b2, b3⟩ := h1
          have e17 : (setA U 15 (rowGo (q.2 8) (q.2 10) n (U.1 15))).2 17 = nI p.1 := b2
          rw [stepR_some g, e17, if_neg (nI_pos (by omega)), t2']
          by_cases g2 : p.1 ≤ sRow q h (rowC (q.2 8) (q.2 10) n) (q.2 10)
          · rw [if_pos (nI_le g2 (by omega)), if_pos g2]
            exact ⟨b1, b2, b3⟩
          · rw [if_neg (nI_ge (by omega) (by omega)), if_neg g2]
            rw [← t2']
            exact hnew
      · have t1 := htr.2 (fun e => g (hvr.mpr e))
        rw [t1, stepR_no g, if_neg (by decide)]
        cases st with
        | none => exact h1
        | some p => exact h1
    · intro t ht
      rw [← h3 t ht]
      show (g_triesV (setA U 15 (rowGo (q.2 8) (q.2 10) n (U.1 15)))).2 t = U.2 t
      unfold g_triesV tr_end tr_best
      split
      · split
        · exact setI_n ht
        · split
          · rfl
          · exact setI_n ht
      · rfl
end RM
