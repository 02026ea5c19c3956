/-! what is asked: bounds, sets, the fewest, nights with oil -/
theorem fIn_iff {x : Int32} {n : Nat} (hn : n < 2 ^ 31) : fIn x (nI n) = true ↔ ∃ j, j < n ∧ x = nI j := by
  unfold fIn
  constructor
  · intro h
    by_cases h1 : x < 0
    · rw [if_pos h1] at h; cases h
    · rw [if_neg h1] at h
      by_cases h2 : nI n ≤ x
      · rw [if_pos h2] at h; cases h
      · rcases pk_ix x hn with g | g | ⟨j, hj, e⟩
        · exact absurd g h1
        · exact absurd g h2
        · exact ⟨j, hj, e⟩
  · rintro ⟨j, hj, rfl⟩
    rw [if_neg (nI_pos (by omega)), if_neg (nI_ge hj hn)]
theorem gIsDoor_f {Dv : Nat → Int32} {x : Int32} {n : Nat} (hD : Dv 0 = nI n) (hn : n < 2 ^ 31) : gIsDoor Dv x = fIn x (nI n) := by
  rw [Bool.eq_iff_iff, fIn_iff hn]
  constructor
  · intro h
    have h1 := isDoor_n h (by rw [hD]; exact nI_pos hn)
    rw [hD, nI_clamp hn] at h1
    exact ⟨x.toNatClampNeg, h1.2, (nI_cl h1.1).symm⟩
  · rintro ⟨j, hj, rfl⟩
    show gIn (nI j).toInt64 (0 : Int32).toInt64 (Dv 0 - 1).toInt64 = true
    rw [gIn_iff, hD]
    obtain ⟨m, rfl⟩ : ∃ m, n = m + 1 := ⟨n - 1, by omega⟩
    rw [nI_pred]
    simp only [Int64.le_iff_toInt_le, Int32.toInt_toInt64]
    rw [nI_toInt (by omega), nI_toInt (by omega)]
    have : (0 : Int32).toInt = 0 := by decide
    omega
theorem within_ex {x : Int32} {a b : Nat} (hb : b < 2 ^ 31) (hab : a ≤ b) (h : fWithin x (nI a) (nI b) = true) : ∃ j, a ≤ j ∧ j ≤ b ∧ x = nI j := by
  simp only [fWithin, Bool.and_eq_true, Bool.not_eq_true', decide_eq_false_iff_not, Int32.not_lt] at h
  have h0 : ¬ x < 0 := fun e => absurd (Int32.lt_of_le_of_lt h.1 e) (nI_pos (by omega))
  obtain ⟨j, hj, rfl⟩ := nI_of h0
  exact ⟨j, (nI_leI (by omega) hj).mp h.1, (nI_leI hj hb).mp h.2, rfl⟩
def pop (k : Nat) : Nat := cnt (fun j => k.testBit j) 8
theorem pop_bits : ∀ k, k < 256 → f_bits (nI k) = nI (pop k) ∧ g_many (nI k) = nI (pop k) := by decide +kernel
theorem pop_le : ∀ D, D < 9 → ∀ k, k < 2 ^ D → pop k ≤ D := by decide +kernel
theorem pop_lt : ∀ D, D < 9 → ∀ d, d < D → ∀ k, k < 2 ^ D → k.testBit d = false → pop k < D := by decide +kernel
theorem sets_n : ∀ D, D < 9 → (1 <<< (nI D &&& 31) : Int32) = nI (2 ^ D) := by decide +kernel
theorem two_le {D : Nat} (h : D ≤ 8) : 2 ^ D ≤ 256 := Nat.pow_le_pow_right (n := 2) (by decide) h
/-- the best set: the fewest doors, of several the lowest -/
def IsBest (P : Nat → Bool) (N : Nat) : Option Nat → Prop
  | none => ∀ k, k < N → P k = false
  | some k => k < N ∧ P k = true ∧ ∀ j, j < N → P j = true → pop k < pop j ∨ (pop k = pop j ∧ k ≤ j)
theorem best_one {P : Nat → Bool} {N : Nat} {r r' : Option Nat} (h : IsBest P N r) (h' : IsBest P N r') : r = r' := by
  cases r with
  | none =>
    cases r' with
    | none => rfl
    | some k => have := h k h'.1; rw [h'.2.1] at this; cases this
  | some j =>
    cases r' with
    | none => have := h' j h.1; rw [h.2.1] at this; cases this
    | some k =>
      have h1 := h.2.2 k h'.1 h'.2.1
      have h2 := h'.2.2 j h.1 h.2.1
      congr 1
      omega
/-- the first place of a kind -/
def Fst (C : Nat → Prop) (k n : Nat) : Option Nat → Prop
  | none => ∀ j, k ≤ j → j < k + n → ¬ C j
  | some j => k ≤ j ∧ j < k + n ∧ C j ∧ ∀ j', k ≤ j' → j' < j → ¬ C j'
theorem fst_no {C : Nat → Prop} {k n : Nat} {r : Option Nat} (hk : ¬ C k) (h : Fst C (k + 1) n r) : Fst C k (n + 1) r := by
  cases r with
  | none =>
    intro j h1 h2
    by_cases e : j = k
    · subst e; exact hk
    · exact h j (by omega) (by omega)
  | some j =>
    obtain ⟨h1, h2, h3, h4⟩ := h
    refine ⟨by omega, by omega, h3, fun j' h5 h6 => ?_⟩
    by_cases e : j' = k
    · subst e; exact hk
    · exact h4 j' (by omega) h6
theorem fst_yes {C : Nat → Prop} {k n : Nat} (hk : C k) : Fst C k (n + 1) (some k) := ⟨Nat.le_refl _, by omega, hk, fun j h1 h2 => absurd h1 (by omega)⟩
/-- sizes one behind the other -/
def Szs (P : Nat → Bool) (N s n : Nat) : Option Nat → Prop
  | none => ∀ j, j < N → s ≤ pop j → pop j < s + n → P j = false
  | some j => j < N ∧ P j = true ∧ s ≤ pop j ∧ ∀ j', j' < N → P j' = true → s ≤ pop j' → pop j < pop j' ∨ (pop j = pop j' ∧ j ≤ j')
theorem szs_0 {P : Nat → Bool} {N s : Nat} : Szs P N s 0 none := fun j _ h1 h2 => absurd h2 (by omega)
theorem szs_some {P : Nat → Bool} {N s n j : Nat} (h : Fst (fun j => pop j = s ∧ P j = true) 0 N (some j)) : Szs P N s (n + 1) (some j) := by
  obtain ⟨-, h2, h3, h4⟩ := h
  refine ⟨by omega, h3.2, by omega, fun j' h5 h6 h7 => ?_⟩
  by_cases e : pop j' = s
  · right
    refine ⟨by omega, Classical.byContradiction fun g => h4 j' (Nat.zero_le _) (by omega) ⟨e, h6⟩⟩
  · left; omega
theorem szs_none {P : Nat → Bool} {N s n : Nat} {r : Option Nat} (h : Fst (fun j => pop j = s ∧ P j = true) 0 N none) (h2 : Szs P N (s + 1) n r) : Szs P N s (n + 1) r := by
  have hno : ∀ j, j < N → pop j = s → P j = false := fun j hj e => by
    cases e2 : P j with
    | false => rfl
    | true => exact absurd ⟨e, e2⟩ (h j (Nat.zero_le _) (by omega))
  cases r with
  | none =>
    intro j h3 h4 h5
    by_cases e : pop j = s
    · exact hno j h3 e
    · exact h2 j h3 (by omega) (by omega)
  | some j =>
    obtain ⟨g1, g2, g3, g4⟩ := h2
    refine ⟨g1, g2, by omega, fun j' h5 h6 h7 => ?_⟩
    by_cases e : pop j' = s
    · rw [hno j' h5 e] at h6; cases h6
    · exact g4 j' h5 h6 (by omega)
theorem szs_best {P : Nat → Bool} {N n : Nat} {r : Option Nat} (h : Szs P N 0 n r) (hp : ∀ k, k < N → P k = true → pop k < n) : IsBest P N r := by
  cases r with
  | none =>
    intro k hk
    cases e : P k with
    | false => rfl
    | true => rw [h k hk (Nat.zero_le _) (by have := hp k hk e; omega)] at e; cases e
  | some j => exact ⟨h.1, h.2.1, fun j' h1 h2 => h.2.2.2 j' h1 h2 (Nat.zero_le _)⟩
/-- one set more -/
def better (k : Nat) : Option Nat → Option Nat
  | none => some k
  | some j => if pop j ≤ pop k then some j else some k
def stepB (P : Nat → Bool) (k : Nat) (r : Option Nat) : Option Nat := if P k = true then better k r else r
theorem stepB_ok {P : Nat → Bool} : ∀ N, IsBest P N (itN (stepB P) none N)
  | 0 => fun k h => absurd h (by omega)
  | N + 1 => by
    have ih := stepB_ok (P := P) N
    rw [itN_s]
    generalize itN (stepB P) none N = r at ih
    unfold stepB
    by_cases h : P N = true
    · rw [if_pos h]
      cases r with
      | none =>
        refine ⟨by omega, h, fun j hj hp => ?_⟩
        by_cases e : j = N
        · subst e; exact Or.inr ⟨rfl, Nat.le_refl _⟩
        · rw [ih j (by omega)] at hp; cases hp
      | some j =>
        obtain ⟨h1, h2, h3⟩ := ih
        show IsBest P (N + 1) (if pop j ≤ pop N then some j else some N)
        by_cases g : pop j ≤ pop N
        · rw [if_pos g]
          refine ⟨by omega, h2, fun j' hj' hp => ?_⟩
          by_cases e : j' = N
          · subst e; omega
          · exact h3 j' (by omega) hp
        · rw [if_neg g]
          refine ⟨by omega, h, fun j' hj' hp => ?_⟩
          by_cases e : j' = N
          · subst e; exact Or.inr ⟨rfl, Nat.le_refl _⟩
          · have := h3 j' (by omega) hp
            omega
    · rw [if_neg h]
      have hf : P N = false := by simpa using h
      cases r with
      | none =>
        intro k hk
        by_cases e : k = N
        · subst e; exact hf
        · exact ih k (by omega)
      | some j =>
        obtain ⟨h1, h2, h3⟩ := ih
        refine ⟨by omega, h2, fun j' hj' hp => ?_⟩
        by_cases e : j' = N
        · subst e; rw [hf] at hp; cases hp
        · exact h3 j' (by omega) hp
theorem optI_neg {r : Option Nat} {N : Nat} (h : ∀ k, r = some k → k < N) (hN : N ≤ 256) : optI r < 0 ↔ r = none := by
  cases r with
  | none => simp only [optI]; constructor <;> intro _ <;> first | rfl | decide
  | some k =>
    have := h k rfl
    constructor
    · intro e; exact absurd e (nI_pos (by omega))
    · intro e; cases e
theorem best_lt {P : Nat → Bool} {N k : Nat} {r : Option Nat} (h : IsBest P N r) (e : r = some k) : k < N := by
  subst e; exact h.1
section IT
variable {q : PN} {h : HN} {w v u y : OV} {S : Nat → Int32} {s : Nat}
def inP (q : PN) (h : HN) (i m : Nat) (k : Nat) : Bool := decide (distM q h i k (q.1 6 i) (h.2.2.1 i) ≤ m)
theorem tmGo_n {vp vn : OV} {i m : Int32} {P : Nat → Bool} {N s : Nat} (hN : N ≤ 256) (hs : s ≤ 256) (hP : ∀ k, k < N → ∀ y, f_inW vp vn y (nI k) i m = P k) : ∀ n k y, k + n ≤ N → Fst (fun j => pop j = s ∧ P j = true) k n (tmGo vp vn (nI s) i m n k y).1
  | 0, k, y, _ => fun j h1 h2 => absurd h2 (by omega)
  | n + 1, k, y, hk => by
    have hb := (pop_bits k (by omega)).1
    have hpb := pop_le 8 (by decide) k (by omega)
    simp only [tmGo]
    rw [hb]
    by_cases g : pop k = s
    · rw [if_pos (by rw [g]), hP k (by omega)]
      by_cases g2 : P k = true
      · rw [if_pos g2]; exact fst_yes ⟨g, g2⟩
      · rw [if_neg g2]
        exact fst_no (fun e => g2 e.2) (tmGo_n hN hs hP n (k + 1) _ (by omega))
    · rw [if_neg (fun e => g ((nI_eq (by omega) (by omega)).mp e))]
      exact fst_no (fun e => g e.1) (tmGo_n hN hs hP n (k + 1) _ (by omega))
theorem tmSz_n {vp vn : OV} {i m : Int32} {P : Nat → Bool} {N : Nat} (hN : N ≤ 256) (hP : ∀ k, k < N → ∀ y, f_inW vp vn y (nI k) i m = P k) : ∀ n s y, s + n ≤ 256 → Szs P N s n (tmSz vp vn i m N n s y).1
  | 0, s, y, _ => szs_0
  | n + 1, s, y, hs => by
    have hg := tmGo_n hN (s := s) (by omega) hP N 0 y (by omega)
    simp only [tmSz]
    cases e : (tmGo vp vn (nI s) i m N 0 y).1 with
    | some j =>
      rw [e] at hg
      rw [if_pos (show (some j).isSome = true from rfl), e]
      exact szs_some hg
    | none =>
      rw [e] at hg
      rw [if_neg (by simp)]
      exact szs_none hg (tmSz_n hN hP n (s + 1) _ (by omega))
theorem c_inW (hq : POk q) (hw : CP q w) (hh : HOk q h) (hu : CH q h u) {i m k : Nat} (hi : i < q.2 10) (hm : m ≤ 600) (hk : k < 256) (y : OV) : f_inW w u y (nI k) (nI i) (nI m) = inP q h i m k := by
  have hL := hq.2.2.1.2
  have hR := hq.1.2
  have hE := (hq.2.2.2.2.2.2.2.2.1 i hi).2
  have hp := hh.2.2 i hi
  have hb := (dist_good hq hh hi k (q.1 6 i)).2.2.2.2 (h.2.2.1 i)
  unfold f_inW inP f_tm
  rw [rAt_n (by omega) (by decide), rAt_n (by omega) (by decide), (hw.2.1 i hi).2, hu.2.2.2.1 i hi, c_minutes hq hw hh hu hi (by omega) (by omega) (by omega), wayM]
  by_cases g : distM q h i k (q.1 6 i) (h.2.2.1 i) < 100000
  · rw [if_pos g, if_neg (nI_pos (by omega))]
    by_cases g2 : distM q h i k (q.1 6 i) (h.2.2.1 i) ≤ m
    · rw [if_neg (nI_nlt g2 (by omega)), decide_eq_true g2]
    · rw [if_pos (nI_lt (by omega) (by omega)), decide_eq_false g2]
  · rw [if_neg g, if_pos (by decide), decide_eq_false (by omega)]
theorem c_inTime (hq : POk q) (hw : CP q w) (hh : HOk q h) (hu : CH q h u) {i m : Nat} (hi : i < q.2 10) (hm : m ≤ 600) (y : OV) : IsBest (inP q h i m) (2 ^ q.2 9) (f_inT w u y (nI i) (nI m)).1 := by
  have hD := hq.2.1.2
  have e9 : (w.2 9).toNatClampNeg = q.2 9 := by rw [hw.2.2.2.2.1, nI_clamp (by omega)]
  have h2 := two_le hD
  rw [f_inT, c_sets, hw.2.2.2.2.1, sets_n _ (by omega), nI_clamp (by omega), nI_clamp (by omega)]
  refine szs_best (n := q.2 9 + 1) (tmSz_n h2 (fun k hk y => c_inW hq hw hh hu hi hm (by omega) y) _ _ _ (by omega)) (fun k hk _ => ?_)
  have := pop_le (q.2 9) (by omega) k hk
  omega
theorem r_inTime (hq : POk q) (hv : RP q v) (hh : HOk q h) (hS : RH q h 0 (v.1 10)) {i m : Nat} (hi : i < q.2 10) (hm : m ≤ 600) : ∀ n, n ≤ 256 → (g_inT v (nI i) (nI m) n).1 = optI (itN (stepB (inP q h i m)) none n)
  | 0, _ => rfl
  | n + 1, hn => by
    have ih := r_inTime hq hv hh hS hi hm n (by omega)
    have hL := hq.2.2.1.2
    have hR := hq.1.2
    have hE := (hq.2.2.2.2.2.2.2.2.1 i hi).2
    have hp := hh.2.2 i hi
    have hb := (dist_good hq hh hi n (q.1 6 i)).2.2.1 (h.2.2.1 i)
    have eW : v.1 10 (40 + i) = nI (h.2.2.1 i) := by have := hS.2.2.1 i hi; rwa [Nat.mul_zero, Nat.zero_add] at this
    have hok := stepB_ok (P := inP q h i m) n
    unfold g_inT at ih ⊢
    rw [nI_clamp (by omega), eW, nI_clamp (by omega), (hv.2.1 i hi).2] at ih ⊢
    rw [itN_s, itN_s]
    generalize itN (s_inT (v.1 5) (v.1 10) (v.1 4) i (h.2.2.1 i) (nI (q.1 6 i)) (nI m)) (-4, v.1 14) n = X at ih
    generalize itN (stepB (inP q h i m)) none n = r at ih hok
    rw [s_inT, r_ways hq hv hh hS hi (by omega) (by omega) _ _ (by omega), ih]
    unfold stepB inP
    have hlt : ∀ k, r = some k → k < n := fun k e => best_lt hok e
    by_cases g : distM q h i n (q.1 6 i) (h.2.2.1 i) ≤ m
    · rw [if_neg (nI_nlt g (by omega)), if_pos (decide_eq_true g)]
      cases r with
      | none => rw [if_pos (by decide)]; rfl
      | some k =>
        have hk := hlt k rfl
        show (if nI k < 0 then nI n else if g_many (nI k) ≤ g_many (nI n) then nI k else nI n) = optI (if pop k ≤ pop n then some k else some n)
        have b1 := pop_le 8 (by decide) k (by omega)
        have b2 := pop_le 8 (by decide) n (by omega)
        rw [if_neg (nI_pos (by omega)), (pop_bits k (by omega)).2, (pop_bits n (by omega)).2]
        by_cases g3 : pop k ≤ pop n
        · rw [if_pos ((nI_leI (by omega) (by omega)).mpr g3), if_pos g3]; rfl
        · rw [if_neg (fun e => g3 ((nI_leI (by omega) (by omega)).mp e)), if_neg g3]; rfl
    · rw [if_pos (nI_lt (by omega) (by omega)), if_neg (by simpa using g)]
end IT
/-! nights with oil -/
def oilM (h : HN) (o x : Nat) : HN := (h.1, fun d => if o.testBit d = true then x else h.2.1 d, h.2.2.1, h.2.2.2.1, h.2.2.2.2)
section OI
variable {q : PN} {h h' : HN} {w v u y : OV} {S : Nat → Int32} {s : Nat}
theorem oilM_ok (hh : HOk q h) (o : Nat) {x : Nat} (hx : x ≤ 100) : HOk q (oilM h o x) := by
  refine ⟨hh.1, fun d hd => ?_, hh.2.2⟩
  show (if _ then x else h.2.1 d) ≤ 100
  split
  · exact hx
  · exact hh.2.1 d hd
theorem fl_cg (hq : POk q) {i d : Nat} (hg : ∀ j, j < q.2 9 → h.1 j i = h'.1 j i) (ho : ∀ j, j < q.2 9 → (h.2.1 j = 0 ↔ h'.2.1 j = 0)) : ∀ k, k ≤ q.2 9 → flM q h d i k = flM q h' d i k
  | 0, _ => rfl
  | k + 1, hk => by
    have hX := (hq.2.2.2.2.2.2.2.1 k (by omega)).2.2.2.1
    simp only [flM]
    rw [fl_cg hq hg ho k (by omega), partM, partM, hg k (by omega)]
    by_cases g : q.1 2 k ≠ k ∧ h.2.1 k = 0 ∧ h.2.1 (q.1 2 k) = 0
    · rw [if_pos g, if_pos (⟨g.1, (ho k (by omega)).mp g.2.1, (ho _ hX).mp g.2.2⟩ : q.1 2 k ≠ k ∧ h'.2.1 k = 0 ∧ h'.2.1 (q.1 2 k) = 0)]
    · rw [if_neg g, if_neg (fun e : q.1 2 k ≠ k ∧ h'.2.1 k = 0 ∧ h'.2.1 (q.1 2 k) = 0 => g ⟨e.1, (ho k (by omega)).mpr e.2.1, (ho _ hX).mpr e.2.2⟩)]
theorem nights_o : ∀ k d, (nightsM q h k).2.1 d = h.2.1 d - k
  | 0, d => rfl
  | k + 1, d => by
    show (nightsM q h k).2.1 d - 1 = _
    rw [nights_o k d]
    omega
/-- grudges don't tell how long oil lasts still, if it lasts -/
theorem nights_cg (hq : POk q) {n : Nat} (hg : ∀ d i, d < q.2 9 → i < q.2 10 → h.1 d i = h'.1 d i) (ho : ∀ d, d < q.2 9 → h.2.1 d = h'.2.1 d ∨ (n ≤ h.2.1 d ∧ n ≤ h'.2.1 d)) : ∀ k, k ≤ n → ∀ d i, d < q.2 9 → i < q.2 10 → (nightsM q h k).1 d i = (nightsM q h' k).1 d i
  | 0, _, d, i, hd, hi => hg d i hd hi
  | k + 1, hk, d, i, hd, hi => by
    have ih := nights_cg hq hg ho k (by omega)
    show newG q (nightsM q h k) d i = newG q (nightsM q h' k) d i
    unfold newG
    rw [ih d i hd hi, fl_cg hq (fun j hj => ih j i hj hi) (fun j hj => by
      rw [nights_o, nights_o]
      rcases ho j hj with e | e <;> omega) (q.2 9) (Nat.le_refl _)]
theorem oil_cg (hq : POk q) {n o x x' : Nat} (h1 : n ≤ x) (h2 : n ≤ x') {d i : Nat} (hd : d < q.2 9) (hi : i < q.2 10) : (nightsM q (oilM h o x) n).1 d i = (nightsM q (oilM h o x') n).1 d i := by
  refine nights_cg (h := oilM h o x) (h' := oilM h o x') hq (n := n) (fun _ _ _ _ => rfl) (fun d hd => ?_) n (Nat.le_refl _) d i hd hi
  show (if o.testBit d = true then x else h.2.1 d) = (if o.testBit d = true then x' else h.2.1 d) ∨ (n ≤ (if o.testBit d = true then x else h.2.1 d) ∧ n ≤ (if o.testBit d = true then x' else h.2.1 d))
  by_cases g : o.testBit d = true
  · rw [if_pos g, if_pos g]; exact Or.inr ⟨h1, h2⟩
  · rw [if_neg g, if_neg g]; exact Or.inl rfl
theorem oilF_n (hq : POk q) (hu : CH q h u) {o x : Nat} (ho : o < 2 ^ 31) : ∀ k, k ≤ q.2 9 → (∀ t, t ≠ 2 → (itN (s_oilF (nI o) (nI x)) u k).1 t = u.1 t) ∧ (itN (s_oilF (nI o) (nI x)) u k).2 = u.2 ∧ (∀ d, d < q.2 9 → (itN (s_oilF (nI o) (nI x)) u k).1 2 d = if d < k then nI ((oilM h o x).2.1 d) else nI (h.2.1 d)) ∧ ∀ d, q.2 9 ≤ d → d < 8 → (itN (s_oilF (nI o) (nI x)) u k).1 2 d = 0
  | 0, _ => ⟨fun _ _ => rfl, rfl, fun d hd => by rw [if_neg (by omega)]; exact hu.2.1 d hd, hu.2.2.1⟩
  | k + 1, hk => by
    obtain ⟨h1, h2, h3, h4⟩ := oilF_n hq hu (x := x) ho k (by omega)
    rw [itN_s]
    generalize itN (s_oilF (nI o) (nI x)) u k = E at h1 h2 h3 h4
    have hD := hq.2.1.2
    unfold s_oilF
    rw [bit_n ho (by omega)]
    by_cases g : o.testBit k = true
    · rw [if_pos g]
      refine ⟨fun t ht => by rw [setA_n ht]; exact h1 t ht, h2, fun d hd => ?_, fun d hd hd8 => ?_⟩
      · rw [setA_s, rPut_n (by omega) (by decide)]
        by_cases e : d = k
        · subst e
          rw [pk_us, if_pos (by omega)]
          show nI x = nI (if o.testBit d = true then x else h.2.1 d)
          rw [if_pos g]
        · rw [pk_un e, h3 d hd]
          by_cases e2 : d < k
          · rw [if_pos e2, if_pos (by omega)]
          · rw [if_neg e2, if_neg (by omega)]
      · rw [setA_s, rPut_n (by omega) (by decide), pk_un (by omega)]; exact h4 d hd hd8
    · rw [if_neg g]
      refine ⟨h1, h2, fun d hd => ?_, h4⟩
      rw [h3 d hd]
      by_cases e : d = k
      · subst e
        rw [if_neg (Nat.lt_irrefl _), if_pos (by omega)]
        show _ = nI (if o.testBit d = true then x else h.2.1 d)
        rw [if_neg g]
      · by_cases e2 : d < k
        · rw [if_pos e2, if_pos (by omega)]
        · rw [if_neg e2, if_neg (by omega)]
theorem c_oilF (hq : POk q) (hu : CH q h u) {o x : Nat} (ho : o < 2 ^ 31) : CH q (oilM h o x) (itN (s_oilF (nI o) (nI x)) u (q.2 9)) := by
  obtain ⟨h1, h2, h3, h4⟩ := oilF_n hq hu (x := x) ho (q.2 9) (Nat.le_refl _)
  refine ⟨fun d i hd hi => by rw [h1 0 (by decide)]; exact hu.1 d i hd hi, fun d hd => by rw [h3 d hd, if_pos hd], h4, fun i hi => by rw [h1 3 (by decide)]; exact hu.2.2.2.1 i hi, by rw [h2]; exact hu.2.2.2.2.1, by rw [h2]; exact hu.2.2.2.2.2⟩
theorem c_bwR (hq : POk q) (hw : CP q w) (hh : HOk q h) (hu : CH q h u) {o n d i : Nat} (ho : o < 2 ^ 31) (hn : n ≤ 60) (hd : d < q.2 9) (hi : i < q.2 10) (y : OV) : f_bwR w u y (nI o) (nI n) (nI d) (nI i) = nI ((nightsM q (oilM h o 100) n).1 d i) := by
  have hD := hq.2.1.2
  have hL := hq.2.2.1.2
  have e9 : (w.2 9).toNatClampNeg = q.2 9 := by rw [hw.2.2.2.2.1, nI_clamp (by omega)]
  unfold f_bwR f_bw f_X0_sleepAgainstOne
  rw [e9, nI_1, nI_clamp (by omega), gOf_n (by omega) (by omega)]
  have h1 := sleeps1_n hq hw (oilM_ok hh o (x := n + 1) (by omega)) hi ((c_oilF hq (c_become hq hu y) (x := n + 1) ho).cg hi) n
  rw [h1.1.1 d hd, oil_cg hq (x := n + 1) (x' := 100) (by omega) (by omega) hd hi]
theorem c_beh (hq : POk q) (hw : CP q w) (hh : HOk q h) (hu : CH q h u) {n i : Nat} (hn : n ≤ 60) (hi : i < q.2 10) (y : OV) {d : Nat} (hd : d < q.2 9) : f_X0_grudgeOf (f_beh w u y (nI n) (nI i)) (nI d) (nI i) = nI ((nightsM q h n).1 d i) := by
  have hD := hq.2.1.2
  have hL := hq.2.2.1.2
  unfold f_beh f_X0_sleepAgainstOne
  rw [nI_clamp (by omega), gOf_n (by omega) (by omega)]
  exact (sleeps1_n hq hw hh hi ((c_become hq hu y).cg hi) n).1.1 d hd
/-- the reference's slots, but for the last -/
def sameS (S' S : Nat → Int32) : Prop := ∀ j, j < 506 → S' j = S j
theorem oilR_n (hq : POk q) {F : Nat → Int32} (hS : RH q h 11 F) {o : Nat} (ho : o < 2 ^ 31) : ∀ k, k ≤ q.2 9 → (∀ j, (j < 538 ∨ 546 ≤ j) → itN (s_oil (nI o)) F k j = F j) ∧ ∀ d, d < q.2 9 → itN (s_oil (nI o)) F k (538 + d) = if d < k then nI ((oilM h o 100).2.1 d) else nI (h.2.1 d)
  | 0, _ => ⟨fun _ _ => rfl, fun d hd => by rw [if_neg (by omega)]; exact hS.2.1 d hd⟩
  | k + 1, hk => by
    obtain ⟨h1, h2⟩ := oilR_n hq hS ho k (by omega)
    rw [itN_s]
    generalize itN (s_oil (nI o)) F k = E at h1 h2
    have hD := hq.2.1.2
    have hid : ∀ (E : Nat → Int32) (k : Nat), upd E k (E k) = E := fun E k => by
      funext j
      by_cases e : j = k
      · rw [e, pk_us]
      · rw [pk_un e]
    unfold s_oil
    by_cases g : o.testBit k = true
    · rw [if_pos ((bitR ho (by omega)).mpr g)]
      refine ⟨fun j hj => by rw [pk_un (by omega)]; exact h1 j hj, fun d hd => ?_⟩
      by_cases e : d = k
      · subst e
        rw [pk_us, if_pos (by omega)]
        show nI 100 = nI (if o.testBit d = true then 100 else h.2.1 d)
        rw [if_pos g]
      · rw [pk_un (by omega), h2 d hd]
        by_cases e2 : d < k
        · rw [if_pos e2, if_pos (by omega)]
        · rw [if_neg e2, if_neg (by omega)]
    · rw [if_neg (fun e => g ((bitR ho (by omega)).mp e)), hid]
      refine ⟨h1, fun d hd => ?_⟩
      rw [h2 d hd]
      by_cases e : d = k
      · subst e
        rw [if_neg (Nat.lt_irrefl _), if_pos (by omega)]
        show _ = nI (if o.testBit d = true then 100 else h.2.1 d)
        rw [if_neg g]
      · by_cases e2 : d < k
        · rw [if_pos e2, if_pos (by omega)]
        · rw [if_neg e2, if_neg (by omega)]
theorem r_behinds (hq : POk q) (hv : RP q v) (hh : HOk q h) {S : Nat → Int32} (V : Nat → Int32) (hS : RH q h 0 S) {o n : Nat} (ho : o < 2 ^ 31) (hn : n ≤ 60) : RH q (nightsM q (oilM h o 100) n) 11 (g_behinds (v.1 3) (v.1 5) (v.1 7) (v.1 4) (v.1 6) S V (nI n) (nI o)).1 ∧ sameS (g_behinds (v.1 3) (v.1 5) (v.1 7) (v.1 4) (v.1 6) S V (nI n) (nI o)).1 S := by
  have hD := hq.2.1.2
  have hL := hq.2.2.1.2
  have e4 : (v.1 4 0).toNatClampNeg = q.2 9 := by rw [hv.2.2.2.2.1, nI_clamp (by omega)]
  have h0 : RH q h 11 (g_copies S 0 11) := RH_mv hD hL (fun k hk => copies_in S 0 11 hk) hS
  obtain ⟨h1, h2⟩ := oilR_n hq h0 ho (q.2 9) (Nat.le_refl _)
  have h3 : RH q (oilM h o 100) 11 (itN (s_oil (nI o)) (g_copies S 0 11) (q.2 9)) := by
    refine ⟨fun d i hd hi => by rw [h1 _ (by omega)]; exact h0.1 d i hd hi, fun d hd => ?_, fun i hi => by rw [h1 _ (by omega)]; exact h0.2.2.1 i hi, by rw [h1 _ (by omega)]; exact h0.2.2.2.1, by rw [h1 _ (by omega)]; exact h0.2.2.2.2⟩
    have := h2 d hd
    rw [if_pos hd] at this
    exact this
  obtain ⟨h4, h5⟩ := r_nights hq hv (oilM_ok hh o (x := 100) (by omega)) (V := V) h3 n
  rw [g_behinds, e4, nI_clamp (by omega)]
  refine ⟨h4, fun j hj => ?_⟩
  rw [h5 j (by omega), h1 j (by omega), copies_out S 0 11 (by omega)]
theorem oilM_0 (h : HN) (x : Nat) : oilM h 0 x = h := by
  unfold oilM
  have : (fun d => if (0 : Nat).testBit d = true then x else h.2.1 d) = h.2.1 := by
    funext d
    rw [Nat.zero_testBit]
    rfl
  rw [this]
noncomputable def stP (q : PN) (h : HN) (n d i g : Nat) (k : Nat) : Bool := !(k.testBit d) && decide ((nightsM q (oilM h k 100) n).1 d i < g)
theorem stGo_n {vp vn : OV} {n d i g : Nat} {P : Nat → Bool} {N s : Nat} (hN : N ≤ 256) (hs : s ≤ 256) (hd : d < 8) (hg : g < 2 ^ 31) {B : Nat → Nat} (hB : ∀ k, B k < 2 ^ 31) (hP : ∀ k, P k = (!(k.testBit d) && decide (B k < g))) (hb : ∀ k, k < N → ∀ y, f_bwR vp vn y (nI k) (nI n) (nI d) (nI i) = nI (B k)) : ∀ f k y, k + f ≤ N → Fst (fun j => pop j = s ∧ P j = true) k f (stGo vp vn (nI s) (nI n) (nI d) (nI i) (nI g) f k y).1
  | 0, k, y, _ => fun j h1 h2 => absurd h2 (by omega)
  | f + 1, k, y, hk => by
    have hbk := (pop_bits k (by omega)).1
    have hpb := pop_le 8 (by decide) k (by omega)
    simp only [stGo]
    rw [hbk]
    by_cases g0 : pop k = s
    · rw [if_pos (by rw [g0]), bit_n (by omega) (by omega), hb k (by omega)]
      by_cases g1 : k.testBit d = true
      · rw [if_pos g1]
        exact fst_no (fun e => by have := e.2; rw [hP, g1] at this; cases this) (stGo_n hN hs hd hg hB hP hb f (k + 1) _ (by omega))
      · rw [if_neg g1]
        by_cases g2 : B k < g
        · rw [if_neg (fun e => by have := (nI_leI hg (hB k)).mp e; omega)]
          exact fst_yes ⟨g0, by rw [hP]; simp [g1, g2]⟩
        · rw [if_pos ((nI_leI hg (hB k)).mpr (by omega))]
          exact fst_no (fun e => by have := e.2; rw [hP] at this; simp [g2] at this) (stGo_n hN hs hd hg hB hP hb f (k + 1) _ (by omega))
    · rw [if_neg (fun e => g0 ((nI_eq (by omega) (by omega)).mp e))]
      exact fst_no (fun e => g0 e.1) (stGo_n hN hs hd hg hB hP hb f (k + 1) _ (by omega))
theorem stSz_n {vp vn : OV} {n d i g : Nat} {P : Nat → Bool} {N : Nat} (hN : N ≤ 256) (hd : d < 8) (hg : g < 2 ^ 31) {B : Nat → Nat} (hB : ∀ k, B k < 2 ^ 31) (hP : ∀ k, P k = (!(k.testBit d) && decide (B k < g))) (hb : ∀ k, k < N → ∀ y, f_bwR vp vn y (nI k) (nI n) (nI d) (nI i) = nI (B k)) : ∀ f s y, s + f ≤ 256 → Szs P N s f (stSz vp vn (nI n) (nI d) (nI i) (nI g) N f s y).1
  | 0, s, y, _ => szs_0
  | f + 1, s, y, hs => by
    have hgo := stGo_n hN (s := s) (by omega) hd hg hB hP hb N 0 y (by omega)
    simp only [stSz]
    cases e : (stGo vp vn (nI s) (nI n) (nI d) (nI i) (nI g) N 0 y).1 with
    | some j =>
      rw [e] at hgo
      rw [if_pos (show (some j).isSome = true from rfl), e]
      exact szs_some hgo
    | none =>
      rw [e] at hgo
      rw [if_neg (by simp)]
      exact szs_none hgo (stSz_n hN hd hg hB hP hb f (s + 1) _ (by omega))
theorem nights_b (hh : HOk q h) (o n : Nat) {d i : Nat} (hd : d < q.2 9) (hi : i < q.2 10) : (nightsM q (oilM h o 100) n).1 d i ≤ 99 := (nights_ok (oilM_ok hh o (x := 100) (by omega)) n).1 d i hd hi
theorem c_stop (hq : POk q) (hw : CP q w) (hh : HOk q h) (hu : CH q h u) {n d i g : Nat} (hn : n ≤ 60) (hd : d < q.2 9) (hi : i < q.2 10) (hg : g ≤ 99) (y : OV) : IsBest (stP q h n d i g) (2 ^ q.2 9) (f_stop w u y (nI n) (nI d) (nI i) (nI g)).1 := by
  have hD := hq.2.1.2
  have h2 := two_le hD
  rw [f_stop, c_sets, hw.2.2.2.2.1, sets_n _ (by omega), nI_clamp (by omega), nI_clamp (by omega)]
  refine szs_best (n := q.2 9) (stSz_n h2 (by omega) (by omega) (B := fun k => (nightsM q (oilM h k 100) n).1 d i) (fun k => by have := nights_b hh k n hd hi; omega) (fun k => rfl) (fun k hk y => c_bwR hq hw hh hu (by omega) hn hd hi y) _ _ _ (by omega)) (fun k hk hp => ?_)
  refine pop_lt (q.2 9) (by omega) d hd k hk ?_
  unfold stP at hp
  simp only [Bool.and_eq_true, Bool.not_eq_true'] at hp
  exact hp.1
theorem r_stop (hq : POk q) (hv : RP q v) (hh : HOk q h) (hS : RH q h 0 (v.1 10)) {n d i g : Nat} (hn : n ≤ 60) (hd : d < q.2 9) (hi : i < q.2 10) (hg : g ≤ 99) : ∀ k, k ≤ 256 → (g_stop v (nI n) (nI d) (nI i) (nI g) k).1 = optI (itN (stepB (stP q h n d i g)) none k) ∧ RH q h 0 (g_stop v (nI n) (nI d) (nI i) (nI g) k).2.1 ∧ sameS (g_stop v (nI n) (nI d) (nI i) (nI g) k).2.1 (v.1 10)
  | 0, _ => ⟨rfl, hS, fun _ _ => rfl⟩
  | k + 1, hk => by
    obtain ⟨h1, h2, h3⟩ := r_stop hq hv hh hS hn hd hi hg k (by omega)
    have hD := hq.2.1.2
    have hL := hq.2.2.1.2
    have hok := stepB_ok (P := stP q h n d i g) k
    unfold g_stop at h1 h2 h3 ⊢
    rw [itN_s, itN_s]
    generalize itN (s_stop (v.1 3) (v.1 5) (v.1 7) (v.1 4) (v.1 6) (nI n) (nI d) (nI i) (nI g)) (-4, v.1 10, v.1 13) k = X at h1 h2 h3
    generalize itN (stepB (stP q h n d i g)) none k = r at h1 hok
    have hb := r_behinds hq hv hh X.2.2 h2 (o := k) (n := n) (by omega) hn
    have hgb : (g_behinds (v.1 3) (v.1 5) (v.1 7) (v.1 4) (v.1 6) X.2.1 X.2.2 (nI n) (nI k)).1 (506 + 4 * d + i) = nI ((nightsM q (oilM h k 100) n).1 d i) := hb.1.1 d i hd hi
    have hb0 : RH q h 0 (g_behinds (v.1 3) (v.1 5) (v.1 7) (v.1 4) (v.1 6) X.2.1 X.2.2 (nI n) (nI k)).1 := RH_mv (s := 0) hD hL (fun j hj => hb.2 _ (by omega)) h2
    have hb3 : sameS (g_behinds (v.1 3) (v.1 5) (v.1 7) (v.1 4) (v.1 6) X.2.1 X.2.2 (nI n) (nI k)).1 (v.1 10) := fun j hj => (hb.2 j hj).trans (h3 j hj)
    have hnb := nights_b hh k n hd hi
    have hlt : ∀ j, r = some j → j < k := fun j e => best_lt hok e
    unfold s_stop
    rw [nI_clamp (by omega), nI_clamp (by omega), hgb, h1]
    have ebit : ((nI k >>> (nI d &&& 31)) &&& 1 : Int32) = 0 ↔ k.testBit d = false := by
      have h2 : k / 2 ^ d ≤ k := Nat.div_le_self _ _
      rw [pk_andN (n := d) (by omega) (m := 31) 5 (by decide), Nat.mod_eq_of_lt (show d < 2 ^ 5 by omega), pk_shrN (by omega) (nI d) d (smod_n d (by omega)), pk_andN (n := k / 2 ^ d) (by omega) (m := 1) 1 (by decide), show (0 : Int32) = nI 0 from rfl, nI_eq (by omega) (by decide), Nat.testBit_eq_decide_div_mod_eq, decide_eq_false_iff_not]
      omega
    have hstep : stepB (stP q h n d i g) k r = if k.testBit d = false ∧ (nightsM q (oilM h k 100) n).1 d i < g then better k r else r := by
      unfold stepB stP
      by_cases g1 : k.testBit d = false ∧ (nightsM q (oilM h k 100) n).1 d i < g
      · rw [if_pos g1, if_pos (by simp [g1.1, g1.2])]
      · rw [if_neg g1, if_neg (by simpa using g1)]
    rw [hstep]
    by_cases g1 : k.testBit d = false
    · rw [if_pos (ebit.mpr g1)]
      have hG : nI g ≤ nI ((nightsM q (oilM h k 100) n).1 d i) ↔ g ≤ (nightsM q (oilM h k 100) n).1 d i := nI_leI (by omega) (by omega)
      cases r with
      | none =>
        rw [if_pos (show optI none < 0 by decide)]
        by_cases g2 : (nightsM q (oilM h k 100) n).1 d i < g
        · have hC : k.testBit d = false ∧ (nightsM q (oilM h k 100) n).1 d i < g := ⟨g1, g2⟩
          rw [if_pos hC, if_neg (fun e => by have := hG.mp e; omega)]
          exact ⟨rfl, hb0, hb3⟩
        · have hC : ¬ (k.testBit d = false ∧ (nightsM q (oilM h k 100) n).1 d i < g) := fun e => g2 e.2
          rw [if_neg hC, if_pos (hG.mpr (by omega))]
          exact ⟨rfl, hb0, hb3⟩
      | some j =>
        have hj := hlt j rfl
        have b1 := pop_le 8 (by decide) j (by omega)
        have b2 := pop_le 8 (by decide) k (by omega)
        rw [if_neg (show ¬ optI (some j) < 0 from nI_pos (by omega))]
        have hM : g_many (optI (some j)) ≤ g_many (nI k) ↔ pop j ≤ pop k := by
          show g_many (nI j) ≤ g_many (nI k) ↔ _
          rw [(pop_bits j (by omega)).2, (pop_bits k (by omega)).2]
          exact nI_leI (by omega) (by omega)
        by_cases g3 : pop j ≤ pop k
        · rw [if_pos (hM.mpr g3)]
          have eb : better k (some j) = some j := if_pos g3
          rw [eb, ite_self]
          exact ⟨h1, h2, h3⟩
        · rw [if_neg (fun e => g3 (hM.mp e))]
          have eb : better k (some j) = some k := if_neg g3
          by_cases g2 : (nightsM q (oilM h k 100) n).1 d i < g
          · have hC : k.testBit d = false ∧ (nightsM q (oilM h k 100) n).1 d i < g := ⟨g1, g2⟩
            rw [if_pos hC, if_neg (fun e => by have := hG.mp e; omega), eb]
            exact ⟨rfl, hb0, hb3⟩
          · have hC : ¬ (k.testBit d = false ∧ (nightsM q (oilM h k 100) n).1 d i < g) := fun e => g2 e.2
            rw [if_neg hC, if_pos (hG.mpr (by omega))]
            exact ⟨rfl, hb0, hb3⟩
    · have hC : ¬ (k.testBit d = false ∧ (nightsM q (oilM h k 100) n).1 d i < g) := fun e => g1 e.1
      rw [if_neg (fun e => g1 (ebit.mp e)), if_neg hC]
      exact ⟨h1, h2, h3⟩
end OI
