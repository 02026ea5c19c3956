/-! the text: numbers, items -/
def sb (x : Nat) : Int32 := if x < 128 then nI x else nI x - 256
theorem digR : ∀ x, x < 256 → gIn (sb x).toInt64 48 57 = decide (48 ≤ x ∧ x ≤ 57) := by decide +kernel
theorem sb_eq {x c : Nat} (hx : x < 256) (hc : c < 128) : sb x = nI c ↔ x = c := by
  unfold sb
  by_cases h : x < 128
  · rw [if_pos h]; exact nI_eq (by omega) (by omega)
  · rw [if_neg h]
    constructor
    · intro e
      exfalso
      have e1 : (nI x - 256 : Int32).toInt = (x : Int) - 256 := pk_sub_toInt (b := 256) (by omega) (by omega)
      rw [e, nI_toInt (by omega)] at e1
      omega
    · intro e; omega
section PA
variable {bt : Nat → Nat} {len : Nat}
def dig (bt : Nat → Nat) (len p : Nat) : Bool := decide (p < len ∧ 48 ≤ bt p ∧ bt p ≤ 57)
def chr (bt : Nat → Nat) (len p c : Nat) : Bool := decide (p < len ∧ bt p = c)
def numF (bt : Nat → Nat) (len p : Nat) : Option (Nat × Nat) := if dig bt len p = true then (if dig bt len (p + 1) = true then (if dig bt len (p + 2) = true then none else some (10 * (bt p - 48) + (bt (p + 1) - 48), p + 2)) else some (bt p - 48, p + 1)) else none
def fin (bt : Nat → Nat) (len : Nat) : Nat → Nat → Nat → (Nat → Nat) → Option ((Nat → Nat) × Nat)
  | 0, _, p, X => if chr bt len p 59 = true then some (X, p + 1) else none
  | n + 1, k, p, X => if chr bt len p 44 = true then (numF bt len (p + 1)).bind (fun y => fin bt len n (k + 1) y.2 (upN X k y.1)) else none
def itH (bt : Nat → Nat) (len n k p : Nat) (X : Nat → Nat) : Option ((Nat → Nat) × Nat) := (numF bt len p).bind (fun y => fin bt len n (k + 1) y.2 (upN X k y.1))
theorem dig_t {p : Nat} : dig bt len p = true ↔ p < len ∧ 48 ≤ bt p ∧ bt p ≤ 57 := decide_eq_true_iff
theorem chr_t {p c : Nat} : chr bt len p c = true ↔ p < len ∧ bt p = c := decide_eq_true_iff
theorem numF_b {p : Nat} {y : Nat × Nat} (h : numF bt len p = some y) : y.1 ≤ 99 ∧ p < y.2 ∧ y.2 ≤ len := by
  unfold numF at h
  by_cases g1 : dig bt len p = true
  · have d1 := dig_t.mp g1
    rw [if_pos g1] at h
    by_cases g2 : dig bt len (p + 1) = true
    · have d2 := dig_t.mp g2
      rw [if_pos g2] at h
      by_cases g3 : dig bt len (p + 2) = true
      · rw [if_pos g3] at h; cases h
      · rw [if_neg g3] at h; cases h; exact ⟨by show 10 * (bt p - 48) + (bt (p + 1) - 48) ≤ 99; omega, by show p < p + 2; omega, by show p + 2 ≤ len; omega⟩
    · rw [if_neg g2] at h; cases h; exact ⟨by show bt p - 48 ≤ 99; omega, by show p < p + 1; omega, by show p + 1 ≤ len; omega⟩
  · rw [if_neg g1] at h; cases h
theorem fin_b : ∀ {n k p : Nat} {X X' : Nat → Nat} {p' : Nat}, fin bt len n k p X = some (X', p') → (∀ j, X j ≤ 99) → p < p' ∧ p' ≤ len ∧ ∀ j, X' j ≤ 99
  | 0, k, p, X, X', p', h, hX => by
    simp only [fin] at h
    by_cases g : chr bt len p 59 = true
    · rw [if_pos g] at h; cases h; have := (chr_t.mp g).1; exact ⟨by omega, by omega, hX⟩
    · rw [if_neg g] at h; cases h
  | n + 1, k, p, X, X', p', h, hX => by
    simp only [fin] at h
    by_cases g : chr bt len p 44 = true
    · rw [if_pos g] at h
      cases e : numF bt len (p + 1) with
      | none => rw [e] at h; cases h
      | some y =>
        rw [e] at h
        have hy := numF_b e
        have := fin_b (n := n) (show fin bt len n (k + 1) y.2 (upN X k y.1) = some (X', p') from h) (fun j => by
          unfold upN
          split
          · exact hy.1
          · exact hX j)
        exact ⟨by omega, this.2.1, this.2.2⟩
    · rw [if_neg g] at h; cases h
theorem itH_b {n k p : Nat} {X X' : Nat → Nat} {p' : Nat} (h : itH bt len n k p X = some (X', p')) (hX : ∀ j, X j ≤ 99) : p < p' ∧ p' ≤ len ∧ ∀ j, X' j ≤ 99 := by
  unfold itH at h
  cases e : numF bt len p with
  | none => rw [e] at h; cases h
  | some y =>
    rw [e] at h
    have hy := numF_b e
    have := fin_b (show fin bt len n (k + 1) y.2 (upN X k y.1) = some (X', p') from h) (fun j => by
      unfold upN
      split
      · exact hy.1
      · exact hX j)
    exact ⟨by omega, this.2.1, this.2.2⟩
/-! the class -/
/-- the class's text -/
def CT (bt : Nat → Nat) (len : Nat) (u : OV) : Prop := u.2 3 = nI len ∧ ∀ k, k < len → u.1 0 k = nI (bt k)
theorem byte_n {u : OV} (hl : len ≤ 300) (hu : CT bt len u) {p : Nat} (hp : p < 2 ^ 20) : f_X4_byteAt u (nI p) = if p < len then nI (bt p) else -1 := by
  rw [f_X4_byteAt, hu.1]
  by_cases g : p < len
  · rw [if_neg (nI_ge g (by omega)), if_pos g, rAt_n (by omega) (by decide), hu.2 p g]
  · rw [if_pos (nI_le (by omega) (by omega)), if_neg g]
theorem byte_eq {u : OV} (hl : len ≤ 300) (hb : ∀ k, k < len → bt k < 256) (hu : CT bt len u) {p c : Nat} (hp : p < 2 ^ 20) (hc : c < 256) : f_X4_byteAt u (nI p) = nI c ↔ chr bt len p c = true := by
  rw [byte_n hl hu hp, chr_t]
  by_cases g : p < len
  · have := hb p g
    rw [if_pos g, nI_eq (by omega) (by omega)]
    exact ⟨fun e => ⟨g, e⟩, fun e => e.2⟩
  · rw [if_neg g]
    constructor
    · intro e
      have : nI c < 0 := by rw [← e]; decide
      exact absurd this (nI_pos (by omega))
    · intro e; exact absurd e.1 g
theorem fig_n {u : OV} (hl : len ≤ 300) (hb : ∀ k, k < len → bt k < 256) (hu : CT bt len u) {p : Nat} (hp : p < 2 ^ 20) : f_X4_isFigure u (nI p) = dig bt len p := by
  rw [f_X4_isFigure, byte_n hl hu hp, Bool.eq_iff_iff, dig_t]
  by_cases g : p < len
  · have := hb p g
    rw [if_pos g]
    simp only [fWithin, Bool.and_eq_true, Bool.not_eq_true', decide_eq_false_iff_not]
    rw [show (48 : Int32) = nI 48 from rfl, show (57 : Int32) = nI 57 from rfl, nI_ltI (by omega) (by omega), nI_ltI (by omega) (by omega)]
    omega
  · rw [if_neg g]
    constructor
    · intro e; exact absurd e (by decide)
    · intro e; exact absurd e.1 g
theorem figs_n {u : OV} (hl : len ≤ 300) (hb : ∀ k, k < len → bt k < 256) (hu : CT bt len u) {p : Nat} (hp : p < 2 ^ 19) : f_X4_figuresAt u (nI p) = if dig bt len p = true then (if dig bt len (p + 1) = true then nI 2 else nI 1) else nI 0 := by
  rw [f_X4_figuresAt, nI_1, fig_n hl hb hu (by omega), fig_n hl hb hu (by omega)]
  rfl
def CTn (u' u : OV) : Prop := u'.1 0 = u.1 0 ∧ u'.2 3 = u.2 3
theorem CTn.ct {u' u : OV} (h : CTn u' u) (hu : CT bt len u) : CT bt len u' := ⟨h.2.trans hu.1, fun k hk => by rw [h.1]; exact hu.2 k hk⟩
theorem sc1_n (u : OV) (q : Int32) (k : Nat) : CTn (sc1 u q k) u := ⟨rfl, rfl⟩
theorem number_n {u : OV} (hl : len ≤ 300) (hb : ∀ k, k < len → bt k < 256) (hu : CT bt len u) {p : Nat} (hp : p < 2 ^ 19) (h1 : dig bt len p = true) : f_X4_numberAt u (nI p) (f_X4_figuresAt u (nI p)) = nI (if dig bt len (p + 1) = true then 10 * (bt p - 48) + (bt (p + 1) - 48) else bt p - 48) := by
  have d1 := dig_t.mp h1
  rw [figs_n hl hb hu hp, if_pos h1, f_X4_numberAt, byte_n hl hu (by omega), if_pos d1.1]
  by_cases h2 : dig bt len (p + 1) = true
  · have d2 := dig_t.mp h2
    rw [if_pos h2, if_pos h2, if_pos (show nI 2 = (2 : Int32) from rfl), nI_1, byte_n hl hu (by omega), if_pos d2.1, show (48 : Int32) = nI 48 from rfl, show (10 : Int32) = nI 10 from rfl, pk_sub d1.2.1, pk_mul, nI_add, pk_sub (by omega)]
    congr 1
    omega
  · rw [if_neg h2, if_neg h2, if_neg (show ¬ nI 1 = (2 : Int32) by decide), show (48 : Int32) = nI 48 from rfl, pk_sub d1.2.1]
theorem scan_n (hl : len ≤ 300) (hb : ∀ k, k < len → bt k < 256) : ∀ (f : Nat) (u : OV) (p k : Nat) (X : Nat → Nat), k + f = 3 → p ≤ len + 1 → CT bt len u → (∀ j, j < k → u.1 1 j = nI (X j)) → CTn (scanGo f u (nI p) k).1 u ∧ ((∃ n X' p', n < f ∧ itH bt len n k p X = some (X', p') ∧ (scanGo f u (nI p) k).2 = nI p' ∧ (scanGo f u (nI p) k).1.2 2 = nI (k + n + 1) ∧ (∀ j, j < k + n + 1 → (scanGo f u (nI p) k).1.1 1 j = nI (X' j)) ∧ ∀ n', n' ≠ n → n' < f → itH bt len n' k p X = none) ∨ ((scanGo f u (nI p) k).2 = -1 ∧ ∀ n', n' < f → itH bt len n' k p X = none))
  | 0, u, p, k, X, _, _, _, _ => ⟨⟨rfl, rfl⟩, Or.inr ⟨rfl, fun n' h => absurd h (by omega)⟩⟩
  | f + 1, u, p, k, X, hk, hp, hu, hX => by
    simp only [scanGo]
    by_cases g1 : dig bt len p = true
    · have d1 := dig_t.mp g1
      have hnum := number_n hl hb hu (by omega) g1
      have hfig := figs_n hl hb hu (p := p) (by omega)
      rw [if_pos g1] at hfig
      have hne : ¬ f_X4_figuresAt u (nI p) = 0 := by
        rw [hfig]
        split <;> decide
      rw [if_neg hne]
      have hs := sc1_n u (nI p) k
      have hus := hs.ct hu
      have hXs : ∀ j, j < k + 1 → (sc1 u (nI p) k).1 1 j = nI (upN X k (if dig bt len (p + 1) = true then 10 * (bt p - 48) + (bt (p + 1) - 48) else bt p - 48) j) := by
        intro j hj
        show (setA u 1 (rPut (u.1 1) 3 (nI k) (f_X4_numberAt u (nI p) (f_X4_figuresAt u (nI p))))).1 1 j = _
        rw [setA_s, rPut_n (by omega) (by decide), hnum]
        by_cases e : j = k
        · rw [e, pk_us, upN_s]
        · rw [pk_un e, upN_n e]; exact hX j (by omega)
      have htold : (sc1 u (nI p) k).2 2 = nI (k + 0 + 1) := by
        show (setI _ 2 (nI k + 1)).2 2 = _
        rw [setI_s, nI_1]
      have hnat : ∃ d, (d = 1 ∨ d = 2) ∧ f_X4_figuresAt u (nI p) = nI d ∧ (d = 2 ↔ dig bt len (p + 1) = true) := by
        by_cases g2 : dig bt len (p + 1) = true
        · rw [if_pos g2] at hfig; exact ⟨2, Or.inr rfl, hfig, fun _ => g2, fun _ => rfl⟩
        · rw [if_neg g2] at hfig; exact ⟨1, Or.inl rfl, hfig, fun e => absurd e (by decide), fun e => absurd e g2⟩
      obtain ⟨d, hd12, hfd, hdd⟩ := hnat
      have hdl : p + d ≤ len := by
        rcases hd12 with rfl | rfl
        · omega
        · have := dig_t.mp (hdd.mp rfl)
          omega
      rw [hfd, nI_add, show (1 : Int32) = nI 1 from rfl, nI_add, nI_add]
      have hN : (d = 2 ∧ dig bt len (p + 2) = true) ∨ numF bt len p = some (if dig bt len (p + 1) = true then 10 * (bt p - 48) + (bt (p + 1) - 48) else bt p - 48, p + d) := by
        unfold numF
        rw [if_pos g1]
        by_cases g2 : dig bt len (p + 1) = true
        · have hd2 : d = 2 := hdd.mpr g2
          subst hd2
          rw [if_pos g2, if_pos g2]
          by_cases g3 : dig bt len (p + 2) = true
          · exact Or.inl ⟨rfl, g3⟩
          · right; rw [if_neg g3]
        · have hd1 : d = 1 := hd12.resolve_right (fun e => g2 (hdd.mp e))
          subst hd1
          right
          rw [if_neg g2, if_neg g2]
      have m59 := byte_eq hl hb hus (p := p + d) (c := 59) (by omega) (by decide)
      have m44 := byte_eq hl hb hus (p := p + d) (c := 44) (by omega) (by decide)
      rw [show nI 59 = (59 : Int32) from rfl] at m59
      rw [show nI 44 = (44 : Int32) from rfl] at m44
      rcases hN with ⟨hd2, g3⟩ | hN
      · subst hd2
        have d3 := dig_t.mp g3
        have h1 : ¬ f_X4_byteAt (sc1 u (nI p) k) (nI (p + 2)) = 59 := fun e => by have := (chr_t.mp (m59.mp e)).2; omega
        have h2 : ¬ f_X4_byteAt (sc1 u (nI p) k) (nI (p + 2)) = 44 := fun e => by have := (chr_t.mp (m44.mp e)).2; omega
        rw [if_neg h1, if_neg h2]
        refine ⟨hs, Or.inr ⟨rfl, fun n' _ => ?_⟩⟩
        unfold itH numF
        rw [if_pos g1, if_pos (hdd.mp rfl), if_pos g3]
        rfl
      · have hit : ∀ n, itH bt len n k p X = fin bt len n (k + 1) (p + d) (upN X k (if dig bt len (p + 1) = true then 10 * (bt p - 48) + (bt (p + 1) - 48) else bt p - 48)) := fun n => by unfold itH; rw [hN]; rfl
        by_cases h59 : chr bt len (p + d) 59 = true
        · have hc := chr_t.mp h59
          rw [if_pos (m59.mpr h59)]
          refine ⟨hs, Or.inl ⟨0, _, p + d + 1, by omega, by rw [hit 0]; simp only [fin]; rw [if_pos h59], rfl, htold, hXs, fun n' h1 _ => ?_⟩⟩
          rw [hit n']
          obtain ⟨n2, rfl⟩ : ∃ n2, n' = n2 + 1 := ⟨n' - 1, by omega⟩
          simp only [fin]
          rw [if_neg (fun e => by have := (chr_t.mp e).2; omega)]
        · rw [if_neg (fun e => h59 (m59.mp e))]
          by_cases h44 : chr bt len (p + d) 44 = true
          · have hc := chr_t.mp h44
            rw [if_pos (m44.mpr h44)]
            have ih := scan_n hl hb f (sc1 u (nI p) k) (p + d + 1) (k + 1) (upN X k (if dig bt len (p + 1) = true then 10 * (bt p - 48) + (bt (p + 1) - 48) else bt p - 48)) (by omega) (by omega) hus hXs
            rw [show p + (d + 1) = p + d + 1 by omega]
            have hrec : ∀ n, itH bt len (n + 1) k p X = itH bt len n (k + 1) (p + d + 1) (upN X k (if dig bt len (p + 1) = true then 10 * (bt p - 48) + (bt (p + 1) - 48) else bt p - 48)) := fun n => by
              rw [hit (n + 1)]
              simp only [fin]
              rw [if_pos h44]
              rfl
            have h0 : itH bt len 0 k p X = none := by rw [hit 0]; simp only [fin]; rw [if_neg h59]
            obtain ⟨i1, i2⟩ := ih
            refine ⟨⟨i1.1.trans hs.1, i1.2.trans hs.2⟩, ?_⟩
            rcases i2 with ⟨n, X', p', j1, j2, j3, j4, j5, j6⟩ | ⟨j1, j2⟩
            · refine Or.inl ⟨n + 1, X', p', by omega, by rw [hrec n]; exact j2, j3, ?_, fun j hj => j5 j (by omega), fun n' h1 h2 => ?_⟩
              · rw [j4]; congr 1; omega
              · cases n' with
                | zero => exact h0
                | succ n' => rw [hrec n']; exact j6 n' (by omega) (by omega)
            · refine Or.inr ⟨j1, fun n' h2 => ?_⟩
              cases n' with
              | zero => exact h0
              | succ n' => rw [hrec n']; exact j2 n' (by omega)
          · rw [if_neg (fun e => h44 (m44.mp e))]
            refine ⟨hs, Or.inr ⟨rfl, fun n' _ => ?_⟩⟩
            rw [hit n']
            cases n' with
            | zero => simp only [fin]; rw [if_neg h59]
            | succ n' => simp only [fin]; rw [if_neg h44]
    · have hfig := figs_n hl hb hu (p := p) (by omega)
      rw [if_neg g1] at hfig
      rw [if_pos (show f_X4_figuresAt u (nI p) = 0 from hfig)]
      refine ⟨⟨rfl, rfl⟩, Or.inr ⟨rfl, fun n' _ => ?_⟩⟩
      unfold itH numF
      rw [if_neg g1]
      rfl
/-! the reference -/
theorem numGo3 (T : Nat → Int32) : ∀ n k g j, 3 ≤ j → j + n < 2 ^ 31 → ∃ j', 3 ≤ j' ∧ j' < 2 ^ 31 ∧ (numGo T n k g (nI j)).2.2 = nI j'
  | 0, k, g, j, h3, hj => ⟨j, h3, by omega, rfl⟩
  | n + 1, k, g, j, h3, hj => by
    simp only [numGo]
    rw [nI_1]
    split
    · split
      · exact numGo3 T n (k + 1) _ (j + 1) (by omega) (by omega)
      · exact numGo3 T n (k + 1) _ (j + 1) (by omega) (by omega)
    · exact ⟨j, h3, by omega, rfl⟩
theorem fig12 {j : Nat} (hj : j < 2 ^ 31) : gIn (nI j).toInt64 1 2 = true ↔ 1 ≤ j ∧ j ≤ 2 := by
  have : gIn (nI j).toInt64 1 2 = fWithin (nI j) 1 2 := gIn32 _ 1 2
  rw [this]
  simp only [fWithin, Bool.and_eq_true, Bool.not_eq_true', decide_eq_false_iff_not]
  rw [show (1 : Int32) = nI 1 from rfl, show (2 : Int32) = nI 2 from rfl, nI_ltI hj (by decide), nI_ltI (by decide) hj]
  omega
theorem numR_n {T : Nat → Int32} (hl : len ≤ 300) (hb : ∀ k, k < len → bt k < 256) (hT : ∀ k, k < len → T k = sb (bt k)) {q : Nat} (hq : q ≤ len) : (numF bt len q = none → g_numberR T len q = -1) ∧ ∀ y, numF bt len q = some y → g_numberR T len q = nI y.1 ∧ g_numberP T len q = y.2 := by
  have hdg : ∀ p, p < len → gIn (T p).toInt64 48 57 = dig bt len p := fun p hp => by
    rw [hT p hp, digR _ (hb p hp)]
    unfold dig
    congr 1
    exact propext ⟨fun e => ⟨hp, e⟩, fun e => e.2⟩
  have hTd : ∀ p, dig bt len p = true → T p = nI (bt p) := fun p e => by
    have d := dig_t.mp e
    rw [hT p d.1, sb, if_pos (by omega)]
  have stop : ∀ n k g f, k + n = len → dig bt len k = false → numGo T n k g f = (k, g, f) := by
    intro n k g f hk hd
    cases n with
    | zero => rfl
    | succ n =>
      simp only [numGo]
      rw [hdg k (by omega), hd, if_neg (by decide)]
  unfold g_numberR g_numberP
  by_cases g1 : dig bt len q = true
  · have d1 := dig_t.mp g1
    have e1 : numGo T (len - q) q 0 0 = numGo T (len - (q + 1)) (q + 1) (nI (bt q - 48)) (nI 1) := by
      rw [show len - q = (len - (q + 1)) + 1 by omega]
      simp only [numGo]
      rw [hdg q d1.1, if_pos g1, if_neg (by decide), hTd q g1, show (10 : Int32) * 0 + nI (bt q) - 48 = nI (bt q - 48) from by
        rw [show (10 : Int32) * 0 = nI 0 from rfl, nI_add, show (48 : Int32) = nI 48 from rfl, pk_sub (by omega)]
        congr 1
        omega]
      rfl
    rw [e1]
    unfold numF
    rw [if_pos g1]
    by_cases g2 : dig bt len (q + 1) = true
    · have d2 := dig_t.mp g2
      have e2 : numGo T (len - (q + 1)) (q + 1) (nI (bt q - 48)) (nI 1) = numGo T (len - (q + 2)) (q + 2) (nI (10 * (bt q - 48) + (bt (q + 1) - 48))) (nI 2) := by
        rw [show len - (q + 1) = (len - (q + 2)) + 1 by omega]
        simp only [numGo]
        rw [hdg (q + 1) d2.1, if_pos g2, if_neg (by decide), hTd (q + 1) g2, show (10 : Int32) * nI (bt q - 48) + nI (bt (q + 1)) - 48 = nI (10 * (bt q - 48) + (bt (q + 1) - 48)) from by
          rw [show (10 : Int32) = nI 10 from rfl, pk_mul, nI_add, show (48 : Int32) = nI 48 from rfl, pk_sub (by omega)]
          congr 1
          omega]
        rfl
      rw [e2, if_pos g2]
      by_cases g3 : dig bt len (q + 2) = true
      · have d3 := dig_t.mp g3
        rw [if_pos g3]
        have e3 : ∃ g, numGo T (len - (q + 2)) (q + 2) (nI (10 * (bt q - 48) + (bt (q + 1) - 48))) (nI 2) = numGo T (len - (q + 3)) (q + 3) g (nI 3) := by
          rw [show len - (q + 2) = (len - (q + 3)) + 1 by omega]
          simp only [numGo]
          rw [hdg (q + 2) d3.1, if_pos g3, if_pos (by decide)]
          exact ⟨_, rfl⟩
        obtain ⟨g, e3⟩ := e3
        obtain ⟨j', h1, h2, h3⟩ := numGo3 T (len - (q + 3)) (q + 3) g 3 (by decide) (by omega)
        rw [e3, h3]
        refine ⟨fun _ => if_neg (fun e => by have := (fig12 h2).mp e; omega), fun y e => by cases e⟩
      · rw [if_neg g3, stop _ _ _ _ (by omega) (by simpa using g3)]
        refine ⟨fun e => (by cases e), fun y e => ?_⟩
        cases e
        exact ⟨if_pos ((fig12 (by decide)).mpr (by omega)), rfl⟩
    · rw [if_neg g2, stop _ _ _ _ (by omega) (by simpa using g2)]
      refine ⟨fun e => (by cases e), fun y e => ?_⟩
      cases e
      exact ⟨if_pos ((fig12 (by decide)).mpr (by omega)), rfl⟩
  · rw [stop _ _ _ _ (by omega) (by simpa using g1)]
    unfold numF
    rw [if_neg g1]
    exact ⟨fun _ => if_neg (show ¬ gIn ((0 : Int32)).toInt64 1 2 = true by decide), fun y e => by cases e⟩
theorem itemGo_n {T : Nat → Int32} (hl : len ≤ 300) (hb : ∀ k, k < len → bt k < 256) (hT : ∀ k, k < len → T k = sb (bt k)) : ∀ (n k p : Nat) (X : Nat → Nat) (F : Nat → Int32), 1 ≤ k → k + n ≤ 3 → p ≤ len → (∀ j, j < k → F j = nI (X j)) → (∀ X' p', fin bt len n k p X = some (X', p') → (itemGo T len n k p true F).2.1 = true ∧ (itemGo T len n k p true F).1 + 1 = p' ∧ chr bt len (itemGo T len n k p true F).1 59 = true ∧ ∀ j, j < k + n → (itemGo T len n k p true F).2.2 j = nI (X' j)) ∧ (fin bt len n k p X = none → (itemGo T len n k p true F).2.1 = false ∨ chr bt len (itemGo T len n k p true F).1 59 = false)
  | 0, k, p, X, F, _, _, _, hF => by
    simp only [fin, itemGo]
    by_cases g : chr bt len p 59 = true
    · rw [if_pos g]
      refine ⟨fun X' p' e => ?_, fun e => by cases e⟩
      cases e
      exact ⟨trivial, rfl, g, hF⟩
    · rw [if_neg g]
      exact ⟨fun X' p' e => (by cases e), fun _ => Or.inr (by simpa using g)⟩
  | n + 1, k, p, X, F, hk, hkn, hp, hF => by
    simp only [fin, itemGo, if_true]
    rw [if_neg (show ¬ nI k = 0 from nI_ne0 hk (by omega))]
    by_cases g0 : p < len
    · rw [if_neg (nI_ge g0 (by omega)), hT p g0, show (44 : Int32) = nI 44 from rfl]
      by_cases g : chr bt len p 44 = true
      · have hc := chr_t.mp g
        rw [if_pos ((sb_eq (hb p g0) (by decide)).mpr hc.2), if_pos g, pk_us]
        obtain ⟨r1, r2⟩ := numR_n hl hb hT (q := p + 1) (by omega)
        cases e : numF bt len (p + 1) with
        | none =>
          rw [r1 e, if_pos (by decide), itemGo_f]
          exact ⟨fun X' p' e => (by cases e), fun _ => Or.inl rfl⟩
        | some y =>
          obtain ⟨s1, s2⟩ := r2 y e
          have hy := numF_b e
          rw [s1, s2, if_neg (nI_pos (by omega))]
          have ih := itemGo_n hl hb hT n (k + 1) y.2 (upN X k y.1) (upd F k (nI y.1)) (by omega) (by omega) hy.2.2 (fun j hj => by
            by_cases ej : j = k
            · rw [ej, pk_us, upN_s]
            · rw [pk_un ej, upN_n ej]; exact hF j (by omega))
          rw [show k + 1 + n = k + (n + 1) by omega] at ih
          exact ih
      · rw [if_neg (fun e => g (chr_t.mpr ⟨g0, (sb_eq (hb p g0) (by decide)).mp e⟩)), if_neg g, pk_us, if_pos (by decide), itemGo_f]
        exact ⟨fun X' p' e => (by cases e), fun _ => Or.inl rfl⟩
    · rw [if_pos (nI_le (by omega) (by omega)), if_neg (fun e => g0 (chr_t.mp e).1), pk_us, if_pos (by decide), itemGo_f]
      exact ⟨fun X' p' e => (by cases e), fun _ => Or.inl rfl⟩
theorem itemR_n {T : Nat → Int32} (hl : len ≤ 300) (hb : ∀ k, k < len → bt k < 256) (hT : ∀ k, k < len → T k = sb (bt k)) {n p : Nat} (hn : n + 1 ≤ 3) (hp : p ≤ len) (X : Nat → Nat) (F : Nat → Int32) : (∀ X' p', itH bt len n 0 p X = some (X', p') → (itemGo T len (n + 1) 0 p true F).2.1 = true ∧ (itemGo T len (n + 1) 0 p true F).1 + 1 = p' ∧ chr bt len (itemGo T len (n + 1) 0 p true F).1 59 = true ∧ ∀ j, j < n + 1 → (itemGo T len (n + 1) 0 p true F).2.2 j = nI (X' j)) ∧ (itH bt len n 0 p X = none → (itemGo T len (n + 1) 0 p true F).2.1 = false ∨ chr bt len (itemGo T len (n + 1) 0 p true F).1 59 = false) := by
  unfold itH
  simp only [itemGo, if_true]
  rw [if_pos (show nI 0 = 0 from rfl), pk_us]
  obtain ⟨r1, r2⟩ := numR_n hl hb hT (q := p) hp
  cases e : numF bt len p with
  | none =>
    rw [r1 e, if_pos (by decide), itemGo_f]
    exact ⟨fun X' p' e => (by cases e), fun _ => Or.inl rfl⟩
  | some y =>
    obtain ⟨s1, s2⟩ := r2 y e
    have hy := numF_b e
    rw [s1, s2, if_neg (nI_pos (by omega))]
    have ih := itemGo_n hl hb hT n 1 y.2 (upN X 0 y.1) (upd F 0 (nI y.1)) (by omega) (by omega) hy.2.2 (fun j hj => by
      have ej : j = 0 := by omega
      rw [ej, pk_us, upN_s])
    rw [show 1 + n = n + 1 by omega] at ih
    exact ih
end PA
