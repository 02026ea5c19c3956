/-! a house in natural numbers; how the class has it, how the reference has it -/
abbrev PN : Type := (Nat → Nat → Nat) × (Nat → Nat)
abbrev HN : Type := (Nat → Nat → Nat) × (Nat → Nat) × (Nat → Nat) × Nat × Nat
theorem rAt_n {f : Nat → Int32} {n k : Nat} (hk : k < n) (hn : n < 2 ^ 31) : rAt f n (nI k) = f k := by
  rw [rAt, if_neg (nI_pos (by omega)), if_neg (nI_ge hk hn), nI_clamp (by omega)]
theorem rPut_n {f : Nat → Int32} {n k : Nat} {x : Int32} (hk : k < n) (hn : n < 2 ^ 31) : rPut f n (nI k) x = upd f k x := by
  rw [rPut, if_neg (nI_pos (by omega)), if_neg (nI_ge hk hn), nI_clamp (by omega)]
theorem ix8 (i d : Nat) : nI i * 8 + nI d = nI (i * 8 + d) := by
  rw [show (8 : Int32) = nI 8 from rfl, pk_mul, nI_add]
theorem gOf_n {u : OV} {d i : Nat} (hd : d < 8) (hi : i < 4) : f_X0_grudgeOf u (nI d) (nI i) = u.1 0 (i * 8 + d) := by
  rw [f_X0_grudgeOf, ix8, rAt_n (by omega) (by decide)]
theorem nI_ofInt (n : Nat) : nI n = Int32.ofInt (n : Int) := Int32.ofInt_eq_ofNat.symm
theorem ofInt_t {z : Int} (h1 : -2147483648 ≤ z) (h2 : z < 2147483648) : (Int32.ofInt z).toInt = z := Int32.toInt_ofInt_of_le (by omega) (by omega)
theorem worn_z {z : Int} (h1 : -2147483648 ≤ z) (h2 : z < 2147483648) : (if 0 < Int32.ofInt z then Int32.ofInt z else 0) = nI z.toNat := by
  have e : 0 < Int32.ofInt z ↔ 0 < z := by
    rw [Int32.lt_iff_toInt_lt, ofInt_t h1 h2]
    exact Iff.rfl
  by_cases h : 0 < z
  · rw [if_pos (e.mpr h), nI_ofInt, Int.toNat_of_nonneg (by omega)]
  · rw [if_neg (fun g => h (e.mp g)), Int.toNat_eq_zero.mpr (by omega)]
    rfl
theorem worn_n {a b : Nat} (ha : a < 2 ^ 30) (hb : b < 2 ^ 30) : fWorn (nI a) (nI b) = nI (a - b) := by
  have e : nI a - nI b = Int32.ofInt ((a : Int) - b) := by rw [Int32.ofInt_sub, ← nI_ofInt, ← nI_ofInt]
  rw [fWorn, e, worn_z (by omega) (by omega)]
  congr 1
  omega
theorem grown_n {a b : Nat} (ha : a < 2 ^ 30) (hb : b < 2 ^ 30) : fGrown (nI a) (nI b) = nI (min 99 (a + b)) := by
  rw [fGrown, nI_add, show (99 : Int32) = nI 99 from rfl]
  by_cases h : a + b < 99
  · rw [if_pos ((nI_ltI (by omega) (by decide)).mpr h), Nat.min_eq_right (by omega)]
  · rw [if_neg (fun g => h ((nI_ltI (by omega) (by decide)).mp g)), Nat.min_eq_left (by omega)]
theorem clamp_z {z : Int} (h1 : -2147483648 ≤ z) (h2 : z < 2147483648) : clampG (Int32.ofInt z) = nI (min 99 z.toNat) := by
  have e1 : 0 ≤ Int32.ofInt z ↔ 0 ≤ z := by
    rw [Int32.le_iff_toInt_le, ofInt_t h1 h2]
    exact Iff.rfl
  have e2 : Int32.ofInt z ≤ 99 ↔ z ≤ 99 := by
    rw [Int32.le_iff_toInt_le, ofInt_t h1 h2]
    exact Iff.rfl
  rw [clampG]
  by_cases g1 : 0 ≤ z
  · rw [if_pos (e1.mpr g1)]
    by_cases g2 : z ≤ 99
    · rw [if_pos (e2.mpr g2), Nat.min_eq_right (by omega), nI_ofInt, Int.toNat_of_nonneg g1]
    · rw [if_neg (fun g => g2 (e2.mp g)), Nat.min_eq_left (by omega)]
      rfl
  · rw [if_neg (fun g => g1 (e1.mp g)), Int.toNat_eq_zero.mpr (by omega)]
    rfl
def POk (q : PN) : Prop := (2 ≤ q.2 8 ∧ q.2 8 ≤ 6) ∧ (1 ≤ q.2 9 ∧ q.2 9 ≤ 8) ∧ (1 ≤ q.2 10 ∧ q.2 10 ≤ 4) ∧ q.2 11 ≤ 10 ∧ q.2 12 ≤ 9 ∧ q.2 13 ≤ 9 ∧ (1 ≤ q.2 14 ∧ q.2 14 ≤ 9) ∧
  (∀ d, d < q.2 9 → q.1 0 d < q.2 8 ∧ q.1 1 d < q.2 8 ∧ q.1 0 d ≠ q.1 1 d ∧ q.1 2 d < q.2 9 ∧ q.1 3 d ≤ 20) ∧
  (∀ i, i < q.2 10 → q.1 5 i ≤ 20 ∧ q.1 6 i < q.2 8) ∧ (∀ d i, d < q.2 9 → i < q.2 10 → q.1 7 (i * 8 + d) ≤ 99)
/-- the class's plan -/
def CP (q : PN) (w : OV) : Prop := (∀ d, d < q.2 9 → w.1 0 d = nI (q.1 0 d) ∧ w.1 1 d = nI (q.1 1 d) ∧ w.1 2 d = nI (q.1 2 d) ∧ w.1 3 d = nI (q.1 3 d)) ∧
  (∀ i, i < q.2 10 → w.1 5 i = nI (q.1 5 i) ∧ w.1 6 i = nI (q.1 6 i)) ∧ (∀ d i, d < q.2 9 → i < q.2 10 → w.1 7 (i * 8 + d) = nI (q.1 7 (i * 8 + d))) ∧
  (w.2 8 = nI (q.2 8) ∧ w.2 9 = nI (q.2 9) ∧ w.2 10 = nI (q.2 10) ∧ w.2 11 = nI (q.2 11) ∧ w.2 12 = nI (q.2 12) ∧ w.2 13 = nI (q.2 13) ∧ w.2 14 = nI (q.2 14))
/-- the reference's plan: T told, D doors, R door, U draught, L lodgers, E lodger, F first -/
def RP (q : PN) (v : OV) : Prop := (∀ d, d < q.2 9 → v.1 5 (3 * d) = nI (q.1 0 d) ∧ v.1 5 (3 * d + 1) = nI (q.1 1 d) ∧ v.1 5 (3 * d + 2) = nI (q.1 2 d) ∧ v.1 6 d = nI (q.1 3 d)) ∧
  (∀ i, i < q.2 10 → v.1 8 (3 * i + 1) = nI (q.1 5 i) ∧ v.1 8 (3 * i + 2) = nI (q.1 6 i)) ∧ (∀ d i, d < q.2 9 → i < q.2 10 → v.1 9 (4 * d + i) = nI (q.1 7 (i * 8 + d))) ∧
  (v.1 3 0 = nI (q.2 8) ∧ v.1 4 0 = nI (q.2 9) ∧ v.1 7 0 = nI (q.2 10) ∧ v.1 3 1 = nI (q.2 11) ∧ v.1 3 2 = nI (q.2 12) ∧ v.1 3 3 = nI (q.2 13) ∧ v.1 3 4 = nI (q.2 14))
def HOk (q : PN) (h : HN) : Prop := (∀ d i, d < q.2 9 → i < q.2 10 → h.1 d i ≤ 99) ∧ (∀ d, d < q.2 9 → h.2.1 d ≤ 100) ∧ (∀ i, i < q.2 10 → h.2.2.1 i < q.2 8)
/-- the class's house -/
def CH (q : PN) (h : HN) (u : OV) : Prop := (∀ d i, d < q.2 9 → i < q.2 10 → u.1 0 (i * 8 + d) = nI (h.1 d i)) ∧ (∀ d, d < q.2 9 → u.1 2 d = nI (h.2.1 d)) ∧ (∀ d, q.2 9 ≤ d → d < 8 → u.1 2 d = 0) ∧
  (∀ i, i < q.2 10 → u.1 3 i = nI (h.2.2.1 i)) ∧ u.2 4 = nI h.2.2.2.1 ∧ u.2 5 = nI h.2.2.2.2
/-- the reference's house in slot s -/
def RH (q : PN) (h : HN) (s : Nat) (S : Nat → Int32) : Prop := (∀ d i, d < q.2 9 → i < q.2 10 → S (46 * s + 4 * d + i) = nI (h.1 d i)) ∧ (∀ d, d < q.2 9 → S (46 * s + 32 + d) = nI (h.2.1 d)) ∧
  (∀ i, i < q.2 10 → S (46 * s + 40 + i) = nI (h.2.2.1 i)) ∧ S (46 * s + 44) = nI h.2.2.2.1 ∧ S (46 * s + 45) = nI h.2.2.2.2
def costM (h : HN) (d i : Nat) : Nat := if h.2.1 d = 0 then 1 + h.1 d i else 1
def becM (q : PN) (i g : Nat) (z : Bool) : Nat := if z = true then min 99 (g + q.1 5 i) else g - q.2 13
def othM (q : PN) (d r : Nat) : Nat := if q.1 0 d = r then q.1 1 d else q.1 0 d
def isOfM (q : PN) (d r : Nat) : Prop := q.1 0 d = r ∨ q.1 1 d = r
def upd2 (g : Nat → Nat → Nat) (d i x : Nat) : Nat → Nat → Nat := fun d' i' => if d' = d ∧ i' = i then x else g d' i'
def passM (q : PN) (h : HN) (i d : Nat) (z : Bool) : HN := (upd2 h.1 d i (becM q i (h.1 d i) z), h.2.1, upN h.2.2.1 i (othM q d (h.2.2.1 i)), h.2.2.2.1 + costM h d i, h.2.2.2.2)
theorem RH_mv {q : PN} {h : HN} {s s' : Nat} {S S' : Nat → Int32} (hD : q.2 9 ≤ 8) (hL : q.2 10 ≤ 4) (he : ∀ k, k < 46 → S' (46 * s' + k) = S (46 * s + k)) (hh : RH q h s S) : RH q h s' S' := by
  obtain ⟨h1, h2, h3, h4, h5⟩ := hh
  refine ⟨fun d i hd hi => ?_, fun d hd => ?_, fun i hi => ?_, ?_, ?_⟩
  · rw [Nat.add_assoc, he _ (by omega), ← Nat.add_assoc]; exact h1 d i hd hi
  · rw [Nat.add_assoc, he _ (by omega), ← Nat.add_assoc]; exact h2 d hd
  · rw [Nat.add_assoc, he _ (by omega), ← Nat.add_assoc]; exact h3 i hi
  · rw [he _ (by omega)]; exact h4
  · rw [he _ (by omega)]; exact h5
theorem copies_n (S : Nat → Int32) (x y : Nat) : ∀ n, n ≤ 46 → ∀ j, itN (s_copy x y) S n j = if 46 * y ≤ j ∧ j < 46 * y + n then S (46 * x + (j - 46 * y)) else S j
  | 0, _, j => by rw [if_neg (by omega)]; rfl
  | n + 1, hn, j => by
    rw [itN_s, s_copy]
    have ih := copies_n S x y n (by omega)
    by_cases h : j = 46 * y + n
    · subst h
      rw [pk_us, ih, if_neg (by omega), if_pos (by omega), show 46 * y + n - 46 * y = n by omega]
    · rw [pk_un h, ih]
      by_cases h2 : 46 * y ≤ j ∧ j < 46 * y + n
      · rw [if_pos h2, if_pos (by omega)]
      · rw [if_neg h2, if_neg (by omega)]
theorem copies_in (S : Nat → Int32) (x y : Nat) {k : Nat} (hk : k < 46) : g_copies S x y (46 * y + k) = S (46 * x + k) := by
  rw [g_copies, copies_n S x y 46 (Nat.le_refl _), if_pos (by omega), show 46 * y + k - 46 * y = k by omega]
theorem copies_out (S : Nat → Int32) (x y : Nat) {j : Nat} (hj : j < 46 * y ∨ 46 * y + 46 ≤ j) : g_copies S x y j = S j := by
  rw [g_copies, copies_n S x y 46 (Nat.le_refl _), if_neg (by omega)]
section HV
variable {q : PN} {h : HN} {w v u : OV} {S : Nat → Int32} {s : Nat}
theorem oil_n {d : Nat} (hd : d < 8) {o : Nat} (ho : o < 2 ^ 31) (hu : u.1 2 d = nI o) : f_X0_isOiled u (nI d) = decide (0 < o) := by
  rw [f_X0_isOiled, rAt_n hd (by decide), hu, show (0 : Int32) = nI 0 from rfl]
  by_cases h0 : 0 < o
  · rw [if_neg (fun g => by have := (nI_leI ho (by decide)).mp g; omega), decide_eq_true h0]
  · rw [if_pos ((nI_leI ho (by decide)).mpr (by omega)), decide_eq_false h0]
theorem c_cost (hq : POk q) (hh : HOk q h) (hu : CH q h u) {d i : Nat} (hd : d < q.2 9) (hi : i < q.2 10) : f_X0_minutesThrough u (nI d) (nI i) = nI (costM h d i) := by
  have hD := hq.2.1.2
  have hL := hq.2.2.1.2
  rw [f_X0_minutesThrough, oil_n (by omega) (by have := hh.2.1 d hd; omega) (hu.2.1 d hd), gOf_n (by omega) (by omega), hu.1 d i hd hi, costM]
  by_cases h0 : h.2.1 d = 0
  · rw [if_neg (by rw [h0]; decide), if_pos h0, show (1 : Int32) = nI 1 from rfl, nI_add]
  · rw [if_pos (decide_eq_true (by omega)), if_neg h0]
    rfl
theorem r_cost (hq : POk q) (hh : HOk q h) (hS : RH q h s S) {d i : Nat} (hd : d < q.2 9) (hi : i < q.2 10) : g_costs S s d i = nI (costM h d i) := by
  rw [g_costs, hS.2.1 d hd, hS.1 d i hd hi, costM, show (0 : Int32) = nI 0 from rfl]
  have h1 := hh.2.1 d hd
  by_cases h0 : h.2.1 d = 0
  · rw [if_pos ((nI_leI (by omega) (by decide)).mpr (by omega)), if_pos h0, show (1 : Int32) = nI 1 from rfl, nI_add]
  · rw [if_neg (fun g => by have := (nI_leI (by omega) (by decide)).mp g; omega), if_neg h0]
    rfl
theorem cost_b (hh : HOk q h) {d i : Nat} (hd : d < q.2 9) (hi : i < q.2 10) : 1 ≤ costM h d i ∧ costM h d i ≤ 100 := by
  have := hh.1 d i hd hi
  unfold costM
  split <;> omega
theorem c_oth (hq : POk q) (hw : CP q w) {d r : Nat} (hd : d < q.2 9) (hr : r < 2 ^ 31) : f_X2_otherSide w (nI d) (nI r) = if q.1 0 d = r then nI (q.1 1 d) else if q.1 1 d = r then nI (q.1 0 d) else -1 := by
  have hD := hq.2.1.2
  have hR := hq.1.2
  obtain ⟨b0, b1, -⟩ := hq.2.2.2.2.2.2.2.1 d hd
  obtain ⟨e0, e1, -⟩ := hw.1 d hd
  rw [f_X2_otherSide, rAt_n (by omega) (by decide), rAt_n (by omega) (by decide), e0, e1]
  by_cases h0 : q.1 0 d = r
  · rw [if_pos (by rw [h0]), if_pos h0]
  · rw [if_neg (fun g => h0 ((nI_eq (by omega) hr).mp g)), if_neg h0]
    by_cases h1 : q.1 1 d = r
    · rw [if_pos (by rw [h1]), if_pos h1]
    · rw [if_neg (fun g => h1 ((nI_eq (by omega) hr).mp g)), if_neg h1]
theorem c_oth1 (hq : POk q) (hw : CP q w) {d r : Nat} (hd : d < q.2 9) (hr : r < 2 ^ 31) (ho : isOfM q d r) : f_X2_otherSide w (nI d) (nI r) = nI (othM q d r) := by
  rw [c_oth hq hw hd hr, othM]
  by_cases h0 : q.1 0 d = r
  · rw [if_pos h0, if_pos h0]
  · rw [if_neg h0, if_neg h0, if_pos (ho.resolve_left h0)]
theorem oth_b (hq : POk q) {d : Nat} (r : Nat) (hd : d < q.2 9) : othM q d r < q.2 8 := by
  obtain ⟨b0, b1, -⟩ := hq.2.2.2.2.2.2.2.1 d hd
  unfold othM
  split <;> assumption
theorem c_bec (hq : POk q) (hw : CP q w) {i g : Nat} (hi : i < q.2 10) (hg : g ≤ 99) (z : Int32) : f_X2_grudgeNext w (nI g) (nI i) z = nI (becM q i g (decide (¬ z = 0))) := by
  have hL := hq.2.2.1.2
  have hwr := hq.2.2.2.2.2.1
  have hT := (hq.2.2.2.2.2.2.2.2.1 i hi).1
  rw [f_X2_grudgeNext, hw.2.2.2.2.2.2.2.2.1, rAt_n (by omega) (by decide), (hw.2.1 i hi).1, worn_n (by omega) (by omega), grown_n (by omega) (by omega), becM]
  by_cases h0 : z = 0
  · rw [if_pos h0, if_neg (by simp [h0])]
  · rw [if_neg h0, if_pos (by simp [h0])]
theorem r_bec (hq : POk q) (hv : RP q v) {i g : Nat} (hi : i < q.2 10) (hg : g ≤ 99) (z : Int32) : g_becomes (v.1 3) (v.1 8) i (nI g) z = nI (becM q i g (decide (¬ z = 0))) := by
  have hwr := hq.2.2.2.2.2.1
  have hT := (hq.2.2.2.2.2.2.2.2.1 i hi).1
  have e1 : nI g - nI (q.2 13) = Int32.ofInt ((g : Int) - (q.2 13 : Nat)) := by rw [Int32.ofInt_sub, ← nI_ofInt, ← nI_ofInt]
  have e2 : nI g + nI (q.1 5 i) = Int32.ofInt ((g : Int) + (q.1 5 i : Nat)) := by rw [Int32.ofInt_add, ← nI_ofInt, ← nI_ofInt]
  rw [g_becomes, hv.2.2.2.2.2.2.2.2.1, (hv.2.1 i hi).1, e1, e2, clamp_z (by omega) (by omega), clamp_z (by omega) (by omega), becM]
  by_cases h0 : z = 0
  · rw [if_pos h0, if_neg (by simp [h0])]
    congr 1
    omega
  · rw [if_neg h0, if_pos (by simp [h0])]
    congr 1
theorem bec_b (hq : POk q) {i g : Nat} (hg : g ≤ 99) (z : Bool) : becM q i g z ≤ 99 := by
  unfold becM
  split <;> omega
theorem pass_ok (hq : POk q) (hh : HOk q h) {i d : Nat} (hi : i < q.2 10) (hd : d < q.2 9) (z : Bool) : HOk q (passM q h i d z) := by
  refine ⟨fun d' i' hd' hi' => ?_, hh.2.1, fun i' hi' => ?_⟩
  · show upd2 _ _ _ _ d' i' ≤ 99
    unfold upd2
    split
    · exact bec_b hq (hh.1 d i hd hi) z
    · exact hh.1 d' i' hd' hi'
  · show upN _ _ _ i' < _
    unfold upN
    split
    · exact oth_b hq _ hd
    · exact hh.2.2 i' hi'
theorem pt0 (v w : OV) (i d z : Int32) : (f_X0_passThrough v w i d z).1 0 = rPut (v.1 0) 32 (i * 8 + d) (f_X2_grudgeNext w (f_X0_grudgeOf v d i) i z) := rfl
theorem pt2 (v w : OV) (i d z : Int32) : (f_X0_passThrough v w i d z).1 2 = v.1 2 := rfl
theorem pt3 (v w : OV) (i d z : Int32) : (f_X0_passThrough v w i d z).1 3 = rPut (v.1 3) 4 i (f_X2_otherSide w d (rAt (v.1 3) 4 i)) := rfl
theorem pt4 (v w : OV) (i d z : Int32) : (f_X0_passThrough v w i d z).2 4 = v.2 4 + f_X0_minutesThrough v d i := rfl
theorem pt5 (v w : OV) (i d z : Int32) : (f_X0_passThrough v w i d z).2 5 = v.2 5 := rfl
theorem c_pass (hq : POk q) (hw : CP q w) (hh : HOk q h) (hu : CH q h u) {i d : Nat} (hi : i < q.2 10) (hd : d < q.2 9) (ho : isOfM q d (h.2.2.1 i)) (z : Int32) : CH q (passM q h i d (decide (¬ z = 0))) (f_X0_passThrough u w (nI i) (nI d) z) := by
  have hD := hq.2.1.2
  have hL := hq.2.2.1.2
  have hR := hq.1.2
  have hp := hh.2.2 i hi
  refine ⟨fun d' i' hd' hi' => ?_, fun d' hd' => ?_, fun d' h1 h2 => ?_, fun i' hi' => ?_, ?_, ?_⟩
  · rw [pt0, ix8, rPut_n (by omega) (by decide), gOf_n (by omega) (by omega), hu.1 d i hd hi, c_bec hq hw hi (hh.1 d i hd hi)]
    show _ = nI (upd2 _ _ _ _ d' i')
    unfold upd2
    by_cases e : d' = d ∧ i' = i
    · rw [if_pos e, e.1, e.2, pk_us]
    · rw [if_neg e, pk_un (by omega)]; exact hu.1 d' i' hd' hi'
  · rw [pt2]; exact hu.2.1 d' hd'
  · rw [pt2]; exact hu.2.2.1 d' h1 h2
  · rw [pt3, rPut_n (by omega) (by decide), rAt_n (by omega) (by decide), hu.2.2.2.1 i hi, c_oth1 hq hw hd (by omega) ho]
    show _ = nI (upN _ _ _ i')
    unfold upN
    by_cases e : i' = i
    · rw [if_pos e, e, pk_us]
    · rw [if_neg e, pk_un e]; exact hu.2.2.2.1 i' hi'
  · rw [pt4, c_cost hq hh hu hd hi, hu.2.2.2.2.1, nI_add]
    rfl
  · rw [pt5]; exact hu.2.2.2.2.2
theorem r_over (hq : POk q) (hv : RP q v) {d r : Nat} (hd : d < q.2 9) (hr : r < 2 ^ 31) : g_over (v.1 5) d (nI r) = nI (othM q d r) := by
  have hR := hq.1.2
  obtain ⟨b0, b1, -⟩ := hq.2.2.2.2.2.2.2.1 d hd
  obtain ⟨e0, e1, -⟩ := hv.1 d hd
  rw [g_over, e0, e1, othM]
  by_cases h0 : q.1 0 d = r
  · rw [if_pos (by rw [h0]), if_pos h0]
  · rw [if_neg (fun g => h0 ((nI_eq (by omega) hr).mp g)), if_neg h0]
theorem r_isOf (hq : POk q) (hv : RP q v) {d r : Nat} (hd : d < q.2 9) (hr : r < 2 ^ 31) : g_isOf (v.1 5) d (nI r) = true ↔ isOfM q d r := by
  have hR := hq.1.2
  obtain ⟨b0, b1, -⟩ := hq.2.2.2.2.2.2.2.1 d hd
  obtain ⟨e0, e1, -⟩ := hv.1 d hd
  rw [g_isOf, e0, e1, isOfM]
  by_cases h0 : q.1 0 d = r
  · simp [h0]
  · rw [if_neg (fun g => h0 ((nI_eq (by omega) hr).mp g))]
    by_cases h1 : q.1 1 d = r
    · simp [h1]
    · rw [if_neg (fun g => h1 ((nI_eq (by omega) hr).mp g))]
      simp [h0, h1]
theorem goes_out (T E R S : Nat → Int32) (s : Nat) {i d : Nat} (z : Int32) (hi : i < 4) (hd : d < 8) {j : Nat} (hj : j < 46 * s ∨ 46 * s + 46 ≤ j) : g_goesS T E R S s i d z j = S j := by
  rw [g_goesS, pk_un (by omega), pk_un (by omega), pk_un (by omega)]
theorem r_goes (hq : POk q) (hv : RP q v) (hh : HOk q h) (hS : RH q h s S) {i d : Nat} (hi : i < q.2 10) (hd : d < q.2 9) (z : Int32) : RH q (passM q h i d (decide (¬ z = 0))) s (g_goesS (v.1 3) (v.1 8) (v.1 5) S s i d z) := by
  have hD := hq.2.1.2
  have hL := hq.2.2.1.2
  have hR := hq.1.2
  have hp := hh.2.2 i hi
  obtain ⟨h1, h2, h3, h4, h5⟩ := hS
  have e3 : upd S (46 * s + 4 * d + i) (g_becomes (v.1 3) (v.1 8) i (S (46 * s + 4 * d + i)) z) (46 * s + 40 + i) = nI (h.2.2.1 i) := by rw [pk_un (by omega)]; exact h3 i hi
  refine ⟨fun d' i' hd' hi' => ?_, fun d' hd' => ?_, fun i' hi' => ?_, ?_, ?_⟩
  · rw [g_goesS, pk_un (by omega), pk_un (by omega), h1 d i hd hi, r_bec hq hv hi (hh.1 d i hd hi)]
    show _ = nI (upd2 _ _ _ _ d' i')
    unfold upd2
    by_cases e : d' = d ∧ i' = i
    · rw [if_pos e, e.1, e.2, pk_us]
    · rw [if_neg e, pk_un (by omega)]; exact h1 d' i' hd' hi'
  · rw [g_goesS, pk_un (by omega), pk_un (by omega), pk_un (by omega)]; exact h2 d' hd'
  · rw [g_goesS, pk_un (by omega), e3, r_over hq hv hd (by omega)]
    show _ = nI (upN _ _ _ i')
    unfold upN
    by_cases e : i' = i
    · rw [if_pos e, e, pk_us]
    · rw [if_neg e, pk_un (by omega), pk_un (by omega)]; exact h3 i' hi'
  · rw [g_goesS, pk_us, pk_un (by omega), pk_un (by omega), h4, r_cost hq hh ⟨h1, h2, h3, h4, h5⟩ hd hi, nI_add]
    rfl
  · rw [g_goesS, pk_un (by omega), pk_un (by omega), pk_un (by omega)]; exact h5
theorem bc0 (v w : OV) : (f_X0_become v w).1 0 = rCopy (w.1 0) (v.1 0) 32 := rfl
theorem bc2_ (v w : OV) : (f_X0_become v w).1 2 = rCopy (w.1 2) (v.1 2) 8 := rfl
theorem bc3_ (v w : OV) : (f_X0_become v w).1 3 = rCopy (w.1 3) (v.1 3) 4 := rfl
theorem bc4_ (v w : OV) : (f_X0_become v w).2 4 = w.2 4 := rfl
theorem bc5_ (v w : OV) : (f_X0_become v w).2 5 = w.2 5 := rfl
theorem rCopy_in {f g : Nat → Int32} {n j : Nat} (h : j < n) : rCopy f g n j = f j := if_pos h
theorem c_become (hq : POk q) (hu : CH q h u) (u0 : OV) : CH q h (f_X0_become u0 u) := by
  have hD := hq.2.1.2
  have hL := hq.2.2.1.2
  refine ⟨fun d i hd hi => ?_, fun d hd => ?_, fun d h1 h2 => ?_, fun i hi => ?_, ?_, ?_⟩
  · rw [bc0, rCopy_in (by omega)]; exact hu.1 d i hd hi
  · rw [bc2_, rCopy_in (by omega)]; exact hu.2.1 d hd
  · rw [bc2_, rCopy_in (by omega)]; exact hu.2.2.1 d h1 h2
  · rw [bc3_, rCopy_in (by omega)]; exact hu.2.2.2.1 i hi
  · rw [bc4_]; exact hu.2.2.2.2.1
  · rw [bc5_]; exact hu.2.2.2.2.2
end HV
