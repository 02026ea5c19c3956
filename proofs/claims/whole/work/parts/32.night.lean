/-! a night, in natural numbers and in both -/
def actM (q : PN) (h : HN) (d : Nat) : Prop := q.1 2 d ≠ d ∧ h.2.1 d = 0 ∧ h.2.1 (q.1 2 d) = 0
def partM (q : PN) (h : HN) (d i : Nat) : Nat := h.1 d i * q.2 11 / 10
noncomputable def flM (q : PN) (h : HN) (d i : Nat) : Nat → Int
  | 0 => 0
  | j + 1 => flM q h d i j + (if q.1 2 j ≠ j ∧ h.2.1 j = 0 ∧ h.2.1 (q.1 2 j) = 0 then (if d = q.1 2 j then (partM q h j i : Int) else if d = j then -(partM q h j i : Int) else 0) else 0)
noncomputable def newG (q : PN) (h : HN) (d i : Nat) : Nat := min 99 (((h.1 d i : Int) + flM q h d i (q.2 9) - (q.2 12 : Nat)).toNat + q.1 3 d)
noncomputable def nightM (q : PN) (h : HN) : HN := (newG q h, fun d => h.2.1 d - 1, h.2.2.1, h.2.2.2.1, h.2.2.2.2 + 1)
theorem part_b {q : PN} {h : HN} (hq : POk q) (hh : HOk q h) {d i : Nat} (hd : d < q.2 9) (hi : i < q.2 10) : partM q h d i ≤ 99 := by
  have h1 := hh.1 d i hd hi
  have h2 := hq.2.2.2.1
  have h3 : h.1 d i * q.2 11 ≤ 99 * 10 := Nat.mul_le_mul h1 h2
  unfold partM
  omega
theorem fl_b {q : PN} {h : HN} (hq : POk q) (hh : HOk q h) (d : Nat) {i : Nat} (hi : i < q.2 10) : ∀ j, j ≤ q.2 9 → -(100 * (j : Int)) ≤ flM q h d i j ∧ flM q h d i j ≤ 100 * (j : Int)
  | 0, _ => ⟨by simp [flM], by simp [flM]⟩
  | j + 1, hj => by
    have ih := fl_b hq hh d hi j (by omega)
    have hp := part_b hq hh (d := j) (i := i) (by omega) hi
    simp only [flM]
    split
    · split
      · omega
      · split <;> omega
    · omega
theorem night_ok {q : PN} {h : HN} (hh : HOk q h) : HOk q (nightM q h) := by
  refine ⟨fun d i _ _ => Nat.min_le_left _ _, fun d hd => ?_, hh.2.2⟩
  have := hh.2.1 d hd
  show h.2.1 d - 1 ≤ 100
  omega
section NC
variable {q : PN} {h : HN} {w u : OV}
/-- the class's house, of one lodger's grudges -/
def CG (q : PN) (h : HN) (i : Nat) (u : OV) : Prop := (∀ d, d < q.2 9 → u.1 0 (i * 8 + d) = nI (h.1 d i)) ∧ (∀ d, d < q.2 9 → u.1 2 d = nI (h.2.1 d))
theorem setA_s (v : OV) (t : Nat) (f : Nat → Int32) : (setA v t f).1 t = f := if_pos rfl
theorem setA_n {v : OV} {t s : Nat} {f : Nat → Int32} (h : s ≠ t) : (setA v t f).1 s = v.1 s := if_neg h
theorem setI_s (v : OV) (t : Nat) (x : Int32) : (setI v t x).2 t = x := if_pos rfl
theorem setI_n {v : OV} {t s : Nat} {x : Int32} (h : s ≠ t) : (setI v t x).2 s = v.2 s := if_neg h
theorem pass1_n (hq : POk q) (hw : CP q w) (hh : HOk q h) {i : Nat} (hi : i < q.2 10) {v : OV} (hv : CG q h i v) : ∀ k, k ≤ q.2 9 → (∀ t, t ≠ 1 → (itN (s_pass w (nI i)) (setA v 1 (rFill (v.1 1) 0 8)) k).1 t = v.1 t) ∧ (itN (s_pass w (nI i)) (setA v 1 (rFill (v.1 1) 0 8)) k).2 = v.2 ∧ ∀ d, d < 8 → (itN (s_pass w (nI i)) (setA v 1 (rFill (v.1 1) 0 8)) k).1 1 d = Int32.ofInt (flM q h d i k)
  | 0, _ => ⟨fun t ht => setA_n ht, rfl, fun d hd => by
      show (setA v 1 _).1 1 d = _
      rw [setA_s, rFill, if_pos hd]
      rfl⟩
  | k + 1, hk => by
    obtain ⟨h1, h2, h3⟩ := pass1_n hq hw hh hi hv k (by omega)
    rw [itN_s]
    generalize itN (s_pass w (nI i)) (setA v 1 (rFill (v.1 1) 0 8)) k = E at h1 h2 h3
    have hD := hq.2.1.2
    have hL := hq.2.2.1.2
    have hkD : k < q.2 9 := by omega
    have hX := (hq.2.2.2.2.2.2.2.1 k hkD).2.2.2.1
    have hp := part_b hq hh hkD hi
    have eX : rAt (w.1 2) 8 (nI k) = nI (q.1 2 k) := by rw [rAt_n (by omega) (by decide)]; exact (hw.1 k hkD).2.2.1
    have eo : f_X0_isOiled E (nI k) = decide (0 < h.2.1 k) := oil_n (by omega) (by have := hh.2.1 k hkD; omega) (by rw [h1 2 (by decide)]; exact hv.2 k hkD)
    have eoX : f_X0_isOiled E (nI (q.1 2 k)) = decide (0 < h.2.1 (q.1 2 k)) := oil_n (by omega) (by have := hh.2.1 _ hX; omega) (by rw [h1 2 (by decide)]; exact hv.2 _ hX)
    have ep : fPart E w k (nI i) = nI (partM q h k i) := by
      rw [fPart, gOf_n (by omega) (by omega), h1 0 (by decide), hv.1 k hkD, hw.2.2.2.2.2.2.1, pk_mul, show (10 : Int32) = nI 10 from rfl, pk_div (by
        have h4 : h.1 k i * q.2 11 ≤ 99 * 10 := Nat.mul_le_mul (hh.1 k i hkD hi) hq.2.2.2.1
        omega) (by decide) (by decide)]
      rfl
    unfold s_pass
    rw [eX, eo, eoX]
    by_cases g1 : q.1 2 k = k
    · rw [if_pos (by rw [g1])]
      refine ⟨h1, h2, fun d hd => ?_⟩
      rw [h3 d hd]
      simp only [flM]
      rw [if_neg (fun g => g.1 g1), Int.add_zero]
    · rw [if_neg (fun e => g1 ((nI_eq (by omega) (by omega)).mp e))]
      by_cases g2 : h.2.1 k = 0
      · rw [if_neg (by rw [g2]; decide)]
        by_cases g3 : h.2.1 (q.1 2 k) = 0
        · rw [if_neg (by rw [g3]; decide)]
          refine ⟨fun t ht => ?_, h2, fun d hd => ?_⟩
          · rw [setA_n ht, u_pass, setA_n ht]; exact h1 t ht
          · rw [setA_s, ep, rAt_n (by omega) (by decide), rPut_n (by omega) (by decide), rAt_n (by omega) (by decide), rPut_n (by omega) (by decide), pk_un g1, h3 k (by omega), h3 (q.1 2 k) (by omega)]
            simp only [flM]
            rw [if_pos ⟨g1, g2, g3⟩]
            by_cases e1 : d = q.1 2 k
            · rw [e1, pk_us, if_pos rfl, nI_ofInt, Int32.ofInt_add]
            · rw [pk_un e1, if_neg e1]
              by_cases e2 : d = k
              · rw [e2, pk_us, if_pos rfl, nI_ofInt, ← Int32.ofInt_sub, Int.sub_eq_add_neg]
              · rw [pk_un e2, if_neg e2, Int.add_zero]; exact h3 d hd
        · rw [if_pos (decide_eq_true (by omega))]
          refine ⟨h1, h2, fun d hd => ?_⟩
          rw [h3 d hd]
          simp only [flM]
          rw [if_neg (fun g => g3 g.2.2), Int.add_zero]
      · rw [if_pos (decide_eq_true (by omega))]
        refine ⟨h1, h2, fun d hd => ?_⟩
        rw [h3 d hd]
        simp only [flM]
        rw [if_neg (fun g => g2 g.2.1), Int.add_zero]
theorem fade_n (hq : POk q) (hw : CP q w) (hh : HOk q h) {i : Nat} (hi : i < q.2 10) {v E0 : OV} (hv : CG q h i v) (h0 : E0.1 0 = v.1 0) (h1 : ∀ d, d < 8 → E0.1 1 d = Int32.ofInt (flM q h d i (q.2 9))) : ∀ k, k ≤ q.2 9 → (∀ t, t ≠ 0 → (itN (s_fade w (nI i)) E0 k).1 t = E0.1 t) ∧ (itN (s_fade w (nI i)) E0 k).2 = E0.2 ∧ ∀ j, (itN (s_fade w (nI i)) E0 k).1 0 j = if i * 8 ≤ j ∧ j < i * 8 + k then nI (newG q h (j - i * 8) i) else v.1 0 j
  | 0, _ => ⟨fun _ _ => rfl, rfl, fun j => by rw [if_neg (by omega)]; show E0.1 0 j = _; rw [h0]⟩
  | k + 1, hk => by
    obtain ⟨g1, g2, g3⟩ := fade_n hq hw hh hi hv h0 h1 k (by omega)
    rw [itN_s]
    generalize itN (s_fade w (nI i)) E0 k = E at g1 g2 g3
    have hD := hq.2.1.2
    have hL := hq.2.2.1.2
    have hkD : k < q.2 9 := by omega
    have hfl := fl_b hq hh k hi (q.2 9) (Nat.le_refl _)
    have hgk := hh.1 k i hkD hi
    have hf := hq.2.2.2.2.1
    have hU := (hq.2.2.2.2.2.2.2.1 k hkD).2.2.2.2
    refine ⟨fun t ht => ?_, g2, fun j => ?_⟩
    · show (setA E 0 _).1 t = _
      rw [setA_n ht]; exact g1 t ht
    · show (setA E 0 _).1 0 j = _
      rw [setA_s, ix8, rPut_n (by omega) (by decide), gOf_n (by omega) (by omega), g3, if_neg (by omega), hv.1 k hkD, g1 1 (by decide), rAt_n (by omega) (by decide), h1 k (by omega), hw.2.2.2.2.2.2.2.1, rAt_n (by omega) (by decide), (hw.1 k hkD).2.2.2, fWorn]
      have e1 : nI (h.1 k i) + Int32.ofInt (flM q h k i (q.2 9)) - nI (q.2 12) = Int32.ofInt ((h.1 k i : Int) + flM q h k i (q.2 9) - (q.2 12 : Nat)) := by rw [Int32.ofInt_sub, Int32.ofInt_add, ← nI_ofInt, ← nI_ofInt]
      rw [e1, worn_z (by omega) (by omega), grown_n (by omega) (by omega)]
      by_cases e : j = i * 8 + k
      · rw [e, pk_us, if_pos (by omega), show i * 8 + k - i * 8 = k by omega]
        rfl
      · rw [pk_un e, g3]
        by_cases e2 : i * 8 ≤ j ∧ j < i * 8 + k
        · rw [if_pos e2, if_pos (by omega)]
        · rw [if_neg e2, if_neg (by omega)]
/-- what passes on and fades against one lodger -/
theorem passOn_n (hq : POk q) (hw : CP q w) (hh : HOk q h) {i : Nat} (hi : i < q.2 10) {v : OV} (hv : CG q h i v) : (f_X0_passOn v w (nI i)).1 2 = v.1 2 ∧ (f_X0_passOn v w (nI i)).1 3 = v.1 3 ∧ (f_X0_passOn v w (nI i)).2 = v.2 ∧ ∀ j, (f_X0_passOn v w (nI i)).1 0 j = if i * 8 ≤ j ∧ j < i * 8 + q.2 9 then nI (newG q h (j - i * 8) i) else v.1 0 j := by
  have e9 : (w.2 9).toNatClampNeg = q.2 9 := by rw [hw.2.2.2.2.1, nI_clamp (by have := hq.2.1.2; omega)]
  rw [f_X0_passOn, f_pass1, e9]
  obtain ⟨h1, h2, h3⟩ := pass1_n hq hw hh hi hv (q.2 9) (Nat.le_refl _)
  obtain ⟨g1, g2, g3⟩ := fade_n hq hw hh hi hv (h1 0 (by decide)) h3 (q.2 9) (Nat.le_refl _)
  exact ⟨(g1 2 (by decide)).trans (h1 2 (by decide)), (g1 3 (by decide)).trans (h1 3 (by decide)), g2.trans h2, g3⟩
theorem dry_n {v : OV} {o : Nat → Nat} {D : Nat} (hD : D ≤ 8) (ho : ∀ d, d < D → o d ≤ 100) (h1 : ∀ d, d < D → v.1 2 d = nI (o d)) (h2 : ∀ d, D ≤ d → d < 8 → v.1 2 d = 0) : ∀ k, k ≤ 8 → (∀ t, t ≠ 2 → (itN s_dry v k).1 t = v.1 t) ∧ (itN s_dry v k).2 = v.2 ∧ (∀ d, d < D → (itN s_dry v k).1 2 d = if d < k then nI (o d - 1) else nI (o d)) ∧ (∀ d, D ≤ d → d < 8 → (itN s_dry v k).1 2 d = 0)
  | 0, _ => ⟨fun _ _ => rfl, rfl, fun d hd => by rw [if_neg (by omega)]; exact h1 d hd, h2⟩
  | k + 1, hk => by
    obtain ⟨g1, g2, g3, g4⟩ := dry_n hD ho h1 h2 k (by omega)
    rw [itN_s]
    generalize itN s_dry v k = E at g1 g2 g3 g4
    have key : ∀ o' : Nat, o' ≤ 100 → (if (0 : Int32) < nI o' - 1 then nI o' - 1 else 0) = nI (o' - 1) := by
      intro o' h'
      have := worn_n (a := o') (b := 1) (by omega) (by decide)
      exact this
    refine ⟨fun t ht => ?_, g2, fun d hd => ?_, fun d hd hd8 => ?_⟩
    · rw [s_dry, setA_n ht]; exact g1 t ht
    · rw [s_dry, setA_s, rPut_n (by omega) (by decide), rAt_n (by omega) (by decide)]
      by_cases e : d = k
      · subst e
        rw [pk_us, g3 d hd, if_neg (Nat.lt_irrefl _), key _ (ho d hd), if_pos (by omega)]
      · rw [pk_un e, g3 d hd]
        by_cases e2 : d < k
        · rw [if_pos e2, if_pos (by omega)]
        · rw [if_neg e2, if_neg (by omega)]
    · rw [s_dry, setA_s, rPut_n (by omega) (by decide), rAt_n (by omega) (by decide)]
      by_cases e : d = k
      · subst e
        rw [pk_us, g4 d hd hd8]
        exact key 0 (by decide)
      · rw [pk_un e]; exact g4 d hd hd8
theorem dryOil_n {v : OV} {o : Nat → Nat} {D : Nat} (hD : D ≤ 8) (ho : ∀ d, d < D → o d ≤ 100) (h1 : ∀ d, d < D → v.1 2 d = nI (o d)) (h2 : ∀ d, D ≤ d → d < 8 → v.1 2 d = 0) : (∀ t, t ≠ 2 → (f_X0_dryOil v).1 t = v.1 t) ∧ (f_X0_dryOil v).2 = v.2 ∧ (∀ d, d < D → (f_X0_dryOil v).1 2 d = nI (o d - 1)) ∧ (∀ d, D ≤ d → d < 8 → (f_X0_dryOil v).1 2 d = 0) := by
  obtain ⟨g1, g2, g3, g4⟩ := dry_n hD ho h1 h2 8 (Nat.le_refl _)
  exact ⟨g1, g2, fun d hd => by have := g3 d hd; rw [if_pos (by omega)] at this; exact this, g4⟩
theorem sleepL_n (hq : POk q) (hw : CP q w) (hh : HOk q h) (hu : CH q h u) : ∀ k, k ≤ q.2 10 → (itN (s_sleep w) u k).1 2 = u.1 2 ∧ (itN (s_sleep w) u k).1 3 = u.1 3 ∧ (itN (s_sleep w) u k).2 = u.2 ∧ ∀ d i, d < q.2 9 → i < q.2 10 → (itN (s_sleep w) u k).1 0 (i * 8 + d) = if i < k then nI (newG q h d i) else nI (h.1 d i)
  | 0, _ => ⟨rfl, rfl, rfl, fun d i hd hi => by rw [if_neg (by omega)]; exact hu.1 d i hd hi⟩
  | k + 1, hk => by
    obtain ⟨h1, h2, h3, h4⟩ := sleepL_n hq hw hh hu k (by omega)
    rw [itN_s]
    generalize itN (s_sleep w) u k = E at h1 h2 h3 h4
    have hD := hq.2.1.2
    have hE : CG q h k E := ⟨fun d hd => by rw [h4 d k hd (by omega), if_neg (Nat.lt_irrefl _)], fun d hd => by rw [h1]; exact hu.2.1 d hd⟩
    obtain ⟨g1, g2, g3, g4⟩ := passOn_n hq hw hh (i := k) (by omega) hE
    refine ⟨g1.trans h1, g2.trans h2, g3.trans h3, fun d i hd hi => ?_⟩
    show (f_X0_passOn E w (nI k)).1 0 (i * 8 + d) = _
    rw [g4]
    by_cases e : i = k
    · subst e
      rw [if_pos (by omega), if_pos (by omega), show i * 8 + d - i * 8 = d by omega]
    · rw [if_neg (by omega), h4 d i hd hi]
      by_cases e2 : i < k
      · rw [if_pos e2, if_pos (by omega)]
      · rw [if_neg e2, if_neg (by omega)]
theorem c_night (hq : POk q) (hw : CP q w) (hh : HOk q h) (hu : CH q h u) : CH q (nightM q h) (f_X0_sleep u w) := by
  have e10 : (w.2 10).toNatClampNeg = q.2 10 := by rw [hw.2.2.2.2.2.1, nI_clamp (by have := hq.2.2.1.2; omega)]
  obtain ⟨h1, h2, h3, h4⟩ := sleepL_n hq hw hh hu (q.2 10) (Nat.le_refl _)
  obtain ⟨g1, g2, g3, g4⟩ := dryOil_n (v := itN (s_sleep w) u (q.2 10)) hq.2.1.2 hh.2.1 (fun d hd => by rw [h1]; exact hu.2.1 d hd) (fun d hd hd8 => by rw [h1]; exact hu.2.2.1 d hd hd8)
  rw [f_X0_sleep, e10]
  generalize itN (s_sleep w) u (q.2 10) = E at h1 h2 h3 h4 g1 g2 g3 g4
  generalize f_X0_dryOil E = E' at g1 g2 g3 g4
  refine ⟨fun d i hd hi => ?_, g3, g4, fun i hi => ?_, ?_, ?_⟩
  · show E'.1 0 (i * 8 + d) = nI (newG q h d i)
    rw [g1 0 (by decide), h4 d i hd hi, if_pos hi]
  · show E'.1 3 i = _
    rw [g1 3 (by decide), h2]; exact hu.2.2.2.1 i hi
  · show E'.2 4 = _
    rw [g2, h3]; exact hu.2.2.2.2.1
  · rw [setI_s, g2, h3, hu.2.2.2.2.2, nI_1]
    rfl
/-- nights against one lodger alone -/
noncomputable def nightsM (q : PN) (h : HN) (n : Nat) : HN := itN (fun _ => nightM q) h n
theorem nights_ok (hh : HOk q h) : ∀ n, HOk q (nightsM q h n)
  | 0 => hh
  | n + 1 => night_ok (nights_ok hh n)
def CG8 (q : PN) (h : HN) (i : Nat) (u : OV) : Prop := CG q h i u ∧ ∀ d, q.2 9 ≤ d → d < 8 → u.1 2 d = 0
theorem CH.cg (hu : CH q h u) {i : Nat} (hi : i < q.2 10) : CG8 q h i u := ⟨⟨fun d hd => hu.1 d i hd hi, hu.2.1⟩, hu.2.2.1⟩
theorem sleep1_n (hq : POk q) (hw : CP q w) (hh : HOk q h) {i : Nat} (hi : i < q.2 10) (hu : CG8 q h i u) : CG8 q (nightM q h) i (f_X0_dryOil (f_X0_passOn u w (nI i))) := by
  obtain ⟨g1, -, -, g4⟩ := passOn_n hq hw hh hi hu.1
  obtain ⟨k1, -, k3, k4⟩ := dryOil_n (v := f_X0_passOn u w (nI i)) hq.2.1.2 hh.2.1 (fun d hd => by rw [g1]; exact hu.1.2 d hd) (fun d hd hd8 => by rw [g1]; exact hu.2 d hd hd8)
  refine ⟨⟨fun d hd => ?_, k3⟩, k4⟩
  rw [k1 0 (by decide), g4, if_pos (by omega), show i * 8 + d - i * 8 = d by omega]
  rfl
theorem sleeps1_n (hq : POk q) (hw : CP q w) (hh : HOk q h) {i : Nat} (hi : i < q.2 10) (hu : CG8 q h i u) : ∀ n, CG8 q (nightsM q h n) i (itN (s_sleep1 w (nI i)) u n)
  | 0 => hu
  | n + 1 => sleep1_n hq hw (nights_ok hh n) hi (sleeps1_n hq hw hh hi hu n)
theorem c_nights (hq : POk q) (hw : CP q w) (hh : HOk q h) (hu : CH q h u) : ∀ n, CH q (nightsM q h n) (f_sleeps w u n)
  | 0 => hu
  | n + 1 => c_night hq hw (nights_ok hh n) (c_nights hq hw hh hu n)
end NC
section NR
variable {q : PN} {h : HN} {v : OV} {s : Nat}
theorem was_n (S V : Nat → Int32) (s : Nat) : ∀ n k, k < n → itN (s_was S s) V n k = S (46 * s + k)
  | 0, _, h => absurd h (by omega)
  | n + 1, k, h => by
    rw [itN_s, s_was]
    by_cases e : k = n
    · rw [e, pk_us]
    · rw [pk_un e]; exact was_n S V s n k (by omega)
theorem partR_n (hq : POk q) {V T R F : Nat → Int32} {d X : Nat} (hX : rX R d = X) (hXd : X ≠ d) (hd : d < 8) (hX8 : X < 8) : ∀ n, n ≤ 4 → ∀ j, itN (s_part V T R s d) F n j = if 46 * s + 4 * d ≤ j ∧ j < 46 * s + 4 * d + n then F j - V (4 * d + (j - (46 * s + 4 * d))) * T 1 / 10 else if 46 * s + 4 * X ≤ j ∧ j < 46 * s + 4 * X + n then F j + V (4 * d + (j - (46 * s + 4 * X))) * T 1 / 10 else F j
  | 0, _, j => by rw [if_neg (by omega), if_neg (by omega)]; rfl
  | n + 1, hn, j => by
    rw [itN_s, s_part, hX]
    have ih := partR_n hq (V := V) (T := T) (F := F) hX hXd hd hX8 n (by omega)
    generalize itN (s_part V T R s d) F n = E at ih
    by_cases e1 : j = 46 * s + 4 * X + n
    · rw [e1, pk_us, pk_un (by omega), ih, if_neg (by omega), if_neg (by omega), if_neg (by omega), if_pos (by omega), show 46 * s + 4 * X + n - (46 * s + 4 * X) = n by omega]
    · rw [pk_un e1]
      by_cases e2 : j = 46 * s + 4 * d + n
      · rw [e2, pk_us, ih, if_neg (by omega), if_neg (by omega), if_pos (by omega), show 46 * s + 4 * d + n - (46 * s + 4 * d) = n by omega]
      · rw [pk_un e2, ih]
        by_cases e3 : 46 * s + 4 * d ≤ j ∧ j < 46 * s + 4 * d + n
        · rw [if_pos e3, if_pos (by omega)]
        · rw [if_neg e3]
          by_cases e4 : 46 * s + 4 * X ≤ j ∧ j < 46 * s + 4 * X + n
          · rw [if_pos e4, if_neg (by omega), if_pos (by omega)]
          · rw [if_neg e4, if_neg (by omega), if_neg (by omega)]
/-- only the grudges of slot s are others than they were -/
def offG (s : Nat) (F S : Nat → Int32) : Prop := ∀ j, (j < 46 * s ∨ 46 * s + 32 ≤ j) → F j = S j
theorem flowR_n (hq : POk q) (hv : RP q v) (hh : HOk q h) {S V : Nat → Int32} (hS : RH q h s S) (hV : ∀ d i, d < q.2 9 → i < q.2 10 → V (4 * d + i) = nI (h.1 d i)) : ∀ k, k ≤ q.2 9 → offG s (itN (s_flow V (v.1 3) (v.1 5) (v.1 7) s) S k) S ∧ ∀ d i, d < q.2 9 → i < q.2 10 → itN (s_flow V (v.1 3) (v.1 5) (v.1 7) s) S k (46 * s + 4 * d + i) = Int32.ofInt ((h.1 d i : Int) + flM q h d i k)
  | 0, _ => ⟨fun _ _ => rfl, fun d i hd hi => by
      show S _ = _
      rw [hS.1 d i hd hi, nI_ofInt]
      simp only [flM, Int.add_zero]⟩
  | k + 1, hk => by
    obtain ⟨h1, h2⟩ := flowR_n hq hv hh hS hV k (by omega)
    rw [itN_s]
    generalize itN (s_flow V (v.1 3) (v.1 5) (v.1 7) s) S k = E at h1 h2
    have hD := hq.2.1.2
    have hL := hq.2.2.1.2
    have hkD : k < q.2 9 := by omega
    have hX := (hq.2.2.2.2.2.2.2.1 k hkD).2.2.2.1
    have eX : rX (v.1 5) k = q.1 2 k := by
      show (v.1 5 (3 * k + 2)).toNatClampNeg = _
      rw [(hv.1 k hkD).2.2.1, nI_clamp (by omega)]
    have eL : (v.1 7 0).toNatClampNeg = q.2 10 := by rw [hv.2.2.2.2.2.1, nI_clamp (by omega)]
    have o1 : E (46 * s + 32 + k) = nI (h.2.1 k) := by rw [h1 _ (by omega)]; exact hS.2.1 k hkD
    have o2 : E (46 * s + 32 + q.1 2 k) = nI (h.2.1 (q.1 2 k)) := by rw [h1 _ (by omega)]; exact hS.2.1 _ hX
    have b1 := hh.2.1 k hkD
    have b2 := hh.2.1 _ hX
    unfold s_flow
    rw [eX, o1, o2, eL, show (0 : Int32) = nI 0 from rfl]
    by_cases g1 : q.1 2 k = k
    · rw [if_pos (by rw [g1])]
      refine ⟨h1, fun d i hd hi => ?_⟩
      rw [h2 d i hd hi]
      simp only [flM]
      rw [if_neg (fun g => g.1 g1), Int.add_zero]
    · rw [if_neg (fun e => g1 ((nI_eq (by omega) (by omega)).mp e))]
      by_cases g2 : h.2.1 k = 0
      · rw [if_pos (by rw [g2])]
        by_cases g3 : h.2.1 (q.1 2 k) = 0
        · rw [if_pos (by rw [g3])]
          have hp := partR_n hq (s := s) (V := V) (T := v.1 3) (F := E) eX g1 (by omega) (by omega) (q.2 10) hL
          refine ⟨fun j hj => ?_, fun d i hd hi => ?_⟩
          · rw [hp, if_neg (by omega), if_neg (by omega)]; exact h1 j hj
          · have e5 : V (4 * k + i) * v.1 3 1 / 10 = Int32.ofInt (partM q h k i) := by
              rw [hV k i hkD hi, hv.2.2.2.2.2.2.1, pk_mul, show (10 : Int32) = nI 10 from rfl, pk_div (by
                have h4 : h.1 k i * q.2 11 ≤ 99 * 10 := Nat.mul_le_mul (hh.1 k i hkD hi) hq.2.2.2.1
                omega) (by decide) (by decide), nI_ofInt]
              rfl
            rw [hp]
            simp only [flM]
            rw [if_pos (⟨g1, g2, g3⟩ : q.1 2 k ≠ k ∧ h.2.1 k = 0 ∧ h.2.1 (q.1 2 k) = 0)]
            by_cases e2 : d = k
            · rw [if_pos (by omega), show 4 * k + (46 * s + 4 * d + i - (46 * s + 4 * k)) = 4 * k + i by omega, e5, h2 d i hd hi, if_neg (by omega), if_pos e2, ← Int32.ofInt_sub, ← Int.add_assoc, Int.sub_eq_add_neg]
            · rw [if_neg (by omega)]
              by_cases e1 : d = q.1 2 k
              · rw [if_pos (by omega), show 4 * k + (46 * s + 4 * d + i - (46 * s + 4 * q.1 2 k)) = 4 * k + i by omega, e5, h2 d i hd hi, if_pos e1, ← Int32.ofInt_add, ← Int.add_assoc]
              · rw [if_neg (by omega), if_neg e1, if_neg e2, Int.add_zero]; exact h2 d i hd hi
        · rw [if_neg (fun e => g3 ((nI_eq (by omega) (by omega)).mp e))]
          refine ⟨h1, fun d i hd hi => ?_⟩
          rw [h2 d i hd hi]
          simp only [flM]
          rw [if_neg (fun g => g3 g.2.2), Int.add_zero]
      · rw [if_neg (fun e => g2 ((nI_eq (by omega) (by omega)).mp e))]
        refine ⟨h1, fun d i hd hi => ?_⟩
        rw [h2 d i hd hi]
        simp only [flM]
        rw [if_neg (fun g => g2 g.2.1), Int.add_zero]
theorem wane1_n (hq : POk q) (hv : RP q v) (hh : HOk q h) {F : Nat → Int32} {d : Nat} (hd : d < q.2 9) (hF : ∀ i, i < q.2 10 → F (46 * s + 4 * d + i) = Int32.ofInt ((h.1 d i : Int) + flM q h d i (q.2 9))) : ∀ n, n ≤ q.2 10 → ∀ j, itN (s_wane (v.1 3) (v.1 6) s d) F n j = if 46 * s + 4 * d ≤ j ∧ j < 46 * s + 4 * d + n then nI (newG q h d (j - (46 * s + 4 * d))) else F j
  | 0, _, j => by rw [if_neg (by omega)]; rfl
  | n + 1, hn, j => by
    rw [itN_s]
    have ih := wane1_n hq hv hh hd hF n (by omega)
    generalize itN (s_wane (v.1 3) (v.1 6) s d) F n = E at ih
    have hnL : n < q.2 10 := by omega
    have hfl := fl_b hq hh d hnL (q.2 9) (Nat.le_refl _)
    have hg := hh.1 d n hd hnL
    have hf := hq.2.2.2.2.1
    have hD := hq.2.1.2
    have hU := (hq.2.2.2.2.2.2.2.1 d hd).2.2.2.2
    have e0 : E (46 * s + 4 * d + n) = Int32.ofInt ((h.1 d n : Int) + flM q h d n (q.2 9)) := by rw [ih, if_neg (by omega)]; exact hF n hnL
    have eU : v.1 6 d = nI (q.1 3 d) := (hv.1 d hd).2.2.2
    have eT : v.1 3 2 = nI (q.2 12) := hv.2.2.2.2.2.2.2.1
    have e1 : Int32.ofInt ((h.1 d n : Int) + flM q h d n (q.2 9)) - nI (q.2 12) = Int32.ofInt ((h.1 d n : Int) + flM q h d n (q.2 9) - (q.2 12 : Nat)) := by rw [Int32.ofInt_sub, ← nI_ofInt]
    have c0 : 0 ≤ Int32.ofInt ((h.1 d n : Int) + flM q h d n (q.2 9) - (q.2 12 : Nat)) ↔ 0 ≤ (h.1 d n : Int) + flM q h d n (q.2 9) - (q.2 12 : Nat) := by
      rw [Int32.le_iff_toInt_le, ofInt_t (by omega) (by omega)]
      exact Iff.rfl
    have key : s_wane (v.1 3) (v.1 6) s d n E = upd E (46 * s + 4 * d + n) (nI (newG q h d n)) := by
      unfold s_wane newG
      rw [e0, eT, eU, e1]
      by_cases g : 0 ≤ (h.1 d n : Int) + flM q h d n (q.2 9) - (q.2 12 : Nat)
      · rw [if_pos (c0.mpr g)]
        have e2 : Int32.ofInt ((h.1 d n : Int) + flM q h d n (q.2 9) - (q.2 12 : Nat)) = nI ((h.1 d n : Int) + flM q h d n (q.2 9) - (q.2 12 : Nat)).toNat := by rw [nI_ofInt, Int.toNat_of_nonneg g]
        rw [e2, nI_add, show (99 : Int32) = nI 99 from rfl]
        generalize hz : ((h.1 d n : Int) + flM q h d n (q.2 9) - (q.2 12 : Nat)).toNat = z
        have hzb : z < 2 ^ 20 := by omega
        by_cases g2 : z + q.1 3 d ≤ 99
        · rw [if_pos ((nI_leI (by omega) (by decide)).mpr g2), Nat.min_eq_right g2]
        · rw [if_neg (fun e => g2 ((nI_leI (by omega) (by decide)).mp e)), Nat.min_eq_left (by omega)]
      · rw [if_neg (fun e => g (c0.mp e)), Int.toNat_eq_zero.mpr (by omega), show (0 : Int32) = nI 0 from rfl, nI_add, Nat.zero_add, show (99 : Int32) = nI 99 from rfl, if_pos ((nI_leI (by omega) (by decide)).mpr (by omega)), Nat.min_eq_right (by omega)]
    rw [key]
    by_cases e : j = 46 * s + 4 * d + n
    · rw [e, pk_us, if_pos (by omega), show 46 * s + 4 * d + n - (46 * s + 4 * d) = n by omega]
    · rw [pk_un e, ih]
      by_cases e2 : 46 * s + 4 * d ≤ j ∧ j < 46 * s + 4 * d + n
      · rw [if_pos e2, if_pos (by omega)]
      · rw [if_neg e2, if_neg (by omega)]
/-- only the grudges and the oil of slot s are others -/
def offO (s : Nat) (F S : Nat → Int32) : Prop := ∀ j, (j < 46 * s ∨ 46 * s + 40 ≤ j) → F j = S j
theorem waneR_n (hq : POk q) (hv : RP q v) (hh : HOk q h) {S F0 : Nat → Int32} (hS : RH q h s S) (hF0 : offG s F0 S) (hF : ∀ d i, d < q.2 9 → i < q.2 10 → F0 (46 * s + 4 * d + i) = Int32.ofInt ((h.1 d i : Int) + flM q h d i (q.2 9))) : ∀ k, k ≤ q.2 9 → offO s (itN (s_waneD (v.1 3) (v.1 6) (v.1 7) s) F0 k) S ∧ (∀ d i, d < q.2 9 → i < q.2 10 → itN (s_waneD (v.1 3) (v.1 6) (v.1 7) s) F0 k (46 * s + 4 * d + i) = if d < k then nI (newG q h d i) else F0 (46 * s + 4 * d + i)) ∧ (∀ d, d < q.2 9 → itN (s_waneD (v.1 3) (v.1 6) (v.1 7) s) F0 k (46 * s + 32 + d) = if d < k then nI (h.2.1 d - 1) else nI (h.2.1 d))
  | 0, _ => ⟨fun j hj => hF0 j (by omega), fun d i _ _ => by rw [if_neg (by omega)]; rfl, fun d hd => by rw [if_neg (by omega)]; show F0 _ = _; rw [hF0 _ (by have := hq.2.1.2; omega)]; exact hS.2.1 d hd⟩
  | k + 1, hk => by
    obtain ⟨h1, h2, h3⟩ := waneR_n hq hv hh hS hF0 hF k (by omega)
    rw [itN_s]
    generalize itN (s_waneD (v.1 3) (v.1 6) (v.1 7) s) F0 k = E at h1 h2 h3
    have hD := hq.2.1.2
    have hL := hq.2.2.1.2
    have hkD : k < q.2 9 := by omega
    have eL : (v.1 7 0).toNatClampNeg = q.2 10 := by rw [hv.2.2.2.2.2.1, nI_clamp (by omega)]
    have hw := wane1_n hq hv hh (s := s) (F := E) hkD (fun i hi => by rw [h2 k i hkD hi, if_neg (Nat.lt_irrefl _)]; exact hF k i hkD hi) (q.2 10) (Nat.le_refl _)
    unfold s_waneD
    rw [eL]
    generalize itN (s_wane (v.1 3) (v.1 6) s k) E (q.2 10) = E' at hw
    have o1 : E' (46 * s + 32 + k) = nI (h.2.1 k) := by rw [hw, if_neg (by omega), h3 k hkD, if_neg (Nat.lt_irrefl _)]
    have b1 := hh.2.1 k hkD
    have key : (if E' (46 * s + 32 + k) ≤ 0 then upd E' (46 * s + 32 + k) (E' (46 * s + 32 + k) - 0) else upd E' (46 * s + 32 + k) (E' (46 * s + 32 + k) - 1)) = upd E' (46 * s + 32 + k) (nI (h.2.1 k - 1)) := by
      rw [o1, show (0 : Int32) = nI 0 from rfl, show (1 : Int32) = nI 1 from rfl]
      by_cases g : h.2.1 k = 0
      · rw [if_pos ((nI_leI (by omega) (by decide)).mpr (by omega)), g, pk_sub (by omega)]
      · rw [if_neg (fun e => by have := (nI_leI (by omega) (by decide)).mp e; omega), pk_sub (by omega)]
    rw [key]
    refine ⟨fun j hj => ?_, fun d i hd hi => ?_, fun d hd => ?_⟩
    · rw [pk_un (by omega), hw, if_neg (by omega)]; exact h1 j hj
    · rw [pk_un (by omega), hw]
      by_cases e : d = k
      · subst e
        rw [if_pos (by omega), if_pos (by omega), show 46 * s + 4 * d + i - (46 * s + 4 * d) = i by omega]
      · rw [if_neg (by omega), h2 d i hd hi]
        by_cases e2 : d < k
        · rw [if_pos e2, if_pos (by omega)]
        · rw [if_neg e2, if_neg (by omega)]
    · by_cases e : d = k
      · subst e
        rw [pk_us, if_pos (by omega)]
      · rw [pk_un (by omega), hw, if_neg (by omega), h3 d hd]
        by_cases e2 : d < k
        · rw [if_pos e2, if_pos (by omega)]
        · rw [if_neg e2, if_neg (by omega)]
abbrev nightR (v : OV) (S V : Nat → Int32) (s : Nat) : Nat → Int32 := g_nights (v.1 3) (v.1 5) (v.1 7) (v.1 4) (v.1 6) S V s
theorem r_night (hq : POk q) (hv : RP q v) (hh : HOk q h) {S : Nat → Int32} (V : Nat → Int32) (hS : RH q h s S) : RH q (nightM q h) s (nightR v S V s) ∧ ∀ j, (j < 46 * s ∨ 46 * s + 46 ≤ j) → nightR v S V s j = S j := by
  have hD := hq.2.1.2
  have hL := hq.2.2.1.2
  have e4 : (v.1 4 0).toNatClampNeg = q.2 9 := by rw [hv.2.2.2.2.1, nI_clamp (by omega)]
  have hV : ∀ d i, d < q.2 9 → i < q.2 10 → g_was S V s (4 * d + i) = nI (h.1 d i) := fun d i hd hi => by
    rw [g_was, was_n S V s 32 _ (by omega), ← Nat.add_assoc]; exact hS.1 d i hd hi
  obtain ⟨a1, a2⟩ := flowR_n hq hv hh hS hV (q.2 9) (Nat.le_refl _)
  obtain ⟨b1, b2, b3⟩ := waneR_n hq hv hh hS a1 a2 (q.2 9) (Nat.le_refl _)
  show RH q (nightM q h) s (g_nights _ _ _ _ _ S V s) ∧ ∀ j, _ → g_nights _ _ _ _ _ S V s j = S j
  rw [g_nights, g_wane, g_flow, e4]
  generalize itN (s_waneD (v.1 3) (v.1 6) (v.1 7) s) (itN (s_flow (g_was S V s) (v.1 3) (v.1 5) (v.1 7) s) S (q.2 9)) (q.2 9) = E at b1 b2 b3
  refine ⟨⟨fun d i hd hi => ?_, fun d hd => ?_, fun i hi => ?_, ?_, ?_⟩, fun j hj => ?_⟩
  · rw [pk_un (by omega), b2 d i hd hi, if_pos hd]
    rfl
  · rw [pk_un (by omega), b3 d hd, if_pos hd]
    rfl
  · rw [pk_un (by omega), b1 _ (by omega)]; exact hS.2.2.1 i hi
  · rw [pk_un (by omega), b1 _ (by omega)]; exact hS.2.2.2.1
  · rw [pk_us, b1 _ (by omega), hS.2.2.2.2, nI_1]
    rfl
  · rw [pk_un (by omega)]; exact b1 j (by omega)
theorem r_nights (hq : POk q) (hv : RP q v) (hh : HOk q h) {S V : Nat → Int32} (hS : RH q h s S) : ∀ n, RH q (nightsM q h n) s (itN (s_nt (v.1 3) (v.1 5) (v.1 7) (v.1 4) (v.1 6) s) (S, V) n).1 ∧ ∀ j, (j < 46 * s ∨ 46 * s + 46 ≤ j) → (itN (s_nt (v.1 3) (v.1 5) (v.1 7) (v.1 4) (v.1 6) s) (S, V) n).1 j = S j
  | 0 => ⟨hS, fun _ _ => rfl⟩
  | n + 1 => by
    obtain ⟨h1, h2⟩ := r_nights hq hv hh (V := V) hS n
    have h3 := r_night hq hv (nights_ok hh n) (itN (s_nt (v.1 3) (v.1 5) (v.1 7) (v.1 4) (v.1 6) s) (S, V) n).2 h1
    exact ⟨h3.1, fun j hj => (h3.2 j hj).trans (h2 j hj)⟩
end NR
