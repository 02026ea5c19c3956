/-! what a text tells of a house, item by item -/
def sN (e : PN) (t : Nat) (f : Nat → Nat) : PN := (fun u => if u = t then f else e.1 u, e.2)
def sJ (e : PN) (t x : Nat) : PN := (e.1, fun u => if u = t then x else e.2 u)
def DOk (e : PN) : Prop := (2 ≤ e.2 8 ∧ e.2 8 ≤ 6) ∧ e.2 9 ≤ 8 ∧ e.2 10 ≤ 4 ∧ e.2 11 ≤ 10 ∧ e.2 12 ≤ 9 ∧ e.2 13 ≤ 9 ∧ (1 ≤ e.2 14 ∧ e.2 14 ≤ 9) ∧
  (∀ d, d < e.2 9 → e.1 0 d < e.2 8 ∧ e.1 1 d < e.2 8 ∧ e.1 0 d ≠ e.1 1 d ∧ e.1 2 d < 8) ∧ (∀ d, d < 8 → e.1 3 d ≤ 20) ∧ (∀ i, i < e.2 10 → e.1 4 i < 6 ∧ e.1 5 i ≤ 20 ∧ e.1 6 i < 6) ∧ (∀ j, j < 32 → e.1 7 j ≤ 99)
def CD (e : PN) (w : OV) : Prop := (∀ d, d < e.2 9 → w.1 0 d = nI (e.1 0 d) ∧ w.1 1 d = nI (e.1 1 d) ∧ w.1 2 d = nI (e.1 2 d)) ∧ (∀ d, d < 8 → w.1 3 d = nI (e.1 3 d)) ∧ (∀ i, i < e.2 10 → w.1 4 i = nI (e.1 4 i) ∧ w.1 5 i = nI (e.1 5 i) ∧ w.1 6 i = nI (e.1 6 i)) ∧ (∀ j, j < 32 → w.1 7 j = nI (e.1 7 j)) ∧
  (w.2 8 = nI (e.2 8) ∧ w.2 9 = nI (e.2 9) ∧ w.2 10 = nI (e.2 10) ∧ w.2 11 = nI (e.2 11) ∧ w.2 12 = nI (e.2 12) ∧ w.2 13 = nI (e.2 13) ∧ w.2 14 = nI (e.2 14))
def RD (e : PN) (v : OV) : Prop := (∀ d, d < e.2 9 → v.1 5 (24 + 3 * d) = nI (e.1 0 d) ∧ v.1 5 (24 + 3 * d + 1) = nI (e.1 1 d) ∧ v.1 5 (24 + 3 * d + 2) = nI (e.1 2 d)) ∧ (∀ d, d < 8 → v.1 6 (8 + d) = nI (e.1 3 d)) ∧ (∀ i, i < e.2 10 → v.1 8 (12 + 3 * i) = nI (e.1 4 i) ∧ v.1 8 (12 + 3 * i + 1) = nI (e.1 5 i) ∧ v.1 8 (12 + 3 * i + 2) = nI (e.1 6 i)) ∧ (∀ d i, d < 8 → i < 4 → v.1 9 (32 + 4 * d + i) = nI (e.1 7 (i * 8 + d))) ∧
  (v.1 3 5 = nI (e.2 8) ∧ v.1 4 1 = nI (e.2 9) ∧ v.1 7 1 = nI (e.2 10) ∧ v.1 3 6 = nI (e.2 11) ∧ v.1 3 7 = nI (e.2 12) ∧ v.1 3 8 = nI (e.2 13) ∧ v.1 3 9 = nI (e.2 14))
/-- what is laid, stays -/
def Kp (v v' : OV) : Prop := (∀ j, j < 5 → v'.1 3 j = v.1 3 j) ∧ v'.1 4 0 = v.1 4 0 ∧ v'.1 7 0 = v.1 7 0 ∧ (∀ j, j < 24 → v'.1 5 j = v.1 5 j) ∧ (∀ j, j < 8 → v'.1 6 j = v.1 6 j) ∧ (∀ j, j < 12 → v'.1 8 j = v.1 8 j) ∧ (∀ j, j < 32 → v'.1 9 j = v.1 9 j) ∧ v'.1 1 = v.1 1 ∧ v'.1 10 = v.1 10 ∧ v'.2 0 = v.2 0 ∧ v'.2 11 = v.2 11 ∧ v'.2 12 = v.2 12
theorem Kp.rf (v : OV) : Kp v v := ⟨fun _ _ => rfl, rfl, rfl, fun _ _ => rfl, fun _ _ => rfl, fun _ _ => rfl, fun _ _ => rfl, rfl, rfl, rfl, rfl, rfl⟩
theorem Kp.tr {v v' v'' : OV} (h : Kp v v') (h' : Kp v' v'') : Kp v v'' := by
  obtain ⟨a1, a2, a3, a4, a5, a6, a7, a8, a9, a10, a11, a12⟩ := h
  obtain ⟨b1, b2, b3, b4, b5, b6, b7, b8, b9, b10, b11, b12⟩ := h'
  exact ⟨fun j hj => (b1 j hj).trans (a1 j hj), b2.trans a2, b3.trans a3, fun j hj => (b4 j hj).trans (a4 j hj), fun j hj => (b5 j hj).trans (a5 j hj), fun j hj => (b6 j hj).trans (a6 j hj), fun j hj => (b7 j hj).trans (a7 j hj), b8.trans a8, b9.trans a9, b10.trans a10, b11.trans a11, b12.trans a12⟩
theorem dput_out (gt D R : Nat → Int32) {j : Nat} (hj : j < 24) : g_dput gt D R j = R j := by
  show upd (upd (upd R (24 + 3 * (D 1).toNatClampNeg + 0) (gt 0)) (24 + 3 * (D 1).toNatClampNeg + 1) (gt 1)) (24 + 3 * (D 1).toNatClampNeg + 2) (gt 2) j = R j
  rw [pk_un (by omega), pk_un (by omega), pk_un (by omega)]
theorem lput_out (gt D R : Nat → Int32) {j : Nat} (hj : j < 12) : g_lput gt D R j = R j := by
  show upd (upd (upd R (12 + 3 * (D 1).toNatClampNeg + 0) (gt 0)) (12 + 3 * (D 1).toNatClampNeg + 1) (gt 1)) (12 + 3 * (D 1).toNatClampNeg + 2) (gt 2) j = R j
  rw [pk_un (by omega), pk_un (by omega), pk_un (by omega)]
theorem kp3 {v : OV} {k : Nat} {x : Int32} (hk : 5 ≤ k) : Kp v (setA v 3 (upd (v.1 3) k x)) := ⟨fun j hj => pk_un (by omega), rfl, rfl, fun _ _ => rfl, fun _ _ => rfl, fun _ _ => rfl, fun _ _ => rfl, rfl, rfl, rfl, rfl, rfl⟩
theorem good_kp (v : OV) (l : Int32) : Kp v (g_goodV v l) := by
  unfold g_goodV
  by_cases h1 : l = 100
  · rw [if_pos h1]
    split
    · exact Kp.rf v
    · split
      · exact Kp.rf v
      · split
        · exact Kp.rf v
        · split
          · exact Kp.rf v
          · split
            · exact Kp.rf v
            · exact ⟨fun _ _ => rfl, (show upd (v.1 4) 1 (v.1 4 1 + 1) 0 = v.1 4 0 from pk_un (by decide)), rfl, fun j hj => dput_out _ _ _ hj, fun _ _ => rfl, fun _ _ => rfl, fun _ _ => rfl, rfl, rfl, rfl, rfl, rfl⟩
  rw [if_neg h1]
  by_cases h2 : l = 103
  · rw [if_pos h2]
    split
    · exact Kp.rf v
    · split
      · exact ⟨fun _ _ => rfl, rfl, rfl, fun _ _ => rfl, fun _ _ => rfl, fun _ _ => rfl, fun j hj => pk_un (by omega), rfl, rfl, rfl, rfl, rfl⟩
      · exact Kp.rf v
  rw [if_neg h2]
  by_cases h3 : l = 108
  · rw [if_pos h3]
    split
    · exact Kp.rf v
    · split
      · split
        · exact Kp.rf v
        · split
          · exact Kp.rf v
          · exact ⟨fun _ _ => rfl, rfl, (show upd (v.1 7) 1 (v.1 7 1 + 1) 0 = v.1 7 0 from pk_un (by decide)), fun _ _ => rfl, fun _ _ => rfl, fun j hj => lput_out _ _ _ hj, fun _ _ => rfl, rfl, rfl, rfl, rfl, rfl⟩
      · exact Kp.rf v
  rw [if_neg h3]
  by_cases h4 : l = 111
  · rw [if_pos h4]; exact kp3 (by decide)
  rw [if_neg h4]
  by_cases h5 : l = 112
  · rw [if_pos h5]; exact Kp.tr (kp3 (v := v) (k := 6) (by decide)) (kp3 (v := setA v 3 (upd (v.1 3) 6 (v.1 18 0))) (k := 7) (by decide))
  rw [if_neg h5]
  by_cases h6 : l = 114
  · rw [if_pos h6]; exact kp3 (by decide)
  rw [if_neg h6]
  by_cases h7 : l = 119
  · rw [if_pos h7]; exact kp3 (by decide)
  rw [if_neg h7]
  by_cases h8 : l = 117
  · rw [if_pos h8]
    split
    · exact Kp.rf v
    · split
      · exact ⟨fun _ _ => rfl, rfl, rfl, fun _ _ => rfl, fun j hj => pk_un (by omega), fun _ _ => rfl, fun _ _ => rfl, rfl, rfl, rfl, rfl, rfl⟩
      · exact Kp.rf v
  rw [if_neg h8]
  exact Kp.rf v
theorem rAt0 (f : Nat → Int32) : rAt f 3 0 = f 0 := rAt_n (n := 3) (k := 0) (by decide) (by decide)
theorem rAt1 (f : Nat → Int32) : rAt f 3 1 = f 1 := rAt_n (n := 3) (k := 1) (by decide) (by decide)
theorem rAt2 (f : Nat → Int32) : rAt f 3 2 = f 2 := rAt_n (n := 3) (k := 2) (by decide) (by decide)
theorem win_iff {x a b : Nat} (hx : x < 2 ^ 31) (ha : a < 2 ^ 31) (hb : b < 2 ^ 31) : fWithin (nI x) (nI a) (nI b) = true ↔ a ≤ x ∧ x ≤ b := by
  simp only [fWithin, Bool.and_eq_true, Bool.not_eq_true', decide_eq_false_iff_not]
  rw [nI_ltI hx ha, nI_ltI hb hx]
  omega
/-- a letter: how many numbers it has, and what its item does to both -/
def Ltr (l n0 : Nat) : Prop := ∀ (e : PN) (w v : OV) (X : Nat → Nat) (f : Nat → Int32), DOk e → CD e w → RD e v → (∀ j, X j ≤ 99) → (∀ j, j < n0 + 1 → f j = nI (X j)) → (∀ j, j < n0 + 1 → v.1 18 j = nI (X j)) →
  k_X2_take w (nI l) (nI (n0 + 1)) f = k_good v (nI l) ∧ (k_good v (nI l) = true → ∃ e', DOk e' ∧ CD e' (f_X2_take w (nI l) (nI (n0 + 1)) f) ∧ RD e' (g_goodV v (nI l)))
theorem ltr_d : Ltr 100 2 := by
  intro e w v X f hE hC hR hX hf hg
  have x0 := hX 0
  have x1 := hX 1
  have x2 := hX 2
  have c8 := hC.2.2.2.2.1
  have c9 := hC.2.2.2.2.2.1
  have r8 := hR.2.2.2.2.1
  have r9 := hR.2.2.2.2.2.1
  have b8 := hE.1.2
  have b9 := hE.2.1
  have i1 : nI (X 0) = nI (X 1) ↔ X 0 = X 1 := nI_eq (by omega) (by omega)
  have i2 : nI (e.2 8) ≤ nI (X 0) ↔ e.2 8 ≤ X 0 := nI_leI (by omega) (by omega)
  have i3 : nI (e.2 8) ≤ nI (X 1) ↔ e.2 8 ≤ X 1 := nI_leI (by omega) (by omega)
  have i4 : nI 8 ≤ nI (X 2) ↔ 8 ≤ X 2 := nI_leI (by omega) (by omega)
  have i5 : nI 8 ≤ nI (e.2 9) ↔ 8 ≤ e.2 9 := nI_leI (by omega) (by omega)
  have hk : k_X2_take w (nI 100) (nI (2 + 1)) f = true ↔ X 0 ≠ X 1 ∧ X 0 < e.2 8 ∧ X 1 < e.2 8 ∧ X 2 < 8 ∧ e.2 9 < 8 := by
    rw [k_X2_take, if_pos (by decide), if_pos (by decide), rAt0, rAt1, rAt2, hf 0 (by decide), hf 1 (by decide), hf 2 (by decide), k_X2_takeDoor, c8, c9, show (8 : Int32) = nI 8 from rfl]
    simp only [i1, i2, i3, i4, i5]
    by_cases g1 : X 0 = X 1 <;> by_cases g2 : e.2 8 ≤ X 0 <;> by_cases g3 : e.2 8 ≤ X 1 <;> by_cases g4 : 8 ≤ X 2 <;> by_cases g5 : 8 ≤ e.2 9 <;> simp [g1, g2, g3, g4, g5] <;> omega
  have hr : k_good v (nI 100) = true ↔ X 0 ≠ X 1 ∧ X 0 < e.2 8 ∧ X 1 < e.2 8 ∧ X 2 < 8 ∧ e.2 9 < 8 := by
    rw [k_good, if_pos (by decide), hg 0 (by decide), hg 1 (by decide), hg 2 (by decide), r8, r9, show (8 : Int32) = nI 8 from rfl]
    simp only [i1, i2, i3, i4, i5]
    by_cases g1 : X 0 = X 1 <;> by_cases g2 : e.2 8 ≤ X 0 <;> by_cases g3 : e.2 8 ≤ X 1 <;> by_cases g4 : 8 ≤ X 2 <;> by_cases g5 : 8 ≤ e.2 9 <;> simp [g1, g2, g3, g4, g5] <;> omega
  refine ⟨Bool.eq_iff_iff.mpr (hk.trans hr.symm), fun h => ?_⟩
  obtain ⟨p1, p2, p3, p4, p5⟩ := hr.mp h
  refine ⟨sJ (sN (sN (sN e 0 (upN (e.1 0) (e.2 9) (X 0))) 1 (upN (e.1 1) (e.2 9) (X 1))) 2 (upN (e.1 2) (e.2 9) (X 2))) 9 (e.2 9 + 1), ?_, ?_, ?_⟩
  · obtain ⟨h1, h2, h3, h4, h5, h6, h7, h8, h9, h10, h11⟩ := hE
    refine ⟨h1, by show e.2 9 + 1 ≤ 8; omega, h3, h4, h5, h6, h7, fun d hd => ?_, h9, h10, h11⟩
    show upN (e.1 0) (e.2 9) (X 0) d < e.2 8 ∧ upN (e.1 1) (e.2 9) (X 1) d < e.2 8 ∧ upN (e.1 0) (e.2 9) (X 0) d ≠ upN (e.1 1) (e.2 9) (X 1) d ∧ upN (e.1 2) (e.2 9) (X 2) d < 8
    have hd' : d < e.2 9 + 1 := hd
    by_cases g : d = e.2 9
    · rw [g, upN_s, upN_s, upN_s]; exact ⟨p2, p3, p1, p4⟩
    · rw [upN_n g, upN_n g, upN_n g]; exact h8 d (by omega)
  · have e1 : f_X2_take w (nI 100) (nI (2 + 1)) f = f_X2_addDoor w (nI (X 0)) (nI (X 1)) (nI (X 2)) := by
      rw [f_X2_take, if_pos (by decide), if_pos (by decide), rAt0, rAt1, rAt2, hf 0 (by decide), hf 1 (by decide), hf 2 (by decide), f_X2_takeDoor, c8, c9, show (8 : Int32) = nI 8 from rfl, if_neg (fun q => p1 (i1.mp q)), if_neg (fun q => by have := i2.mp q; omega), if_neg (fun q => by have := i3.mp q; omega), if_neg (fun q => by have := i4.mp q; omega), if_neg (fun q => by have := i5.mp q; omega)]
    rw [e1]
    refine ⟨fun d hd => ?_, hC.2.1, hC.2.2.1, hC.2.2.2.1, c8, ?_, hC.2.2.2.2.2.2⟩
    · have hd' : d < e.2 9 + 1 := hd
      show rPut (w.1 0) 8 (w.2 9) (nI (X 0)) d = nI (upN (e.1 0) (e.2 9) (X 0) d) ∧ rPut (w.1 1) 8 (w.2 9) (nI (X 1)) d = nI (upN (e.1 1) (e.2 9) (X 1) d) ∧ rPut (w.1 2) 8 (w.2 9) (nI (X 2)) d = nI (upN (e.1 2) (e.2 9) (X 2) d)
      rw [c9, rPut_n p5 (by decide), rPut_n p5 (by decide), rPut_n p5 (by decide)]
      by_cases g : d = e.2 9
      · rw [g, pk_us, pk_us, pk_us, upN_s, upN_s, upN_s]; exact ⟨rfl, rfl, rfl⟩
      · rw [pk_un g, pk_un g, pk_un g, upN_n g, upN_n g, upN_n g]; exact hC.1 d (by omega)
    · show w.2 9 + 1 = nI (e.2 9 + 1)
      rw [c9, nI_1]
  · have e1 : g_goodV v (nI 100) = setA (setA v 5 (g_dput (v.1 18) (v.1 4) (v.1 5))) 4 (upd (v.1 4) 1 (v.1 4 1 + 1)) := by
      rw [g_goodV, if_pos (by decide), hg 0 (by decide), hg 1 (by decide), hg 2 (by decide), r8, r9, show (8 : Int32) = nI 8 from rfl, if_neg (fun q => by have := i2.mp q; omega), if_neg (fun q => by have := i3.mp q; omega), if_neg (fun q => p1 (i1.mp q)), if_neg (fun q => by have := i4.mp q; omega), if_neg (fun q => by have := i5.mp q; omega)]
    rw [e1]
    have ed : ∀ j, g_dput (v.1 18) (v.1 4) (v.1 5) j = upd (upd (upd (v.1 5) (24 + 3 * e.2 9 + 0) (nI (X 0))) (24 + 3 * e.2 9 + 1) (nI (X 1))) (24 + 3 * e.2 9 + 2) (nI (X 2)) j := by
      intro j
      show upd (upd (upd (v.1 5) (24 + 3 * (v.1 4 1).toNatClampNeg + 0) (v.1 18 0)) (24 + 3 * (v.1 4 1).toNatClampNeg + 1) (v.1 18 1)) (24 + 3 * (v.1 4 1).toNatClampNeg + 2) (v.1 18 2) j = _
      rw [r9, nI_clamp (by omega), hg 0 (by decide), hg 1 (by decide), hg 2 (by decide)]
    refine ⟨fun d hd => ?_, hR.2.1, hR.2.2.1, hR.2.2.2.1, r8, ?_, hR.2.2.2.2.2.2⟩
    · have hd' : d < e.2 9 + 1 := hd
      show g_dput (v.1 18) (v.1 4) (v.1 5) (24 + 3 * d) = nI (upN (e.1 0) (e.2 9) (X 0) d) ∧ g_dput (v.1 18) (v.1 4) (v.1 5) (24 + 3 * d + 1) = nI (upN (e.1 1) (e.2 9) (X 1) d) ∧ g_dput (v.1 18) (v.1 4) (v.1 5) (24 + 3 * d + 2) = nI (upN (e.1 2) (e.2 9) (X 2) d)
      rw [ed, ed, ed]
      by_cases g : d = e.2 9
      · rw [g, upN_s, upN_s, upN_s]
        refine ⟨?_, ?_, ?_⟩
        · rw [pk_un (by omega), pk_un (by omega), show 24 + 3 * e.2 9 = 24 + 3 * e.2 9 + 0 by omega, pk_us]
        · rw [pk_un (by omega), pk_us]
        · rw [pk_us]
      · rw [upN_n g, upN_n g, upN_n g]
        have := hR.1 d (by omega)
        refine ⟨?_, ?_, ?_⟩
        · rw [pk_un (by omega), pk_un (by omega), pk_un (by omega)]; exact this.1
        · rw [pk_un (by omega), pk_un (by omega), pk_un (by omega)]; exact this.2.1
        · rw [pk_un (by omega), pk_un (by omega), pk_un (by omega)]; exact this.2.2
    · show upd (v.1 4) 1 (v.1 4 1 + 1) 1 = nI (e.2 9 + 1)
      rw [pk_us, r9, nI_1]
theorem ltr_l : Ltr 108 2 := by
  intro e w v X f hE hC hR hX hf hg
  have x0 := hX 0
  have x1 := hX 1
  have x2 := hX 2
  have c10 := hC.2.2.2.2.2.2.1
  have r10 := hR.2.2.2.2.2.2.1
  have b10 := hE.2.2.1
  have i1 : nI 6 ≤ nI (X 0) ↔ 6 ≤ X 0 := nI_leI (by omega) (by omega)
  have i2 : fWithin (nI (X 1)) (nI 1) (nI 20) = true ↔ 1 ≤ X 1 ∧ X 1 ≤ 20 := win_iff (by omega) (by omega) (by omega)
  have i2' : gIn (nI (X 1)).toInt64 1 20 = fWithin (nI (X 1)) (nI 1) (nI 20) := gIn32 _ 1 20
  have i3 : nI 6 ≤ nI (X 2) ↔ 6 ≤ X 2 := nI_leI (by omega) (by omega)
  have i4 : nI 4 ≤ nI (e.2 10) ↔ 4 ≤ e.2 10 := nI_leI (by omega) (by omega)
  have hk : k_X2_take w (nI 108) (nI (2 + 1)) f = true ↔ X 0 < 6 ∧ (1 ≤ X 1 ∧ X 1 ≤ 20) ∧ X 2 < 6 ∧ e.2 10 < 4 := by
    rw [k_X2_take, if_neg (by decide), if_neg (by decide), if_pos (by decide), if_pos (by decide), rAt0, rAt1, rAt2, hf 0 (by decide), hf 1 (by decide), hf 2 (by decide), k_X2_takeLodger, c10, show (6 : Int32) = nI 6 from rfl, show (4 : Int32) = nI 4 from rfl, show (1 : Int32) = nI 1 from rfl, show (20 : Int32) = nI 20 from rfl]
    simp only [i1, i2, i3, i4]
    by_cases g1 : 6 ≤ X 0 <;> by_cases g2 : 1 ≤ X 1 ∧ X 1 ≤ 20 <;> by_cases g3 : 6 ≤ X 2 <;> by_cases g4 : 4 ≤ e.2 10 <;> simp [g1, g2, g3, g4] <;> omega
  have hr : k_good v (nI 108) = true ↔ X 0 < 6 ∧ (1 ≤ X 1 ∧ X 1 ≤ 20) ∧ X 2 < 6 ∧ e.2 10 < 4 := by
    rw [k_good, if_neg (by decide), if_neg (by decide), if_pos (by decide), hg 0 (by decide), hg 1 (by decide), hg 2 (by decide), r10, i2', show (6 : Int32) = nI 6 from rfl, show (4 : Int32) = nI 4 from rfl]
    simp only [i1, i2, i3, i4]
    by_cases g1 : 6 ≤ X 0 <;> by_cases g2 : 1 ≤ X 1 ∧ X 1 ≤ 20 <;> by_cases g3 : 6 ≤ X 2 <;> by_cases g4 : 4 ≤ e.2 10 <;> simp [g1, g2, g3, g4] <;> omega
  refine ⟨Bool.eq_iff_iff.mpr (hk.trans hr.symm), fun h => ?_⟩
  obtain ⟨p1, p2, p3, p4⟩ := hr.mp h
  refine ⟨sJ (sN (sN (sN e 4 (upN (e.1 4) (e.2 10) (X 0))) 5 (upN (e.1 5) (e.2 10) (X 1))) 6 (upN (e.1 6) (e.2 10) (X 2))) 10 (e.2 10 + 1), ?_, ?_, ?_⟩
  · obtain ⟨h1, h2, h3, h4, h5, h6, h7, h8, h9, h10, h11⟩ := hE
    refine ⟨h1, h2, by show e.2 10 + 1 ≤ 4; omega, h4, h5, h6, h7, h8, h9, fun d hd => ?_, h11⟩
    show upN (e.1 4) (e.2 10) (X 0) d < 6 ∧ upN (e.1 5) (e.2 10) (X 1) d ≤ 20 ∧ upN (e.1 6) (e.2 10) (X 2) d < 6
    have hd' : d < e.2 10 + 1 := hd
    by_cases g : d = e.2 10
    · rw [g, upN_s, upN_s, upN_s]; exact ⟨p1, p2.2, p3⟩
    · rw [upN_n g, upN_n g, upN_n g]; exact h10 d (by omega)
  · have e1 : f_X2_take w (nI 108) (nI (2 + 1)) f = f_X2_addLodger w (nI (X 0)) (nI (X 1)) (nI (X 2)) := by
      rw [f_X2_take, if_neg (by decide), if_neg (by decide), if_pos (by decide), if_pos (by decide), rAt0, rAt1, rAt2, hf 0 (by decide), hf 1 (by decide), hf 2 (by decide), f_X2_takeLodger, c10, show (6 : Int32) = nI 6 from rfl, show (4 : Int32) = nI 4 from rfl, show (1 : Int32) = nI 1 from rfl, show (20 : Int32) = nI 20 from rfl, if_neg (fun q => by have := i1.mp q; omega), if_pos (i2.mpr p2), if_neg (fun q => by have := i3.mp q; omega), if_neg (fun q => by have := i4.mp q; omega)]
    rw [e1]
    refine ⟨hC.1, hC.2.1, fun d hd => ?_, hC.2.2.2.1, hC.2.2.2.2.1, hC.2.2.2.2.2.1, ?_, hC.2.2.2.2.2.2.2⟩
    · have hd' : d < e.2 10 + 1 := hd
      show rPut (w.1 4) 4 (w.2 10) (nI (X 0)) d = nI (upN (e.1 4) (e.2 10) (X 0) d) ∧ rPut (w.1 5) 4 (w.2 10) (nI (X 1)) d = nI (upN (e.1 5) (e.2 10) (X 1) d) ∧ rPut (w.1 6) 4 (w.2 10) (nI (X 2)) d = nI (upN (e.1 6) (e.2 10) (X 2) d)
      rw [c10, rPut_n p4 (by decide), rPut_n p4 (by decide), rPut_n p4 (by decide)]
      by_cases g : d = e.2 10
      · rw [g, pk_us, pk_us, pk_us, upN_s, upN_s, upN_s]; exact ⟨rfl, rfl, rfl⟩
      · rw [pk_un g, pk_un g, pk_un g, upN_n g, upN_n g, upN_n g]; exact hC.2.2.1 d (by omega)
    · show w.2 10 + 1 = nI (e.2 10 + 1)
      rw [c10, nI_1]
  · have e1 : g_goodV v (nI 108) = setA (setA v 8 (g_lput (v.1 18) (v.1 7) (v.1 8))) 7 (upd (v.1 7) 1 (v.1 7 1 + 1)) := by
      rw [g_goodV, if_neg (by decide), if_neg (by decide), if_pos (by decide), hg 0 (by decide), hg 1 (by decide), hg 2 (by decide), r10, i2', show (6 : Int32) = nI 6 from rfl, show (4 : Int32) = nI 4 from rfl, if_neg (fun q => by have := i1.mp q; omega), if_pos (i2.mpr p2), if_neg (fun q => by have := i3.mp q; omega), if_neg (fun q => by have := i4.mp q; omega)]
    rw [e1]
    have ed : ∀ j, g_lput (v.1 18) (v.1 7) (v.1 8) j = upd (upd (upd (v.1 8) (12 + 3 * e.2 10 + 0) (nI (X 0))) (12 + 3 * e.2 10 + 1) (nI (X 1))) (12 + 3 * e.2 10 + 2) (nI (X 2)) j := by
      intro j
      show upd (upd (upd (v.1 8) (12 + 3 * (v.1 7 1).toNatClampNeg + 0) (v.1 18 0)) (12 + 3 * (v.1 7 1).toNatClampNeg + 1) (v.1 18 1)) (12 + 3 * (v.1 7 1).toNatClampNeg + 2) (v.1 18 2) j = _
      rw [r10, nI_clamp (by omega), hg 0 (by decide), hg 1 (by decide), hg 2 (by decide)]
    refine ⟨hR.1, hR.2.1, fun d hd => ?_, hR.2.2.2.1, hR.2.2.2.2.1, hR.2.2.2.2.2.1, ?_, hR.2.2.2.2.2.2.2⟩
    · have hd' : d < e.2 10 + 1 := hd
      show g_lput (v.1 18) (v.1 7) (v.1 8) (12 + 3 * d) = nI (upN (e.1 4) (e.2 10) (X 0) d) ∧ g_lput (v.1 18) (v.1 7) (v.1 8) (12 + 3 * d + 1) = nI (upN (e.1 5) (e.2 10) (X 1) d) ∧ g_lput (v.1 18) (v.1 7) (v.1 8) (12 + 3 * d + 2) = nI (upN (e.1 6) (e.2 10) (X 2) d)
      rw [ed, ed, ed]
      by_cases g : d = e.2 10
      · rw [g, upN_s, upN_s, upN_s]
        refine ⟨?_, ?_, ?_⟩
        · rw [pk_un (by omega), pk_un (by omega), show 12 + 3 * e.2 10 = 12 + 3 * e.2 10 + 0 by omega, pk_us]
        · rw [pk_un (by omega), pk_us]
        · rw [pk_us]
      · rw [upN_n g, upN_n g, upN_n g]
        have := hR.2.2.1 d (by omega)
        refine ⟨?_, ?_, ?_⟩
        · rw [pk_un (by omega), pk_un (by omega), pk_un (by omega)]; exact this.1
        · rw [pk_un (by omega), pk_un (by omega), pk_un (by omega)]; exact this.2.1
        · rw [pk_un (by omega), pk_un (by omega), pk_un (by omega)]; exact this.2.2
    · show upd (v.1 7) 1 (v.1 7 1 + 1) 1 = nI (e.2 10 + 1)
      rw [pk_us, r10, nI_1]
theorem ltr_g : Ltr 103 2 := by
  intro e w v X f hE hC hR hX hf hg
  have x0 := hX 0
  have x1 := hX 1
  have x2 := hX 2
  have c9 := hC.2.2.2.2.2.1
  have r9 := hR.2.2.2.2.2.1
  have c10 := hC.2.2.2.2.2.2.1
  have r10 := hR.2.2.2.2.2.2.1
  have b9 := hE.2.1
  have b10 := hE.2.2.1
  have i1 : nI (e.2 9) ≤ nI (X 0) ↔ e.2 9 ≤ X 0 := nI_leI (by omega) (by omega)
  have i2 : nI (X 1) < nI (e.2 10) ↔ X 1 < e.2 10 := nI_ltI (by omega) (by omega)
  have hk : k_X2_take w (nI 103) (nI (2 + 1)) f = true ↔ X 0 < e.2 9 ∧ X 1 < e.2 10 := by
    rw [k_X2_take, if_neg (by decide), if_pos (by decide), if_pos (by decide), rAt0, rAt1, rAt2, hf 0 (by decide), hf 1 (by decide), hf 2 (by decide), k_X2_takeGrudge, c9, c10]
    simp only [i1, i2]
    by_cases g1 : e.2 9 ≤ X 0 <;> by_cases g2 : X 1 < e.2 10 <;> simp [g1, g2] <;> omega
  have hr : k_good v (nI 103) = true ↔ X 0 < e.2 9 ∧ X 1 < e.2 10 := by
    rw [k_good, if_neg (by decide), if_pos (by decide), hg 0 (by decide), hg 1 (by decide), r9, r10]
    simp only [i1, i2]
    by_cases g1 : e.2 9 ≤ X 0 <;> by_cases g2 : X 1 < e.2 10 <;> simp [g1, g2] <;> omega
  refine ⟨Bool.eq_iff_iff.mpr (hk.trans hr.symm), fun h => ?_⟩
  obtain ⟨p1, p2⟩ := hr.mp h
  refine ⟨sN e 7 (upN (e.1 7) (X 1 * 8 + X 0) (X 2)), ?_, ?_, ?_⟩
  · obtain ⟨h1, h2, h3, h4, h5, h6, h7, h8, h9, h10, h11⟩ := hE
    refine ⟨h1, h2, h3, h4, h5, h6, h7, h8, h9, h10, fun j hj => ?_⟩
    show upN (e.1 7) (X 1 * 8 + X 0) (X 2) j ≤ 99
    unfold upN
    split
    · exact x2
    · exact h11 j hj
  · have e1 : f_X2_take w (nI 103) (nI (2 + 1)) f = setA w 7 (rPut (w.1 7) 32 (nI (X 1) * 8 + nI (X 0)) (nI (X 2))) := by
      rw [f_X2_take, if_neg (by decide), if_pos (by decide), if_pos (by decide), rAt0, rAt1, rAt2, hf 0 (by decide), hf 1 (by decide), hf 2 (by decide), f_X2_takeGrudge, c9, c10, if_neg (fun q => by have := i1.mp q; omega), if_pos (i2.mpr p2)]
    rw [e1, ix8, rPut_n (by omega) (by decide)]
    refine ⟨hC.1, hC.2.1, hC.2.2.1, fun j hj => ?_, hC.2.2.2.2⟩
    show upd (w.1 7) (X 1 * 8 + X 0) (nI (X 2)) j = nI (upN (e.1 7) (X 1 * 8 + X 0) (X 2) j)
    by_cases g : j = X 1 * 8 + X 0
    · rw [g, pk_us, upN_s]
    · rw [pk_un g, upN_n g]; exact hC.2.2.2.1 j hj
  · have e1 : g_goodV v (nI 103) = setA v 9 (upd (v.1 9) (32 + 4 * X 0 + X 1) (nI (X 2))) := by
      rw [g_goodV, if_neg (by decide), if_pos (by decide), hg 0 (by decide), hg 1 (by decide), hg 2 (by decide), r9, r10, if_neg (fun q => by have := i1.mp q; omega), if_pos (i2.mpr p2), nI_clamp (by omega), nI_clamp (by omega)]
    rw [e1]
    refine ⟨hR.1, hR.2.1, hR.2.2.1, fun d i hd hi => ?_, hR.2.2.2.2⟩
    show upd (v.1 9) (32 + 4 * X 0 + X 1) (nI (X 2)) (32 + 4 * d + i) = nI (upN (e.1 7) (X 1 * 8 + X 0) (X 2) (i * 8 + d))
    by_cases g : d = X 0 ∧ i = X 1
    · rw [g.1, g.2, pk_us, upN_s]
    · rw [pk_un (by omega), upN_n (by omega)]; exact hR.2.2.2.1 d i hd hi
theorem ltr_u : Ltr 117 1 := by
  intro e w v X f hE hC hR hX hf hg
  have x0 := hX 0
  have x1 := hX 1
  have c9 := hC.2.2.2.2.2.1
  have r9 := hR.2.2.2.2.2.1
  have b9 := hE.2.1
  have i1 : nI (e.2 9) ≤ nI (X 0) ↔ e.2 9 ≤ X 0 := nI_leI (by omega) (by omega)
  have i2 : nI (X 1) ≤ nI 20 ↔ X 1 ≤ 20 := nI_leI (by omega) (by omega)
  have hk : k_X2_take w (nI 117) (nI (1 + 1)) f = true ↔ X 0 < e.2 9 ∧ X 1 ≤ 20 := by
    rw [k_X2_take, if_neg (by decide), if_neg (by decide), if_neg (by decide), if_neg (by decide), if_neg (by decide), if_neg (by decide), if_pos (by decide), if_pos (by decide), rAt0, rAt1, hf 0 (by decide), hf 1 (by decide), k_X2_takeDraught, c9, show (20 : Int32) = nI 20 from rfl]
    simp only [i1, i2]
    by_cases g1 : e.2 9 ≤ X 0 <;> by_cases g2 : X 1 ≤ 20 <;> simp [g1, g2] <;> omega
  have hr : k_good v (nI 117) = true ↔ X 0 < e.2 9 ∧ X 1 ≤ 20 := by
    rw [k_good, if_neg (by decide), if_neg (by decide), if_neg (by decide), if_neg (by decide), if_neg (by decide), if_neg (by decide), if_neg (by decide), if_pos (by decide), hg 0 (by decide), hg 1 (by decide), r9, show (20 : Int32) = nI 20 from rfl]
    simp only [i1, i2]
    by_cases g1 : e.2 9 ≤ X 0 <;> by_cases g2 : X 1 ≤ 20 <;> simp [g1, g2] <;> omega
  refine ⟨Bool.eq_iff_iff.mpr (hk.trans hr.symm), fun h => ?_⟩
  obtain ⟨p1, p2⟩ := hr.mp h
  refine ⟨sN e 3 (upN (e.1 3) (X 0) (X 1)), ?_, ?_, ?_⟩
  · obtain ⟨h1, h2, h3, h4, h5, h6, h7, h8, h9, h10, h11⟩ := hE
    refine ⟨h1, h2, h3, h4, h5, h6, h7, h8, fun d hd => ?_, h10, h11⟩
    show upN (e.1 3) (X 0) (X 1) d ≤ 20
    unfold upN
    split
    · exact p2
    · exact h9 d hd
  · have e1 : f_X2_take w (nI 117) (nI (1 + 1)) f = setA w 3 (rPut (w.1 3) 8 (nI (X 0)) (nI (X 1))) := by
      rw [f_X2_take, if_neg (by decide), if_neg (by decide), if_neg (by decide), if_neg (by decide), if_neg (by decide), if_neg (by decide), if_pos (by decide), if_pos (by decide), rAt0, rAt1, hf 0 (by decide), hf 1 (by decide), f_X2_takeDraught, c9, show (20 : Int32) = nI 20 from rfl, if_neg (fun q => by have := i1.mp q; omega), if_pos (i2.mpr p2)]
    rw [e1, rPut_n (by omega) (by decide)]
    refine ⟨hC.1, fun d hd => ?_, hC.2.2⟩
    show upd (w.1 3) (X 0) (nI (X 1)) d = nI (upN (e.1 3) (X 0) (X 1) d)
    by_cases g : d = X 0
    · rw [g, pk_us, upN_s]
    · rw [pk_un g, upN_n g]; exact hC.2.1 d hd
  · have e1 : g_goodV v (nI 117) = setA v 6 (upd (v.1 6) (8 + X 0) (nI (X 1))) := by
      rw [g_goodV, if_neg (by decide), if_neg (by decide), if_neg (by decide), if_neg (by decide), if_neg (by decide), if_neg (by decide), if_neg (by decide), if_pos (by decide), hg 0 (by decide), hg 1 (by decide), r9, show (20 : Int32) = nI 20 from rfl, if_neg (fun q => by have := i1.mp q; omega), if_pos (i2.mpr p2), nI_clamp (by omega)]
    rw [e1]
    refine ⟨hR.1, fun d hd => ?_, hR.2.2⟩
    show upd (v.1 6) (8 + X 0) (nI (X 1)) (8 + d) = nI (upN (e.1 3) (X 0) (X 1) d)
    by_cases g : d = X 0
    · rw [g, pk_us, upN_s]
    · rw [pk_un (by omega), upN_n g]; exact hR.2.1 d hd
theorem up3 {v : OV} {k j : Nat} {x : Int32} (h : j ≠ k) : (setA v 3 (upd (v.1 3) k x)).1 3 j = v.1 3 j := pk_un (f := v.1 3) (k := k) (j := j) (x := x) h
theorem up3s (v : OV) (k : Nat) (x : Int32) : (setA v 3 (upd (v.1 3) k x)).1 3 k = x := pk_us (f := v.1 3) (k := k) (x := x)
theorem up33 {v : OV} {j : Nat} {x y : Int32} (h : j ≠ 7) (h' : j ≠ 6) : (setA (setA v 3 (upd (v.1 3) 6 x)) 3 (upd (upd (v.1 3) 6 x) 7 y)).1 3 j = v.1 3 j := (pk_un (f := upd (v.1 3) 6 x) (k := 7) (j := j) (x := y) h).trans (pk_un (f := v.1 3) (k := 6) (j := j) (x := x) h')
theorem up336 (v : OV) (x y : Int32) : (setA (setA v 3 (upd (v.1 3) 6 x)) 3 (upd (upd (v.1 3) 6 x) 7 y)).1 3 6 = x := (pk_un (f := upd (v.1 3) 6 x) (k := 7) (j := 6) (x := y) (by decide)).trans (pk_us (f := v.1 3) (k := 6) (x := x))
theorem up337 (v : OV) (x y : Int32) : (setA (setA v 3 (upd (v.1 3) 6 x)) 3 (upd (upd (v.1 3) 6 x) 7 y)).1 3 7 = y := pk_us (f := upd (v.1 3) 6 x) (k := 7) (x := y)
theorem ltr_o : Ltr 111 0 := by
  intro e w v X f hE hC hR hX hf hg
  have x0 := hX 0
  have i1 : fWithin (nI (X 0)) (nI 1) (nI 9) = true ↔ 1 ≤ X 0 ∧ X 0 ≤ 9 := win_iff (by omega) (by omega) (by omega)
  have i2 : gIn (nI (X 0)).toInt64 1 9 = fWithin (nI (X 0)) (nI 1) (nI 9) := gIn32 _ 1 9
  have hk : k_X2_take w (nI 111) (nI (0 + 1)) f = fWithin (nI (X 0)) (nI 1) (nI 9) := by
    rw [k_X2_take, if_neg (by decide), if_neg (by decide), if_neg (by decide), if_pos (by decide), if_pos (by decide), rAt0, hf 0 (by decide), k_X2_takeOil, show (1 : Int32) = nI 1 from rfl, show (9 : Int32) = nI 9 from rfl]
    cases fWithin (nI (X 0)) (nI 1) (nI 9) <;> rfl
  have hr : k_good v (nI 111) = fWithin (nI (X 0)) (nI 1) (nI 9) := by
    rw [k_good, if_neg (by decide), if_neg (by decide), if_neg (by decide), if_pos (by decide), hg 0 (by decide), i2]
  refine ⟨hk.trans hr.symm, fun h => ?_⟩
  rw [hr] at h
  have p := i1.mp h
  refine ⟨sJ e 14 (X 0), ?_, ?_, ?_⟩
  · obtain ⟨h1, h2, h3, h4, h5, h6, h7, h8, h9, h10, h11⟩ := hE
    exact ⟨h1, h2, h3, h4, h5, h6, p, h8, h9, h10, h11⟩
  · have e1 : f_X2_take w (nI 111) (nI (0 + 1)) f = setI w 14 (nI (X 0)) := by
      rw [f_X2_take, if_neg (by decide), if_neg (by decide), if_neg (by decide), if_pos (by decide), if_pos (by decide), rAt0, hf 0 (by decide), f_X2_takeOil, show (1 : Int32) = nI 1 from rfl, show (9 : Int32) = nI 9 from rfl, if_pos h]
    rw [e1]
    obtain ⟨h1, h2, h3, h4, h5, h6, h7, h8, h9, h10, h11⟩ := hC
    exact ⟨h1, h2, h3, h4, h5, h6, h7, h8, h9, h10, rfl⟩
  · have e1 : g_goodV v (nI 111) = setA v 3 (upd (v.1 3) 9 (nI (X 0))) := by
      rw [g_goodV, if_neg (by decide), if_neg (by decide), if_neg (by decide), if_pos (by decide), hg 0 (by decide)]
    rw [e1]
    obtain ⟨h1, h2, h3, h4, h5, h6, h7, h8, h9, h10, h11⟩ := hR
    exact ⟨h1, h2, h3, h4, (up3 (by decide)).trans h5, h6, h7, (up3 (by decide)).trans h8, (up3 (by decide)).trans h9, (up3 (by decide)).trans h10, (up3s _ _ _)⟩
theorem ltr_p : Ltr 112 1 := by
  intro e w v X f hE hC hR hX hf hg
  have x0 := hX 0
  have x1 := hX 1
  have i1 : nI 10 < nI (X 0) ↔ 10 < X 0 := nI_ltI (by omega) (by omega)
  have i2 : nI (X 1) ≤ nI 9 ↔ X 1 ≤ 9 := nI_leI (by omega) (by omega)
  have i3 : nI 11 ≤ nI (X 0) ↔ 11 ≤ X 0 := nI_leI (by omega) (by omega)
  have i4 : nI 10 ≤ nI (X 1) ↔ 10 ≤ X 1 := nI_leI (by omega) (by omega)
  have hk : k_X2_take w (nI 112) (nI (1 + 1)) f = true ↔ X 0 ≤ 10 ∧ X 1 ≤ 9 := by
    rw [k_X2_take, if_neg (by decide), if_neg (by decide), if_neg (by decide), if_neg (by decide), if_pos (by decide), if_pos (by decide), rAt0, rAt1, hf 0 (by decide), hf 1 (by decide), k_X2_takePassing, show (10 : Int32) = nI 10 from rfl, show (9 : Int32) = nI 9 from rfl]
    simp only [i1, i2]
    by_cases g1 : 10 < X 0 <;> by_cases g2 : X 1 ≤ 9 <;> simp [g1, g2] <;> omega
  have hr : k_good v (nI 112) = true ↔ X 0 ≤ 10 ∧ X 1 ≤ 9 := by
    rw [k_good, if_neg (by decide), if_neg (by decide), if_neg (by decide), if_neg (by decide), if_pos (by decide), hg 0 (by decide), hg 1 (by decide), show (11 : Int32) = nI 11 from rfl, show (10 : Int32) = nI 10 from rfl]
    simp only [i3, i4]
    by_cases g1 : 11 ≤ X 0 <;> by_cases g2 : 10 ≤ X 1 <;> simp [g1, g2] <;> omega
  refine ⟨Bool.eq_iff_iff.mpr (hk.trans hr.symm), fun h => ?_⟩
  obtain ⟨p1, p2⟩ := hr.mp h
  refine ⟨sJ (sJ e 11 (X 0)) 12 (X 1), ?_, ?_, ?_⟩
  · obtain ⟨h1, h2, h3, h4, h5, h6, h7, h8, h9, h10, h11⟩ := hE
    exact ⟨h1, h2, h3, p1, p2, h6, h7, h8, h9, h10, h11⟩
  · have e1 : f_X2_take w (nI 112) (nI (1 + 1)) f = setI (setI w 11 (nI (X 0))) 12 (nI (X 1)) := by
      rw [f_X2_take, if_neg (by decide), if_neg (by decide), if_neg (by decide), if_neg (by decide), if_pos (by decide), if_pos (by decide), rAt0, rAt1, hf 0 (by decide), hf 1 (by decide), f_X2_takePassing, show (10 : Int32) = nI 10 from rfl, show (9 : Int32) = nI 9 from rfl, if_neg (fun q => by have := i1.mp q; omega), if_pos (i2.mpr p2)]
    rw [e1]
    obtain ⟨h1, h2, h3, h4, h5, h6, h7, h8, h9, h10, h11⟩ := hC
    exact ⟨h1, h2, h3, h4, h5, h6, h7, rfl, rfl, h10, h11⟩
  · have e1 : g_goodV v (nI 112) = setA (setA v 3 (upd (v.1 3) 6 (nI (X 0)))) 3 (upd (upd (v.1 3) 6 (nI (X 0))) 7 (nI (X 1))) := by
      rw [g_goodV, if_neg (by decide), if_neg (by decide), if_neg (by decide), if_neg (by decide), if_pos (by decide), hg 0 (by decide), hg 1 (by decide)]
    rw [e1]
    obtain ⟨h1, h2, h3, h4, h5, h6, h7, h8, h9, h10, h11⟩ := hR
    exact ⟨h1, h2, h3, h4, (up33 (by decide) (by decide)).trans h5, h6, h7, up336 _ _ _, up337 _ _ _, (up33 (by decide) (by decide)).trans h10, (up33 (by decide) (by decide)).trans h11⟩
theorem ltr_r : Ltr 114 0 := by
  intro e w v X f hE hC hR hX hf hg
  have x0 := hX 0
  have c9 := hC.2.2.2.2.2.1
  have r9 := hR.2.2.2.2.2.1
  have b9 := hE.2.1
  have i1 : fWithin (nI (X 0)) (nI 2) (nI 6) = true ↔ 2 ≤ X 0 ∧ X 0 ≤ 6 := win_iff (by omega) (by omega) (by omega)
  have i2 : gIn (nI (X 0)).toInt64 2 6 = fWithin (nI (X 0)) (nI 2) (nI 6) := gIn32 _ 2 6
  have i3 : nI 0 < nI (e.2 9) ↔ 0 < e.2 9 := nI_ltI (by omega) (by omega)
  have i4 : nI (e.2 9) = nI 0 ↔ e.2 9 = 0 := nI_eq (by omega) (by omega)
  have hk : k_X2_take w (nI 114) (nI (0 + 1)) f = true ↔ e.2 9 = 0 ∧ 2 ≤ X 0 ∧ X 0 ≤ 6 := by
    rw [k_X2_take, if_neg (by decide), if_neg (by decide), if_neg (by decide), if_neg (by decide), if_neg (by decide), if_pos (by decide), if_pos (by decide), rAt0, hf 0 (by decide), k_X2_takeRooms, c9, show (2 : Int32) = nI 2 from rfl, show (6 : Int32) = nI 6 from rfl, show (0 : Int32) = nI 0 from rfl]
    simp only [i1, i3]
    by_cases g1 : 0 < e.2 9 <;> by_cases g2 : 2 ≤ X 0 ∧ X 0 ≤ 6 <;> simp [g1, g2] <;> omega
  have hr : k_good v (nI 114) = true ↔ e.2 9 = 0 ∧ 2 ≤ X 0 ∧ X 0 ≤ 6 := by
    rw [k_good, if_neg (by decide), if_neg (by decide), if_neg (by decide), if_neg (by decide), if_neg (by decide), if_pos (by decide), hg 0 (by decide), r9, i2, show (0 : Int32) = nI 0 from rfl]
    simp only [i1, i4]
    by_cases g1 : e.2 9 = 0 <;> by_cases g2 : 2 ≤ X 0 ∧ X 0 ≤ 6 <;> simp [g1, g2] <;> omega
  refine ⟨Bool.eq_iff_iff.mpr (hk.trans hr.symm), fun h => ?_⟩
  obtain ⟨p1, p2⟩ := hr.mp h
  refine ⟨sJ e 8 (X 0), ?_, ?_, ?_⟩
  · obtain ⟨h1, h2, h3, h4, h5, h6, h7, h8, h9, h10, h11⟩ := hE
    exact ⟨p2, h2, h3, h4, h5, h6, h7, fun d hd => absurd (show d < e.2 9 from hd) (by omega), h9, h10, h11⟩
  · have e1 : f_X2_take w (nI 114) (nI (0 + 1)) f = setI w 8 (nI (X 0)) := by
      rw [f_X2_take, if_neg (by decide), if_neg (by decide), if_neg (by decide), if_neg (by decide), if_neg (by decide), if_pos (by decide), if_pos (by decide), rAt0, hf 0 (by decide), f_X2_takeRooms, c9, show (2 : Int32) = nI 2 from rfl, show (6 : Int32) = nI 6 from rfl, show (0 : Int32) = nI 0 from rfl, if_neg (fun q => by have := i3.mp q; omega), if_pos (i1.mpr p2)]
    rw [e1]
    obtain ⟨h1, h2, h3, h4, h5, h6, h7, h8, h9, h10, h11⟩ := hC
    exact ⟨h1, h2, h3, h4, rfl, h6, h7, h8, h9, h10, h11⟩
  · have e1 : g_goodV v (nI 114) = setA v 3 (upd (v.1 3) 5 (nI (X 0))) := by
      rw [g_goodV, if_neg (by decide), if_neg (by decide), if_neg (by decide), if_neg (by decide), if_neg (by decide), if_pos (by decide), hg 0 (by decide)]
    rw [e1]
    obtain ⟨h1, h2, h3, h4, h5, h6, h7, h8, h9, h10, h11⟩ := hR
    exact ⟨h1, h2, h3, h4, (up3s _ _ _), h6, h7, (up3 (by decide)).trans h8, (up3 (by decide)).trans h9, (up3 (by decide)).trans h10, (up3 (by decide)).trans h11⟩
theorem ltr_w : Ltr 119 0 := by
  intro e w v X f hE hC hR hX hf hg
  have x0 := hX 0
  have i1 : nI (X 0) ≤ nI 9 ↔ X 0 ≤ 9 := nI_leI (by omega) (by omega)
  have i2 : nI 10 ≤ nI (X 0) ↔ 10 ≤ X 0 := nI_leI (by omega) (by omega)
  have hk : k_X2_take w (nI 119) (nI (0 + 1)) f = true ↔ X 0 ≤ 9 := by
    rw [k_X2_take, if_neg (by decide), if_neg (by decide), if_neg (by decide), if_neg (by decide), if_neg (by decide), if_neg (by decide), if_neg (by decide), if_pos (by decide), if_pos (by decide), rAt0, hf 0 (by decide), k_X2_takeWear, show (9 : Int32) = nI 9 from rfl]
    simp only [i1]
    by_cases g1 : X 0 ≤ 9 <;> simp [g1]
  have hr : k_good v (nI 119) = true ↔ X 0 ≤ 9 := by
    rw [k_good, if_neg (by decide), if_neg (by decide), if_neg (by decide), if_neg (by decide), if_neg (by decide), if_neg (by decide), if_pos (by decide), hg 0 (by decide), show (10 : Int32) = nI 10 from rfl]
    simp only [i2]
    by_cases g1 : 10 ≤ X 0 <;> simp [g1] <;> omega
  refine ⟨Bool.eq_iff_iff.mpr (hk.trans hr.symm), fun h => ?_⟩
  have p := hr.mp h
  refine ⟨sJ e 13 (X 0), ?_, ?_, ?_⟩
  · obtain ⟨h1, h2, h3, h4, h5, h6, h7, h8, h9, h10, h11⟩ := hE
    exact ⟨h1, h2, h3, h4, h5, p, h7, h8, h9, h10, h11⟩
  · have e1 : f_X2_take w (nI 119) (nI (0 + 1)) f = setI w 13 (nI (X 0)) := by
      rw [f_X2_take, if_neg (by decide), if_neg (by decide), if_neg (by decide), if_neg (by decide), if_neg (by decide), if_neg (by decide), if_neg (by decide), if_pos (by decide), if_pos (by decide), rAt0, hf 0 (by decide), f_X2_takeWear, show (9 : Int32) = nI 9 from rfl, if_pos (i1.mpr p)]
    rw [e1]
    obtain ⟨h1, h2, h3, h4, h5, h6, h7, h8, h9, h10, h11⟩ := hC
    exact ⟨h1, h2, h3, h4, h5, h6, h7, h8, h9, rfl, h11⟩
  · have e1 : g_goodV v (nI 119) = setA v 3 (upd (v.1 3) 8 (nI (X 0))) := by
      rw [g_goodV, if_neg (by decide), if_neg (by decide), if_neg (by decide), if_neg (by decide), if_neg (by decide), if_neg (by decide), if_pos (by decide), hg 0 (by decide)]
    rw [e1]
    obtain ⟨h1, h2, h3, h4, h5, h6, h7, h8, h9, h10, h11⟩ := hR
    exact ⟨h1, h2, h3, h4, (up3 (by decide)).trans h5, h6, h7, (up3 (by decide)).trans h8, (up3 (by decide)).trans h9, (up3s _ _ _), (up3 (by decide)).trans h11⟩
