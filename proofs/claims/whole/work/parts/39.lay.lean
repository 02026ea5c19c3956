/-! a text whole: its fault; what is laid -/
section IB
variable {bt : Nat → Nat} {len : Nat} {e : PN} {w v u : OV}
theorem item_l (hl : len ≤ 300) (hb : ∀ k, k < len → bt k < 256) {l n0 q : Nat} (hn0 : n0 ≤ 2) (hl1 : l < 128) (hnum : g_numbers (nI l) = nI (n0 + 1)) (hL : Ltr l n0) (hne : ∀ m, m ≤ 2 → m ≠ n0 → ∀ w f, k_X2_take w (nI l) (nI (m + 1)) f = false) (hq : q < len) (hbq : bt q = l) (hu : CT bt len u) (hT : ∀ k, k < len → v.1 1 k = sb (bt k)) (hE : DOk e) (hC : CD e w) (hR : RD e v) :
    (¬ (f_X4_scan u (nI q)).2 < 0 ∧ k_X2_take w (f_X4_byteAt (f_X4_scan u (nI q)).1 (nI q)) ((f_X4_scan u (nI q)).1.2 2) ((f_X4_scan u (nI q)).1.1 1) = true ∧ g_itemK v q len = true ∧ (f_X4_scan u (nI q)).2 = nI (g_itemP v q len) ∧ q < g_itemP v q len ∧ g_itemP v q len ≤ len ∧ ∃ e', DOk e' ∧ CD e' (f_X2_take w (f_X4_byteAt (f_X4_scan u (nI q)).1 (nI q)) ((f_X4_scan u (nI q)).1.2 2) ((f_X4_scan u (nI q)).1.1 1)) ∧ RD e' (g_itemV v q len)) ∨
    (((f_X4_scan u (nI q)).2 < 0 ∨ k_X2_take w (f_X4_byteAt (f_X4_scan u (nI q)).1 (nI q)) ((f_X4_scan u (nI q)).1.2 2) ((f_X4_scan u (nI q)).1.1 1) = false) ∧ g_itemK v q len = false) := by
  have hsc := scan_n hl hb 3 u (q + 1) 0 (fun _ => 0) rfl (by omega) hu (fun j hj => absurd hj (by omega))
  have escan : f_X4_scan u (nI q) = scanGo 3 u (nI (q + 1)) 0 := by rw [f_X4_scan, nI_1]
  rw [← escan] at hsc
  obtain ⟨hct, hsc⟩ := hsc
  generalize f_X4_scan u (nI q) = SC at hct hsc
  have hby : f_X4_byteAt SC.1 (nI q) = nI l := by rw [byte_n hl (hct.ct hu) (by omega), if_pos hq, hbq]
  have hTq : v.1 1 q = nI l := by rw [hT q hq, hbq, sb, if_pos hl1]
  have hir : g_itemR v q len = itemGo (v.1 1) len (n0 + 1) 0 (q + 1) true (v.1 18) := by
    rw [g_itemR, hTq, hnum, nI_clamp (by omega), isB, if_neg (nI_nle (by omega) (by omega))]
  have hri := itemR_n hl hb hT (n := n0) (p := q + 1) (by omega) (by omega) (fun _ => 0) (v.1 18)
  rw [← hir] at hri
  have hKdef : g_itemK v q len = g_itemK3 v len (nI l) (g_itemR v q len).1 (g_itemR v q len).2.1 (g_itemR v q len).2.2 := by rw [g_itemK, hTq]
  have hVdef : g_itemV v q len = g_itemV3 v len (nI l) (g_itemR v q len).1 (g_itemR v q len).2.1 (g_itemR v q len).2.2 := by rw [g_itemV, hTq]
  have hPdef : g_itemP v q len = (g_itemR v q len).1 + 1 := rfl
  have hrb : (g_itemR v q len).1 < 2 ^ 31 := by
    rw [hir]
    have := itemGo_le (v.1 1) len (n0 + 1) 0 (q + 1) true (v.1 18)
    have h3 : (n0 + 1) * (len + 1) ≤ 3 * 301 := Nat.mul_le_mul (by omega) (by omega)
    omega
  rw [hKdef, hVdef, hPdef, hby]
  generalize g_itemR v q len = r at hri hrb
  have hnoK : (r.2.1 = false ∨ chr bt len r.1 59 = false) → g_itemK3 v len (nI l) r.1 r.2.1 r.2.2 = false := by
    intro h
    unfold g_itemK3
    rcases h with h | h
    · rw [h, if_neg (by decide)]
    · by_cases g : r.2.1 = true
      · rw [if_pos g]
        by_cases g2 : nI len ≤ nI r.1
        · rw [if_pos g2]
        · rw [if_neg g2]
          have g3 : ¬ v.1 1 r.1 = 59 := by
            intro h9
            by_cases g4 : r.1 < len
            · rw [hT r.1 g4] at h9
              have := (sb_eq (c := 59) (hb _ g4) (by decide)).mp h9
              rw [chr_t.mpr ⟨g4, this⟩] at h
              cases h
            · exact g2 (nI_le (by omega) hrb)
          rw [if_neg g3]
      · rw [if_neg g]
  rcases hsc with ⟨n, X', p', h1, h2, h3, h4, h5, h6⟩ | ⟨h1, h2⟩
  · obtain ⟨b1, b2, b3⟩ := itH_b h2 (fun _ => Nat.zero_le _)
    rw [Nat.zero_add] at h4
    by_cases hnn : n = n0
    · subst hnn
      obtain ⟨i1, i2, i3, i4⟩ := hri.1 X' p' h2
      have hc := chr_t.mp i3
      have hRF : RD e (setI (setA (setI v 2 (nI r.1)) 18 r.2.2) 2 (nI (r.1 + 1))) := hR
      obtain ⟨t1, t2⟩ := hL e w (setI (setA (setI v 2 (nI r.1)) 18 r.2.2) 2 (nI (r.1 + 1))) X' (SC.1.1 1) hE hC hRF b3 (fun j hj => h5 j (by omega)) (fun j hj => i4 j (by omega))
      have h59 : v.1 1 r.1 = 59 := by rw [hT r.1 hc.1]; exact (sb_eq (c := 59) (hb _ hc.1) (by decide)).mpr hc.2
      have hK : g_itemK3 v len (nI l) r.1 r.2.1 r.2.2 = k_good (setI (setA (setI v 2 (nI r.1)) 18 r.2.2) 2 (nI (r.1 + 1))) (nI l) := by
        unfold g_itemK3
        rw [if_pos i1, if_neg (nI_ge hc.1 (by omega)), if_pos h59]
        cases k_good (setI (setA (setI v 2 (nI r.1)) 18 r.2.2) 2 (nI (r.1 + 1))) (nI l) <;> rfl
      have hV : g_itemV3 v len (nI l) r.1 r.2.1 r.2.2 = g_goodV (setI (setA (setI v 2 (nI r.1)) 18 r.2.2) 2 (nI (r.1 + 1))) (nI l) := by
        unfold g_itemV3
        rw [if_pos i1, if_neg (nI_ge hc.1 (by omega)), if_pos h59]
      rw [h3, h4, hK, hV, t1]
      cases hkg : k_good (setI (setA (setI v 2 (nI r.1)) 18 r.2.2) 2 (nI (r.1 + 1))) (nI l) with
      | true => exact Or.inl ⟨nI_pos (by omega), rfl, rfl, by rw [i2], by omega, by omega, t2 hkg⟩
      | false => exact Or.inr ⟨Or.inr rfl, rfl⟩
    · have hnone := h6 n0 (fun e => hnn e.symm) (by omega)
      right
      rw [h4]
      exact ⟨Or.inr (hne n (by omega) hnn w _), hnoK (hri.2 hnone)⟩
  · right
    rw [h1]
    exact ⟨Or.inl (by decide), hnoK (hri.2 (h2 n0 (by omega)))⟩
theorem sb_ne {x c : Nat} (hx : x < 256) (hc : c < 128) (h : x ≠ c) : ¬ sb x = nI c := fun e => h ((sb_eq hx hc).mp e)
theorem nI_ne {x c : Nat} (hx : x < 2 ^ 31) (hc : c < 2 ^ 31) (h : x ≠ c) : ¬ nI x = nI c := fun e => h ((nI_eq hx hc).mp e)
def Both (len q : Nat) (u w v : OV) : Prop :=
  (¬ (f_X4_scan u (nI q)).2 < 0 ∧ k_X2_take w (f_X4_byteAt (f_X4_scan u (nI q)).1 (nI q)) ((f_X4_scan u (nI q)).1.2 2) ((f_X4_scan u (nI q)).1.1 1) = true ∧ g_itemK v q len = true ∧ (f_X4_scan u (nI q)).2 = nI (g_itemP v q len) ∧ q < g_itemP v q len ∧ g_itemP v q len ≤ len ∧ ∃ e', DOk e' ∧ CD e' (f_X2_take w (f_X4_byteAt (f_X4_scan u (nI q)).1 (nI q)) ((f_X4_scan u (nI q)).1.2 2) ((f_X4_scan u (nI q)).1.1 1)) ∧ RD e' (g_itemV v q len)) ∨
    (((f_X4_scan u (nI q)).2 < 0 ∨ k_X2_take w (f_X4_byteAt (f_X4_scan u (nI q)).1 (nI q)) ((f_X4_scan u (nI q)).1.2 2) ((f_X4_scan u (nI q)).1.1 1) = false) ∧ g_itemK v q len = false)
theorem scan_ct (hl : len ≤ 300) (hb : ∀ k, k < len → bt k < 256) {q : Nat} (hq : q < len) (hu : CT bt len u) : CTn (f_X4_scan u (nI q)).1 u := by
  have hsc := scan_n hl hb 3 u (q + 1) 0 (fun _ => 0) rfl (by omega) hu (fun j hj => absurd hj (by omega))
  have escan : f_X4_scan u (nI q) = scanGo 3 u (nI (q + 1)) 0 := by rw [f_X4_scan, nI_1]
  rw [escan]
  exact hsc.1
theorem item_x (hl : len ≤ 300) (hb : ∀ k, k < len → bt k < 256) {q : Nat} (hq : q < len) (h1 : bt q ≠ 100) (h2 : bt q ≠ 103) (h3 : bt q ≠ 108) (h4 : bt q ≠ 111) (h5 : bt q ≠ 112) (h6 : bt q ≠ 114) (h7 : bt q ≠ 117) (h8 : bt q ≠ 119) (hu : CT bt len u) (hT : ∀ k, k < len → v.1 1 k = sb (bt k)) : Both len q u w v := by
  have hbq := hb q hq
  have hby : f_X4_byteAt (f_X4_scan u (nI q)).1 (nI q) = nI (bt q) := by rw [byte_n hl ((scan_ct hl hb hq hu).ct hu) (by omega), if_pos hq]
  have hn : g_numbers (v.1 1 q) = 0 := by
    rw [hT q hq, g_numbers, if_neg (show ¬ sb (bt q) = 100 from sb_ne (c := 100) hbq (by decide) h1), if_neg (show ¬ sb (bt q) = 108 from sb_ne (c := 108) hbq (by decide) h3), if_neg (show ¬ sb (bt q) = 103 from sb_ne (c := 103) hbq (by decide) h2), if_neg (show ¬ sb (bt q) = 112 from sb_ne (c := 112) hbq (by decide) h5), if_neg (show ¬ sb (bt q) = 117 from sb_ne (c := 117) hbq (by decide) h7), if_neg (show ¬ sb (bt q) = 114 from sb_ne (c := 114) hbq (by decide) h6), if_neg (show ¬ sb (bt q) = 119 from sb_ne (c := 119) hbq (by decide) h8), if_neg (show ¬ sb (bt q) = 111 from sb_ne (c := 111) hbq (by decide) h4)]
  refine Or.inr ⟨Or.inr ?_, ?_⟩
  · rw [hby, k_X2_take, if_neg (show ¬ nI (bt q) = 100 from nI_ne (c := 100) (by omega) (by decide) h1), if_neg (show ¬ nI (bt q) = 103 from nI_ne (c := 103) (by omega) (by decide) h2), if_neg (show ¬ nI (bt q) = 108 from nI_ne (c := 108) (by omega) (by decide) h3), if_neg (show ¬ nI (bt q) = 111 from nI_ne (c := 111) (by omega) (by decide) h4), if_neg (show ¬ nI (bt q) = 112 from nI_ne (c := 112) (by omega) (by decide) h5), if_neg (show ¬ nI (bt q) = 114 from nI_ne (c := 114) (by omega) (by decide) h6), if_neg (show ¬ nI (bt q) = 117 from nI_ne (c := 117) (by omega) (by decide) h7), if_neg (show ¬ nI (bt q) = 119 from nI_ne (c := 119) (by omega) (by decide) h8)]
  · have e : g_itemR v q len = (q + 1, false, v.1 18) := by rw [g_itemR, hn]; rfl
    rw [g_itemK, e]
    rfl
theorem item_both (hl : len ≤ 300) (hb : ∀ k, k < len → bt k < 256) {q : Nat} (hq : q < len) (hu : CT bt len u) (hT : ∀ k, k < len → v.1 1 k = sb (bt k)) (hE : DOk e) (hC : CD e w) (hR : RD e v) : Both len q u w v := by
  by_cases h1 : bt q = 100
  · exact item_l hl hb (l := 100) (n0 := 2) (by decide) (by decide) rfl ltr_d (fun m hm hmn w f => by rw [k_X2_take, if_pos (by decide), if_neg (show ¬ nI (m + 1) = 3 from nI_ne (x := m + 1) (c := 3) (by omega) (by decide) (by omega))]) hq h1 hu hT hE hC hR
  by_cases h2 : bt q = 103
  · exact item_l hl hb (l := 103) (n0 := 2) (by decide) (by decide) rfl ltr_g (fun m hm hmn w f => by rw [k_X2_take, if_neg (by decide), if_pos (by decide), if_neg (show ¬ nI (m + 1) = 3 from nI_ne (x := m + 1) (c := 3) (by omega) (by decide) (by omega))]) hq h2 hu hT hE hC hR
  by_cases h3 : bt q = 108
  · exact item_l hl hb (l := 108) (n0 := 2) (by decide) (by decide) rfl ltr_l (fun m hm hmn w f => by rw [k_X2_take, if_neg (by decide), if_neg (by decide), if_pos (by decide), if_neg (show ¬ nI (m + 1) = 3 from nI_ne (x := m + 1) (c := 3) (by omega) (by decide) (by omega))]) hq h3 hu hT hE hC hR
  by_cases h4 : bt q = 111
  · exact item_l hl hb (l := 111) (n0 := 0) (by decide) (by decide) rfl ltr_o (fun m hm hmn w f => by rw [k_X2_take, if_neg (by decide), if_neg (by decide), if_neg (by decide), if_pos (by decide), if_neg (show ¬ nI (m + 1) = 1 from nI_ne (x := m + 1) (c := 1) (by omega) (by decide) (by omega))]) hq h4 hu hT hE hC hR
  by_cases h5 : bt q = 112
  · exact item_l hl hb (l := 112) (n0 := 1) (by decide) (by decide) rfl ltr_p (fun m hm hmn w f => by rw [k_X2_take, if_neg (by decide), if_neg (by decide), if_neg (by decide), if_neg (by decide), if_pos (by decide), if_neg (show ¬ nI (m + 1) = 2 from nI_ne (x := m + 1) (c := 2) (by omega) (by decide) (by omega))]) hq h5 hu hT hE hC hR
  by_cases h6 : bt q = 114
  · exact item_l hl hb (l := 114) (n0 := 0) (by decide) (by decide) rfl ltr_r (fun m hm hmn w f => by rw [k_X2_take, if_neg (by decide), if_neg (by decide), if_neg (by decide), if_neg (by decide), if_neg (by decide), if_pos (by decide), if_neg (show ¬ nI (m + 1) = 1 from nI_ne (x := m + 1) (c := 1) (by omega) (by decide) (by omega))]) hq h6 hu hT hE hC hR
  by_cases h7 : bt q = 117
  · exact item_l hl hb (l := 117) (n0 := 1) (by decide) (by decide) rfl ltr_u (fun m hm hmn w f => by rw [k_X2_take, if_neg (by decide), if_neg (by decide), if_neg (by decide), if_neg (by decide), if_neg (by decide), if_neg (by decide), if_pos (by decide), if_neg (show ¬ nI (m + 1) = 2 from nI_ne (x := m + 1) (c := 2) (by omega) (by decide) (by omega))]) hq h7 hu hT hE hC hR
  by_cases h8 : bt q = 119
  · exact item_l hl hb (l := 119) (n0 := 0) (by decide) (by decide) rfl ltr_w (fun m hm hmn w f => by rw [k_X2_take, if_neg (by decide), if_neg (by decide), if_neg (by decide), if_neg (by decide), if_neg (by decide), if_neg (by decide), if_neg (by decide), if_pos (by decide), if_neg (show ¬ nI (m + 1) = 1 from nI_ne (x := m + 1) (c := 1) (by omega) (by decide) (by omega))]) hq h8 hu hT hE hC hR
  exact item_x hl hb hq h1 h2 h3 h4 h5 h6 h7 h8 hu hT
theorem kp18 (v : OV) (x y : Int32) (F : Nat → Int32) : Kp v (setI (setA (setI v 2 x) 18 F) 2 y) := ⟨fun _ _ => rfl, rfl, rfl, fun _ _ => rfl, fun _ _ => rfl, fun _ _ => rfl, fun _ _ => rfl, rfl, rfl, rfl, rfl, rfl⟩
theorem item_kp (v : OV) (q len : Nat) : Kp v (g_itemV v q len) := by
  unfold g_itemV g_itemV3
  split
  · split
    · exact kp18 ..
    · split
      · exact Kp.tr (kp18 v _ _ _) (good_kp _ _)
      · exact kp18 ..
  · exact kp18 ..
theorem read_e {n len q : Nat} (hq : len ≤ q) (hq2 : q < 2 ^ 31) (hu : CT bt len u) : readGo n u w (nI q) = (-4, u, w) := by
  cases n with
  | zero => rfl
  | succ n => rw [readGo, hu.1, if_pos (nI_le hq hq2)]
theorem fault_e {n len q : Nat} (hq : len ≤ q) (hq2 : q < 2 ^ 31) : faultGo len n v q = (-4, v) := by
  cases n with
  | zero => rfl
  | succ n => rw [faultGo, if_pos (nI_le hq hq2)]
theorem read_no {n : Nat} {q : Int32} (h0 : ¬ u.2 3 ≤ q) (h : (f_X4_scan u q).2 < 0 ∨ k_X2_take w (f_X4_byteAt (f_X4_scan u q).1 q) ((f_X4_scan u q).1.2 2) ((f_X4_scan u q).1.1 1) = false) : ∃ y, readGo (n + 1) u w q = (q, (f_X4_scan u q).1, y) := by
  rw [readGo, if_neg h0]
  by_cases g : (f_X4_scan u q).2 < 0
  · rw [if_pos g]; exact ⟨_, rfl⟩
  · have h2 : ¬ k_X2_take w (f_X4_byteAt (f_X4_scan u q).1 q) ((f_X4_scan u q).1.2 2) ((f_X4_scan u q).1.1 1) = true := by
      intro e
      rcases h with h | h
      · exact g h
      · rw [e] at h; cases h
    rw [if_neg g, if_neg h2]
    exact ⟨_, rfl⟩
theorem read_y {n : Nat} {q : Int32} (h0 : ¬ u.2 3 ≤ q) (h1 : ¬ (f_X4_scan u q).2 < 0) (h2 : k_X2_take w (f_X4_byteAt (f_X4_scan u q).1 q) ((f_X4_scan u q).1.2 2) ((f_X4_scan u q).1.1 1) = true) : readGo (n + 1) u w q = readGo n (f_X4_scan u q).1 (f_X2_take w (f_X4_byteAt (f_X4_scan u q).1 q) ((f_X4_scan u q).1.2 2) ((f_X4_scan u q).1.1 1)) (f_X4_scan u q).2 := by
  rw [readGo, if_neg h0, if_neg h1, if_pos h2]
theorem fault_no {m len q : Nat} (h0 : ¬ nI len ≤ nI q) (h : g_itemK v q len = false) : faultGo len (m + 1) v q = (nI q, g_itemV v q len) := by
  rw [faultGo, if_neg h0, if_neg (fun e => by rw [e] at h; cases h)]
theorem fault_y {m len q : Nat} (h0 : ¬ nI len ≤ nI q) (h : g_itemK v q len = true) : faultGo len (m + 1) v q = faultGo len m (g_itemV v q len) (g_itemP v q len) := by
  rw [faultGo, if_neg h0, if_pos h]
def ReadQ (len : Nat) (u v : OV) (R : Int32 × OV × OV) (F : Int32 × OV) : Prop := CTn R.2.1 u ∧ Kp v F.2 ∧ ((R.1 = -4 ∧ F.1 = -4 ∧ ∃ e', DOk e' ∧ CD e' R.2.2 ∧ RD e' F.2) ∨ ∃ p, p < len ∧ R.1 = nI p ∧ F.1 = nI p)
theorem read_both (hl : len ≤ 300) (hb : ∀ k, k < len → bt k < 256) : ∀ (k n m q : Nat) (u w v : OV) (e : PN), len - q ≤ k → k ≤ n → k ≤ m → q ≤ len → CT bt len u → (∀ k, k < len → v.1 1 k = sb (bt k)) → DOk e → CD e w → RD e v → ReadQ len u v (readGo n u w (nI q)) (faultGo len m v q)
  | 0, n, m, q, u, w, v, e, hk, hn, hm, hq, hu, hT, hE, hC, hR => by
    rw [read_e (by omega) (by omega) hu, fault_e (by omega) (by omega)]
    exact ⟨⟨rfl, rfl⟩, Kp.rf v, Or.inl ⟨rfl, rfl, e, hE, hC, hR⟩⟩
  | k + 1, n, m, q, u, w, v, e, hk, hn, hm, hq, hu, hT, hE, hC, hR => by
    by_cases g : q < len
    · obtain ⟨n, rfl⟩ : ∃ n', n = n' + 1 := ⟨n - 1, by omega⟩
      obtain ⟨m, rfl⟩ : ∃ m', m = m' + 1 := ⟨m - 1, by omega⟩
      have hct := scan_ct hl hb g hu
      have hkp := item_kp v q len
      have g1 : ¬ nI len ≤ nI q := nI_ge g (by omega)
      have g2 : ¬ u.2 3 ≤ nI q := by rw [hu.1]; exact g1
      rcases item_both hl hb g hu hT hE hC hR with ⟨i1, i2, i3, i4, i5, i6, e', hE', hC', hR'⟩ | ⟨i1, i2⟩
      · rw [read_y g2 i1 i2, fault_y g1 i3, i4]
        have hT' : ∀ k, k < len → (g_itemV v q len).1 1 k = sb (bt k) := fun k hk => by rw [hkp.2.2.2.2.2.2.2.1]; exact hT k hk
        obtain ⟨r1, r2, r3⟩ := read_both hl hb k n m (g_itemP v q len) _ _ _ e' (by omega) (by omega) (by omega) i6 (hct.ct hu) hT' hE' hC' hR'
        exact ⟨⟨r1.1.trans hct.1, r1.2.trans hct.2⟩, Kp.tr hkp r2, r3⟩
      · obtain ⟨y, ey⟩ := read_no (n := n) g2 i1
        rw [ey, fault_no g1 i2]
        exact ⟨hct, hkp, Or.inr ⟨q, g, rfl, rfl⟩⟩
    · rw [read_e (by omega) (by omega) hu, fault_e (by omega) (by omega)]
      exact ⟨⟨rfl, rfl⟩, Kp.rf v, Or.inl ⟨rfl, rfl, e, hE, hC, hR⟩⟩
end IB
/-! where a text begins; where it ends -/
theorem first0_n (F : Nat → Int32) : ∀ n j, itN s_first0 F n j = if 32 ≤ j ∧ j < 32 + n then 0 else F j
  | 0, j => by rw [if_neg (by omega)]; rfl
  | n + 1, j => by
    rw [itN_s, s_first0]
    by_cases h : j = 32 + n
    · subst h; rw [pk_us, if_pos (by omega)]
    · rw [pk_un h, first0_n F n j]
      by_cases h2 : 32 ≤ j ∧ j < 32 + n
      · rw [if_pos h2, if_pos (by omega)]
      · rw [if_neg h2, if_neg (by omega)]
theorem dr0_n (F : Nat → Int32) : ∀ n, n ≤ 32 → ∀ j, itN s_dr0 F n j = if 8 ≤ j ∧ j < 8 + n ∧ j < 16 then 0 else F j
  | 0, _, j => by rw [if_neg (by omega)]; rfl
  | n + 1, hn, j => by
    rw [itN_s, s_dr0]
    have ih := dr0_n F n (by omega) j
    by_cases h8 : 8 ≤ n
    · rw [if_pos (show 8 ≤ nI n from nI_le (a := 8) h8 (by omega)), ih]
      by_cases h2 : 8 ≤ j ∧ j < 8 + n ∧ j < 16
      · rw [if_pos h2, if_pos (by omega)]
      · rw [if_neg h2, if_neg (by omega)]
    · rw [if_neg (show ¬ 8 ≤ nI n from nI_ge (b := 8) (by omega) (by omega))]
      by_cases h : j = 8 + n
      · subst h; rw [pk_us, if_pos (by omega)]
      · rw [pk_un h, ih]
        by_cases h2 : 8 ≤ j ∧ j < 8 + n ∧ j < 16
        · rw [if_pos h2, if_pos (by omega)]
        · rw [if_neg h2, if_neg (by omega)]
def s_tc (c k : Nat) (F : Nat → Int32) : Nat → Int32 := if nI c ≤ nI k then F else upd F k (F (c + k))
theorem tc_n (F : Nat → Int32) {c : Nat} (hc : c ≤ 32) : ∀ n, n ≤ 32 → ∀ j, itN (s_tc c) F n j = if j < n ∧ j < c then F (c + j) else F j
  | 0, _, j => by rw [if_neg (by omega)]; rfl
  | n + 1, hn, j => by
    rw [itN_s, s_tc]
    have ih := tc_n F hc n (by omega)
    by_cases h8 : c ≤ n
    · rw [if_pos (nI_le h8 (by omega)), ih]
      by_cases h2 : j < n ∧ j < c
      · rw [if_pos h2, if_pos (by omega)]
      · rw [if_neg h2, if_neg (by omega)]
    · rw [if_neg (nI_ge (by omega) (by omega))]
      by_cases h : j = n
      · subst h; rw [pk_us, if_pos (by omega), ih, if_neg (by omega)]
      · rw [pk_un h, ih]
        by_cases h2 : j < n ∧ j < c
        · rw [if_pos h2, if_pos (by omega)]
        · rw [if_neg h2, if_neg (by omega)]
theorem t9_n (F : Nat → Int32) : ∀ n, n ≤ 32 → ∀ j, itN s_t9 F n j = if j < n then F (32 + j) else F j
  | 0, _, j => by rw [if_neg (by omega)]; rfl
  | n + 1, hn, j => by
    rw [itN_s, s_t9]
    have ih := t9_n F n (by omega)
    by_cases h : j = n
    · subst h; rw [pk_us, if_pos (by omega), ih, if_neg (by omega)]
    · rw [pk_un h, ih]
      by_cases h2 : j < n
      · rw [if_pos h2, if_pos (by omega)]
      · rw [if_neg h2, if_neg (by omega)]
theorem slF_n (F S : Nat → Int32) : ∀ n, n ≤ 46 → ∀ j, itN (s_sl F) S n j = if j < n then (if j < 32 then F j else 0) else S j
  | 0, _, j => by rw [if_neg (by omega)]; rfl
  | n + 1, hn, j => by
    rw [itN_s, s_sl]
    have ih := slF_n F S n (by omega)
    by_cases h8 : 32 ≤ n
    · rw [if_pos (show 32 ≤ nI n from nI_le (a := 32) h8 (by omega))]
      by_cases h : j = n
      · subst h; rw [pk_us, if_pos (by omega), if_neg (by omega)]
      · rw [pk_un h, ih]
        by_cases h2 : j < n
        · rw [if_pos h2, if_pos (show j < n + 1 by omega)]
        · rw [if_neg h2, if_neg (show ¬ j < n + 1 by omega)]
    · rw [if_neg (show ¬ 32 ≤ nI n from nI_ge (b := 32) (by omega) (by omega))]
      by_cases h : j = n
      · subst h; rw [pk_us, if_pos (by omega), if_pos (by omega)]
      · rw [pk_un h, ih]
        by_cases h2 : j < n
        · rw [if_pos h2, if_pos (show j < n + 1 by omega)]
        · rw [if_neg h2, if_neg (show ¬ j < n + 1 by omega)]
theorem wh_n (E S : Nat → Int32) : ∀ n j, itN (s_wh E) S n j = if 40 ≤ j ∧ j < 40 + n then E (3 * (j - 40)) else S j
  | 0, j => by rw [if_neg (by omega)]; rfl
  | n + 1, j => by
    rw [itN_s, s_wh]
    by_cases h : j = 40 + n
    · subst h; rw [pk_us, if_pos (by omega), show 40 + n - 40 = n by omega]
    · rw [pk_un h, wh_n E S n j]
      by_cases h2 : 40 ≤ j ∧ j < 40 + n
      · rw [if_pos h2, if_pos (by omega)]
      · rw [if_neg h2, if_neg (by omega)]
def e0 : PN := (fun _ _ => 0, fun t => if t = 8 then 3 else if t = 11 then 3 else if t = 12 then 1 else if t = 13 then 1 else if t = 14 then 2 else 0)
theorem e0_ok : DOk e0 := ⟨⟨by decide, by decide⟩, by decide, by decide, by decide, by decide, by decide, ⟨by decide, by decide⟩, fun d hd => absurd hd (Nat.not_lt_zero d), fun _ _ => Nat.zero_le _, fun i hi => absurd hi (Nat.not_lt_zero i), fun _ _ => Nat.zero_le _⟩
theorem rFill_in {f : Nat → Int32} {x : Int32} {n j : Nat} (h : j < n) : rFill f x n j = x := if_pos h
theorem ii0 : (0 : Int32) = nI 0 := rfl
theorem ii1 : (1 : Int32) = nI 1 := rfl
theorem ii2 : (2 : Int32) = nI 2 := rfl
theorem ii3 : (3 : Int32) = nI 3 := rfl
theorem e0_c (w : OV) : CD e0 (f_X2_clear w) := ⟨fun d hd => absurd hd (Nat.not_lt_zero d), fun d hd => rFill_in hd, fun i hi => absurd hi (Nat.not_lt_zero i), fun j hj => rFill_in hj, ii3, ii0, ii0, ii3, ii1, ii1, ii2⟩
theorem gb3 (v : OV) : (g_begins v).1 3 = g_told0 (v.1 3) := by rw [g_begins, setA_n (by decide), setA_n (by decide), setA_n (by decide), setA_n (by decide), setA_s]
theorem gb4 (v : OV) : (g_begins v).1 4 = upd (v.1 4) 1 0 := by rw [g_begins, setA_n (by decide), setA_n (by decide), setA_n (by decide), setA_s]
theorem gb7 (v : OV) : (g_begins v).1 7 = upd (v.1 7) 1 0 := by rw [g_begins, setA_n (by decide), setA_n (by decide), setA_s]
theorem gb9 (v : OV) : (g_begins v).1 9 = itN s_first0 (v.1 9) 32 := by rw [g_begins, setA_n (by decide), setA_s]
theorem gb6 (v : OV) : (g_begins v).1 6 = itN s_dr0 (v.1 6) 32 := by rw [g_begins, setA_s]
theorem gbx (v : OV) {t : Nat} (h3 : t ≠ 3) (h4 : t ≠ 4) (h7 : t ≠ 7) (h9 : t ≠ 9) (h6 : t ≠ 6) : (g_begins v).1 t = v.1 t := by rw [g_begins, setA_n h6, setA_n h9, setA_n h7, setA_n h4, setA_n h3]
theorem gbi (v : OV) : (g_begins v).2 = v.2 := rfl
theorem e0_r (v : OV) : RD e0 (g_begins v) := by
  unfold RD
  rw [gb3, gb4, gb6, gb7, gb9]
  refine ⟨fun d hd => absurd hd (Nat.not_lt_zero d), fun d hd => ?_, fun i hi => absurd hi (Nat.not_lt_zero i), fun d i hd hi => ?_, ?_, ?_, ?_, ?_, ?_, ?_, ?_⟩
  · rw [dr0_n _ 32 (by decide), if_pos (by omega)]; exact ii0
  · rw [first0_n, if_pos (by omega)]; exact ii0
  · rw [g_told0, pk_un (by decide), pk_un (by decide), pk_un (by decide), pk_un (by decide), pk_us]; exact ii3
  · rw [pk_us]; exact ii0
  · rw [pk_us]; exact ii0
  · rw [g_told0, pk_un (by decide), pk_un (by decide), pk_un (by decide), pk_us]; exact ii3
  · rw [g_told0, pk_un (by decide), pk_un (by decide), pk_us]; exact ii1
  · rw [g_told0, pk_un (by decide), pk_us]; exact ii1
  · rw [g_told0, pk_us]; exact ii2
theorem begins_kp (v : OV) : Kp v (g_begins (setI v 2 0)) := by
  unfold Kp
  rw [gb3, gb4, gb6, gb7, gb9, gbi, gbx _ (t := 5) (by decide) (by decide) (by decide) (by decide) (by decide), gbx _ (t := 8) (by decide) (by decide) (by decide) (by decide) (by decide), gbx _ (t := 1) (by decide) (by decide) (by decide) (by decide) (by decide), gbx _ (t := 10) (by decide) (by decide) (by decide) (by decide) (by decide)]
  refine ⟨fun j hj => ?_, pk_un (by decide), pk_un (by decide), fun _ _ => rfl, fun j hj => ?_, fun _ _ => rfl, fun j hj => ?_, rfl, rfl, rfl, rfl, rfl⟩
  · rw [g_told0, pk_un (by omega), pk_un (by omega), pk_un (by omega), pk_un (by omega), pk_un (by omega)]; rfl
  · rw [dr0_n _ 32 (by decide), if_neg (by omega)]; rfl
  · rw [first0_n, if_neg (by omega)]; rfl
theorem text_both {bt : Nat → Nat} {len : Nat} {u v : OV} (w : OV) (hl : len ≤ 300) (hb : ∀ k, k < len → bt k < 256) (hu : CT bt len u) (hT : ∀ k, k < len → v.1 1 k = sb (bt k)) : ReadQ len u v (f_X4_read u w) (g_fault v len) := by
  have hk := begins_kp v
  have h := read_both hl hb len 300 len 0 u (f_X2_clear w) (g_begins (setI v 2 0)) e0 (by omega) hl (Nat.le_refl _) (Nat.zero_le _) hu (fun k hk' => by rw [hk.2.2.2.2.2.2.2.1]; exact hT k hk') e0_ok (e0_c w) (e0_r _)
  exact ⟨h.1, Kp.tr hk h.2.1, h.2.2⟩
/-! whether it can stand, and what then stands -/
def WOk (e : PN) : Prop := (∀ d, d < e.2 9 → e.1 2 d < e.2 9) ∧ (∀ i, i < e.2 10 → e.1 4 i < e.2 8 ∧ e.1 6 i < e.2 8) ∧ 1 ≤ e.2 9 ∧ 1 ≤ e.2 10
section IS
variable {e : PN} {w v vn : OV}
theorem stand_n (hE : DOk e) (hC : CD e w) : f_X2_canStand w = true ↔ WOk e := by
  have h8 := hE.1
  have h9 := hE.2.1
  have h10 := hE.2.2.1
  have c8 := hC.2.2.2.2.1
  have c9 := hC.2.2.2.2.2.1
  have c10 := hC.2.2.2.2.2.2.1
  have hd : ∀ d, d < e.2 9 → (p_stD w d = false ↔ e.1 2 d < e.2 9) := by
    intro d hd
    have hx := (hE.2.2.2.2.2.2.2.1 d hd).2.2.2
    have i1 : nI (e.1 2 d) < nI (e.2 9) ↔ e.1 2 d < e.2 9 := nI_ltI (by omega) (by omega)
    rw [p_stD, rAt_n (by omega) (by decide), (hC.1 d hd).2.2, c9]
    by_cases g : e.1 2 d < e.2 9
    · rw [if_pos (i1.mpr g)]; exact ⟨fun _ => g, fun _ => rfl⟩
    · rw [if_neg (fun x => g (i1.mp x))]; exact ⟨fun x => Bool.noConfusion x, fun x => absurd x g⟩
  have hi : ∀ i, i < e.2 10 → (p_stL w i = false ↔ e.1 4 i < e.2 8 ∧ e.1 6 i < e.2 8) := by
    intro i hi
    have hx := hE.2.2.2.2.2.2.2.2.2.1 i hi
    have i1 : nI (e.2 8) ≤ nI (e.1 4 i) ↔ e.2 8 ≤ e.1 4 i := nI_leI (by omega) (by omega)
    have i2 : nI (e.1 6 i) < nI (e.2 8) ↔ e.1 6 i < e.2 8 := nI_ltI (by omega) (by omega)
    rw [p_stL, rAt_n (by omega) (by decide), rAt_n (by omega) (by decide), (hC.2.2.1 i hi).1, (hC.2.2.1 i hi).2.2, c8]
    by_cases g1 : e.2 8 ≤ e.1 4 i
    · rw [if_pos (i1.mpr g1)]; exact ⟨fun x => Bool.noConfusion x, fun x => by omega⟩
    · rw [if_neg (fun x => g1 (i1.mp x))]
      by_cases g2 : e.1 6 i < e.2 8
      · rw [if_pos (i2.mpr g2)]; exact ⟨fun _ => ⟨by omega, g2⟩, fun _ => rfl⟩
      · rw [if_neg (fun x => g2 (i2.mp x))]; exact ⟨fun x => Bool.noConfusion x, fun x => absurd x.2 g2⟩
  rw [f_X2_canStand, c9, c10, nI_clamp (by omega), nI_clamp (by omega)]
  cases e1 : fnd (p_stD w) (e.2 9) with
  | some k =>
    obtain ⟨f1, f2, f3⟩ := fnd_ex e1
    rw [Option.isSome_some, if_pos rfl]
    exact ⟨fun x => Bool.noConfusion x, fun x => by have := (hd k f1).mpr (x.1 k f1); rw [this] at f2; cases f2⟩
  | none =>
    have f1 := fnd_no e1
    rw [if_neg (by decide)]
    cases e2 : fnd (p_stL w) (e.2 10) with
    | some k =>
      obtain ⟨f4, f2, f3⟩ := fnd_ex e2
      rw [Option.isSome_some, if_pos rfl]
      exact ⟨fun x => Bool.noConfusion x, fun x => by have := (hi k f4).mpr (x.2.1 k f4); rw [this] at f2; cases f2⟩
    | none =>
      have f2 := fnd_no e2
      rw [if_neg (by decide)]
      have i1 : nI (e.2 9) ≤ 0 ↔ e.2 9 ≤ 0 := (nI_leI (by omega) (by decide) : nI _ ≤ nI 0 ↔ _ ≤ 0)
      have i2 : nI (e.2 10) ≤ 0 ↔ e.2 10 ≤ 0 := (nI_leI (by omega) (by decide) : nI _ ≤ nI 0 ↔ _ ≤ 0)
      by_cases g1 : e.2 9 ≤ 0
      · rw [if_pos (i1.mpr g1)]; exact ⟨fun x => Bool.noConfusion x, fun x => by have := x.2.2.1; omega⟩
      · rw [if_neg (fun x => g1 (i1.mp x))]
        by_cases g2 : e.2 10 ≤ 0
        · rw [if_pos (i2.mpr g2)]; exact ⟨fun x => Bool.noConfusion x, fun x => by have := x.2.2.2; omega⟩
        · rw [if_neg (fun x => g2 (i2.mp x))]
          exact ⟨fun _ => ⟨fun d h => (hd d h).mp (f1 d h), fun i h => (hi i h).mp (f2 i h), by omega, by omega⟩, fun _ => rfl⟩
theorem whole_n (hE : DOk e) (hR : RD e v) : g_isWhole v = true ↔ WOk e := by
  have h8 := hE.1
  have h9 := hE.2.1
  have h10 := hE.2.2.1
  have c8 := hR.2.2.2.2.1
  have c9 := hR.2.2.2.2.2.1
  have c10 := hR.2.2.2.2.2.2.1
  have hd : ∀ b k, k ≤ e.2 9 → (itN (s_whD v) b k = true ↔ b = true ∧ ∀ d, d < k → e.1 2 d < e.2 9) := by
    intro b k
    induction k with
    | zero => intro _; exact ⟨fun x => ⟨x, fun d hd => absurd hd (Nat.not_lt_zero d)⟩, fun x => x.1⟩
    | succ k ih =>
      intro hk
      have ih := ih (by omega)
      have hx := hE.2.2.2.2.2.2.2.1 k (by omega)
      have hr := hR.1 k (by omega)
      rw [itN_s, s_whD, show 25 + 3 * k = 24 + 3 * k + 1 by omega, show 26 + 3 * k = 24 + 3 * k + 2 by omega, hr.1, hr.2.1, hr.2.2, c8, c9, if_neg (nI_ge hx.1 (by omega)), if_neg (nI_ge hx.2.1 (by omega))]
      have i1 : nI (e.2 9) ≤ nI (e.1 2 k) ↔ e.2 9 ≤ e.1 2 k := nI_leI (by omega) (by omega)
      by_cases g : itN (s_whD v) b k = true
      · rw [if_pos g]
        have g' := ih.mp g
        by_cases g2 : e.2 9 ≤ e.1 2 k
        · rw [if_pos (i1.mpr g2)]
          exact ⟨fun x => Bool.noConfusion x, fun x => by have := x.2 k (by omega); omega⟩
        · rw [if_neg (fun x => g2 (i1.mp x))]
          exact ⟨fun _ => ⟨g'.1, fun d hd => by
            by_cases hdk : d = k
            · rw [hdk]; omega
            · exact g'.2 d (by omega)⟩, fun _ => rfl⟩
      · rw [if_neg g]
        exact ⟨fun x => Bool.noConfusion x, fun x => absurd (ih.mpr ⟨x.1, fun d hd => x.2 d (by omega)⟩) g⟩
  have hi : ∀ b k, k ≤ e.2 10 → (itN (s_whL v) b k = true ↔ b = true ∧ ∀ i, i < k → e.1 4 i < e.2 8 ∧ e.1 6 i < e.2 8) := by
    intro b k
    induction k with
    | zero => intro _; exact ⟨fun x => ⟨x, fun d hd => absurd hd (Nat.not_lt_zero d)⟩, fun x => x.1⟩
    | succ k ih =>
      intro hk
      have ih := ih (by omega)
      have hx := hE.2.2.2.2.2.2.2.2.2.1 k (by omega)
      have hr := hR.2.2.1 k (by omega)
      have i1 : nI (e.2 8) ≤ nI (e.1 4 k) ↔ e.2 8 ≤ e.1 4 k := nI_leI (by omega) (by omega)
      have i2 : nI (e.2 8) ≤ nI (e.1 6 k) ↔ e.2 8 ≤ e.1 6 k := nI_leI (by omega) (by omega)
      rw [itN_s, s_whL, show 14 + 3 * k = 12 + 3 * k + 2 by omega, hr.1, hr.2.2, c8]
      by_cases g : itN (s_whL v) b k = true
      · rw [if_pos g]
        have g' := ih.mp g
        by_cases g2 : e.2 8 ≤ e.1 4 k
        · rw [if_pos (i1.mpr g2)]
          exact ⟨fun x => Bool.noConfusion x, fun x => by have := (x.2 k (by omega)).1; omega⟩
        · rw [if_neg (fun x => g2 (i1.mp x))]
          by_cases g3 : e.2 8 ≤ e.1 6 k
          · rw [if_pos (i2.mpr g3)]
            exact ⟨fun x => Bool.noConfusion x, fun x => by have := (x.2 k (by omega)).2; omega⟩
          · rw [if_neg (fun x => g3 (i2.mp x))]
            exact ⟨fun _ => ⟨g'.1, fun d hd => by
              by_cases hdk : d = k
              · rw [hdk]; omega
              · exact g'.2 d (by omega)⟩, fun _ => rfl⟩
      · rw [if_neg g]
        exact ⟨fun x => Bool.noConfusion x, fun x => absurd (ih.mpr ⟨x.1, fun d hd => x.2 d (by omega)⟩) g⟩
  have i1 : nI (e.2 9) ≤ 0 ↔ e.2 9 ≤ 0 := (nI_leI (by omega) (by decide) : nI _ ≤ nI 0 ↔ _ ≤ 0)
  have i2 : nI (e.2 10) ≤ 0 ↔ e.2 10 ≤ 0 := (nI_leI (by omega) (by decide) : nI _ ≤ nI 0 ↔ _ ≤ 0)
  have h0 : w0 v = true ↔ 1 ≤ e.2 9 ∧ 1 ≤ e.2 10 := by
    rw [w0, c9, c10]
    by_cases g1 : e.2 9 ≤ 0
    · rw [if_pos (i1.mpr g1)]; exact ⟨fun x => Bool.noConfusion x, fun x => by omega⟩
    · rw [if_neg (fun x => g1 (i1.mp x))]
      by_cases g2 : e.2 10 ≤ 0
      · rw [if_pos (i2.mpr g2)]; exact ⟨fun x => Bool.noConfusion x, fun x => by omega⟩
      · rw [if_neg (fun x => g2 (i2.mp x))]; exact ⟨fun _ => by omega, fun _ => rfl⟩
  rw [g_isWhole, c9, c10, nI_clamp (by omega), nI_clamp (by omega), hi _ _ (Nat.le_refl _), hd _ _ (Nat.le_refl _), h0]
  exact ⟨fun x => ⟨x.1.2, x.2, x.1.1.1, x.1.1.2⟩, fun x => ⟨⟨⟨x.2.2.1, x.2.2.2⟩, x.1⟩, x.2.1⟩⟩
def h0M (e : PN) : HN := (fun d i => e.1 7 (i * 8 + d), fun _ => 0, e.1 4, 0, 0)
theorem laid_ok (hE : DOk e) (hW : WOk e) : POk e := ⟨hE.1, ⟨hW.2.2.1, hE.2.1⟩, ⟨hW.2.2.2, hE.2.2.1⟩, hE.2.2.2.1, hE.2.2.2.2.1, hE.2.2.2.2.2.1, hE.2.2.2.2.2.2.1, fun d hd => ⟨(hE.2.2.2.2.2.2.2.1 d hd).1, (hE.2.2.2.2.2.2.2.1 d hd).2.1, (hE.2.2.2.2.2.2.2.1 d hd).2.2.1, hW.1 d hd, hE.2.2.2.2.2.2.2.2.1 d (by have := hE.2.1; omega)⟩, fun i hi => ⟨(hE.2.2.2.2.2.2.2.2.2.1 i hi).2.1, (hW.2.1 i hi).2⟩, fun d i hd hi => hE.2.2.2.2.2.2.2.2.2.2 _ (by have := hE.2.1; have := hE.2.2.1; omega)⟩
theorem laid_cp (hE : DOk e) (hC : CD e w) : CP e w := ⟨fun d hd => ⟨(hC.1 d hd).1, (hC.1 d hd).2.1, (hC.1 d hd).2.2, hC.2.1 d (by have := hE.2.1; omega)⟩, fun i hi => (hC.2.2.1 i hi).2, fun d i hd hi => hC.2.2.2.1 _ (by have := hE.2.1; have := hE.2.2.1; omega), hC.2.2.2.2⟩
theorem laid_hok (hE : DOk e) (hW : WOk e) : HOk e (h0M e) := ⟨fun d i hd hi => hE.2.2.2.2.2.2.2.2.2.2 _ (by have := hE.2.1; have := hE.2.2.1; omega), fun _ _ => Nat.zero_le _, fun i hi => (hW.2.1 i hi).1⟩
theorem laid_ch (hE : DOk e) (hC : CD e w) : CH e (h0M e) (f_X0_beginAs vn w) := by
  have h9 := hE.2.1
  have h10 := hE.2.2.1
  refine ⟨fun d i hd hi => ?_, fun d hd => ?_, fun d hd hd8 => ?_, fun i hi => ?_, ii0, ii0⟩
  · show rCopy (w.1 7) (vn.1 0) 32 (i * 8 + d) = _
    rw [rCopy_in (by omega)]; exact hC.2.2.2.1 _ (by omega)
  · show rFill (vn.1 2) 0 8 d = _
    rw [rFill_in (by omega)]; exact ii0
  · show rFill (vn.1 2) 0 8 d = _
    rw [rFill_in (by omega)]
  · show rCopy (w.1 4) (vn.1 3) 4 i = _
    rw [rCopy_in (by omega)]; exact (hC.2.2.1 i hi).1
theorem setI_f (v : OV) (t : Nat) (x : Int32) : (setI v t x).1 = v.1 := rfl
theorem s5_tc : s_t5 = s_tc 24 := rfl
theorem s8_tc : s_t8 = s_tc 12 := rfl
theorem s6_tc : s_t6 = s_tc 8 := rfl
theorem s3_tc : s_t3 = s_tc 5 := rfl
theorem gt4 (v : OV) : (g_takes v).1 4 = upd (v.1 4) 0 (v.1 4 1) := by
  rw [g_takes, setI_f, setI_f, setA_n (by decide), setA_n (by decide), setA_n (by decide), setA_n (by decide), setA_n (by decide), setA_n (by decide), setA_n (by decide), setA_s]
theorem gt7 (v : OV) : (g_takes v).1 7 = upd (v.1 7) 0 (v.1 7 1) := by
  rw [g_takes, setI_f, setI_f, setA_n (by decide), setA_n (by decide), setA_n (by decide), setA_n (by decide), setA_n (by decide), setA_n (by decide), setA_s]
theorem gt9 (v : OV) : (g_takes v).1 9 = itN s_t9 (v.1 9) 32 := by
  rw [g_takes, setI_f, setI_f, setA_n (by decide), setA_n (by decide), setA_n (by decide), setA_n (by decide), setA_n (by decide), setA_s]
theorem gt5 (v : OV) : (g_takes v).1 5 = itN (s_tc 24) (v.1 5) 32 := by
  rw [g_takes, s5_tc, setI_f, setI_f, setA_n (by decide), setA_n (by decide), setA_n (by decide), setA_n (by decide), setA_s]
theorem gt8 (v : OV) : (g_takes v).1 8 = itN (s_tc 12) (v.1 8) 32 := by
  rw [g_takes, s8_tc, setI_f, setI_f, setA_n (by decide), setA_n (by decide), setA_n (by decide), setA_s]
theorem gt6 (v : OV) : (g_takes v).1 6 = itN (s_tc 8) (v.1 6) 32 := by
  rw [g_takes, s6_tc, setI_f, setI_f, setA_n (by decide), setA_n (by decide), setA_s]
theorem gt3 (v : OV) : (g_takes v).1 3 = itN (s_tc 5) (v.1 3) 32 := by
  rw [g_takes, s3_tc, setI_f, setI_f, setA_n (by decide), setA_s]
theorem gt10 (v : OV) : (g_takes v).1 10 = g_slot0 (itN s_t9 (v.1 9) 32) (itN (s_tc 12) (v.1 8) 32) (upd (v.1 7) 0 (v.1 7 1)) (v.1 10) := by
  rw [g_takes, s8_tc, setI_f, setI_f, setA_s]
theorem gt1 (v : OV) : (g_takes v).1 1 = v.1 1 := by
  rw [g_takes, setI_f, setI_f, setA_n (by decide), setA_n (by decide), setA_n (by decide), setA_n (by decide), setA_n (by decide), setA_n (by decide), setA_n (by decide), setA_n (by decide)]
theorem gti (v : OV) : (g_takes v).2 0 = v.2 0 ∧ (g_takes v).2 11 = 0 ∧ (g_takes v).2 12 = 0 := ⟨rfl, rfl, rfl⟩
theorem takes_rp (hE : DOk e) (hR : RD e v) : RP e (g_takes v) := by
  have h9 := hE.2.1
  have h10 := hE.2.2.1
  obtain ⟨r1, r2, r3, r4, r5⟩ := hR
  unfold RP
  rw [gt3, gt4, gt5, gt6, gt7, gt8, gt9]
  refine ⟨fun d hd => ⟨?_, ?_, ?_, ?_⟩, fun i hi => ⟨?_, ?_⟩, fun d i hd hi => ?_, ?_, ?_, ?_, ?_, ?_, ?_, ?_⟩
  · rw [tc_n _ (by decide) 32 (by decide), if_pos (by omega)]; exact (r1 d hd).1
  · rw [tc_n _ (by decide) 32 (by decide), if_pos (by omega), ← Nat.add_assoc]; exact (r1 d hd).2.1
  · rw [tc_n _ (by decide) 32 (by decide), if_pos (by omega), ← Nat.add_assoc]; exact (r1 d hd).2.2
  · rw [tc_n _ (by decide) 32 (by decide), if_pos (by omega)]; exact r2 d (by omega)
  · rw [tc_n _ (by decide) 32 (by decide), if_pos (by omega), ← Nat.add_assoc]; exact (r3 i hi).2.1
  · rw [tc_n _ (by decide) 32 (by decide), if_pos (by omega), ← Nat.add_assoc]; exact (r3 i hi).2.2
  · rw [t9_n _ 32 (by decide), if_pos (by omega), ← Nat.add_assoc]; exact r4 d i (by omega) (by omega)
  · rw [tc_n _ (by decide) 32 (by decide), if_pos (by decide)]; exact r5.1
  · rw [pk_us]; exact r5.2.1
  · rw [pk_us]; exact r5.2.2.1
  · rw [tc_n _ (by decide) 32 (by decide), if_pos (by decide)]; exact r5.2.2.2.1
  · rw [tc_n _ (by decide) 32 (by decide), if_pos (by decide)]; exact r5.2.2.2.2.1
  · rw [tc_n _ (by decide) 32 (by decide), if_pos (by decide)]; exact r5.2.2.2.2.2.1
  · rw [tc_n _ (by decide) 32 (by decide), if_pos (by decide)]; exact r5.2.2.2.2.2.2
theorem takes_rh (hE : DOk e) (hR : RD e v) : RH e (h0M e) 0 ((g_takes v).1 10) := by
  have h9 := hE.2.1
  have h10 := hE.2.2.1
  obtain ⟨r1, r2, r3, r4, r5⟩ := hR
  have hS : ∀ j, j < 46 → (g_takes v).1 10 j = if 40 ≤ j ∧ j < 40 + e.2 10 then itN (s_tc 12) (v.1 8) 32 (3 * (j - 40)) else if j < 32 then itN s_t9 (v.1 9) 32 j else 0 := by
    intro j hj
    rw [gt10, g_slot0, pk_us, r5.2.2.1, nI_clamp (by omega), wh_n, slF_n _ _ 46 (Nat.le_refl _), if_pos hj]
  generalize (g_takes v).1 10 = S at hS
  refine ⟨fun d i hd hi => ?_, fun d hd => ?_, fun i hi => ?_, ?_, ?_⟩
  · rw [hS _ (by omega), if_neg (by omega), if_pos (by omega), t9_n _ 32 (by decide), if_pos (by omega), show 32 + (46 * 0 + 4 * d + i) = 32 + 4 * d + i by omega]; exact r4 d i (by omega) (by omega)
  · rw [hS _ (by omega), if_neg (by omega), if_neg (by omega)]; exact ii0
  · rw [hS _ (by omega), if_pos (by omega), tc_n _ (by decide) 32 (by decide), if_pos (by omega), show 12 + 3 * (46 * 0 + 40 + i - 40) = 12 + 3 * i by omega]; exact (r3 i hi).1
  · rw [hS _ (by decide), if_neg (by omega), if_neg (by omega)]; exact ii0
  · rw [hS _ (by decide), if_neg (by omega), if_neg (by omega)]; exact ii0
end IS
