/-! a text whole: its fault; what is laid -/
section IB
variable {bt : Nat → Nat} {len : Nat} {e : PN} {w v u : OV}
theorem item_l (hl : len ≤ 300) (hb : ∀ k, k < len → bt k < 256) {l n0 q : Nat} (hn0 : n0 ≤ 2) (hl1 : l < 128) (hnum : g_numbers (nI l) = nI (n0 + 1)) (hL : Ltr l n0) (hne : ∀ m, m ≤ 2 → m ≠ n0 → ∀ w f, k_X2_take w (nI l) (nI (m + 1)) f = false) (hq : q < len) (hbq : bt q = l) (hu : CT bt len u) (hT : ∀ k, k < len → v.1 1 k = sb (bt k)) (hE : DOk e) (hC : CD e w) (hR : RD e v) :
    (¬ (f_X4_scan u (nI q)).2 < 0 ∧ k_X2_take w (f_X4_byteAt (f_X4_scan u (nI q)).1 (nI q)) ((f_X4_scan u (nI q)).1.2 2) ((f_X4_scan u (nI q)).1.1 1) = true ∧ g_itemK v q len = true ∧ (f_X4_scan u (nI q)).2 = nI (g_itemP v q len) ∧ q < g_itemP v q len ∧ g_itemP v q len ≤ len ∧ ∃ e', DOk e' ∧ CD e' (f_X2_take w (f_X4_byteAt (f_X4_scan u (nI q)).1 (nI q)) ((f_X4_scan u (nI q)).1.2 2) ((f_X4_scan u (nI q)).1.1 1)) ∧ RD e' (g_itemV v q len)) ∨
    (((f_X4_scan u (nI q)).2 < 0 ∨ k_X2_take w (f_X4_byteAt (f_X4_scan u (nI q)).1 (nI q)) ((f_X4_scan u (nI q)).1.2 2) ((f_X4_scan u (nI q)).1.1 1) = false) ∧ g_itemK v q len = false) := by
  have hsc := scan_n hl hb 3 u (q + 1) 0 (fun _ => 0) rfl (by omega) hu (fun j hj => absurd hj (by omega))
  have escan : f_X4_scan u (nI q) = scanGo 3 u (nI (q + 1)) 0 := by rw [f_X4_scan, nI_1]
  rw [← escan] at hsc
  obtain ⟨hct, hsc⟩ := hsc
  generalize f_X4_scan u (nI q) = SC at hct hsc
  have hby : f_X4_byteAt SC.1 (nI q) = nI l := by rw [byte_n hl (hct.ct hu) (by omega), if_pos hq, hbq]
  have hTq : v.1 1 q = nI l := by rw [hT q hq, hbq, sb, if_pos hl1]
  have hir : g_itemR v q len = itemGo (v.1 1) len (n0 + 1) 0 (q + 1) true (v.1 18) := by
    rw [g_itemR, hTq, hnum, nI_clamp (by omega), isB, if_neg (nI_nle (by omega) (by omega))]
  have hri := itemR_n hl hb hT (n := n0) (p := q + 1) (by omega) (by omega) (fun _ => 0) (v.1 18)
  rw [← hir] at hri
  have hKdef : g_itemK v q len = g_itemK3 v len (nI l) (g_itemR v q len).1 (g_itemR v q len).2.1 (g_itemR v q len).2.2 := by rw [g_itemK, hTq]
  have hVdef : g_itemV v q len = g_itemV3 v len (nI l) (g_itemR v q len).1 (g_itemR v q len).2.1 (g_itemR v q len).2.2 := by rw [g_itemV, hTq]
  have hPdef : g_itemP v q len = (g_itemR v q len).1 + 1 := rfl
  rw [hKdef, hVdef, hPdef, hby]
  generalize g_itemR v q len = r at hri
  have hnoK : (r.2.1 = false ∨ chr bt len r.1 59 = false) → g_itemK3 v len (nI l) r.1 r.2.1 r.2.2 = false := by
    intro h
    unfold g_itemK3
    rcases h with h | h
    · rw [h, if_neg (by decide)]
    · by_cases g : r.2.1 = true
      · rw [if_pos g]
        by_cases g2 : nI len ≤ nI r.1
        · rw [if_pos g2]
        · rw [if_neg g2]
          have g3 : ¬ v.1 1 r.1 = 59 := by
            intro h9
            by_cases g4 : r.1 < len
            · rw [hT r.1 g4] at h9
              have := (sb_eq (c := 59) (hb _ g4) (by decide)).mp h9
              rw [chr_t.mpr ⟨g4, this⟩] at h
              cases h
            · by_cases g5 : r.1 < 2 ^ 31
              · exact g2 (nI_le (by omega) g5)
              · sorry
          rw [if_neg g3]
      · rw [if_neg g]
  rcases hsc with ⟨n, X', p', h1, h2, h3, h4, h5, h6⟩ | ⟨h1, h2⟩
  · obtain ⟨b1, b2, b3⟩ := itH_b h2 (fun _ => Nat.zero_le _)
    rw [Nat.zero_add] at h4
    by_cases hnn : n = n0
    · subst hnn
      obtain ⟨i1, i2, i3, i4⟩ := hri.1 X' p' h2
      have hc := chr_t.mp i3
      have hRF : RD e (setI (setA (setI v 2 (nI r.1)) 18 r.2.2) 2 (nI (r.1 + 1))) := hR
      obtain ⟨t1, t2⟩ := hL e w (setI (setA (setI v 2 (nI r.1)) 18 r.2.2) 2 (nI (r.1 + 1))) X' (SC.1.1 1) hE hC hRF b3 (fun j hj => h5 j (by omega)) (fun j hj => i4 j (by omega))
      have h59 : v.1 1 r.1 = 59 := by rw [hT r.1 hc.1]; exact (sb_eq (c := 59) (hb _ hc.1) (by decide)).mpr hc.2
      have hK : g_itemK3 v len (nI l) r.1 r.2.1 r.2.2 = k_good (setI (setA (setI v 2 (nI r.1)) 18 r.2.2) 2 (nI (r.1 + 1))) (nI l) := by
        unfold g_itemK3
        rw [if_pos i1, if_neg (nI_ge hc.1 (by omega)), if_pos h59]
        cases k_good (setI (setA (setI v 2 (nI r.1)) 18 r.2.2) 2 (nI (r.1 + 1))) (nI l) <;> rfl
      have hV : g_itemV3 v len (nI l) r.1 r.2.1 r.2.2 = g_goodV (setI (setA (setI v 2 (nI r.1)) 18 r.2.2) 2 (nI (r.1 + 1))) (nI l) := by
        unfold g_itemV3
        rw [if_pos i1, if_neg (nI_ge hc.1 (by omega)), if_pos h59]
      rw [h3, h4, hK, hV, t1]
      cases hkg : k_good (setI (setA (setI v 2 (nI r.1)) 18 r.2.2) 2 (nI (r.1 + 1))) (nI l) with
      | true => exact Or.inl ⟨nI_pos (by omega), rfl, rfl, by rw [i2], by omega, by omega, t2 hkg⟩
      | false => exact Or.inr ⟨Or.inr rfl, rfl⟩
    · have hnone := h6 n0 (fun e => hnn e.symm) (by omega)
      right
      rw [h4]
      exact ⟨Or.inr (hne n (by omega) hnn w _), hnoK (hri.2 hnone)⟩
  · right
    rw [h1]
    exact ⟨Or.inl (by decide), hnoK (hri.2 (h2 n0 (by omega)))⟩
end IB
