/-! the law: how it starts -/
theorem nW_in : ∀ w ∈ nW, w ∈ lw_tbl := in_ix nW [83, 103, 105, 107, 109, 137, 179, 180, 182, 183, 185, 186, 188, 189, 191, 193, 195, 196, 198, 200, 201, 202, 203, 205, 206, 207, 209, 210, 212, 214, 217, 75, 96, 134, 145, 158, 174, 253, 264, 267, 309, 326, 343, 346, 355, 360, 428, 467, 472, 478, 507, 508, 534, 538, 540, 545, 582, 585, 595, 631] (by decide +kernel)
theorem nW_tab : ∀ w ∈ nW, w.onTables = true := by decide +kernel
theorem start_cx {b : Nat} {s : State} (hts : ∀ w ∈ lw_tbl, w.before #[Value.ref b] s = true) : ∃ G : GD, CX G s ∧ va_AO "DoorsThatRemember$House" s := by
  obtain ⟨c0, i0, h0⟩ := u_known (C := RX0) (T := TX0) (N := 6) (n := 6) hts inX0 (hts (.instantiable RX0 6) (List.mem_of_getElem? (i := 95) (by decide +kernel)))
  obtain ⟨c1, i1, h1⟩ := u_known (C := RX1) (T := TX1) (N := 2) (n := 2) hts inX1 (hts (.instantiable RX1 2) (List.mem_of_getElem? (i := 124) (by decide +kernel)))
  obtain ⟨c2, i2, h2⟩ := u_known (C := RX2) (T := TX2) (N := 15) (n := 15) hts inX2 (hts (.instantiable RX2 15) (List.mem_of_getElem? (i := 173) (by decide +kernel)))
  obtain ⟨c3, i3, h3⟩ := u_known (C := RX3) (T := TX3) (N := 3) (n := 3) hts inX3 (hts (.instantiable RX3 3) (List.mem_of_getElem? (i := 157) (by decide +kernel)))
  obtain ⟨c4, i4, h4⟩ := u_known (C := RX4) (T := TX4) (N := 4) (n := 4) hts inX4 (hts (.instantiable RX4 4) (List.mem_of_getElem? (i := 74) (by decide +kernel)))
  obtain ⟨c5, i5, h5⟩ := u_known (C := RX5) (T := TX5) (N := 2) (n := 2) hts inX5 (hts (.instantiable RX5 2) (List.mem_of_getElem? (i := 144) (by decide +kernel)))
  obtain ⟨c6, i6, h6⟩ := u_known (C := RX6) (T := TX6) (N := 9) (n := 9) hts inX6 (hts (.instantiable RX6 9) (List.mem_of_getElem? (i := 66) (by decide +kernel)))
  obtain ⟨c7, i7, h7⟩ := u_known (C := RX7) (T := TX7) (N := 19) (n := 19) hts inX7 (hts (.instantiable RX7 19) (List.mem_of_getElem? (i := 678) (by decide +kernel)))
  obtain ⟨cI, kI, pI, a1, a2, a3⟩ := Cond.arrayClass_spec (hts (.arrayClass .int) (List.mem_of_getElem? (i := 93) (by decide +kernel)))
  obtain ⟨cB, kB, pB, b1, b2, b3⟩ := Cond.arrayClass_spec (hts (.arrayClass .byte) (List.mem_of_getElem? (i := 749) (by decide +kernel)))
  have hO : (Cond.arrayOver (.object "DoorsThatRemember$House")).before #[Value.ref b] s = true := hts _ (List.mem_of_getElem? (i := 133) (by decide +kernel))
  obtain ⟨pH, cH, kH, d1, -, d2, d3, d4⟩ := Cond.arrayOver_spec hO
  refine ⟨((fun k => if k = 0 then c0 else if k = 1 then c1 else if k = 2 then c2 else if k = 3 then c3 else if k = 4 then c4 else if k = 5 then c5 else if k = 6 then c6 else c7, fun k => if k = 0 then i0 else if k = 1 then i1 else if k = 2 then i2 else if k = 3 then i3 else if k = 4 then i4 else if k = 5 then i5 else if k = 6 then i6 else i7), cI, cB, cH), ⟨⟨?_, ?_⟩, ?_⟩, va_AO.of hO⟩
  · intro k x hx
    match k, hx with
    | 0, hx => cases hx; exact h0
    | 1, hx => cases hx; exact h1
    | 2, hx => cases hx; exact h2
    | 3, hx => cases hx; exact h3
    | 4, hx => cases hx; exact h4
    | 5, hx => cases hx; exact h5
    | 6, hx => cases hx; exact h6
    | 7, hx => cases hx; exact h7
    | k + 8, hx => simp [vwCl] at hx
  · intro k x hx
    match k, hx with
    | 0, hx => cases hx; exact ⟨fun n z => ⟨fun k h => (by cases h), kI, a2, pI, a3⟩, a1⟩
    | 1, hx => cases hx; exact ⟨fun n z => ⟨fun k h => (by cases h), kB, b2, pB, b3⟩, b1⟩
    | 2, hx => cases hx; exact ⟨fun n z => ⟨fun k h => (by cases h), kH, d2, pH, d3⟩, kH, pH, d2, d3, d1, d4⟩
    | k + 3, hx => simp at hx
  · intro w hw
    exact va_Nw.of (nW_tab w hw) (hts w (nW_in w hw))
def u7 : OV := (setA (setA (setA (setA (setA (setA (setA (setA (setA (setA (setA (setA (g_begins vZ) 4 (upd ((g_begins vZ).1 4) 1 2)) 5 (upd ((g_begins vZ).1 5) 25 1)) 5 (upd (upd ((g_begins vZ).1 5) 25 1) 26 1)) 5 (upd (upd (upd ((g_begins vZ).1 5) 25 1) 26 1) 27 1)) 5 (upd (upd (upd (upd ((g_begins vZ).1 5) 25 1) 26 1) 27 1) 28 2)) 5 (upd (upd (upd (upd (upd ((g_begins vZ).1 5) 25 1) 26 1) 27 1) 28 2) 29 0)) 7 (upd ((g_begins vZ).1 7) 1 2)) 8 (upd ((g_begins vZ).1 8) 13 5)) 8 (upd (upd ((g_begins vZ).1 8) 13 5) 14 2)) 8 (upd (upd (upd ((g_begins vZ).1 8) 13 5) 14 2) 15 2)) 8 (upd (upd (upd (upd ((g_begins vZ).1 8) 13 5) 14 2) 15 2) 16 3)) 8 (upd (upd (upd (upd (upd ((g_begins vZ).1 8) 13 5) 14 2) 15 2) 16 3) 17 0))
theorem v7Z_u : v7Z = g_takes u7 := rfl
def e1 : PN := (fun t k => if t = 0 then (if k = 0 then 0 else 1) else if t = 1 then (if k = 0 then 1 else 2) else if t = 2 then (if k = 0 then 1 else 0) else if t = 4 then (if k = 0 then 0 else 2) else if t = 5 then (if k = 0 then 5 else 3) else if t = 6 then (if k = 0 then 2 else 0) else 0, fun t => if t = 8 then 3 else if t = 9 then 2 else if t = 10 then 2 else if t = 11 then 3 else if t = 12 then 1 else if t = 13 then 1 else if t = 14 then 2 else 0)
theorem e1_ok : DOk e1 := by unfold DOk; decide
theorem e1_w : WOk e1 := by unfold WOk; decide
theorem e1_c : CD e1 vP1 := by unfold CD; decide +kernel
theorem u7_n {t : Nat} (h4 : t ≠ 4) (h5 : t ≠ 5) (h7 : t ≠ 7) (h8 : t ≠ 8) : u7.1 t = (g_begins vZ).1 t := by
  rw [u7, setA_n h8, setA_n h8, setA_n h8, setA_n h8, setA_n h8, setA_n h7, setA_n h5, setA_n h5, setA_n h5, setA_n h5, setA_n h5, setA_n h4]
theorem e1_r : RD e1 u7 := by
  have h6 : u7.1 6 = (g_begins vZ).1 6 := u7_n (by decide) (by decide) (by decide) (by decide)
  have h9 : u7.1 9 = (g_begins vZ).1 9 := u7_n (by decide) (by decide) (by decide) (by decide)
  have hz := e0_r vZ
  refine ⟨by decide +kernel, fun d hd => ?_, by decide +kernel, fun d i hd hi => ?_, by decide +kernel⟩
  · rw [h6]; exact hz.2.1 d hd
  · rw [h9]; exact hz.2.2.2.1 d i hd hi
theorem rel_start : RelQ e1 vZ vN1 vP1 (fun _ => vZ) 0 (fun _ => vZ) 0 v7Z := by
  rw [v7Z_u]
  refine ⟨laid_ok e1_ok e1_w, laid_cp e1_ok e1_c, takes_rp e1_ok e1_r, ⟨_, laid_hok e1_ok e1_w, laid_ch e1_ok e1_c, takes_rh e1_ok e1_r⟩, ⟨by decide, (gti u7).2.2, fun j hj => absurd hj (Nat.not_lt_zero j)⟩, ⟨by decide, (gti u7).2.1, fun j hj => absurd hj (Nat.not_lt_zero j)⟩, fun _ => 0, 0, by decide, fun k hk => absurd hk (Nat.not_lt_zero k), ⟨ii0, fun k hk => absurd hk (Nat.not_lt_zero k)⟩, (gti u7).1, fun k hk => absurd hk (Nat.not_lt_zero k)⟩
