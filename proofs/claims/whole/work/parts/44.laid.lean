/-! the text, and laying it -/
theorem bv_byte (X : BitVec 64) (s : Nat) (hs : s ≤ 56) : (X >>> s).setWidth 32 &&& 255#32 = ((X.sshiftRight s).setWidth 8).setWidth 32 := by
  apply BitVec.eq_of_getLsbD_eq
  intro i hi
  have h255 : ∀ i, i < 32 → (255#32).getLsbD i = decide (i < 8) := by decide
  rw [BitVec.getLsbD_and, BitVec.getLsbD_setWidth, BitVec.getLsbD_setWidth, BitVec.getLsbD_setWidth, h255 i hi, BitVec.getLsbD_ushiftRight, BitVec.getLsbD_sshiftRight]
  by_cases h8 : i < 8
  · have h1 : s + i < 64 := by omega
    have h2 : ¬ 64 ≤ i := by omega
    simp [h8, hi, h1, h2]
  · simp [h8]
theorem sb_all : ∀ b, b < 256 → (Int8.ofBitVec (BitVec.ofNat 8 b)).toInt32 = sb b := by decide +kernel
theorem shA : ∀ k, k < 8 → (((8 * nI k : Int32).toInt64 &&& 63 : Int64).toBitVec.smod 64#64).toNat = 8 * k := by decide +kernel
theorem shB : ∀ k, k < 8 → ((((8 * nI k : Int32) : Int32).toInt64.toUInt64 &&& Int64.toUInt64 63).toBitVec % 64#64).toNat = 8 * k := by decide +kernel
theorem sx_all : ∀ b, b < 256 → ((sb b).toInt8.toInt32) = sb b := by decide +kernel
theorem byte_b (x : Int64) {k : Nat} (hk : k < 8) : ∃ b, b < 256 ∧ byteC x k = nI b ∧ byteOf x k = sb b := by
  have h := bv_byte x.toBitVec (8 * k) (by omega)
  have hl := ((x.toBitVec.sshiftRight (8 * k)).setWidth 8).isLt
  refine ⟨((x.toBitVec.sshiftRight (8 * k)).setWidth 8).toNat, hl, ?_, ?_⟩
  · apply Int32.toBitVec_inj.mp
    have e : (byteC x k).toBitVec = (x.toBitVec >>> (8 * k)).setWidth 32 &&& 255#32 := by
      show ((x.toBitVec >>> ((((8 * nI k : Int32) : Int32).toInt64.toUInt64 &&& Int64.toUInt64 63).toBitVec % 64#64)).signExtend 32 &&& 255#32) = _
      rw [BitVec.signExtend_eq_setWidth_of_le _ (by decide), BitVec.ushiftRight_eq', shB k hk]
    rw [e, h]
    apply BitVec.eq_of_toNat_eq
    show _ = ((x.toBitVec.sshiftRight (8 * k)).setWidth 8).toNat % 2 ^ 32
    rw [BitVec.toNat_setWidth]
  · have e : ((x >>> ((8 * nI k : Int32).toInt64 &&& 63) : Int64).toInt32 : Int32).toInt8 = Int8.ofBitVec ((x.toBitVec.sshiftRight (8 * k)).setWidth 8) := by
      apply Int8.toBitVec_inj.mp
      show (((x.toBitVec.sshiftRight' (((8 * nI k : Int32).toInt64 &&& 63 : Int64).toBitVec.smod 64#64)).signExtend 32).signExtend 8) = _
      rw [BitVec.signExtend_eq_setWidth_of_le _ (by decide), BitVec.signExtend_eq_setWidth_of_le _ (by decide), BitVec.sshiftRight', shA k hk]
      apply BitVec.eq_of_toNat_eq
      show _ = ((x.toBitVec.sshiftRight (8 * k)).setWidth 8).toNat
      rw [BitVec.toNat_setWidth, BitVec.toNat_setWidth, BitVec.toNat_setWidth]
      omega
    have e2 := sb_all _ hl
    rw [BitVec.ofNat_toNat, BitVec.setWidth_eq] at e2
    have en : ∀ y : Int32, vp_nar .byte y = y.toInt8.toInt32 := fun _ => rfl
    rw [byteOf, en, e, e2, sx_all _ hl]
section TL
variable {q : PN} {vt vn vp v vd : OV} {hvu hvk : Nat → OV} {nu nk : Nat}
theorem write_n (x : Int64) : ∀ (j : Nat) (u : OV) (F : Nat → Int32) (len : Nat) (bt : Nat → Nat), j ≤ 8 → len + j ≤ 300 → (∀ k, k < len → bt k < 256) → CT bt len u → (∀ k, k < len → F k = sb (bt k)) → (wrGo x j F len).2 = len + j ∧ ∃ bt' : Nat → Nat, (∀ k, k < len + j → bt' k < 256) ∧ CT bt' (len + j) (wr2Go x j u) ∧ ∀ k, k < len + j → (wrGo x j F len).1 k = sb (bt' k)
  | 0, u, F, len, bt, _, _, hb, hu, hF => ⟨rfl, bt, hb, hu, hF⟩
  | j + 1, u, F, len, bt, hj, hl, hb, hu, hF => by
    obtain ⟨b, b1, b2, b3⟩ := byte_b x (k := j) (by omega)
    rw [wrGo, wr2Go, b2, b3]
    have ea : f_X4_append u (nI b) = setI (setA u 0 (upd (u.1 0) len (nI b))) 3 (nI (len + 1)) := by
      rw [f_X4_append, hu.1, if_neg (show ¬ 300 ≤ nI len from nI_ge (b := 300) (by omega) (by decide)), rPut_n (by omega) (by decide), nI_1]
    rw [ea]
    have ih := write_n x j (setI (setA u 0 (upd (u.1 0) len (nI b))) 3 (nI (len + 1))) (upd F len (sb b)) (len + 1) (upN bt len b) (by omega) (by omega) (fun k hk => by
      by_cases g : k = len
      · rw [g, upN_s]; exact b1
      · rw [upN_n g]; exact hb k (by omega)) ⟨rfl, fun k hk => by
      rw [setI_f, setA_s]
      by_cases g : k = len
      · rw [g, upN_s, pk_us]
      · rw [upN_n g, pk_un g]; exact hu.2 k (by omega)⟩ (fun k hk => by
      by_cases g : k = len
      · rw [g, upN_s, pk_us]
      · rw [upN_n g, pk_un g]; exact hF k (by omega))
    rw [show len + (j + 1) = len + 1 + j by omega]
    exact ih
theorem RelQ.tx {vt' v' : OV} (h : RelQ q vt vn vp hvu nu hvk nk v) (h1 : ∀ t, t ≠ 1 → v'.1 t = v.1 t) (h2 : ∀ t, t ≠ 0 → v'.2 t = v.2 t) (ht : TX vt' v') : RelQ q vt' vn vp hvu nu hvk nk v' := by
  obtain ⟨hq, hw, hv, hn, ⟨u1, u2, u3⟩, ⟨k1, k2, k3⟩, -⟩ := h
  have e10 := h1 10 (by decide)
  refine ⟨hq, hw, hv.fr (h1 3 (by decide)) (h1 4 (by decide)) (h1 5 (by decide)) (h1 6 (by decide)) (h1 7 (by decide)) (h1 8 (by decide)) (h1 9 (by decide)), by rw [e10]; exact hn, ⟨u1, (h2 12 (by decide)).trans u2, fun j hj => by rw [e10]; exact u3 j hj⟩, ⟨k1, (h2 11 (by decide)).trans k2, fun j hj => by rw [e10]; exact k3 j hj⟩, ht⟩
theorem a_wipe (h : RelQ q vt vn vp hvu nu hvk nk v) : vt.2 3 = v.2 0 ∧ RelQ q (setI vt 3 0) vn vp hvu nu hvk nk (setI v 0 0) := by
  have ht := h.2.2.2.2.2.2
  obtain ⟨bt, len, t1, t2, t3, t4, t5⟩ := ht
  exact ⟨t3.1.trans t4.symm, h.tx (fun _ _ => rfl) (fun t ht => setI_n ht) ⟨bt, 0, by decide, fun k hk => absurd hk (Nat.not_lt_zero k), ⟨rfl, fun k hk => absurd hk (Nat.not_lt_zero k)⟩, rfl, fun k hk => absurd hk (Nat.not_lt_zero k)⟩⟩
theorem lenx {len : Nat} (h : RelQ q vt vn vp hvu nu hvk nk v) (hl : v.2 0 = nI len) (h3 : len ≤ 300) : ∃ bt : Nat → Nat, (∀ k, k < len → bt k < 256) ∧ CT bt len vt ∧ ∀ k, k < len → v.1 1 k = sb (bt k) := by
  obtain ⟨bt, len', t1, t2, t3, t4, t5⟩ := h.2.2.2.2.2.2
  have : len = len' := (nI_eq (by omega) (by omega)).mp (hl.symm.trans t4)
  subst this
  exact ⟨bt, t2, t3, t5⟩
theorem a_write {len : Nat} (h : RelQ q vt vn vp hvu nu hvk nk v) (hl : v.2 0 = nI len) (h3 : len ≤ 300) (n : Int32) (x : Int64) : f_writeR vt n x = g_writeR (v.1 1) len n x ∧ RelQ q (cnd (okWr vt n) (wr2Go x n.toNatClampNeg vt) vt) vn vp hvu nu hvk nk (g_writeV v len n x) := by
  obtain ⟨bt, t2, t3, t5⟩ := lenx h hl h3
  have en : gIn n.toInt64 1 8 = fWithin n 1 8 := gIn32 n 1 8
  rw [f_writeR, g_writeR, okWr, g_writeV, en, t3.1]
  by_cases g1 : fWithin n 1 8 = true
  · rw [if_pos g1, if_pos g1, if_pos g1, if_pos g1]
    obtain ⟨n, n1, n8, rfl⟩ := wx (a := 1) (b := 8) rfl rfl (by decide) (by decide) g1
    rw [nI_clamp (by omega)]
    have i0 : nI len + nI n ≤ 300 ↔ len + n ≤ 300 := by
      rw [nI_add]
      exact (nI_leI (by omega) (by decide) : nI (len + n) ≤ nI 300 ↔ len + n ≤ 300)
    by_cases g2 : len + n ≤ 300
    · rw [if_pos (i0.mpr g2), if_pos (i0.mpr g2), if_pos (i0.mpr g2), if_pos (i0.mpr g2), cnd_t rfl]
      obtain ⟨w1, bt', w2, w3, w4⟩ := write_n x n vt (v.1 1) len bt n8 g2 t2 t3 t5
      rw [w1]
      refine ⟨w3.1, h.tx (fun t ht => ?_) (fun t ht => ?_) ⟨bt', len + n, g2, w2, w3, ?_, fun k hk => ?_⟩⟩
      · rw [setA_n ht]; rfl
      · exact setI_n ht
      · show (setI v 0 (nI (len + n))).2 0 = _
        exact setI_s _ _ _
      · rw [setA_s]; exact w4 k hk
    · rw [if_neg (fun e => g2 (i0.mp e)), if_neg (fun e => g2 (i0.mp e)), if_neg (fun e => g2 (i0.mp e)), if_neg (fun e => g2 (i0.mp e)), cnd_f rfl]
      exact ⟨rfl, h⟩
  · rw [if_neg g1, if_neg g1, if_neg g1, if_neg g1, cnd_f rfl]
    exact ⟨rfl, h⟩
theorem RP.kp {v' : OV} (hq : POk q) (h : RP q v) (hk : Kp v v') : RP q v' := by
  obtain ⟨a1, a2, a3, a4, a5, a6, a7, -, -, -, -, -⟩ := hk
  obtain ⟨r1, r2, r3, r4, r5, r6, r7, r8, r9, r10⟩ := h
  have h8 := hq.2.1.2
  have h4 := hq.2.2.1.2
  refine ⟨fun d hd => ⟨?_, ?_, ?_, ?_⟩, fun i hi => ⟨?_, ?_⟩, fun d i hd hi => ?_, ?_, ?_, ?_, ?_, ?_, ?_, ?_⟩
  · rw [a4 _ (by omega)]; exact (r1 d hd).1
  · rw [a4 _ (by omega)]; exact (r1 d hd).2.1
  · rw [a4 _ (by omega)]; exact (r1 d hd).2.2.1
  · rw [a5 _ (by omega)]; exact (r1 d hd).2.2.2
  · rw [a6 _ (by omega)]; exact (r2 i hi).1
  · rw [a6 _ (by omega)]; exact (r2 i hi).2
  · rw [a7 _ (by omega)]; exact r3 d i hd hi
  · rw [a1 _ (by decide)]; exact r4
  · rw [a2]; exact r5
  · rw [a3]; exact r6
  · rw [a1 _ (by decide)]; exact r7
  · rw [a1 _ (by decide)]; exact r8
  · rw [a1 _ (by decide)]; exact r9
  · rw [a1 _ (by decide)]; exact r10
theorem RelQ.kp {vt' v' : OV} (h : RelQ q vt vn vp hvu nu hvk nk v) (hk : Kp v v') (ht' : CTn vt' vt) : RelQ q vt' vn vp hvu nu hvk nk v' := by
  obtain ⟨hq, hw, hv, hn, ⟨u1, u2, u3⟩, ⟨k1, k2, k3⟩, ht⟩ := h
  have hv' := hv.kp hq hk
  obtain ⟨-, -, -, -, -, -, -, e1, e10, f0, f11, f12⟩ := hk
  exact ⟨hq, hw, hv', by rw [e10]; exact hn, ⟨u1, f12.trans u2, fun j hj => by rw [e10]; exact u3 j hj⟩, ⟨k1, f11.trans k2, fun j hj => by rw [e10]; exact k3 j hj⟩, ht.fr ht' f0 e1⟩
theorem a_fault {len : Nat} (h : RelQ q vt vn vp hvu nu hvk nk v) (hl : v.2 0 = nI len) (h3 : len ≤ 300) (vd : OV) : (f_X4_read vt vd).1 = (g_fault v len).1 ∧ RelQ q (f_X4_read vt vd).2.1 vn vp hvu nu hvk nk (g_fault v len).2 := by
  obtain ⟨bt, t2, t3, t5⟩ := lenx h hl h3
  obtain ⟨r1, r2, r3⟩ := text_both vd h3 t2 t3 t5
  refine ⟨?_, h.kp r2 r1⟩
  rcases r3 with ⟨a, b, -⟩ | ⟨p, -, a, b⟩
  · rw [a, b]
  · rw [a, b]
theorem a_lay {len : Nat} (h : RelQ q vt vn vp hvu nu hvk nk v) (hl : v.2 0 = nI len) (h3 : len ≤ 300) (vd : OV) : f_layR vp vt vd = g_layR v len ∧ ∃ q', RelQ q' (f_X4_read vt vd).2.1 (cnd (okLay vt vd) (f_X0_beginAs vn (f_X4_read vt vd).2.2) vn) (cnd (okLay vt vd) (f_X4_read vt vd).2.2 vp) hvu (cnd (okLay vt vd) 0 nu) hvk (cnd (okLay vt vd) 0 nk) (g_layV v len) := by
  obtain ⟨bt, t2, t3, t5⟩ := lenx h hl h3
  obtain ⟨r1, r2, r3⟩ := text_both vd h3 t2 t3 t5
  have hkp := h.kp r2 r1
  rw [f_layR, g_layR, okLay, g_layV]
  generalize f_X4_read vt vd = R at *
  generalize g_fault v len = F at *
  rcases r3 with ⟨a, b, e, hE, hC, hD⟩ | ⟨p, hp, a, b⟩
  · rw [if_pos a, if_pos a, if_pos b, if_pos b]
    have i1 := stand_n hE hC
    have i2 := whole_n hE hD
    by_cases g : WOk e
    · rw [if_pos (i1.mpr g), if_pos (i1.mpr g), if_pos (i2.mpr g), if_pos (i2.mpr g), cnd_t rfl, cnd_t rfl, cnd_t rfl, cnd_t rfl]
      refine ⟨?_, e, laid_ok hE g, laid_cp hE hC, takes_rp hE hD, ⟨_, laid_hok hE g, laid_ch hE hC, takes_rh hE hD⟩, ⟨by decide, (gti F.2).2.2, fun j hj => absurd hj (Nat.not_lt_zero j)⟩, ⟨by decide, (gti F.2).2.1, fun j hj => absurd hj (Nat.not_lt_zero j)⟩, ?_⟩
      · rw [gt4, pk_us, hD.2.2.2.2.2.1, hC.2.2.2.2.2.1]
      · exact hkp.2.2.2.2.2.2.fr (CTn.rf _) (gti F.2).1 (gt1 F.2)
    · rw [if_neg (fun x => g (i1.mp x)), if_neg (fun x => g (i1.mp x)), if_neg (fun x => g (i2.mp x)), if_neg (fun x => g (i2.mp x)), cnd_f rfl, cnd_f rfl, cnd_f rfl, cnd_f rfl]
      exact ⟨rfl, q, hkp⟩
  · have hn : ¬ nI p = -4 := fun e => absurd (show nI p < 0 by rw [e]; decide) (nI_pos (by omega))
    rw [a, b, if_neg hn, if_neg hn, if_neg hn, if_neg hn, cnd_f rfl, cnd_f rfl, cnd_f rfl, cnd_f rfl]
    exact ⟨rfl, q, hkp⟩
theorem vpin {x N : Nat} (h : x < N) (hN : N < 2 ^ 31) : vp_in (nI x) N := by
  unfold vp_in
  rw [nI_clamp (by omega)]
  intro e
  rcases e with e | e
  · exact nI_pos (by omega) e
  · omega
/-- what the reference asks of where it stands -/
def Pre (q : PN) (nu nk : Nat) (v : OV) : Prop :=
  ¬ v.1 4 0 < 0 ∧ (v.1 4 0).toNatClampNeg ≤ 8 ∧ ¬ v.1 7 0 < 0 ∧ (v.1 7 0).toNatClampNeg ≤ 4 ∧ ¬ v.1 3 0 < 0 ∧ (v.1 3 0).toNatClampNeg ≤ 6 ∧
  (∀ d, d < (v.1 4 0).toNatClampNeg → vp_in (v.1 5 (3 * d)) 6 ∧ vp_in (v.1 5 (3 * d + 1)) 6) ∧ (∀ d, d < (v.1 4 0).toNatClampNeg → vp_in (v.1 5 (3 * d + 2)) 8) ∧
  (∀ i, i < (v.1 7 0).toNatClampNeg → vp_in (v.1 10 (40 + i)) 6) ∧ ¬ v.1 7 0 = 0 ∧ ¬ v.2 12 < 0 ∧ (v.2 12).toNatClampNeg ≤ 8 ∧
  (v.2 12 = nI nu ∧ nu ≤ 8) ∧ (v.2 11 = nI nk ∧ nk ≤ 2) ∧ (v.1 3 0 = nI (q.2 8) ∧ 2 ≤ q.2 8 ∧ q.2 8 ≤ 6) ∧ (v.1 7 0 = nI (q.2 10) ∧ 1 ≤ q.2 10 ∧ q.2 10 ≤ 4)
theorem RelQ.pre (h : RelQ q vt vn vp hvu nu hvk nk v) : Pre q nu nk v := by
  obtain ⟨hq, hw, hv, ⟨m, hh, hu, hS⟩, ⟨u1, u2, u3⟩, ⟨k1, k2, k3⟩, ht⟩ := h
  have h8 := hq.2.1
  have h4 := hq.2.2.1
  have h6 := hq.1
  have e4 := hv.2.2.2.2.1
  have e7 := hv.2.2.2.2.2.1
  have e3 := hv.2.2.2.1
  refine ⟨?_, ?_, ?_, ?_, ?_, ?_, fun d hd => ?_, fun d hd => ?_, fun i hi => ?_, ?_, ?_, ?_, ⟨u2, u1⟩, ⟨k2, k1⟩, ⟨e3, h6⟩, ⟨e7, h4⟩⟩
  · rw [e4]; exact nI_pos (by omega)
  · rw [e4, nI_clamp (by omega)]; omega
  · rw [e7]; exact nI_pos (by omega)
  · rw [e7, nI_clamp (by omega)]; omega
  · rw [e3]; exact nI_pos (by omega)
  · rw [e3, nI_clamp (by omega)]; omega
  · rw [e4, nI_clamp (by omega)] at hd
    have x := hq.2.2.2.2.2.2.2.1 d hd
    rw [(hv.1 d hd).1, (hv.1 d hd).2.1]
    exact ⟨vpin (by omega) (by decide), vpin (by omega) (by decide)⟩
  · rw [e4, nI_clamp (by omega)] at hd
    have x := hq.2.2.2.2.2.2.2.1 d hd
    rw [(hv.1 d hd).2.2.1]
    exact vpin (by omega) (by decide)
  · rw [e7, nI_clamp (by omega)] at hi
    have x := hh.2.2 i hi
    have so := hS.2.2.1 i hi
    rw [show 46 * 0 + 40 + i = 40 + i by omega] at so
    rw [so]
    exact vpin (by omega) (by decide)
  · rw [e7]; exact nI_ne (c := 0) (by omega) (by decide) (by omega)
  · rw [u2]; exact nI_pos (by omega)
  · rw [u2, nI_clamp (by omega)]; omega
end TL
