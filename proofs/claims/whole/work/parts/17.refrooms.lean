/-! the reference: rooms, weeks -/
def triesGo (R S D E X : Nat → Int32) : Nat → Nat → Int32 → Int32 → (Nat → Int32) → Bool × Int32 × (Nat → Int32)
  | 0, _, _, s, F => (true, s, F)
  | n + 1, k, t, s, F => if (t >>> (X k &&& 31)) &&& 1 = 1 then (false, s, F) else
    if 0 ≤ g_wayOf R S D F 0 k (X k).toNatClampNeg (E (3 * k + 2)) then triesGo R S D E X n (k + 1) (t ||| (1 <<< (X k &&& 31))) (s + g_wayOf R S D F 0 k (X k).toNatClampNeg (E (3 * k + 2))) (g_ways R S D F 0 k (E (3 * k + 2)) 0)
    else (false, s, g_ways R S D F 0 k (E (3 * k + 2)) 0)
def g_triesR (v : OV) : Bool × Int32 × (Nat → Int32) := triesGo (v.1 5) (v.1 10) (v.1 4) (v.1 8) (v.1 15) (v.1 7 0).toNatClampNeg 0 0 0 (v.1 14)
def s_bst (X : Nat → Int32) (k : Nat) (F : Nat → Int32) : Nat → Int32 := upd F k (X k)
def tr_best (v : OV) (s : Int32) (F : Nat → Int32) : OV := setA (setI (setA v 14 F) 17 s) 16 (itN (s_bst (v.1 15)) (v.1 16) 4)
def tr_end (v : OV) (q : Bool × Int32 × (Nat → Int32)) : OV := if q.1 = true then (if v.2 17 < 0 then tr_best v q.2.1 q.2.2 else if v.2 17 ≤ q.2.1 then setA v 14 q.2.2 else tr_best v q.2.1 q.2.2) else setA v 14 q.2.2
def g_triesV (v : OV) : OV := tr_end v (g_triesR v)
/-- the row of a code -/
def rowGo (tn : Nat) : Nat → Nat → (Nat → Int32) → (Nat → Int32)
  | 0, _, X => X
  | j + 1, n, X => rowGo tn j (n / tn) (upd X j (nI (n % tn)))
theorem row_keep (tn : Nat) : ∀ (j n : Nat) (X : Nat → Int32) (i : Nat), j ≤ i → rowGo tn j n X i = X i
  | 0, _, _, _, _ => rfl
  | j + 1, n, X, i, h => by
    rw [rowGo, row_keep tn j _ _ i (by omega), pk_un (by omega)]
theorem row_vp {tn : Nat} (h2 : 0 < tn) (h6 : tn ≤ 6) : ∀ (j n : Nat) (X : Nat → Int32) (i : Nat), i < j → vp_in (rowGo tn j n X i) 6
  | 0, _, _, _, h => absurd h (Nat.not_lt_zero _)
  | j + 1, n, X, i, h => by
    rw [rowGo]
    rcases Nat.lt_or_ge i j with h1 | h1
    · exact row_vp h2 h6 j _ _ i h1
    · rw [row_keep tn j _ _ i h1, show i = j by omega, pk_us]
      exact vp_in_nI (Nat.lt_of_lt_of_le (Nat.mod_lt _ h2) h6) (by omega)
def s_code (tn ln k : Nat) (u : OV) : OV := g_triesV (setA u 15 (rowGo tn ln k (u.1 15)))
def g_roomsU (v : OV) (tn ln k : Nat) : OV := itN (s_code tn ln) (setI v 17 (-1)) k
def g_roomsR (v : OV) (tn ln : Nat) (x : Int32) : Int32 := if gIn x.toInt64 (-1) (v.1 7 0 - 1).toInt64 = true then (if 0 ≤ (g_roomsU v tn ln (tn ^ ln)).2 17 then (if 0 ≤ x then (g_roomsU v tn ln (tn ^ ln)).1 16 x.toNatClampNeg else (g_roomsU v tn ln (tn ^ ln)).2 17) else -4) else -1
def g_roomsV (v : OV) (tn ln : Nat) (x : Int32) : OV := if gIn x.toInt64 (-1) (v.1 7 0 - 1).toInt64 = true then g_roomsU v tn ln (tn ^ ln) else v
/-- the same but for the scratch rows -/
def rmOk (v u : OV) : Prop := ∀ t, t ≠ 14 → t ≠ 15 → t ≠ 16 → u.1 t = v.1 t
theorem tr_ok {v u : OV} {X : Nat → Int32} (h : rmOk v u) : rmOk v (g_triesV (setA u 15 X)) := by
  intro t h1 h2 h3
  rw [← h t h1 h2 h3]
  unfold g_triesV tr_end tr_best
  repeat' split
  all_goals simp only [setA, setI, if_neg h1, if_neg h2, if_neg h3]
theorem pow_b {tn ln : Nat} (h6 : tn ≤ 6) (h4 : ln ≤ 4) : tn ^ ln < 2 ^ 31 := by
  have h1 : tn ^ ln ≤ 6 ^ ln := Nat.pow_le_pow_left h6 ln
  have h2 : 6 ^ ln ≤ 6 ^ 4 := Nat.pow_le_pow_right (by decide) h4
  have : (6 : Nat) ^ 4 = 1296 := by decide
  omega
theorem rm_ix {x : Int32} {n : Nat} (h : gIn x.toInt64 (-1) (nI n - 1).toInt64 = true) (hn : n ≤ 4) (h0 : 0 ≤ x) : ¬ x < 0 ∧ x.toNatClampNeg < n := by
  have h1 : gIn x.toInt64 (-1 : Int32).toInt64 (nI n - 1).toInt64 = true := h
  rw [gIn_iff, Int64.le_iff_toInt_le, Int64.le_iff_toInt_le, Int32.toInt_toInt64, Int32.toInt_toInt64, Int32.toInt_toInt64] at h1
  rw [Int32.le_iff_toInt_le] at h0
  have e0 : (0 : Int32).toInt = 0 := by decide
  rw [e0] at h0
  refine ⟨nlt_toInt.mpr h0, ?_⟩
  show x.toInt.toNat < n
  cases n with
  | zero =>
    have : (nI 0 - 1 : Int32).toInt = -1 := by decide
    omega
  | succ n =>
    rw [nI_pred, nI_toInt (by omega)] at h1
    omega
/-- a walk: a step goes by the door that is first -/
abbrev fo (R D : Nat → Int32) (i : Nat) (t : Int32) (q : (Nat → Int32) × (Nat → Int32)) : Int32 := g_firstOf R q.1 D q.2 11 i (q.1 (546 + i)).toNatClampNeg t
def s_wk (T E R D : Nat → Int32) (i : Nat) (t z : Int32) (_ : Nat) (q : (Nat → Int32) × (Nat → Int32)) : (Nat → Int32) × (Nat → Int32) :=
  (g_goesS T E R q.1 11 i (fo R D i t q).toNatClampNeg z, g_ways R q.1 D q.2 11 i t 0)
def g_wk (T E R D : Nat → Int32) (i : Nat) (t z : Int32) (q : (Nat → Int32) × (Nat → Int32)) (k : Nat) : (Nat → Int32) × (Nat → Int32) := itN (s_wk T E R D i t z) q k
/-- how many steps there are -/
def wkN (T E R D : Nat → Int32) (i : Nat) (t z : Int32) (q : (Nat → Int32) × (Nat → Int32)) : Nat := (fnd (fun k => decide (fo R D i t (g_wk T E R D i t z q k) < 0)) 8).getD 0
def wkOk (T E R D : Nat → Int32) (i : Nat) (t z : Int32) (q : (Nat → Int32) × (Nat → Int32)) (n : Nat) : Prop :=
  (∀ k, k ≤ n → vp_in ((g_wk T E R D i t z q k).1 (546 + i)) 6) ∧ (∀ k, k < n → ¬ fo R D i t (g_wk T E R D i t z q k) < 0 ∧ (fo R D i t (g_wk T E R D i t z q k)).toNatClampNeg < 8 ∧ ¬ g_costs (g_wk T E R D i t z q k).1 11 (fo R D i t (g_wk T E R D i t z q k)).toNatClampNeg i ≤ 0) ∧ fo R D i t (g_wk T E R D i t z q n) < 0
/-- the slots and the row of ways behind a walk -/
def g_walked (T E R D : Nat → Int32) (i : Nat) (t z : Int32) (q : (Nat → Int32) × (Nat → Int32)) (n : Nat) : (Nat → Int32) × (Nat → Int32) :=
  ((g_wk T E R D i t z q n).1, g_ways R (g_wk T E R D i t z q n).1 D (g_wk T E R D i t z q n).2 11 i t 0)
def drawN (z k : Nat) : Nat := (7919 * z + 6151 * k + 1) * (7919 * z + 6151 * k + 1) % 65521
theorem pk_ladd {a b : Nat} (h : a + b < 2 ^ 63) : lN a + lN b = lN (a + b) := by
  refine Int64.toInt_inj.mp ?_
  rw [Int64.toInt_add, pk_lT (by omega), pk_lT (by omega), pk_lT h, Int.bmod_eq_of_le (by omega) (by omega)]
  omega
theorem pk_lmul {a b : Nat} (h : a * b < 2 ^ 63) (ha : a < 2 ^ 63) (hb : b < 2 ^ 63) : lN a * lN b = lN (a * b) := by
  refine Int64.toInt_inj.mp ?_
  rw [Int64.toInt_mul, pk_lT ha, pk_lT hb, pk_lT h, Int.bmod_eq_of_le (by omega) (by omega)]
  exact (Int.natCast_mul a b).symm
theorem ov_putA {v : OV} {t : Nat} {f : Nat → Int32} (h : v.1 t = f) : setA v t f = v := by
  refine Prod.ext (funext fun u => ?_) rfl
  simp only [setA]
  split
  · rename_i h1; rw [h1, h]
  · rfl
theorem draw_l {z k : Nat} (hz : z ≤ 9999) (hk : k < 60) : (7919 * (nI z).toInt64 + 6151 * (nI k).toInt64 + 1 : Int64) = lN (7919 * z + 6151 * k + 1) := by
  rw [nI_l (by omega), nI_l (by omega)]
  have e1 : (7919 : Int64) = lN 7919 := rfl
  have e2 : (6151 : Int64) = lN 6151 := rfl
  have e3 : (1 : Int64) = lN 1 := rfl
  rw [e1, e2, e3, pk_lmul (by omega) (by omega) (by omega), pk_lmul (by omega) (by omega) (by omega), pk_ladd (by omega), pk_ladd (by omega)]
theorem draw_n {z k : Nat} (hz : z ≤ 9999) (hk : k < 60) : ((7919 * (nI z).toInt64 + 6151 * (nI k).toInt64 + 1 : Int64) * (7919 * (nI z).toInt64 + 6151 * (nI k).toInt64 + 1) - (7919 * (nI z).toInt64 + 6151 * (nI k).toInt64 + 1) * (7919 * (nI z).toInt64 + 6151 * (nI k).toInt64 + 1) / 65521 * 65521 : Int64).toInt32 = nI (drawN z k) := by
  have hb : (7919 * z + 6151 * k + 1) * (7919 * z + 6151 * k + 1) < 2 ^ 63 := Nat.lt_of_le_of_lt (Nat.mul_le_mul (show _ ≤ 80000000 by omega) (show _ ≤ 80000000 by omega)) (by decide)
  rw [draw_l hz hk, pk_lmul hb (by omega) (by omega), show (65521 : Int64) = lN 65521 from rfl, pk_lRem hb (by decide) (by decide)]
  exact lN_i _
theorem draw_b (z k : Nat) : drawN z k < 65521 := Nat.mod_lt _ (by decide)
abbrev wk_i (ln z k : Nat) : Nat := drawN z k % ln
abbrev wk_z (z k : Nat) : Int32 := if nI (drawN z k / 8 % 2) = 1 then 1 else 0
/-- a day of the week: the slots, the row of ways, the row of grudges -/
def wk1 (v : OV) (ln z k : Nat) (q : (Nat → Int32) × (Nat → Int32) × (Nat → Int32)) : (Nat → Int32) × (Nat → Int32) :=
  g_walked (v.1 3) (v.1 8) (v.1 5) (v.1 4) (wk_i ln z k) (v.1 8 (3 * wk_i ln z k + 2)) (wk_z z k) (q.1, q.2.1) (wkN (v.1 3) (v.1 8) (v.1 5) (v.1 4) (wk_i ln z k) (v.1 8 (3 * wk_i ln z k + 2)) (wk_z z k) (q.1, q.2.1))
def wk2 (v : OV) (ln z k : Nat) (q : (Nat → Int32) × (Nat → Int32) × (Nat → Int32)) : (Nat → Int32) × (Nat → Int32) :=
  g_walked (v.1 3) (v.1 8) (v.1 5) (v.1 4) (wk_i ln z k) (q.1 (546 + wk_i ln z k)) (wk_z z k) (wk1 v ln z k q) (wkN (v.1 3) (v.1 8) (v.1 5) (v.1 4) (wk_i ln z k) (q.1 (546 + wk_i ln z k)) (wk_z z k) (wk1 v ln z k q))
def s_week (v : OV) (ln z k : Nat) (q : (Nat → Int32) × (Nat → Int32) × (Nat → Int32)) : (Nat → Int32) × (Nat → Int32) × (Nat → Int32) :=
  (g_nights (v.1 3) (v.1 5) (v.1 7) (v.1 4) (v.1 6) (wk2 v ln z k q).1 q.2.2 11, (wk2 v ln z k q).2, g_was (wk2 v ln z k q).1 q.2.2 11)
def g_week (v : OV) (ln z k : Nat) : (Nat → Int32) × (Nat → Int32) × (Nat → Int32) := itN (s_week v ln z) (g_copies (v.1 10) 0 11, v.1 14, v.1 13) k
def dayOk (v : OV) (ln z k : Nat) (q : (Nat → Int32) × (Nat → Int32) × (Nat → Int32)) : Prop :=
  wkOk (v.1 3) (v.1 8) (v.1 5) (v.1 4) (wk_i ln z k) (v.1 8 (3 * wk_i ln z k + 2)) (wk_z z k) (q.1, q.2.1) (wkN (v.1 3) (v.1 8) (v.1 5) (v.1 4) (wk_i ln z k) (v.1 8 (3 * wk_i ln z k + 2)) (wk_z z k) (q.1, q.2.1)) ∧
  wkOk (v.1 3) (v.1 8) (v.1 5) (v.1 4) (wk_i ln z k) (q.1 (546 + wk_i ln z k)) (wk_z z k) (wk1 v ln z k q) (wkN (v.1 3) (v.1 8) (v.1 5) (v.1 4) (wk_i ln z k) (q.1 (546 + wk_i ln z k)) (wk_z z k) (wk1 v ln z k q))
def s_wsum (D L S : Nat → Int32) (k : Nat) (n : Int32) : Int32 := n + (if D 0 ≤ nI (k / 4) then 0 else if L 0 ≤ nI (k % 4) then 0 else S (506 + k))
def g_weekR (v : OV) (ln : Nat) (z n w : Int32) : Int32 := if gIn z.toInt64 0 9999 = true then (if gIn n.toInt64 1 60 = true then (if gIn w.toInt64 0 1 = true then (if w = 0 then (g_week v ln z.toNatClampNeg n.toNatClampNeg).1 550 - (g_week v ln z.toNatClampNeg n.toNatClampNeg).1 44 else itN (s_wsum (v.1 4) (v.1 7) (g_week v ln z.toNatClampNeg n.toNatClampNeg).1) 0 32) else -1) else -1) else -1
def g_weekV (v : OV) (ln : Nat) (z n w : Int32) : OV := if gIn z.toInt64 0 9999 = true then (if gIn n.toInt64 1 60 = true then (if gIn w.toInt64 0 1 = true then setA (setA (setA v 10 (g_week v ln z.toNatClampNeg n.toNatClampNeg).1) 13 (g_week v ln z.toNatClampNeg n.toNatClampNeg).2.2) 14 (g_week v ln z.toNatClampNeg n.toNatClampNeg).2.1 else v) else v) else v

def rm_X7_tries : Room := { frames := 3, cells := 0, slots := 0, locals := 76 }
theorem hd_X7_tries : yX7_tries.cls = RX7 ∧ yX7_tries.cls ≠ "java/lang/invoke/MethodHandle" ∧ yX7_tries.cls ≠ "java/lang/invoke/VarHandle" ∧ (parseMethodDescriptor yX7_tries.desc).map (fun d => d.parameters.length) = some 0 := by decide +kernel
set_option maxRecDepth 100000 in
set_option maxHeartbeats 4000000 in
theorem c_X7_tries (l : Launch) (G : GD) (a : Nat → Nat) (v : OV) (hD8 : (v.1 4 0).toNatClampNeg ≤ 8) (hL4 : (v.1 7 0).toNatClampNeg ≤ 4) (hR : ∀ d, d < (v.1 4 0).toNatClampNeg → vp_in (v.1 5 (3 * d)) 6 ∧ vp_in (v.1 5 (3 * d + 1)) 6) (hRow : ∀ i, i < (v.1 7 0).toNatClampNeg → vp_in (v.1 15 i) 6) : MetS l yX7_tries wsX7_tries rm_X7_tries G [bX7 a G v] [.ref (a 0)] (fun r bc => r = none ∧ bc = [bX7 a G (g_triesV v)]) := by
  refine kb_beginS (cc := cX7_tries) (maxL := 5) (ret := none) (by decide) rfl (Nat.le_of_ble_eq_true rfl) ?_
  intro p e s m below meth c hx hb hr hml hown hts hlocks hX H locs hP hD hS ls hl
  have hown : s.vm.findClass RX7 = some m.cls := hown
  have hl : lv_has ls 5 [(0, .ref (a 0))] := hl
  have hin7 : ∀ w ∈ u_ws RX7 TX7 19, w ∈ wsX7_tries := (fun _ h => List.mem_cons_of_mem _ (List.mem_append_right _ (h)))
  refine lv_iconst (v := 0) hx hb dX7_tries_0 (by decide) ?_
  refine lv_istore_n (lv' := [(1, .int 0), (0, .ref (a 0))]) hx hb dX7_tries_1 rfl hl (by decide) rfl (fun ls hl => ?_)
  refine lv_iconst (v := 0) hx hb dX7_tries_2 (by decide) ?_
  refine lv_istore_n (lv' := [(2, .int 0), (1, .int 0), (0, .ref (a 0))]) hx hb dX7_tries_3 rfl hl (by decide) rfl (fun ls hl => ?_)
  refine lv_iconst (v := 0) hx hb dX7_tries_4 (by decide) ?_
  refine lv_istore_n (lv' := [(3, .int 0), (2, .int 0), (1, .int 0), (0, .ref (a 0))]) hx hb dX7_tries_5 rfl hl (by decide) rfl (fun ls hl => ?_)
  have hP : PP G [bX7 a G (setA v 14 (v.1 14))] H := by rw [ov_id]; exact hP
  have hD : DD (AA (List.flatten [bX7 a G v])) [bX7 a G (setA v 14 (v.1 14))] := D_re hD (adc (bX7_ad _ _ _ _) adn)
  refine lp_up (N := (v.1 7 0).toNatClampNeg) (P := fun k => ∀ (t1 : Int32), ∀ (s1 : Int32), ∀ (F : Nat → Int32), ∀ (H : Heap) (locs : List Loc) (ls : Array Slot), PP G [bX7 a G (setA v 14 F)] H → DD (AA (List.flatten [bX7 a G v])) [bX7 a G (setA v 14 F)] → va_S (AA (List.flatten [bX7 a G v])) s.heap H locs → lv_has ls 5 [(3, .int (nI k)), (2, .int s1), (1, .int t1), (0, .ref (a 0))] → (g_triesR v = triesGo (v.1 5) (v.1 10) (v.1 4) (v.1 8) (v.1 15) ((v.1 7 0).toNatClampNeg - k) k t1 s1 F) → W p l e (headSpec wsX7_tries rm_X7_tries).room s m ([.ref (a 0)] : List Value).toArray below meth c H locs 0 0 (MQ below (kQs G [bX7 a G v] (fun r bc => r = none ∧ bc = [bX7 a G (g_triesV v)])) ([.ref (a 0)] : List Value).toArray s 0 0 (AA (List.flatten [bX7 a G v]))) (F0 m 6 ls [])) ?_ ?_ 0 (Nat.zero_le _) 0 0 (v.1 14) _ _ _ hP hD hS (lv_sub hl [0, 1, 2, 3] rfl) (rfl)
  · skip
    intro t1 s1 F H locs ls hP hD hS hl hs
    refine lv_iload_n hx hb dX7_tries_6 rfl (lv_at hl 0 rfl) ?_
    refine lv_aload_n hx hb dX7_tries_7 rfl (lv_at hl 3 rfl) ?_
    refine kb_get (own := RX7) (C := RX7) (T := TX7) (N := 19) (v := .ref (a 6)) hx hb hts hin7 hown hX hP 0 rfl rfl rfl 7 (by decide) rfl (by decide +kernel) rfl dX7_tries_8 ?_
    refine lv_iconst (v := 0) hx hb dX7_tries_11 (by decide) ?_
    refine kb_ialdN (jn := 0) (n := 2) (f := v.1 7) hx hb hX hP 0 6 rfl rfl rfl (by omega) (by decide) dX7_tries_12 ?_
    refine lv_icmp_ge (tgt := 83) hx hb dX7_tries_13 (by decide) (fun c_13 => ?_) (fun c_13 => absurd (lpx_c _) c_13)
    refine lv_aload_n hx hb dX7_tries_83 rfl (lv_at hl 3 rfl) ?_
    refine kb_get (own := RX7) (C := RX7) (T := TX7) (N := 19) (v := .int (v.2 17)) hx hb hts hin7 hown hX hP 0 rfl rfl rfl 17 (by decide) rfl (by decide +kernel) rfl dX7_tries_84 ?_
    refine lv_if_lt (tgt := 98) hx hb dX7_tries_87 (by decide) (fun c_87 => ?_) (fun c_87 => ?_)
    · refine lv_aload_n hx hb dX7_tries_98 rfl (lv_at hl 3 rfl) ?_
      refine lv_iload_n hx hb dX7_tries_99 rfl (lv_at hl 1 rfl) ?_
      refine kb_put (own := RX7) (C := RX7) (T := TX7) (N := 19) hx hb hts hin7 tyX7 tyX7_ok nmX7 (ty := .int) hown hX hP hD hS 0 rfl rfl rfl 17 (by decide) rfl (by decide +kernel) (by decide +kernel) rfl rfl (Nat.le_of_ble_eq_true rfl) dX7_tries_100 (bX7_I17 a G (setA v 14 F) s1) (fun H locs hP hD hS => ?_)
      have hP : PP G [bX7 a G (setI (setA v 14 F) 17 s1)] H := hP
      have hD : DD (AA (List.flatten [bX7 a G v])) [bX7 a G (setI (setA v 14 F) 17 s1)] := D_re hD (adc (bX7_ad _ _ _ _) adn)
      refine lv_iconst (v := 0) hx hb dX7_tries_103 (by decide) ?_
      refine lv_istore_n (lv' := [(3, .int 0), (2, .int s1), (1, .int t1), (0, .ref (a 0))]) hx hb dX7_tries_104 rfl hl (by decide) rfl (fun ls hl => ?_)
      have eOV0 : (setA (setI (setA v 14 F) 17 s1) 16 (itN (s_bst (v.1 15)) (v.1 16) 0)) = (setI (setA v 14 F) 17 s1) := by
        refine Prod.ext (funext fun u => ?_) (funext fun u => ?_)
        · by_cases h14 : u = 14
          · subst h14; rfl
          · skip
            by_cases h16 : u = 16
            · subst h16; rfl
            · skip
              simp only [setA, setI, if_neg h14, if_neg h16]
        · by_cases h17 : u = 17
          · subst h17; rfl
          · skip
            simp only [setA, setI, if_neg h17]
      have hP : PP G [bX7 a G (setA (setI (setA v 14 F) 17 s1) 16 (itN (s_bst (v.1 15)) (v.1 16) 0))] H := by rw [eOV0]; exact hP
      have hD : DD (AA (List.flatten [bX7 a G v])) [bX7 a G (setA (setI (setA v 14 F) 17 s1) 16 (itN (s_bst (v.1 15)) (v.1 16) 0))] := D_re hD (adc (bX7_ad _ _ _ _) adn)
      refine lp_up (N := 4) (P := fun j => ∀ (H : Heap) (locs : List Loc) (ls : Array Slot), PP G [bX7 a G (setA (setI (setA v 14 F) 17 s1) 16 (itN (s_bst (v.1 15)) (v.1 16) j))] H → DD (AA (List.flatten [bX7 a G v])) [bX7 a G (setA (setI (setA v 14 F) 17 s1) 16 (itN (s_bst (v.1 15)) (v.1 16) j))] → va_S (AA (List.flatten [bX7 a G v])) s.heap H locs → lv_has ls 5 [(3, .int (nI j)), (2, .int s1), (1, .int t1), (0, .ref (a 0))] →  W p l e (headSpec wsX7_tries rm_X7_tries).room s m ([.ref (a 0)] : List Value).toArray below meth c H locs 0 0 (MQ below (kQs G [bX7 a G v] (fun r bc => r = none ∧ bc = [bX7 a G (g_triesV v)])) ([.ref (a 0)] : List Value).toArray s 0 0 (AA (List.flatten [bX7 a G v]))) (F0 m 105 ls [])) ?_ ?_ 0 (Nat.zero_le _)  _ _ _ hP hD hS (lv_sub hl [0, 1, 2, 3] rfl) 
      · skip
        intro H locs ls hP hD hS hl 
        refine lv_iload_n hx hb dX7_tries_105 rfl (lv_at hl 0 rfl) ?_
        refine lv_iconst (v := 4) hx hb dX7_tries_106 (by decide) ?_
        refine lv_icmp_ge (tgt := 128) hx hb dX7_tries_107 (by decide) (fun c_107 => ?_) (fun c_107 => absurd ((by decide : (4 : Int32) ≤ nI 4)) c_107)
        have hP : PP G [bX7 a G (g_triesV v)] H := by
          have hr2 : g_triesR v = (true, s1, F) := hs.trans (by rw [Nat.sub_self]; rfl)
          rw [g_triesV, hr2]
          simp only [tr_end, tr_best, if_true, if_pos c_13, if_pos c_87, if_pos c_107]
          exact hP
        exact kr_sv hx hb hr hlocks dX7_tries_128 hP hS (sameAd_cons (bX7_ad _ _ _ _) sameAd_nil) ⟨rfl, rfl⟩
      · skip
        intro j hk_j ih_105 H locs ls hP hD hS hl 
        refine lv_iload_n hx hb dX7_tries_105 rfl (lv_at hl 0 rfl) ?_
        refine lv_iconst (v := 4) hx hb dX7_tries_106 (by decide) ?_
        refine lv_icmp_ge (tgt := 128) hx hb dX7_tries_107 (by decide) (fun c_107 => absurd c_107 (nI_ge (b := 4) hk_j (by decide))) (fun c_107 => ?_)
        refine lv_aload_n hx hb dX7_tries_110 rfl (lv_at hl 3 rfl) ?_
        refine kb_get (own := RX7) (C := RX7) (T := TX7) (N := 19) (v := .ref (a 13)) hx hb hts hin7 hown hX hP 0 rfl rfl rfl 16 (by decide) rfl (by decide +kernel) rfl dX7_tries_111 ?_
        refine lv_iload_n hx hb dX7_tries_114 rfl (lv_at hl 0 rfl) ?_
        refine lv_aload_n hx hb dX7_tries_115 rfl (lv_at hl 3 rfl) ?_
        refine kb_get (own := RX7) (C := RX7) (T := TX7) (N := 19) (v := .ref (a 12)) hx hb hts hin7 hown hX hP 0 rfl rfl rfl 15 (by decide) rfl (by decide +kernel) rfl dX7_tries_116 ?_
        refine lv_iload_n hx hb dX7_tries_119 rfl (lv_at hl 0 rfl) ?_
        refine kb_ialdN (jn := j) (n := 4) (f := v.1 15) hx hb hX hP 0 12 rfl rfl rfl (by omega) (by decide) dX7_tries_120 ?_
        refine kb_iastN (jn := j) (n := 4) (f := itN (s_bst (v.1 15)) (v.1 16) j) hx hb hX hP hD hS 0 13 rfl rfl rfl (by omega) (by decide) dX7_tries_121 (bX7_A16 a G (setA (setI (setA v 14 F) 17 s1) 16 (itN (s_bst (v.1 15)) (v.1 16) j)) (upd (itN (s_bst (v.1 15)) (v.1 16) j) j ((v.1 15) j))) (fun H locs hP hD hS => ?_)
        have hP : PP G [bX7 a G (setA (setA (setI (setA v 14 F) 17 s1) 16 (itN (s_bst (v.1 15)) (v.1 16) j)) 16 (upd (itN (s_bst (v.1 15)) (v.1 16) j) j ((v.1 15) j)))] H := hP
        have hD : DD (AA (List.flatten [bX7 a G v])) [bX7 a G (setA (setA (setI (setA v 14 F) 17 s1) 16 (itN (s_bst (v.1 15)) (v.1 16) j)) 16 (upd (itN (s_bst (v.1 15)) (v.1 16) j) j ((v.1 15) j)))] := D_re hD (adc (bX7_ad _ _ _ _) adn)
        refine lv_iinc (v := nI (j + 1)) (lv' := [(3, .int (nI (j + 1))), (2, .int s1), (1, .int t1), (0, .ref (a 0))]) hx hb dX7_tries_122 hl (k := 0) rfl (nI_1 _) (by decide) rfl (fun ls hl => ?_)
        refine lv_goto (tgt := 105) hx hb dX7_tries_125 (by decide) ?_
        have hP : PP G [bX7 a G (setA (setI (setA v 14 F) 17 s1) 16 (itN (s_bst (v.1 15)) (v.1 16) (j + 1)))] H := by
          try simp only [ov_n1, ov_m1, ov_nc, ov_mc, ov_c] at hP ⊢
          exact hP
        have hD : DD (AA (List.flatten [bX7 a G v])) [bX7 a G (setA (setI (setA v 14 F) 17 s1) 16 (itN (s_bst (v.1 15)) (v.1 16) (j + 1)))] := D_re hD (adc (bX7_ad _ _ _ _) adn)
        exact ih_105  _ _ _ hP hD hS (show lv_has ls 5 [(3, .int (nI (j + 1))), (2, .int s1), (1, .int t1), (0, .ref (a 0))] from lv_sub hl [0, 1, 2, 3] rfl) 
    · refine lv_iload_n hx hb dX7_tries_90 rfl (lv_at hl 1 rfl) ?_
      refine lv_aload_n hx hb dX7_tries_91 rfl (lv_at hl 3 rfl) ?_
      refine kb_get (own := RX7) (C := RX7) (T := TX7) (N := 19) (v := .int (v.2 17)) hx hb hts hin7 hown hX hP 0 rfl rfl rfl 17 (by decide) rfl (by decide +kernel) rfl dX7_tries_92 ?_
      refine lv_icmp_ge (tgt := 128) hx hb dX7_tries_95 (by decide) (fun c_95 => ?_) (fun c_95 => ?_)
      · have hP : PP G [bX7 a G (g_triesV v)] H := by
          have hr2 : g_triesR v = (true, s1, F) := hs.trans (by rw [Nat.sub_self]; rfl)
          rw [g_triesV, hr2]
          simp only [tr_end, tr_best, if_true, if_pos c_13, if_neg c_87, if_pos c_95]
          exact hP
        exact kr_sv hx hb hr hlocks dX7_tries_128 hP hS (sameAd_cons (bX7_ad _ _ _ _) sameAd_nil) ⟨rfl, rfl⟩
      · refine lv_aload_n hx hb dX7_tries_98 rfl (lv_at hl 3 rfl) ?_
        refine lv_iload_n hx hb dX7_tries_99 rfl (lv_at hl 1 rfl) ?_
        refine kb_put (own := RX7) (C := RX7) (T := TX7) (N := 19) hx hb hts hin7 tyX7 tyX7_ok nmX7 (ty := .int) hown hX hP hD hS 0 rfl rfl rfl 17 (by decide) rfl (by decide +kernel) (by decide +kernel) rfl rfl (Nat.le_of_ble_eq_true rfl) dX7_tries_100 (bX7_I17 a G (setA v 14 F) s1) (fun H locs hP hD hS => ?_)
        have hP : PP G [bX7 a G (setI (setA v 14 F) 17 s1)] H := hP
        have hD : DD (AA (List.flatten [bX7 a G v])) [bX7 a G (setI (setA v 14 F) 17 s1)] := D_re hD (adc (bX7_ad _ _ _ _) adn)
        refine lv_iconst (v := 0) hx hb dX7_tries_103 (by decide) ?_
        refine lv_istore_n (lv' := [(3, .int 0), (2, .int s1), (1, .int t1), (0, .ref (a 0))]) hx hb dX7_tries_104 rfl hl (by decide) rfl (fun ls hl => ?_)
        have eOV0 : (setA (setI (setA v 14 F) 17 s1) 16 (itN (s_bst (v.1 15)) (v.1 16) 0)) = (setI (setA v 14 F) 17 s1) := by
          refine Prod.ext (funext fun u => ?_) (funext fun u => ?_)
          · by_cases h14 : u = 14
            · subst h14; rfl
            · skip
              by_cases h16 : u = 16
              · subst h16; rfl
              · skip
                simp only [setA, setI, if_neg h14, if_neg h16]
          · by_cases h17 : u = 17
            · subst h17; rfl
            · skip
              simp only [setA, setI, if_neg h17]
        have hP : PP G [bX7 a G (setA (setI (setA v 14 F) 17 s1) 16 (itN (s_bst (v.1 15)) (v.1 16) 0))] H := by rw [eOV0]; exact hP
        have hD : DD (AA (List.flatten [bX7 a G v])) [bX7 a G (setA (setI (setA v 14 F) 17 s1) 16 (itN (s_bst (v.1 15)) (v.1 16) 0))] := D_re hD (adc (bX7_ad _ _ _ _) adn)
        refine lp_up (N := 4) (P := fun j => ∀ (H : Heap) (locs : List Loc) (ls : Array Slot), PP G [bX7 a G (setA (setI (setA v 14 F) 17 s1) 16 (itN (s_bst (v.1 15)) (v.1 16) j))] H → DD (AA (List.flatten [bX7 a G v])) [bX7 a G (setA (setI (setA v 14 F) 17 s1) 16 (itN (s_bst (v.1 15)) (v.1 16) j))] → va_S (AA (List.flatten [bX7 a G v])) s.heap H locs → lv_has ls 5 [(3, .int (nI j)), (2, .int s1), (1, .int t1), (0, .ref (a 0))] →  W p l e (headSpec wsX7_tries rm_X7_tries).room s m ([.ref (a 0)] : List Value).toArray below meth c H locs 0 0 (MQ below (kQs G [bX7 a G v] (fun r bc => r = none ∧ bc = [bX7 a G (g_triesV v)])) ([.ref (a 0)] : List Value).toArray s 0 0 (AA (List.flatten [bX7 a G v]))) (F0 m 105 ls [])) ?_ ?_ 0 (Nat.zero_le _)  _ _ _ hP hD hS (lv_sub hl [0, 1, 2, 3] rfl) 
        · skip
          intro H locs ls hP hD hS hl 
          refine lv_iload_n hx hb dX7_tries_105 rfl (lv_at hl 0 rfl) ?_
          refine lv_iconst (v := 4) hx hb dX7_tries_106 (by decide) ?_
          refine lv_icmp_ge (tgt := 128) hx hb dX7_tries_107 (by decide) (fun c_107 => ?_) (fun c_107 => absurd ((by decide : (4 : Int32) ≤ nI 4)) c_107)
          have hP : PP G [bX7 a G (g_triesV v)] H := by
            have hr2 : g_triesR v = (true, s1, F) := hs.trans (by rw [Nat.sub_self]; rfl)
            rw [g_triesV, hr2]
            simp only [tr_end, tr_best, if_true, if_pos c_13, if_neg c_87, if_neg c_95, if_pos c_107]
            exact hP
          exact kr_sv hx hb hr hlocks dX7_tries_128 hP hS (sameAd_cons (bX7_ad _ _ _ _) sameAd_nil) ⟨rfl, rfl⟩
        · skip
          intro j hk_j ih_105 H locs ls hP hD hS hl 
          refine lv_iload_n hx hb dX7_tries_105 rfl (lv_at hl 0 rfl) ?_
          refine lv_iconst (v := 4) hx hb dX7_tries_106 (by decide) ?_
          refine lv_icmp_ge (tgt := 128) hx hb dX7_tries_107 (by decide) (fun c_107 => absurd c_107 (nI_ge (b := 4) hk_j (by decide))) (fun c_107 => ?_)
          refine lv_aload_n hx hb dX7_tries_110 rfl (lv_at hl 3 rfl) ?_
          refine kb_get (own := RX7) (C := RX7) (T := TX7) (N := 19) (v := .ref (a 13)) hx hb hts hin7 hown hX hP 0 rfl rfl rfl 16 (by decide) rfl (by decide +kernel) rfl dX7_tries_111 ?_
          refine lv_iload_n hx hb dX7_tries_114 rfl (lv_at hl 0 rfl) ?_
          refine lv_aload_n hx hb dX7_tries_115 rfl (lv_at hl 3 rfl) ?_
          refine kb_get (own := RX7) (C := RX7) (T := TX7) (N := 19) (v := .ref (a 12)) hx hb hts hin7 hown hX hP 0 rfl rfl rfl 15 (by decide) rfl (by decide +kernel) rfl dX7_tries_116 ?_
          refine lv_iload_n hx hb dX7_tries_119 rfl (lv_at hl 0 rfl) ?_
          refine kb_ialdN (jn := j) (n := 4) (f := v.1 15) hx hb hX hP 0 12 rfl rfl rfl (by omega) (by decide) dX7_tries_120 ?_
          refine kb_iastN (jn := j) (n := 4) (f := itN (s_bst (v.1 15)) (v.1 16) j) hx hb hX hP hD hS 0 13 rfl rfl rfl (by omega) (by decide) dX7_tries_121 (bX7_A16 a G (setA (setI (setA v 14 F) 17 s1) 16 (itN (s_bst (v.1 15)) (v.1 16) j)) (upd (itN (s_bst (v.1 15)) (v.1 16) j) j ((v.1 15) j))) (fun H locs hP hD hS => ?_)
          have hP : PP G [bX7 a G (setA (setA (setI (setA v 14 F) 17 s1) 16 (itN (s_bst (v.1 15)) (v.1 16) j)) 16 (upd (itN (s_bst (v.1 15)) (v.1 16) j) j ((v.1 15) j)))] H := hP
          have hD : DD (AA (List.flatten [bX7 a G v])) [bX7 a G (setA (setA (setI (setA v 14 F) 17 s1) 16 (itN (s_bst (v.1 15)) (v.1 16) j)) 16 (upd (itN (s_bst (v.1 15)) (v.1 16) j) j ((v.1 15) j)))] := D_re hD (adc (bX7_ad _ _ _ _) adn)
          refine lv_iinc (v := nI (j + 1)) (lv' := [(3, .int (nI (j + 1))), (2, .int s1), (1, .int t1), (0, .ref (a 0))]) hx hb dX7_tries_122 hl (k := 0) rfl (nI_1 _) (by decide) rfl (fun ls hl => ?_)
          refine lv_goto (tgt := 105) hx hb dX7_tries_125 (by decide) ?_
          have hP : PP G [bX7 a G (setA (setI (setA v 14 F) 17 s1) 16 (itN (s_bst (v.1 15)) (v.1 16) (j + 1)))] H := by
            try simp only [ov_n1, ov_m1, ov_nc, ov_mc, ov_c] at hP ⊢
            exact hP
          have hD : DD (AA (List.flatten [bX7 a G v])) [bX7 a G (setA (setI (setA v 14 F) 17 s1) 16 (itN (s_bst (v.1 15)) (v.1 16) (j + 1)))] := D_re hD (adc (bX7_ad _ _ _ _) adn)
          exact ih_105  _ _ _ hP hD hS (show lv_has ls 5 [(3, .int (nI (j + 1))), (2, .int s1), (1, .int t1), (0, .ref (a 0))] from lv_sub hl [0, 1, 2, 3] rfl) 
  · skip
    intro k hk_k ih_6 t1 s1 F H locs ls hP hD hS hl hs
    refine lv_iload_n hx hb dX7_tries_6 rfl (lv_at hl 0 rfl) ?_
    refine lv_aload_n hx hb dX7_tries_7 rfl (lv_at hl 3 rfl) ?_
    refine kb_get (own := RX7) (C := RX7) (T := TX7) (N := 19) (v := .ref (a 6)) hx hb hts hin7 hown hX hP 0 rfl rfl rfl 7 (by decide) rfl (by decide +kernel) rfl dX7_tries_8 ?_
    refine lv_iconst (v := 0) hx hb dX7_tries_11 (by decide) ?_
    refine kb_ialdN (jn := 0) (n := 2) (f := v.1 7) hx hb hX hP 0 6 rfl rfl rfl (by omega) (by decide) dX7_tries_12 ?_
    refine lv_icmp_ge (tgt := 83) hx hb dX7_tries_13 (by decide) (fun c_13 => absurd c_13 (lps_c hk_k)) (fun c_13 => ?_)
    have hbk := (cl_of_vp (hRow k hk_k)).2
    refine lv_iload_n hx hb dX7_tries_16 rfl (lv_at hl 2 rfl) ?_
    refine lv_aload_n hx hb dX7_tries_17 rfl (lv_at hl 3 rfl) ?_
    refine kb_get (own := RX7) (C := RX7) (T := TX7) (N := 19) (v := .ref (a 12)) hx hb hts hin7 hown hX hP 0 rfl rfl rfl 15 (by decide) rfl (by decide +kernel) rfl dX7_tries_18 ?_
    refine lv_iload_n hx hb dX7_tries_21 rfl (lv_at hl 0 rfl) ?_
    refine kb_ialdN (jn := k) (n := 4) (f := v.1 15) hx hb hX hP 0 12 rfl rfl rfl (by omega) (by decide) dX7_tries_22 ?_
    refine lv_ishr hx hb dX7_tries_23 ?_
    refine lv_iconst (v := 1) hx hb dX7_tries_24 (by decide) ?_
    refine lv_iand hx hb dX7_tries_25 ?_
    refine lv_iconst (v := 1) hx hb dX7_tries_26 (by decide) ?_
    refine lv_icmp_ne (tgt := 31) hx hb dX7_tries_27 (by decide) (fun c_27 => ?_) (fun c_27 => ?_)
    · refine lv_iload_n hx hb dX7_tries_31 rfl (lv_at hl 2 rfl) ?_
      refine lv_iconst (v := 1) hx hb dX7_tries_32 (by decide) ?_
      refine lv_aload_n hx hb dX7_tries_33 rfl (lv_at hl 3 rfl) ?_
      refine kb_get (own := RX7) (C := RX7) (T := TX7) (N := 19) (v := .ref (a 12)) hx hb hts hin7 hown hX hP 0 rfl rfl rfl 15 (by decide) rfl (by decide +kernel) rfl dX7_tries_34 ?_
      refine lv_iload_n hx hb dX7_tries_37 rfl (lv_at hl 0 rfl) ?_
      refine kb_ialdN (jn := k) (n := 4) (f := v.1 15) hx hb hX hP 0 12 rfl rfl rfl (by omega) (by decide) dX7_tries_38 ?_
      refine lv_ishl hx hb dX7_tries_39 ?_
      refine lv_ior hx hb dX7_tries_40 ?_
      refine lv_istore_n (lv' := [(1, .int (t1 ||| (1 <<< (((v.1 15) k) &&& 31)))), (3, .int (nI k)), (2, .int s1), (0, .ref (a 0))]) hx hb dX7_tries_41 rfl hl (by decide) rfl (fun ls hl => ?_)
      refine lv_aload_n hx hb dX7_tries_42 rfl (lv_at hl 3 rfl) ?_
      refine lv_iconst (v := 0) hx hb dX7_tries_43 (by decide) ?_
      refine lv_iload_n hx hb dX7_tries_44 rfl (lv_at hl 1 rfl) ?_
      refine lv_aload_n hx hb dX7_tries_45 rfl (lv_at hl 3 rfl) ?_
      refine kb_get (own := RX7) (C := RX7) (T := TX7) (N := 19) (v := .ref (a 12)) hx hb hts hin7 hown hX hP 0 rfl rfl rfl 15 (by decide) rfl (by decide +kernel) rfl dX7_tries_46 ?_
      refine lv_iload_n hx hb dX7_tries_49 rfl (lv_at hl 1 rfl) ?_
      refine kb_ialdN (jn := k) (n := 4) (f := v.1 15) hx hb hX hP 0 12 rfl rfl rfl (by omega) (by decide) dX7_tries_50 ?_
      refine kb_nat ((cl_of_vp (hRow k hk_k)).1) ?_
      refine lv_aload_n hx hb dX7_tries_51 rfl (lv_at hl 3 rfl) ?_
      refine kb_get (own := RX7) (C := RX7) (T := TX7) (N := 19) (v := .ref (a 7)) hx hb hts hin7 hown hX hP 0 rfl rfl rfl 8 (by decide) rfl (by decide +kernel) rfl dX7_tries_52 ?_
      refine lv_iconst (v := 3) hx hb dX7_tries_55 (by decide) ?_
      refine lv_iload_n hx hb dX7_tries_56 rfl (lv_at hl 1 rfl) ?_
      refine lv_imul hx hb dX7_tries_57 ?_
      refine lv_iconst (v := 2) hx hb dX7_tries_58 (by decide) ?_
      refine lv_iadd hx hb dX7_tries_59 ?_
      refine kb_ialdN (jn := (3 * k) + 2) (n := 24) (f := v.1 8) hx hb hX hP 0 7 rfl rfl (by simp only [nI_addE, nI_mulE] <;> rfl) (by omega) (by decide) dX7_tries_60 ?_
      refine kcV_s hx hb hml hown hts hX hP hD hS (c_X7_wayOf l G a (setA v 14 F) 0 k (((v.1 15) k).toNatClampNeg) ((v.1 8) ((3 * k) + 2)) (by omega) (by omega) (by omega) hD8 hR) gX7_tries_X7_wayOf 4 rfl rfl rfl hd_X7_wayOf ⟨Nat.le_of_ble_eq_true rfl, Nat.le_of_ble_eq_true rfl⟩ [0] (by decide) rfl 0 rfl rfl rfl hl.1 rfl rfl (Nat.le_of_ble_eq_true rfl) dX7_tries_61 ⟨Nat.zero_le _, Nat.zero_le _⟩ (fun r_ bc_ hq_1 H locs hP hD hS => ?_)
      obtain ⟨rfl, rfl⟩ := hq_1
      have hP : PP G [bX7 a G (setA (setA v 14 F) 14 (g_ways ((v.1 5)) ((v.1 10)) ((v.1 4)) (F) 0 k ((v.1 8) ((3 * k) + 2)) 0))] H := hP
      have hD : DD (AA (List.flatten [bX7 a G v])) [bX7 a G (setA (setA v 14 F) 14 (g_ways ((v.1 5)) ((v.1 10)) ((v.1 4)) (F) 0 k ((v.1 8) ((3 * k) + 2)) 0))] := D_re hD (adc (bX7_ad _ _ _ _) adn)
      refine kb_rw (y := g_wayOf ((v.1 5)) ((v.1 10)) ((v.1 4)) (F) 0 k (((v.1 15) k).toNatClampNeg) ((v.1 8) ((3 * k) + 2))) rfl ?_
      refine lv_istore (lv' := [(4, .int (g_wayOf ((v.1 5)) ((v.1 10)) ((v.1 4)) (F) 0 k (((v.1 15) k).toNatClampNeg) ((v.1 8) ((3 * k) + 2)))), (1, .int (t1 ||| (1 <<< (((v.1 15) k) &&& 31)))), (3, .int (nI k)), (2, .int s1), (0, .ref (a 0))]) hx hb dX7_tries_64 hl (by decide) rfl (fun ls hl => ?_)
      refine lv_iload hx hb dX7_tries_66 (lv_at hl 0 rfl) ?_
      refine lv_if_ge (tgt := 72) hx hb dX7_tries_68 (by decide) (fun c_68 => ?_) (fun c_68 => ?_)
      · refine lv_iload_n hx hb dX7_tries_72 rfl (lv_at hl 3 rfl) ?_
        refine lv_iload hx hb dX7_tries_73 (lv_at hl 0 rfl) ?_
        refine lv_iadd hx hb dX7_tries_75 ?_
        refine lv_istore_n (lv' := [(2, .int (s1 + (g_wayOf ((v.1 5)) ((v.1 10)) ((v.1 4)) (F) 0 k (((v.1 15) k).toNatClampNeg) ((v.1 8) ((3 * k) + 2))))), (4, .int (g_wayOf ((v.1 5)) ((v.1 10)) ((v.1 4)) (F) 0 k (((v.1 15) k).toNatClampNeg) ((v.1 8) ((3 * k) + 2)))), (1, .int (t1 ||| (1 <<< (((v.1 15) k) &&& 31)))), (3, .int (nI k)), (0, .ref (a 0))]) hx hb dX7_tries_76 rfl hl (by decide) rfl (fun ls hl => ?_)
        refine lv_iinc (v := nI (k + 1)) (lv' := [(3, .int (nI (k + 1))), (2, .int (s1 + (g_wayOf ((v.1 5)) ((v.1 10)) ((v.1 4)) (F) 0 k (((v.1 15) k).toNatClampNeg) ((v.1 8) ((3 * k) + 2))))), (4, .int (g_wayOf ((v.1 5)) ((v.1 10)) ((v.1 4)) (F) 0 k (((v.1 15) k).toNatClampNeg) ((v.1 8) ((3 * k) + 2)))), (1, .int (t1 ||| (1 <<< (((v.1 15) k) &&& 31)))), (0, .ref (a 0))]) hx hb dX7_tries_77 hl (k := 3) rfl (nI_1 _) (by decide) rfl (fun ls hl => ?_)
        refine lv_goto (tgt := 6) hx hb dX7_tries_80 (by decide) ?_
        have hP : PP G [bX7 a G (setA (setA v 14 F) 14 (g_ways ((v.1 5)) ((v.1 10)) ((v.1 4)) (F) 0 k ((v.1 8) ((3 * k) + 2)) 0))] H := hP
        have hD : DD (AA (List.flatten [bX7 a G v])) [bX7 a G (setA (setA v 14 F) 14 (g_ways ((v.1 5)) ((v.1 10)) ((v.1 4)) (F) 0 k ((v.1 8) ((3 * k) + 2)) 0))] := D_re hD (adc (bX7_ad _ _ _ _) adn)
        exact ih_6 (t1 ||| (1 <<< (((v.1 15) k) &&& 31))) (s1 + (g_wayOf ((v.1 5)) ((v.1 10)) ((v.1 4)) (F) 0 k (((v.1 15) k).toNatClampNeg) ((v.1 8) ((3 * k) + 2)))) (g_ways ((v.1 5)) ((v.1 10)) ((v.1 4)) (F) 0 k ((v.1 8) ((3 * k) + 2)) 0) _ _ _ hP hD hS (show lv_has ls 5 [(3, .int (nI (k + 1))), (2, .int (s1 + (g_wayOf ((v.1 5)) ((v.1 10)) ((v.1 4)) (F) 0 k (((v.1 15) k).toNatClampNeg) ((v.1 8) ((3 * k) + 2))))), (1, .int (t1 ||| (1 <<< (((v.1 15) k) &&& 31)))), (0, .ref (a 0))] from lv_sub hl [0, 1, 3, 4] rfl) (hs.trans (by rw [fuel_s hk_k]; simp only [triesGo, if_neg c_13, if_neg c_27, if_pos c_68]))
      · have hP : PP G [bX7 a G (g_triesV v)] H := by
          have hr2 : g_triesR v = (false, s1, g_ways (v.1 5) (v.1 10) (v.1 4) F 0 k (v.1 8 (3 * k + 2)) 0) := hs.trans (by rw [fuel_s hk_k]; simp only [triesGo, if_neg c_13, if_neg c_27, if_neg c_68])
          rw [g_triesV, hr2]
          try simp only [ov_n1, ov_m1, ov_nc, ov_mc, ov_c] at hP ⊢
          exact hP
        exact kr_sv hx hb hr hlocks dX7_tries_71 hP hS (sameAd_cons (bX7_ad _ _ _ _) sameAd_nil) ⟨rfl, rfl⟩
    · have hP : PP G [bX7 a G (g_triesV v)] H := by
        have hr2 : g_triesR v = (false, s1, F) := hs.trans (by rw [fuel_s hk_k]; simp only [triesGo, if_neg c_13, if_pos c_27])
        rw [g_triesV, hr2]
        exact hP
      exact kr_sv hx hb hr hlocks dX7_tries_30 hP hS (sameAd_cons (bX7_ad _ _ _ _) sameAd_nil) ⟨rfl, rfl⟩

def rm_X7_rooms : Room := { frames := 4, cells := 0, slots := 0, locals := 100 }
theorem hd_X7_rooms : yX7_rooms.cls = RX7 ∧ yX7_rooms.cls ≠ "java/lang/invoke/MethodHandle" ∧ yX7_rooms.cls ≠ "java/lang/invoke/VarHandle" ∧ (parseMethodDescriptor yX7_rooms.desc).map (fun d => d.parameters.length) = some 1 := by decide +kernel
set_option maxRecDepth 100000 in
set_option maxHeartbeats 4000000 in
theorem c_X7_rooms (l : Launch) (G : GD) (a : Nat → Nat) (v : OV) (x1 : Int32) (tn ln : Nat) (htn : v.1 3 0 = nI tn) (ht2 : 2 ≤ tn) (ht6 : tn ≤ 6) (hln : v.1 7 0 = nI ln) (hl4 : ln ≤ 4) (hD8 : (v.1 4 0).toNatClampNeg ≤ 8) (hR : ∀ d, d < (v.1 4 0).toNatClampNeg → vp_in (v.1 5 (3 * d)) 6 ∧ vp_in (v.1 5 (3 * d + 1)) 6) : MetS l yX7_rooms wsX7_rooms rm_X7_rooms G [bX7 a G v] [.ref (a 0), .int x1] (fun r bc => r = some (.int (g_roomsR v tn ln x1)) ∧ bc = [bX7 a G (g_roomsV v tn ln x1)]) := by
  refine kb_beginS (cc := cX7_rooms) (maxL := 6) (ret := (some .int)) (by decide) rfl (Nat.le_of_ble_eq_true rfl) ?_
  intro p e s m below meth c hx hb hr hml hown hts hlocks hX H locs hP hD hS ls hl
  have hown : s.vm.findClass RX7 = some m.cls := hown
  have hl : lv_has ls 6 [(0, .ref (a 0)), (1, .int x1)] := hl
  have hin7 : ∀ w ∈ u_ws RX7 TX7 19, w ∈ wsX7_rooms := (fun _ h => List.mem_cons_of_mem _ (List.mem_append_right _ (h)))
  have hpb := pow_b ht6 hl4
  refine lv_iload_n hx hb dX7_rooms_0 rfl (lv_at hl 1 rfl) ?_
  refine lv_i2l (v := (x1 : Int32).toInt64) hx hb dX7_rooms_1 rfl ?_
  refine lv_ldc2 (own := RX7) (v := (-1)) hx hb hown (hts (.constantLong RX7 179 (-1)) (by decide +kernel)) dX7_rooms_2 ?_
  refine lv_aload_n hx hb dX7_rooms_5 rfl (lv_at hl 0 rfl) ?_
  refine kb_get (own := RX7) (C := RX7) (T := TX7) (N := 19) (v := .ref (a 6)) hx hb hts hin7 hown hX hP 0 rfl rfl rfl 7 (by decide) rfl (by decide +kernel) rfl dX7_rooms_6 ?_
  refine lv_iconst (v := 0) hx hb dX7_rooms_9 (by decide) ?_
  refine kb_ialdN (jn := 0) (n := 2) (f := v.1 7) hx hb hX hP 0 6 rfl rfl rfl (by omega) (by decide) dX7_rooms_10 ?_
  refine lv_iconst (v := 1) hx hb dX7_rooms_11 (by decide) ?_
  refine lv_isub hx hb dX7_rooms_12 ?_
  refine lv_i2l (v := (((v.1 7) 0) - 1 : Int32).toInt64) hx hb dX7_rooms_13 rfl ?_
  refine kcS_p hx hb hml hown hts hX hP (c_X7_in l G ((x1 : Int32).toInt64) (-1) ((((v.1 7) 0) - 1 : Int32).toInt64)) gX7_rooms_X7_in 3 rfl rfl rfl hdS_X7_in ⟨Nat.le_of_ble_eq_true rfl, Nat.le_of_ble_eq_true rfl⟩ (fun q hq => absurd hq List.not_mem_nil) hl.1 rfl rfl (Nat.le_of_ble_eq_true rfl) dX7_rooms_14 ⟨Nat.zero_le _, Nat.zero_le _⟩ ?_
  refine lv_if_ne (tgt := 22) hx hb dX7_rooms_17 (by decide) (fun c_17r => ?_) (fun c_17r => ?_)
  · have c_17 := b2i_tP c_17r
    refine lv_aload_n hx hb dX7_rooms_22 rfl (lv_at hl 0 rfl) ?_
    refine lv_iconst (v := (-1)) hx hb dX7_rooms_23 (by decide) ?_
    refine kb_put (own := RX7) (C := RX7) (T := TX7) (N := 19) hx hb hts hin7 tyX7 tyX7_ok nmX7 (ty := .int) hown hX hP hD hS 0 rfl rfl rfl 17 (by decide) rfl (by decide +kernel) (by decide +kernel) rfl rfl (Nat.le_of_ble_eq_true rfl) dX7_rooms_24 (bX7_I17 a G v (-1)) (fun H locs hP hD hS => ?_)
    have hP : PP G [bX7 a G (setI v 17 (-1))] H := hP
    have hD : DD (AA (List.flatten [bX7 a G v])) [bX7 a G (setI v 17 (-1))] := D_re hD (adc (bX7_ad _ _ _ _) adn)
    refine lv_iconst (v := 1) hx hb dX7_rooms_27 (by decide) ?_
    refine lv_istore_n (lv' := [(2, .int 1), (0, .ref (a 0)), (1, .int x1)]) hx hb dX7_rooms_28 rfl hl (by decide) rfl (fun ls hl => ?_)
    refine lv_iconst (v := 0) hx hb dX7_rooms_29 (by decide) ?_
    refine lv_istore_n (lv' := [(3, .int 0), (2, .int 1), (0, .ref (a 0)), (1, .int x1)]) hx hb dX7_rooms_30 rfl hl (by decide) rfl (fun ls hl => ?_)
    have hl := hl
    refine lp_up (N := ln) (P := fun k => ∀ (H : Heap) (locs : List Loc) (ls : Array Slot), PP G [bX7 a G (setI v 17 (-1))] H → DD (AA (List.flatten [bX7 a G v])) [bX7 a G (setI v 17 (-1))] → va_S (AA (List.flatten [bX7 a G v])) s.heap H locs → lv_has ls 6 [(3, .int (nI k)), (2, .int (nI (tn ^ k))), (0, .ref (a 0)), (1, .int x1)] →  W p l e (headSpec wsX7_rooms rm_X7_rooms).room s m ([.ref (a 0), .int x1] : List Value).toArray below meth c H locs 0 0 (MQ below (kQs G [bX7 a G v] (fun r bc => r = some (.int (g_roomsR v tn ln x1)) ∧ bc = [bX7 a G (g_roomsV v tn ln x1)])) ([.ref (a 0), .int x1] : List Value).toArray s 0 0 (AA (List.flatten [bX7 a G v]))) (F0 m 31 ls [])) ?_ ?_ 0 (Nat.zero_le _)  _ _ _ hP hD hS (lv_sub hl [0, 1, 2, 3] rfl) 
    · skip
      intro H locs ls hP hD hS hl 
      refine lv_iload_n hx hb dX7_rooms_31 rfl (lv_at hl 0 rfl) ?_
      refine lv_aload_n hx hb dX7_rooms_32 rfl (lv_at hl 2 rfl) ?_
      refine kb_get (own := RX7) (C := RX7) (T := TX7) (N := 19) (v := .ref (a 6)) hx hb hts hin7 hown hX hP 0 rfl rfl rfl 7 (by decide) rfl (by decide +kernel) rfl dX7_rooms_33 ?_
      refine lv_iconst (v := 0) hx hb dX7_rooms_36 (by decide) ?_
      refine kb_ialdN (jn := 0) (n := 2) (f := v.1 7) hx hb hX hP 0 6 rfl rfl rfl (by omega) (by decide) dX7_rooms_37 ?_
      refine kb_rw (y := nI ln) (hln) ?_
      refine lv_icmp_ge (tgt := 56) hx hb dX7_rooms_38 (by decide) (fun c_38 => ?_) (fun c_38 => absurd (lpx _) c_38)
      refine lv_iconst (v := 0) hx hb dX7_rooms_56 (by decide) ?_
      refine lv_istore_n (lv' := [(3, .int 0), (2, .int (nI (tn ^ ln))), (0, .ref (a 0)), (1, .int x1)]) hx hb dX7_rooms_57 rfl hl (by decide) rfl (fun ls hl => ?_)
      refine lp_up (N := tn ^ ln) (P := fun cd => ∀ (u : OV), ∀ (H : Heap) (locs : List Loc) (ls : Array Slot), PP G [bX7 a G u] H → DD (AA (List.flatten [bX7 a G v])) [bX7 a G u] → va_S (AA (List.flatten [bX7 a G v])) s.heap H locs → lv_has ls 6 [(3, .int (nI cd)), (2, .int (nI (tn ^ ln))), (0, .ref (a 0)), (1, .int x1)] → (rmOk v u) → (g_roomsU v tn ln cd = u) → W p l e (headSpec wsX7_rooms rm_X7_rooms).room s m ([.ref (a 0), .int x1] : List Value).toArray below meth c H locs 0 0 (MQ below (kQs G [bX7 a G v] (fun r bc => r = some (.int (g_roomsR v tn ln x1)) ∧ bc = [bX7 a G (g_roomsV v tn ln x1)])) ([.ref (a 0), .int x1] : List Value).toArray s 0 0 (AA (List.flatten [bX7 a G v]))) (F0 m 58 ls [])) ?_ ?_ 0 (Nat.zero_le _) (setI v 17 (-1)) _ _ _ hP hD hS (lv_sub hl [0, 1, 2, 3] rfl) (fun t _ _ _ => rfl) (rfl)
      · skip
        intro u H locs ls hP hD hS hl hu hs
        refine lv_iload_n hx hb dX7_rooms_58 rfl (lv_at hl 0 rfl) ?_
        refine lv_iload_n hx hb dX7_rooms_59 rfl (lv_at hl 1 rfl) ?_
        refine lv_icmp_ge (tgt := 124) hx hb dX7_rooms_60 (by decide) (fun c_60 => ?_) (fun c_60 => absurd (lpx _) c_60)
        refine lv_aload_n hx hb dX7_rooms_124 rfl (lv_at hl 2 rfl) ?_
        refine kb_get (own := RX7) (C := RX7) (T := TX7) (N := 19) (v := .int (u.2 17)) hx hb hts hin7 hown hX hP 0 rfl rfl rfl 17 (by decide) rfl (by decide +kernel) rfl dX7_rooms_125 ?_
        refine lv_if_ge (tgt := 136) hx hb dX7_rooms_128 (by decide) (fun c_128 => ?_) (fun c_128 => ?_)
        · refine lv_iload_n hx hb dX7_rooms_136 rfl (lv_at hl 3 rfl) ?_
          refine lv_if_ge (tgt := 147) hx hb dX7_rooms_137 (by decide) (fun c_137 => ?_) (fun c_137 => ?_)
          · have hix := rm_ix (x := x1) (n := ln) (by rw [← hln]; exact c_17) hl4 c_137
            refine lv_aload_n hx hb dX7_rooms_147 rfl (lv_at hl 2 rfl) ?_
            refine kb_get (own := RX7) (C := RX7) (T := TX7) (N := 19) (v := .ref (a 13)) hx hb hts hin7 hown hX hP 0 rfl rfl rfl 16 (by decide) rfl (by decide +kernel) rfl dX7_rooms_148 ?_
            refine lv_iload_n hx hb dX7_rooms_151 rfl (lv_at hl 3 rfl) ?_
            refine kb_nat (hix.1) ?_
            refine kb_ialdN (jn := (x1).toNatClampNeg) (n := 4) (f := u.1 16) hx hb hX hP 0 13 rfl rfl rfl (by omega) (by decide) dX7_rooms_152 ?_
            have hP : PP G [bX7 a G (g_roomsV v tn ln x1)] H := by
              rw [g_roomsV, if_pos c_17, hs]
              exact hP
            exact kr_si hx hb hr hlocks dX7_rooms_153 hP hS (sameAd_cons (bX7_ad _ _ _ _) sameAd_nil) ⟨by rw [g_roomsR, if_pos c_17, hs]; simp only [if_pos c_128, if_pos c_137] <;> rfl, rfl⟩
          · refine lv_aload_n hx hb dX7_rooms_140 rfl (lv_at hl 2 rfl) ?_
            refine kb_get (own := RX7) (C := RX7) (T := TX7) (N := 19) (v := .int (u.2 17)) hx hb hts hin7 hown hX hP 0 rfl rfl rfl 17 (by decide) rfl (by decide +kernel) rfl dX7_rooms_141 ?_
            refine lv_goto (tgt := 153) hx hb dX7_rooms_144 (by decide) ?_
            have hP : PP G [bX7 a G (g_roomsV v tn ln x1)] H := by
              rw [g_roomsV, if_pos c_17, hs]
              exact hP
            exact kr_si hx hb hr hlocks dX7_rooms_153 hP hS (sameAd_cons (bX7_ad _ _ _ _) sameAd_nil) ⟨by rw [g_roomsR, if_pos c_17, hs]; simp only [if_pos c_128, if_neg c_137] <;> rfl, rfl⟩
        · refine lv_bipush (v := (-4)) hx hb dX7_rooms_131 (by decide) ?_
          refine lv_goto (tgt := 153) hx hb dX7_rooms_133 (by decide) ?_
          have hP : PP G [bX7 a G (g_roomsV v tn ln x1)] H := by
            rw [g_roomsV, if_pos c_17, hs]
            exact hP
          exact kr_si hx hb hr hlocks dX7_rooms_153 hP hS (sameAd_cons (bX7_ad _ _ _ _) sameAd_nil) ⟨by rw [g_roomsR, if_pos c_17, hs]; simp only [if_neg c_128] <;> rfl, rfl⟩
      · skip
        intro cd hk_cd ih_58 u H locs ls hP hD hS hl hu hs
        refine lv_iload_n hx hb dX7_rooms_58 rfl (lv_at hl 0 rfl) ?_
        refine lv_iload_n hx hb dX7_rooms_59 rfl (lv_at hl 1 rfl) ?_
        refine lv_icmp_ge (tgt := 124) hx hb dX7_rooms_60 (by decide) (fun c_60 => absurd c_60 (nI_ge hk_cd hpb)) (fun c_60 => ?_)
        refine lv_iload_n hx hb dX7_rooms_63 rfl (lv_at hl 0 rfl) ?_
        refine lv_istore (lv' := [(4, .int (nI cd)), (3, .int (nI cd)), (2, .int (nI (tn ^ ln))), (0, .ref (a 0)), (1, .int x1)]) hx hb dX7_rooms_64 hl (by decide) rfl (fun ls hl => ?_)
        refine lv_aload_n hx hb dX7_rooms_66 rfl (lv_at hl 3 rfl) ?_
        refine kb_get (own := RX7) (C := RX7) (T := TX7) (N := 19) (v := .ref (a 6)) hx hb hts hin7 hown hX hP 0 rfl rfl rfl 7 (by decide) rfl (by decide +kernel) rfl dX7_rooms_67 ?_
        refine lv_iconst (v := 0) hx hb dX7_rooms_70 (by decide) ?_
        refine kb_ialdN (jn := 0) (n := 2) (f := u.1 7) hx hb hX hP 0 6 rfl rfl rfl (by omega) (by decide) dX7_rooms_71 ?_
        refine kb_rw (y := nI ln) ((show u.1 7 0 = nI ln from by rw [show u.1 7 = v.1 7 from hu 7 (by decide) (by decide) (by decide)]; exact hln)) ?_
        refine lv_iconst (v := 1) hx hb dX7_rooms_72 (by decide) ?_
        refine lv_isub hx hb dX7_rooms_73 ?_
        refine lv_istore (lv' := [(5, .int ((nI ln) - 1)), (4, .int (nI cd)), (3, .int (nI cd)), (2, .int (nI (tn ^ ln))), (0, .ref (a 0)), (1, .int x1)]) hx hb dX7_rooms_74 hl (by decide) rfl (fun ls hl => ?_)
        have hP : PP G [bX7 a G (setA u 15 (u.1 15))] H := by rw [ov_id]; exact hP
        have hD : DD (AA (List.flatten [bX7 a G v])) [bX7 a G (setA u 15 (u.1 15))] := D_re hD (adc (bX7_ad _ _ _ _) adn)
        refine lp_dn (P := fun k => ∀ (n : Nat), ∀ (X : Nat → Int32), ∀ (H : Heap) (locs : List Loc) (ls : Array Slot), PP G [bX7 a G (setA u 15 X)] H → DD (AA (List.flatten [bX7 a G v])) [bX7 a G (setA u 15 X)] → va_S (AA (List.flatten [bX7 a G v])) s.heap H locs → lv_has ls 6 [(5, .int (nI k - 1)), (4, .int (nI n)), (3, .int (nI cd)), (2, .int (nI (tn ^ ln))), (0, .ref (a 0)), (1, .int x1)] → (k ≤ ln) → (n < 2 ^ 31) → (rowGo tn ln cd (u.1 15) = rowGo tn k n X) → W p l e (headSpec wsX7_rooms rm_X7_rooms).room s m ([.ref (a 0), .int x1] : List Value).toArray below meth c H locs 0 0 (MQ below (kQs G [bX7 a G v] (fun r bc => r = some (.int (g_roomsR v tn ln x1)) ∧ bc = [bX7 a G (g_roomsV v tn ln x1)])) ([.ref (a 0), .int x1] : List Value).toArray s 0 0 (AA (List.flatten [bX7 a G v]))) (F0 m 76 ls [])) ?_ ?_ ln cd (u.1 15) _ _ _ hP hD hS (lv_sub hl [0, 1, 2, 3, 4, 5] rfl) (Nat.le_refl _) (by omega) (rfl)
        · skip
          intro n X H locs ls hP hD hS hl hkb hnb hs2
          refine lv_iload hx hb dX7_rooms_76 (lv_at hl 0 rfl) ?_
          refine lv_if_lt (tgt := 114) hx hb dX7_rooms_78 (by decide) (fun c_78 => ?_) (fun c_78 => absurd ((by decide : nI 0 - 1 < 0)) c_78)
          have hr3 : rowGo tn ln cd (u.1 15) = X := hs2
          refine lv_aload_n hx hb dX7_rooms_114 rfl (lv_at hl 4 rfl) ?_
          refine kcV_s hx hb hml hown hts hX hP hD hS (c_X7_tries l G a (setA u 15 X) (show (u.1 4 0).toNatClampNeg ≤ 8 from by rw [show u.1 4 = v.1 4 from hu 4 (by decide) (by decide) (by decide)]; exact hD8) (show (u.1 7 0).toNatClampNeg ≤ 4 from by rw [show u.1 7 = v.1 7 from hu 7 (by decide) (by decide) (by decide), hln, nI_clamp (by omega)]; exact hl4) (show ∀ d, d < (u.1 4 0).toNatClampNeg → vp_in (u.1 5 (3 * d)) 6 ∧ vp_in (u.1 5 (3 * d + 1)) 6 from by rw [show u.1 4 = v.1 4 from hu 4 (by decide) (by decide) (by decide), show u.1 5 = v.1 5 from hu 5 (by decide) (by decide) (by decide)]; exact hR) (show ∀ i, i < (u.1 7 0).toNatClampNeg → vp_in (X i) 6 from by rw [show u.1 7 = v.1 7 from hu 7 (by decide) (by decide) (by decide), hln, nI_clamp (by omega)]; intro i hi; rw [← hr3]; exact row_vp (by omega) ht6 _ _ _ i hi)) gX7_rooms_X7_tries 0 rfl rfl rfl hd_X7_tries ⟨Nat.le_of_ble_eq_true rfl, Nat.le_of_ble_eq_true rfl⟩ [0] (by decide) rfl 0 rfl rfl rfl hl.1 rfl rfl (Nat.le_of_ble_eq_true rfl) dX7_rooms_115 ⟨Nat.zero_le _, Nat.zero_le _⟩ (fun r_ bc_ hq_1 H locs hP hD hS => ?_)
          obtain ⟨rfl, rfl⟩ := hq_1
          have hP : PP G [bX7 a G (g_triesV (setA u 15 X))] H := hP
          have hD : DD (AA (List.flatten [bX7 a G v])) [bX7 a G (g_triesV (setA u 15 X))] := D_re hD (adc (bX7_ad _ _ _ _) adn)
          refine lv_iinc (v := nI (cd + 1)) (lv' := [(3, .int (nI (cd + 1))), (5, .int (nI 0 - 1)), (4, .int (nI n)), (2, .int (nI (tn ^ ln))), (0, .ref (a 0)), (1, .int x1)]) hx hb dX7_rooms_118 hl (k := 2) rfl (nI_1 _) (by decide) rfl (fun ls hl => ?_)
          refine lv_goto (tgt := 58) hx hb dX7_rooms_121 (by decide) ?_
          have hP : PP G [bX7 a G (g_triesV (setA u 15 X))] H := hP
          have hD : DD (AA (List.flatten [bX7 a G v])) [bX7 a G (g_triesV (setA u 15 X))] := D_re hD (adc (bX7_ad _ _ _ _) adn)
          exact ih_58 (g_triesV (setA u 15 X)) _ _ _ hP hD hS (show lv_has ls 6 [(3, .int (nI (cd + 1))), (2, .int (nI (tn ^ ln))), (0, .ref (a 0)), (1, .int x1)] from lv_sub hl [0, 3, 4, 5] rfl) (tr_ok hu) (by rw [g_roomsU, itN_s, ← g_roomsU, hs, s_code, hr3])
        · skip
          intro k ih_76 n X H locs ls hP hD hS hl hkb hnb hs2
          rw [nI_pred] at hl
          refine lv_iload hx hb dX7_rooms_76 (lv_at hl 0 rfl) ?_
          refine lv_if_lt (tgt := 114) hx hb dX7_rooms_78 (by decide) (fun c_78 => absurd c_78 (nI_pos (show k < 2 ^ 31 by omega))) (fun c_78 => ?_)
          refine lv_aload_n hx hb dX7_rooms_81 rfl (lv_at hl 4 rfl) ?_
          refine kb_get (own := RX7) (C := RX7) (T := TX7) (N := 19) (v := .ref (a 12)) hx hb hts hin7 hown hX hP 0 rfl rfl rfl 15 (by decide) rfl (by decide +kernel) rfl dX7_rooms_82 ?_
          refine lv_iload hx hb dX7_rooms_85 (lv_at hl 0 rfl) ?_
          refine lv_iload hx hb dX7_rooms_87 (lv_at hl 1 rfl) ?_
          refine lv_aload_n hx hb dX7_rooms_89 rfl (lv_at hl 4 rfl) ?_
          refine kb_get (own := RX7) (C := RX7) (T := TX7) (N := 19) (v := .ref (a 2)) hx hb hts hin7 hown hX hP 0 rfl rfl rfl 3 (by decide) rfl (by decide +kernel) rfl dX7_rooms_90 ?_
          refine lv_iconst (v := 0) hx hb dX7_rooms_93 (by decide) ?_
          refine kb_ialdN (jn := 0) (n := 10) (f := u.1 3) hx hb hX hP 0 2 rfl rfl rfl (by omega) (by decide) dX7_rooms_94 ?_
          refine kb_rw (y := nI tn) ((show u.1 3 0 = nI tn from by rw [show u.1 3 = v.1 3 from hu 3 (by decide) (by decide) (by decide)]; exact htn)) ?_
          refine lv_irem hx hb dX7_rooms_95 (nI_ne0 (by omega) (by omega)) ?_
          refine kb_rw (y := nI (n % tn)) (pk_rem hnb (by omega) (by omega)) ?_
          refine kb_iastN (jn := k) (n := 4) (f := X) hx hb hX hP hD hS 0 12 rfl rfl rfl (by omega) (by decide) dX7_rooms_96 (bX7_A15 a G (setA u 15 X) (upd X k (nI (n % tn)))) (fun H locs hP hD hS => ?_)
          have hP : PP G [bX7 a G (setA (setA u 15 X) 15 (upd X k (nI (n % tn))))] H := hP
          have hD : DD (AA (List.flatten [bX7 a G v])) [bX7 a G (setA (setA u 15 X) 15 (upd X k (nI (n % tn))))] := D_re hD (adc (bX7_ad _ _ _ _) adn)
          refine lv_iload hx hb dX7_rooms_97 (lv_at hl 1 rfl) ?_
          refine lv_aload_n hx hb dX7_rooms_99 rfl (lv_at hl 4 rfl) ?_
          refine kb_get (own := RX7) (C := RX7) (T := TX7) (N := 19) (v := .ref (a 2)) hx hb hts hin7 hown hX hP 0 rfl rfl rfl 3 (by decide) rfl (by decide +kernel) rfl dX7_rooms_100 ?_
          refine lv_iconst (v := 0) hx hb dX7_rooms_103 (by decide) ?_
          refine kb_ialdN (jn := 0) (n := 10) (f := u.1 3) hx hb hX hP 0 2 rfl rfl rfl (by omega) (by decide) dX7_rooms_104 ?_
          refine kb_rw (y := nI tn) ((show u.1 3 0 = nI tn from by rw [show u.1 3 = v.1 3 from hu 3 (by decide) (by decide) (by decide)]; exact htn)) ?_
          refine lv_idiv hx hb dX7_rooms_105 (nI_ne0 (by omega) (by omega)) ?_
          refine kb_rw (y := nI (n / tn)) (pk_div hnb (by omega) (by omega)) ?_
          refine lv_istore (lv' := [(4, .int (nI (n / tn))), (5, .int (nI k)), (3, .int (nI cd)), (2, .int (nI (tn ^ ln))), (0, .ref (a 0)), (1, .int x1)]) hx hb dX7_rooms_106 hl (by decide) rfl (fun ls hl => ?_)
          refine lv_iinc (v := (nI k) - 1) (lv' := [(5, .int ((nI k) - 1)), (4, .int (nI (n / tn))), (3, .int (nI cd)), (2, .int (nI (tn ^ ln))), (0, .ref (a 0)), (1, .int x1)]) hx hb dX7_rooms_108 hl (k := 1) rfl (dec1 _) (by decide) rfl (fun ls hl => ?_)
          refine lv_goto (tgt := 76) hx hb dX7_rooms_111 (by decide) ?_
          have hP : PP G [bX7 a G (setA (setA u 15 X) 15 (upd X k (nI (n % tn))))] H := hP
          have hD : DD (AA (List.flatten [bX7 a G v])) [bX7 a G (setA (setA u 15 X) 15 (upd X k (nI (n % tn))))] := D_re hD (adc (bX7_ad _ _ _ _) adn)
          exact ih_76 (n / tn) (upd X k (nI (n % tn))) _ _ _ hP hD hS (show lv_has ls 6 [(5, .int ((nI k) - 1)), (4, .int (nI (n / tn))), (3, .int (nI cd)), (2, .int (nI (tn ^ ln))), (0, .ref (a 0)), (1, .int x1)] from lv_sub hl [0, 1, 2, 3, 4, 5] rfl) (by omega) (Nat.lt_of_le_of_lt (Nat.div_le_self _ _) hnb) (hs2)
    · skip
      intro k hk_k ih_31 H locs ls hP hD hS hl 
      refine lv_iload_n hx hb dX7_rooms_31 rfl (lv_at hl 0 rfl) ?_
      refine lv_aload_n hx hb dX7_rooms_32 rfl (lv_at hl 2 rfl) ?_
      refine kb_get (own := RX7) (C := RX7) (T := TX7) (N := 19) (v := .ref (a 6)) hx hb hts hin7 hown hX hP 0 rfl rfl rfl 7 (by decide) rfl (by decide +kernel) rfl dX7_rooms_33 ?_
      refine lv_iconst (v := 0) hx hb dX7_rooms_36 (by decide) ?_
      refine kb_ialdN (jn := 0) (n := 2) (f := v.1 7) hx hb hX hP 0 6 rfl rfl rfl (by omega) (by decide) dX7_rooms_37 ?_
      refine kb_rw (y := nI ln) (hln) ?_
      refine lv_icmp_ge (tgt := 56) hx hb dX7_rooms_38 (by decide) (fun c_38 => absurd c_38 (nI_ge hk_k (by omega))) (fun c_38 => ?_)
      refine lv_iload_n hx hb dX7_rooms_41 rfl (lv_at hl 1 rfl) ?_
      refine lv_aload_n hx hb dX7_rooms_42 rfl (lv_at hl 2 rfl) ?_
      refine kb_get (own := RX7) (C := RX7) (T := TX7) (N := 19) (v := .ref (a 2)) hx hb hts hin7 hown hX hP 0 rfl rfl rfl 3 (by decide) rfl (by decide +kernel) rfl dX7_rooms_43 ?_
      refine lv_iconst (v := 0) hx hb dX7_rooms_46 (by decide) ?_
      refine kb_ialdN (jn := 0) (n := 10) (f := v.1 3) hx hb hX hP 0 2 rfl rfl rfl (by omega) (by decide) dX7_rooms_47 ?_
      refine kb_rw (y := nI tn) (htn) ?_
      refine lv_imul hx hb dX7_rooms_48 ?_
      refine kb_rw (y := nI (tn ^ (k + 1))) (pk_mul _ _) ?_
      refine lv_istore_n (lv' := [(2, .int (nI (tn ^ (k + 1)))), (3, .int (nI k)), (0, .ref (a 0)), (1, .int x1)]) hx hb dX7_rooms_49 rfl hl (by decide) rfl (fun ls hl => ?_)
      refine lv_iinc (v := nI (k + 1)) (lv' := [(3, .int (nI (k + 1))), (2, .int (nI (tn ^ (k + 1)))), (0, .ref (a 0)), (1, .int x1)]) hx hb dX7_rooms_50 hl (k := 1) rfl (nI_1 _) (by decide) rfl (fun ls hl => ?_)
      refine lv_goto (tgt := 31) hx hb dX7_rooms_53 (by decide) ?_
      have hP : PP G [bX7 a G (setI v 17 (-1))] H := hP
      have hD : DD (AA (List.flatten [bX7 a G v])) [bX7 a G (setI v 17 (-1))] := D_re hD (adc (bX7_ad _ _ _ _) adn)
      exact ih_31  _ _ _ hP hD hS (show lv_has ls 6 [(3, .int (nI (k + 1))), (2, .int (nI (tn ^ (k + 1)))), (0, .ref (a 0)), (1, .int x1)] from lv_sub hl [0, 1, 2, 3] rfl) 
  · have c_17 := b2i_fN c_17r
    refine lv_iconst (v := (-1)) hx hb dX7_rooms_20 (by decide) ?_
    have hP : PP G [bX7 a G (g_roomsV v tn ln x1)] H := by
      rw [g_roomsV, if_neg c_17]
      exact hP
    exact kr_si hx hb hr hlocks dX7_rooms_21 hP hS (sameAd_cons (bX7_ad _ _ _ _) sameAd_nil) ⟨by rw [g_roomsR, if_neg c_17], rfl⟩
