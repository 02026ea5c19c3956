/-! the text, the ways, the rooming -/
theorem narrow_b2i (b : Bool) : narrow .boolean (.int (b2i b)) = .int (b2i b) := by cases b <;> rfl
def f_X4_append (v : OV) (x : Int32) : OV := if 300 ≤ v.2 3 then v else setI (setA v 0 (rPut (v.1 0) 300 (v.2 3) x)) 3 (v.2 3 + 1)
def f_X4_byteAt (v : OV) (q : Int32) : Int32 := if v.2 3 ≤ q then -1 else rAt (v.1 0) 300 q
def f_X4_isFigure (v : OV) (q : Int32) : Bool := fWithin (f_X4_byteAt v q) 48 57
def f_X4_figuresAt (v : OV) (q : Int32) : Int32 := if f_X4_isFigure v q = true then (if f_X4_isFigure v (q + 1) = true then 2 else 1) else 0
def f_X4_numberAt (v : OV) (q n : Int32) : Int32 := if n = 2 then (f_X4_byteAt v q - 48) * 10 + f_X4_byteAt v (q + 1) - 48 else f_X4_byteAt v q - 48
abbrev sc1 (u : OV) (q : Int32) (k : Nat) : OV := setI (setA u 1 (rPut (u.1 1) 3 (nI k) (f_X4_numberAt u q (f_X4_figuresAt u q)))) 2 (nI k + 1)
def scanGo : Nat → OV → Int32 → Nat → OV × Int32
  | 0, u, _, _ => (u, -1)
  | n + 1, u, q, k => if f_X4_figuresAt u q = 0 then (u, -1) else
    if f_X4_byteAt (sc1 u q k) (q + f_X4_figuresAt u q) = 59 then (sc1 u q k, q + (f_X4_figuresAt u q + 1)) else
    if f_X4_byteAt (sc1 u q k) (q + f_X4_figuresAt u q) = 44 then scanGo n (sc1 u q k) (q + (f_X4_figuresAt u q + 1)) (k + 1) else (sc1 u q k, -1)
theorem scan_s {u : OV} {q : Int32} {k : Nat} (hk : k < 3) (c1 : ¬ f_X4_figuresAt u q = 0) (c2 : ¬ f_X4_byteAt (sc1 u q k) (q + f_X4_figuresAt u q) = 59) (c3 : f_X4_byteAt (sc1 u q k) (q + f_X4_figuresAt u q) = 44) : scanGo (3 - k) u q k = scanGo (3 - (k + 1)) (sc1 u q k) (q + (f_X4_figuresAt u q + 1)) (k + 1) := by
  rw [show 3 - k = (3 - (k + 1)) + 1 by omega]
  simp only [scanGo, if_neg c1, if_neg c2, if_pos c3]
theorem scan_3 {k : Nat} (hk : k < 3) : 3 - k = (3 - (k + 1)) + 1 := by omega
def f_X4_scan (v : OV) (x : Int32) : OV × Int32 := scanGo 3 v (x + 1) 0
def readGo : Nat → OV → OV → Int32 → Int32 × OV × OV
  | 0, u, y, _ => (-4, u, y)
  | n + 1, u, y, q => if u.2 3 ≤ q then (-4, u, y) else
    if (f_X4_scan u q).2 < 0 then (q, (f_X4_scan u q).1, y) else
    if k_X2_take y (f_X4_byteAt (f_X4_scan u q).1 q) ((f_X4_scan u q).1.2 2) ((f_X4_scan u q).1.1 1) = true then readGo n (f_X4_scan u q).1 (f_X2_take y (f_X4_byteAt (f_X4_scan u q).1 q) ((f_X4_scan u q).1.2 2) ((f_X4_scan u q).1.1 1)) (f_X4_scan u q).2 else
    (q, (f_X4_scan u q).1, f_X2_take y (f_X4_byteAt (f_X4_scan u q).1 q) ((f_X4_scan u q).1.2 2) ((f_X4_scan u q).1.1 1))
theorem read_s {n : Nat} {u y : OV} {q : Int32} {k : Nat} (hk : k < n) (c1 : ¬ u.2 3 ≤ q) (c2 : ¬ (f_X4_scan u q).2 < 0) (c3 : k_X2_take y (f_X4_byteAt (f_X4_scan u q).1 q) ((f_X4_scan u q).1.2 2) ((f_X4_scan u q).1.1 1) = true) : readGo (n - k) u y q = readGo (n - (k + 1)) (f_X4_scan u q).1 (f_X2_take y (f_X4_byteAt (f_X4_scan u q).1 q) ((f_X4_scan u q).1.2 2) ((f_X4_scan u q).1.1 1)) (f_X4_scan u q).2 := by
  rw [show n - k = (n - (k + 1)) + 1 by omega]
  simp only [readGo, if_neg c1, if_neg c2, if_pos c3]
theorem sub_s {n k : Nat} (hk : k < n) : n - k = (n - (k + 1)) + 1 := by omega
def f_X4_read (v w : OV) : Int32 × OV × OV := readGo 300 v (f_X2_clear w) 0
def bX4h (a : Nat → Nat) (G : GD) (v : OV) : va_W := [(a 0, .inr (4, [.ref (a 1), .ref (a 2), .int (v.2 2), .int (v.2 3)])), (a 1, .inl (G.2.1, 300, .inl (v.1 0)))]
theorem cut4 (a : Nat → Nat) (G : GD) (v : OV) (bs : List va_W) : List.flatten (bX4 a G v :: bs) = List.flatten (bX4h a G v :: [(a 2, .inl (G.2.1, 3, .inl (v.1 1)))] :: bs) := rfl
theorem cut4P {a : Nat → Nat} {G : GD} {v : OV} {bs : List va_W} {H : Heap} (h : PP G (bX4 a G v :: bs) H) : PP G (bX4h a G v :: [(a 2, .inl (G.2.1, 3, .inl (v.1 1)))] :: bs) H := h
theorem cut4D {a : Nat → Nat} {G : GD} {v : OV} {bs : List va_W} {A : Nat → Prop} (h : DD A (bX4 a G v :: bs)) : DD A (bX4h a G v :: [(a 2, .inl (G.2.1, 3, .inl (v.1 1)))] :: bs) := h
theorem join4P {a : Nat → Nat} {G : GD} {v : OV} {bs : List va_W} {H : Heap} (h : PP G (bX4h a G v :: [(a 2, .inl (G.2.1, 3, .inl (v.1 1)))] :: bs) H) : PP G (bX4 a G v :: bs) H := h
theorem join4D {a : Nat → Nat} {G : GD} {v : OV} {bs : List va_W} {A : Nat → Prop} (h : DD A (bX4h a G v :: [(a 2, .inl (G.2.1, 3, .inl (v.1 1)))] :: bs)) : DD A (bX4 a G v :: bs) := h
def s_price (h : OV) (i t : Int32) (k : Nat) (u : OV) : OV := setA u 1 (rPut (u.1 1) 8 (nI k) (if fHolds t (nI k) = true then 1 else f_X0_minutesThrough h (nI k) i))
abbrev wA (w : OV) (k : Nat) : Int32 := rAt (w.1 0) 8 (nI k)
abbrev wB (w : OV) (k : Nat) : Int32 := rAt (w.1 1) 8 (nI k)
def s_short (w : OV) (k : Nat) (q : OV × Bool) : OV × Bool :=
  if rAt (q.1.1 0) 6 (wA w k) ≤ rAt (q.1.1 0) 6 (wB w k) + rAt (q.1.1 1) 8 (nI k) then
    (if rAt (q.1.1 0) 6 (wB w k) ≤ rAt (q.1.1 0) 6 (wA w k) + rAt (q.1.1 1) 8 (nI k) then q
     else (setA q.1 0 (rPut (q.1.1 0) 6 (wB w k) (rAt (q.1.1 0) 6 (wA w k) + rAt (q.1.1 1) 8 (nI k))), true))
  else (setA q.1 0 (rPut (q.1.1 0) 6 (wA w k) (rAt (q.1.1 0) 6 (wB w k) + rAt (q.1.1 1) 8 (nI k))), true)
def f_X5_short (v w : OV) : OV × Bool := itN (s_short w) (v, false) (w.2 9).toNatClampNeg
def s_round (w : OV) (_ : Nat) (q : OV × Bool) : OV × Bool := if q.2 = true then f_X5_short q.1 w else q
theorem round_stop {w : OV} {x : OV × Bool} {k : Nat} (h : ¬ (itN (s_round w) x k).2 = true) : ∀ {n : Nat}, k ≤ n → itN (s_round w) x n = itN (s_round w) x k := by
  intro n hn
  obtain ⟨d, rfl⟩ : ∃ d, n = k + d := ⟨n - k, by omega⟩
  induction d with
  | zero => rfl
  | succ d ih =>
    rw [show k + (d + 1) = (k + d) + 1 by omega, itN_s, ih (by omega)]
    simp only [s_round, if_neg h]
def m_price (v w h : OV) (i t : Int32) : OV := itN (s_price h i t) v (w.2 9).toNatClampNeg
def m_init (v w h : OV) (i t x : Int32) : OV := setA (setA (m_price v w h i x) 0 (rFill ((m_price v w h i x).1 0) 1000000 6)) 0 (rPut (rFill ((m_price v w h i x).1 0) 1000000 6) 6 t 0)
def f_X5_measure (v w h : OV) (i t x : Int32) : OV := (itN (s_round w) (m_init v w h i t x, true) ((w.2 8).toNatClampNeg - 1)).1
theorem lpx_c1 (b : Int32) : b ≤ nI (b.toNatClampNeg - 1 + 1) := by
  by_cases h : b.toNatClampNeg = 0
  · rw [h]
    have h1 := lpx_c b
    rw [h] at h1
    refine Int32.le_trans h1 ?_
    decide
  · rw [show b.toNatClampNeg - 1 + 1 = b.toNatClampNeg by omega]
    exact lpx_c b
def f_X5_minutesFrom (v : OV) (r : Int32) : Int32 := if 1000000 ≤ rAt (v.1 0) 6 r then -4 else rAt (v.1 0) 6 r
def p_low (v w : OV) (r : Int32) (k : Nat) : Bool := if f_X2_otherSide w (nI k) r < 0 then false else if rAt (v.1 1) 8 (nI k) + rAt (v.1 0) 6 (f_X2_otherSide w (nI k) r) = rAt (v.1 0) 6 r then true else false
def optI : Option Nat → Int32
  | some k => nI k
  | none => -4
def f_X5_lowest (v w : OV) (r : Int32) : Int32 := if 0 < f_X5_minutesFrom v r then optI (fnd (p_low v w r) (w.2 9).toNatClampNeg) else -4
def s_lossf (y : OV) (i : Nat) (r : Nat) (f : Nat → Int32) : Nat → Int32 := rPut f 24 (nI i * 6 + nI r) (f_X5_minutesFrom y (nI r))
def m_rm (y w h : OV) (k : Nat) : OV := f_X5_measure y w h (nI k) (rAt (w.1 6) 4 (nI k)) 0
def s_rm (w h : OV) (k : Nat) (q : (Nat → Int32) × OV) : (Nat → Int32) × OV := (itN (s_lossf (m_rm q.2 w h k) k) q.1 (w.2 8).toNatClampNeg, m_rm q.2 w h k)
def f_rm (v w h y : OV) : (Nat → Int32) × OV := itN (s_rm w h) (v.1 0, y) (w.2 10).toNatClampNeg
def f_X3_measure (v w h y : OV) : OV := setA (setI (setI v 1 (w.2 10)) 2 (w.2 8)) 0 (f_rm v w h y).1
def sumGo (f : Nat → Int32) (rc : Int32) : Nat → Int32 → Int32 → Int32 → Int32
  | 0, s, _, _ => s
  | j + 1, s, t, r => if rc ≤ r - r / 6 * 6 then -4 else if fHolds t (r - r / 6 * 6) = true then -4 else
    if 0 ≤ rAt f 24 (nI j * 6 + (r - r / 6 * 6)) then sumGo f rc j (s + rAt f 24 (nI j * 6 + (r - r / 6 * 6))) (t ||| (1 <<< ((r - r / 6 * 6) &&& 31))) (r / 6) else -4
def f_X3_sumOf (v : OV) (x : Int32) : Int32 := sumGo (v.1 0) (v.2 2) (v.2 1).toNatClampNeg 0 0 x
theorem nI_cl {b : Int32} (h : ¬ b < 0) : nI b.toNatClampNeg = b := by
  obtain ⟨j, hj, rfl⟩ := nI_of h
  rw [nI_clamp hj]
def s_codes (_ : Nat) (c : Int32) : Int32 := c * 6
def s_best (v : OV) (k : Nat) (q : Int32 × Int32) : Int32 × Int32 := if f_X3_sumOf v (nI k) < 0 then q else if q.2 ≤ f_X3_sumOf v (nI k) then q else (nI k, f_X3_sumOf v (nI k))
def n_codes (v : OV) : Int32 := itN s_codes 1 (v.2 1).toNatClampNeg
def f_X3_bestCode (v : OV) : Int32 := (itN (s_best v) (-1, 1000000) (n_codes v).toNatClampNeg).1
def roomGo (i : Int32) : Nat → Int32 → Int32
  | 0, r => r - r / 6 * 6
  | j + 1, r => if nI j ≤ i then r - r / 6 * 6 else roomGo i j (r / 6)
def f_X3_roomIn (v : OV) (x i : Int32) : Int32 := roomGo i (v.2 1).toNatClampNeg x
theorem nm1_le {i : Int32} (h : ¬ i < 0) : nI 0 - 1 ≤ i := by
  have h1 : ¬ i.toInt < 0 := fun e => h (by rw [Int32.lt_iff_toInt_lt]; exact e)
  rw [Int32.le_iff_toInt_le]
  have : (nI 0 - 1 : Int32).toInt = -1 := by decide
  omega

def rm_X4_byteAt : Room := { frames := 1, cells := 0, slots := 0, locals := 21 }
theorem hd_X4_byteAt : yX4_byteAt.cls = RX4 ∧ yX4_byteAt.cls ≠ "java/lang/invoke/MethodHandle" ∧ yX4_byteAt.cls ≠ "java/lang/invoke/VarHandle" ∧ (parseMethodDescriptor yX4_byteAt.desc).map (fun d => d.parameters.length) = some 1 := by decide +kernel
set_option maxRecDepth 100000 in
set_option maxHeartbeats 4000000 in
theorem c_X4_byteAt (l : Launch) (G : GD) (a : Nat → Nat) (v : OV) (x1 : Int32)  : MetP l yX4_byteAt wsX4_byteAt rm_X4_byteAt G [bX4 a G v] [.ref (a 0), .int x1] (some (.int (f_X4_byteAt v x1))) := by
  refine kb_beginP (cc := cX4_byteAt) (maxL := 2) (ret := (some .int)) (by decide) rfl (Nat.le_of_ble_eq_true rfl) ?_
  intro p e s m below meth c hx hb hr hml hown hts hlocks hX hP ls hl
  have hown : s.vm.findClass RX4 = some m.cls := hown
  have hl : lv_has ls 2 [(0, .ref (a 0)), (1, .int x1)] := hl
  have hin4 : ∀ w ∈ u_ws RX4 TX4 4, w ∈ wsX4_byteAt := (fun _ h => List.mem_cons_of_mem _ (List.mem_append_right _ (h)))
  refine lv_iload_n hx hb dX4_byteAt_0 rfl (lv_at hl 1 rfl) ?_
  refine lv_aload_n hx hb dX4_byteAt_1 rfl (lv_at hl 0 rfl) ?_
  refine kb_get (own := RX4) (C := RX4) (T := TX4) (N := 4) (v := .int (v.2 3)) hx hb hts hin4 hown hX hP 0 rfl rfl rfl 3 (by decide) rfl (by decide +kernel) rfl dX4_byteAt_2 ?_
  refine lv_icmp_ge (tgt := 19) hx hb dX4_byteAt_5 (by decide) (fun c_5 => ?_) (fun c_5 => ?_)
  · refine lv_iconst (v := (-1)) hx hb dX4_byteAt_19 (by decide) ?_
    exact kr_pi hx hb hr hlocks dX4_byteAt_20 (by simp only [f_X4_byteAt, if_pos c_5] <;> rfl)
  · refine lv_aload_n hx hb dX4_byteAt_8 rfl (lv_at hl 0 rfl) ?_
    refine kb_get (own := RX4) (C := RX4) (T := TX4) (N := 4) (v := .ref (a 1)) hx hb hts hin4 hown hX hP 0 rfl rfl rfl 0 (by decide) rfl (by decide +kernel) rfl dX4_byteAt_9 ?_
    refine lv_iload_n hx hb dX4_byteAt_12 rfl (lv_at hl 1 rfl) ?_
    refine kcN_p hx hb hml hown hts hX hP (c_X6_at l G (a 1) 300 (v.1 0) x1 (by decide)) gX4_byteAt_X6_at_n56 (by decide +kernel) (by decide +kernel) (by decide +kernel) 2 rfl rfl rfl hdS_X6_at ⟨Nat.le_of_ble_eq_true rfl, Nat.le_of_ble_eq_true rfl⟩ (cell_in (i := 0) (j := 1) rfl rfl) hl.1 rfl rfl (Nat.le_of_ble_eq_true rfl) dX4_byteAt_13 ⟨Nat.zero_le _, Nat.zero_le _⟩ ?_
    refine lv_goto (tgt := 20) hx hb dX4_byteAt_16 (by decide) ?_
    exact kr_pi hx hb hr hlocks dX4_byteAt_20 (by simp only [f_X4_byteAt, if_neg c_5] <;> rfl)

def rm_X4_isFigure : Room := { frames := 2, cells := 0, slots := 0, locals := 42 }
theorem hd_X4_isFigure : yX4_isFigure.cls = RX4 ∧ yX4_isFigure.cls ≠ "java/lang/invoke/MethodHandle" ∧ yX4_isFigure.cls ≠ "java/lang/invoke/VarHandle" ∧ (parseMethodDescriptor yX4_isFigure.desc).map (fun d => d.parameters.length) = some 1 := by decide +kernel
set_option maxRecDepth 100000 in
set_option maxHeartbeats 4000000 in
theorem c_X4_isFigure (l : Launch) (G : GD) (a : Nat → Nat) (v : OV) (x1 : Int32)  : MetP l yX4_isFigure wsX4_isFigure rm_X4_isFigure G [bX4 a G v] [.ref (a 0), .int x1] (some (.int (b2i (f_X4_isFigure v x1)))) := by
  refine kb_beginP (cc := cX4_isFigure) (maxL := 2) (ret := (some .boolean)) (by decide) rfl (Nat.le_of_ble_eq_true rfl) ?_
  intro p e s m below meth c hx hb hr hml hown hts hlocks hX hP ls hl
  have hown : s.vm.findClass RX4 = some m.cls := hown
  have hl : lv_has ls 2 [(0, .ref (a 0)), (1, .int x1)] := hl
  refine lv_aload_n hx hb dX4_isFigure_0 rfl (lv_at hl 0 rfl) ?_
  refine lv_iload_n hx hb dX4_isFigure_1 rfl (lv_at hl 1 rfl) ?_
  refine kcV_p hx hb hml hown hts hX hP (c_X4_byteAt l G a v x1) gX4_isFigure_X4_byteAt 1 rfl rfl rfl hd_X4_byteAt ⟨Nat.le_of_ble_eq_true rfl, Nat.le_of_ble_eq_true rfl⟩ [0] rfl 0 rfl rfl rfl hl.1 rfl rfl (Nat.le_of_ble_eq_true rfl) dX4_isFigure_2 ⟨Nat.zero_le _, Nat.zero_le _⟩ ?_
  refine lv_bipush (v := 48) hx hb dX4_isFigure_5 (by decide) ?_
  refine lv_bipush (v := 57) hx hb dX4_isFigure_7 (by decide) ?_
  refine kcN_p hx hb hml hown hts hX hP (c_X6_within l G (f_X4_byteAt v x1) 48 57) gX4_isFigure_X6_within_n60 (by decide +kernel) (by decide +kernel) (by decide +kernel) 3 rfl rfl rfl hdS_X6_within ⟨Nat.le_of_ble_eq_true rfl, Nat.le_of_ble_eq_true rfl⟩ (fun q hq => absurd hq List.not_mem_nil) hl.1 rfl rfl (Nat.le_of_ble_eq_true rfl) dX4_isFigure_9 ⟨Nat.zero_le _, Nat.zero_le _⟩ ?_
  exact kr_pz hx hb hr hlocks dX4_isFigure_12 (narrow_b2i _) (by rfl)

def rm_X4_figuresAt : Room := { frames := 3, cells := 0, slots := 0, locals := 63 }
theorem hd_X4_figuresAt : yX4_figuresAt.cls = RX4 ∧ yX4_figuresAt.cls ≠ "java/lang/invoke/MethodHandle" ∧ yX4_figuresAt.cls ≠ "java/lang/invoke/VarHandle" ∧ (parseMethodDescriptor yX4_figuresAt.desc).map (fun d => d.parameters.length) = some 1 := by decide +kernel
set_option maxRecDepth 100000 in
set_option maxHeartbeats 4000000 in
theorem c_X4_figuresAt (l : Launch) (G : GD) (a : Nat → Nat) (v : OV) (x1 : Int32)  : MetP l yX4_figuresAt wsX4_figuresAt rm_X4_figuresAt G [bX4 a G v] [.ref (a 0), .int x1] (some (.int (f_X4_figuresAt v x1))) := by
  refine kb_beginP (cc := cX4_figuresAt) (maxL := 2) (ret := (some .int)) (by decide) rfl (Nat.le_of_ble_eq_true rfl) ?_
  intro p e s m below meth c hx hb hr hml hown hts hlocks hX hP ls hl
  have hown : s.vm.findClass RX4 = some m.cls := hown
  have hl : lv_has ls 2 [(0, .ref (a 0)), (1, .int x1)] := hl
  refine lv_aload_n hx hb dX4_figuresAt_0 rfl (lv_at hl 0 rfl) ?_
  refine lv_iload_n hx hb dX4_figuresAt_1 rfl (lv_at hl 1 rfl) ?_
  refine kcV_p hx hb hml hown hts hX hP (c_X4_isFigure l G a v x1) gX4_figuresAt_X4_isFigure 1 rfl rfl rfl hd_X4_isFigure ⟨Nat.le_of_ble_eq_true rfl, Nat.le_of_ble_eq_true rfl⟩ [0] rfl 0 rfl rfl rfl hl.1 rfl rfl (Nat.le_of_ble_eq_true rfl) dX4_figuresAt_2 ⟨Nat.zero_le _, Nat.zero_le _⟩ ?_
  refine lv_if_ne (tgt := 10) hx hb dX4_figuresAt_5 (by decide) (fun c_5r => ?_) (fun c_5r => ?_)
  · have c_5 := b2i_tP c_5r
    refine lv_aload_n hx hb dX4_figuresAt_10 rfl (lv_at hl 0 rfl) ?_
    refine lv_iload_n hx hb dX4_figuresAt_11 rfl (lv_at hl 1 rfl) ?_
    refine lv_iconst (v := 1) hx hb dX4_figuresAt_12 (by decide) ?_
    refine lv_iadd hx hb dX4_figuresAt_13 ?_
    refine kcV_p hx hb hml hown hts hX hP (c_X4_isFigure l G a v (x1 + 1)) gX4_figuresAt_X4_isFigure 1 rfl rfl rfl hd_X4_isFigure ⟨Nat.le_of_ble_eq_true rfl, Nat.le_of_ble_eq_true rfl⟩ [0] rfl 0 rfl rfl rfl hl.1 rfl rfl (Nat.le_of_ble_eq_true rfl) dX4_figuresAt_14 ⟨Nat.zero_le _, Nat.zero_le _⟩ ?_
    refine lv_if_eq (tgt := 24) hx hb dX4_figuresAt_17 (by decide) (fun c_17r => ?_) (fun c_17r => ?_)
    · have c_17 := b2i_fN c_17r
      refine lv_iconst (v := 1) hx hb dX4_figuresAt_24 (by decide) ?_
      exact kr_pi hx hb hr hlocks dX4_figuresAt_25 (by simp only [f_X4_figuresAt, if_pos c_5, if_neg c_17] <;> rfl)
    · have c_17 := b2i_tP c_17r
      refine lv_iconst (v := 2) hx hb dX4_figuresAt_20 (by decide) ?_
      refine lv_goto (tgt := 25) hx hb dX4_figuresAt_21 (by decide) ?_
      exact kr_pi hx hb hr hlocks dX4_figuresAt_25 (by simp only [f_X4_figuresAt, if_pos c_5, if_pos c_17] <;> rfl)
  · have c_5 := b2i_fN c_5r
    refine lv_iconst (v := 0) hx hb dX4_figuresAt_8 (by decide) ?_
    exact kr_pi hx hb hr hlocks dX4_figuresAt_9 (by simp only [f_X4_figuresAt, if_neg c_5] <;> rfl)

def rm_X4_numberAt : Room := { frames := 2, cells := 0, slots := 0, locals := 42 }
theorem hd_X4_numberAt : yX4_numberAt.cls = RX4 ∧ yX4_numberAt.cls ≠ "java/lang/invoke/MethodHandle" ∧ yX4_numberAt.cls ≠ "java/lang/invoke/VarHandle" ∧ (parseMethodDescriptor yX4_numberAt.desc).map (fun d => d.parameters.length) = some 2 := by decide +kernel
set_option maxRecDepth 100000 in
set_option maxHeartbeats 4000000 in
theorem c_X4_numberAt (l : Launch) (G : GD) (a : Nat → Nat) (v : OV) (x1 : Int32) (x2 : Int32)  : MetP l yX4_numberAt wsX4_numberAt rm_X4_numberAt G [bX4 a G v] [.ref (a 0), .int x1, .int x2] (some (.int (f_X4_numberAt v x1 x2))) := by
  refine kb_beginP (cc := cX4_numberAt) (maxL := 4) (ret := (some .int)) (by decide) rfl (Nat.le_of_ble_eq_true rfl) ?_
  intro p e s m below meth c hx hb hr hml hown hts hlocks hX hP ls hl
  have hown : s.vm.findClass RX4 = some m.cls := hown
  have hl : lv_has ls 4 [(0, .ref (a 0)), (1, .int x1), (2, .int x2)] := hl
  refine lv_aload_n hx hb dX4_numberAt_0 rfl (lv_at hl 0 rfl) ?_
  refine lv_iload_n hx hb dX4_numberAt_1 rfl (lv_at hl 1 rfl) ?_
  refine kcV_p hx hb hml hown hts hX hP (c_X4_byteAt l G a v x1) gX4_numberAt_X4_byteAt 1 rfl rfl rfl hd_X4_byteAt ⟨Nat.le_of_ble_eq_true rfl, Nat.le_of_ble_eq_true rfl⟩ [0] rfl 0 rfl rfl rfl hl.1 rfl rfl (Nat.le_of_ble_eq_true rfl) dX4_numberAt_2 ⟨Nat.zero_le _, Nat.zero_le _⟩ ?_
  refine lv_bipush (v := 48) hx hb dX4_numberAt_5 (by decide) ?_
  refine lv_isub hx hb dX4_numberAt_7 ?_
  refine lv_istore_n (lv' := [(3, .int ((f_X4_byteAt v x1) - 48)), (0, .ref (a 0)), (1, .int x1), (2, .int x2)]) hx hb dX4_numberAt_8 rfl hl (by decide) rfl (fun ls hl => ?_)
  refine lv_iload_n hx hb dX4_numberAt_9 rfl (lv_at hl 3 rfl) ?_
  refine lv_iconst (v := 2) hx hb dX4_numberAt_10 (by decide) ?_
  refine lv_icmp_ne (tgt := 32) hx hb dX4_numberAt_11 (by decide) (fun c_11 => ?_) (fun c_11 => ?_)
  · refine lv_iload_n hx hb dX4_numberAt_32 rfl (lv_at hl 0 rfl) ?_
    exact kr_pi hx hb hr hlocks dX4_numberAt_33 (by simp only [f_X4_numberAt, if_neg c_11] <;> rfl)
  · refine lv_iload_n hx hb dX4_numberAt_14 rfl (lv_at hl 0 rfl) ?_
    refine lv_bipush (v := 10) hx hb dX4_numberAt_15 (by decide) ?_
    refine lv_imul hx hb dX4_numberAt_17 ?_
    refine lv_aload_n hx hb dX4_numberAt_18 rfl (lv_at hl 1 rfl) ?_
    refine lv_iload_n hx hb dX4_numberAt_19 rfl (lv_at hl 2 rfl) ?_
    refine lv_iconst (v := 1) hx hb dX4_numberAt_20 (by decide) ?_
    refine lv_iadd hx hb dX4_numberAt_21 ?_
    refine kcV_p hx hb hml hown hts hX hP (c_X4_byteAt l G a v (x1 + 1)) gX4_numberAt_X4_byteAt 1 rfl rfl rfl hd_X4_byteAt ⟨Nat.le_of_ble_eq_true rfl, Nat.le_of_ble_eq_true rfl⟩ [0] rfl 0 rfl rfl rfl hl.1 rfl rfl (Nat.le_of_ble_eq_true rfl) dX4_numberAt_22 ⟨Nat.zero_le _, Nat.zero_le _⟩ ?_
    refine lv_iadd hx hb dX4_numberAt_25 ?_
    refine lv_bipush (v := 48) hx hb dX4_numberAt_26 (by decide) ?_
    refine lv_isub hx hb dX4_numberAt_28 ?_
    refine lv_goto (tgt := 33) hx hb dX4_numberAt_29 (by decide) ?_
    exact kr_pi hx hb hr hlocks dX4_numberAt_33 (by simp only [f_X4_numberAt, if_pos c_11] <;> rfl)

def rm_X4_append : Room := { frames := 1, cells := 0, slots := 0, locals := 22 }
theorem hd_X4_append : yX4_append.cls = RX4 ∧ yX4_append.cls ≠ "java/lang/invoke/MethodHandle" ∧ yX4_append.cls ≠ "java/lang/invoke/VarHandle" ∧ (parseMethodDescriptor yX4_append.desc).map (fun d => d.parameters.length) = some 1 := by decide +kernel
set_option maxRecDepth 100000 in
set_option maxHeartbeats 4000000 in
theorem c_X4_append (l : Launch) (G : GD) (a : Nat → Nat) (v : OV) (x1 : Int32)  : MetS l yX4_append wsX4_append rm_X4_append G [bX4 a G v] [.ref (a 0), .int x1] (fun r bc => r = none ∧ bc = [bX4 a G (f_X4_append v x1)]) := by
  refine kb_beginS (cc := cX4_append) (maxL := 2) (ret := none) (by decide) rfl (Nat.le_of_ble_eq_true rfl) ?_
  intro p e s m below meth c hx hb hr hml hown hts hlocks hX H locs hP hD hS ls hl
  have hown : s.vm.findClass RX4 = some m.cls := hown
  have hl : lv_has ls 2 [(0, .ref (a 0)), (1, .int x1)] := hl
  have hin4 : ∀ w ∈ u_ws RX4 TX4 4, w ∈ wsX4_append := (fun _ h => List.mem_cons_of_mem _ (List.mem_append_right _ (h)))
  refine lv_aload_n hx hb dX4_append_0 rfl (lv_at hl 0 rfl) ?_
  refine kb_get (own := RX4) (C := RX4) (T := TX4) (N := 4) (v := .int (v.2 3)) hx hb hts hin4 hown hX hP 0 rfl rfl rfl 3 (by decide) rfl (by decide +kernel) rfl dX4_append_1 ?_
  refine lv_sipush (v := 300) hx hb dX4_append_4 (by decide) ?_
  refine lv_icmp_ge (tgt := 32) hx hb dX4_append_7 (by decide) (fun c_7 => ?_) (fun c_7 => ?_)
  · have hP : PP G [bX4 a G (f_X4_append v x1)] H := by
      have e0 : (f_X4_append v x1) = v := by simp only [f_X4_append, if_pos c_7] <;> rfl
      rw [e0]
      exact hP
    exact kr_sv hx hb hr hlocks dX4_append_32 hP hS (sameAd_cons (bX4_ad _ _ _ _) sameAd_nil) ⟨rfl, rfl⟩
  · refine lv_aload_n hx hb dX4_append_10 rfl (lv_at hl 0 rfl) ?_
    refine kb_get (own := RX4) (C := RX4) (T := TX4) (N := 4) (v := .ref (a 1)) hx hb hts hin4 hown hX hP 0 rfl rfl rfl 0 (by decide) rfl (by decide +kernel) rfl dX4_append_11 ?_
    refine lv_aload_n hx hb dX4_append_14 rfl (lv_at hl 0 rfl) ?_
    refine kb_get (own := RX4) (C := RX4) (T := TX4) (N := 4) (v := .int (v.2 3)) hx hb hts hin4 hown hX hP 0 rfl rfl rfl 3 (by decide) rfl (by decide +kernel) rfl dX4_append_15 ?_
    refine lv_iload_n hx hb dX4_append_18 rfl (lv_at hl 1 rfl) ?_
    refine kcN_c hx hb hml hown hts hX hP hD hS (c_X6_put l G (a 1) 300 (v.1 0) (v.2 3) x1 (by decide)) gX4_append_X6_put_n22 (by decide +kernel) (by decide +kernel) (by decide +kernel) 3 rfl rfl rfl hdS_X6_put ⟨Nat.le_of_ble_eq_true rfl, Nat.le_of_ble_eq_true rfl⟩ 0 1 rfl rfl (bX4_A0 a G v (rPut (v.1 0) 300 (v.2 3) x1)) hl.1 rfl rfl (Nat.le_of_ble_eq_true rfl) dX4_append_19 ⟨Nat.zero_le _, Nat.zero_le _⟩ (fun H locs hP hD hS => ?_)
    have hP : PP G [bX4 a G (setA v 0 (rPut (v.1 0) 300 (v.2 3) x1))] H := hP
    have hD : DD (AA (List.flatten [bX4 a G v])) [bX4 a G (setA v 0 (rPut (v.1 0) 300 (v.2 3) x1))] := D_re hD (adc (bX4_ad _ _ _ _) adn)
    refine lv_aload_n hx hb dX4_append_22 rfl (lv_at hl 0 rfl) ?_
    refine lv_dup hx hb dX4_append_23 rfl ?_
    refine kb_get (own := RX4) (C := RX4) (T := TX4) (N := 4) (v := .int (v.2 3)) hx hb hts hin4 hown hX hP 0 rfl rfl rfl 3 (by decide) rfl (by decide +kernel) rfl dX4_append_24 ?_
    refine lv_iconst (v := 1) hx hb dX4_append_27 (by decide) ?_
    refine lv_iadd hx hb dX4_append_28 ?_
    refine kb_put (own := RX4) (C := RX4) (T := TX4) (N := 4) hx hb hts hin4 tyX4 tyX4_ok nmX4 (ty := .int) hown hX hP hD hS 0 rfl rfl rfl 3 (by decide) rfl (by decide +kernel) (by decide +kernel) rfl rfl (Nat.le_of_ble_eq_true rfl) dX4_append_29 (bX4_I3 a G (setA v 0 (rPut (v.1 0) 300 (v.2 3) x1)) ((v.2 3) + 1)) (fun H locs hP hD hS => ?_)
    have hP : PP G [bX4 a G (setI (setA v 0 (rPut (v.1 0) 300 (v.2 3) x1)) 3 ((v.2 3) + 1))] H := hP
    have hD : DD (AA (List.flatten [bX4 a G v])) [bX4 a G (setI (setA v 0 (rPut (v.1 0) 300 (v.2 3) x1)) 3 ((v.2 3) + 1))] := D_re hD (adc (bX4_ad _ _ _ _) adn)
    have hP : PP G [bX4 a G (f_X4_append v x1)] H := by
      have e0 : (f_X4_append v x1) = (setI (setA v 0 (rPut (v.1 0) 300 (v.2 3) x1)) 3 ((v.2 3) + 1)) := by simp only [f_X4_append, if_neg c_7] <;> rfl
      rw [e0]
      exact hP
    exact kr_sv hx hb hr hlocks dX4_append_32 hP hS (sameAd_cons (bX4_ad _ _ _ _) sameAd_nil) ⟨rfl, rfl⟩

def rm_X4_scanItem : Room := { frames := 4, cells := 0, slots := 0, locals := 84 }
theorem hd_X4_scanItem : yX4_scanItem.cls = RX4 ∧ yX4_scanItem.cls ≠ "java/lang/invoke/MethodHandle" ∧ yX4_scanItem.cls ≠ "java/lang/invoke/VarHandle" ∧ (parseMethodDescriptor yX4_scanItem.desc).map (fun d => d.parameters.length) = some 1 := by decide +kernel
set_option maxRecDepth 100000 in
set_option maxHeartbeats 4000000 in
theorem c_X4_scanItem (l : Launch) (G : GD) (a : Nat → Nat) (v : OV) (x1 : Int32)  : MetS l yX4_scanItem wsX4_scanItem rm_X4_scanItem G [bX4 a G v] [.ref (a 0), .int x1] (fun r bc => r = some (.int ((f_X4_scan v x1).2)) ∧ bc = [bX4 a G ((f_X4_scan v x1).1)]) := by
  refine kb_beginS (cc := cX4_scanItem) (maxL := 6) (ret := (some .int)) (by decide) rfl (Nat.le_of_ble_eq_true rfl) ?_
  intro p e s m below meth c hx hb hr hml hown hts hlocks hX H locs hP hD hS ls hl
  have hown : s.vm.findClass RX4 = some m.cls := hown
  have hl : lv_has ls 6 [(0, .ref (a 0)), (1, .int x1)] := hl
  have hin4 : ∀ w ∈ u_ws RX4 TX4 4, w ∈ wsX4_scanItem := (fun _ h => List.mem_cons_of_mem _ (List.mem_append_right _ (h)))
  refine lv_iload_n hx hb dX4_scanItem_0 rfl (lv_at hl 1 rfl) ?_
  refine lv_iconst (v := 1) hx hb dX4_scanItem_1 (by decide) ?_
  refine lv_iadd hx hb dX4_scanItem_2 ?_
  refine lv_istore_n (lv' := [(2, .int (x1 + 1)), (0, .ref (a 0)), (1, .int x1)]) hx hb dX4_scanItem_3 rfl hl (by decide) rfl (fun ls hl => ?_)
  refine lv_iconst (v := 0) hx hb dX4_scanItem_4 (by decide) ?_
  refine lv_istore_n (lv' := [(3, .int 0), (2, .int (x1 + 1)), (0, .ref (a 0)), (1, .int x1)]) hx hb dX4_scanItem_5 rfl hl (by decide) rfl (fun ls hl => ?_)
  refine lp_up (N := 3) (P := fun k => ∀ (u : OV), ∀ (q : Int32), ∀ (H : Heap) (locs : List Loc) (ls : Array Slot), PP G [bX4 a G u] H → DD (AA (List.flatten [bX4 a G v])) [bX4 a G u] → va_S (AA (List.flatten [bX4 a G v])) s.heap H locs → lv_has ls 6 [(3, .int (nI k)), (2, .int q), (0, .ref (a 0)), (1, .int x1)] → (scanGo 3 v (x1 + 1) 0 = scanGo (3 - k) u q k) → W p l e (headSpec wsX4_scanItem rm_X4_scanItem).room s m ([.ref (a 0), .int x1] : List Value).toArray below meth c H locs 0 0 (MQ below (kQs G [bX4 a G v] (fun r bc => r = some (.int ((f_X4_scan v x1).2)) ∧ bc = [bX4 a G ((f_X4_scan v x1).1)])) ([.ref (a 0), .int x1] : List Value).toArray s 0 0 (AA (List.flatten [bX4 a G v]))) (F0 m 6 ls [])) ?_ ?_ 0 (Nat.zero_le _) v (x1 + 1) _ _ _ hP hD hS (lv_sub hl [0, 1, 2, 3] rfl) (rfl)
  · skip
    intro u q H locs ls hP hD hS hl hq
    refine lv_iload_n hx hb dX4_scanItem_6 rfl (lv_at hl 0 rfl) ?_
    refine lv_iconst (v := 3) hx hb dX4_scanItem_7 (by decide) ?_
    refine lv_icmp_ge (tgt := 88) hx hb dX4_scanItem_8 (by decide) (fun c_8 => ?_) (fun c_8 => absurd ((by decide : (3 : Int32) ≤ nI 3)) c_8)
    refine lv_iconst (v := (-1)) hx hb dX4_scanItem_88 (by decide) ?_
    have hP : PP G [bX4 a G ((f_X4_scan v x1).1)] H := by
      unfold f_X4_scan
      rw [hq]
      exact hP
    exact kr_si hx hb hr hlocks dX4_scanItem_89 hP hS (sameAd_cons (bX4_ad _ _ _ _) sameAd_nil) ⟨(by unfold f_X4_scan; rw [hq]; rfl), rfl⟩
  · skip
    intro k hk_k ih_6 u q H locs ls hP hD hS hl hq
    refine lv_iload_n hx hb dX4_scanItem_6 rfl (lv_at hl 0 rfl) ?_
    refine lv_iconst (v := 3) hx hb dX4_scanItem_7 (by decide) ?_
    refine lv_icmp_ge (tgt := 88) hx hb dX4_scanItem_8 (by decide) (fun c_8 => absurd c_8 (nI_ge (b := 3) hk_k (by decide))) (fun c_8 => ?_)
    refine lv_aload_n hx hb dX4_scanItem_11 rfl (lv_at hl 2 rfl) ?_
    refine lv_iload_n hx hb dX4_scanItem_12 rfl (lv_at hl 1 rfl) ?_
    refine kcV_p hx hb hml hown hts hX hP (c_X4_figuresAt l G a u q) gX4_scanItem_X4_figuresAt 1 rfl rfl rfl hd_X4_figuresAt ⟨Nat.le_of_ble_eq_true rfl, Nat.le_of_ble_eq_true rfl⟩ [0] rfl 0 rfl rfl rfl hl.1 rfl rfl (Nat.le_of_ble_eq_true rfl) dX4_scanItem_13 ⟨Nat.zero_le _, Nat.zero_le _⟩ ?_
    refine lv_istore (lv' := [(4, .int (f_X4_figuresAt u q)), (3, .int (nI k)), (2, .int q), (0, .ref (a 0)), (1, .int x1)]) hx hb dX4_scanItem_16 hl (by decide) rfl (fun ls hl => ?_)
    refine lv_iload hx hb dX4_scanItem_18 (lv_at hl 0 rfl) ?_
    refine lv_if_ne (tgt := 25) hx hb dX4_scanItem_20 (by decide) (fun c_20 => ?_) (fun c_20 => ?_)
    · refine lv_aload_n hx hb dX4_scanItem_25 rfl (lv_at hl 3 rfl) ?_
      refine kb_get (own := RX4) (C := RX4) (T := TX4) (N := 4) (v := .ref (a 2)) hx hb hts hin4 hown hX hP 0 rfl rfl rfl 1 (by decide) rfl (by decide +kernel) rfl dX4_scanItem_26 ?_
      refine lv_iload_n hx hb dX4_scanItem_29 rfl (lv_at hl 1 rfl) ?_
      refine lv_aload_n hx hb dX4_scanItem_30 rfl (lv_at hl 3 rfl) ?_
      refine lv_iload_n hx hb dX4_scanItem_31 rfl (lv_at hl 2 rfl) ?_
      refine lv_iload hx hb dX4_scanItem_32 (lv_at hl 0 rfl) ?_
      refine kcV_p hx hb hml hown hts hX hP (c_X4_numberAt l G a u q (f_X4_figuresAt u q)) gX4_scanItem_X4_numberAt 2 rfl rfl rfl hd_X4_numberAt ⟨Nat.le_of_ble_eq_true rfl, Nat.le_of_ble_eq_true rfl⟩ [0] rfl 0 rfl rfl rfl hl.1 rfl rfl (Nat.le_of_ble_eq_true rfl) dX4_scanItem_34 ⟨Nat.zero_le _, Nat.zero_le _⟩ ?_
      refine kcN_c hx hb hml hown hts hX hP hD hS (c_X6_put l G (a 2) 3 (u.1 1) (nI k) (f_X4_numberAt u q (f_X4_figuresAt u q)) (by decide)) gX4_scanItem_X6_put_n22 (by decide +kernel) (by decide +kernel) (by decide +kernel) 3 rfl rfl rfl hdS_X6_put ⟨Nat.le_of_ble_eq_true rfl, Nat.le_of_ble_eq_true rfl⟩ 0 2 rfl rfl (bX4_A1 a G u (rPut (u.1 1) 3 (nI k) (f_X4_numberAt u q (f_X4_figuresAt u q)))) hl.1 rfl rfl (Nat.le_of_ble_eq_true rfl) dX4_scanItem_37 ⟨Nat.zero_le _, Nat.zero_le _⟩ (fun H locs hP hD hS => ?_)
      have hP : PP G [bX4 a G (setA u 1 (rPut (u.1 1) 3 (nI k) (f_X4_numberAt u q (f_X4_figuresAt u q))))] H := hP
      have hD : DD (AA (List.flatten [bX4 a G v])) [bX4 a G (setA u 1 (rPut (u.1 1) 3 (nI k) (f_X4_numberAt u q (f_X4_figuresAt u q))))] := D_re hD (adc (bX4_ad _ _ _ _) adn)
      refine lv_aload_n hx hb dX4_scanItem_40 rfl (lv_at hl 3 rfl) ?_
      refine lv_iload_n hx hb dX4_scanItem_41 rfl (lv_at hl 1 rfl) ?_
      refine lv_iconst (v := 1) hx hb dX4_scanItem_42 (by decide) ?_
      refine lv_iadd hx hb dX4_scanItem_43 ?_
      refine kb_put (own := RX4) (C := RX4) (T := TX4) (N := 4) hx hb hts hin4 tyX4 tyX4_ok nmX4 (ty := .int) hown hX hP hD hS 0 rfl rfl rfl 2 (by decide) rfl (by decide +kernel) (by decide +kernel) rfl rfl (Nat.le_of_ble_eq_true rfl) dX4_scanItem_44 (bX4_I2 a G (setA u 1 (rPut (u.1 1) 3 (nI k) (f_X4_numberAt u q (f_X4_figuresAt u q)))) ((nI k) + 1)) (fun H locs hP hD hS => ?_)
      have hP : PP G [bX4 a G (setI (setA u 1 (rPut (u.1 1) 3 (nI k) (f_X4_numberAt u q (f_X4_figuresAt u q)))) 2 ((nI k) + 1))] H := hP
      have hD : DD (AA (List.flatten [bX4 a G v])) [bX4 a G (setI (setA u 1 (rPut (u.1 1) 3 (nI k) (f_X4_numberAt u q (f_X4_figuresAt u q)))) 2 ((nI k) + 1))] := D_re hD (adc (bX4_ad _ _ _ _) adn)
      refine lv_aload_n hx hb dX4_scanItem_47 rfl (lv_at hl 3 rfl) ?_
      refine lv_iload_n hx hb dX4_scanItem_48 rfl (lv_at hl 2 rfl) ?_
      refine lv_iload hx hb dX4_scanItem_49 (lv_at hl 0 rfl) ?_
      refine lv_iadd hx hb dX4_scanItem_51 ?_
      refine kcV_p hx hb hml hown hts hX hP (c_X4_byteAt l G a (setI (setA u 1 (rPut (u.1 1) 3 (nI k) (f_X4_numberAt u q (f_X4_figuresAt u q)))) 2 ((nI k) + 1)) (q + (f_X4_figuresAt u q))) gX4_scanItem_X4_byteAt 1 rfl rfl rfl hd_X4_byteAt ⟨Nat.le_of_ble_eq_true rfl, Nat.le_of_ble_eq_true rfl⟩ [0] rfl 0 rfl rfl rfl hl.1 rfl rfl (Nat.le_of_ble_eq_true rfl) dX4_scanItem_52 ⟨Nat.zero_le _, Nat.zero_le _⟩ ?_
      refine lv_istore (lv' := [(5, .int (f_X4_byteAt (setI (setA u 1 (rPut (u.1 1) 3 (nI k) (f_X4_numberAt u q (f_X4_figuresAt u q)))) 2 ((nI k) + 1)) (q + (f_X4_figuresAt u q)))), (4, .int (f_X4_figuresAt u q)), (3, .int (nI k)), (2, .int q), (0, .ref (a 0)), (1, .int x1)]) hx hb dX4_scanItem_55 hl (by decide) rfl (fun ls hl => ?_)
      refine lv_iload_n hx hb dX4_scanItem_57 rfl (lv_at hl 3 rfl) ?_
      refine lv_iload hx hb dX4_scanItem_58 (lv_at hl 1 rfl) ?_
      refine lv_iconst (v := 1) hx hb dX4_scanItem_60 (by decide) ?_
      refine lv_iadd hx hb dX4_scanItem_61 ?_
      refine lv_iadd hx hb dX4_scanItem_62 ?_
      refine lv_istore_n (lv' := [(2, .int (q + ((f_X4_figuresAt u q) + 1))), (5, .int (f_X4_byteAt (setI (setA u 1 (rPut (u.1 1) 3 (nI k) (f_X4_numberAt u q (f_X4_figuresAt u q)))) 2 ((nI k) + 1)) (q + (f_X4_figuresAt u q)))), (4, .int (f_X4_figuresAt u q)), (3, .int (nI k)), (0, .ref (a 0)), (1, .int x1)]) hx hb dX4_scanItem_63 rfl hl (by decide) rfl (fun ls hl => ?_)
      refine lv_iload hx hb dX4_scanItem_64 (lv_at hl 1 rfl) ?_
      refine lv_bipush (v := 59) hx hb dX4_scanItem_66 (by decide) ?_
      refine lv_icmp_ne (tgt := 73) hx hb dX4_scanItem_68 (by decide) (fun c_68 => ?_) (fun c_68 => ?_)
      · refine lv_iload hx hb dX4_scanItem_73 (lv_at hl 1 rfl) ?_
        refine lv_bipush (v := 44) hx hb dX4_scanItem_75 (by decide) ?_
        refine lv_icmp_eq (tgt := 82) hx hb dX4_scanItem_77 (by decide) (fun c_77 => ?_) (fun c_77 => ?_)
        · refine lv_iinc (v := nI (k + 1)) (lv' := [(3, .int (nI (k + 1))), (2, .int (q + ((f_X4_figuresAt u q) + 1))), (5, .int (f_X4_byteAt (setI (setA u 1 (rPut (u.1 1) 3 (nI k) (f_X4_numberAt u q (f_X4_figuresAt u q)))) 2 ((nI k) + 1)) (q + (f_X4_figuresAt u q)))), (4, .int (f_X4_figuresAt u q)), (0, .ref (a 0)), (1, .int x1)]) hx hb dX4_scanItem_82 hl (k := 3) rfl (nI_1 _) (by decide) rfl (fun ls hl => ?_)
          refine lv_goto (tgt := 6) hx hb dX4_scanItem_85 (by decide) ?_
          have hP : PP G [bX4 a G (setI (setA u 1 (rPut (u.1 1) 3 (nI k) (f_X4_numberAt u q (f_X4_figuresAt u q)))) 2 ((nI k) + 1))] H := hP
          have hD : DD (AA (List.flatten [bX4 a G v])) [bX4 a G (setI (setA u 1 (rPut (u.1 1) 3 (nI k) (f_X4_numberAt u q (f_X4_figuresAt u q)))) 2 ((nI k) + 1))] := D_re hD (adc (bX4_ad _ _ _ _) adn)
          exact ih_6 (setI (setA u 1 (rPut (u.1 1) 3 (nI k) (f_X4_numberAt u q (f_X4_figuresAt u q)))) 2 ((nI k) + 1)) (q + ((f_X4_figuresAt u q) + 1)) _ _ _ hP hD hS (show lv_has ls 6 [(3, .int (nI (k + 1))), (2, .int (q + ((f_X4_figuresAt u q) + 1))), (0, .ref (a 0)), (1, .int x1)] from lv_sub hl [0, 1, 4, 5] rfl) (hq.trans (scan_s hk_k c_20 c_68 c_77))
        · refine lv_iconst (v := (-1)) hx hb dX4_scanItem_80 (by decide) ?_
          have hP : PP G [bX4 a G ((f_X4_scan v x1).1)] H := by
            unfold f_X4_scan
            rw [hq, scan_3 hk_k]
            simp only [scanGo, if_neg c_8, if_neg c_20, if_neg c_68, if_neg c_77]
            exact hP
          exact kr_si hx hb hr hlocks dX4_scanItem_81 hP hS (sameAd_cons (bX4_ad _ _ _ _) sameAd_nil) ⟨(by unfold f_X4_scan; rw [hq, scan_3 hk_k]; simp only [scanGo, if_neg c_8, if_neg c_20, if_neg c_68, if_neg c_77]), rfl⟩
      · refine lv_iload_n hx hb dX4_scanItem_71 rfl (lv_at hl 0 rfl) ?_
        have hP : PP G [bX4 a G ((f_X4_scan v x1).1)] H := by
          unfold f_X4_scan
          rw [hq, scan_3 hk_k]
          simp only [scanGo, if_neg c_8, if_neg c_20, if_pos c_68]
          exact hP
        exact kr_si hx hb hr hlocks dX4_scanItem_72 hP hS (sameAd_cons (bX4_ad _ _ _ _) sameAd_nil) ⟨(by unfold f_X4_scan; rw [hq, scan_3 hk_k]; simp only [scanGo, if_neg c_8, if_neg c_20, if_pos c_68]), rfl⟩
    · refine lv_iconst (v := (-1)) hx hb dX4_scanItem_23 (by decide) ?_
      have hP : PP G [bX4 a G ((f_X4_scan v x1).1)] H := by
        unfold f_X4_scan
        rw [hq, scan_3 hk_k]
        simp only [scanGo, if_neg c_8, if_pos c_20]
        exact hP
      exact kr_si hx hb hr hlocks dX4_scanItem_24 hP hS (sameAd_cons (bX4_ad _ _ _ _) sameAd_nil) ⟨(by unfold f_X4_scan; rw [hq, scan_3 hk_k]; simp only [scanGo, if_neg c_8, if_pos c_20]), rfl⟩

def rm_X4_readInto : Room := { frames := 5, cells := 0, slots := 0, locals := 109 }
theorem hd_X4_readInto : yX4_readInto.cls = RX4 ∧ yX4_readInto.cls ≠ "java/lang/invoke/MethodHandle" ∧ yX4_readInto.cls ≠ "java/lang/invoke/VarHandle" ∧ (parseMethodDescriptor yX4_readInto.desc).map (fun d => d.parameters.length) = some 1 := by decide +kernel
set_option maxRecDepth 100000 in
set_option maxHeartbeats 4000000 in
theorem c_X4_readInto (l : Launch) (G : GD) (a : Nat → Nat) (v : OV) (b : Nat → Nat) (w : OV)  : MetS l yX4_readInto wsX4_readInto rm_X4_readInto G [bX4 a G v, bX2 b G w] [.ref (a 0), .ref (b 0)] (fun r bc => r = some (.int ((f_X4_read v w).1)) ∧ bc = [bX4 a G ((f_X4_read v w).2.1), bX2 b G ((f_X4_read v w).2.2)]) := by
  refine kb_beginS (cc := cX4_readInto) (maxL := 5) (ret := (some .int)) (by decide) rfl (Nat.le_of_ble_eq_true rfl) ?_
  intro p e s m below meth c hx hb hr hml hown hts hlocks hX H locs hP hD hS ls hl
  have hown : s.vm.findClass RX4 = some m.cls := hown
  have hl : lv_has ls 5 [(0, .ref (a 0)), (1, .ref (b 0))] := hl
  have hin4 : ∀ w ∈ u_ws RX4 TX4 4, w ∈ wsX4_readInto := (fun _ h => List.mem_cons_of_mem _ (List.mem_append_left _ (List.mem_append_right _ (h))))
  refine lv_aload_n hx hb dX4_readInto_0 rfl (lv_at hl 1 rfl) ?_
  refine kcV_s hx hb hml hown hts hX hP hD hS (c_X2_clear l G b w) gX4_readInto_X2_clear 0 rfl rfl rfl hd_X2_clear ⟨Nat.le_of_ble_eq_true rfl, Nat.le_of_ble_eq_true rfl⟩ [1] (by decide) rfl 1 rfl rfl rfl hl.1 rfl rfl (Nat.le_of_ble_eq_true rfl) dX4_readInto_1 ⟨Nat.zero_le _, Nat.zero_le _⟩ (fun r_ bc_ hq_1 H locs hP hD hS => ?_)
  obtain ⟨rfl, rfl⟩ := hq_1
  have hP : PP G [bX4 a G v, bX2 b G (f_X2_clear w)] H := hP
  have hD : DD (AA (List.flatten [bX4 a G v, bX2 b G w])) [bX4 a G v, bX2 b G (f_X2_clear w)] := D_re hD (adc (bX4_ad _ _ _ _) (adc (bX2_ad _ _ _ _) adn))
  refine lv_iconst (v := 0) hx hb dX4_readInto_4 (by decide) ?_
  refine lv_istore_n (lv' := [(2, .int 0), (0, .ref (a 0)), (1, .ref (b 0))]) hx hb dX4_readInto_5 rfl hl (by decide) rfl (fun ls hl => ?_)
  refine lv_iconst (v := 0) hx hb dX4_readInto_6 (by decide) ?_
  refine lv_istore_n (lv' := [(3, .int 0), (2, .int 0), (0, .ref (a 0)), (1, .ref (b 0))]) hx hb dX4_readInto_7 rfl hl (by decide) rfl (fun ls hl => ?_)
  refine lp_up (N := 300) (P := fun k => ∀ (u : OV), ∀ (y : OV), ∀ (q : Int32), ∀ (H : Heap) (locs : List Loc) (ls : Array Slot), PP G [bX4 a G u, bX2 b G y] H → DD (AA (List.flatten [bX4 a G v, bX2 b G w])) [bX4 a G u, bX2 b G y] → va_S (AA (List.flatten [bX4 a G v, bX2 b G w])) s.heap H locs → lv_has ls 5 [(3, .int (nI k)), (2, .int q), (0, .ref (a 0)), (1, .ref (b 0))] → (readGo 300 v (f_X2_clear w) 0 = readGo (300 - k) u y q) → W p l e (headSpec wsX4_readInto rm_X4_readInto).room s m ([.ref (a 0), .ref (b 0)] : List Value).toArray below meth c H locs 0 0 (MQ below (kQs G [bX4 a G v, bX2 b G w] (fun r bc => r = some (.int ((f_X4_read v w).1)) ∧ bc = [bX4 a G ((f_X4_read v w).2.1), bX2 b G ((f_X4_read v w).2.2)])) ([.ref (a 0), .ref (b 0)] : List Value).toArray s 0 0 (AA (List.flatten [bX4 a G v, bX2 b G w]))) (F0 m 8 ls [])) ?_ ?_ 0 (Nat.zero_le _) v (f_X2_clear w) 0 _ _ _ hP hD hS (lv_sub hl [0, 1, 2, 3] rfl) (rfl)
  · skip
    intro u y q H locs ls hP hD hS hl hq
    refine lv_iload_n hx hb dX4_readInto_8 rfl (lv_at hl 0 rfl) ?_
    refine lv_sipush (v := 300) hx hb dX4_readInto_9 (by decide) ?_
    refine lv_icmp_ge (tgt := 66) hx hb dX4_readInto_12 (by decide) (fun c_12 => ?_) (fun c_12 => absurd ((by decide : (300 : Int32) ≤ nI 300)) c_12)
    refine lv_bipush (v := (-4)) hx hb dX4_readInto_66 (by decide) ?_
    have hP : PP G [bX4 a G ((f_X4_read v w).2.1), bX2 b G ((f_X4_read v w).2.2)] H := by
      unfold f_X4_read
      rw [hq]
      exact hP
    exact kr_si hx hb hr hlocks dX4_readInto_68 hP hS (sameAd_cons (bX4_ad _ _ _ _) (sameAd_cons (bX2_ad _ _ _ _) sameAd_nil)) ⟨(by unfold f_X4_read; rw [hq]; rfl), rfl⟩
  · skip
    intro k hk_k ih_8 u y q H locs ls hP hD hS hl hq
    refine lv_iload_n hx hb dX4_readInto_8 rfl (lv_at hl 0 rfl) ?_
    refine lv_sipush (v := 300) hx hb dX4_readInto_9 (by decide) ?_
    refine lv_icmp_ge (tgt := 66) hx hb dX4_readInto_12 (by decide) (fun c_12 => absurd c_12 (nI_ge (b := 300) hk_k (by decide))) (fun c_12 => ?_)
    refine lv_iload_n hx hb dX4_readInto_15 rfl (lv_at hl 1 rfl) ?_
    refine lv_aload_n hx hb dX4_readInto_16 rfl (lv_at hl 2 rfl) ?_
    refine kb_get (own := RX4) (C := RX4) (T := TX4) (N := 4) (v := .int (u.2 3)) hx hb hts hin4 hown hX hP 0 rfl rfl rfl 3 (by decide) rfl (by decide +kernel) rfl dX4_readInto_17 ?_
    refine lv_icmp_ge (tgt := 66) hx hb dX4_readInto_20 (by decide) (fun c_20 => ?_) (fun c_20 => ?_)
    · refine lv_bipush (v := (-4)) hx hb dX4_readInto_66 (by decide) ?_
      have hP : PP G [bX4 a G ((f_X4_read v w).2.1), bX2 b G ((f_X4_read v w).2.2)] H := by
        unfold f_X4_read
        rw [hq, sub_s hk_k]
        simp only [readGo, if_neg c_12, if_pos c_20]
        exact hP
      exact kr_si hx hb hr hlocks dX4_readInto_68 hP hS (sameAd_cons (bX4_ad _ _ _ _) (sameAd_cons (bX2_ad _ _ _ _) sameAd_nil)) ⟨(by unfold f_X4_read; rw [hq, sub_s hk_k]; simp only [readGo, if_neg c_12, if_pos c_20]), rfl⟩
    · refine lv_aload_n hx hb dX4_readInto_23 rfl (lv_at hl 2 rfl) ?_
      refine lv_iload_n hx hb dX4_readInto_24 rfl (lv_at hl 1 rfl) ?_
      refine kcV_s hx hb hml hown hts hX hP hD hS (c_X4_scanItem l G a u q) gX4_readInto_X4_scanItem 1 rfl rfl rfl hd_X4_scanItem ⟨Nat.le_of_ble_eq_true rfl, Nat.le_of_ble_eq_true rfl⟩ [0] (by decide) rfl 0 rfl rfl rfl hl.1 rfl rfl (Nat.le_of_ble_eq_true rfl) dX4_readInto_25 ⟨Nat.zero_le _, Nat.zero_le _⟩ (fun r_ bc_ hq_2 H locs hP hD hS => ?_)
      obtain ⟨rfl, rfl⟩ := hq_2
      have hP : PP G [bX4 a G ((f_X4_scan u q).1), bX2 b G y] H := hP
      have hD : DD (AA (List.flatten [bX4 a G v, bX2 b G w])) [bX4 a G ((f_X4_scan u q).1), bX2 b G y] := D_re hD (adc (bX4_ad _ _ _ _) (adc (bX2_ad _ _ _ _) adn))
      refine lv_istore (lv' := [(4, .int ((f_X4_scan u q).2)), (3, .int (nI k)), (2, .int q), (0, .ref (a 0)), (1, .ref (b 0))]) hx hb dX4_readInto_28 hl (by decide) rfl (fun ls hl => ?_)
      refine lv_iload hx hb dX4_readInto_30 (lv_at hl 0 rfl) ?_
      refine lv_if_lt (tgt := 55) hx hb dX4_readInto_32 (by decide) (fun c_32 => ?_) (fun c_32 => ?_)
      · refine lv_iload_n hx hb dX4_readInto_55 rfl (lv_at hl 2 rfl) ?_
        have hP : PP G [bX4 a G ((f_X4_read v w).2.1), bX2 b G ((f_X4_read v w).2.2)] H := by
          unfold f_X4_read
          rw [hq, sub_s hk_k]
          simp only [readGo, if_neg c_12, if_neg c_20, if_pos c_32]
          exact hP
        exact kr_si hx hb hr hlocks dX4_readInto_56 hP hS (sameAd_cons (bX4_ad _ _ _ _) (sameAd_cons (bX2_ad _ _ _ _) sameAd_nil)) ⟨(by unfold f_X4_read; rw [hq, sub_s hk_k]; simp only [readGo, if_neg c_12, if_neg c_20, if_pos c_32]), rfl⟩
      · refine lv_aload_n hx hb dX4_readInto_35 rfl (lv_at hl 4 rfl) ?_
        refine lv_aload_n hx hb dX4_readInto_36 rfl (lv_at hl 3 rfl) ?_
        refine lv_iload_n hx hb dX4_readInto_37 rfl (lv_at hl 2 rfl) ?_
        refine kcV_p hx hb hml hown hts hX hP (c_X4_byteAt l G a ((f_X4_scan u q).1) q) gX4_readInto_X4_byteAt 1 rfl rfl rfl hd_X4_byteAt ⟨Nat.le_of_ble_eq_true rfl, Nat.le_of_ble_eq_true rfl⟩ [0] rfl 0 rfl rfl rfl hl.1 rfl rfl (Nat.le_of_ble_eq_true rfl) dX4_readInto_38 ⟨Nat.zero_le _, Nat.zero_le _⟩ ?_
        refine lv_aload_n hx hb dX4_readInto_41 rfl (lv_at hl 3 rfl) ?_
        refine kb_get (own := RX4) (C := RX4) (T := TX4) (N := 4) (v := .int (((f_X4_scan u q).1).2 2)) hx hb hts hin4 hown hX hP 0 rfl rfl rfl 2 (by decide) rfl (by decide +kernel) rfl dX4_readInto_42 ?_
        refine lv_aload_n hx hb dX4_readInto_45 rfl (lv_at hl 3 rfl) ?_
        refine kb_get (own := RX4) (C := RX4) (T := TX4) (N := 4) (v := .ref (a 2)) hx hb hts hin4 hown hX hP 0 rfl rfl rfl 1 (by decide) rfl (by decide +kernel) rfl dX4_readInto_46 ?_
        have hP := cut4P hP
        have hD := cut4D hD
        refine kcV_s hx hb hml hown hts hX hP hD hS (c_X2_take l G b y (f_X4_byteAt ((f_X4_scan u q).1) q) (((f_X4_scan u q).1).2 2) (a 2) (((f_X4_scan u q).1).1 1)) gX4_readInto_X2_take 3 rfl rfl rfl hd_X2_take ⟨Nat.le_of_ble_eq_true rfl, Nat.le_of_ble_eq_true rfl⟩ [2, 1] (by decide) rfl 2 rfl rfl rfl hl.1 rfl rfl (Nat.le_of_ble_eq_true rfl) dX4_readInto_49 ⟨Nat.zero_le _, Nat.zero_le _⟩ (fun r_ bc_ hq_3 H locs hP hD hS => ?_)
        obtain ⟨rfl, rfl⟩ := hq_3
        have hP : PP G [bX4h a G ((f_X4_scan u q).1), [(a 2, .inl (G.2.1, 3, .inl (((f_X4_scan u q).1).1 1)))], bX2 b G (f_X2_take y (f_X4_byteAt ((f_X4_scan u q).1) q) (((f_X4_scan u q).1).2 2) (((f_X4_scan u q).1).1 1))] H := hP
        have hD : DD (AA (List.flatten [bX4 a G v, bX2 b G w])) [bX4h a G ((f_X4_scan u q).1), [(a 2, .inl (G.2.1, 3, .inl (((f_X4_scan u q).1).1 1)))], bX2 b G (f_X2_take y (f_X4_byteAt ((f_X4_scan u q).1) q) (((f_X4_scan u q).1).2 2) (((f_X4_scan u q).1).1 1))] := D_re hD (adc rfl (adc (row_ad _ _ _) (adc (bX2_ad _ _ _ _) adn)))
        have hP := join4P hP
        have hD := join4D hD
        refine lv_if_ne (tgt := 57) hx hb dX4_readInto_52 (by decide) (fun c_52r => ?_) (fun c_52r => ?_)
        · have c_52 := b2i_tP c_52r
          refine lv_iload hx hb dX4_readInto_57 (lv_at hl 0 rfl) ?_
          refine lv_istore_n (lv' := [(2, .int ((f_X4_scan u q).2)), (4, .int ((f_X4_scan u q).2)), (3, .int (nI k)), (0, .ref (a 0)), (1, .ref (b 0))]) hx hb dX4_readInto_59 rfl hl (by decide) rfl (fun ls hl => ?_)
          refine lv_iinc (v := nI (k + 1)) (lv' := [(3, .int (nI (k + 1))), (2, .int ((f_X4_scan u q).2)), (4, .int ((f_X4_scan u q).2)), (0, .ref (a 0)), (1, .ref (b 0))]) hx hb dX4_readInto_60 hl (k := 2) rfl (nI_1 _) (by decide) rfl (fun ls hl => ?_)
          refine lv_goto (tgt := 8) hx hb dX4_readInto_63 (by decide) ?_
          have hP : PP G [bX4 a G ((f_X4_scan u q).1), bX2 b G (f_X2_take y (f_X4_byteAt ((f_X4_scan u q).1) q) (((f_X4_scan u q).1).2 2) (((f_X4_scan u q).1).1 1))] H := hP
          have hD : DD (AA (List.flatten [bX4 a G v, bX2 b G w])) [bX4 a G ((f_X4_scan u q).1), bX2 b G (f_X2_take y (f_X4_byteAt ((f_X4_scan u q).1) q) (((f_X4_scan u q).1).2 2) (((f_X4_scan u q).1).1 1))] := D_re hD (adc (bX4_ad _ _ _ _) (adc (bX2_ad _ _ _ _) adn))
          exact ih_8 ((f_X4_scan u q).1) (f_X2_take y (f_X4_byteAt ((f_X4_scan u q).1) q) (((f_X4_scan u q).1).2 2) (((f_X4_scan u q).1).1 1)) ((f_X4_scan u q).2) _ _ _ hP hD hS (show lv_has ls 5 [(3, .int (nI (k + 1))), (2, .int ((f_X4_scan u q).2)), (0, .ref (a 0)), (1, .ref (b 0))] from lv_sub hl [0, 1, 3, 4] rfl) (hq.trans (read_s hk_k c_20 c_32 c_52))
        · have c_52 := b2i_fN c_52r
          refine lv_iload_n hx hb dX4_readInto_55 rfl (lv_at hl 2 rfl) ?_
          have hP : PP G [bX4 a G ((f_X4_read v w).2.1), bX2 b G ((f_X4_read v w).2.2)] H := by
            unfold f_X4_read
            rw [hq, sub_s hk_k]
            simp only [readGo, if_neg c_12, if_neg c_20, if_neg c_32, if_neg c_52]
            exact hP
          exact kr_si hx hb hr hlocks dX4_readInto_56 hP hS (sameAd_cons (bX4_ad _ _ _ _) (sameAd_cons (bX2_ad _ _ _ _) sameAd_nil)) ⟨(by unfold f_X4_read; rw [hq, sub_s hk_k]; simp only [readGo, if_neg c_12, if_neg c_20, if_neg c_32, if_neg c_52]), rfl⟩

def rm_X5_shorten : Room := { frames := 1, cells := 0, slots := 0, locals := 22 }
theorem hd_X5_shorten : yX5_shorten.cls = RX5 ∧ yX5_shorten.cls ≠ "java/lang/invoke/MethodHandle" ∧ yX5_shorten.cls ≠ "java/lang/invoke/VarHandle" ∧ (parseMethodDescriptor yX5_shorten.desc).map (fun d => d.parameters.length) = some 1 := by decide +kernel
set_option maxRecDepth 100000 in
set_option maxHeartbeats 4000000 in
theorem c_X5_shorten (l : Launch) (G : GD) (a : Nat → Nat) (v : OV) (b : Nat → Nat) (w : OV)  : MetS l yX5_shorten wsX5_shorten rm_X5_shorten G [bX5 a G v, bX2 b G w] [.ref (a 0), .ref (b 0)] (fun r bc => r = some (.int (b2i (f_X5_short v w).2)) ∧ bc = [bX5 a G ((f_X5_short v w).1), bX2 b G w]) := by
  refine kb_beginS (cc := cX5_shorten) (maxL := 8) (ret := (some .boolean)) (by decide) rfl (Nat.le_of_ble_eq_true rfl) ?_
  intro p e s m below meth c hx hb hr hml hown hts hlocks hX H locs hP hD hS ls hl
  have hown : s.vm.findClass RX5 = some m.cls := hown
  have hl : lv_has ls 8 [(0, .ref (a 0)), (1, .ref (b 0))] := hl
  have hin2 : ∀ w ∈ u_ws RX2 TX2 15, w ∈ wsX5_shorten := (fun _ h => List.mem_cons_of_mem _ (List.mem_append_left _ (List.mem_append_right _ (h))))
  have hin5 : ∀ w ∈ u_ws RX5 TX5 2, w ∈ wsX5_shorten := (fun _ h => List.mem_cons_of_mem _ (List.mem_append_right _ (h)))
  refine lv_iconst (v := 0) hx hb dX5_shorten_0 (by decide) ?_
  refine lv_istore_n (lv' := [(2, .int 0), (0, .ref (a 0)), (1, .ref (b 0))]) hx hb dX5_shorten_1 rfl hl (by decide) rfl (fun ls hl => ?_)
  refine lv_iconst (v := 0) hx hb dX5_shorten_2 (by decide) ?_
  refine lv_istore_n (lv' := [(3, .int 0), (2, .int 0), (0, .ref (a 0)), (1, .ref (b 0))]) hx hb dX5_shorten_3 rfl hl (by decide) rfl (fun ls hl => ?_)
  refine lp_up (N := (w.2 9).toNatClampNeg) (P := fun k => ∀ (H : Heap) (locs : List Loc) (ls : Array Slot), PP G [bX5 a G ((itN (s_short w) (v, false) k).1), bX2 b G w] H → DD (AA (List.flatten [bX5 a G v, bX2 b G w])) [bX5 a G ((itN (s_short w) (v, false) k).1), bX2 b G w] → va_S (AA (List.flatten [bX5 a G v, bX2 b G w])) s.heap H locs → lv_has ls 8 [(3, .int (nI k)), (2, .int (b2i (itN (s_short w) (v, false) k).2)), (0, .ref (a 0)), (1, .ref (b 0))] →  W p l e (headSpec wsX5_shorten rm_X5_shorten).room s m ([.ref (a 0), .ref (b 0)] : List Value).toArray below meth c H locs 0 0 (MQ below (kQs G [bX5 a G v, bX2 b G w] (fun r bc => r = some (.int (b2i (f_X5_short v w).2)) ∧ bc = [bX5 a G ((f_X5_short v w).1), bX2 b G w])) ([.ref (a 0), .ref (b 0)] : List Value).toArray s 0 0 (AA (List.flatten [bX5 a G v, bX2 b G w]))) (F0 m 4 ls [])) ?_ ?_ 0 (Nat.zero_le _)  _ _ _ hP hD hS (lv_sub hl [0, 1, 2, 3] rfl) 
  · skip
    intro H locs ls hP hD hS hl 
    refine lv_iload_n hx hb dX5_shorten_4 rfl (lv_at hl 0 rfl) ?_
    refine lv_aload_n hx hb dX5_shorten_5 rfl (lv_at hl 3 rfl) ?_
    refine kb_getN (own := RX5) (C := RX2) (T := TX2) (N := 15) (v := .int (w.2 9)) hx hb hts hin2 hown hX hP 1 rfl rfl rfl 9 (by decide) rfl (by decide +kernel) rfl dX5_shorten_6 ?_
    refine lv_icmp_ge (tgt := 135) hx hb dX5_shorten_9 (by decide) (fun c_9 => ?_) (fun c_9 => absurd (lpx_c _) c_9)
    refine lv_iload_n hx hb dX5_shorten_135 rfl (lv_at hl 1 rfl) ?_
    have hP : PP G [bX5 a G ((f_X5_short v w).1), bX2 b G w] H := by
      exact hP
    exact kr_sz hx hb hr hlocks dX5_shorten_136 (narrow_b2i _) hP hS (sameAd_cons (bX5_ad _ _ _ _) (sameAd_cons (bX2_ad _ _ _ _) sameAd_nil)) ⟨rfl, rfl⟩
  · skip
    intro k hk_k ih_4 H locs ls hP hD hS hl 
    refine lv_iload_n hx hb dX5_shorten_4 rfl (lv_at hl 0 rfl) ?_
    refine lv_aload_n hx hb dX5_shorten_5 rfl (lv_at hl 3 rfl) ?_
    refine kb_getN (own := RX5) (C := RX2) (T := TX2) (N := 15) (v := .int (w.2 9)) hx hb hts hin2 hown hX hP 1 rfl rfl rfl 9 (by decide) rfl (by decide +kernel) rfl dX5_shorten_6 ?_
    refine lv_icmp_ge (tgt := 135) hx hb dX5_shorten_9 (by decide) (fun c_9 => absurd c_9 (lps_c hk_k)) (fun c_9 => ?_)
    refine lv_aload_n hx hb dX5_shorten_12 rfl (lv_at hl 3 rfl) ?_
    refine kb_getN (own := RX5) (C := RX2) (T := TX2) (N := 15) (v := .ref (b 1)) hx hb hts hin2 hown hX hP 1 rfl rfl rfl 0 (by decide) rfl (by decide +kernel) rfl dX5_shorten_13 ?_
    refine lv_iload_n hx hb dX5_shorten_16 rfl (lv_at hl 0 rfl) ?_
    refine kcN_p hx hb hml hown hts hX hP (c_X6_at l G (b 1) 8 (w.1 0) (nI k) (by decide)) gX5_shorten_X6_at_n53 (by decide +kernel) (by decide +kernel) (by decide +kernel) 2 rfl rfl rfl hdS_X6_at ⟨Nat.le_of_ble_eq_true rfl, Nat.le_of_ble_eq_true rfl⟩ (cell_in (i := 1) (j := 1) rfl rfl) hl.1 rfl rfl (Nat.le_of_ble_eq_true rfl) dX5_shorten_17 ⟨Nat.zero_le _, Nat.zero_le _⟩ ?_
    refine lv_istore (lv' := [(4, .int (rAt (w.1 0) 8 (nI k))), (3, .int (nI k)), (2, .int (b2i (itN (s_short w) (v, false) k).2)), (0, .ref (a 0)), (1, .ref (b 0))]) hx hb dX5_shorten_20 hl (by decide) rfl (fun ls hl => ?_)
    refine lv_aload_n hx hb dX5_shorten_22 rfl (lv_at hl 4 rfl) ?_
    refine kb_getN (own := RX5) (C := RX2) (T := TX2) (N := 15) (v := .ref (b 2)) hx hb hts hin2 hown hX hP 1 rfl rfl rfl 1 (by decide) rfl (by decide +kernel) rfl dX5_shorten_23 ?_
    refine lv_iload_n hx hb dX5_shorten_26 rfl (lv_at hl 1 rfl) ?_
    refine kcN_p hx hb hml hown hts hX hP (c_X6_at l G (b 2) 8 (w.1 1) (nI k) (by decide)) gX5_shorten_X6_at_n53 (by decide +kernel) (by decide +kernel) (by decide +kernel) 2 rfl rfl rfl hdS_X6_at ⟨Nat.le_of_ble_eq_true rfl, Nat.le_of_ble_eq_true rfl⟩ (cell_in (i := 1) (j := 2) rfl rfl) hl.1 rfl rfl (Nat.le_of_ble_eq_true rfl) dX5_shorten_27 ⟨Nat.zero_le _, Nat.zero_le _⟩ ?_
    refine lv_istore (lv' := [(5, .int (rAt (w.1 1) 8 (nI k))), (4, .int (rAt (w.1 0) 8 (nI k))), (3, .int (nI k)), (2, .int (b2i (itN (s_short w) (v, false) k).2)), (0, .ref (a 0)), (1, .ref (b 0))]) hx hb dX5_shorten_30 hl (by decide) rfl (fun ls hl => ?_)
    refine lv_aload_n hx hb dX5_shorten_32 rfl (lv_at hl 4 rfl) ?_
    refine kb_get (own := RX5) (C := RX5) (T := TX5) (N := 2) (v := .ref (a 1)) hx hb hts hin5 hown hX hP 0 rfl rfl rfl 0 (by decide) rfl (by decide +kernel) rfl dX5_shorten_33 ?_
    refine lv_iload hx hb dX5_shorten_36 (lv_at hl 1 rfl) ?_
    refine kcN_p hx hb hml hown hts hX hP (c_X6_at l G (a 1) 6 (((itN (s_short w) (v, false) k).1).1 0) (rAt (w.1 0) 8 (nI k)) (by decide)) gX5_shorten_X6_at_n53 (by decide +kernel) (by decide +kernel) (by decide +kernel) 2 rfl rfl rfl hdS_X6_at ⟨Nat.le_of_ble_eq_true rfl, Nat.le_of_ble_eq_true rfl⟩ (cell_in (i := 0) (j := 1) rfl rfl) hl.1 rfl rfl (Nat.le_of_ble_eq_true rfl) dX5_shorten_38 ⟨Nat.zero_le _, Nat.zero_le _⟩ ?_
    refine lv_aload_n hx hb dX5_shorten_41 rfl (lv_at hl 4 rfl) ?_
    refine kb_get (own := RX5) (C := RX5) (T := TX5) (N := 2) (v := .ref (a 2)) hx hb hts hin5 hown hX hP 0 rfl rfl rfl 1 (by decide) rfl (by decide +kernel) rfl dX5_shorten_42 ?_
    refine lv_iload_n hx hb dX5_shorten_45 rfl (lv_at hl 2 rfl) ?_
    refine kcN_p hx hb hml hown hts hX hP (c_X6_at l G (a 2) 8 (((itN (s_short w) (v, false) k).1).1 1) (nI k) (by decide)) gX5_shorten_X6_at_n53 (by decide +kernel) (by decide +kernel) (by decide +kernel) 2 rfl rfl rfl hdS_X6_at ⟨Nat.le_of_ble_eq_true rfl, Nat.le_of_ble_eq_true rfl⟩ (cell_in (i := 0) (j := 2) rfl rfl) hl.1 rfl rfl (Nat.le_of_ble_eq_true rfl) dX5_shorten_46 ⟨Nat.zero_le _, Nat.zero_le _⟩ ?_
    refine lv_iadd hx hb dX5_shorten_49 ?_
    refine lv_istore (lv' := [(6, .int ((rAt (((itN (s_short w) (v, false) k).1).1 0) 6 (rAt (w.1 0) 8 (nI k))) + (rAt (((itN (s_short w) (v, false) k).1).1 1) 8 (nI k)))), (5, .int (rAt (w.1 1) 8 (nI k))), (4, .int (rAt (w.1 0) 8 (nI k))), (3, .int (nI k)), (2, .int (b2i (itN (s_short w) (v, false) k).2)), (0, .ref (a 0)), (1, .ref (b 0))]) hx hb dX5_shorten_50 hl (by decide) rfl (fun ls hl => ?_)
    refine lv_aload_n hx hb dX5_shorten_52 rfl (lv_at hl 5 rfl) ?_
    refine kb_get (own := RX5) (C := RX5) (T := TX5) (N := 2) (v := .ref (a 1)) hx hb hts hin5 hown hX hP 0 rfl rfl rfl 0 (by decide) rfl (by decide +kernel) rfl dX5_shorten_53 ?_
    refine lv_iload hx hb dX5_shorten_56 (lv_at hl 1 rfl) ?_
    refine kcN_p hx hb hml hown hts hX hP (c_X6_at l G (a 1) 6 (((itN (s_short w) (v, false) k).1).1 0) (rAt (w.1 1) 8 (nI k)) (by decide)) gX5_shorten_X6_at_n53 (by decide +kernel) (by decide +kernel) (by decide +kernel) 2 rfl rfl rfl hdS_X6_at ⟨Nat.le_of_ble_eq_true rfl, Nat.le_of_ble_eq_true rfl⟩ (cell_in (i := 0) (j := 1) rfl rfl) hl.1 rfl rfl (Nat.le_of_ble_eq_true rfl) dX5_shorten_58 ⟨Nat.zero_le _, Nat.zero_le _⟩ ?_
    refine lv_aload_n hx hb dX5_shorten_61 rfl (lv_at hl 5 rfl) ?_
    refine kb_get (own := RX5) (C := RX5) (T := TX5) (N := 2) (v := .ref (a 2)) hx hb hts hin5 hown hX hP 0 rfl rfl rfl 1 (by decide) rfl (by decide +kernel) rfl dX5_shorten_62 ?_
    refine lv_iload_n hx hb dX5_shorten_65 rfl (lv_at hl 3 rfl) ?_
    refine kcN_p hx hb hml hown hts hX hP (c_X6_at l G (a 2) 8 (((itN (s_short w) (v, false) k).1).1 1) (nI k) (by decide)) gX5_shorten_X6_at_n53 (by decide +kernel) (by decide +kernel) (by decide +kernel) 2 rfl rfl rfl hdS_X6_at ⟨Nat.le_of_ble_eq_true rfl, Nat.le_of_ble_eq_true rfl⟩ (cell_in (i := 0) (j := 2) rfl rfl) hl.1 rfl rfl (Nat.le_of_ble_eq_true rfl) dX5_shorten_66 ⟨Nat.zero_le _, Nat.zero_le _⟩ ?_
    refine lv_iadd hx hb dX5_shorten_69 ?_
    refine lv_istore (lv' := [(7, .int ((rAt (((itN (s_short w) (v, false) k).1).1 0) 6 (rAt (w.1 1) 8 (nI k))) + (rAt (((itN (s_short w) (v, false) k).1).1 1) 8 (nI k)))), (6, .int ((rAt (((itN (s_short w) (v, false) k).1).1 0) 6 (rAt (w.1 0) 8 (nI k))) + (rAt (((itN (s_short w) (v, false) k).1).1 1) 8 (nI k)))), (5, .int (rAt (w.1 1) 8 (nI k))), (4, .int (rAt (w.1 0) 8 (nI k))), (3, .int (nI k)), (2, .int (b2i (itN (s_short w) (v, false) k).2)), (0, .ref (a 0)), (1, .ref (b 0))]) hx hb dX5_shorten_70 hl (by decide) rfl (fun ls hl => ?_)
    refine lv_iload hx hb dX5_shorten_72 (lv_at hl 0 rfl) ?_
    refine lv_aload_n hx hb dX5_shorten_74 rfl (lv_at hl 6 rfl) ?_
    refine kb_get (own := RX5) (C := RX5) (T := TX5) (N := 2) (v := .ref (a 1)) hx hb hts hin5 hown hX hP 0 rfl rfl rfl 0 (by decide) rfl (by decide +kernel) rfl dX5_shorten_75 ?_
    refine lv_iload hx hb dX5_shorten_78 (lv_at hl 3 rfl) ?_
    refine kcN_p hx hb hml hown hts hX hP (c_X6_at l G (a 1) 6 (((itN (s_short w) (v, false) k).1).1 0) (rAt (w.1 0) 8 (nI k)) (by decide)) gX5_shorten_X6_at_n53 (by decide +kernel) (by decide +kernel) (by decide +kernel) 2 rfl rfl rfl hdS_X6_at ⟨Nat.le_of_ble_eq_true rfl, Nat.le_of_ble_eq_true rfl⟩ (cell_in (i := 0) (j := 1) rfl rfl) hl.1 rfl rfl (Nat.le_of_ble_eq_true rfl) dX5_shorten_80 ⟨Nat.zero_le _, Nat.zero_le _⟩ ?_
    refine lv_icmp_ge (tgt := 102) hx hb dX5_shorten_83 (by decide) (fun c_83 => ?_) (fun c_83 => ?_)
    · refine lv_iload hx hb dX5_shorten_102 (lv_at hl 1 rfl) ?_
      refine lv_aload_n hx hb dX5_shorten_104 rfl (lv_at hl 6 rfl) ?_
      refine kb_get (own := RX5) (C := RX5) (T := TX5) (N := 2) (v := .ref (a 1)) hx hb hts hin5 hown hX hP 0 rfl rfl rfl 0 (by decide) rfl (by decide +kernel) rfl dX5_shorten_105 ?_
      refine lv_iload hx hb dX5_shorten_108 (lv_at hl 2 rfl) ?_
      refine kcN_p hx hb hml hown hts hX hP (c_X6_at l G (a 1) 6 (((itN (s_short w) (v, false) k).1).1 0) (rAt (w.1 1) 8 (nI k)) (by decide)) gX5_shorten_X6_at_n53 (by decide +kernel) (by decide +kernel) (by decide +kernel) 2 rfl rfl rfl hdS_X6_at ⟨Nat.le_of_ble_eq_true rfl, Nat.le_of_ble_eq_true rfl⟩ (cell_in (i := 0) (j := 1) rfl rfl) hl.1 rfl rfl (Nat.le_of_ble_eq_true rfl) dX5_shorten_110 ⟨Nat.zero_le _, Nat.zero_le _⟩ ?_
      refine lv_icmp_ge (tgt := 129) hx hb dX5_shorten_113 (by decide) (fun c_113 => ?_) (fun c_113 => ?_)
      · refine lv_iinc (v := nI (k + 1)) (lv' := [(3, .int (nI (k + 1))), (7, .int ((rAt (((itN (s_short w) (v, false) k).1).1 0) 6 (rAt (w.1 1) 8 (nI k))) + (rAt (((itN (s_short w) (v, false) k).1).1 1) 8 (nI k)))), (6, .int ((rAt (((itN (s_short w) (v, false) k).1).1 0) 6 (rAt (w.1 0) 8 (nI k))) + (rAt (((itN (s_short w) (v, false) k).1).1 1) 8 (nI k)))), (5, .int (rAt (w.1 1) 8 (nI k))), (4, .int (rAt (w.1 0) 8 (nI k))), (2, .int (b2i (itN (s_short w) (v, false) k).2)), (0, .ref (a 0)), (1, .ref (b 0))]) hx hb dX5_shorten_129 hl (k := 4) rfl (nI_1 _) (by decide) rfl (fun ls hl => ?_)
        refine lv_goto (tgt := 4) hx hb dX5_shorten_132 (by decide) ?_
        have hP : PP G [bX5 a G ((itN (s_short w) (v, false) (k + 1)).1), bX2 b G w] H := by
          rw [itN_s]
          simp only [s_short, if_neg c_9, if_pos c_83, if_pos c_113]
          exact hP
        have hD : DD (AA (List.flatten [bX5 a G v, bX2 b G w])) [bX5 a G ((itN (s_short w) (v, false) (k + 1)).1), bX2 b G w] := D_re hD (adc (bX5_ad _ _ _ _) (adc (bX2_ad _ _ _ _) adn))
        exact ih_4  _ _ _ hP hD hS (by rw [itN_s]; simp only [s_short, if_neg c_9, if_pos c_83, if_pos c_113]; exact lv_sub hl [0, 5, 6, 7] rfl) 
      · refine lv_aload_n hx hb dX5_shorten_116 rfl (lv_at hl 6 rfl) ?_
        refine kb_get (own := RX5) (C := RX5) (T := TX5) (N := 2) (v := .ref (a 1)) hx hb hts hin5 hown hX hP 0 rfl rfl rfl 0 (by decide) rfl (by decide +kernel) rfl dX5_shorten_117 ?_
        refine lv_iload hx hb dX5_shorten_120 (lv_at hl 2 rfl) ?_
        refine lv_iload hx hb dX5_shorten_122 (lv_at hl 1 rfl) ?_
        refine kcN_c hx hb hml hown hts hX hP hD hS (c_X6_put l G (a 1) 6 (((itN (s_short w) (v, false) k).1).1 0) (rAt (w.1 1) 8 (nI k)) ((rAt (((itN (s_short w) (v, false) k).1).1 0) 6 (rAt (w.1 0) 8 (nI k))) + (rAt (((itN (s_short w) (v, false) k).1).1 1) 8 (nI k))) (by decide)) gX5_shorten_X6_put_n34 (by decide +kernel) (by decide +kernel) (by decide +kernel) 3 rfl rfl rfl hdS_X6_put ⟨Nat.le_of_ble_eq_true rfl, Nat.le_of_ble_eq_true rfl⟩ 0 1 rfl rfl (bX5_A0 a G ((itN (s_short w) (v, false) k).1) (rPut (((itN (s_short w) (v, false) k).1).1 0) 6 (rAt (w.1 1) 8 (nI k)) ((rAt (((itN (s_short w) (v, false) k).1).1 0) 6 (rAt (w.1 0) 8 (nI k))) + (rAt (((itN (s_short w) (v, false) k).1).1 1) 8 (nI k))))) hl.1 rfl rfl (Nat.le_of_ble_eq_true rfl) dX5_shorten_124 ⟨Nat.zero_le _, Nat.zero_le _⟩ (fun H locs hP hD hS => ?_)
        have hP : PP G [bX5 a G (setA ((itN (s_short w) (v, false) k).1) 0 (rPut (((itN (s_short w) (v, false) k).1).1 0) 6 (rAt (w.1 1) 8 (nI k)) ((rAt (((itN (s_short w) (v, false) k).1).1 0) 6 (rAt (w.1 0) 8 (nI k))) + (rAt (((itN (s_short w) (v, false) k).1).1 1) 8 (nI k))))), bX2 b G w] H := hP
        have hD : DD (AA (List.flatten [bX5 a G v, bX2 b G w])) [bX5 a G (setA ((itN (s_short w) (v, false) k).1) 0 (rPut (((itN (s_short w) (v, false) k).1).1 0) 6 (rAt (w.1 1) 8 (nI k)) ((rAt (((itN (s_short w) (v, false) k).1).1 0) 6 (rAt (w.1 0) 8 (nI k))) + (rAt (((itN (s_short w) (v, false) k).1).1 1) 8 (nI k))))), bX2 b G w] := D_re hD (adc (bX5_ad _ _ _ _) (adc (bX2_ad _ _ _ _) adn))
        refine lv_iconst (v := 1) hx hb dX5_shorten_127 (by decide) ?_
        refine lv_istore_n (lv' := [(2, .int 1), (7, .int ((rAt (((itN (s_short w) (v, false) k).1).1 0) 6 (rAt (w.1 1) 8 (nI k))) + (rAt (((itN (s_short w) (v, false) k).1).1 1) 8 (nI k)))), (6, .int ((rAt (((itN (s_short w) (v, false) k).1).1 0) 6 (rAt (w.1 0) 8 (nI k))) + (rAt (((itN (s_short w) (v, false) k).1).1 1) 8 (nI k)))), (5, .int (rAt (w.1 1) 8 (nI k))), (4, .int (rAt (w.1 0) 8 (nI k))), (3, .int (nI k)), (0, .ref (a 0)), (1, .ref (b 0))]) hx hb dX5_shorten_128 rfl hl (by decide) rfl (fun ls hl => ?_)
        refine lv_iinc (v := nI (k + 1)) (lv' := [(3, .int (nI (k + 1))), (2, .int 1), (7, .int ((rAt (((itN (s_short w) (v, false) k).1).1 0) 6 (rAt (w.1 1) 8 (nI k))) + (rAt (((itN (s_short w) (v, false) k).1).1 1) 8 (nI k)))), (6, .int ((rAt (((itN (s_short w) (v, false) k).1).1 0) 6 (rAt (w.1 0) 8 (nI k))) + (rAt (((itN (s_short w) (v, false) k).1).1 1) 8 (nI k)))), (5, .int (rAt (w.1 1) 8 (nI k))), (4, .int (rAt (w.1 0) 8 (nI k))), (0, .ref (a 0)), (1, .ref (b 0))]) hx hb dX5_shorten_129 hl (k := 5) rfl (nI_1 _) (by decide) rfl (fun ls hl => ?_)
        refine lv_goto (tgt := 4) hx hb dX5_shorten_132 (by decide) ?_
        have hP : PP G [bX5 a G ((itN (s_short w) (v, false) (k + 1)).1), bX2 b G w] H := by
          rw [itN_s]
          simp only [s_short, if_neg c_9, if_pos c_83, if_neg c_113]
          exact hP
        have hD : DD (AA (List.flatten [bX5 a G v, bX2 b G w])) [bX5 a G ((itN (s_short w) (v, false) (k + 1)).1), bX2 b G w] := D_re hD (adc (bX5_ad _ _ _ _) (adc (bX2_ad _ _ _ _) adn))
        exact ih_4  _ _ _ hP hD hS (by rw [itN_s]; simp only [s_short, if_neg c_9, if_pos c_83, if_neg c_113]; exact lv_sub hl [0, 1, 6, 7] rfl) 
    · refine lv_aload_n hx hb dX5_shorten_86 rfl (lv_at hl 6 rfl) ?_
      refine kb_get (own := RX5) (C := RX5) (T := TX5) (N := 2) (v := .ref (a 1)) hx hb hts hin5 hown hX hP 0 rfl rfl rfl 0 (by decide) rfl (by decide +kernel) rfl dX5_shorten_87 ?_
      refine lv_iload hx hb dX5_shorten_90 (lv_at hl 3 rfl) ?_
      refine lv_iload hx hb dX5_shorten_92 (lv_at hl 0 rfl) ?_
      refine kcN_c hx hb hml hown hts hX hP hD hS (c_X6_put l G (a 1) 6 (((itN (s_short w) (v, false) k).1).1 0) (rAt (w.1 0) 8 (nI k)) ((rAt (((itN (s_short w) (v, false) k).1).1 0) 6 (rAt (w.1 1) 8 (nI k))) + (rAt (((itN (s_short w) (v, false) k).1).1 1) 8 (nI k))) (by decide)) gX5_shorten_X6_put_n34 (by decide +kernel) (by decide +kernel) (by decide +kernel) 3 rfl rfl rfl hdS_X6_put ⟨Nat.le_of_ble_eq_true rfl, Nat.le_of_ble_eq_true rfl⟩ 0 1 rfl rfl (bX5_A0 a G ((itN (s_short w) (v, false) k).1) (rPut (((itN (s_short w) (v, false) k).1).1 0) 6 (rAt (w.1 0) 8 (nI k)) ((rAt (((itN (s_short w) (v, false) k).1).1 0) 6 (rAt (w.1 1) 8 (nI k))) + (rAt (((itN (s_short w) (v, false) k).1).1 1) 8 (nI k))))) hl.1 rfl rfl (Nat.le_of_ble_eq_true rfl) dX5_shorten_94 ⟨Nat.zero_le _, Nat.zero_le _⟩ (fun H locs hP hD hS => ?_)
      have hP : PP G [bX5 a G (setA ((itN (s_short w) (v, false) k).1) 0 (rPut (((itN (s_short w) (v, false) k).1).1 0) 6 (rAt (w.1 0) 8 (nI k)) ((rAt (((itN (s_short w) (v, false) k).1).1 0) 6 (rAt (w.1 1) 8 (nI k))) + (rAt (((itN (s_short w) (v, false) k).1).1 1) 8 (nI k))))), bX2 b G w] H := hP
      have hD : DD (AA (List.flatten [bX5 a G v, bX2 b G w])) [bX5 a G (setA ((itN (s_short w) (v, false) k).1) 0 (rPut (((itN (s_short w) (v, false) k).1).1 0) 6 (rAt (w.1 0) 8 (nI k)) ((rAt (((itN (s_short w) (v, false) k).1).1 0) 6 (rAt (w.1 1) 8 (nI k))) + (rAt (((itN (s_short w) (v, false) k).1).1 1) 8 (nI k))))), bX2 b G w] := D_re hD (adc (bX5_ad _ _ _ _) (adc (bX2_ad _ _ _ _) adn))
      refine lv_iconst (v := 1) hx hb dX5_shorten_97 (by decide) ?_
      refine lv_istore_n (lv' := [(2, .int 1), (7, .int ((rAt (((itN (s_short w) (v, false) k).1).1 0) 6 (rAt (w.1 1) 8 (nI k))) + (rAt (((itN (s_short w) (v, false) k).1).1 1) 8 (nI k)))), (6, .int ((rAt (((itN (s_short w) (v, false) k).1).1 0) 6 (rAt (w.1 0) 8 (nI k))) + (rAt (((itN (s_short w) (v, false) k).1).1 1) 8 (nI k)))), (5, .int (rAt (w.1 1) 8 (nI k))), (4, .int (rAt (w.1 0) 8 (nI k))), (3, .int (nI k)), (0, .ref (a 0)), (1, .ref (b 0))]) hx hb dX5_shorten_98 rfl hl (by decide) rfl (fun ls hl => ?_)
      refine lv_goto (tgt := 129) hx hb dX5_shorten_99 (by decide) ?_
      refine lv_iinc (v := nI (k + 1)) (lv' := [(3, .int (nI (k + 1))), (2, .int 1), (7, .int ((rAt (((itN (s_short w) (v, false) k).1).1 0) 6 (rAt (w.1 1) 8 (nI k))) + (rAt (((itN (s_short w) (v, false) k).1).1 1) 8 (nI k)))), (6, .int ((rAt (((itN (s_short w) (v, false) k).1).1 0) 6 (rAt (w.1 0) 8 (nI k))) + (rAt (((itN (s_short w) (v, false) k).1).1 1) 8 (nI k)))), (5, .int (rAt (w.1 1) 8 (nI k))), (4, .int (rAt (w.1 0) 8 (nI k))), (0, .ref (a 0)), (1, .ref (b 0))]) hx hb dX5_shorten_129 hl (k := 5) rfl (nI_1 _) (by decide) rfl (fun ls hl => ?_)
      refine lv_goto (tgt := 4) hx hb dX5_shorten_132 (by decide) ?_
      have hP : PP G [bX5 a G ((itN (s_short w) (v, false) (k + 1)).1), bX2 b G w] H := by
        rw [itN_s]
        simp only [s_short, if_neg c_9, if_neg c_83]
        exact hP
      have hD : DD (AA (List.flatten [bX5 a G v, bX2 b G w])) [bX5 a G ((itN (s_short w) (v, false) (k + 1)).1), bX2 b G w] := D_re hD (adc (bX5_ad _ _ _ _) (adc (bX2_ad _ _ _ _) adn))
      exact ih_4  _ _ _ hP hD hS (by rw [itN_s]; simp only [s_short, if_neg c_9, if_neg c_83]; exact lv_sub hl [0, 1, 6, 7] rfl) 

def rm_X5_measure : Room := { frames := 3, cells := 0, slots := 0, locals := 65 }
theorem hd_X5_measure : yX5_measure.cls = RX5 ∧ yX5_measure.cls ≠ "java/lang/invoke/MethodHandle" ∧ yX5_measure.cls ≠ "java/lang/invoke/VarHandle" ∧ (parseMethodDescriptor yX5_measure.desc).map (fun d => d.parameters.length) = some 5 := by decide +kernel
set_option maxRecDepth 100000 in
set_option maxHeartbeats 4000000 in
theorem c_X5_measure (l : Launch) (G : GD) (a : Nat → Nat) (v : OV) (b : Nat → Nat) (w : OV) (c0 : Nat → Nat) (h : OV) (x1 : Int32) (x2 : Int32) (x3 : Int32)  : MetS l yX5_measure wsX5_measure rm_X5_measure G [bX5 a G v, bX2 b G w, bX0 c0 G h] [.ref (a 0), .ref (b 0), .ref (c0 0), .int x1, .int x2, .int x3] (fun r bc => r = none ∧ bc = [bX5 a G (f_X5_measure v w h x1 x2 x3), bX2 b G w, bX0 c0 G h]) := by
  refine kb_beginS (cc := cX5_measure) (maxL := 8) (ret := none) (by decide) rfl (Nat.le_of_ble_eq_true rfl) ?_
  intro p e s m below meth c hx hb hr hml hown hts hlocks hX H locs hP hD hS ls hl
  have hown : s.vm.findClass RX5 = some m.cls := hown
  have hl : lv_has ls 8 [(0, .ref (a 0)), (1, .ref (b 0)), (2, .ref (c0 0)), (3, .int x1), (4, .int x2), (5, .int x3)] := hl
  have hin2 : ∀ w ∈ u_ws RX2 TX2 15, w ∈ wsX5_measure := (fun _ h => List.mem_cons_of_mem _ (List.mem_append_left _ (List.mem_append_left _ (List.mem_append_right _ (h)))))
  have hin5 : ∀ w ∈ u_ws RX5 TX5 2, w ∈ wsX5_measure := (fun _ h => List.mem_cons_of_mem _ (List.mem_append_left _ (List.mem_append_right _ (h))))
  refine lv_iconst (v := 0) hx hb dX5_measure_0 (by decide) ?_
  refine lv_istore (lv' := [(6, .int 0), (0, .ref (a 0)), (1, .ref (b 0)), (2, .ref (c0 0)), (3, .int x1), (4, .int x2), (5, .int x3)]) hx hb dX5_measure_1 hl (by decide) rfl (fun ls hl => ?_)
  refine lp_up (N := (w.2 9).toNatClampNeg) (P := fun k => ∀ (H : Heap) (locs : List Loc) (ls : Array Slot), PP G [bX5 a G (itN (s_price h x1 x3) v k), bX2 b G w, bX0 c0 G h] H → DD (AA (List.flatten [bX5 a G v, bX2 b G w, bX0 c0 G h])) [bX5 a G (itN (s_price h x1 x3) v k), bX2 b G w, bX0 c0 G h] → va_S (AA (List.flatten [bX5 a G v, bX2 b G w, bX0 c0 G h])) s.heap H locs → lv_has ls 8 [(6, .int (nI k)), (0, .ref (a 0)), (1, .ref (b 0)), (2, .ref (c0 0)), (3, .int x1), (4, .int x2), (5, .int x3)] →  W p l e (headSpec wsX5_measure rm_X5_measure).room s m ([.ref (a 0), .ref (b 0), .ref (c0 0), .int x1, .int x2, .int x3] : List Value).toArray below meth c H locs 0 0 (MQ below (kQs G [bX5 a G v, bX2 b G w, bX0 c0 G h] (fun r bc => r = none ∧ bc = [bX5 a G (f_X5_measure v w h x1 x2 x3), bX2 b G w, bX0 c0 G h])) ([.ref (a 0), .ref (b 0), .ref (c0 0), .int x1, .int x2, .int x3] : List Value).toArray s 0 0 (AA (List.flatten [bX5 a G v, bX2 b G w, bX0 c0 G h]))) (F0 m 3 ls [])) ?_ ?_ 0 (Nat.zero_le _)  _ _ _ hP hD hS (lv_sub hl [0, 1, 2, 3, 4, 5, 6] rfl) 
  · skip
    intro H locs ls hP hD hS hl 
    refine lv_iload hx hb dX5_measure_3 (lv_at hl 0 rfl) ?_
    refine lv_aload_n hx hb dX5_measure_5 rfl (lv_at hl 2 rfl) ?_
    refine kb_getN (own := RX5) (C := RX2) (T := TX2) (N := 15) (v := .int (w.2 9)) hx hb hts hin2 hown hX hP 1 rfl rfl rfl 9 (by decide) rfl (by decide +kernel) rfl dX5_measure_6 ?_
    refine lv_icmp_ge (tgt := 48) hx hb dX5_measure_9 (by decide) (fun c_9 => ?_) (fun c_9 => absurd (lpx_c _) c_9)
    refine lv_aload_n hx hb dX5_measure_48 rfl (lv_at hl 1 rfl) ?_
    refine kb_get (own := RX5) (C := RX5) (T := TX5) (N := 2) (v := .ref (a 1)) hx hb hts hin5 hown hX hP 0 rfl rfl rfl 0 (by decide) rfl (by decide +kernel) rfl dX5_measure_49 ?_
    refine lv_ldc (v := 1000000) hx hb hown (hts _ (by decide +kernel)) dX5_measure_52 ?_
    refine kcN_c hx hb hml hown hts hX hP hD hS (c_X6_fill l G (a 1) 6 ((itN (s_price h x1 x3) v ((w.2 9).toNatClampNeg)).1 0) 1000000 (by decide)) gX5_measure_X6_fill_n39 (by decide +kernel) (by decide +kernel) (by decide +kernel) 2 rfl rfl rfl hdS_X6_fill ⟨Nat.le_of_ble_eq_true rfl, Nat.le_of_ble_eq_true rfl⟩ 0 1 rfl rfl (bX5_A0 a G (itN (s_price h x1 x3) v ((w.2 9).toNatClampNeg)) (rFill ((itN (s_price h x1 x3) v ((w.2 9).toNatClampNeg)).1 0) 1000000 6)) hl.1 rfl rfl (Nat.le_of_ble_eq_true rfl) dX5_measure_54 ⟨Nat.zero_le _, Nat.zero_le _⟩ (fun H locs hP hD hS => ?_)
    have hP : PP G [bX5 a G (setA (itN (s_price h x1 x3) v ((w.2 9).toNatClampNeg)) 0 (rFill ((itN (s_price h x1 x3) v ((w.2 9).toNatClampNeg)).1 0) 1000000 6)), bX2 b G w, bX0 c0 G h] H := hP
    have hD : DD (AA (List.flatten [bX5 a G v, bX2 b G w, bX0 c0 G h])) [bX5 a G (setA (itN (s_price h x1 x3) v ((w.2 9).toNatClampNeg)) 0 (rFill ((itN (s_price h x1 x3) v ((w.2 9).toNatClampNeg)).1 0) 1000000 6)), bX2 b G w, bX0 c0 G h] := D_re hD (adc (bX5_ad _ _ _ _) (adc (bX2_ad _ _ _ _) (adc (bX0_ad _ _ _ _) adn)))
    refine lv_aload_n hx hb dX5_measure_57 rfl (lv_at hl 1 rfl) ?_
    refine kb_get (own := RX5) (C := RX5) (T := TX5) (N := 2) (v := .ref (a 1)) hx hb hts hin5 hown hX hP 0 rfl rfl rfl 0 (by decide) rfl (by decide +kernel) rfl dX5_measure_58 ?_
    refine lv_iload hx hb dX5_measure_61 (lv_at hl 5 rfl) ?_
    refine lv_iconst (v := 0) hx hb dX5_measure_63 (by decide) ?_
    refine kcN_c hx hb hml hown hts hX hP hD hS (c_X6_put l G (a 1) 6 (rFill ((itN (s_price h x1 x3) v ((w.2 9).toNatClampNeg)).1 0) 1000000 6) x2 0 (by decide)) gX5_measure_X6_put_n34 (by decide +kernel) (by decide +kernel) (by decide +kernel) 3 rfl rfl rfl hdS_X6_put ⟨Nat.le_of_ble_eq_true rfl, Nat.le_of_ble_eq_true rfl⟩ 0 1 rfl rfl (bX5_A0 a G (setA (itN (s_price h x1 x3) v ((w.2 9).toNatClampNeg)) 0 (rFill ((itN (s_price h x1 x3) v ((w.2 9).toNatClampNeg)).1 0) 1000000 6)) (rPut (rFill ((itN (s_price h x1 x3) v ((w.2 9).toNatClampNeg)).1 0) 1000000 6) 6 x2 0)) hl.1 rfl rfl (Nat.le_of_ble_eq_true rfl) dX5_measure_64 ⟨Nat.zero_le _, Nat.zero_le _⟩ (fun H locs hP hD hS => ?_)
    have hP : PP G [bX5 a G (setA (setA (itN (s_price h x1 x3) v ((w.2 9).toNatClampNeg)) 0 (rFill ((itN (s_price h x1 x3) v ((w.2 9).toNatClampNeg)).1 0) 1000000 6)) 0 (rPut (rFill ((itN (s_price h x1 x3) v ((w.2 9).toNatClampNeg)).1 0) 1000000 6) 6 x2 0)), bX2 b G w, bX0 c0 G h] H := hP
    have hD : DD (AA (List.flatten [bX5 a G v, bX2 b G w, bX0 c0 G h])) [bX5 a G (setA (setA (itN (s_price h x1 x3) v ((w.2 9).toNatClampNeg)) 0 (rFill ((itN (s_price h x1 x3) v ((w.2 9).toNatClampNeg)).1 0) 1000000 6)) 0 (rPut (rFill ((itN (s_price h x1 x3) v ((w.2 9).toNatClampNeg)).1 0) 1000000 6) 6 x2 0)), bX2 b G w, bX0 c0 G h] := D_re hD (adc (bX5_ad _ _ _ _) (adc (bX2_ad _ _ _ _) (adc (bX0_ad _ _ _ _) adn)))
    refine lv_iconst (v := 1) hx hb dX5_measure_67 (by decide) ?_
    refine lv_istore (lv' := [(6, .int 1), (0, .ref (a 0)), (1, .ref (b 0)), (2, .ref (c0 0)), (3, .int x1), (4, .int x2), (5, .int x3)]) hx hb dX5_measure_68 hl (by decide) rfl (fun ls hl => ?_)
    refine lv_iconst (v := 1) hx hb dX5_measure_70 (by decide) ?_
    refine lv_istore (lv' := [(7, .int 1), (6, .int 1), (0, .ref (a 0)), (1, .ref (b 0)), (2, .ref (c0 0)), (3, .int x1), (4, .int x2), (5, .int x3)]) hx hb dX5_measure_71 hl (by decide) rfl (fun ls hl => ?_)
    refine lp_up (N := (w.2 8).toNatClampNeg - 1) (P := fun k => ∀ (H : Heap) (locs : List Loc) (ls : Array Slot), PP G [bX5 a G ((itN (s_round w) (m_init v w h x1 x2 x3, true) k).1), bX2 b G w, bX0 c0 G h] H → DD (AA (List.flatten [bX5 a G v, bX2 b G w, bX0 c0 G h])) [bX5 a G ((itN (s_round w) (m_init v w h x1 x2 x3, true) k).1), bX2 b G w, bX0 c0 G h] → va_S (AA (List.flatten [bX5 a G v, bX2 b G w, bX0 c0 G h])) s.heap H locs → lv_has ls 8 [(7, .int (nI (k + 1))), (6, .int (b2i (itN (s_round w) (m_init v w h x1 x2 x3, true) k).2)), (0, .ref (a 0)), (1, .ref (b 0)), (2, .ref (c0 0)), (3, .int x1), (4, .int x2), (5, .int x3)] →  W p l e (headSpec wsX5_measure rm_X5_measure).room s m ([.ref (a 0), .ref (b 0), .ref (c0 0), .int x1, .int x2, .int x3] : List Value).toArray below meth c H locs 0 0 (MQ below (kQs G [bX5 a G v, bX2 b G w, bX0 c0 G h] (fun r bc => r = none ∧ bc = [bX5 a G (f_X5_measure v w h x1 x2 x3), bX2 b G w, bX0 c0 G h])) ([.ref (a 0), .ref (b 0), .ref (c0 0), .int x1, .int x2, .int x3] : List Value).toArray s 0 0 (AA (List.flatten [bX5 a G v, bX2 b G w, bX0 c0 G h]))) (F0 m 73 ls [])) ?_ ?_ 0 (Nat.zero_le _)  _ _ _ hP hD hS (lv_sub hl [0, 1, 2, 3, 4, 5, 6, 7] rfl) 
    · skip
      intro H locs ls hP hD hS hl 
      refine lv_iload hx hb dX5_measure_73 (lv_at hl 0 rfl) ?_
      refine lv_aload_n hx hb dX5_measure_75 rfl (lv_at hl 3 rfl) ?_
      refine kb_getN (own := RX5) (C := RX2) (T := TX2) (N := 15) (v := .int (w.2 8)) hx hb hts hin2 hown hX hP 1 rfl rfl rfl 8 (by decide) rfl (by decide +kernel) rfl dX5_measure_76 ?_
      refine lv_icmp_ge (tgt := 100) hx hb dX5_measure_79 (by decide) (fun c_79 => ?_) (fun c_79 => absurd (lpx_c1 _) c_79)
      have hP : PP G [bX5 a G (f_X5_measure v w h x1 x2 x3), bX2 b G w, bX0 c0 G h] H := by
        exact hP
      exact kr_sv hx hb hr hlocks dX5_measure_100 hP hS (sameAd_cons (bX5_ad _ _ _ _) (sameAd_cons (bX2_ad _ _ _ _) (sameAd_cons (bX0_ad _ _ _ _) sameAd_nil))) ⟨rfl, rfl⟩
    · skip
      intro k hk_k ih_73 H locs ls hP hD hS hl 
      refine lv_iload hx hb dX5_measure_73 (lv_at hl 0 rfl) ?_
      refine lv_aload_n hx hb dX5_measure_75 rfl (lv_at hl 3 rfl) ?_
      refine kb_getN (own := RX5) (C := RX2) (T := TX2) (N := 15) (v := .int (w.2 8)) hx hb hts hin2 hown hX hP 1 rfl rfl rfl 8 (by decide) rfl (by decide +kernel) rfl dX5_measure_76 ?_
      refine lv_icmp_ge (tgt := 100) hx hb dX5_measure_79 (by decide) (fun c_79 => absurd c_79 (lps_c (show k + 1 < _ by omega))) (fun c_79 => ?_)
      refine lv_iload hx hb dX5_measure_82 (lv_at hl 1 rfl) ?_
      refine lv_if_eq (tgt := 100) hx hb dX5_measure_84 (by decide) (fun c_84r => ?_) (fun c_84r => ?_)
      · have c_84 := b2i_fN c_84r
        have hP : PP G [bX5 a G (f_X5_measure v w h x1 x2 x3), bX2 b G w, bX0 c0 G h] H := by
          unfold f_X5_measure
          rw [round_stop c_84 (Nat.le_of_lt hk_k)]
          exact hP
        exact kr_sv hx hb hr hlocks dX5_measure_100 hP hS (sameAd_cons (bX5_ad _ _ _ _) (sameAd_cons (bX2_ad _ _ _ _) (sameAd_cons (bX0_ad _ _ _ _) sameAd_nil))) ⟨rfl, rfl⟩
      · have c_84 := b2i_tP c_84r
        refine lv_aload_n hx hb dX5_measure_87 rfl (lv_at hl 2 rfl) ?_
        refine lv_aload_n hx hb dX5_measure_88 rfl (lv_at hl 3 rfl) ?_
        refine kcV_s hx hb hml hown hts hX hP hD hS (c_X5_shorten l G a ((itN (s_round w) (m_init v w h x1 x2 x3, true) k).1) b w) gX5_measure_X5_shorten 1 rfl rfl rfl hd_X5_shorten ⟨Nat.le_of_ble_eq_true rfl, Nat.le_of_ble_eq_true rfl⟩ [0, 1] (by decide) rfl 0 rfl rfl rfl hl.1 rfl rfl (Nat.le_of_ble_eq_true rfl) dX5_measure_89 ⟨Nat.zero_le _, Nat.zero_le _⟩ (fun r_ bc_ hq_1 H locs hP hD hS => ?_)
        obtain ⟨rfl, rfl⟩ := hq_1
        have hP : PP G [bX5 a G ((f_X5_short ((itN (s_round w) (m_init v w h x1 x2 x3, true) k).1) w).1), bX2 b G w, bX0 c0 G h] H := hP
        have hD : DD (AA (List.flatten [bX5 a G v, bX2 b G w, bX0 c0 G h])) [bX5 a G ((f_X5_short ((itN (s_round w) (m_init v w h x1 x2 x3, true) k).1) w).1), bX2 b G w, bX0 c0 G h] := D_re hD (adc (bX5_ad _ _ _ _) (adc (bX2_ad _ _ _ _) (adc (bX0_ad _ _ _ _) adn)))
        refine lv_istore (lv' := [(6, .int (b2i (f_X5_short ((itN (s_round w) (m_init v w h x1 x2 x3, true) k).1) w).2)), (7, .int (nI (k + 1))), (0, .ref (a 0)), (1, .ref (b 0)), (2, .ref (c0 0)), (3, .int x1), (4, .int x2), (5, .int x3)]) hx hb dX5_measure_92 hl (by decide) rfl (fun ls hl => ?_)
        refine lv_iinc (v := nI ((k + 1) + 1)) (lv' := [(7, .int (nI ((k + 1) + 1))), (6, .int (b2i (f_X5_short ((itN (s_round w) (m_init v w h x1 x2 x3, true) k).1) w).2)), (0, .ref (a 0)), (1, .ref (b 0)), (2, .ref (c0 0)), (3, .int x1), (4, .int x2), (5, .int x3)]) hx hb dX5_measure_94 hl (k := 1) rfl (nI_1 _) (by decide) rfl (fun ls hl => ?_)
        refine lv_goto (tgt := 73) hx hb dX5_measure_97 (by decide) ?_
        have hP : PP G [bX5 a G ((itN (s_round w) (m_init v w h x1 x2 x3, true) (k + 1)).1), bX2 b G w, bX0 c0 G h] H := by
          rw [itN_s]
          simp only [s_round, if_pos c_9, if_neg c_79, if_pos c_84]
          exact hP
        have hD : DD (AA (List.flatten [bX5 a G v, bX2 b G w, bX0 c0 G h])) [bX5 a G ((itN (s_round w) (m_init v w h x1 x2 x3, true) (k + 1)).1), bX2 b G w, bX0 c0 G h] := D_re hD (adc (bX5_ad _ _ _ _) (adc (bX2_ad _ _ _ _) (adc (bX0_ad _ _ _ _) adn)))
        exact ih_73  _ _ _ hP hD hS (by rw [itN_s]; simp only [s_round, if_pos c_9, if_neg c_79, if_pos c_84]; exact lv_sub hl [0, 1, 2, 3, 4, 5, 6, 7] rfl) 
  · skip
    intro k hk_k ih_3 H locs ls hP hD hS hl 
    refine lv_iload hx hb dX5_measure_3 (lv_at hl 0 rfl) ?_
    refine lv_aload_n hx hb dX5_measure_5 rfl (lv_at hl 2 rfl) ?_
    refine kb_getN (own := RX5) (C := RX2) (T := TX2) (N := 15) (v := .int (w.2 9)) hx hb hts hin2 hown hX hP 1 rfl rfl rfl 9 (by decide) rfl (by decide +kernel) rfl dX5_measure_6 ?_
    refine lv_icmp_ge (tgt := 48) hx hb dX5_measure_9 (by decide) (fun c_9 => absurd c_9 (lps_c hk_k)) (fun c_9 => ?_)
    refine lv_aload_n hx hb dX5_measure_12 rfl (lv_at hl 1 rfl) ?_
    refine kb_get (own := RX5) (C := RX5) (T := TX5) (N := 2) (v := .ref (a 2)) hx hb hts hin5 hown hX hP 0 rfl rfl rfl 1 (by decide) rfl (by decide +kernel) rfl dX5_measure_13 ?_
    refine lv_iload hx hb dX5_measure_16 (lv_at hl 0 rfl) ?_
    refine lv_iload hx hb dX5_measure_18 (lv_at hl 6 rfl) ?_
    refine lv_iload hx hb dX5_measure_20 (lv_at hl 0 rfl) ?_
    refine kcN_p hx hb hml hown hts hX hP (c_X6_holds l G x3 (nI k)) gX5_measure_X6_holds_n24 (by decide +kernel) (by decide +kernel) (by decide +kernel) 2 rfl rfl rfl hdS_X6_holds ⟨Nat.le_of_ble_eq_true rfl, Nat.le_of_ble_eq_true rfl⟩ (fun q hq => absurd hq List.not_mem_nil) hl.1 rfl rfl (Nat.le_of_ble_eq_true rfl) dX5_measure_22 ⟨Nat.zero_le _, Nat.zero_le _⟩ ?_
    refine lv_if_eq (tgt := 32) hx hb dX5_measure_25 (by decide) (fun c_25r => ?_) (fun c_25r => ?_)
    · have c_25 := b2i_fN c_25r
      refine lv_aload_n hx hb dX5_measure_32 rfl (lv_at hl 3 rfl) ?_
      refine lv_iload hx hb dX5_measure_33 (lv_at hl 0 rfl) ?_
      refine lv_iload_n hx hb dX5_measure_35 rfl (lv_at hl 4 rfl) ?_
      refine kcV_p hx hb hml hown hts hX hP (c_X0_minutesThrough l G c0 h (nI k) x1) gX5_measure_X0_minutesThrough 2 rfl rfl rfl hd_X0_minutesThrough ⟨Nat.le_of_ble_eq_true rfl, Nat.le_of_ble_eq_true rfl⟩ [2] rfl 2 rfl rfl rfl hl.1 rfl rfl (Nat.le_of_ble_eq_true rfl) dX5_measure_36 ⟨Nat.zero_le _, Nat.zero_le _⟩ ?_
      refine kcN_c hx hb hml hown hts hX hP hD hS (c_X6_put l G (a 2) 8 ((itN (s_price h x1 x3) v k).1 1) (nI k) (f_X0_minutesThrough h (nI k) x1) (by decide)) gX5_measure_X6_put_n34 (by decide +kernel) (by decide +kernel) (by decide +kernel) 3 rfl rfl rfl hdS_X6_put ⟨Nat.le_of_ble_eq_true rfl, Nat.le_of_ble_eq_true rfl⟩ 0 2 rfl rfl (bX5_A1 a G (itN (s_price h x1 x3) v k) (rPut ((itN (s_price h x1 x3) v k).1 1) 8 (nI k) (f_X0_minutesThrough h (nI k) x1))) hl.1 rfl rfl (Nat.le_of_ble_eq_true rfl) dX5_measure_39 ⟨Nat.zero_le _, Nat.zero_le _⟩ (fun H locs hP hD hS => ?_)
      have hP : PP G [bX5 a G (setA (itN (s_price h x1 x3) v k) 1 (rPut ((itN (s_price h x1 x3) v k).1 1) 8 (nI k) (f_X0_minutesThrough h (nI k) x1))), bX2 b G w, bX0 c0 G h] H := hP
      have hD : DD (AA (List.flatten [bX5 a G v, bX2 b G w, bX0 c0 G h])) [bX5 a G (setA (itN (s_price h x1 x3) v k) 1 (rPut ((itN (s_price h x1 x3) v k).1 1) 8 (nI k) (f_X0_minutesThrough h (nI k) x1))), bX2 b G w, bX0 c0 G h] := D_re hD (adc (bX5_ad _ _ _ _) (adc (bX2_ad _ _ _ _) (adc (bX0_ad _ _ _ _) adn)))
      refine lv_iinc (v := nI (k + 1)) (lv' := [(6, .int (nI (k + 1))), (0, .ref (a 0)), (1, .ref (b 0)), (2, .ref (c0 0)), (3, .int x1), (4, .int x2), (5, .int x3)]) hx hb dX5_measure_42 hl (k := 0) rfl (nI_1 _) (by decide) rfl (fun ls hl => ?_)
      refine lv_goto (tgt := 3) hx hb dX5_measure_45 (by decide) ?_
      have hP : PP G [bX5 a G (itN (s_price h x1 x3) v (k + 1)), bX2 b G w, bX0 c0 G h] H := by
        rw [itN_s]
        simp only [s_price, if_neg c_9, if_neg c_25]
        exact hP
      have hD : DD (AA (List.flatten [bX5 a G v, bX2 b G w, bX0 c0 G h])) [bX5 a G (itN (s_price h x1 x3) v (k + 1)), bX2 b G w, bX0 c0 G h] := D_re hD (adc (bX5_ad _ _ _ _) (adc (bX2_ad _ _ _ _) (adc (bX0_ad _ _ _ _) adn)))
      exact ih_3  _ _ _ hP hD hS (show lv_has ls 8 [(6, .int (nI (k + 1))), (0, .ref (a 0)), (1, .ref (b 0)), (2, .ref (c0 0)), (3, .int x1), (4, .int x2), (5, .int x3)] from lv_sub hl [0, 1, 2, 3, 4, 5, 6] rfl) 
    · have c_25 := b2i_tP c_25r
      refine lv_iconst (v := 1) hx hb dX5_measure_28 (by decide) ?_
      refine lv_goto (tgt := 39) hx hb dX5_measure_29 (by decide) ?_
      refine kcN_c hx hb hml hown hts hX hP hD hS (c_X6_put l G (a 2) 8 ((itN (s_price h x1 x3) v k).1 1) (nI k) 1 (by decide)) gX5_measure_X6_put_n34 (by decide +kernel) (by decide +kernel) (by decide +kernel) 3 rfl rfl rfl hdS_X6_put ⟨Nat.le_of_ble_eq_true rfl, Nat.le_of_ble_eq_true rfl⟩ 0 2 rfl rfl (bX5_A1 a G (itN (s_price h x1 x3) v k) (rPut ((itN (s_price h x1 x3) v k).1 1) 8 (nI k) 1)) hl.1 rfl rfl (Nat.le_of_ble_eq_true rfl) dX5_measure_39 ⟨Nat.zero_le _, Nat.zero_le _⟩ (fun H locs hP hD hS => ?_)
      have hP : PP G [bX5 a G (setA (itN (s_price h x1 x3) v k) 1 (rPut ((itN (s_price h x1 x3) v k).1 1) 8 (nI k) 1)), bX2 b G w, bX0 c0 G h] H := hP
      have hD : DD (AA (List.flatten [bX5 a G v, bX2 b G w, bX0 c0 G h])) [bX5 a G (setA (itN (s_price h x1 x3) v k) 1 (rPut ((itN (s_price h x1 x3) v k).1 1) 8 (nI k) 1)), bX2 b G w, bX0 c0 G h] := D_re hD (adc (bX5_ad _ _ _ _) (adc (bX2_ad _ _ _ _) (adc (bX0_ad _ _ _ _) adn)))
      refine lv_iinc (v := nI (k + 1)) (lv' := [(6, .int (nI (k + 1))), (0, .ref (a 0)), (1, .ref (b 0)), (2, .ref (c0 0)), (3, .int x1), (4, .int x2), (5, .int x3)]) hx hb dX5_measure_42 hl (k := 0) rfl (nI_1 _) (by decide) rfl (fun ls hl => ?_)
      refine lv_goto (tgt := 3) hx hb dX5_measure_45 (by decide) ?_
      have hP : PP G [bX5 a G (itN (s_price h x1 x3) v (k + 1)), bX2 b G w, bX0 c0 G h] H := by
        rw [itN_s]
        simp only [s_price, if_neg c_9, if_pos c_25]
        exact hP
      have hD : DD (AA (List.flatten [bX5 a G v, bX2 b G w, bX0 c0 G h])) [bX5 a G (itN (s_price h x1 x3) v (k + 1)), bX2 b G w, bX0 c0 G h] := D_re hD (adc (bX5_ad _ _ _ _) (adc (bX2_ad _ _ _ _) (adc (bX0_ad _ _ _ _) adn)))
      exact ih_3  _ _ _ hP hD hS (show lv_has ls 8 [(6, .int (nI (k + 1))), (0, .ref (a 0)), (1, .ref (b 0)), (2, .ref (c0 0)), (3, .int x1), (4, .int x2), (5, .int x3)] from lv_sub hl [0, 1, 2, 3, 4, 5, 6] rfl) 

def rm_X5_minutesFrom : Room := { frames := 1, cells := 0, slots := 0, locals := 21 }
theorem hd_X5_minutesFrom : yX5_minutesFrom.cls = RX5 ∧ yX5_minutesFrom.cls ≠ "java/lang/invoke/MethodHandle" ∧ yX5_minutesFrom.cls ≠ "java/lang/invoke/VarHandle" ∧ (parseMethodDescriptor yX5_minutesFrom.desc).map (fun d => d.parameters.length) = some 1 := by decide +kernel
set_option maxRecDepth 100000 in
set_option maxHeartbeats 4000000 in
theorem c_X5_minutesFrom (l : Launch) (G : GD) (a : Nat → Nat) (v : OV) (x1 : Int32)  : MetP l yX5_minutesFrom wsX5_minutesFrom rm_X5_minutesFrom G [bX5 a G v] [.ref (a 0), .int x1] (some (.int (f_X5_minutesFrom v x1))) := by
  refine kb_beginP (cc := cX5_minutesFrom) (maxL := 2) (ret := (some .int)) (by decide) rfl (Nat.le_of_ble_eq_true rfl) ?_
  intro p e s m below meth c hx hb hr hml hown hts hlocks hX hP ls hl
  have hown : s.vm.findClass RX5 = some m.cls := hown
  have hl : lv_has ls 2 [(0, .ref (a 0)), (1, .int x1)] := hl
  have hin5 : ∀ w ∈ u_ws RX5 TX5 2, w ∈ wsX5_minutesFrom := (fun _ h => List.mem_cons_of_mem _ (List.mem_append_right _ (h)))
  refine lv_aload_n hx hb dX5_minutesFrom_0 rfl (lv_at hl 0 rfl) ?_
  refine kb_get (own := RX5) (C := RX5) (T := TX5) (N := 2) (v := .ref (a 1)) hx hb hts hin5 hown hX hP 0 rfl rfl rfl 0 (by decide) rfl (by decide +kernel) rfl dX5_minutesFrom_1 ?_
  refine lv_iload_n hx hb dX5_minutesFrom_4 rfl (lv_at hl 1 rfl) ?_
  refine kcN_p hx hb hml hown hts hX hP (c_X6_at l G (a 1) 6 (v.1 0) x1 (by decide)) gX5_minutesFrom_X6_at_n53 (by decide +kernel) (by decide +kernel) (by decide +kernel) 2 rfl rfl rfl hdS_X6_at ⟨Nat.le_of_ble_eq_true rfl, Nat.le_of_ble_eq_true rfl⟩ (cell_in (i := 0) (j := 1) rfl rfl) hl.1 rfl rfl (Nat.le_of_ble_eq_true rfl) dX5_minutesFrom_5 ⟨Nat.zero_le _, Nat.zero_le _⟩ ?_
  refine lv_ldc (v := 1000000) hx hb hown (hts _ (by decide +kernel)) dX5_minutesFrom_8 ?_
  refine lv_icmp_ge (tgt := 24) hx hb dX5_minutesFrom_10 (by decide) (fun c_10 => ?_) (fun c_10 => ?_)
  · refine lv_bipush (v := (-4)) hx hb dX5_minutesFrom_24 (by decide) ?_
    exact kr_pi hx hb hr hlocks dX5_minutesFrom_26 (by simp only [f_X5_minutesFrom, if_pos c_10] <;> rfl)
  · refine lv_aload_n hx hb dX5_minutesFrom_13 rfl (lv_at hl 0 rfl) ?_
    refine kb_get (own := RX5) (C := RX5) (T := TX5) (N := 2) (v := .ref (a 1)) hx hb hts hin5 hown hX hP 0 rfl rfl rfl 0 (by decide) rfl (by decide +kernel) rfl dX5_minutesFrom_14 ?_
    refine lv_iload_n hx hb dX5_minutesFrom_17 rfl (lv_at hl 1 rfl) ?_
    refine kcN_p hx hb hml hown hts hX hP (c_X6_at l G (a 1) 6 (v.1 0) x1 (by decide)) gX5_minutesFrom_X6_at_n53 (by decide +kernel) (by decide +kernel) (by decide +kernel) 2 rfl rfl rfl hdS_X6_at ⟨Nat.le_of_ble_eq_true rfl, Nat.le_of_ble_eq_true rfl⟩ (cell_in (i := 0) (j := 1) rfl rfl) hl.1 rfl rfl (Nat.le_of_ble_eq_true rfl) dX5_minutesFrom_18 ⟨Nat.zero_le _, Nat.zero_le _⟩ ?_
    refine lv_goto (tgt := 26) hx hb dX5_minutesFrom_21 (by decide) ?_
    exact kr_pi hx hb hr hlocks dX5_minutesFrom_26 (by simp only [f_X5_minutesFrom, if_neg c_10] <;> rfl)

def rm_X5_lowestDoorFrom : Room := { frames := 2, cells := 0, slots := 0, locals := 43 }
theorem hd_X5_lowestDoorFrom : yX5_lowestDoorFrom.cls = RX5 ∧ yX5_lowestDoorFrom.cls ≠ "java/lang/invoke/MethodHandle" ∧ yX5_lowestDoorFrom.cls ≠ "java/lang/invoke/VarHandle" ∧ (parseMethodDescriptor yX5_lowestDoorFrom.desc).map (fun d => d.parameters.length) = some 2 := by decide +kernel
set_option maxRecDepth 100000 in
set_option maxHeartbeats 4000000 in
theorem c_X5_lowestDoorFrom (l : Launch) (G : GD) (a : Nat → Nat) (v : OV) (b : Nat → Nat) (w : OV) (x1 : Int32)  : MetP l yX5_lowestDoorFrom wsX5_lowestDoorFrom rm_X5_lowestDoorFrom G [bX5 a G v, bX2 b G w] [.ref (a 0), .ref (b 0), .int x1] (some (.int (f_X5_lowest v w x1))) := by
  refine kb_beginP (cc := cX5_lowestDoorFrom) (maxL := 5) (ret := (some .int)) (by decide) rfl (Nat.le_of_ble_eq_true rfl) ?_
  intro p e s m below meth c hx hb hr hml hown hts hlocks hX hP ls hl
  have hown : s.vm.findClass RX5 = some m.cls := hown
  have hl : lv_has ls 5 [(0, .ref (a 0)), (1, .ref (b 0)), (2, .int x1)] := hl
  have hin2 : ∀ w ∈ u_ws RX2 TX2 15, w ∈ wsX5_lowestDoorFrom := (fun _ h => List.mem_cons_of_mem _ (List.mem_append_left _ (List.mem_append_right _ (h))))
  have hin5 : ∀ w ∈ u_ws RX5 TX5 2, w ∈ wsX5_lowestDoorFrom := (fun _ h => List.mem_cons_of_mem _ (List.mem_append_right _ (h)))
  refine lv_aload_n hx hb dX5_lowestDoorFrom_0 rfl (lv_at hl 0 rfl) ?_
  refine lv_iload_n hx hb dX5_lowestDoorFrom_1 rfl (lv_at hl 2 rfl) ?_
  refine kcV_p hx hb hml hown hts hX hP (c_X5_minutesFrom l G a v x1) gX5_lowestDoorFrom_X5_minutesFrom 1 rfl rfl rfl hd_X5_minutesFrom ⟨Nat.le_of_ble_eq_true rfl, Nat.le_of_ble_eq_true rfl⟩ [0] rfl 0 rfl rfl rfl hl.1 rfl rfl (Nat.le_of_ble_eq_true rfl) dX5_lowestDoorFrom_2 ⟨Nat.zero_le _, Nat.zero_le _⟩ ?_
  refine lv_if_gt (tgt := 11) hx hb dX5_lowestDoorFrom_5 (by decide) (fun c_5 => ?_) (fun c_5 => ?_)
  · refine lv_iconst (v := 0) hx hb dX5_lowestDoorFrom_11 (by decide) ?_
    refine lv_istore_n (lv' := [(3, .int 0), (0, .ref (a 0)), (1, .ref (b 0)), (2, .int x1)]) hx hb dX5_lowestDoorFrom_12 rfl hl (by decide) rfl (fun ls hl => ?_)
    refine lp_up (N := (w.2 9).toNatClampNeg) (P := fun k => ∀ (ls : Array Slot), lv_has ls 5 [(3, .int (nI k)), (0, .ref (a 0)), (1, .ref (b 0)), (2, .int x1)] → (∀ j, j < k → p_low v w x1 j = false) → W p l e (headSpec wsX5_lowestDoorFrom rm_X5_lowestDoorFrom).room s m ([.ref (a 0), .ref (b 0), .int x1] : List Value).toArray below meth c s.heap [] 0 0 (MQ below (kQp (some (.int (f_X5_lowest v w x1)))) ([.ref (a 0), .ref (b 0), .int x1] : List Value).toArray s 0 0 (fun _ => False)) (F0 m 13 ls [])) ?_ ?_ 0 (Nat.zero_le _)  _ (lv_sub hl [0, 1, 2, 3] rfl) (fun j hj => absurd hj (Nat.not_lt_zero _))
    · skip
      intro ls hl hf
      refine lv_iload_n hx hb dX5_lowestDoorFrom_13 rfl (lv_at hl 0 rfl) ?_
      refine lv_aload_n hx hb dX5_lowestDoorFrom_14 rfl (lv_at hl 2 rfl) ?_
      refine kb_getN (own := RX5) (C := RX2) (T := TX2) (N := 15) (v := .int (w.2 9)) hx hb hts hin2 hown hX hP 1 rfl rfl rfl 9 (by decide) rfl (by decide +kernel) rfl dX5_lowestDoorFrom_15 ?_
      refine lv_icmp_ge (tgt := 71) hx hb dX5_lowestDoorFrom_18 (by decide) (fun c_18 => ?_) (fun c_18 => absurd (lpx_c _) c_18)
      refine lv_bipush (v := (-4)) hx hb dX5_lowestDoorFrom_71 (by decide) ?_
      exact kr_pi hx hb hr hlocks dX5_lowestDoorFrom_73 (by rw [f_X5_lowest, fnd_none hf, if_pos c_5]; rfl)
    · skip
      intro k hk_k ih_13 ls hl hf
      refine lv_iload_n hx hb dX5_lowestDoorFrom_13 rfl (lv_at hl 0 rfl) ?_
      refine lv_aload_n hx hb dX5_lowestDoorFrom_14 rfl (lv_at hl 2 rfl) ?_
      refine kb_getN (own := RX5) (C := RX2) (T := TX2) (N := 15) (v := .int (w.2 9)) hx hb hts hin2 hown hX hP 1 rfl rfl rfl 9 (by decide) rfl (by decide +kernel) rfl dX5_lowestDoorFrom_15 ?_
      refine lv_icmp_ge (tgt := 71) hx hb dX5_lowestDoorFrom_18 (by decide) (fun c_18 => absurd c_18 (lps_c hk_k)) (fun c_18 => ?_)
      refine lv_aload_n hx hb dX5_lowestDoorFrom_21 rfl (lv_at hl 2 rfl) ?_
      refine lv_iload_n hx hb dX5_lowestDoorFrom_22 rfl (lv_at hl 0 rfl) ?_
      refine lv_iload_n hx hb dX5_lowestDoorFrom_23 rfl (lv_at hl 3 rfl) ?_
      refine kcV_p hx hb hml hown hts hX hP (c_X2_otherSide l G b w (nI k) x1) gX5_lowestDoorFrom_X2_otherSide 2 rfl rfl rfl hd_X2_otherSide ⟨Nat.le_of_ble_eq_true rfl, Nat.le_of_ble_eq_true rfl⟩ [1] rfl 1 rfl rfl rfl hl.1 rfl rfl (Nat.le_of_ble_eq_true rfl) dX5_lowestDoorFrom_24 ⟨Nat.zero_le _, Nat.zero_le _⟩ ?_
      refine lv_istore (lv' := [(4, .int (f_X2_otherSide w (nI k) x1)), (3, .int (nI k)), (0, .ref (a 0)), (1, .ref (b 0)), (2, .int x1)]) hx hb dX5_lowestDoorFrom_27 hl (by decide) rfl (fun ls hl => ?_)
      refine lv_iload hx hb dX5_lowestDoorFrom_29 (lv_at hl 0 rfl) ?_
      refine lv_if_lt (tgt := 65) hx hb dX5_lowestDoorFrom_31 (by decide) (fun c_31 => ?_) (fun c_31 => ?_)
      · refine lv_iinc (v := nI (k + 1)) (lv' := [(3, .int (nI (k + 1))), (4, .int (f_X2_otherSide w (nI k) x1)), (0, .ref (a 0)), (1, .ref (b 0)), (2, .int x1)]) hx hb dX5_lowestDoorFrom_65 hl (k := 1) rfl (nI_1 _) (by decide) rfl (fun ls hl => ?_)
        refine lv_goto (tgt := 13) hx hb dX5_lowestDoorFrom_68 (by decide) ?_
        exact ih_13  _ (show lv_has ls 5 [(3, .int (nI (k + 1))), (0, .ref (a 0)), (1, .ref (b 0)), (2, .int x1)] from lv_sub hl [0, 2, 3, 4] rfl) (lt_s hf (by simp only [p_low, if_pos c_5, if_neg c_18, if_pos c_31]))
      · refine lv_aload_n hx hb dX5_lowestDoorFrom_34 rfl (lv_at hl 2 rfl) ?_
        refine kb_get (own := RX5) (C := RX5) (T := TX5) (N := 2) (v := .ref (a 2)) hx hb hts hin5 hown hX hP 0 rfl rfl rfl 1 (by decide) rfl (by decide +kernel) rfl dX5_lowestDoorFrom_35 ?_
        refine lv_iload_n hx hb dX5_lowestDoorFrom_38 rfl (lv_at hl 1 rfl) ?_
        refine kcN_p hx hb hml hown hts hX hP (c_X6_at l G (a 2) 8 (v.1 1) (nI k) (by decide)) gX5_lowestDoorFrom_X6_at_n53 (by decide +kernel) (by decide +kernel) (by decide +kernel) 2 rfl rfl rfl hdS_X6_at ⟨Nat.le_of_ble_eq_true rfl, Nat.le_of_ble_eq_true rfl⟩ (cell_in (i := 0) (j := 2) rfl rfl) hl.1 rfl rfl (Nat.le_of_ble_eq_true rfl) dX5_lowestDoorFrom_39 ⟨Nat.zero_le _, Nat.zero_le _⟩ ?_
        refine lv_aload_n hx hb dX5_lowestDoorFrom_42 rfl (lv_at hl 2 rfl) ?_
        refine kb_get (own := RX5) (C := RX5) (T := TX5) (N := 2) (v := .ref (a 1)) hx hb hts hin5 hown hX hP 0 rfl rfl rfl 0 (by decide) rfl (by decide +kernel) rfl dX5_lowestDoorFrom_43 ?_
        refine lv_iload hx hb dX5_lowestDoorFrom_46 (lv_at hl 0 rfl) ?_
        refine kcN_p hx hb hml hown hts hX hP (c_X6_at l G (a 1) 6 (v.1 0) (f_X2_otherSide w (nI k) x1) (by decide)) gX5_lowestDoorFrom_X6_at_n53 (by decide +kernel) (by decide +kernel) (by decide +kernel) 2 rfl rfl rfl hdS_X6_at ⟨Nat.le_of_ble_eq_true rfl, Nat.le_of_ble_eq_true rfl⟩ (cell_in (i := 0) (j := 1) rfl rfl) hl.1 rfl rfl (Nat.le_of_ble_eq_true rfl) dX5_lowestDoorFrom_48 ⟨Nat.zero_le _, Nat.zero_le _⟩ ?_
        refine lv_iadd hx hb dX5_lowestDoorFrom_51 ?_
        refine lv_aload_n hx hb dX5_lowestDoorFrom_52 rfl (lv_at hl 2 rfl) ?_
        refine kb_get (own := RX5) (C := RX5) (T := TX5) (N := 2) (v := .ref (a 1)) hx hb hts hin5 hown hX hP 0 rfl rfl rfl 0 (by decide) rfl (by decide +kernel) rfl dX5_lowestDoorFrom_53 ?_
        refine lv_iload_n hx hb dX5_lowestDoorFrom_56 rfl (lv_at hl 4 rfl) ?_
        refine kcN_p hx hb hml hown hts hX hP (c_X6_at l G (a 1) 6 (v.1 0) x1 (by decide)) gX5_lowestDoorFrom_X6_at_n53 (by decide +kernel) (by decide +kernel) (by decide +kernel) 2 rfl rfl rfl hdS_X6_at ⟨Nat.le_of_ble_eq_true rfl, Nat.le_of_ble_eq_true rfl⟩ (cell_in (i := 0) (j := 1) rfl rfl) hl.1 rfl rfl (Nat.le_of_ble_eq_true rfl) dX5_lowestDoorFrom_57 ⟨Nat.zero_le _, Nat.zero_le _⟩ ?_
        refine lv_icmp_ne (tgt := 65) hx hb dX5_lowestDoorFrom_60 (by decide) (fun c_60 => ?_) (fun c_60 => ?_)
        · refine lv_iinc (v := nI (k + 1)) (lv' := [(3, .int (nI (k + 1))), (4, .int (f_X2_otherSide w (nI k) x1)), (0, .ref (a 0)), (1, .ref (b 0)), (2, .int x1)]) hx hb dX5_lowestDoorFrom_65 hl (k := 1) rfl (nI_1 _) (by decide) rfl (fun ls hl => ?_)
          refine lv_goto (tgt := 13) hx hb dX5_lowestDoorFrom_68 (by decide) ?_
          exact ih_13  _ (show lv_has ls 5 [(3, .int (nI (k + 1))), (0, .ref (a 0)), (1, .ref (b 0)), (2, .int x1)] from lv_sub hl [0, 2, 3, 4] rfl) (lt_s hf (by simp only [p_low, if_pos c_5, if_neg c_18, if_neg c_31, if_neg c_60]))
        · refine lv_iload_n hx hb dX5_lowestDoorFrom_63 rfl (lv_at hl 1 rfl) ?_
          exact kr_pi hx hb hr hlocks dX5_lowestDoorFrom_64 (by rw [f_X5_lowest, fnd_some hk_k hf (by simp only [p_low, if_pos c_5, if_neg c_18, if_neg c_31, if_pos c_60]), if_pos c_5]; rfl)
  · refine lv_bipush (v := (-4)) hx hb dX5_lowestDoorFrom_8 (by decide) ?_
    exact kr_pi hx hb hr hlocks dX5_lowestDoorFrom_10 (by simp only [f_X5_lowest, if_neg c_5])

def rm_X3_measure : Room := { frames := 4, cells := 0, slots := 0, locals := 92 }
theorem hd_X3_measure : yX3_measure.cls = RX3 ∧ yX3_measure.cls ≠ "java/lang/invoke/MethodHandle" ∧ yX3_measure.cls ≠ "java/lang/invoke/VarHandle" ∧ (parseMethodDescriptor yX3_measure.desc).map (fun d => d.parameters.length) = some 3 := by decide +kernel
set_option maxRecDepth 100000 in
set_option maxHeartbeats 4000000 in
theorem c_X3_measure (l : Launch) (G : GD) (a : Nat → Nat) (v : OV) (b : Nat → Nat) (w : OV) (c0 : Nat → Nat) (h : OV) (d : Nat → Nat) (y : OV)  : MetS l yX3_measure wsX3_measure rm_X3_measure G [bX3 a G v, bX2 b G w, bX0 c0 G h, bX5 d G y] [.ref (a 0), .ref (b 0), .ref (c0 0), .ref (d 0)] (fun r bc => r = none ∧ bc = [bX3 a G (f_X3_measure v w h y), bX2 b G w, bX0 c0 G h, bX5 d G ((f_rm v w h y).2)]) := by
  refine kb_beginS (cc := cX3_measure) (maxL := 6) (ret := none) (by decide) rfl (Nat.le_of_ble_eq_true rfl) ?_
  intro p e s m below meth c hx hb hr hml hown hts hlocks hX H locs hP hD hS ls hl
  have hown : s.vm.findClass RX3 = some m.cls := hown
  have hl : lv_has ls 6 [(0, .ref (a 0)), (1, .ref (b 0)), (2, .ref (c0 0)), (3, .ref (d 0))] := hl
  have hin2 : ∀ w ∈ u_ws RX2 TX2 15, w ∈ wsX3_measure := (fun _ h => List.mem_cons_of_mem _ (List.mem_append_left _ (List.mem_append_left _ (List.mem_append_left _ (List.mem_append_right _ (h))))))
  have hin3 : ∀ w ∈ u_ws RX3 TX3 3, w ∈ wsX3_measure := (fun _ h => List.mem_cons_of_mem _ (List.mem_append_left _ (List.mem_append_left _ (List.mem_append_right _ (h)))))
  refine lv_aload_n hx hb dX3_measure_0 rfl (lv_at hl 0 rfl) ?_
  refine lv_aload_n hx hb dX3_measure_1 rfl (lv_at hl 1 rfl) ?_
  refine kb_getN (own := RX3) (C := RX2) (T := TX2) (N := 15) (v := .int (w.2 10)) hx hb hts hin2 hown hX hP 1 rfl rfl rfl 10 (by decide) rfl (by decide +kernel) rfl dX3_measure_2 ?_
  refine kb_put (own := RX3) (C := RX3) (T := TX3) (N := 3) hx hb hts hin3 tyX3 tyX3_ok nmX3 (ty := .int) hown hX hP hD hS 0 rfl rfl rfl 1 (by decide) rfl (by decide +kernel) (by decide +kernel) rfl rfl (Nat.le_of_ble_eq_true rfl) dX3_measure_5 (bX3_I1 a G v (w.2 10)) (fun H locs hP hD hS => ?_)
  have hP : PP G [bX3 a G (setI v 1 (w.2 10)), bX2 b G w, bX0 c0 G h, bX5 d G y] H := hP
  have hD : DD (AA (List.flatten [bX3 a G v, bX2 b G w, bX0 c0 G h, bX5 d G y])) [bX3 a G (setI v 1 (w.2 10)), bX2 b G w, bX0 c0 G h, bX5 d G y] := D_re hD (adc (bX3_ad _ _ _ _) (adc (bX2_ad _ _ _ _) (adc (bX0_ad _ _ _ _) (adc (bX5_ad _ _ _ _) adn))))
  refine lv_aload_n hx hb dX3_measure_8 rfl (lv_at hl 0 rfl) ?_
  refine lv_aload_n hx hb dX3_measure_9 rfl (lv_at hl 1 rfl) ?_
  refine kb_getN (own := RX3) (C := RX2) (T := TX2) (N := 15) (v := .int (w.2 8)) hx hb hts hin2 hown hX hP 1 rfl rfl rfl 8 (by decide) rfl (by decide +kernel) rfl dX3_measure_10 ?_
  refine kb_put (own := RX3) (C := RX3) (T := TX3) (N := 3) hx hb hts hin3 tyX3 tyX3_ok nmX3 (ty := .int) hown hX hP hD hS 0 rfl rfl rfl 2 (by decide) rfl (by decide +kernel) (by decide +kernel) rfl rfl (Nat.le_of_ble_eq_true rfl) dX3_measure_13 (bX3_I2 a G (setI v 1 (w.2 10)) (w.2 8)) (fun H locs hP hD hS => ?_)
  have hP : PP G [bX3 a G (setI (setI v 1 (w.2 10)) 2 (w.2 8)), bX2 b G w, bX0 c0 G h, bX5 d G y] H := hP
  have hD : DD (AA (List.flatten [bX3 a G v, bX2 b G w, bX0 c0 G h, bX5 d G y])) [bX3 a G (setI (setI v 1 (w.2 10)) 2 (w.2 8)), bX2 b G w, bX0 c0 G h, bX5 d G y] := D_re hD (adc (bX3_ad _ _ _ _) (adc (bX2_ad _ _ _ _) (adc (bX0_ad _ _ _ _) (adc (bX5_ad _ _ _ _) adn))))
  refine lv_iconst (v := 0) hx hb dX3_measure_16 (by decide) ?_
  refine lv_istore (lv' := [(4, .int 0), (0, .ref (a 0)), (1, .ref (b 0)), (2, .ref (c0 0)), (3, .ref (d 0))]) hx hb dX3_measure_17 hl (by decide) rfl (fun ls hl => ?_)
  refine lp_up (N := (w.2 10).toNatClampNeg) (P := fun k => ∀ (H : Heap) (locs : List Loc) (ls : Array Slot), PP G [bX3 a G (setA (setI (setI v 1 (w.2 10)) 2 (w.2 8)) 0 ((itN (s_rm w h) (v.1 0, y) k).1)), bX2 b G w, bX0 c0 G h, bX5 d G ((itN (s_rm w h) (v.1 0, y) k).2)] H → DD (AA (List.flatten [bX3 a G v, bX2 b G w, bX0 c0 G h, bX5 d G y])) [bX3 a G (setA (setI (setI v 1 (w.2 10)) 2 (w.2 8)) 0 ((itN (s_rm w h) (v.1 0, y) k).1)), bX2 b G w, bX0 c0 G h, bX5 d G ((itN (s_rm w h) (v.1 0, y) k).2)] → va_S (AA (List.flatten [bX3 a G v, bX2 b G w, bX0 c0 G h, bX5 d G y])) s.heap H locs → lv_has ls 6 [(4, .int (nI k)), (0, .ref (a 0)), (1, .ref (b 0)), (2, .ref (c0 0)), (3, .ref (d 0))] →  W p l e (headSpec wsX3_measure rm_X3_measure).room s m ([.ref (a 0), .ref (b 0), .ref (c0 0), .ref (d 0)] : List Value).toArray below meth c H locs 0 0 (MQ below (kQs G [bX3 a G v, bX2 b G w, bX0 c0 G h, bX5 d G y] (fun r bc => r = none ∧ bc = [bX3 a G (f_X3_measure v w h y), bX2 b G w, bX0 c0 G h, bX5 d G ((f_rm v w h y).2)])) ([.ref (a 0), .ref (b 0), .ref (c0 0), .ref (d 0)] : List Value).toArray s 0 0 (AA (List.flatten [bX3 a G v, bX2 b G w, bX0 c0 G h, bX5 d G y]))) (F0 m 19 ls [])) ?_ ?_ 0 (Nat.zero_le _)  _ _ _ hP hD hS (lv_sub hl [0, 1, 2, 3, 4] rfl) 
  · skip
    intro H locs ls hP hD hS hl 
    refine lv_iload hx hb dX3_measure_19 (lv_at hl 0 rfl) ?_
    refine lv_aload_n hx hb dX3_measure_21 rfl (lv_at hl 1 rfl) ?_
    refine kb_get (own := RX3) (C := RX3) (T := TX3) (N := 3) (v := .int (w.2 10)) hx hb hts hin3 hown hX hP 0 rfl rfl rfl 1 (by decide) rfl (by decide +kernel) rfl dX3_measure_22 ?_
    refine lv_icmp_ge (tgt := 91) hx hb dX3_measure_25 (by decide) (fun c_25 => ?_) (fun c_25 => absurd (lpx_c _) c_25)
    have hP : PP G [bX3 a G (f_X3_measure v w h y), bX2 b G w, bX0 c0 G h, bX5 d G ((f_rm v w h y).2)] H := by
      exact hP
    exact kr_sv hx hb hr hlocks dX3_measure_91 hP hS (sameAd_cons (bX3_ad _ _ _ _) (sameAd_cons (bX2_ad _ _ _ _) (sameAd_cons (bX0_ad _ _ _ _) (sameAd_cons (bX5_ad _ _ _ _) sameAd_nil)))) ⟨rfl, rfl⟩
  · skip
    intro k hk_k ih_19 H locs ls hP hD hS hl 
    refine lv_iload hx hb dX3_measure_19 (lv_at hl 0 rfl) ?_
    refine lv_aload_n hx hb dX3_measure_21 rfl (lv_at hl 1 rfl) ?_
    refine kb_get (own := RX3) (C := RX3) (T := TX3) (N := 3) (v := .int (w.2 10)) hx hb hts hin3 hown hX hP 0 rfl rfl rfl 1 (by decide) rfl (by decide +kernel) rfl dX3_measure_22 ?_
    refine lv_icmp_ge (tgt := 91) hx hb dX3_measure_25 (by decide) (fun c_25 => absurd c_25 (lps_c hk_k)) (fun c_25 => ?_)
    refine lv_aload_n hx hb dX3_measure_28 rfl (lv_at hl 4 rfl) ?_
    refine lv_aload_n hx hb dX3_measure_29 rfl (lv_at hl 2 rfl) ?_
    refine lv_aload_n hx hb dX3_measure_30 rfl (lv_at hl 3 rfl) ?_
    refine lv_iload hx hb dX3_measure_31 (lv_at hl 0 rfl) ?_
    refine lv_aload_n hx hb dX3_measure_33 rfl (lv_at hl 2 rfl) ?_
    refine kb_getN (own := RX3) (C := RX2) (T := TX2) (N := 15) (v := .ref (b 7)) hx hb hts hin2 hown hX hP 1 rfl rfl rfl 6 (by decide) rfl (by decide +kernel) rfl dX3_measure_34 ?_
    refine lv_iload hx hb dX3_measure_37 (lv_at hl 0 rfl) ?_
    refine kcN_p hx hb hml hown hts hX hP (c_X6_at l G (b 7) 4 (w.1 6) (nI k) (by decide)) gX3_measure_X6_at_n29 (by decide +kernel) (by decide +kernel) (by decide +kernel) 2 rfl rfl rfl hdS_X6_at ⟨Nat.le_of_ble_eq_true rfl, Nat.le_of_ble_eq_true rfl⟩ (cell_in (i := 1) (j := 7) rfl rfl) hl.1 rfl rfl (Nat.le_of_ble_eq_true rfl) dX3_measure_39 ⟨Nat.zero_le _, Nat.zero_le _⟩ ?_
    refine lv_iconst (v := 0) hx hb dX3_measure_42 (by decide) ?_
    refine kcV_s hx hb hml hown hts hX hP hD hS (c_X5_measure l G d ((itN (s_rm w h) (v.1 0, y) k).2) b w c0 h (nI k) (rAt (w.1 6) 4 (nI k)) 0) gX3_measure_X5_measure 5 rfl rfl rfl hd_X5_measure ⟨Nat.le_of_ble_eq_true rfl, Nat.le_of_ble_eq_true rfl⟩ [3, 1, 2] (by decide) rfl 3 rfl rfl rfl hl.1 rfl rfl (Nat.le_of_ble_eq_true rfl) dX3_measure_43 ⟨Nat.zero_le _, Nat.zero_le _⟩ (fun r_ bc_ hq_1 H locs hP hD hS => ?_)
    obtain ⟨rfl, rfl⟩ := hq_1
    have hP : PP G [bX3 a G (setA (setI (setI v 1 (w.2 10)) 2 (w.2 8)) 0 ((itN (s_rm w h) (v.1 0, y) k).1)), bX2 b G w, bX0 c0 G h, bX5 d G (f_X5_measure ((itN (s_rm w h) (v.1 0, y) k).2) w h (nI k) (rAt (w.1 6) 4 (nI k)) 0)] H := hP
    have hD : DD (AA (List.flatten [bX3 a G v, bX2 b G w, bX0 c0 G h, bX5 d G y])) [bX3 a G (setA (setI (setI v 1 (w.2 10)) 2 (w.2 8)) 0 ((itN (s_rm w h) (v.1 0, y) k).1)), bX2 b G w, bX0 c0 G h, bX5 d G (f_X5_measure ((itN (s_rm w h) (v.1 0, y) k).2) w h (nI k) (rAt (w.1 6) 4 (nI k)) 0)] := D_re hD (adc (bX3_ad _ _ _ _) (adc (bX2_ad _ _ _ _) (adc (bX0_ad _ _ _ _) (adc (bX5_ad _ _ _ _) adn))))
    refine lv_iconst (v := 0) hx hb dX3_measure_46 (by decide) ?_
    refine lv_istore (lv' := [(5, .int 0), (4, .int (nI k)), (0, .ref (a 0)), (1, .ref (b 0)), (2, .ref (c0 0)), (3, .ref (d 0))]) hx hb dX3_measure_47 hl (by decide) rfl (fun ls hl => ?_)
    refine lp_up (N := (w.2 8).toNatClampNeg) (P := fun r => ∀ (H : Heap) (locs : List Loc) (ls : Array Slot), PP G [bX3 a G (setA (setI (setI v 1 (w.2 10)) 2 (w.2 8)) 0 (itN (s_lossf (m_rm (itN (s_rm w h) (v.1 0, y) k).2 w h k) k) (itN (s_rm w h) (v.1 0, y) k).1 r)), bX2 b G w, bX0 c0 G h, bX5 d G (m_rm (itN (s_rm w h) (v.1 0, y) k).2 w h k)] H → DD (AA (List.flatten [bX3 a G v, bX2 b G w, bX0 c0 G h, bX5 d G y])) [bX3 a G (setA (setI (setI v 1 (w.2 10)) 2 (w.2 8)) 0 (itN (s_lossf (m_rm (itN (s_rm w h) (v.1 0, y) k).2 w h k) k) (itN (s_rm w h) (v.1 0, y) k).1 r)), bX2 b G w, bX0 c0 G h, bX5 d G (m_rm (itN (s_rm w h) (v.1 0, y) k).2 w h k)] → va_S (AA (List.flatten [bX3 a G v, bX2 b G w, bX0 c0 G h, bX5 d G y])) s.heap H locs → lv_has ls 6 [(5, .int (nI r)), (4, .int (nI k)), (0, .ref (a 0)), (1, .ref (b 0)), (2, .ref (c0 0)), (3, .ref (d 0))] →  W p l e (headSpec wsX3_measure rm_X3_measure).room s m ([.ref (a 0), .ref (b 0), .ref (c0 0), .ref (d 0)] : List Value).toArray below meth c H locs 0 0 (MQ below (kQs G [bX3 a G v, bX2 b G w, bX0 c0 G h, bX5 d G y] (fun r bc => r = none ∧ bc = [bX3 a G (f_X3_measure v w h y), bX2 b G w, bX0 c0 G h, bX5 d G ((f_rm v w h y).2)])) ([.ref (a 0), .ref (b 0), .ref (c0 0), .ref (d 0)] : List Value).toArray s 0 0 (AA (List.flatten [bX3 a G v, bX2 b G w, bX0 c0 G h, bX5 d G y]))) (F0 m 49 ls [])) ?_ ?_ 0 (Nat.zero_le _)  _ _ _ hP hD hS (lv_sub hl [0, 1, 2, 3, 4, 5] rfl) 
    · skip
      intro H locs ls hP hD hS hl 
      refine lv_iload hx hb dX3_measure_49 (lv_at hl 0 rfl) ?_
      refine lv_aload_n hx hb dX3_measure_51 rfl (lv_at hl 2 rfl) ?_
      refine kb_get (own := RX3) (C := RX3) (T := TX3) (N := 3) (v := .int (w.2 8)) hx hb hts hin3 hown hX hP 0 rfl rfl rfl 2 (by decide) rfl (by decide +kernel) rfl dX3_measure_52 ?_
      refine lv_icmp_ge (tgt := 85) hx hb dX3_measure_55 (by decide) (fun c_55 => ?_) (fun c_55 => absurd (lpx_c _) c_55)
      refine lv_iinc (v := nI (k + 1)) (lv' := [(4, .int (nI (k + 1))), (5, .int (nI ((w.2 8).toNatClampNeg))), (0, .ref (a 0)), (1, .ref (b 0)), (2, .ref (c0 0)), (3, .ref (d 0))]) hx hb dX3_measure_85 hl (k := 1) rfl (nI_1 _) (by decide) rfl (fun ls hl => ?_)
      refine lv_goto (tgt := 19) hx hb dX3_measure_88 (by decide) ?_
      have hP : PP G [bX3 a G (setA (setI (setI v 1 (w.2 10)) 2 (w.2 8)) 0 ((itN (s_rm w h) (v.1 0, y) (k + 1)).1)), bX2 b G w, bX0 c0 G h, bX5 d G ((itN (s_rm w h) (v.1 0, y) (k + 1)).2)] H := hP
      have hD : DD (AA (List.flatten [bX3 a G v, bX2 b G w, bX0 c0 G h, bX5 d G y])) [bX3 a G (setA (setI (setI v 1 (w.2 10)) 2 (w.2 8)) 0 ((itN (s_rm w h) (v.1 0, y) (k + 1)).1)), bX2 b G w, bX0 c0 G h, bX5 d G ((itN (s_rm w h) (v.1 0, y) (k + 1)).2)] := D_re hD (adc (bX3_ad _ _ _ _) (adc (bX2_ad _ _ _ _) (adc (bX0_ad _ _ _ _) (adc (bX5_ad _ _ _ _) adn))))
      exact ih_19  _ _ _ hP hD hS (show lv_has ls 6 [(4, .int (nI (k + 1))), (0, .ref (a 0)), (1, .ref (b 0)), (2, .ref (c0 0)), (3, .ref (d 0))] from lv_sub hl [0, 2, 3, 4, 5] rfl) 
    · skip
      intro r hk_r ih_49 H locs ls hP hD hS hl 
      refine lv_iload hx hb dX3_measure_49 (lv_at hl 0 rfl) ?_
      refine lv_aload_n hx hb dX3_measure_51 rfl (lv_at hl 2 rfl) ?_
      refine kb_get (own := RX3) (C := RX3) (T := TX3) (N := 3) (v := .int (w.2 8)) hx hb hts hin3 hown hX hP 0 rfl rfl rfl 2 (by decide) rfl (by decide +kernel) rfl dX3_measure_52 ?_
      refine lv_icmp_ge (tgt := 85) hx hb dX3_measure_55 (by decide) (fun c_55 => absurd c_55 (lps_c hk_r)) (fun c_55 => ?_)
      refine lv_aload_n hx hb dX3_measure_58 rfl (lv_at hl 2 rfl) ?_
      refine kb_get (own := RX3) (C := RX3) (T := TX3) (N := 3) (v := .ref (a 1)) hx hb hts hin3 hown hX hP 0 rfl rfl rfl 0 (by decide) rfl (by decide +kernel) rfl dX3_measure_59 ?_
      refine lv_iload hx hb dX3_measure_62 (lv_at hl 1 rfl) ?_
      refine lv_bipush (v := 6) hx hb dX3_measure_64 (by decide) ?_
      refine lv_imul hx hb dX3_measure_66 ?_
      refine lv_iload hx hb dX3_measure_67 (lv_at hl 0 rfl) ?_
      refine lv_iadd hx hb dX3_measure_69 ?_
      refine lv_aload_n hx hb dX3_measure_70 rfl (lv_at hl 5 rfl) ?_
      refine lv_iload hx hb dX3_measure_71 (lv_at hl 0 rfl) ?_
      refine kcV_p hx hb hml hown hts hX hP (c_X5_minutesFrom l G d (m_rm (itN (s_rm w h) (v.1 0, y) k).2 w h k) (nI r)) gX3_measure_X5_minutesFrom 1 rfl rfl rfl hd_X5_minutesFrom ⟨Nat.le_of_ble_eq_true rfl, Nat.le_of_ble_eq_true rfl⟩ [3] rfl 3 rfl rfl rfl hl.1 rfl rfl (Nat.le_of_ble_eq_true rfl) dX3_measure_73 ⟨Nat.zero_le _, Nat.zero_le _⟩ ?_
      refine kcN_c hx hb hml hown hts hX hP hD hS (c_X6_put l G (a 1) 24 (itN (s_lossf (m_rm (itN (s_rm w h) (v.1 0, y) k).2 w h k) k) (itN (s_rm w h) (v.1 0, y) k).1 r) (((nI k) * 6) + (nI r)) (f_X5_minutesFrom (m_rm (itN (s_rm w h) (v.1 0, y) k).2 w h k) (nI r)) (by decide)) gX3_measure_X6_put_n43 (by decide +kernel) (by decide +kernel) (by decide +kernel) 3 rfl rfl rfl hdS_X6_put ⟨Nat.le_of_ble_eq_true rfl, Nat.le_of_ble_eq_true rfl⟩ 0 1 rfl rfl (bX3_A0 a G (setA (setI (setI v 1 (w.2 10)) 2 (w.2 8)) 0 (itN (s_lossf (m_rm (itN (s_rm w h) (v.1 0, y) k).2 w h k) k) (itN (s_rm w h) (v.1 0, y) k).1 r)) (rPut (itN (s_lossf (m_rm (itN (s_rm w h) (v.1 0, y) k).2 w h k) k) (itN (s_rm w h) (v.1 0, y) k).1 r) 24 (((nI k) * 6) + (nI r)) (f_X5_minutesFrom (m_rm (itN (s_rm w h) (v.1 0, y) k).2 w h k) (nI r)))) hl.1 rfl rfl (Nat.le_of_ble_eq_true rfl) dX3_measure_76 ⟨Nat.zero_le _, Nat.zero_le _⟩ (fun H locs hP hD hS => ?_)
      have hP : PP G [bX3 a G (setA (setA (setI (setI v 1 (w.2 10)) 2 (w.2 8)) 0 (itN (s_lossf (m_rm (itN (s_rm w h) (v.1 0, y) k).2 w h k) k) (itN (s_rm w h) (v.1 0, y) k).1 r)) 0 (rPut (itN (s_lossf (m_rm (itN (s_rm w h) (v.1 0, y) k).2 w h k) k) (itN (s_rm w h) (v.1 0, y) k).1 r) 24 (((nI k) * 6) + (nI r)) (f_X5_minutesFrom (m_rm (itN (s_rm w h) (v.1 0, y) k).2 w h k) (nI r)))), bX2 b G w, bX0 c0 G h, bX5 d G (m_rm (itN (s_rm w h) (v.1 0, y) k).2 w h k)] H := hP
      have hD : DD (AA (List.flatten [bX3 a G v, bX2 b G w, bX0 c0 G h, bX5 d G y])) [bX3 a G (setA (setA (setI (setI v 1 (w.2 10)) 2 (w.2 8)) 0 (itN (s_lossf (m_rm (itN (s_rm w h) (v.1 0, y) k).2 w h k) k) (itN (s_rm w h) (v.1 0, y) k).1 r)) 0 (rPut (itN (s_lossf (m_rm (itN (s_rm w h) (v.1 0, y) k).2 w h k) k) (itN (s_rm w h) (v.1 0, y) k).1 r) 24 (((nI k) * 6) + (nI r)) (f_X5_minutesFrom (m_rm (itN (s_rm w h) (v.1 0, y) k).2 w h k) (nI r)))), bX2 b G w, bX0 c0 G h, bX5 d G (m_rm (itN (s_rm w h) (v.1 0, y) k).2 w h k)] := D_re hD (adc (bX3_ad _ _ _ _) (adc (bX2_ad _ _ _ _) (adc (bX0_ad _ _ _ _) (adc (bX5_ad _ _ _ _) adn))))
      refine lv_iinc (v := nI (r + 1)) (lv' := [(5, .int (nI (r + 1))), (4, .int (nI k)), (0, .ref (a 0)), (1, .ref (b 0)), (2, .ref (c0 0)), (3, .ref (d 0))]) hx hb dX3_measure_79 hl (k := 0) rfl (nI_1 _) (by decide) rfl (fun ls hl => ?_)
      refine lv_goto (tgt := 49) hx hb dX3_measure_82 (by decide) ?_
      have hP : PP G [bX3 a G (setA (setI (setI v 1 (w.2 10)) 2 (w.2 8)) 0 (itN (s_lossf (m_rm (itN (s_rm w h) (v.1 0, y) k).2 w h k) k) (itN (s_rm w h) (v.1 0, y) k).1 (r + 1))), bX2 b G w, bX0 c0 G h, bX5 d G (m_rm (itN (s_rm w h) (v.1 0, y) k).2 w h k)] H := hP
      have hD : DD (AA (List.flatten [bX3 a G v, bX2 b G w, bX0 c0 G h, bX5 d G y])) [bX3 a G (setA (setI (setI v 1 (w.2 10)) 2 (w.2 8)) 0 (itN (s_lossf (m_rm (itN (s_rm w h) (v.1 0, y) k).2 w h k) k) (itN (s_rm w h) (v.1 0, y) k).1 (r + 1))), bX2 b G w, bX0 c0 G h, bX5 d G (m_rm (itN (s_rm w h) (v.1 0, y) k).2 w h k)] := D_re hD (adc (bX3_ad _ _ _ _) (adc (bX2_ad _ _ _ _) (adc (bX0_ad _ _ _ _) (adc (bX5_ad _ _ _ _) adn))))
      exact ih_49  _ _ _ hP hD hS (show lv_has ls 6 [(5, .int (nI (r + 1))), (4, .int (nI k)), (0, .ref (a 0)), (1, .ref (b 0)), (2, .ref (c0 0)), (3, .ref (d 0))] from lv_sub hl [0, 1, 2, 3, 4, 5] rfl) 

def rm_X3_sumOf : Room := { frames := 1, cells := 0, slots := 0, locals := 21 }
theorem hd_X3_sumOf : yX3_sumOf.cls = RX3 ∧ yX3_sumOf.cls ≠ "java/lang/invoke/MethodHandle" ∧ yX3_sumOf.cls ≠ "java/lang/invoke/VarHandle" ∧ (parseMethodDescriptor yX3_sumOf.desc).map (fun d => d.parameters.length) = some 1 := by decide +kernel
set_option maxRecDepth 100000 in
set_option maxHeartbeats 4000000 in
theorem c_X3_sumOf (l : Launch) (G : GD) (a : Nat → Nat) (v : OV) (x1 : Int32) (hv : ¬ v.2 1 < 0) : MetP l yX3_sumOf wsX3_sumOf rm_X3_sumOf G [bX3 a G v] [.ref (a 0), .int x1] (some (.int (f_X3_sumOf v x1))) := by
  refine kb_beginP (cc := cX3_sumOf) (maxL := 8) (ret := (some .int)) (by decide) rfl (Nat.le_of_ble_eq_true rfl) ?_
  intro p e s m below meth c hx hb hr hml hown hts hlocks hX hP ls hl
  have hown : s.vm.findClass RX3 = some m.cls := hown
  have hl : lv_has ls 8 [(0, .ref (a 0)), (1, .int x1)] := hl
  have hin3 : ∀ w ∈ u_ws RX3 TX3 3, w ∈ wsX3_sumOf := (fun _ h => List.mem_cons_of_mem _ (List.mem_append_right _ (h)))
  refine lv_iconst (v := 0) hx hb dX3_sumOf_0 (by decide) ?_
  refine lv_istore_n (lv' := [(2, .int 0), (0, .ref (a 0)), (1, .int x1)]) hx hb dX3_sumOf_1 rfl hl (by decide) rfl (fun ls hl => ?_)
  refine lv_iconst (v := 0) hx hb dX3_sumOf_2 (by decide) ?_
  refine lv_istore_n (lv' := [(3, .int 0), (2, .int 0), (0, .ref (a 0)), (1, .int x1)]) hx hb dX3_sumOf_3 rfl hl (by decide) rfl (fun ls hl => ?_)
  refine lv_iload_n hx hb dX3_sumOf_4 rfl (lv_at hl 3 rfl) ?_
  refine lv_istore (lv' := [(4, .int x1), (3, .int 0), (2, .int 0), (0, .ref (a 0)), (1, .int x1)]) hx hb dX3_sumOf_5 hl (by decide) rfl (fun ls hl => ?_)
  refine lv_aload_n hx hb dX3_sumOf_7 rfl (lv_at hl 3 rfl) ?_
  refine kb_get (own := RX3) (C := RX3) (T := TX3) (N := 3) (v := .int (v.2 1)) hx hb hts hin3 hown hX hP 0 rfl rfl rfl 1 (by decide) rfl (by decide +kernel) rfl dX3_sumOf_8 ?_
  refine lv_iconst (v := 1) hx hb dX3_sumOf_11 (by decide) ?_
  refine lv_isub hx hb dX3_sumOf_12 ?_
  refine lv_istore (lv' := [(5, .int ((v.2 1) - 1)), (4, .int x1), (3, .int 0), (2, .int 0), (0, .ref (a 0)), (1, .int x1)]) hx hb dX3_sumOf_13 hl (by decide) rfl (fun ls hl => ?_)
  rw [← nI_cl hv] at hl
  refine lp_dn (P := fun k => ∀ (q1 : Int32), ∀ (q2 : Int32), ∀ (q3 : Int32), ∀ (ls : Array Slot), lv_has ls 8 [(5, .int (nI k - 1)), (4, .int q3), (3, .int q2), (2, .int q1), (0, .ref (a 0)), (1, .int x1)] → (k ≤ (v.2 1).toNatClampNeg) → (sumGo (v.1 0) (v.2 2) (v.2 1).toNatClampNeg 0 0 x1 = sumGo (v.1 0) (v.2 2) k q1 q2 q3) → W p l e (headSpec wsX3_sumOf rm_X3_sumOf).room s m ([.ref (a 0), .int x1] : List Value).toArray below meth c s.heap [] 0 0 (MQ below (kQp (some (.int (f_X3_sumOf v x1)))) ([.ref (a 0), .int x1] : List Value).toArray s 0 0 (fun _ => False)) (F0 m 15 ls [])) ?_ ?_ ((v.2 1).toNatClampNeg) 0 0 x1 _ (lv_sub hl [0, 1, 2, 3, 4, 5] rfl) (Nat.le_refl _) (rfl)
  · skip
    intro q1 q2 q3 ls hl hkb hs
    refine lv_iload hx hb dX3_sumOf_15 (lv_at hl 0 rfl) ?_
    refine lv_if_lt (tgt := 95) hx hb dX3_sumOf_17 (by decide) (fun c_17 => ?_) (fun c_17 => absurd ((by decide : nI 0 - 1 < 0)) c_17)
    refine lv_iload_n hx hb dX3_sumOf_95 rfl (lv_at hl 3 rfl) ?_
    exact kr_pi hx hb hr hlocks dX3_sumOf_96 (by unfold f_X3_sumOf; rw [hs]; rfl)
  · skip
    intro k ih_15 q1 q2 q3 ls hl hkb hs
    rw [nI_pred] at hl
    refine lv_iload hx hb dX3_sumOf_15 (lv_at hl 0 rfl) ?_
    refine lv_if_lt (tgt := 95) hx hb dX3_sumOf_17 (by decide) (fun c_17 => absurd c_17 (nI_pos (show k < 2 ^ 31 by have := cl_lt (v.2 1); omega))) (fun c_17 => ?_)
    refine lv_iload hx hb dX3_sumOf_20 (lv_at hl 1 rfl) ?_
    refine lv_bipush (v := 6) hx hb dX3_sumOf_22 (by decide) ?_
    refine lv_irem hx hb dX3_sumOf_24 (by decide) ?_
    refine lv_istore (lv' := [(6, .int (q3 - q3 / 6 * 6)), (5, .int (nI k)), (4, .int q3), (3, .int q2), (2, .int q1), (0, .ref (a 0)), (1, .int x1)]) hx hb dX3_sumOf_25 hl (by decide) rfl (fun ls hl => ?_)
    refine lv_iload hx hb dX3_sumOf_27 (lv_at hl 2 rfl) ?_
    refine lv_bipush (v := 6) hx hb dX3_sumOf_29 (by decide) ?_
    refine lv_idiv hx hb dX3_sumOf_31 (by decide) ?_
    refine lv_istore (lv' := [(4, .int (q3 / 6)), (6, .int (q3 - q3 / 6 * 6)), (5, .int (nI k)), (3, .int q2), (2, .int q1), (0, .ref (a 0)), (1, .int x1)]) hx hb dX3_sumOf_32 hl (by decide) rfl (fun ls hl => ?_)
    refine lv_aload_n hx hb dX3_sumOf_34 rfl (lv_at hl 5 rfl) ?_
    refine kb_get (own := RX3) (C := RX3) (T := TX3) (N := 3) (v := .ref (a 1)) hx hb hts hin3 hown hX hP 0 rfl rfl rfl 0 (by decide) rfl (by decide +kernel) rfl dX3_sumOf_35 ?_
    refine lv_iload hx hb dX3_sumOf_38 (lv_at hl 2 rfl) ?_
    refine lv_bipush (v := 6) hx hb dX3_sumOf_40 (by decide) ?_
    refine lv_imul hx hb dX3_sumOf_42 ?_
    refine lv_iload hx hb dX3_sumOf_43 (lv_at hl 1 rfl) ?_
    refine lv_iadd hx hb dX3_sumOf_45 ?_
    refine kcN_p hx hb hml hown hts hX hP (c_X6_at l G (a 1) 24 (v.1 0) (((nI k) * 6) + (q3 - q3 / 6 * 6)) (by decide)) gX3_sumOf_X6_at_n29 (by decide +kernel) (by decide +kernel) (by decide +kernel) 2 rfl rfl rfl hdS_X6_at ⟨Nat.le_of_ble_eq_true rfl, Nat.le_of_ble_eq_true rfl⟩ (cell_in (i := 0) (j := 1) rfl rfl) hl.1 rfl rfl (Nat.le_of_ble_eq_true rfl) dX3_sumOf_46 ⟨Nat.zero_le _, Nat.zero_le _⟩ ?_
    refine lv_istore (lv' := [(7, .int (rAt (v.1 0) 24 (((nI k) * 6) + (q3 - q3 / 6 * 6)))), (4, .int (q3 / 6)), (6, .int (q3 - q3 / 6 * 6)), (5, .int (nI k)), (3, .int q2), (2, .int q1), (0, .ref (a 0)), (1, .int x1)]) hx hb dX3_sumOf_49 hl (by decide) rfl (fun ls hl => ?_)
    refine lv_iload hx hb dX3_sumOf_51 (lv_at hl 2 rfl) ?_
    refine lv_aload_n hx hb dX3_sumOf_53 rfl (lv_at hl 6 rfl) ?_
    refine kb_get (own := RX3) (C := RX3) (T := TX3) (N := 3) (v := .int (v.2 2)) hx hb hts hin3 hown hX hP 0 rfl rfl rfl 2 (by decide) rfl (by decide +kernel) rfl dX3_sumOf_54 ?_
    refine lv_icmp_ge (tgt := 74) hx hb dX3_sumOf_57 (by decide) (fun c_57 => ?_) (fun c_57 => ?_)
    · refine lv_bipush (v := (-4)) hx hb dX3_sumOf_74 (by decide) ?_
      exact kr_pi hx hb hr hlocks dX3_sumOf_76 (by unfold f_X3_sumOf; rw [hs, sumGo]; simp only [if_neg c_17, if_pos c_57])
    · refine lv_iload_n hx hb dX3_sumOf_60 rfl (lv_at hl 4 rfl) ?_
      refine lv_iload hx hb dX3_sumOf_61 (lv_at hl 2 rfl) ?_
      refine kcN_p hx hb hml hown hts hX hP (c_X6_holds l G q2 (q3 - q3 / 6 * 6)) gX3_sumOf_X6_holds_n51 (by decide +kernel) (by decide +kernel) (by decide +kernel) 2 rfl rfl rfl hdS_X6_holds ⟨Nat.le_of_ble_eq_true rfl, Nat.le_of_ble_eq_true rfl⟩ (fun q hq => absurd hq List.not_mem_nil) hl.1 rfl rfl (Nat.le_of_ble_eq_true rfl) dX3_sumOf_63 ⟨Nat.zero_le _, Nat.zero_le _⟩ ?_
      refine lv_if_ne (tgt := 74) hx hb dX3_sumOf_66 (by decide) (fun c_66r => ?_) (fun c_66r => ?_)
      · have c_66 := b2i_tP c_66r
        refine lv_bipush (v := (-4)) hx hb dX3_sumOf_74 (by decide) ?_
        exact kr_pi hx hb hr hlocks dX3_sumOf_76 (by unfold f_X3_sumOf; rw [hs, sumGo]; simp only [if_neg c_17, if_neg c_57, if_pos c_66])
      · have c_66 := b2i_fN c_66r
        refine lv_iload hx hb dX3_sumOf_69 (lv_at hl 0 rfl) ?_
        refine lv_if_ge (tgt := 77) hx hb dX3_sumOf_71 (by decide) (fun c_71 => ?_) (fun c_71 => ?_)
        · refine lv_iload_n hx hb dX3_sumOf_77 rfl (lv_at hl 4 rfl) ?_
          refine lv_iconst (v := 1) hx hb dX3_sumOf_78 (by decide) ?_
          refine lv_iload hx hb dX3_sumOf_79 (lv_at hl 2 rfl) ?_
          refine lv_ishl hx hb dX3_sumOf_81 ?_
          refine lv_ior hx hb dX3_sumOf_82 ?_
          refine lv_istore_n (lv' := [(3, .int (q2 ||| (1 <<< ((q3 - q3 / 6 * 6) &&& 31)))), (7, .int (rAt (v.1 0) 24 (((nI k) * 6) + (q3 - q3 / 6 * 6)))), (4, .int (q3 / 6)), (6, .int (q3 - q3 / 6 * 6)), (5, .int (nI k)), (2, .int q1), (0, .ref (a 0)), (1, .int x1)]) hx hb dX3_sumOf_83 rfl hl (by decide) rfl (fun ls hl => ?_)
          refine lv_iload_n hx hb dX3_sumOf_84 rfl (lv_at hl 5 rfl) ?_
          refine lv_iload hx hb dX3_sumOf_85 (lv_at hl 1 rfl) ?_
          refine lv_iadd hx hb dX3_sumOf_87 ?_
          refine lv_istore_n (lv' := [(2, .int (q1 + (rAt (v.1 0) 24 (((nI k) * 6) + (q3 - q3 / 6 * 6))))), (3, .int (q2 ||| (1 <<< ((q3 - q3 / 6 * 6) &&& 31)))), (7, .int (rAt (v.1 0) 24 (((nI k) * 6) + (q3 - q3 / 6 * 6)))), (4, .int (q3 / 6)), (6, .int (q3 - q3 / 6 * 6)), (5, .int (nI k)), (0, .ref (a 0)), (1, .int x1)]) hx hb dX3_sumOf_88 rfl hl (by decide) rfl (fun ls hl => ?_)
          refine lv_iinc (v := (nI k) - 1) (lv' := [(5, .int ((nI k) - 1)), (2, .int (q1 + (rAt (v.1 0) 24 (((nI k) * 6) + (q3 - q3 / 6 * 6))))), (3, .int (q2 ||| (1 <<< ((q3 - q3 / 6 * 6) &&& 31)))), (7, .int (rAt (v.1 0) 24 (((nI k) * 6) + (q3 - q3 / 6 * 6)))), (4, .int (q3 / 6)), (6, .int (q3 - q3 / 6 * 6)), (0, .ref (a 0)), (1, .int x1)]) hx hb dX3_sumOf_89 hl (k := 5) rfl (dec1 _) (by decide) rfl (fun ls hl => ?_)
          refine lv_goto (tgt := 15) hx hb dX3_sumOf_92 (by decide) ?_
          exact ih_15 (q1 + (rAt (v.1 0) 24 (((nI k) * 6) + (q3 - q3 / 6 * 6)))) (q2 ||| (1 <<< ((q3 - q3 / 6 * 6) &&& 31))) (q3 / 6) _ (show lv_has ls 8 [(5, .int ((nI k) - 1)), (4, .int (q3 / 6)), (3, .int (q2 ||| (1 <<< ((q3 - q3 / 6 * 6) &&& 31)))), (2, .int (q1 + (rAt (v.1 0) 24 (((nI k) * 6) + (q3 - q3 / 6 * 6))))), (0, .ref (a 0)), (1, .int x1)] from lv_sub hl [0, 4, 2, 1, 6, 7] rfl) (by omega) (hs.trans (by rw [sumGo, if_neg c_57, if_neg c_66, if_pos c_71]))
        · refine lv_bipush (v := (-4)) hx hb dX3_sumOf_74 (by decide) ?_
          exact kr_pi hx hb hr hlocks dX3_sumOf_76 (by unfold f_X3_sumOf; rw [hs, sumGo]; simp only [if_neg c_17, if_neg c_57, if_neg c_66, if_neg c_71])

def rm_X3_bestCode : Room := { frames := 2, cells := 0, slots := 0, locals := 48 }
theorem hd_X3_bestCode : yX3_bestCode.cls = RX3 ∧ yX3_bestCode.cls ≠ "java/lang/invoke/MethodHandle" ∧ yX3_bestCode.cls ≠ "java/lang/invoke/VarHandle" ∧ (parseMethodDescriptor yX3_bestCode.desc).map (fun d => d.parameters.length) = some 0 := by decide +kernel
set_option maxRecDepth 100000 in
set_option maxHeartbeats 4000000 in
theorem c_X3_bestCode (l : Launch) (G : GD) (a : Nat → Nat) (v : OV) (hv : ¬ v.2 1 < 0) : MetP l yX3_bestCode wsX3_bestCode rm_X3_bestCode G [bX3 a G v] [.ref (a 0)] (some (.int (f_X3_bestCode v))) := by
  refine kb_beginP (cc := cX3_bestCode) (maxL := 6) (ret := (some .int)) (by decide) rfl (Nat.le_of_ble_eq_true rfl) ?_
  intro p e s m below meth c hx hb hr hml hown hts hlocks hX hP ls hl
  have hown : s.vm.findClass RX3 = some m.cls := hown
  have hl : lv_has ls 6 [(0, .ref (a 0))] := hl
  have hin3 : ∀ w ∈ u_ws RX3 TX3 3, w ∈ wsX3_bestCode := (fun _ h => List.mem_cons_of_mem _ (List.mem_append_right _ (h)))
  refine lv_iconst (v := 1) hx hb dX3_bestCode_0 (by decide) ?_
  refine lv_istore_n (lv' := [(1, .int 1), (0, .ref (a 0))]) hx hb dX3_bestCode_1 rfl hl (by decide) rfl (fun ls hl => ?_)
  refine lv_iconst (v := 0) hx hb dX3_bestCode_2 (by decide) ?_
  refine lv_istore_n (lv' := [(2, .int 0), (1, .int 1), (0, .ref (a 0))]) hx hb dX3_bestCode_3 rfl hl (by decide) rfl (fun ls hl => ?_)
  refine lp_up (N := (v.2 1).toNatClampNeg) (P := fun k => ∀ (ls : Array Slot), lv_has ls 6 [(2, .int (nI k)), (1, .int (itN s_codes 1 k)), (0, .ref (a 0))] →  W p l e (headSpec wsX3_bestCode rm_X3_bestCode).room s m ([.ref (a 0)] : List Value).toArray below meth c s.heap [] 0 0 (MQ below (kQp (some (.int (f_X3_bestCode v)))) ([.ref (a 0)] : List Value).toArray s 0 0 (fun _ => False)) (F0 m 4 ls [])) ?_ ?_ 0 (Nat.zero_le _)  _ (lv_sub hl [0, 1, 2] rfl) 
  · skip
    intro ls hl 
    refine lv_iload_n hx hb dX3_bestCode_4 rfl (lv_at hl 0 rfl) ?_
    refine lv_aload_n hx hb dX3_bestCode_5 rfl (lv_at hl 2 rfl) ?_
    refine kb_get (own := RX3) (C := RX3) (T := TX3) (N := 3) (v := .int (v.2 1)) hx hb hts hin3 hown hX hP 0 rfl rfl rfl 1 (by decide) rfl (by decide +kernel) rfl dX3_bestCode_6 ?_
    refine lv_icmp_ge (tgt := 23) hx hb dX3_bestCode_9 (by decide) (fun c_9 => ?_) (fun c_9 => absurd (lpx_c _) c_9)
    refine lv_iconst (v := (-1)) hx hb dX3_bestCode_23 (by decide) ?_
    refine lv_istore_n (lv' := [(2, .int (-1)), (1, .int (itN s_codes 1 ((v.2 1).toNatClampNeg))), (0, .ref (a 0))]) hx hb dX3_bestCode_24 rfl hl (by decide) rfl (fun ls hl => ?_)
    refine lv_ldc (v := 1000000) hx hb hown (hts _ (by decide +kernel)) dX3_bestCode_25 ?_
    refine lv_istore_n (lv' := [(3, .int 1000000), (2, .int (-1)), (1, .int (itN s_codes 1 ((v.2 1).toNatClampNeg))), (0, .ref (a 0))]) hx hb dX3_bestCode_27 rfl hl (by decide) rfl (fun ls hl => ?_)
    refine lv_iconst (v := 0) hx hb dX3_bestCode_28 (by decide) ?_
    refine lv_istore (lv' := [(4, .int 0), (3, .int 1000000), (2, .int (-1)), (1, .int (itN s_codes 1 ((v.2 1).toNatClampNeg))), (0, .ref (a 0))]) hx hb dX3_bestCode_29 hl (by decide) rfl (fun ls hl => ?_)
    refine lp_up (N := (n_codes v).toNatClampNeg) (P := fun k => ∀ (ls : Array Slot), lv_has ls 6 [(4, .int (nI k)), (3, .int ((itN (s_best v) (-1, 1000000) k).2)), (2, .int ((itN (s_best v) (-1, 1000000) k).1)), (1, .int (itN s_codes 1 ((v.2 1).toNatClampNeg))), (0, .ref (a 0))] →  W p l e (headSpec wsX3_bestCode rm_X3_bestCode).room s m ([.ref (a 0)] : List Value).toArray below meth c s.heap [] 0 0 (MQ below (kQp (some (.int (f_X3_bestCode v)))) ([.ref (a 0)] : List Value).toArray s 0 0 (fun _ => False)) (F0 m 31 ls [])) ?_ ?_ 0 (Nat.zero_le _)  _ (lv_sub hl [0, 1, 2, 3, 4] rfl) 
    · skip
      intro ls hl 
      refine lv_iload hx hb dX3_bestCode_31 (lv_at hl 0 rfl) ?_
      refine lv_iload_n hx hb dX3_bestCode_33 rfl (lv_at hl 3 rfl) ?_
      refine lv_icmp_ge (tgt := 68) hx hb dX3_bestCode_34 (by decide) (fun c_34 => ?_) (fun c_34 => absurd (lpx_c _) c_34)
      refine lv_iload_n hx hb dX3_bestCode_68 rfl (lv_at hl 2 rfl) ?_
      exact kr_pi hx hb hr hlocks dX3_bestCode_69 (by rfl)
    · skip
      intro k hk_k ih_31 ls hl 
      refine lv_iload hx hb dX3_bestCode_31 (lv_at hl 0 rfl) ?_
      refine lv_iload_n hx hb dX3_bestCode_33 rfl (lv_at hl 3 rfl) ?_
      refine lv_icmp_ge (tgt := 68) hx hb dX3_bestCode_34 (by decide) (fun c_34 => absurd c_34 (lps_c hk_k)) (fun c_34 => ?_)
      refine lv_aload_n hx hb dX3_bestCode_37 rfl (lv_at hl 4 rfl) ?_
      refine lv_iload hx hb dX3_bestCode_38 (lv_at hl 0 rfl) ?_
      refine kcV_p hx hb hml hown hts hX hP (c_X3_sumOf l G a v (nI k) hv) gX3_bestCode_X3_sumOf 1 rfl rfl rfl hd_X3_sumOf ⟨Nat.le_of_ble_eq_true rfl, Nat.le_of_ble_eq_true rfl⟩ [0] rfl 0 rfl rfl rfl hl.1 rfl rfl (Nat.le_of_ble_eq_true rfl) dX3_bestCode_40 ⟨Nat.zero_le _, Nat.zero_le _⟩ ?_
      refine lv_istore (lv' := [(5, .int (f_X3_sumOf v (nI k))), (4, .int (nI k)), (3, .int ((itN (s_best v) (-1, 1000000) k).2)), (2, .int ((itN (s_best v) (-1, 1000000) k).1)), (1, .int (itN s_codes 1 ((v.2 1).toNatClampNeg))), (0, .ref (a 0))]) hx hb dX3_bestCode_43 hl (by decide) rfl (fun ls hl => ?_)
      refine lv_iload hx hb dX3_bestCode_45 (lv_at hl 0 rfl) ?_
      refine lv_if_lt (tgt := 62) hx hb dX3_bestCode_47 (by decide) (fun c_47 => ?_) (fun c_47 => ?_)
      · refine lv_iinc (v := nI (k + 1)) (lv' := [(4, .int (nI (k + 1))), (5, .int (f_X3_sumOf v (nI k))), (3, .int ((itN (s_best v) (-1, 1000000) k).2)), (2, .int ((itN (s_best v) (-1, 1000000) k).1)), (1, .int (itN s_codes 1 ((v.2 1).toNatClampNeg))), (0, .ref (a 0))]) hx hb dX3_bestCode_62 hl (k := 1) rfl (nI_1 _) (by decide) rfl (fun ls hl => ?_)
        refine lv_goto (tgt := 31) hx hb dX3_bestCode_65 (by decide) ?_
        exact ih_31  _ (by rw [itN_s]; simp only [s_best, if_pos c_9, if_neg c_34, if_pos c_47]; exact lv_sub hl [0, 2, 3, 4, 5] rfl) 
      · refine lv_iload hx hb dX3_bestCode_50 (lv_at hl 0 rfl) ?_
        refine lv_iload_n hx hb dX3_bestCode_52 rfl (lv_at hl 2 rfl) ?_
        refine lv_icmp_ge (tgt := 62) hx hb dX3_bestCode_53 (by decide) (fun c_53 => ?_) (fun c_53 => ?_)
        · refine lv_iinc (v := nI (k + 1)) (lv' := [(4, .int (nI (k + 1))), (5, .int (f_X3_sumOf v (nI k))), (3, .int ((itN (s_best v) (-1, 1000000) k).2)), (2, .int ((itN (s_best v) (-1, 1000000) k).1)), (1, .int (itN s_codes 1 ((v.2 1).toNatClampNeg))), (0, .ref (a 0))]) hx hb dX3_bestCode_62 hl (k := 1) rfl (nI_1 _) (by decide) rfl (fun ls hl => ?_)
          refine lv_goto (tgt := 31) hx hb dX3_bestCode_65 (by decide) ?_
          exact ih_31  _ (by rw [itN_s]; simp only [s_best, if_pos c_9, if_neg c_34, if_neg c_47, if_pos c_53]; exact lv_sub hl [0, 2, 3, 4, 5] rfl) 
        · refine lv_iload hx hb dX3_bestCode_56 (lv_at hl 1 rfl) ?_
          refine lv_istore_n (lv' := [(2, .int (nI k)), (5, .int (f_X3_sumOf v (nI k))), (4, .int (nI k)), (3, .int ((itN (s_best v) (-1, 1000000) k).2)), (1, .int (itN s_codes 1 ((v.2 1).toNatClampNeg))), (0, .ref (a 0))]) hx hb dX3_bestCode_58 rfl hl (by decide) rfl (fun ls hl => ?_)
          refine lv_iload hx hb dX3_bestCode_59 (lv_at hl 1 rfl) ?_
          refine lv_istore_n (lv' := [(3, .int (f_X3_sumOf v (nI k))), (2, .int (nI k)), (5, .int (f_X3_sumOf v (nI k))), (4, .int (nI k)), (1, .int (itN s_codes 1 ((v.2 1).toNatClampNeg))), (0, .ref (a 0))]) hx hb dX3_bestCode_61 rfl hl (by decide) rfl (fun ls hl => ?_)
          refine lv_iinc (v := nI (k + 1)) (lv' := [(4, .int (nI (k + 1))), (3, .int (f_X3_sumOf v (nI k))), (2, .int (nI k)), (5, .int (f_X3_sumOf v (nI k))), (1, .int (itN s_codes 1 ((v.2 1).toNatClampNeg))), (0, .ref (a 0))]) hx hb dX3_bestCode_62 hl (k := 3) rfl (nI_1 _) (by decide) rfl (fun ls hl => ?_)
          refine lv_goto (tgt := 31) hx hb dX3_bestCode_65 (by decide) ?_
          exact ih_31  _ (by rw [itN_s]; simp only [s_best, if_pos c_9, if_neg c_34, if_neg c_47, if_neg c_53]; exact lv_sub hl [0, 1, 2, 4, 5] rfl) 
  · skip
    intro k hk_k ih_4 ls hl 
    refine lv_iload_n hx hb dX3_bestCode_4 rfl (lv_at hl 0 rfl) ?_
    refine lv_aload_n hx hb dX3_bestCode_5 rfl (lv_at hl 2 rfl) ?_
    refine kb_get (own := RX3) (C := RX3) (T := TX3) (N := 3) (v := .int (v.2 1)) hx hb hts hin3 hown hX hP 0 rfl rfl rfl 1 (by decide) rfl (by decide +kernel) rfl dX3_bestCode_6 ?_
    refine lv_icmp_ge (tgt := 23) hx hb dX3_bestCode_9 (by decide) (fun c_9 => absurd c_9 (lps_c hk_k)) (fun c_9 => ?_)
    refine lv_iload_n hx hb dX3_bestCode_12 rfl (lv_at hl 1 rfl) ?_
    refine lv_bipush (v := 6) hx hb dX3_bestCode_13 (by decide) ?_
    refine lv_imul hx hb dX3_bestCode_15 ?_
    refine lv_istore_n (lv' := [(1, .int ((itN s_codes 1 k) * 6)), (2, .int (nI k)), (0, .ref (a 0))]) hx hb dX3_bestCode_16 rfl hl (by decide) rfl (fun ls hl => ?_)
    refine lv_iinc (v := nI (k + 1)) (lv' := [(2, .int (nI (k + 1))), (1, .int ((itN s_codes 1 k) * 6)), (0, .ref (a 0))]) hx hb dX3_bestCode_17 hl (k := 1) rfl (nI_1 _) (by decide) rfl (fun ls hl => ?_)
    refine lv_goto (tgt := 4) hx hb dX3_bestCode_20 (by decide) ?_
    exact ih_4  _ (show lv_has ls 6 [(2, .int (nI (k + 1))), (1, .int (itN s_codes 1 (k + 1))), (0, .ref (a 0))] from lv_sub hl [0, 1, 2] rfl) 

def rm_X3_roomIn : Room := { frames := 0, cells := 0, slots := 0, locals := 0 }
theorem hd_X3_roomIn : yX3_roomIn.cls = RX3 ∧ yX3_roomIn.cls ≠ "java/lang/invoke/MethodHandle" ∧ yX3_roomIn.cls ≠ "java/lang/invoke/VarHandle" ∧ (parseMethodDescriptor yX3_roomIn.desc).map (fun d => d.parameters.length) = some 2 := by decide +kernel
set_option maxRecDepth 100000 in
set_option maxHeartbeats 4000000 in
theorem c_X3_roomIn (l : Launch) (G : GD) (a : Nat → Nat) (v : OV) (x1 : Int32) (x2 : Int32) (hv : ¬ v.2 1 < 0) (hi : ¬ x2 < 0) : MetP l yX3_roomIn wsX3_roomIn rm_X3_roomIn G [bX3 a G v] [.ref (a 0), .int x1, .int x2] (some (.int (f_X3_roomIn v x1 x2))) := by
  refine kb_beginP (cc := cX3_roomIn) (maxL := 5) (ret := (some .int)) (by decide) rfl (Nat.le_of_ble_eq_true rfl) ?_
  intro p e s m below meth c hx hb hr hml hown hts hlocks hX hP ls hl
  have hown : s.vm.findClass RX3 = some m.cls := hown
  have hl : lv_has ls 5 [(0, .ref (a 0)), (1, .int x1), (2, .int x2)] := hl
  have hin3 : ∀ w ∈ u_ws RX3 TX3 3, w ∈ wsX3_roomIn := (fun _ h => List.mem_cons_of_mem _ (List.mem_append_right _ (h)))
  refine lv_iload_n hx hb dX3_roomIn_0 rfl (lv_at hl 1 rfl) ?_
  refine lv_istore_n (lv' := [(3, .int x1), (0, .ref (a 0)), (1, .int x1), (2, .int x2)]) hx hb dX3_roomIn_1 rfl hl (by decide) rfl (fun ls hl => ?_)
  refine lv_aload_n hx hb dX3_roomIn_2 rfl (lv_at hl 1 rfl) ?_
  refine kb_get (own := RX3) (C := RX3) (T := TX3) (N := 3) (v := .int (v.2 1)) hx hb hts hin3 hown hX hP 0 rfl rfl rfl 1 (by decide) rfl (by decide +kernel) rfl dX3_roomIn_3 ?_
  refine lv_iconst (v := 1) hx hb dX3_roomIn_6 (by decide) ?_
  refine lv_isub hx hb dX3_roomIn_7 ?_
  refine lv_istore (lv' := [(4, .int ((v.2 1) - 1)), (3, .int x1), (0, .ref (a 0)), (1, .int x1), (2, .int x2)]) hx hb dX3_roomIn_8 hl (by decide) rfl (fun ls hl => ?_)
  rw [← nI_cl hv] at hl
  refine lp_dn (P := fun k => ∀ (q3 : Int32), ∀ (ls : Array Slot), lv_has ls 5 [(4, .int (nI k - 1)), (3, .int q3), (0, .ref (a 0)), (1, .int x1), (2, .int x2)] → (roomGo x2 (v.2 1).toNatClampNeg x1 = roomGo x2 k q3) → W p l e (headSpec wsX3_roomIn rm_X3_roomIn).room s m ([.ref (a 0), .int x1, .int x2] : List Value).toArray below meth c s.heap [] 0 0 (MQ below (kQp (some (.int (f_X3_roomIn v x1 x2)))) ([.ref (a 0), .int x1, .int x2] : List Value).toArray s 0 0 (fun _ => False)) (F0 m 10 ls [])) ?_ ?_ ((v.2 1).toNatClampNeg) x1 _ (lv_sub hl [0, 1, 2, 3, 4] rfl) (rfl)
  · skip
    intro q3 ls hl hs
    refine lv_iload hx hb dX3_roomIn_10 (lv_at hl 0 rfl) ?_
    refine lv_iload_n hx hb dX3_roomIn_12 rfl (lv_at hl 4 rfl) ?_
    refine lv_icmp_le (tgt := 27) hx hb dX3_roomIn_13 (by decide) (fun c_13 => ?_) (fun c_13 => absurd (nm1_le hi) c_13)
    refine lv_iload_n hx hb dX3_roomIn_27 rfl (lv_at hl 1 rfl) ?_
    refine lv_bipush (v := 6) hx hb dX3_roomIn_28 (by decide) ?_
    refine lv_irem hx hb dX3_roomIn_30 (by decide) ?_
    exact kr_pi hx hb hr hlocks dX3_roomIn_31 (by unfold f_X3_roomIn; rw [hs]; rfl)
  · skip
    intro k ih_10 q3 ls hl hs
    rw [nI_pred] at hl
    refine lv_iload hx hb dX3_roomIn_10 (lv_at hl 0 rfl) ?_
    refine lv_iload_n hx hb dX3_roomIn_12 rfl (lv_at hl 4 rfl) ?_
    refine lv_icmp_le (tgt := 27) hx hb dX3_roomIn_13 (by decide) (fun c_13 => ?_) (fun c_13 => ?_)
    · refine lv_iload_n hx hb dX3_roomIn_27 rfl (lv_at hl 1 rfl) ?_
      refine lv_bipush (v := 6) hx hb dX3_roomIn_28 (by decide) ?_
      refine lv_irem hx hb dX3_roomIn_30 (by decide) ?_
      exact kr_pi hx hb hr hlocks dX3_roomIn_31 (by unfold f_X3_roomIn; rw [hs, roomGo]; simp only [if_pos c_13])
    · refine lv_iload_n hx hb dX3_roomIn_16 rfl (lv_at hl 1 rfl) ?_
      refine lv_bipush (v := 6) hx hb dX3_roomIn_17 (by decide) ?_
      refine lv_idiv hx hb dX3_roomIn_19 (by decide) ?_
      refine lv_istore_n (lv' := [(3, .int (q3 / 6)), (4, .int (nI k)), (0, .ref (a 0)), (1, .int x1), (2, .int x2)]) hx hb dX3_roomIn_20 rfl hl (by decide) rfl (fun ls hl => ?_)
      refine lv_iinc (v := (nI k) - 1) (lv' := [(4, .int ((nI k) - 1)), (3, .int (q3 / 6)), (0, .ref (a 0)), (1, .int x1), (2, .int x2)]) hx hb dX3_roomIn_21 hl (k := 1) rfl (dec1 _) (by decide) rfl (fun ls hl => ?_)
      refine lv_goto (tgt := 10) hx hb dX3_roomIn_24 (by decide) ?_
      exact ih_10 (q3 / 6) _ (show lv_has ls 5 [(4, .int ((nI k) - 1)), (3, .int (q3 / 6)), (0, .ref (a 0)), (1, .int x1), (2, .int x2)] from lv_sub hl [0, 1, 2, 3, 4] rfl) (hs.trans (by rw [roomGo, if_neg c_13]))
