/-! the words of the class's calls -/
def rot {α : Type} (m : Nat) (f : Nat → α) : Nat → α := fun k => if k + 1 < m then f (k + 1) else if k + 1 = m then f 0 else f k
def upF {α : Type} (f : Nat → α) (k : Nat) (x : α) : Nat → α := fun j => if j = k then x else f j
def pushA (m n : Nat) (ad : Nat → Nat → Nat) : Nat → Nat → Nat := if n < m then ad else rot m ad
def pushH (m n : Nat) (hv : Nat → OV) (h : OV) : Nat → OV := if n < m then upF hv n (f_X0_become (hv n) h) else upF (rot m hv) (m - 1) (f_X0_become (rot m hv (m - 1)) h)
def pushN (m n : Nat) : Nat := if n < m then n + 1 else m
def popR (n : Nat) : Int32 := if n = 0 then 0 else 1
def popV (n : Nat) (hv : Nat → OV) (h : OV) : OV := if n = 0 then h else f_X0_become h (hv (n - 1))
abbrev ush (x s : Int32) : Int32 := (x.toUInt32 >>> (s.toUInt32 &&& Int32.toUInt32 31)).toInt32
def bc1 (x : Int32) : Int32 := x - (ush x 1 &&& 1431655765)
def bc2 (x : Int32) : Int32 := (x &&& 858993459) + (ush x 2 &&& 858993459)
def bc3 (x : Int32) : Int32 := (x + ush x 4) &&& 252645135
def bc4 (x : Int32) : Int32 := x + ush x 8
def bc5 (x : Int32) : Int32 := x + ush x 16
def f_bits (x : Int32) : Int32 := bc5 (bc4 (bc3 (bc2 (bc1 x)))) &&& 63
def fIn (x b : Int32) : Bool := if x < 0 then false else if b ≤ x then false else true
def cnd {α : Type} (b : Bool) (x y : α) : α := if b = true then x else y
theorem win_n {x a b : Int32} (h : fWithin x a b = true) (ha : 0 ≤ a) : ¬ x < 0 := by
  simp only [fWithin, Bool.and_eq_true, Bool.not_eq_true', decide_eq_false_iff_not] at h
  exact fun e => h.1 (Int32.lt_of_lt_of_le e ha)
def f_door (vp vn : OV) (x y : Int32) : Int32 := if fIn x (vp.2 9) = true then (if y = 0 then rAt (vp.1 0) 8 x else if y = 1 then rAt (vp.1 1) 8 x else if y = 2 then rAt (vp.1 2) 8 x else if y = 3 then rAt (vn.1 2) 8 x else if y = 4 then rAt (vp.1 3) 8 x else -1) else -1
def f_lodger (vp vn : OV) (x y : Int32) : Int32 := if fIn x (vp.2 10) = true then (if y = 0 then rAt (vn.1 3) 4 x else if y = 1 then rAt (vp.1 5) 4 x else if y = 2 then rAt (vp.1 6) 4 x else -1) else -1
def f_grudge (vp vn : OV) (x y : Int32) : Int32 := if fIn x (vp.2 9) = true then (if fIn y (vp.2 10) = true then f_X0_grudgeOf vn x y else -1) else -1
def okGo (vp vn : OV) (i d : Int32) : Bool := if fIn i (vp.2 10) = true then (if fIn d (vp.2 9) = true then (if 0 ≤ f_X2_otherSide vp d (rAt (vn.1 3) 4 i) then true else false) else false) else false
def f_goR (vp vn : OV) (i d : Int32) : Int32 := if fIn i (vp.2 10) = true then (if fIn d (vp.2 9) = true then (if 0 ≤ f_X2_otherSide vp d (rAt (vn.1 3) 4 i) then f_X0_minutesThrough vn d i else -2) else -1) else -1
def f_oilN (vp vn : OV) (d : Int32) : OV := setA vn 2 (rPut (vn.1 2) 8 d (vp.2 14))
def f_oilR (vp vn : OV) (d : Int32) : Int32 := if fIn d (vp.2 9) = true then f_X0_oiledDoors (f_oilN vp vn d) else -1
def s_slp (w : OV) (_ : Nat) (u : OV) : OV := f_X0_sleep u w
def f_sleeps (vp vn : OV) (k : Nat) : OV := itN (s_slp vp) vn k
def okNight (vn : OV) (n : Int32) : Bool := if fWithin n 1 60 = true then (if vn.2 5 + n ≤ 9999 then true else false) else false
def f_nightR (vp vn : OV) (n : Int32) : Int32 := if fWithin n 1 60 = true then (if vn.2 5 + n ≤ 9999 then (f_sleeps vp vn n.toNatClampNeg).2 5 else -2) else -1
def f_undoR (n : Nat) : Int32 := if popR n = 0 then -2 else nI (n - 1)
def okWay (vp : OV) (i a b : Int32) : Bool := if fIn i (vp.2 10) = true then (if fIn a (vp.2 8) = true then (if fIn b (vp.2 8) = true then true else false) else false) else false
def f_wayR (vp vn vy : OV) (i a b : Int32) : Int32 := if fIn i (vp.2 10) = true then (if fIn a (vp.2 8) = true then (if fIn b (vp.2 8) = true then f_X5_minutesFrom (f_X5_measure vy vp vn i b 0) a else -1) else -1) else -1
def f_firstR (vp vn vy : OV) (i a b : Int32) : Int32 := if fIn i (vp.2 10) = true then (if fIn a (vp.2 8) = true then (if fIn b (vp.2 8) = true then f_X5_lowest (f_X5_measure vy vp vn i b 0) vp a else -1) else -1) else -1
abbrev f_tm (vp vn vy : OV) (o i : Int32) : OV := f_X5_measure vy vp vn i (rAt (vp.1 6) 4 i) o
def f_inW (vp vn vy : OV) (o i m : Int32) : Bool := if f_X5_minutesFrom (f_tm vp vn vy o i) (rAt (vn.1 3) 4 i) < 0 then false else if m < f_X5_minutesFrom (f_tm vp vn vy o i) (rAt (vn.1 3) 4 i) then false else true
/-- in time: the sets of one size -/
def tmGo (vp vn : OV) (sz i m : Int32) : Nat → Nat → OV → Option Nat × OV
  | 0, _, y => (none, y)
  | n + 1, k, y => if f_bits (nI k) = sz then (if f_inW vp vn y (nI k) i m = true then (some k, f_tm vp vn y (nI k) i) else tmGo vp vn sz i m n (k + 1) (f_tm vp vn y (nI k) i)) else tmGo vp vn sz i m n (k + 1) y
def tmSz (vp vn : OV) (i m : Int32) (N : Nat) : Nat → Nat → OV → Option Nat × OV
  | 0, _, y => (none, y)
  | n + 1, s, y => if (tmGo vp vn (nI s) i m N 0 y).1.isSome = true then tmGo vp vn (nI s) i m N 0 y else tmSz vp vn i m N n (s + 1) (tmGo vp vn (nI s) i m N 0 y).2
abbrev c_sets (vp : OV) : Int32 := 1 <<< (vp.2 9 &&& 31)
def f_inT (vp vn vy : OV) (i m : Int32) : Option Nat × OV := tmSz vp vn i m (c_sets vp).toNatClampNeg ((vp.2 9).toNatClampNeg + 1) 0 vy
def okInT (vp : OV) (i m : Int32) : Bool := if fIn i (vp.2 10) = true then (if fWithin m 0 600 = true then true else false) else false
def f_inTimeR (vp vn vy : OV) (i m : Int32) : Int32 := cnd (okInT vp i m) (optI (f_inT vp vn vy i m).1) (-1)
def okRooms (vp : OV) (i : Int32) : Bool := if i = -1 then true else if fIn i (vp.2 10) = true then true else false
def f_roomsR (vp vn vy vm : OV) (i : Int32) : Int32 := cnd (okRooms vp i) (if 0 ≤ f_X3_bestCode (f_X3_measure vm vp vn vy) then (if 0 ≤ i then f_X3_roomIn (f_X3_measure vm vp vn vy) (f_X3_bestCode (f_X3_measure vm vp vn vy)) i else f_X3_sumOf (f_X3_measure vm vp vn vy) (f_X3_bestCode (f_X3_measure vm vp vn vy))) else -4) (-1)
abbrev f_beh (vp vn vr : OV) (n i : Int32) : OV := f_X0_sleepAgainstOne (f_X0_become vr vn) vp n i
def okBeh (vp : OV) (n d i : Int32) : Bool := if fWithin n 0 60 = true then (if fIn d (vp.2 9) = true then (if fIn i (vp.2 10) = true then true else false) else false) else false
def f_behindR (vp vn vr : OV) (n d i : Int32) : Int32 := cnd (okBeh vp n d i) (f_X0_grudgeOf (f_beh vp vn vr n i) d i) (-1)
def okWorst (vp : OV) (n i : Int32) : Bool := if fWithin n 0 60 = true then (if fIn i (vp.2 10) = true then true else false) else false
def s_wst (u : OV) (i : Int32) (k : Nat) (w : Int32) : Int32 := if f_X0_grudgeOf u (nI (k + 1)) i ≤ f_X0_grudgeOf u w i then w else nI (k + 1)
def f_worstR (vp vn vr : OV) (n i : Int32) : Int32 := cnd (okWorst vp n i) (itN (s_wst (f_beh vp vn vr n i) i) 0 ((vp.2 9).toNatClampNeg - 1)) (-1)
/-- a house in which the doors of a set are oiled for some nights -/
def s_oilF (o n : Int32) (k : Nat) (u : OV) : OV := if fHolds o (nI k) = true then setA u 2 (rPut (u.1 2) 8 (nI k) n) else u
def f_bw (vp vn vr : OV) (o n i : Int32) : OV := f_X0_sleepAgainstOne (itN (s_oilF o (n + 1)) (f_X0_become vr vn) (vp.2 9).toNatClampNeg) vp n i
def f_bwR (vp vn vr : OV) (o n d i : Int32) : Int32 := f_X0_grudgeOf (f_bw vp vn vr o n i) d i
def stGo (vp vn : OV) (sz n d i g : Int32) : Nat → Nat → OV → Option Nat × OV
  | 0, _, y => (none, y)
  | f + 1, k, y => if f_bits (nI k) = sz then (if fHolds (nI k) d = true then stGo vp vn sz n d i g f (k + 1) y else
      if g ≤ f_bwR vp vn y (nI k) n d i then stGo vp vn sz n d i g f (k + 1) (f_bw vp vn y (nI k) n i) else (some k, f_bw vp vn y (nI k) n i)) else stGo vp vn sz n d i g f (k + 1) y
def stSz (vp vn : OV) (n d i g : Int32) (N : Nat) : Nat → Nat → OV → Option Nat × OV
  | 0, _, y => (none, y)
  | f + 1, s, y => if (stGo vp vn (nI s) n d i g N 0 y).1.isSome = true then stGo vp vn (nI s) n d i g N 0 y else stSz vp vn n d i g N f (s + 1) (stGo vp vn (nI s) n d i g N 0 y).2
def f_stop (vp vn vr : OV) (n d i g : Int32) : Option Nat × OV := stSz vp vn n d i g (c_sets vp).toNatClampNeg (vp.2 9).toNatClampNeg 0 vr
def okStop (vp : OV) (n d i g : Int32) : Bool := if fWithin n 0 60 = true then (if fIn d (vp.2 9) = true then (if fIn i (vp.2 10) = true then (if fWithin g 1 99 = true then true else false) else false) else false) else false
def f_stopR (vp vn vr : OV) (n d i g : Int32) : Int32 := cnd (okStop vp n d i g) (optI (f_stop vp vn vr n d i g).1) (-1)
def s_hw (vp : OV) (i d k m : Int32) (o : Nat) (q : Int32 × Int32) : Int32 × Int32 := if 1 + f_X2_grudgeAfter vp d i k (nI o) = m then (q.1 + 1, if f_bits (nI o) < q.2 then f_bits (nI o) else q.2) else q
def f_how (vp : OV) (i d k m : Int32) : Int32 × Int32 := itN (s_hw vp i d k m) (0, 9) (1 <<< (k &&& 31) : Int32).toNatClampNeg
def okHow (k m w : Int32) : Bool := if fWithin k 0 8 = true then (if fWithin m 1 100 = true then (if fWithin w 0 1 = true then true else false) else false) else false
def f_howR (vp : OV) (i d k m w : Int32) : Int32 := if fIn i (vp.2 10) = true then (if fIn d (vp.2 9) = true then (if okHow k m w = true then (if w = 0 then (f_how vp i d k m).1 else if (f_how vp i d k m).1 ≤ 0 then -4 else (f_how vp i d k m).2) else -1) else -1) else -1
def f_new (vp vn : OV) (d : Int32) : Int32 := if vp.2 10 ≤ 0 then 0 else f_X0_grudgesOfDoor vn vp d / vp.2 10
def s_frs (vp vn : OV) (k : Nat) (w : Int32) : Int32 := if f_new vp vn w ≤ f_new vp vn (nI (k + 1)) then w else nI (k + 1)
def f_freshR (vp vn : OV) (d : Int32) : Int32 := if d = -1 then (if d < 0 then itN (s_frs vp vn) 0 ((vp.2 9).toNatClampNeg - 1) else f_new vp vn d) else if fIn d (vp.2 9) = true then (if d < 0 then itN (s_frs vp vn) 0 ((vp.2 9).toNatClampNeg - 1) else f_new vp vn d) else -1
/-- going somewhere: the house and the row of ways -/
def goGo (vp : OV) (i r z : Int32) : Nat → OV × OV → OV × OV
  | 0, q => q
  | n + 1, q => if 0 ≤ f_X5_lowest (f_X5_measure q.2 vp q.1 i r 0) vp (rAt (q.1.1 3) 4 i) then goGo vp i r z n (f_X0_passThrough q.1 vp i (f_X5_lowest (f_X5_measure q.2 vp q.1 i r 0) vp (rAt (q.1.1 3) 4 i)) z, f_X5_measure q.2 vp q.1 i r 0)
    else (q.1, f_X5_measure q.2 vp q.1 i r 0)
def f_goTo (vp : OV) (i r z : Int32) (q : OV × OV) : OV × OV := goGo vp i r z 6 q
abbrev th_i (vp : OV) (x : Int32) : Int32 := x - x / vp.2 10 * vp.2 10
abbrev th_z (x : Int32) : Int32 := if x / 8 - x / 8 / 2 * 2 = 1 then 1 else 0
def f_there (vp : OV) (x : Int32) (q : OV × OV) : OV × OV := if 1 ≤ vp.2 10 then f_goTo vp (th_i vp x) (rAt (q.1.1 3) 4 (th_i vp x)) (th_z x) (f_goTo vp (th_i vp x) (rAt (vp.1 6) 4 (th_i vp x)) (th_z x) q) else q
theorem mk_eta {α β : Type} (p : α × β) : (p.1, p.2) = p := rfl
theorem there_eq {vp r y : OV} {x z : Int32} (h8 : 1 ≤ vp.2 10) (hz : th_z x = z) : f_there vp x (r, y) = f_goTo vp (x - x / vp.2 10 * vp.2 10) (rAt (r.1 3) 4 (x - x / vp.2 10 * vp.2 10)) z ((f_goTo vp (x - x / vp.2 10 * vp.2 10) (rAt (vp.1 6) 4 (x - x / vp.2 10 * vp.2 10)) z (r, y)).1, (f_goTo vp (x - x / vp.2 10 * vp.2 10) (rAt (vp.1 6) 4 (x - x / vp.2 10 * vp.2 10)) z (r, y)).2) := by
  subst hz
  rw [mk_eta, f_there, if_pos h8]
abbrev wk_x (z : Int32) (k : Nat) : Int64 := 7919 * z.toInt64 + 6151 * (nI k).toInt64 + 1
abbrev wk_d (z : Int32) (k : Nat) : Int32 := (wk_x z k * wk_x z k - wk_x z k * wk_x z k / 65521 * 65521).toInt32
def s_wkF (vp : OV) (z : Int32) (k : Nat) (q : OV × OV) : OV × OV := (f_X0_sleep (f_there vp (wk_d z k) q).1 vp, (f_there vp (wk_d z k) q).2)
def f_week (vp vn vr vy : OV) (z : Int32) (k : Nat) : OV × OV := itN (s_wkF vp z) (f_X0_become vr vn, vy) k
def okWeek (z n w : Int32) : Bool := if fWithin z 0 9999 = true then (if fWithin n 1 60 = true then (if fWithin w 0 1 = true then true else false) else false) else false
def f_weekR (vp vn vr vy : OV) (z n w : Int32) : Int32 := cnd (okWeek z n w) (if w = 0 then (f_week vp vn vr vy z n.toNatClampNeg).1.2 4 - vn.2 4 else f_X0_allGrudges (f_week vp vn vr vy z n.toNatClampNeg).1 vp) (-1)
def okKeep (n : Nat) : Bool := if nI n < 2 then true else false
def f_keepR (n : Nat) : Int32 := if nI n < 2 then nI (pushN 2 n) else -3
def f_backR (n : Nat) : Int32 := if popR n = 0 then -2 else nI (n - 1)
def f_backU (n nu : Nat) : Nat := if popR n = 0 then nu else 0
def f_count (vp vn vt : OV) (nu nk : Nat) (x : Int32) : Int32 := if x = 0 then vp.2 8 else if x = 1 then vp.2 9 else if x = 2 then vp.2 10 else if x = 3 then vn.2 4 else if x = 4 then vn.2 5 else if x = 5 then nI nu else if x = 6 then nI nk else if x = 7 then vt.2 3 else -1
abbrev byteC (x : Int64) (k : Nat) : Int32 := ((x.toUInt64 >>> (((8 * nI k : Int32) : Int32).toInt64.toUInt64 &&& Int64.toUInt64 63)).toInt64 : Int64).toInt32 &&& 255
def wr2Go (x : Int64) : Nat → OV → OV
  | 0, u => u
  | j + 1, u => wr2Go x j (f_X4_append u (byteC x j))
def okWr (vt : OV) (n : Int32) : Bool := if fWithin n 1 8 = true then (if vt.2 3 + n ≤ 300 then true else false) else false
def f_writeR (vt : OV) (n : Int32) (x : Int64) : Int32 := if fWithin n 1 8 = true then (if vt.2 3 + n ≤ 300 then (wr2Go x n.toNatClampNeg vt).2 3 else -3) else -1
def okLay (vt vd : OV) : Bool := if (f_X4_read vt vd).1 = -4 then (if f_X2_canStand (f_X4_read vt vd).2.2 = true then true else false) else false
def f_layR (vp vt vd : OV) : Int32 := if (f_X4_read vt vd).1 = -4 then (if f_X2_canStand (f_X4_read vt vd).2.2 = true then (f_X4_read vt vd).2.2.2 9 else -2) else -2
