/-! the blocks of the classes; the rows' functions; the small static methods -/
def bX0 (a : Nat → Nat) (G : GD) (v : OV) : va_W := [(a 0, .inr (0, [.ref (a 1), .ref (a 2), .ref (a 3), .ref (a 4), .int (v.2 4), .int (v.2 5)])), (a 1, .inl (G.2.1, 32, .inl (v.1 0))), (a 2, .inl (G.2.1, 8, .inl (v.1 1))), (a 3, .inl (G.2.1, 8, .inl (v.1 2))), (a 4, .inl (G.2.1, 4, .inl (v.1 3)))]
def bX2 (a : Nat → Nat) (G : GD) (v : OV) : va_W := [(a 0, .inr (2, [.ref (a 1), .ref (a 2), .ref (a 3), .ref (a 4), .ref (a 5), .ref (a 6), .ref (a 7), .ref (a 8), .int (v.2 8), .int (v.2 9), .int (v.2 10), .int (v.2 11), .int (v.2 12), .int (v.2 13), .int (v.2 14)])), (a 1, .inl (G.2.1, 8, .inl (v.1 0))), (a 2, .inl (G.2.1, 8, .inl (v.1 1))), (a 3, .inl (G.2.1, 8, .inl (v.1 2))), (a 4, .inl (G.2.1, 8, .inl (v.1 3))), (a 5, .inl (G.2.1, 4, .inl (v.1 4))), (a 6, .inl (G.2.1, 4, .inl (v.1 5))), (a 7, .inl (G.2.1, 4, .inl (v.1 6))), (a 8, .inl (G.2.1, 32, .inl (v.1 7)))]
def bX3 (a : Nat → Nat) (G : GD) (v : OV) : va_W := [(a 0, .inr (3, [.ref (a 1), .int (v.2 1), .int (v.2 2)])), (a 1, .inl (G.2.1, 24, .inl (v.1 0)))]
def bX4 (a : Nat → Nat) (G : GD) (v : OV) : va_W := [(a 0, .inr (4, [.ref (a 1), .ref (a 2), .int (v.2 2), .int (v.2 3)])), (a 1, .inl (G.2.1, 300, .inl (v.1 0))), (a 2, .inl (G.2.1, 3, .inl (v.1 1)))]
def bX5 (a : Nat → Nat) (G : GD) (v : OV) : va_W := [(a 0, .inr (5, [.ref (a 1), .ref (a 2)])), (a 1, .inl (G.2.1, 6, .inl (v.1 0))), (a 2, .inl (G.2.1, 8, .inl (v.1 1)))]
def bX7 (a : Nat → Nat) (G : GD) (v : OV) : va_W := [(a 0, .inr (7, [.int (v.2 0), .ref (a 1), .int (v.2 2), .ref (a 2), .ref (a 3), .ref (a 4), .ref (a 5), .ref (a 6), .ref (a 7), .ref (a 8), .ref (a 9), .int (v.2 11), .int (v.2 12), .ref (a 10), .ref (a 11), .ref (a 12), .ref (a 13), .int (v.2 17), .ref (a 14)])), (a 1, .inl (G.2.2.1, 300, .inl (v.1 1))), (a 2, .inl (G.2.1, 10, .inl (v.1 3))), (a 3, .inl (G.2.1, 2, .inl (v.1 4))), (a 4, .inl (G.2.1, 48, .inl (v.1 5))), (a 5, .inl (G.2.1, 16, .inl (v.1 6))), (a 6, .inl (G.2.1, 2, .inl (v.1 7))), (a 7, .inl (G.2.1, 24, .inl (v.1 8))), (a 8, .inl (G.2.1, 64, .inl (v.1 9))), (a 9, .inl (G.2.1, 552, .inl (v.1 10))), (a 10, .inl (G.2.1, 32, .inl (v.1 13))), (a 11, .inl (G.2.1, 6, .inl (v.1 14))), (a 12, .inl (G.2.1, 4, .inl (v.1 15))), (a 13, .inl (G.2.1, 4, .inl (v.1 16))), (a 14, .inl (G.2.1, 3, .inl (v.1 18)))]
theorem bX0_A0 (a : Nat → Nat) (G : GD) (v : OV) (g : Nat → Int32) : (bX0 a G v).set 1 (a 1, .inl (G.2.1, 32, .inl g)) = bX0 a G (setA v 0 g) := rfl
theorem bX0_A1 (a : Nat → Nat) (G : GD) (v : OV) (g : Nat → Int32) : (bX0 a G v).set 2 (a 2, .inl (G.2.1, 8, .inl g)) = bX0 a G (setA v 1 g) := rfl
theorem bX0_A2 (a : Nat → Nat) (G : GD) (v : OV) (g : Nat → Int32) : (bX0 a G v).set 3 (a 3, .inl (G.2.1, 8, .inl g)) = bX0 a G (setA v 2 g) := rfl
theorem bX0_A3 (a : Nat → Nat) (G : GD) (v : OV) (g : Nat → Int32) : (bX0 a G v).set 4 (a 4, .inl (G.2.1, 4, .inl g)) = bX0 a G (setA v 3 g) := rfl
theorem bX0_I4 (a : Nat → Nat) (G : GD) (v : OV) (x : Int32) : (bX0 a G v).set 0 (a 0, .inr (0, [.ref (a 1), .ref (a 2), .ref (a 3), .ref (a 4), .int (v.2 4), .int (v.2 5)].set 4 (.int x))) = bX0 a G (setI v 4 x) := rfl
theorem bX0_I5 (a : Nat → Nat) (G : GD) (v : OV) (x : Int32) : (bX0 a G v).set 0 (a 0, .inr (0, [.ref (a 1), .ref (a 2), .ref (a 3), .ref (a 4), .int (v.2 4), .int (v.2 5)].set 5 (.int x))) = bX0 a G (setI v 5 x) := rfl
theorem bX0_ad (a : Nat → Nat) (G : GD) (v w : OV) : (bX0 a G w).map Prod.fst = (bX0 a G v).map Prod.fst := rfl
theorem bX2_A0 (a : Nat → Nat) (G : GD) (v : OV) (g : Nat → Int32) : (bX2 a G v).set 1 (a 1, .inl (G.2.1, 8, .inl g)) = bX2 a G (setA v 0 g) := rfl
theorem bX2_A1 (a : Nat → Nat) (G : GD) (v : OV) (g : Nat → Int32) : (bX2 a G v).set 2 (a 2, .inl (G.2.1, 8, .inl g)) = bX2 a G (setA v 1 g) := rfl
theorem bX2_A2 (a : Nat → Nat) (G : GD) (v : OV) (g : Nat → Int32) : (bX2 a G v).set 3 (a 3, .inl (G.2.1, 8, .inl g)) = bX2 a G (setA v 2 g) := rfl
theorem bX2_A3 (a : Nat → Nat) (G : GD) (v : OV) (g : Nat → Int32) : (bX2 a G v).set 4 (a 4, .inl (G.2.1, 8, .inl g)) = bX2 a G (setA v 3 g) := rfl
theorem bX2_A4 (a : Nat → Nat) (G : GD) (v : OV) (g : Nat → Int32) : (bX2 a G v).set 5 (a 5, .inl (G.2.1, 4, .inl g)) = bX2 a G (setA v 4 g) := rfl
theorem bX2_A5 (a : Nat → Nat) (G : GD) (v : OV) (g : Nat → Int32) : (bX2 a G v).set 6 (a 6, .inl (G.2.1, 4, .inl g)) = bX2 a G (setA v 5 g) := rfl
theorem bX2_A6 (a : Nat → Nat) (G : GD) (v : OV) (g : Nat → Int32) : (bX2 a G v).set 7 (a 7, .inl (G.2.1, 4, .inl g)) = bX2 a G (setA v 6 g) := rfl
theorem bX2_A7 (a : Nat → Nat) (G : GD) (v : OV) (g : Nat → Int32) : (bX2 a G v).set 8 (a 8, .inl (G.2.1, 32, .inl g)) = bX2 a G (setA v 7 g) := rfl
theorem bX2_I8 (a : Nat → Nat) (G : GD) (v : OV) (x : Int32) : (bX2 a G v).set 0 (a 0, .inr (2, [.ref (a 1), .ref (a 2), .ref (a 3), .ref (a 4), .ref (a 5), .ref (a 6), .ref (a 7), .ref (a 8), .int (v.2 8), .int (v.2 9), .int (v.2 10), .int (v.2 11), .int (v.2 12), .int (v.2 13), .int (v.2 14)].set 8 (.int x))) = bX2 a G (setI v 8 x) := rfl
theorem bX2_I9 (a : Nat → Nat) (G : GD) (v : OV) (x : Int32) : (bX2 a G v).set 0 (a 0, .inr (2, [.ref (a 1), .ref (a 2), .ref (a 3), .ref (a 4), .ref (a 5), .ref (a 6), .ref (a 7), .ref (a 8), .int (v.2 8), .int (v.2 9), .int (v.2 10), .int (v.2 11), .int (v.2 12), .int (v.2 13), .int (v.2 14)].set 9 (.int x))) = bX2 a G (setI v 9 x) := rfl
theorem bX2_I10 (a : Nat → Nat) (G : GD) (v : OV) (x : Int32) : (bX2 a G v).set 0 (a 0, .inr (2, [.ref (a 1), .ref (a 2), .ref (a 3), .ref (a 4), .ref (a 5), .ref (a 6), .ref (a 7), .ref (a 8), .int (v.2 8), .int (v.2 9), .int (v.2 10), .int (v.2 11), .int (v.2 12), .int (v.2 13), .int (v.2 14)].set 10 (.int x))) = bX2 a G (setI v 10 x) := rfl
theorem bX2_I11 (a : Nat → Nat) (G : GD) (v : OV) (x : Int32) : (bX2 a G v).set 0 (a 0, .inr (2, [.ref (a 1), .ref (a 2), .ref (a 3), .ref (a 4), .ref (a 5), .ref (a 6), .ref (a 7), .ref (a 8), .int (v.2 8), .int (v.2 9), .int (v.2 10), .int (v.2 11), .int (v.2 12), .int (v.2 13), .int (v.2 14)].set 11 (.int x))) = bX2 a G (setI v 11 x) := rfl
theorem bX2_I12 (a : Nat → Nat) (G : GD) (v : OV) (x : Int32) : (bX2 a G v).set 0 (a 0, .inr (2, [.ref (a 1), .ref (a 2), .ref (a 3), .ref (a 4), .ref (a 5), .ref (a 6), .ref (a 7), .ref (a 8), .int (v.2 8), .int (v.2 9), .int (v.2 10), .int (v.2 11), .int (v.2 12), .int (v.2 13), .int (v.2 14)].set 12 (.int x))) = bX2 a G (setI v 12 x) := rfl
theorem bX2_I13 (a : Nat → Nat) (G : GD) (v : OV) (x : Int32) : (bX2 a G v).set 0 (a 0, .inr (2, [.ref (a 1), .ref (a 2), .ref (a 3), .ref (a 4), .ref (a 5), .ref (a 6), .ref (a 7), .ref (a 8), .int (v.2 8), .int (v.2 9), .int (v.2 10), .int (v.2 11), .int (v.2 12), .int (v.2 13), .int (v.2 14)].set 13 (.int x))) = bX2 a G (setI v 13 x) := rfl
theorem bX2_I14 (a : Nat → Nat) (G : GD) (v : OV) (x : Int32) : (bX2 a G v).set 0 (a 0, .inr (2, [.ref (a 1), .ref (a 2), .ref (a 3), .ref (a 4), .ref (a 5), .ref (a 6), .ref (a 7), .ref (a 8), .int (v.2 8), .int (v.2 9), .int (v.2 10), .int (v.2 11), .int (v.2 12), .int (v.2 13), .int (v.2 14)].set 14 (.int x))) = bX2 a G (setI v 14 x) := rfl
theorem bX2_ad (a : Nat → Nat) (G : GD) (v w : OV) : (bX2 a G w).map Prod.fst = (bX2 a G v).map Prod.fst := rfl
theorem bX3_A0 (a : Nat → Nat) (G : GD) (v : OV) (g : Nat → Int32) : (bX3 a G v).set 1 (a 1, .inl (G.2.1, 24, .inl g)) = bX3 a G (setA v 0 g) := rfl
theorem bX3_I1 (a : Nat → Nat) (G : GD) (v : OV) (x : Int32) : (bX3 a G v).set 0 (a 0, .inr (3, [.ref (a 1), .int (v.2 1), .int (v.2 2)].set 1 (.int x))) = bX3 a G (setI v 1 x) := rfl
theorem bX3_I2 (a : Nat → Nat) (G : GD) (v : OV) (x : Int32) : (bX3 a G v).set 0 (a 0, .inr (3, [.ref (a 1), .int (v.2 1), .int (v.2 2)].set 2 (.int x))) = bX3 a G (setI v 2 x) := rfl
theorem bX3_ad (a : Nat → Nat) (G : GD) (v w : OV) : (bX3 a G w).map Prod.fst = (bX3 a G v).map Prod.fst := rfl
theorem bX4_A0 (a : Nat → Nat) (G : GD) (v : OV) (g : Nat → Int32) : (bX4 a G v).set 1 (a 1, .inl (G.2.1, 300, .inl g)) = bX4 a G (setA v 0 g) := rfl
theorem bX4_A1 (a : Nat → Nat) (G : GD) (v : OV) (g : Nat → Int32) : (bX4 a G v).set 2 (a 2, .inl (G.2.1, 3, .inl g)) = bX4 a G (setA v 1 g) := rfl
theorem bX4_I2 (a : Nat → Nat) (G : GD) (v : OV) (x : Int32) : (bX4 a G v).set 0 (a 0, .inr (4, [.ref (a 1), .ref (a 2), .int (v.2 2), .int (v.2 3)].set 2 (.int x))) = bX4 a G (setI v 2 x) := rfl
theorem bX4_I3 (a : Nat → Nat) (G : GD) (v : OV) (x : Int32) : (bX4 a G v).set 0 (a 0, .inr (4, [.ref (a 1), .ref (a 2), .int (v.2 2), .int (v.2 3)].set 3 (.int x))) = bX4 a G (setI v 3 x) := rfl
theorem bX4_ad (a : Nat → Nat) (G : GD) (v w : OV) : (bX4 a G w).map Prod.fst = (bX4 a G v).map Prod.fst := rfl
theorem bX5_A0 (a : Nat → Nat) (G : GD) (v : OV) (g : Nat → Int32) : (bX5 a G v).set 1 (a 1, .inl (G.2.1, 6, .inl g)) = bX5 a G (setA v 0 g) := rfl
theorem bX5_A1 (a : Nat → Nat) (G : GD) (v : OV) (g : Nat → Int32) : (bX5 a G v).set 2 (a 2, .inl (G.2.1, 8, .inl g)) = bX5 a G (setA v 1 g) := rfl
theorem bX5_ad (a : Nat → Nat) (G : GD) (v w : OV) : (bX5 a G w).map Prod.fst = (bX5 a G v).map Prod.fst := rfl
theorem bX7_I0 (a : Nat → Nat) (G : GD) (v : OV) (x : Int32) : (bX7 a G v).set 0 (a 0, .inr (7, [.int (v.2 0), .ref (a 1), .int (v.2 2), .ref (a 2), .ref (a 3), .ref (a 4), .ref (a 5), .ref (a 6), .ref (a 7), .ref (a 8), .ref (a 9), .int (v.2 11), .int (v.2 12), .ref (a 10), .ref (a 11), .ref (a 12), .ref (a 13), .int (v.2 17), .ref (a 14)].set 0 (.int x))) = bX7 a G (setI v 0 x) := rfl
theorem bX7_A1 (a : Nat → Nat) (G : GD) (v : OV) (g : Nat → Int32) : (bX7 a G v).set 1 (a 1, .inl (G.2.2.1, 300, .inl g)) = bX7 a G (setA v 1 g) := rfl
theorem bX7_I2 (a : Nat → Nat) (G : GD) (v : OV) (x : Int32) : (bX7 a G v).set 0 (a 0, .inr (7, [.int (v.2 0), .ref (a 1), .int (v.2 2), .ref (a 2), .ref (a 3), .ref (a 4), .ref (a 5), .ref (a 6), .ref (a 7), .ref (a 8), .ref (a 9), .int (v.2 11), .int (v.2 12), .ref (a 10), .ref (a 11), .ref (a 12), .ref (a 13), .int (v.2 17), .ref (a 14)].set 2 (.int x))) = bX7 a G (setI v 2 x) := rfl
theorem bX7_A3 (a : Nat → Nat) (G : GD) (v : OV) (g : Nat → Int32) : (bX7 a G v).set 2 (a 2, .inl (G.2.1, 10, .inl g)) = bX7 a G (setA v 3 g) := rfl
theorem bX7_A4 (a : Nat → Nat) (G : GD) (v : OV) (g : Nat → Int32) : (bX7 a G v).set 3 (a 3, .inl (G.2.1, 2, .inl g)) = bX7 a G (setA v 4 g) := rfl
theorem bX7_A5 (a : Nat → Nat) (G : GD) (v : OV) (g : Nat → Int32) : (bX7 a G v).set 4 (a 4, .inl (G.2.1, 48, .inl g)) = bX7 a G (setA v 5 g) := rfl
theorem bX7_A6 (a : Nat → Nat) (G : GD) (v : OV) (g : Nat → Int32) : (bX7 a G v).set 5 (a 5, .inl (G.2.1, 16, .inl g)) = bX7 a G (setA v 6 g) := rfl
theorem bX7_A7 (a : Nat → Nat) (G : GD) (v : OV) (g : Nat → Int32) : (bX7 a G v).set 6 (a 6, .inl (G.2.1, 2, .inl g)) = bX7 a G (setA v 7 g) := rfl
theorem bX7_A8 (a : Nat → Nat) (G : GD) (v : OV) (g : Nat → Int32) : (bX7 a G v).set 7 (a 7, .inl (G.2.1, 24, .inl g)) = bX7 a G (setA v 8 g) := rfl
theorem bX7_A9 (a : Nat → Nat) (G : GD) (v : OV) (g : Nat → Int32) : (bX7 a G v).set 8 (a 8, .inl (G.2.1, 64, .inl g)) = bX7 a G (setA v 9 g) := rfl
theorem bX7_A10 (a : Nat → Nat) (G : GD) (v : OV) (g : Nat → Int32) : (bX7 a G v).set 9 (a 9, .inl (G.2.1, 552, .inl g)) = bX7 a G (setA v 10 g) := rfl
theorem bX7_I11 (a : Nat → Nat) (G : GD) (v : OV) (x : Int32) : (bX7 a G v).set 0 (a 0, .inr (7, [.int (v.2 0), .ref (a 1), .int (v.2 2), .ref (a 2), .ref (a 3), .ref (a 4), .ref (a 5), .ref (a 6), .ref (a 7), .ref (a 8), .ref (a 9), .int (v.2 11), .int (v.2 12), .ref (a 10), .ref (a 11), .ref (a 12), .ref (a 13), .int (v.2 17), .ref (a 14)].set 11 (.int x))) = bX7 a G (setI v 11 x) := rfl
theorem bX7_I12 (a : Nat → Nat) (G : GD) (v : OV) (x : Int32) : (bX7 a G v).set 0 (a 0, .inr (7, [.int (v.2 0), .ref (a 1), .int (v.2 2), .ref (a 2), .ref (a 3), .ref (a 4), .ref (a 5), .ref (a 6), .ref (a 7), .ref (a 8), .ref (a 9), .int (v.2 11), .int (v.2 12), .ref (a 10), .ref (a 11), .ref (a 12), .ref (a 13), .int (v.2 17), .ref (a 14)].set 12 (.int x))) = bX7 a G (setI v 12 x) := rfl
theorem bX7_A13 (a : Nat → Nat) (G : GD) (v : OV) (g : Nat → Int32) : (bX7 a G v).set 10 (a 10, .inl (G.2.1, 32, .inl g)) = bX7 a G (setA v 13 g) := rfl
theorem bX7_A14 (a : Nat → Nat) (G : GD) (v : OV) (g : Nat → Int32) : (bX7 a G v).set 11 (a 11, .inl (G.2.1, 6, .inl g)) = bX7 a G (setA v 14 g) := rfl
theorem bX7_A15 (a : Nat → Nat) (G : GD) (v : OV) (g : Nat → Int32) : (bX7 a G v).set 12 (a 12, .inl (G.2.1, 4, .inl g)) = bX7 a G (setA v 15 g) := rfl
theorem bX7_A16 (a : Nat → Nat) (G : GD) (v : OV) (g : Nat → Int32) : (bX7 a G v).set 13 (a 13, .inl (G.2.1, 4, .inl g)) = bX7 a G (setA v 16 g) := rfl
theorem bX7_I17 (a : Nat → Nat) (G : GD) (v : OV) (x : Int32) : (bX7 a G v).set 0 (a 0, .inr (7, [.int (v.2 0), .ref (a 1), .int (v.2 2), .ref (a 2), .ref (a 3), .ref (a 4), .ref (a 5), .ref (a 6), .ref (a 7), .ref (a 8), .ref (a 9), .int (v.2 11), .int (v.2 12), .ref (a 10), .ref (a 11), .ref (a 12), .ref (a 13), .int (v.2 17), .ref (a 14)].set 17 (.int x))) = bX7 a G (setI v 17 x) := rfl
theorem bX7_A18 (a : Nat → Nat) (G : GD) (v : OV) (g : Nat → Int32) : (bX7 a G v).set 14 (a 14, .inl (G.2.1, 3, .inl g)) = bX7 a G (setA v 18 g) := rfl
theorem bX7_ad (a : Nat → Nat) (G : GD) (v w : OV) : (bX7 a G w).map Prod.fst = (bX7 a G v).map Prod.fst := rfl
def bX6 (h r0 r1 r2 r3 r4 r5 r6 r7 r8 : Nat) : va_W := [(h, .inr (6, [.ref r0, .ref r1, .ref r2, .ref r3, .ref r4, .ref r5, .ref r6, .ref r7, .ref r8]))]
def b2i (b : Bool) : Int32 := if b = true then 1 else 0
theorem b2i_t : b2i true = 1 := rfl
theorem b2i_f : b2i false = 0 := rfl
theorem b2i_fN {b : Bool} (h : b2i b = 0) : ¬ b = true := by cases b <;> simp_all [b2i]
theorem b2i_tP {b : Bool} (h : ¬ b2i b = 0) : b = true := by cases b <;> simp_all [b2i]
theorem b2i_0 {b : Bool} : b2i b = 0 ↔ b = false := by cases b <;> simp [b2i]
def rAt (f : Nat → Int32) (n : Nat) (k : Int32) : Int32 := if k < 0 then 0 else if nI n ≤ k then 0 else f k.toNatClampNeg
def rPut (f : Nat → Int32) (n : Nat) (k x : Int32) : Nat → Int32 := if k < 0 then f else if nI n ≤ k then f else upd f k.toNatClampNeg x
def rFill (f : Nat → Int32) (x : Int32) (k : Nat) : Nat → Int32 := fun j => if j < k then x else f j
def rCopy (f g : Nat → Int32) (k : Nat) : Nat → Int32 := fun j => if j < k then f j else g j
def fWithin (a b c : Int32) : Bool := !(decide (a < b)) && !(decide (c < a))
def fHolds (a b : Int32) : Bool := decide ((a >>> (b &&& 31)) &&& 1 = 1)
def fWorn (a b : Int32) : Int32 := if 0 < a - b then a - b else 0
def fGrown (a b : Int32) : Int32 := if a + b < 99 then a + b else 99
theorem adc {b b' : va_W} {bs bs' : List va_W} (h : b'.map Prod.fst = b.map Prod.fst) (hs : (List.flatten bs').map Prod.fst = (List.flatten bs).map Prod.fst) : (List.flatten (b' :: bs')).map Prod.fst = (List.flatten (b :: bs)).map Prod.fst := by
  rw [List.flatten_cons, List.flatten_cons, List.map_append, List.map_append, h, hs]
theorem adn : (List.flatten ([] : List va_W)).map Prod.fst = (List.flatten ([] : List va_W)).map Prod.fst := rfl
theorem row_ad (a : Nat) (e e' : va_E) : List.map Prod.fst [(a, e)] = List.map Prod.fst [(a, e')] := rfl
theorem sameAd_nil : sameAd [] [] := trivial
theorem sameAd_cons {b b' : va_W} {bs bs' : List va_W} (h : b'.map Prod.fst = b.map Prod.fst) (hs : sameAd bs bs') : sameAd (b :: bs) (b' :: bs') := ⟨by rw [h], hs⟩
theorem D_re {A : Nat → Prop} {bs bs' : List va_W} (h : DD A bs) (he : (List.flatten bs').map Prod.fst = (List.flatten bs).map Prod.fst) : DD A bs' := D_perm h (by rw [he])
theorem vp_of {k : Int32} {n : Nat} (hn : n < 2 ^ 31) (h1 : ¬ k < 0) (h2 : ¬ nI n ≤ k) : vp_in k n := by
  rcases pk_ix k hn with h | h | ⟨j, hj, rfl⟩
  · exact absurd h h1
  · exact absurd h h2
  · exact vp_in_nI hj hn
theorem rFill_s {f : Nat → Int32} {x : Int32} {k : Nat} (hk : k < 2 ^ 31) : upd (rFill f x k) (nI k).toNatClampNeg x = rFill f x (k + 1) := by
  funext j
  rw [nI_clamp hk]
  simp only [upd, rFill]
  by_cases h1 : j = k
  · subst h1; simp
  · by_cases h2 : j < k
    · simp [h1, h2, Nat.lt_succ_of_lt h2]
    · have : ¬ j < k + 1 := by omega
      simp [h1, h2, this]
theorem rCopy_s {f g : Nat → Int32} {k : Nat} (hk : k < 2 ^ 31) : upd (rCopy f g k) (nI k).toNatClampNeg (f (nI k).toNatClampNeg) = rCopy f g (k + 1) := by
  funext j
  rw [nI_clamp hk]
  simp only [upd, rCopy]
  by_cases h1 : j = k
  · subst h1; simp
  · by_cases h2 : j < k
    · simp [h1, h2, Nat.lt_succ_of_lt h2]
    · have : ¬ j < k + 1 := by omega
      simp [h1, h2, this]
theorem itN_s {α : Type} (f : Nat → α → α) (s : α) (n : Nat) : itN f s (n + 1) = f n (itN f s n) := rfl
theorem lpx (n : Nat) : nI n ≤ nI n := Int32.le_refl _
theorem lpx_c (b : Int32) : b ≤ nI b.toNatClampNeg := by
  by_cases h : b < 0
  · have h1 : b.toInt < 0 := by simpa [Int32.lt_iff_toInt_lt] using h
    have h2 : b.toNatClampNeg = 0 := by
      show b.toInt.toNat = 0
      omega
    rw [h2, Int32.le_iff_toInt_le, nI_toInt (by decide)]
    simp only [Int.ofNat_zero]
    omega
  · obtain ⟨j, hj, rfl⟩ := nI_of h
    rw [nI_clamp hj]
    exact Int32.le_refl _
theorem lps_c {b : Int32} {k : Nat} (h : k < b.toNatClampNeg) : ¬ b ≤ nI k := by
  by_cases hb : b < 0
  · have h1 : b.toInt < 0 := by simpa [Int32.lt_iff_toInt_lt] using hb
    have h2 : b.toNatClampNeg = 0 := by
      show b.toInt.toNat = 0
      omega
    omega
  · obtain ⟨j, hj, rfl⟩ := nI_of hb
    rw [nI_clamp hj] at h
    exact nI_ge h hj
theorem cl_lt (b : Int32) : b.toNatClampNeg < 2 ^ 31 := by
  have := b.toInt_lt
  simp only [Int32.toNatClampNeg]
  omega
theorem nI_clx {k n : Nat} (h : k < n) (hn : n < 2 ^ 31) : (nI k).toNatClampNeg = k := nI_clamp (by omega)

def rm_X6_at : Room := { frames := 0, cells := 0, slots := 0, locals := 0 }
theorem hdS_X6_at : yX6_at.cls ≠ "java/lang/invoke/MethodHandle" ∧ yX6_at.cls ≠ "java/lang/invoke/VarHandle" ∧ (parseMethodDescriptor yX6_at.desc).map (fun d => d.parameters.length) = some 2 := by decide +kernel
set_option maxRecDepth 100000 in
set_option maxHeartbeats 4000000 in
theorem c_X6_at (l : Launch) (G : GD) (a nf : Nat) (f : Nat → Int32) (k : Int32) (hn : nf < 2 ^ 31) : MetP l yX6_at wsX6_at rm_X6_at G [[(a, .inl (G.2.1, nf, .inl f))]] [.ref a, .int k] (some (.int (rAt f nf k))) := by
  refine kb_beginP (cc := cX6_at) (maxL := 2) (ret := (some .int)) (by decide) rfl (Nat.le_of_ble_eq_true rfl) ?_
  intro p e s m below meth c hx hb hr hml hown hts hlocks hX hP ls hl
  have hown : s.vm.findClass RX6 = some m.cls := hown
  have hl : lv_has ls 2 [(0, .ref a), (1, .int k)] := hl
  refine lv_iload_n hx hb dX6_at_0 rfl (lv_at hl 1 rfl) ?_
  refine lv_if_lt (tgt := 16) hx hb dX6_at_1 (by decide) (fun c_1 => ?_) (fun c_1 => ?_)
  · refine lv_iconst (v := 0) hx hb dX6_at_16 (by decide) ?_
    exact kr_pi hx hb hr hlocks dX6_at_17 (by simp [rAt, c_1])
  · refine lv_iload_n hx hb dX6_at_4 rfl (lv_at hl 1 rfl) ?_
    refine lv_aload_n hx hb dX6_at_5 rfl (lv_at hl 0 rfl) ?_
    refine kb_alen (v := nI nf) hx hb hX hP 0 0 0 rfl rfl rfl rfl dX6_at_6 ?_
    refine lv_icmp_ge (tgt := 16) hx hb dX6_at_7 (by decide) (fun c_7 => ?_) (fun c_7 => ?_)
    · refine lv_iconst (v := 0) hx hb dX6_at_16 (by decide) ?_
      exact kr_pi hx hb hr hlocks dX6_at_17 (by simp [rAt, c_1, c_7])
    · refine lv_aload_n hx hb dX6_at_10 rfl (lv_at hl 0 rfl) ?_
      refine lv_iload_n hx hb dX6_at_11 rfl (lv_at hl 1 rfl) ?_
      refine kb_iald (n := nf) (f := f) hx hb hX hP 0 0 rfl rfl (vp_of hn c_1 c_7) dX6_at_12 ?_
      refine lv_goto (tgt := 17) hx hb dX6_at_13 (by decide) ?_
      exact kr_pi hx hb hr hlocks dX6_at_17 (by simp [rAt, c_1, c_7])

def rm_X6_put : Room := { frames := 0, cells := 0, slots := 0, locals := 0 }
theorem hdS_X6_put : yX6_put.cls ≠ "java/lang/invoke/MethodHandle" ∧ yX6_put.cls ≠ "java/lang/invoke/VarHandle" ∧ (parseMethodDescriptor yX6_put.desc).map (fun d => d.parameters.length) = some 3 := by decide +kernel
set_option maxRecDepth 100000 in
set_option maxHeartbeats 4000000 in
theorem c_X6_put (l : Launch) (G : GD) (a nf : Nat) (f : Nat → Int32) (k : Int32) (x : Int32) (hn : nf < 2 ^ 31) : MetS l yX6_put wsX6_put rm_X6_put G [[(a, .inl (G.2.1, nf, .inl f))]] [.ref a, .int k, .int x] (fun r bc => r = none ∧ bc = [[(a, .inl (G.2.1, nf, .inl (rPut f nf k x)))]]) := by
  refine kb_beginS (cc := cX6_put) (maxL := 3) (ret := none) (by decide) rfl (Nat.le_of_ble_eq_true rfl) ?_
  intro p e s m below meth c hx hb hr hml hown hts hlocks hX H locs hP hD hS ls hl
  have hown : s.vm.findClass RX6 = some m.cls := hown
  have hl : lv_has ls 3 [(0, .ref a), (1, .int k), (2, .int x)] := hl
  refine lv_iload_n hx hb dX6_put_0 rfl (lv_at hl 1 rfl) ?_
  refine lv_if_lt (tgt := 14) hx hb dX6_put_1 (by decide) (fun c_1 => ?_) (fun c_1 => ?_)
  · have hP : PP G [[(a, .inl (G.2.1, nf, .inl (rPut f nf k x)))]] H := by
      have e : rPut f nf k x = f := by simp [rPut, c_1]
      rw [e]
      exact hP
    exact kr_sv hx hb hr hlocks dX6_put_14 hP hS (sameAd_cons (row_ad _ _ _) sameAd_nil) ⟨rfl, rfl⟩
  · refine lv_iload_n hx hb dX6_put_4 rfl (lv_at hl 1 rfl) ?_
    refine lv_aload_n hx hb dX6_put_5 rfl (lv_at hl 0 rfl) ?_
    refine kb_alen (v := nI nf) hx hb hX hP 0 0 0 rfl rfl rfl rfl dX6_put_6 ?_
    refine lv_icmp_ge (tgt := 14) hx hb dX6_put_7 (by decide) (fun c_7 => ?_) (fun c_7 => ?_)
    · have hP : PP G [[(a, .inl (G.2.1, nf, .inl (rPut f nf k x)))]] H := by
        have e : rPut f nf k x = f := by simp [rPut, c_1, c_7]
        rw [e]
        exact hP
      exact kr_sv hx hb hr hlocks dX6_put_14 hP hS (sameAd_cons (row_ad _ _ _) sameAd_nil) ⟨rfl, rfl⟩
    · refine lv_aload_n hx hb dX6_put_10 rfl (lv_at hl 0 rfl) ?_
      refine lv_iload_n hx hb dX6_put_11 rfl (lv_at hl 1 rfl) ?_
      refine lv_iload_n hx hb dX6_put_12 rfl (lv_at hl 2 rfl) ?_
      refine kb_iast (n := nf) (f := f) hx hb hX hP hD hS 0 0 rfl rfl (vp_of hn c_1 c_7) dX6_put_13 rfl (fun H locs hP hD hS => ?_)
      have hP : PP G [[(a, .inl (G.2.1, nf, .inl (upd f k.toNatClampNeg x)))]] H := hP
      have hD : DD (AA (List.flatten [[(a, .inl (G.2.1, nf, .inl f))]])) [[(a, .inl (G.2.1, nf, .inl (upd f k.toNatClampNeg x)))]] := D_re hD (adc (row_ad _ _ _) adn)
      have hP : PP G [[(a, .inl (G.2.1, nf, .inl (rPut f nf k x)))]] H := by
        have e : rPut f nf k x = upd f k.toNatClampNeg x := by simp [rPut, c_1, c_7]
        rw [e]
        exact hP
      exact kr_sv hx hb hr hlocks dX6_put_14 hP hS (sameAd_cons (row_ad _ _ _) sameAd_nil) ⟨rfl, rfl⟩

def rm_X6_fill : Room := { frames := 0, cells := 0, slots := 0, locals := 0 }
theorem hdS_X6_fill : yX6_fill.cls ≠ "java/lang/invoke/MethodHandle" ∧ yX6_fill.cls ≠ "java/lang/invoke/VarHandle" ∧ (parseMethodDescriptor yX6_fill.desc).map (fun d => d.parameters.length) = some 2 := by decide +kernel
set_option maxRecDepth 100000 in
set_option maxHeartbeats 4000000 in
theorem c_X6_fill (l : Launch) (G : GD) (a nf : Nat) (f : Nat → Int32) (x : Int32) (hn : nf < 2 ^ 31) : MetS l yX6_fill wsX6_fill rm_X6_fill G [[(a, .inl (G.2.1, nf, .inl f))]] [.ref a, .int x] (fun r bc => r = none ∧ bc = [[(a, .inl (G.2.1, nf, .inl (rFill f x nf)))]]) := by
  refine kb_beginS (cc := cX6_fill) (maxL := 3) (ret := none) (by decide) rfl (Nat.le_of_ble_eq_true rfl) ?_
  intro p e s m below meth c hx hb hr hml hown hts hlocks hX H locs hP hD hS ls hl
  have hown : s.vm.findClass RX6 = some m.cls := hown
  have hl : lv_has ls 3 [(0, .ref a), (1, .int x)] := hl
  refine lv_iconst (v := 0) hx hb dX6_fill_0 (by decide) ?_
  refine lv_istore_n (lv' := [(2, .int 0), (0, .ref a), (1, .int x)]) hx hb dX6_fill_1 rfl hl (by decide) rfl (fun ls hl => ?_)
  refine lp_up (N := nf) (P := fun k => ∀ (H : Heap) (locs : List Loc) (ls : Array Slot), PP G [[(a, .inl (G.2.1, nf, .inl (rFill f x k)))]] H → DD (AA (List.flatten [[(a, .inl (G.2.1, nf, .inl f))]])) [[(a, .inl (G.2.1, nf, .inl (rFill f x k)))]] → va_S (AA (List.flatten [[(a, .inl (G.2.1, nf, .inl f))]])) s.heap H locs → lv_has ls 3 [(2, .int (nI k)), (0, .ref a), (1, .int x)] →  W p l e (headSpec wsX6_fill rm_X6_fill).room s m ([.ref a, .int x] : List Value).toArray below meth c H locs 0 0 (MQ below (kQs G [[(a, .inl (G.2.1, nf, .inl f))]] (fun r bc => r = none ∧ bc = [[(a, .inl (G.2.1, nf, .inl (rFill f x nf)))]])) ([.ref a, .int x] : List Value).toArray s 0 0 (AA (List.flatten [[(a, .inl (G.2.1, nf, .inl f))]]))) (F0 m 2 ls [])) ?_ ?_ 0 (Nat.zero_le _)  _ _ _ hP hD hS (lv_sub hl [0, 1, 2] rfl) 
  · skip
    intro H locs ls hP hD hS hl 
    refine lv_iload_n hx hb dX6_fill_2 rfl (lv_at hl 0 rfl) ?_
    refine lv_aload_n hx hb dX6_fill_3 rfl (lv_at hl 1 rfl) ?_
    refine kb_alen (v := nI nf) hx hb hX hP 0 0 0 rfl rfl rfl rfl dX6_fill_4 ?_
    refine lv_icmp_ge (tgt := 18) hx hb dX6_fill_5 (by decide) (fun c_5 => ?_) (fun c_5 => absurd (lpx _) c_5)
    have hP : PP G [[(a, .inl (G.2.1, nf, .inl (rFill f x nf)))]] H := hP
    exact kr_sv hx hb hr hlocks dX6_fill_18 hP hS (sameAd_cons (row_ad _ _ _) sameAd_nil) ⟨rfl, rfl⟩
  · skip
    intro k hk_k ih_2 H locs ls hP hD hS hl 
    refine lv_iload_n hx hb dX6_fill_2 rfl (lv_at hl 0 rfl) ?_
    refine lv_aload_n hx hb dX6_fill_3 rfl (lv_at hl 1 rfl) ?_
    refine kb_alen (v := nI nf) hx hb hX hP 0 0 0 rfl rfl rfl rfl dX6_fill_4 ?_
    refine lv_icmp_ge (tgt := 18) hx hb dX6_fill_5 (by decide) (fun c_5 => absurd c_5 (nI_ge hk_k hn)) (fun c_5 => ?_)
    refine lv_aload_n hx hb dX6_fill_8 rfl (lv_at hl 1 rfl) ?_
    refine lv_iload_n hx hb dX6_fill_9 rfl (lv_at hl 0 rfl) ?_
    refine lv_iload_n hx hb dX6_fill_10 rfl (lv_at hl 2 rfl) ?_
    refine kb_iast (n := nf) (f := rFill f x k) hx hb hX hP hD hS 0 0 rfl rfl (vp_in_nI hk_k hn) dX6_fill_11 rfl (fun H locs hP hD hS => ?_)
    have hP : PP G [[(a, .inl (G.2.1, nf, .inl (upd (rFill f x k) (nI k).toNatClampNeg x)))]] H := hP
    have hD : DD (AA (List.flatten [[(a, .inl (G.2.1, nf, .inl f))]])) [[(a, .inl (G.2.1, nf, .inl (upd (rFill f x k) (nI k).toNatClampNeg x)))]] := D_re hD (adc (row_ad _ _ _) adn)
    refine lv_iinc (v := nI (k + 1)) (lv' := [(2, .int (nI (k + 1))), (0, .ref a), (1, .int x)]) hx hb dX6_fill_12 hl (k := 0) rfl (nI_1 _) (by decide) rfl (fun ls hl => ?_)
    refine lv_goto (tgt := 2) hx hb dX6_fill_15 (by decide) ?_
    have hP : PP G [[(a, .inl (G.2.1, nf, .inl (rFill f x (k + 1))))]] H := by
      rw [← rFill_s (show k < 2 ^ 31 by omega)]
      exact hP
    have hD : DD (AA (List.flatten [[(a, .inl (G.2.1, nf, .inl f))]])) [[(a, .inl (G.2.1, nf, .inl (rFill f x (k + 1))))]] := D_re hD (adc (row_ad _ _ _) adn)
    exact ih_2  _ _ _ hP hD hS (show lv_has ls 3 [(2, .int (nI (k + 1))), (0, .ref a), (1, .int x)] from lv_sub hl [0, 1, 2] rfl) 

def rm_X6_within : Room := { frames := 0, cells := 0, slots := 0, locals := 0 }
theorem hdS_X6_within : yX6_within.cls ≠ "java/lang/invoke/MethodHandle" ∧ yX6_within.cls ≠ "java/lang/invoke/VarHandle" ∧ (parseMethodDescriptor yX6_within.desc).map (fun d => d.parameters.length) = some 3 := by decide +kernel
set_option maxRecDepth 100000 in
set_option maxHeartbeats 4000000 in
theorem c_X6_within (l : Launch) (G : GD) (x1 : Int32) (x2 : Int32) (x3 : Int32)  : MetP l yX6_within wsX6_within rm_X6_within G [] [.int x1, .int x2, .int x3] (some (.int (b2i (fWithin x1 x2 x3)))) := by
  refine kb_beginP (cc := cX6_within) (maxL := 3) (ret := (some .boolean)) (by decide) rfl (Nat.le_of_ble_eq_true rfl) ?_
  intro p e s m below meth c hx hb hr hml hown hts hlocks hX hP ls hl
  have hown : s.vm.findClass RX6 = some m.cls := hown
  have hl : lv_has ls 3 [(0, .int x1), (1, .int x2), (2, .int x3)] := hl
  refine lv_iload_n hx hb dX6_within_0 rfl (lv_at hl 0 rfl) ?_
  refine lv_iload_n hx hb dX6_within_1 rfl (lv_at hl 1 rfl) ?_
  refine lv_icmp_lt (tgt := 14) hx hb dX6_within_2 (by decide) (fun c_2 => ?_) (fun c_2 => ?_)
  · refine lv_iconst (v := 0) hx hb dX6_within_14 (by decide) ?_
    exact kr_pz hx hb hr hlocks dX6_within_15 rfl (by simp [fWithin, b2i, c_2])
  · refine lv_iload_n hx hb dX6_within_5 rfl (lv_at hl 0 rfl) ?_
    refine lv_iload_n hx hb dX6_within_6 rfl (lv_at hl 2 rfl) ?_
    refine lv_icmp_gt (tgt := 14) hx hb dX6_within_7 (by decide) (fun c_7 => ?_) (fun c_7 => ?_)
    · refine lv_iconst (v := 0) hx hb dX6_within_14 (by decide) ?_
      exact kr_pz hx hb hr hlocks dX6_within_15 rfl (by simp [fWithin, b2i, c_2, c_7])
    · refine lv_iconst (v := 1) hx hb dX6_within_10 (by decide) ?_
      refine lv_goto (tgt := 15) hx hb dX6_within_11 (by decide) ?_
      exact kr_pz hx hb hr hlocks dX6_within_15 rfl (by simp [fWithin, b2i, c_2, c_7])

def rm_X6_holds : Room := { frames := 0, cells := 0, slots := 0, locals := 0 }
theorem hdS_X6_holds : yX6_holds.cls ≠ "java/lang/invoke/MethodHandle" ∧ yX6_holds.cls ≠ "java/lang/invoke/VarHandle" ∧ (parseMethodDescriptor yX6_holds.desc).map (fun d => d.parameters.length) = some 2 := by decide +kernel
set_option maxRecDepth 100000 in
set_option maxHeartbeats 4000000 in
theorem c_X6_holds (l : Launch) (G : GD) (x1 : Int32) (x2 : Int32)  : MetP l yX6_holds wsX6_holds rm_X6_holds G [] [.int x1, .int x2] (some (.int (b2i (fHolds x1 x2)))) := by
  refine kb_beginP (cc := cX6_holds) (maxL := 2) (ret := (some .boolean)) (by decide) rfl (Nat.le_of_ble_eq_true rfl) ?_
  intro p e s m below meth c hx hb hr hml hown hts hlocks hX hP ls hl
  have hown : s.vm.findClass RX6 = some m.cls := hown
  have hl : lv_has ls 2 [(0, .int x1), (1, .int x2)] := hl
  refine lv_iload_n hx hb dX6_holds_0 rfl (lv_at hl 0 rfl) ?_
  refine lv_iload_n hx hb dX6_holds_1 rfl (lv_at hl 1 rfl) ?_
  refine lv_ishr hx hb dX6_holds_2 ?_
  refine lv_iconst (v := 1) hx hb dX6_holds_3 (by decide) ?_
  refine lv_iand hx hb dX6_holds_4 ?_
  refine lv_iconst (v := 1) hx hb dX6_holds_5 (by decide) ?_
  refine lv_icmp_ne (tgt := 13) hx hb dX6_holds_6 (by decide) (fun c_6 => ?_) (fun c_6 => ?_)
  · refine lv_iconst (v := 0) hx hb dX6_holds_13 (by decide) ?_
    exact kr_pz hx hb hr hlocks dX6_holds_14 rfl (by simp [fHolds, b2i, c_6])
  · refine lv_iconst (v := 1) hx hb dX6_holds_9 (by decide) ?_
    refine lv_goto (tgt := 14) hx hb dX6_holds_10 (by decide) ?_
    exact kr_pz hx hb hr hlocks dX6_holds_14 rfl (by simp [fHolds, b2i, c_6])

def rm_X6_worn : Room := { frames := 1, cells := 0, slots := 0, locals := 13 }
theorem hdS_X6_worn : yX6_worn.cls ≠ "java/lang/invoke/MethodHandle" ∧ yX6_worn.cls ≠ "java/lang/invoke/VarHandle" ∧ (parseMethodDescriptor yX6_worn.desc).map (fun d => d.parameters.length) = some 2 := by decide +kernel
set_option maxRecDepth 100000 in
set_option maxHeartbeats 4000000 in
theorem c_X6_worn (l : Launch) (G : GD) (x1 : Int32) (x2 : Int32)  : MetP l yX6_worn wsX6_worn rm_X6_worn G [] [.int x1, .int x2] (some (.int (fWorn x1 x2))) := by
  refine kb_beginP (cc := cX6_worn) (maxL := 2) (ret := (some .int)) (by decide) rfl (Nat.le_of_ble_eq_true rfl) ?_
  intro p e s m below meth c hx hb hr hml hown hts hlocks hX hP ls hl
  have hown : s.vm.findClass RX6 = some m.cls := hown
  have hl : lv_has ls 2 [(0, .int x1), (1, .int x2)] := hl
  refine lv_iconst (v := 0) hx hb dX6_worn_0 (by decide) ?_
  refine lv_iload_n hx hb dX6_worn_1 rfl (lv_at hl 0 rfl) ?_
  refine lv_iload_n hx hb dX6_worn_2 rfl (lv_at hl 1 rfl) ?_
  refine lv_isub hx hb dX6_worn_3 ?_
  refine va_mmax hx hb (hml.trans hl.1.symm) hown (hts (.methodLink RX6 262 Lib.Math.max.name) (by decide +kernel)) (hts (.static Lib.Math.max.name) (by decide +kernel)) (hts (.initialized "java/lang/Math") (by decide +kernel)) (hts (.code Lib.Math.max.name Lib.Math.max.code 2 (some .int)) (by decide +kernel)) (Nat.le_of_ble_eq_true rfl) (Nat.le_of_ble_eq_true rfl) (Nat.zero_le _) (Nat.zero_le _) dX6_worn_4 ?_
  exact kr_pi hx hb hr hlocks dX6_worn_7 (by rfl)

def rm_X6_grown : Room := { frames := 1, cells := 0, slots := 0, locals := 13 }
theorem hdS_X6_grown : yX6_grown.cls ≠ "java/lang/invoke/MethodHandle" ∧ yX6_grown.cls ≠ "java/lang/invoke/VarHandle" ∧ (parseMethodDescriptor yX6_grown.desc).map (fun d => d.parameters.length) = some 2 := by decide +kernel
set_option maxRecDepth 100000 in
set_option maxHeartbeats 4000000 in
theorem c_X6_grown (l : Launch) (G : GD) (x1 : Int32) (x2 : Int32)  : MetP l yX6_grown wsX6_grown rm_X6_grown G [] [.int x1, .int x2] (some (.int (fGrown x1 x2))) := by
  refine kb_beginP (cc := cX6_grown) (maxL := 2) (ret := (some .int)) (by decide) rfl (Nat.le_of_ble_eq_true rfl) ?_
  intro p e s m below meth c hx hb hr hml hown hts hlocks hX hP ls hl
  have hown : s.vm.findClass RX6 = some m.cls := hown
  have hl : lv_has ls 2 [(0, .int x1), (1, .int x2)] := hl
  refine lv_bipush (v := 99) hx hb dX6_grown_0 (by decide) ?_
  refine lv_iload_n hx hb dX6_grown_2 rfl (lv_at hl 0 rfl) ?_
  refine lv_iload_n hx hb dX6_grown_3 rfl (lv_at hl 1 rfl) ?_
  refine lv_iadd hx hb dX6_grown_4 ?_
  refine va_mmin hx hb (hml.trans hl.1.symm) hown (hts (.methodLink RX6 226 Lib.Math.min.name) (by decide +kernel)) (hts (.static Lib.Math.min.name) (by decide +kernel)) (hts (.initialized "java/lang/Math") (by decide +kernel)) (hts (.code Lib.Math.min.name Lib.Math.min.code 2 (some .int)) (by decide +kernel)) (Nat.le_of_ble_eq_true rfl) (Nat.le_of_ble_eq_true rfl) (Nat.zero_le _) (Nat.zero_le _) dX6_grown_5 ?_
  exact kr_pi hx hb hr hlocks dX6_grown_8 (by rfl)

def rm_X6_copy : Room := { frames := 0, cells := 0, slots := 0, locals := 0 }
theorem hdS_X6_copy : yX6_copy.cls ≠ "java/lang/invoke/MethodHandle" ∧ yX6_copy.cls ≠ "java/lang/invoke/VarHandle" ∧ (parseMethodDescriptor yX6_copy.desc).map (fun d => d.parameters.length) = some 2 := by decide +kernel
set_option maxRecDepth 100000 in
set_option maxHeartbeats 4000000 in
theorem c_X6_copy (l : Launch) (G : GD) (a nf : Nat) (f : Nat → Int32) (b ng : Nat) (g : Nat → Int32) (hn : ng < 2 ^ 31) (he : nf = ng) : Met l yX6_copy wsX6_copy rm_X6_copy (kPc2 G (a, .inl (G.2.1, nf, .inl f)) (b, .inl (G.2.1, ng, .inl g)) [.ref a, .ref b]) (kQs G [[(b, .inl (G.2.1, ng, .inl g))]] (fun r bc => r = none ∧ bc = [[(b, .inl (G.2.1, ng, .inl (rCopy f g ng)))]])) 0 0 (AA (List.flatten [[(b, .inl (G.2.1, ng, .inl g))]])) := by
  subst he
  refine Met.ofW (cc := cX6_copy) (maxL := 3) (ret := none) (by decide) rfl ?_
  intro p e s m args below meth c s₁ B hml hv
  obtain ⟨rfl, hP, hX, hne⟩ := hv
  have hx := B.exec
  have hb := B.bytes
  have hr := B.returns
  have hlocks := B.notSynchronized
  have hf0 := (P_iff.mp hP) (a, .inl (G.2.1, nf, .inl f)) (by simp)
  have hg0 := (P_iff.mp hP) (b, .inl (G.2.1, nf, .inl g)) (by simp)
  have hP0 : PP G [[(b, .inl (G.2.1, nf, .inl g))]] s.heap := by
    refine P_iff.mpr ?_
    intro q hq
    have h2 : q = (b, .inl (G.2.1, nf, .inl g)) := by simpa using hq
    subst h2
    exact hg0
  have hD0 : DD (AA (List.flatten [[(b, .inl (G.2.1, nf, .inl g))]])) [[(b, .inl (G.2.1, nf, .inl g))]] := by
    exact D_iff.mpr ⟨by simp, fun q hq => hq⟩
  have hnA : ¬ AA (List.flatten [[(b, .inl (G.2.1, nf, .inl g))]]) a := by
    intro h
    have h2 : a = b := by simpa [AA] using h
    exact hne h2
  have hPf : ∀ (H : Heap) (locs : List Loc), va_S (AA (List.flatten [[(b, .inl (G.2.1, nf, .inl g))]])) s.heap H locs → PP G [[(a, .inl (G.2.1, nf, .inl f))]] H := by
    intro H locs hS
    refine P_iff.mpr ?_
    intro q hq
    have h2 : q = (a, .inl (G.2.1, nf, .inl f)) := by simpa using hq
    subst h2
    exact hf0.kept (hS.2.1 a hf0.lt hnA)
  have key : ∀ (ls : Array Slot), lv_has ls 3 [(0, .ref a), (1, .ref b)] → W p l e (headSpec wsX6_copy rm_X6_copy).room s m ([.ref a, .ref b] : List Value).toArray below meth c s.heap [] 0 0 (MQ below (kQs G [[(b, .inl (G.2.1, nf, .inl g))]] (fun r bc => r = none ∧ bc = [[(b, .inl (G.2.1, nf, .inl (rCopy f g nf)))]])) ([.ref a, .ref b] : List Value).toArray s 0 0 (AA (List.flatten [[(b, .inl (G.2.1, nf, .inl g))]]))) (F0 m 0 ls []) := by
    intro ls hl
    refine lv_iconst (v := 0) hx hb dX6_copy_0 (by decide) ?_
    refine lv_istore_n (lv' := [(2, .int 0), (0, .ref a), (1, .ref b)]) hx hb dX6_copy_1 rfl hl (by decide) rfl (fun ls hl => ?_)
    refine lp_up (N := nf) (P := fun k => ∀ (H : Heap) (locs : List Loc) (ls : Array Slot), PP G [[(b, .inl (G.2.1, nf, .inl (rCopy f g k)))]] H → DD (AA (List.flatten [[(b, .inl (G.2.1, nf, .inl g))]])) [[(b, .inl (G.2.1, nf, .inl (rCopy f g k)))]] → va_S (AA (List.flatten [[(b, .inl (G.2.1, nf, .inl g))]])) s.heap H locs → lv_has ls 3 [(2, .int (nI k)), (0, .ref a), (1, .ref b)] → W p l e (headSpec wsX6_copy rm_X6_copy).room s m ([.ref a, .ref b] : List Value).toArray below meth c H locs 0 0 (MQ below (kQs G [[(b, .inl (G.2.1, nf, .inl g))]] (fun r bc => r = none ∧ bc = [[(b, .inl (G.2.1, nf, .inl (rCopy f g nf)))]])) ([.ref a, .ref b] : List Value).toArray s 0 0 (AA (List.flatten [[(b, .inl (G.2.1, nf, .inl g))]]))) (F0 m 2 ls [])) ?_ ?_ 0 (Nat.zero_le _) _ _ _ hP0 hD0 va_S.rf (lv_sub hl [0, 1, 2] rfl)
    · intro H locs ls hP hD hS hl
      refine lv_iload_n hx hb dX6_copy_2 rfl (lv_at hl 0 rfl) ?_
      refine lv_aload_n hx hb dX6_copy_3 rfl (lv_at hl 1 rfl) ?_
      refine kb_alen (v := nI nf) hx hb hX (hPf H locs hS) 0 0 0 rfl rfl rfl rfl dX6_copy_4 ?_
      refine lv_icmp_ge (tgt := 26) hx hb dX6_copy_5 (by decide) (fun c_5 => ?_) (fun c_5 => absurd (lpx _) c_5)
      exact kr_sv hx hb hr hlocks dX6_copy_26 hP hS (sameAd_rf rfl) ⟨rfl, rfl⟩
    · intro k hk ih H locs ls hP hD hS hl
      refine lv_iload_n hx hb dX6_copy_2 rfl (lv_at hl 0 rfl) ?_
      refine lv_aload_n hx hb dX6_copy_3 rfl (lv_at hl 1 rfl) ?_
      refine kb_alen (v := nI nf) hx hb hX (hPf H locs hS) 0 0 0 rfl rfl rfl rfl dX6_copy_4 ?_
      refine lv_icmp_ge (tgt := 26) hx hb dX6_copy_5 (by decide) (fun c_5 => absurd c_5 (nI_ge hk hn)) (fun c_5 => ?_)
      refine lv_iload_n hx hb dX6_copy_8 rfl (lv_at hl 0 rfl) ?_
      refine lv_aload_n hx hb dX6_copy_9 rfl (lv_at hl 2 rfl) ?_
      refine kb_alen (v := nI nf) hx hb hX hP 0 0 0 rfl rfl rfl rfl dX6_copy_10 ?_
      refine lv_icmp_ge (tgt := 26) hx hb dX6_copy_11 (by decide) (fun c_5 => absurd c_5 (nI_ge hk hn)) (fun c_5 => ?_)
      refine lv_aload_n hx hb dX6_copy_14 rfl (lv_at hl 2 rfl) ?_
      refine lv_iload_n hx hb dX6_copy_15 rfl (lv_at hl 0 rfl) ?_
      refine lv_aload_n hx hb dX6_copy_16 rfl (lv_at hl 1 rfl) ?_
      refine lv_iload_n hx hb dX6_copy_17 rfl (lv_at hl 0 rfl) ?_
      refine kb_iald (n := nf) (f := f) hx hb hX (hPf H locs hS) 0 0 rfl rfl (vp_in_nI hk hn) dX6_copy_18 ?_
      refine kb_iast (n := nf) (f := rCopy f g k) hx hb hX hP hD hS 0 0 rfl rfl (vp_in_nI hk hn) dX6_copy_19 rfl (fun H locs hP hD hS => ?_)
      have hP : PP G [[(b, .inl (G.2.1, nf, .inl (rCopy f g (k + 1))))]] H := by
        rw [← rCopy_s (show k < 2 ^ 31 by omega)]
        exact hP
      have hD : DD (AA (List.flatten [[(b, .inl (G.2.1, nf, .inl g))]])) [[(b, .inl (G.2.1, nf, .inl (rCopy f g (k + 1))))]] := D_re hD (adc (row_ad _ _ _) adn)
      refine lv_iinc (v := nI (k + 1)) (lv' := [(2, .int (nI (k + 1))), (0, .ref a), (1, .ref b)]) hx hb dX6_copy_20 hl (k := 0) rfl (nI_1 _) (by decide) rfl (fun ls hl => ?_)
      refine lv_goto (tgt := 2) hx hb dX6_copy_23 (by decide) ?_
      exact ih _ _ _ hP hD hS hl
  have hl := lv_entry ([.ref a, .ref b] : List Value) (n := 3) (Nat.le_of_ble_eq_true rfl)
  rw [lg_entry_eq]
  exact key _ hl
