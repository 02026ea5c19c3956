/-! the reference: rows by places that are Nat; its reading methods -/
section KN
variable {p : Program} {l : Launch} {e : Env} {R : Room} {s : State} {m : MethodId} {args : Array Value} {below : List Frame} {meth : Method} {c : Code} {H : Heap} {locs : List Loc} {cells slots : Nat} {Q : State → Prop}
variable {cc : ByteArray} {pc : Nat} {ls : Array Slot} {rest : List Value} {G : GD} {A : Nat → Prop} {a : Nat} {bs : List va_W} {H0 : Heap}
theorem kb_rw {x y : Int32} (h : x = y) (k : W p l e R s m args below meth c H locs cells slots Q (F0 m pc ls (.int y :: rest))) : W p l e R s m args below meth c H locs cells slots Q (F0 m pc ls (.int x :: rest)) := by
  subst h
  exact k
theorem kb_nat {x : Int32} (h : ¬ x < 0) (k : W p l e R s m args below meth c H locs cells slots Q (F0 m pc ls (.int (nI x.toNatClampNeg) :: rest))) : W p l e R s m args below meth c H locs cells slots Q (F0 m pc ls (.int x :: rest)) := by
  rw [nI_cl h] at k
  exact k
theorem kb_ialdN (hx : p.tables.exec = Jvm.exec) (hb : c.code = cc) (hX : CX G s) (hP : va_P G.1 vwCl bs.flatten H) (i j : Nat) {b : va_W} {n jn : Nat} {f : Nat → Int32} (hi : bs[i]? = some b) (hj : b[j]? = some (a, .inl (G.2.1, n, .inl f))) {k : Int32} (hk : nI jn = k) (hl : jn < n) (hn : n < 2 ^ 31) (hdg : decode cc pc = .ok (.iaload, 1))
    (kk : W p l e R s m args below meth c H locs cells slots Q (F0 m (pc + 1) ls (.int (f jn) :: rest))) : W p l e R s m args below meth c H locs cells slots Q (F0 m pc ls (.int k :: .ref a :: rest)) := by
  subst hk
  refine kb_iald hx hb hX hP i j hi hj (vp_in_nI hl hn) hdg ?_
  rw [nI_clamp (by omega)]
  exact kk
theorem kb_baldN (hx : p.tables.exec = Jvm.exec) (hb : c.code = cc) (hX : CX G s) (hP : va_P G.1 vwCl bs.flatten H) (i j : Nat) {b : va_W} {n jn : Nat} {f : Nat → Int32} (hi : bs[i]? = some b) (hj : b[j]? = some (a, .inl (G.2.2.1, n, .inl f))) {k : Int32} (hk : nI jn = k) (hl : jn < n) (hn : n < 2 ^ 31) (hdg : decode cc pc = .ok (.baload, 1))
    (kk : W p l e R s m args below meth c H locs cells slots Q (F0 m (pc + 1) ls (.int (f jn) :: rest))) : W p l e R s m args below meth c H locs cells slots Q (F0 m pc ls (.int k :: .ref a :: rest)) := by
  subst hk
  refine kb_bald hx hb hX hP i j hi hj (vp_in_nI hl hn) hdg ?_
  rw [nI_clamp (by omega)]
  exact kk
theorem kb_iastN (hx : p.tables.exec = Jvm.exec) (hb : c.code = cc) (hX : CX G s) (hP : va_P G.1 vwCl bs.flatten H) (hD : va_D A bs.flatten) (hS : va_S A H0 H locs) (i j : Nat) {b : va_W} {n jn : Nat} {f : Nat → Int32} (hi : bs[i]? = some b) (hj : b[j]? = some (a, .inl (G.2.1, n, .inl f))) {k x : Int32} (hk : nI jn = k) (hl : jn < n) (hn : n < 2 ^ 31) (hdg : decode cc pc = .ok (.iastore, 1))
    {b2 : va_W} (hs2 : b.set j (a, .inl (G.2.1, n, .inl (upd f jn x))) = b2) (kk : ∀ (H1 : Heap) (locs1 : List Loc), va_P G.1 vwCl (bs.set i b2).flatten H1 → va_D A (bs.set i b2).flatten → va_S A H0 H1 locs1 → W p l e R s m args below meth c H1 locs1 cells slots Q (F0 m (pc + 1) ls rest)) : W p l e R s m args below meth c H locs cells slots Q (F0 m pc ls (.int x :: .int k :: .ref a :: rest)) := by
  subst hk
  refine kb_iast hx hb hX hP hD hS i j hi hj (vp_in_nI hl hn) hdg (b2 := b2) ?_ kk
  rw [nI_clamp (by omega)]
  exact hs2
theorem kb_bastN (hx : p.tables.exec = Jvm.exec) (hb : c.code = cc) (hX : CX G s) (hP : va_P G.1 vwCl bs.flatten H) (hD : va_D A bs.flatten) (hS : va_S A H0 H locs) (i j : Nat) {b : va_W} {n jn : Nat} {f : Nat → Int32} (hi : bs[i]? = some b) (hj : b[j]? = some (a, .inl (G.2.2.1, n, .inl f))) {k x : Int32} (hk : nI jn = k) (hl : jn < n) (hn : n < 2 ^ 31) (hdg : decode cc pc = .ok (.bastore, 1))
    {b2 : va_W} (hs2 : b.set j (a, .inl (G.2.2.1, n, .inl (upd f jn (vp_nar .byte x)))) = b2) (kk : ∀ (H1 : Heap) (locs1 : List Loc), va_P G.1 vwCl (bs.set i b2).flatten H1 → va_D A (bs.set i b2).flatten → va_S A H0 H1 locs1 → W p l e R s m args below meth c H1 locs1 cells slots Q (F0 m (pc + 1) ls rest)) : W p l e R s m args below meth c H locs cells slots Q (F0 m pc ls (.int x :: .int k :: .ref a :: rest)) := by
  subst hk
  refine kb_bast hx hb hX hP hD hS i j hi hj (vp_in_nI hl hn) hdg (b2 := b2) ?_ kk
  rw [nI_clamp (by omega)]
  exact hs2
end KN
theorem nI_addE (a b : Nat) : nI (a + b) = nI a + nI b := (nI_add a b).symm
theorem nI_mulE (a b : Nat) : nI (a * b) = nI a * nI b := (pk_mul a b).symm
theorem nlt_toInt {x : Int32} : ¬ x < 0 ↔ 0 ≤ x.toInt := by
  rw [Int32.lt_iff_toInt_lt]
  show ¬ x.toInt < 0 ↔ _
  omega
theorem clN_lt {x : Int32} {n : Nat} (hn : n < 2 ^ 31) (h : ¬ nI n ≤ x) : x.toNatClampNeg < n ∨ n = 0 := by
  rw [Int32.le_iff_toInt_le, nI_toInt hn] at h
  show x.toInt.toNat < n ∨ n = 0
  omega
theorem cl_of_vp {x : Int32} {n : Nat} (h : vp_in x n) : ¬ x < 0 ∧ x.toNatClampNeg < n := ⟨fun e => h (Or.inl e), by
  rcases Nat.lt_or_ge x.toNatClampNeg n with h1 | h1
  · exact h1
  · exact absurd (Or.inr h1) h⟩
def gIn (a b c : Int64) : Bool := if lg_cmp a b < 0 then false else if 0 < lg_cmp a c then false else true
theorem gIn_iff {a b c : Int64} : gIn a b c = true ↔ b ≤ a ∧ a ≤ c := by
  have e1 : lg_cmp a b < 0 ↔ a < b := by
    have h := lg_cmp_ge a b
    rw [← Int32.not_le, h, Int64.not_le]
  have e2 : 0 < lg_cmp a c ↔ c < a := by
    have h := lg_cmp_le a c
    rw [← Int32.not_le, h, Int64.not_le]
  simp only [gIn, e1, e2]
  by_cases h1 : a < b
  · simp [h1, Int64.not_le.mpr h1]
  · by_cases h2 : c < a
    · simp [h1, h2, Int64.not_le.mpr h2]
    · simp [h1, h2, Int64.not_lt.mp h1, Int64.not_lt.mp h2]
theorem gIn32 (x y z : Int32) : gIn x.toInt64 y.toInt64 z.toInt64 = fWithin x y z := by
  rw [Bool.eq_iff_iff, gIn_iff]
  simp only [fWithin, Int64.le_iff_toInt_le, Int32.toInt_toInt64, Bool.and_eq_true, Bool.not_eq_true', decide_eq_false_iff_not, Int32.lt_iff_toInt_lt]
  omega
def gIsDoor (D : Nat → Int32) (x : Int32) : Bool := gIn x.toInt64 0 (D 0 - 1).toInt64
theorem isDoor_n {D : Nat → Int32} {x : Int32} (h : gIsDoor D x = true) (hp : ¬ D 0 < 0) : ¬ x < 0 ∧ x.toNatClampNeg < (D 0).toNatClampNeg := by
  have h1 : gIn x.toInt64 (0 : Int32).toInt64 (D 0 - 1).toInt64 = true := h
  rw [gIn_iff, Int64.le_iff_toInt_le, Int64.le_iff_toInt_le, Int32.toInt_toInt64, Int32.toInt_toInt64, Int32.toInt_toInt64] at h1
  obtain ⟨j, hj, he⟩ := nI_of hp
  have e0 : (0 : Int32).toInt = 0 := by decide
  rw [e0] at h1
  cases j with
  | zero =>
    rw [he] at h1
    have : (nI 0 - 1 : Int32).toInt = -1 := by decide
    omega
  | succ j =>
    rw [he, nI_pred, nI_toInt (by omega)] at h1
    refine ⟨nlt_toInt.mpr h1.1, ?_⟩
    rw [he, nI_clamp hj]
    show x.toInt.toNat < j + 1
    omega
theorem in0_n {x : Int32} {n : Nat} {y : Int64} (h : gIn x.toInt64 0 y = true) (hy : y = (nI n).toInt64) (hn : n < 2 ^ 31) : ¬ x < 0 ∧ x.toNatClampNeg ≤ n := by
  subst hy
  have h1 : gIn x.toInt64 (0 : Int32).toInt64 (nI n).toInt64 = true := h
  rw [gIn_iff, Int64.le_iff_toInt_le, Int64.le_iff_toInt_le, Int32.toInt_toInt64, Int32.toInt_toInt64, Int32.toInt_toInt64, nI_toInt hn] at h1
  have e0 : (0 : Int32).toInt = 0 := by decide
  rw [e0] at h1
  refine ⟨nlt_toInt.mpr h1.1, ?_⟩
  show x.toInt.toNat ≤ n
  omega
theorem in1_n {x : Int32} {n : Nat} {y : Int64} (h : gIn x.toInt64 1 y = true) (hy : y = (nI n).toInt64) (hn : n < 2 ^ 31) : ¬ x < 0 ∧ 1 ≤ x.toNatClampNeg ∧ x.toNatClampNeg ≤ n := by
  subst hy
  have h1 : gIn x.toInt64 (1 : Int32).toInt64 (nI n).toInt64 = true := h
  rw [gIn_iff, Int64.le_iff_toInt_le, Int64.le_iff_toInt_le, Int32.toInt_toInt64, Int32.toInt_toInt64, Int32.toInt_toInt64, nI_toInt hn] at h1
  have e0 : (1 : Int32).toInt = 1 := by decide
  rw [e0] at h1
  refine ⟨nlt_toInt.mpr (by omega), ?_, ?_⟩
  · show 1 ≤ x.toInt.toNat
    omega
  · show x.toInt.toNat ≤ n
    omega
def g_numbers (l : Int32) : Int32 := if l = 100 then 3 else if l = 108 then 3 else if l = 103 then 3 else if l = 112 then 2 else if l = 117 then 2 else if l = 114 then 1 else if l = 119 then 1 else if l = 111 then 1 else 0
def g_door (D R S U : Nat → Int32) (x y : Int32) : Int32 := if gIsDoor D x = true then (if gIn y.toInt64 0 4 = true then (if 3 ≤ y then (if y = 3 then S (32 + x.toNatClampNeg) else U x.toNatClampNeg) else R (3 * x.toNatClampNeg + y.toNatClampNeg)) else -1) else -1
def g_lodger (L E S : Nat → Int32) (x y : Int32) : Int32 := if gIsDoor L x = true then (if gIn y.toInt64 0 2 = true then (if y = 0 then S (40 + x.toNatClampNeg) else E (3 * x.toNatClampNeg + y.toNatClampNeg)) else -1) else -1
def g_grudge (D L S : Nat → Int32) (x y : Int32) : Int32 := if gIsDoor D x = true then (if gIsDoor L y = true then S (4 * x.toNatClampNeg + y.toNatClampNeg) else -1) else -1
def g_costs (S : Nat → Int32) (s d i : Nat) : Int32 := if S (46 * s + 32 + d) ≤ 0 then 1 + S (46 * s + 4 * d + i) else 1
def g_isOf (R : Nat → Int32) (d : Nat) (r : Int32) : Bool := if R (3 * d) = r then true else if R (3 * d + 1) = r then true else false
def g_over (R : Nat → Int32) (d : Nat) (r : Int32) : Int32 := if R (3 * d) = r then R (3 * d + 1) else R (3 * d)
abbrev clampG (x : Int32) : Int32 := if 0 ≤ x then (if x ≤ 99 then x else 99) else 0
def g_becomes (T E : Nat → Int32) (i : Nat) (g z : Int32) : Int32 := if z = 0 then clampG (g - T 3) else clampG (g + E (3 * i + 1))
def s_many (x : Int32) (k : Nat) (n : Int32) : Int32 := n + ((x >>> (nI k &&& 31)) &&& 1)
def g_many (x : Int32) : Int32 := itN (s_many x) 0 8
def s_news (S : Nat → Int32) (d : Nat) (k : Nat) (n : Int32) : Int32 := n + S (4 * d + k)
def g_news (L S : Nat → Int32) (d : Nat) : Int32 := itN (s_news S d) 0 (L 0).toNatClampNeg / L 0
def g_isBehind (n : Int32) : Bool := gIn n.toInt64 0 60
def g_count (v : OV) (x : Int32) : Int32 := if x = 0 then v.1 3 0 else if x = 1 then v.1 4 0 else if x = 2 then v.1 7 0 else if x = 3 then v.1 10 44 else if x = 4 then v.1 10 45 else if x = 5 then v.2 12 else if x = 6 then v.2 11 else if x = 7 then v.2 0 else -1

def rm_X7_in : Room := { frames := 0, cells := 0, slots := 0, locals := 0 }
theorem hdS_X7_in : yX7_in.cls ≠ "java/lang/invoke/MethodHandle" ∧ yX7_in.cls ≠ "java/lang/invoke/VarHandle" ∧ (parseMethodDescriptor yX7_in.desc).map (fun d => d.parameters.length) = some 3 := by decide +kernel
set_option maxRecDepth 100000 in
set_option maxHeartbeats 4000000 in
theorem c_X7_in (l : Launch) (G : GD) (x1 : Int64) (x2 : Int64) (x3 : Int64)  : MetP l yX7_in wsX7_in rm_X7_in G [] [.long x1, .long x2, .long x3] (some (.int (b2i (gIn x1 x2 x3)))) := by
  refine kb_beginP (cc := cX7_in) (maxL := 6) (ret := (some .boolean)) (by decide) rfl (Nat.le_of_ble_eq_true rfl) ?_
  intro p e s m below meth c hx hb hr hml hown hts hlocks hX hP ls hl
  have hown : s.vm.findClass RX7 = some m.cls := hown
  have hl : lv_has ls 6 [(0, .long x1), (2, .long x2), (4, .long x3)] := hl
  refine lv_lload_n hx hb dX7_in_0 rfl (lv_at hl 0 rfl) ?_
  refine lv_lload_n hx hb dX7_in_1 rfl (lv_at hl 1 rfl) ?_
  refine W.lcmp hx hb dX7_in_2 ?_
  refine lv_if_lt (tgt := 17) hx hb dX7_in_3 (by decide) (fun c_3 => ?_) (fun c_3 => ?_)
  · refine lv_iconst (v := 0) hx hb dX7_in_17 (by decide) ?_
    exact kr_pz hx hb hr hlocks dX7_in_18 rfl (by simp only [gIn, if_pos c_3] <;> rfl)
  · refine lv_lload_n hx hb dX7_in_6 rfl (lv_at hl 0 rfl) ?_
    refine lv_lload hx hb dX7_in_7 (lv_at hl 2 rfl) ?_
    refine W.lcmp hx hb dX7_in_9 ?_
    refine lv_if_gt (tgt := 17) hx hb dX7_in_10 (by decide) (fun c_10 => ?_) (fun c_10 => ?_)
    · refine lv_iconst (v := 0) hx hb dX7_in_17 (by decide) ?_
      exact kr_pz hx hb hr hlocks dX7_in_18 rfl (by simp only [gIn, if_neg c_3, if_pos c_10] <;> rfl)
    · refine lv_iconst (v := 1) hx hb dX7_in_13 (by decide) ?_
      refine lv_goto (tgt := 18) hx hb dX7_in_14 (by decide) ?_
      exact kr_pz hx hb hr hlocks dX7_in_18 rfl (by simp only [gIn, if_neg c_3, if_neg c_10] <;> rfl)

def rm_X7_numbers : Room := { frames := 0, cells := 0, slots := 0, locals := 0 }
theorem hdS_X7_numbers : yX7_numbers.cls ≠ "java/lang/invoke/MethodHandle" ∧ yX7_numbers.cls ≠ "java/lang/invoke/VarHandle" ∧ (parseMethodDescriptor yX7_numbers.desc).map (fun d => d.parameters.length) = some 1 := by decide +kernel
set_option maxRecDepth 100000 in
set_option maxHeartbeats 4000000 in
theorem c_X7_numbers (l : Launch) (G : GD) (x1 : Int32)  : MetP l yX7_numbers wsX7_numbers rm_X7_numbers G [] [.int x1] (some (.int (g_numbers x1))) := by
  refine kb_beginP (cc := cX7_numbers) (maxL := 1) (ret := (some .int)) (by decide) rfl (Nat.le_of_ble_eq_true rfl) ?_
  intro p e s m below meth c hx hb hr hml hown hts hlocks hX hP ls hl
  have hown : s.vm.findClass RX7 = some m.cls := hown
  have hl : lv_has ls 1 [(0, .int x1)] := hl
  refine lv_iload_n hx hb dX7_numbers_0 rfl (lv_at hl 0 rfl) ?_
  refine lv_bipush (v := 100) hx hb dX7_numbers_1 (by decide) ?_
  refine lv_icmp_eq (tgt := 18) hx hb dX7_numbers_3 (by decide) (fun c_3 => ?_) (fun c_3 => ?_)
  · refine lv_iconst (v := 3) hx hb dX7_numbers_18 (by decide) ?_
    refine lv_goto (tgt := 61) hx hb dX7_numbers_19 (by decide) ?_
    exact kr_pi hx hb hr hlocks dX7_numbers_61 (by simp only [g_numbers, if_pos c_3] <;> rfl)
  · refine lv_iload_n hx hb dX7_numbers_6 rfl (lv_at hl 0 rfl) ?_
    refine lv_bipush (v := 108) hx hb dX7_numbers_7 (by decide) ?_
    refine lv_icmp_eq (tgt := 18) hx hb dX7_numbers_9 (by decide) (fun c_9 => ?_) (fun c_9 => ?_)
    · refine lv_iconst (v := 3) hx hb dX7_numbers_18 (by decide) ?_
      refine lv_goto (tgt := 61) hx hb dX7_numbers_19 (by decide) ?_
      exact kr_pi hx hb hr hlocks dX7_numbers_61 (by simp only [g_numbers, if_neg c_3, if_pos c_9] <;> rfl)
    · refine lv_iload_n hx hb dX7_numbers_12 rfl (lv_at hl 0 rfl) ?_
      refine lv_bipush (v := 103) hx hb dX7_numbers_13 (by decide) ?_
      refine lv_icmp_ne (tgt := 22) hx hb dX7_numbers_15 (by decide) (fun c_15 => ?_) (fun c_15 => ?_)
      · refine lv_iload_n hx hb dX7_numbers_22 rfl (lv_at hl 0 rfl) ?_
        refine lv_bipush (v := 112) hx hb dX7_numbers_23 (by decide) ?_
        refine lv_icmp_eq (tgt := 34) hx hb dX7_numbers_25 (by decide) (fun c_25 => ?_) (fun c_25 => ?_)
        · refine lv_iconst (v := 2) hx hb dX7_numbers_34 (by decide) ?_
          refine lv_goto (tgt := 61) hx hb dX7_numbers_35 (by decide) ?_
          exact kr_pi hx hb hr hlocks dX7_numbers_61 (by simp only [g_numbers, if_neg c_3, if_neg c_9, if_neg c_15, if_pos c_25] <;> rfl)
        · refine lv_iload_n hx hb dX7_numbers_28 rfl (lv_at hl 0 rfl) ?_
          refine lv_bipush (v := 117) hx hb dX7_numbers_29 (by decide) ?_
          refine lv_icmp_ne (tgt := 38) hx hb dX7_numbers_31 (by decide) (fun c_31 => ?_) (fun c_31 => ?_)
          · refine lv_iload_n hx hb dX7_numbers_38 rfl (lv_at hl 0 rfl) ?_
            refine lv_bipush (v := 114) hx hb dX7_numbers_39 (by decide) ?_
            refine lv_icmp_eq (tgt := 56) hx hb dX7_numbers_41 (by decide) (fun c_41 => ?_) (fun c_41 => ?_)
            · refine lv_iconst (v := 1) hx hb dX7_numbers_56 (by decide) ?_
              refine lv_goto (tgt := 61) hx hb dX7_numbers_57 (by decide) ?_
              exact kr_pi hx hb hr hlocks dX7_numbers_61 (by simp only [g_numbers, if_neg c_3, if_neg c_9, if_neg c_15, if_neg c_25, if_neg c_31, if_pos c_41] <;> rfl)
            · refine lv_iload_n hx hb dX7_numbers_44 rfl (lv_at hl 0 rfl) ?_
              refine lv_bipush (v := 119) hx hb dX7_numbers_45 (by decide) ?_
              refine lv_icmp_eq (tgt := 56) hx hb dX7_numbers_47 (by decide) (fun c_47 => ?_) (fun c_47 => ?_)
              · refine lv_iconst (v := 1) hx hb dX7_numbers_56 (by decide) ?_
                refine lv_goto (tgt := 61) hx hb dX7_numbers_57 (by decide) ?_
                exact kr_pi hx hb hr hlocks dX7_numbers_61 (by simp only [g_numbers, if_neg c_3, if_neg c_9, if_neg c_15, if_neg c_25, if_neg c_31, if_neg c_41, if_pos c_47] <;> rfl)
              · refine lv_iload_n hx hb dX7_numbers_50 rfl (lv_at hl 0 rfl) ?_
                refine lv_bipush (v := 111) hx hb dX7_numbers_51 (by decide) ?_
                refine lv_icmp_ne (tgt := 60) hx hb dX7_numbers_53 (by decide) (fun c_53 => ?_) (fun c_53 => ?_)
                · refine lv_iconst (v := 0) hx hb dX7_numbers_60 (by decide) ?_
                  exact kr_pi hx hb hr hlocks dX7_numbers_61 (by simp only [g_numbers, if_neg c_3, if_neg c_9, if_neg c_15, if_neg c_25, if_neg c_31, if_neg c_41, if_neg c_47, if_neg c_53] <;> rfl)
                · refine lv_iconst (v := 1) hx hb dX7_numbers_56 (by decide) ?_
                  refine lv_goto (tgt := 61) hx hb dX7_numbers_57 (by decide) ?_
                  exact kr_pi hx hb hr hlocks dX7_numbers_61 (by simp only [g_numbers, if_neg c_3, if_neg c_9, if_neg c_15, if_neg c_25, if_neg c_31, if_neg c_41, if_neg c_47, if_pos c_53] <;> rfl)
          · refine lv_iconst (v := 2) hx hb dX7_numbers_34 (by decide) ?_
            refine lv_goto (tgt := 61) hx hb dX7_numbers_35 (by decide) ?_
            exact kr_pi hx hb hr hlocks dX7_numbers_61 (by simp only [g_numbers, if_neg c_3, if_neg c_9, if_neg c_15, if_neg c_25, if_pos c_31] <;> rfl)
      · refine lv_iconst (v := 3) hx hb dX7_numbers_18 (by decide) ?_
        refine lv_goto (tgt := 61) hx hb dX7_numbers_19 (by decide) ?_
        exact kr_pi hx hb hr hlocks dX7_numbers_61 (by simp only [g_numbers, if_neg c_3, if_neg c_9, if_pos c_15] <;> rfl)

def rm_X7_isDoor : Room := { frames := 1, cells := 0, slots := 0, locals := 25 }
theorem hd_X7_isDoor : yX7_isDoor.cls = RX7 ∧ yX7_isDoor.cls ≠ "java/lang/invoke/MethodHandle" ∧ yX7_isDoor.cls ≠ "java/lang/invoke/VarHandle" ∧ (parseMethodDescriptor yX7_isDoor.desc).map (fun d => d.parameters.length) = some 1 := by decide +kernel
set_option maxRecDepth 100000 in
set_option maxHeartbeats 4000000 in
theorem c_X7_isDoor (l : Launch) (G : GD) (a : Nat → Nat) (v : OV) (x1 : Int32)  : MetP l yX7_isDoor wsX7_isDoor rm_X7_isDoor G [bX7 a G v] [.ref (a 0), .int x1] (some (.int (b2i (gIsDoor ((v.1 4)) x1)))) := by
  refine kb_beginP (cc := cX7_isDoor) (maxL := 2) (ret := (some .boolean)) (by decide) rfl (Nat.le_of_ble_eq_true rfl) ?_
  intro p e s m below meth c hx hb hr hml hown hts hlocks hX hP ls hl
  have hown : s.vm.findClass RX7 = some m.cls := hown
  have hl : lv_has ls 2 [(0, .ref (a 0)), (1, .int x1)] := hl
  have hin7 : ∀ w ∈ u_ws RX7 TX7 19, w ∈ wsX7_isDoor := (fun _ h => List.mem_cons_of_mem _ (List.mem_append_right _ (h)))
  refine lv_iload_n hx hb dX7_isDoor_0 rfl (lv_at hl 1 rfl) ?_
  refine lv_i2l (v := (x1 : Int32).toInt64) hx hb dX7_isDoor_1 rfl ?_
  refine lv_lconst (v := 0) hx hb dX7_isDoor_2 (by decide) ?_
  refine lv_aload_n hx hb dX7_isDoor_3 rfl (lv_at hl 0 rfl) ?_
  refine kb_get (own := RX7) (C := RX7) (T := TX7) (N := 19) (v := .ref (a 3)) hx hb hts hin7 hown hX hP 0 rfl rfl rfl 4 (by decide) rfl (by decide +kernel) rfl dX7_isDoor_4 ?_
  refine lv_iconst (v := 0) hx hb dX7_isDoor_7 (by decide) ?_
  refine kb_ialdN (jn := 0) (n := 2) (f := v.1 4) hx hb hX hP 0 3 rfl rfl rfl (by omega) (by decide) dX7_isDoor_8 ?_
  refine lv_iconst (v := 1) hx hb dX7_isDoor_9 (by decide) ?_
  refine lv_isub hx hb dX7_isDoor_10 ?_
  refine lv_i2l (v := (((v.1 4) 0) - 1 : Int32).toInt64) hx hb dX7_isDoor_11 rfl ?_
  refine kcS_p hx hb hml hown hts hX hP (c_X7_in l G ((x1 : Int32).toInt64) 0 ((((v.1 4) 0) - 1 : Int32).toInt64)) gX7_isDoor_X7_in 3 rfl rfl rfl hdS_X7_in ⟨Nat.le_of_ble_eq_true rfl, Nat.le_of_ble_eq_true rfl⟩ (fun q hq => absurd hq List.not_mem_nil) hl.1 rfl rfl (Nat.le_of_ble_eq_true rfl) dX7_isDoor_12 ⟨Nat.zero_le _, Nat.zero_le _⟩ ?_
  exact kr_pz hx hb hr hlocks dX7_isDoor_15 (narrow_b2i _) (by rfl)

def rm_X7_isLodger : Room := { frames := 1, cells := 0, slots := 0, locals := 25 }
theorem hd_X7_isLodger : yX7_isLodger.cls = RX7 ∧ yX7_isLodger.cls ≠ "java/lang/invoke/MethodHandle" ∧ yX7_isLodger.cls ≠ "java/lang/invoke/VarHandle" ∧ (parseMethodDescriptor yX7_isLodger.desc).map (fun d => d.parameters.length) = some 1 := by decide +kernel
set_option maxRecDepth 100000 in
set_option maxHeartbeats 4000000 in
theorem c_X7_isLodger (l : Launch) (G : GD) (a : Nat → Nat) (v : OV) (x1 : Int32)  : MetP l yX7_isLodger wsX7_isLodger rm_X7_isLodger G [bX7 a G v] [.ref (a 0), .int x1] (some (.int (b2i (gIsDoor ((v.1 7)) x1)))) := by
  refine kb_beginP (cc := cX7_isLodger) (maxL := 2) (ret := (some .boolean)) (by decide) rfl (Nat.le_of_ble_eq_true rfl) ?_
  intro p e s m below meth c hx hb hr hml hown hts hlocks hX hP ls hl
  have hown : s.vm.findClass RX7 = some m.cls := hown
  have hl : lv_has ls 2 [(0, .ref (a 0)), (1, .int x1)] := hl
  have hin7 : ∀ w ∈ u_ws RX7 TX7 19, w ∈ wsX7_isLodger := (fun _ h => List.mem_cons_of_mem _ (List.mem_append_right _ (h)))
  refine lv_iload_n hx hb dX7_isLodger_0 rfl (lv_at hl 1 rfl) ?_
  refine lv_i2l (v := (x1 : Int32).toInt64) hx hb dX7_isLodger_1 rfl ?_
  refine lv_lconst (v := 0) hx hb dX7_isLodger_2 (by decide) ?_
  refine lv_aload_n hx hb dX7_isLodger_3 rfl (lv_at hl 0 rfl) ?_
  refine kb_get (own := RX7) (C := RX7) (T := TX7) (N := 19) (v := .ref (a 6)) hx hb hts hin7 hown hX hP 0 rfl rfl rfl 7 (by decide) rfl (by decide +kernel) rfl dX7_isLodger_4 ?_
  refine lv_iconst (v := 0) hx hb dX7_isLodger_7 (by decide) ?_
  refine kb_ialdN (jn := 0) (n := 2) (f := v.1 7) hx hb hX hP 0 6 rfl rfl rfl (by omega) (by decide) dX7_isLodger_8 ?_
  refine lv_iconst (v := 1) hx hb dX7_isLodger_9 (by decide) ?_
  refine lv_isub hx hb dX7_isLodger_10 ?_
  refine lv_i2l (v := (((v.1 7) 0) - 1 : Int32).toInt64) hx hb dX7_isLodger_11 rfl ?_
  refine kcS_p hx hb hml hown hts hX hP (c_X7_in l G ((x1 : Int32).toInt64) 0 ((((v.1 7) 0) - 1 : Int32).toInt64)) gX7_isLodger_X7_in 3 rfl rfl rfl hdS_X7_in ⟨Nat.le_of_ble_eq_true rfl, Nat.le_of_ble_eq_true rfl⟩ (fun q hq => absurd hq List.not_mem_nil) hl.1 rfl rfl (Nat.le_of_ble_eq_true rfl) dX7_isLodger_12 ⟨Nat.zero_le _, Nat.zero_le _⟩ ?_
  exact kr_pz hx hb hr hlocks dX7_isLodger_15 (narrow_b2i _) (by rfl)

def rm_X7_isRoom : Room := { frames := 1, cells := 0, slots := 0, locals := 25 }
theorem hd_X7_isRoom : yX7_isRoom.cls = RX7 ∧ yX7_isRoom.cls ≠ "java/lang/invoke/MethodHandle" ∧ yX7_isRoom.cls ≠ "java/lang/invoke/VarHandle" ∧ (parseMethodDescriptor yX7_isRoom.desc).map (fun d => d.parameters.length) = some 1 := by decide +kernel
set_option maxRecDepth 100000 in
set_option maxHeartbeats 4000000 in
theorem c_X7_isRoom (l : Launch) (G : GD) (a : Nat → Nat) (v : OV) (x1 : Int32)  : MetP l yX7_isRoom wsX7_isRoom rm_X7_isRoom G [bX7 a G v] [.ref (a 0), .int x1] (some (.int (b2i (gIsDoor ((v.1 3)) x1)))) := by
  refine kb_beginP (cc := cX7_isRoom) (maxL := 2) (ret := (some .boolean)) (by decide) rfl (Nat.le_of_ble_eq_true rfl) ?_
  intro p e s m below meth c hx hb hr hml hown hts hlocks hX hP ls hl
  have hown : s.vm.findClass RX7 = some m.cls := hown
  have hl : lv_has ls 2 [(0, .ref (a 0)), (1, .int x1)] := hl
  have hin7 : ∀ w ∈ u_ws RX7 TX7 19, w ∈ wsX7_isRoom := (fun _ h => List.mem_cons_of_mem _ (List.mem_append_right _ (h)))
  refine lv_iload_n hx hb dX7_isRoom_0 rfl (lv_at hl 1 rfl) ?_
  refine lv_i2l (v := (x1 : Int32).toInt64) hx hb dX7_isRoom_1 rfl ?_
  refine lv_lconst (v := 0) hx hb dX7_isRoom_2 (by decide) ?_
  refine lv_aload_n hx hb dX7_isRoom_3 rfl (lv_at hl 0 rfl) ?_
  refine kb_get (own := RX7) (C := RX7) (T := TX7) (N := 19) (v := .ref (a 2)) hx hb hts hin7 hown hX hP 0 rfl rfl rfl 3 (by decide) rfl (by decide +kernel) rfl dX7_isRoom_4 ?_
  refine lv_iconst (v := 0) hx hb dX7_isRoom_7 (by decide) ?_
  refine kb_ialdN (jn := 0) (n := 10) (f := v.1 3) hx hb hX hP 0 2 rfl rfl rfl (by omega) (by decide) dX7_isRoom_8 ?_
  refine lv_iconst (v := 1) hx hb dX7_isRoom_9 (by decide) ?_
  refine lv_isub hx hb dX7_isRoom_10 ?_
  refine lv_i2l (v := (((v.1 3) 0) - 1 : Int32).toInt64) hx hb dX7_isRoom_11 rfl ?_
  refine kcS_p hx hb hml hown hts hX hP (c_X7_in l G ((x1 : Int32).toInt64) 0 ((((v.1 3) 0) - 1 : Int32).toInt64)) gX7_isRoom_X7_in 3 rfl rfl rfl hdS_X7_in ⟨Nat.le_of_ble_eq_true rfl, Nat.le_of_ble_eq_true rfl⟩ (fun q hq => absurd hq List.not_mem_nil) hl.1 rfl rfl (Nat.le_of_ble_eq_true rfl) dX7_isRoom_12 ⟨Nat.zero_le _, Nat.zero_le _⟩ ?_
  exact kr_pz hx hb hr hlocks dX7_isRoom_15 (narrow_b2i _) (by rfl)

def rm_X7_door : Room := { frames := 2, cells := 0, slots := 0, locals := 46 }
theorem hd_X7_door : yX7_door.cls = RX7 ∧ yX7_door.cls ≠ "java/lang/invoke/MethodHandle" ∧ yX7_door.cls ≠ "java/lang/invoke/VarHandle" ∧ (parseMethodDescriptor yX7_door.desc).map (fun d => d.parameters.length) = some 2 := by decide +kernel
set_option maxRecDepth 100000 in
set_option maxHeartbeats 4000000 in
theorem c_X7_door (l : Launch) (G : GD) (a : Nat → Nat) (v : OV) (x1 : Int32) (x2 : Int32) (hD : ¬ v.1 4 0 < 0) (hD8 : (v.1 4 0).toNatClampNeg ≤ 8) : MetP l yX7_door wsX7_door rm_X7_door G [bX7 a G v] [.ref (a 0), .int x1, .int x2] (some (.int (g_door ((v.1 4)) ((v.1 5)) ((v.1 10)) ((v.1 6)) x1 x2))) := by
  refine kb_beginP (cc := cX7_door) (maxL := 3) (ret := (some .int)) (by decide) rfl (Nat.le_of_ble_eq_true rfl) ?_
  intro p e s m below meth c hx hb hr hml hown hts hlocks hX hP ls hl
  have hown : s.vm.findClass RX7 = some m.cls := hown
  have hl : lv_has ls 3 [(0, .ref (a 0)), (1, .int x1), (2, .int x2)] := hl
  have hin7 : ∀ w ∈ u_ws RX7 TX7 19, w ∈ wsX7_door := (fun _ h => List.mem_cons_of_mem _ (List.mem_append_right _ (h)))
  refine lv_aload_n hx hb dX7_door_0 rfl (lv_at hl 0 rfl) ?_
  refine lv_iload_n hx hb dX7_door_1 rfl (lv_at hl 1 rfl) ?_
  refine kcV_p hx hb hml hown hts hX hP (c_X7_isDoor l G a v x1) gX7_door_X7_isDoor 1 rfl rfl rfl hd_X7_isDoor ⟨Nat.le_of_ble_eq_true rfl, Nat.le_of_ble_eq_true rfl⟩ [0] rfl 0 rfl rfl rfl hl.1 rfl rfl (Nat.le_of_ble_eq_true rfl) dX7_door_2 ⟨Nat.zero_le _, Nat.zero_le _⟩ ?_
  refine kb_rw (y := b2i (gIsDoor ((v.1 4)) x1)) rfl ?_
  refine lv_if_eq (tgt := 20) hx hb dX7_door_5 (by decide) (fun c_5r => ?_) (fun c_5r => ?_)
  · have c_5 := b2i_fN c_5r
    refine lv_iconst (v := (-1)) hx hb dX7_door_20 (by decide) ?_
    exact kr_pi hx hb hr hlocks dX7_door_21 (by simp only [g_door, if_neg c_5] <;> rfl)
  · have c_5 := b2i_tP c_5r
    have hn_x1 := isDoor_n c_5 hD
    have hb_x1 := hn_x1.2
    refine lv_iload_n hx hb dX7_door_8 rfl (lv_at hl 2 rfl) ?_
    refine lv_i2l (v := (x2 : Int32).toInt64) hx hb dX7_door_9 rfl ?_
    refine lv_lconst (v := 0) hx hb dX7_door_10 (by decide) ?_
    refine lv_ldc2 (own := RX7) (v := 4) hx hb hown (hts (.constantLong RX7 121 4) (by decide +kernel)) dX7_door_11 ?_
    refine kcS_p hx hb hml hown hts hX hP (c_X7_in l G ((x2 : Int32).toInt64) 0 4) gX7_door_X7_in 3 rfl rfl rfl hdS_X7_in ⟨Nat.le_of_ble_eq_true rfl, Nat.le_of_ble_eq_true rfl⟩ (fun q hq => absurd hq List.not_mem_nil) hl.1 rfl rfl (Nat.le_of_ble_eq_true rfl) dX7_door_14 ⟨Nat.zero_le _, Nat.zero_le _⟩ ?_
    refine lv_if_ne (tgt := 22) hx hb dX7_door_17 (by decide) (fun c_17r => ?_) (fun c_17r => ?_)
    · have c_17 := b2i_tP c_17r
      refine lv_iload_n hx hb dX7_door_22 rfl (lv_at hl 2 rfl) ?_
      refine lv_iconst (v := 3) hx hb dX7_door_23 (by decide) ?_
      refine lv_icmp_ge (tgt := 40) hx hb dX7_door_24 (by decide) (fun c_24 => ?_) (fun c_24 => ?_)
      · refine lv_iload_n hx hb dX7_door_40 rfl (lv_at hl 2 rfl) ?_
        refine lv_iconst (v := 3) hx hb dX7_door_41 (by decide) ?_
        refine lv_icmp_ne (tgt := 57) hx hb dX7_door_42 (by decide) (fun c_42 => ?_) (fun c_42 => ?_)
        · refine lv_aload_n hx hb dX7_door_57 rfl (lv_at hl 0 rfl) ?_
          refine kb_get (own := RX7) (C := RX7) (T := TX7) (N := 19) (v := .ref (a 5)) hx hb hts hin7 hown hX hP 0 rfl rfl rfl 6 (by decide) rfl (by decide +kernel) rfl dX7_door_58 ?_
          refine lv_iload_n hx hb dX7_door_61 rfl (lv_at hl 1 rfl) ?_
          refine kb_nat hn_x1.1 ?_
          refine kb_ialdN (jn := x1.toNatClampNeg) (n := 16) (f := v.1 6) hx hb hX hP 0 5 rfl rfl rfl (by omega) (by decide) dX7_door_62 ?_
          exact kr_pi hx hb hr hlocks dX7_door_63 (by simp only [g_door, if_pos c_5, if_pos c_17, if_pos c_24, if_neg c_42] <;> rfl)
        · refine lv_aload_n hx hb dX7_door_45 rfl (lv_at hl 0 rfl) ?_
          refine kb_get (own := RX7) (C := RX7) (T := TX7) (N := 19) (v := .ref (a 9)) hx hb hts hin7 hown hX hP 0 rfl rfl rfl 10 (by decide) rfl (by decide +kernel) rfl dX7_door_46 ?_
          refine lv_bipush (v := 32) hx hb dX7_door_49 (by decide) ?_
          refine lv_iload_n hx hb dX7_door_51 rfl (lv_at hl 1 rfl) ?_
          refine kb_nat hn_x1.1 ?_
          refine lv_iadd hx hb dX7_door_52 ?_
          refine kb_ialdN (jn := 32 + x1.toNatClampNeg) (n := 552) (f := v.1 10) hx hb hX hP 0 9 rfl rfl (by simp only [nI_addE, nI_mulE] <;> rfl) (by omega) (by decide) dX7_door_53 ?_
          refine lv_goto (tgt := 63) hx hb dX7_door_54 (by decide) ?_
          exact kr_pi hx hb hr hlocks dX7_door_63 (by simp only [g_door, if_pos c_5, if_pos c_17, if_pos c_24, if_pos c_42] <;> rfl)
      · have hn_x2 := in0_n (n := 4) c_17 rfl (by decide)
        have hb_x2 := clN_lt (n := 3) (by decide) c_24
        refine lv_aload_n hx hb dX7_door_27 rfl (lv_at hl 0 rfl) ?_
        refine kb_get (own := RX7) (C := RX7) (T := TX7) (N := 19) (v := .ref (a 4)) hx hb hts hin7 hown hX hP 0 rfl rfl rfl 5 (by decide) rfl (by decide +kernel) rfl dX7_door_28 ?_
        refine lv_iconst (v := 3) hx hb dX7_door_31 (by decide) ?_
        refine lv_iload_n hx hb dX7_door_32 rfl (lv_at hl 1 rfl) ?_
        refine kb_nat hn_x1.1 ?_
        refine lv_imul hx hb dX7_door_33 ?_
        refine lv_iload_n hx hb dX7_door_34 rfl (lv_at hl 2 rfl) ?_
        refine kb_nat hn_x2.1 ?_
        refine lv_iadd hx hb dX7_door_35 ?_
        refine kb_ialdN (jn := (3 * x1.toNatClampNeg) + x2.toNatClampNeg) (n := 48) (f := v.1 5) hx hb hX hP 0 4 rfl rfl (by simp only [nI_addE, nI_mulE] <;> rfl) (by omega) (by decide) dX7_door_36 ?_
        refine lv_goto (tgt := 63) hx hb dX7_door_37 (by decide) ?_
        exact kr_pi hx hb hr hlocks dX7_door_63 (by simp only [g_door, if_pos c_5, if_pos c_17, if_neg c_24] <;> rfl)
    · have c_17 := b2i_fN c_17r
      refine lv_iconst (v := (-1)) hx hb dX7_door_20 (by decide) ?_
      exact kr_pi hx hb hr hlocks dX7_door_21 (by simp only [g_door, if_pos c_5, if_neg c_17] <;> rfl)

def rm_X7_lodger : Room := { frames := 2, cells := 0, slots := 0, locals := 46 }
theorem hd_X7_lodger : yX7_lodger.cls = RX7 ∧ yX7_lodger.cls ≠ "java/lang/invoke/MethodHandle" ∧ yX7_lodger.cls ≠ "java/lang/invoke/VarHandle" ∧ (parseMethodDescriptor yX7_lodger.desc).map (fun d => d.parameters.length) = some 2 := by decide +kernel
set_option maxRecDepth 100000 in
set_option maxHeartbeats 4000000 in
theorem c_X7_lodger (l : Launch) (G : GD) (a : Nat → Nat) (v : OV) (x1 : Int32) (x2 : Int32) (hL : ¬ v.1 7 0 < 0) (hL4 : (v.1 7 0).toNatClampNeg ≤ 4) : MetP l yX7_lodger wsX7_lodger rm_X7_lodger G [bX7 a G v] [.ref (a 0), .int x1, .int x2] (some (.int (g_lodger ((v.1 7)) ((v.1 8)) ((v.1 10)) x1 x2))) := by
  refine kb_beginP (cc := cX7_lodger) (maxL := 3) (ret := (some .int)) (by decide) rfl (Nat.le_of_ble_eq_true rfl) ?_
  intro p e s m below meth c hx hb hr hml hown hts hlocks hX hP ls hl
  have hown : s.vm.findClass RX7 = some m.cls := hown
  have hl : lv_has ls 3 [(0, .ref (a 0)), (1, .int x1), (2, .int x2)] := hl
  have hin7 : ∀ w ∈ u_ws RX7 TX7 19, w ∈ wsX7_lodger := (fun _ h => List.mem_cons_of_mem _ (List.mem_append_right _ (h)))
  refine lv_aload_n hx hb dX7_lodger_0 rfl (lv_at hl 0 rfl) ?_
  refine lv_iload_n hx hb dX7_lodger_1 rfl (lv_at hl 1 rfl) ?_
  refine kcV_p hx hb hml hown hts hX hP (c_X7_isLodger l G a v x1) gX7_lodger_X7_isLodger 1 rfl rfl rfl hd_X7_isLodger ⟨Nat.le_of_ble_eq_true rfl, Nat.le_of_ble_eq_true rfl⟩ [0] rfl 0 rfl rfl rfl hl.1 rfl rfl (Nat.le_of_ble_eq_true rfl) dX7_lodger_2 ⟨Nat.zero_le _, Nat.zero_le _⟩ ?_
  refine kb_rw (y := b2i (gIsDoor ((v.1 7)) x1)) rfl ?_
  refine lv_if_eq (tgt := 20) hx hb dX7_lodger_5 (by decide) (fun c_5r => ?_) (fun c_5r => ?_)
  · have c_5 := b2i_fN c_5r
    refine lv_iconst (v := (-1)) hx hb dX7_lodger_20 (by decide) ?_
    refine lv_goto (tgt := 50) hx hb dX7_lodger_21 (by decide) ?_
    exact kr_pi hx hb hr hlocks dX7_lodger_50 (by simp only [g_lodger, if_neg c_5] <;> rfl)
  · have c_5 := b2i_tP c_5r
    have hn_x1 := isDoor_n c_5 hL
    have hb_x1 := hn_x1.2
    refine lv_iload_n hx hb dX7_lodger_8 rfl (lv_at hl 2 rfl) ?_
    refine lv_i2l (v := (x2 : Int32).toInt64) hx hb dX7_lodger_9 rfl ?_
    refine lv_lconst (v := 0) hx hb dX7_lodger_10 (by decide) ?_
    refine lv_ldc2 (own := RX7) (v := 2) hx hb hown (hts (.constantLong RX7 76 2) (by decide +kernel)) dX7_lodger_11 ?_
    refine kcS_p hx hb hml hown hts hX hP (c_X7_in l G ((x2 : Int32).toInt64) 0 2) gX7_lodger_X7_in 3 rfl rfl rfl hdS_X7_in ⟨Nat.le_of_ble_eq_true rfl, Nat.le_of_ble_eq_true rfl⟩ (fun q hq => absurd hq List.not_mem_nil) hl.1 rfl rfl (Nat.le_of_ble_eq_true rfl) dX7_lodger_14 ⟨Nat.zero_le _, Nat.zero_le _⟩ ?_
    refine lv_if_ne (tgt := 24) hx hb dX7_lodger_17 (by decide) (fun c_17r => ?_) (fun c_17r => ?_)
    · have c_17 := b2i_tP c_17r
      refine lv_iload_n hx hb dX7_lodger_24 rfl (lv_at hl 2 rfl) ?_
      refine lv_if_ne (tgt := 40) hx hb dX7_lodger_25 (by decide) (fun c_25 => ?_) (fun c_25 => ?_)
      · have hn_x2 := in0_n (n := 2) c_17 rfl (by decide)
        have hb_x2 := hn_x2.2
        refine lv_aload_n hx hb dX7_lodger_40 rfl (lv_at hl 0 rfl) ?_
        refine kb_get (own := RX7) (C := RX7) (T := TX7) (N := 19) (v := .ref (a 7)) hx hb hts hin7 hown hX hP 0 rfl rfl rfl 8 (by decide) rfl (by decide +kernel) rfl dX7_lodger_41 ?_
        refine lv_iconst (v := 3) hx hb dX7_lodger_44 (by decide) ?_
        refine lv_iload_n hx hb dX7_lodger_45 rfl (lv_at hl 1 rfl) ?_
        refine kb_nat hn_x1.1 ?_
        refine lv_imul hx hb dX7_lodger_46 ?_
        refine lv_iload_n hx hb dX7_lodger_47 rfl (lv_at hl 2 rfl) ?_
        refine kb_nat hn_x2.1 ?_
        refine lv_iadd hx hb dX7_lodger_48 ?_
        refine kb_ialdN (jn := (3 * x1.toNatClampNeg) + x2.toNatClampNeg) (n := 24) (f := v.1 8) hx hb hX hP 0 7 rfl rfl (by simp only [nI_addE, nI_mulE] <;> rfl) (by omega) (by decide) dX7_lodger_49 ?_
        exact kr_pi hx hb hr hlocks dX7_lodger_50 (by simp only [g_lodger, if_pos c_5, if_pos c_17, if_neg c_25] <;> rfl)
      · refine lv_aload_n hx hb dX7_lodger_28 rfl (lv_at hl 0 rfl) ?_
        refine kb_get (own := RX7) (C := RX7) (T := TX7) (N := 19) (v := .ref (a 9)) hx hb hts hin7 hown hX hP 0 rfl rfl rfl 10 (by decide) rfl (by decide +kernel) rfl dX7_lodger_29 ?_
        refine lv_bipush (v := 40) hx hb dX7_lodger_32 (by decide) ?_
        refine lv_iload_n hx hb dX7_lodger_34 rfl (lv_at hl 1 rfl) ?_
        refine kb_nat hn_x1.1 ?_
        refine lv_iadd hx hb dX7_lodger_35 ?_
        refine kb_ialdN (jn := 40 + x1.toNatClampNeg) (n := 552) (f := v.1 10) hx hb hX hP 0 9 rfl rfl (by simp only [nI_addE, nI_mulE] <;> rfl) (by omega) (by decide) dX7_lodger_36 ?_
        refine lv_goto (tgt := 50) hx hb dX7_lodger_37 (by decide) ?_
        exact kr_pi hx hb hr hlocks dX7_lodger_50 (by simp only [g_lodger, if_pos c_5, if_pos c_17, if_pos c_25] <;> rfl)
    · have c_17 := b2i_fN c_17r
      refine lv_iconst (v := (-1)) hx hb dX7_lodger_20 (by decide) ?_
      refine lv_goto (tgt := 50) hx hb dX7_lodger_21 (by decide) ?_
      exact kr_pi hx hb hr hlocks dX7_lodger_50 (by simp only [g_lodger, if_pos c_5, if_neg c_17] <;> rfl)

def rm_X7_grudge : Room := { frames := 2, cells := 0, slots := 0, locals := 46 }
theorem hd_X7_grudge : yX7_grudge.cls = RX7 ∧ yX7_grudge.cls ≠ "java/lang/invoke/MethodHandle" ∧ yX7_grudge.cls ≠ "java/lang/invoke/VarHandle" ∧ (parseMethodDescriptor yX7_grudge.desc).map (fun d => d.parameters.length) = some 2 := by decide +kernel
set_option maxRecDepth 100000 in
set_option maxHeartbeats 4000000 in
theorem c_X7_grudge (l : Launch) (G : GD) (a : Nat → Nat) (v : OV) (x1 : Int32) (x2 : Int32) (hD : ¬ v.1 4 0 < 0) (hD8 : (v.1 4 0).toNatClampNeg ≤ 8) (hL : ¬ v.1 7 0 < 0) (hL4 : (v.1 7 0).toNatClampNeg ≤ 4) : MetP l yX7_grudge wsX7_grudge rm_X7_grudge G [bX7 a G v] [.ref (a 0), .int x1, .int x2] (some (.int (g_grudge ((v.1 4)) ((v.1 7)) ((v.1 10)) x1 x2))) := by
  refine kb_beginP (cc := cX7_grudge) (maxL := 3) (ret := (some .int)) (by decide) rfl (Nat.le_of_ble_eq_true rfl) ?_
  intro p e s m below meth c hx hb hr hml hown hts hlocks hX hP ls hl
  have hown : s.vm.findClass RX7 = some m.cls := hown
  have hl : lv_has ls 3 [(0, .ref (a 0)), (1, .int x1), (2, .int x2)] := hl
  have hin7 : ∀ w ∈ u_ws RX7 TX7 19, w ∈ wsX7_grudge := (fun _ h => List.mem_cons_of_mem _ (List.mem_append_right _ (h)))
  refine lv_aload_n hx hb dX7_grudge_0 rfl (lv_at hl 0 rfl) ?_
  refine lv_iload_n hx hb dX7_grudge_1 rfl (lv_at hl 1 rfl) ?_
  refine kcV_p hx hb hml hown hts hX hP (c_X7_isDoor l G a v x1) gX7_grudge_X7_isDoor 1 rfl rfl rfl hd_X7_isDoor ⟨Nat.le_of_ble_eq_true rfl, Nat.le_of_ble_eq_true rfl⟩ [0] rfl 0 rfl rfl rfl hl.1 rfl rfl (Nat.le_of_ble_eq_true rfl) dX7_grudge_2 ⟨Nat.zero_le _, Nat.zero_le _⟩ ?_
  refine kb_rw (y := b2i (gIsDoor ((v.1 4)) x1)) rfl ?_
  refine lv_if_eq (tgt := 29) hx hb dX7_grudge_5 (by decide) (fun c_5r => ?_) (fun c_5r => ?_)
  · have c_5 := b2i_fN c_5r
    refine lv_iconst (v := (-1)) hx hb dX7_grudge_29 (by decide) ?_
    exact kr_pi hx hb hr hlocks dX7_grudge_30 (by simp only [g_grudge, if_neg c_5] <;> rfl)
  · have c_5 := b2i_tP c_5r
    have hn_x1 := isDoor_n c_5 hD
    have hb_x1 := hn_x1.2
    refine lv_aload_n hx hb dX7_grudge_8 rfl (lv_at hl 0 rfl) ?_
    refine lv_iload_n hx hb dX7_grudge_9 rfl (lv_at hl 2 rfl) ?_
    refine kcV_p hx hb hml hown hts hX hP (c_X7_isLodger l G a v x2) gX7_grudge_X7_isLodger 1 rfl rfl rfl hd_X7_isLodger ⟨Nat.le_of_ble_eq_true rfl, Nat.le_of_ble_eq_true rfl⟩ [0] rfl 0 rfl rfl rfl hl.1 rfl rfl (Nat.le_of_ble_eq_true rfl) dX7_grudge_10 ⟨Nat.zero_le _, Nat.zero_le _⟩ ?_
    refine kb_rw (y := b2i (gIsDoor ((v.1 7)) x2)) rfl ?_
    refine lv_if_eq (tgt := 29) hx hb dX7_grudge_13 (by decide) (fun c_13r => ?_) (fun c_13r => ?_)
    · have c_13 := b2i_fN c_13r
      refine lv_iconst (v := (-1)) hx hb dX7_grudge_29 (by decide) ?_
      exact kr_pi hx hb hr hlocks dX7_grudge_30 (by simp only [g_grudge, if_pos c_5, if_neg c_13] <;> rfl)
    · have c_13 := b2i_tP c_13r
      have hn_x2 := isDoor_n c_13 hL
      have hb_x2 := hn_x2.2
      refine lv_aload_n hx hb dX7_grudge_16 rfl (lv_at hl 0 rfl) ?_
      refine kb_get (own := RX7) (C := RX7) (T := TX7) (N := 19) (v := .ref (a 9)) hx hb hts hin7 hown hX hP 0 rfl rfl rfl 10 (by decide) rfl (by decide +kernel) rfl dX7_grudge_17 ?_
      refine lv_iconst (v := 4) hx hb dX7_grudge_20 (by decide) ?_
      refine lv_iload_n hx hb dX7_grudge_21 rfl (lv_at hl 1 rfl) ?_
      refine kb_nat hn_x1.1 ?_
      refine lv_imul hx hb dX7_grudge_22 ?_
      refine lv_iload_n hx hb dX7_grudge_23 rfl (lv_at hl 2 rfl) ?_
      refine kb_nat hn_x2.1 ?_
      refine lv_iadd hx hb dX7_grudge_24 ?_
      refine kb_ialdN (jn := (4 * x1.toNatClampNeg) + x2.toNatClampNeg) (n := 552) (f := v.1 10) hx hb hX hP 0 9 rfl rfl (by simp only [nI_addE, nI_mulE] <;> rfl) (by omega) (by decide) dX7_grudge_25 ?_
      refine lv_goto (tgt := 30) hx hb dX7_grudge_26 (by decide) ?_
      exact kr_pi hx hb hr hlocks dX7_grudge_30 (by simp only [g_grudge, if_pos c_5, if_pos c_13] <;> rfl)

def rm_X7_costs : Room := { frames := 0, cells := 0, slots := 0, locals := 0 }
theorem hd_X7_costs : yX7_costs.cls = RX7 ∧ yX7_costs.cls ≠ "java/lang/invoke/MethodHandle" ∧ yX7_costs.cls ≠ "java/lang/invoke/VarHandle" ∧ (parseMethodDescriptor yX7_costs.desc).map (fun d => d.parameters.length) = some 3 := by decide +kernel
set_option maxRecDepth 100000 in
set_option maxHeartbeats 4000000 in
theorem c_X7_costs (l : Launch) (G : GD) (a : Nat → Nat) (v : OV) (s0 : Nat) (d : Nat) (i : Nat) (hs : s0 < 12) (hd : d < 8) (hi : i < 4) : MetP l yX7_costs wsX7_costs rm_X7_costs G [bX7 a G v] [.ref (a 0), .int (nI s0), .int (nI d), .int (nI i)] (some (.int (g_costs ((v.1 10)) s0 d i))) := by
  refine kb_beginP (cc := cX7_costs) (maxL := 4) (ret := (some .int)) (by decide) rfl (Nat.le_of_ble_eq_true rfl) ?_
  intro p e s m below meth c hx hb hr hml hown hts hlocks hX hP ls hl
  have hown : s.vm.findClass RX7 = some m.cls := hown
  have hl : lv_has ls 4 [(0, .ref (a 0)), (1, .int (nI s0)), (2, .int (nI d)), (3, .int (nI i))] := hl
  have hin7 : ∀ w ∈ u_ws RX7 TX7 19, w ∈ wsX7_costs := (fun _ h => List.mem_cons_of_mem _ (List.mem_append_right _ (h)))
  refine lv_aload_n hx hb dX7_costs_0 rfl (lv_at hl 0 rfl) ?_
  refine kb_get (own := RX7) (C := RX7) (T := TX7) (N := 19) (v := .ref (a 9)) hx hb hts hin7 hown hX hP 0 rfl rfl rfl 10 (by decide) rfl (by decide +kernel) rfl dX7_costs_1 ?_
  refine lv_bipush (v := 46) hx hb dX7_costs_4 (by decide) ?_
  refine lv_iload_n hx hb dX7_costs_6 rfl (lv_at hl 1 rfl) ?_
  refine lv_imul hx hb dX7_costs_7 ?_
  refine lv_bipush (v := 32) hx hb dX7_costs_8 (by decide) ?_
  refine lv_iadd hx hb dX7_costs_10 ?_
  refine lv_iload_n hx hb dX7_costs_11 rfl (lv_at hl 2 rfl) ?_
  refine lv_iadd hx hb dX7_costs_12 ?_
  refine kb_ialdN (jn := ((46 * s0) + 32) + d) (n := 552) (f := v.1 10) hx hb hX hP 0 9 rfl rfl (by simp only [nI_addE, nI_mulE] <;> rfl) (by omega) (by decide) dX7_costs_13 ?_
  refine lv_if_le (tgt := 21) hx hb dX7_costs_14 (by decide) (fun c_14 => ?_) (fun c_14 => ?_)
  · refine lv_iconst (v := 1) hx hb dX7_costs_21 (by decide) ?_
    refine lv_aload_n hx hb dX7_costs_22 rfl (lv_at hl 0 rfl) ?_
    refine kb_get (own := RX7) (C := RX7) (T := TX7) (N := 19) (v := .ref (a 9)) hx hb hts hin7 hown hX hP 0 rfl rfl rfl 10 (by decide) rfl (by decide +kernel) rfl dX7_costs_23 ?_
    refine lv_bipush (v := 46) hx hb dX7_costs_26 (by decide) ?_
    refine lv_iload_n hx hb dX7_costs_28 rfl (lv_at hl 1 rfl) ?_
    refine lv_imul hx hb dX7_costs_29 ?_
    refine lv_iconst (v := 4) hx hb dX7_costs_30 (by decide) ?_
    refine lv_iload_n hx hb dX7_costs_31 rfl (lv_at hl 2 rfl) ?_
    refine lv_imul hx hb dX7_costs_32 ?_
    refine lv_iadd hx hb dX7_costs_33 ?_
    refine lv_iload_n hx hb dX7_costs_34 rfl (lv_at hl 3 rfl) ?_
    refine lv_iadd hx hb dX7_costs_35 ?_
    refine kb_ialdN (jn := ((46 * s0) + (4 * d)) + i) (n := 552) (f := v.1 10) hx hb hX hP 0 9 rfl rfl (by simp only [nI_addE, nI_mulE] <;> rfl) (by omega) (by decide) dX7_costs_36 ?_
    refine lv_iadd hx hb dX7_costs_37 ?_
    exact kr_pi hx hb hr hlocks dX7_costs_38 (by simp only [g_costs, if_pos c_14] <;> rfl)
  · refine lv_iconst (v := 1) hx hb dX7_costs_17 (by decide) ?_
    refine lv_goto (tgt := 38) hx hb dX7_costs_18 (by decide) ?_
    exact kr_pi hx hb hr hlocks dX7_costs_38 (by simp only [g_costs, if_neg c_14] <;> rfl)

def rm_X7_isOf : Room := { frames := 0, cells := 0, slots := 0, locals := 0 }
theorem hd_X7_isOf : yX7_isOf.cls = RX7 ∧ yX7_isOf.cls ≠ "java/lang/invoke/MethodHandle" ∧ yX7_isOf.cls ≠ "java/lang/invoke/VarHandle" ∧ (parseMethodDescriptor yX7_isOf.desc).map (fun d => d.parameters.length) = some 2 := by decide +kernel
set_option maxRecDepth 100000 in
set_option maxHeartbeats 4000000 in
theorem c_X7_isOf (l : Launch) (G : GD) (a : Nat → Nat) (v : OV) (d : Nat) (x1 : Int32) (hd : d < 8) : MetP l yX7_isOf wsX7_isOf rm_X7_isOf G [bX7 a G v] [.ref (a 0), .int (nI d), .int x1] (some (.int (b2i (g_isOf ((v.1 5)) d x1)))) := by
  refine kb_beginP (cc := cX7_isOf) (maxL := 3) (ret := (some .boolean)) (by decide) rfl (Nat.le_of_ble_eq_true rfl) ?_
  intro p e s m below meth c hx hb hr hml hown hts hlocks hX hP ls hl
  have hown : s.vm.findClass RX7 = some m.cls := hown
  have hl : lv_has ls 3 [(0, .ref (a 0)), (1, .int (nI d)), (2, .int x1)] := hl
  have hin7 : ∀ w ∈ u_ws RX7 TX7 19, w ∈ wsX7_isOf := (fun _ h => List.mem_cons_of_mem _ (List.mem_append_right _ (h)))
  refine lv_aload_n hx hb dX7_isOf_0 rfl (lv_at hl 0 rfl) ?_
  refine kb_get (own := RX7) (C := RX7) (T := TX7) (N := 19) (v := .ref (a 4)) hx hb hts hin7 hown hX hP 0 rfl rfl rfl 5 (by decide) rfl (by decide +kernel) rfl dX7_isOf_1 ?_
  refine lv_iconst (v := 3) hx hb dX7_isOf_4 (by decide) ?_
  refine lv_iload_n hx hb dX7_isOf_5 rfl (lv_at hl 1 rfl) ?_
  refine lv_imul hx hb dX7_isOf_6 ?_
  refine kb_ialdN (jn := 3 * d) (n := 48) (f := v.1 5) hx hb hX hP 0 4 rfl rfl (by simp only [nI_addE, nI_mulE] <;> rfl) (by omega) (by decide) dX7_isOf_7 ?_
  refine lv_iload_n hx hb dX7_isOf_8 rfl (lv_at hl 2 rfl) ?_
  refine lv_icmp_eq (tgt := 26) hx hb dX7_isOf_9 (by decide) (fun c_9 => ?_) (fun c_9 => ?_)
  · refine lv_iconst (v := 1) hx hb dX7_isOf_26 (by decide) ?_
    refine lv_goto (tgt := 31) hx hb dX7_isOf_27 (by decide) ?_
    exact kr_pz hx hb hr hlocks dX7_isOf_31 rfl (by simp only [g_isOf, if_pos c_9] <;> rfl)
  · refine lv_aload_n hx hb dX7_isOf_12 rfl (lv_at hl 0 rfl) ?_
    refine kb_get (own := RX7) (C := RX7) (T := TX7) (N := 19) (v := .ref (a 4)) hx hb hts hin7 hown hX hP 0 rfl rfl rfl 5 (by decide) rfl (by decide +kernel) rfl dX7_isOf_13 ?_
    refine lv_iconst (v := 3) hx hb dX7_isOf_16 (by decide) ?_
    refine lv_iload_n hx hb dX7_isOf_17 rfl (lv_at hl 1 rfl) ?_
    refine lv_imul hx hb dX7_isOf_18 ?_
    refine lv_iconst (v := 1) hx hb dX7_isOf_19 (by decide) ?_
    refine lv_iadd hx hb dX7_isOf_20 ?_
    refine kb_ialdN (jn := (3 * d) + 1) (n := 48) (f := v.1 5) hx hb hX hP 0 4 rfl rfl (by simp only [nI_addE, nI_mulE] <;> rfl) (by omega) (by decide) dX7_isOf_21 ?_
    refine lv_iload_n hx hb dX7_isOf_22 rfl (lv_at hl 2 rfl) ?_
    refine lv_icmp_ne (tgt := 30) hx hb dX7_isOf_23 (by decide) (fun c_23 => ?_) (fun c_23 => ?_)
    · refine lv_iconst (v := 0) hx hb dX7_isOf_30 (by decide) ?_
      exact kr_pz hx hb hr hlocks dX7_isOf_31 rfl (by simp only [g_isOf, if_neg c_9, if_neg c_23] <;> rfl)
    · refine lv_iconst (v := 1) hx hb dX7_isOf_26 (by decide) ?_
      refine lv_goto (tgt := 31) hx hb dX7_isOf_27 (by decide) ?_
      exact kr_pz hx hb hr hlocks dX7_isOf_31 rfl (by simp only [g_isOf, if_neg c_9, if_pos c_23] <;> rfl)

def rm_X7_over : Room := { frames := 0, cells := 0, slots := 0, locals := 0 }
theorem hd_X7_over : yX7_over.cls = RX7 ∧ yX7_over.cls ≠ "java/lang/invoke/MethodHandle" ∧ yX7_over.cls ≠ "java/lang/invoke/VarHandle" ∧ (parseMethodDescriptor yX7_over.desc).map (fun d => d.parameters.length) = some 2 := by decide +kernel
set_option maxRecDepth 100000 in
set_option maxHeartbeats 4000000 in
theorem c_X7_over (l : Launch) (G : GD) (a : Nat → Nat) (v : OV) (d : Nat) (x1 : Int32) (hd : d < 8) : MetP l yX7_over wsX7_over rm_X7_over G [bX7 a G v] [.ref (a 0), .int (nI d), .int x1] (some (.int (g_over ((v.1 5)) d x1))) := by
  refine kb_beginP (cc := cX7_over) (maxL := 3) (ret := (some .int)) (by decide) rfl (Nat.le_of_ble_eq_true rfl) ?_
  intro p e s m below meth c hx hb hr hml hown hts hlocks hX hP ls hl
  have hown : s.vm.findClass RX7 = some m.cls := hown
  have hl : lv_has ls 3 [(0, .ref (a 0)), (1, .int (nI d)), (2, .int x1)] := hl
  have hin7 : ∀ w ∈ u_ws RX7 TX7 19, w ∈ wsX7_over := (fun _ h => List.mem_cons_of_mem _ (List.mem_append_right _ (h)))
  refine lv_aload_n hx hb dX7_over_0 rfl (lv_at hl 0 rfl) ?_
  refine kb_get (own := RX7) (C := RX7) (T := TX7) (N := 19) (v := .ref (a 4)) hx hb hts hin7 hown hX hP 0 rfl rfl rfl 5 (by decide) rfl (by decide +kernel) rfl dX7_over_1 ?_
  refine lv_iconst (v := 3) hx hb dX7_over_4 (by decide) ?_
  refine lv_iload_n hx hb dX7_over_5 rfl (lv_at hl 1 rfl) ?_
  refine lv_imul hx hb dX7_over_6 ?_
  refine kb_ialdN (jn := 3 * d) (n := 48) (f := v.1 5) hx hb hX hP 0 4 rfl rfl (by simp only [nI_addE, nI_mulE] <;> rfl) (by omega) (by decide) dX7_over_7 ?_
  refine lv_iload_n hx hb dX7_over_8 rfl (lv_at hl 2 rfl) ?_
  refine lv_icmp_ne (tgt := 25) hx hb dX7_over_9 (by decide) (fun c_9 => ?_) (fun c_9 => ?_)
  · refine lv_aload_n hx hb dX7_over_25 rfl (lv_at hl 0 rfl) ?_
    refine kb_get (own := RX7) (C := RX7) (T := TX7) (N := 19) (v := .ref (a 4)) hx hb hts hin7 hown hX hP 0 rfl rfl rfl 5 (by decide) rfl (by decide +kernel) rfl dX7_over_26 ?_
    refine lv_iconst (v := 3) hx hb dX7_over_29 (by decide) ?_
    refine lv_iload_n hx hb dX7_over_30 rfl (lv_at hl 1 rfl) ?_
    refine lv_imul hx hb dX7_over_31 ?_
    refine kb_ialdN (jn := 3 * d) (n := 48) (f := v.1 5) hx hb hX hP 0 4 rfl rfl (by simp only [nI_addE, nI_mulE] <;> rfl) (by omega) (by decide) dX7_over_32 ?_
    exact kr_pi hx hb hr hlocks dX7_over_33 (by simp only [g_over, if_neg c_9] <;> rfl)
  · refine lv_aload_n hx hb dX7_over_12 rfl (lv_at hl 0 rfl) ?_
    refine kb_get (own := RX7) (C := RX7) (T := TX7) (N := 19) (v := .ref (a 4)) hx hb hts hin7 hown hX hP 0 rfl rfl rfl 5 (by decide) rfl (by decide +kernel) rfl dX7_over_13 ?_
    refine lv_iconst (v := 3) hx hb dX7_over_16 (by decide) ?_
    refine lv_iload_n hx hb dX7_over_17 rfl (lv_at hl 1 rfl) ?_
    refine lv_imul hx hb dX7_over_18 ?_
    refine lv_iconst (v := 1) hx hb dX7_over_19 (by decide) ?_
    refine lv_iadd hx hb dX7_over_20 ?_
    refine kb_ialdN (jn := (3 * d) + 1) (n := 48) (f := v.1 5) hx hb hX hP 0 4 rfl rfl (by simp only [nI_addE, nI_mulE] <;> rfl) (by omega) (by decide) dX7_over_21 ?_
    refine lv_goto (tgt := 33) hx hb dX7_over_22 (by decide) ?_
    exact kr_pi hx hb hr hlocks dX7_over_33 (by simp only [g_over, if_pos c_9] <;> rfl)

def rm_X7_becomes : Room := { frames := 0, cells := 0, slots := 0, locals := 0 }
theorem hd_X7_becomes : yX7_becomes.cls = RX7 ∧ yX7_becomes.cls ≠ "java/lang/invoke/MethodHandle" ∧ yX7_becomes.cls ≠ "java/lang/invoke/VarHandle" ∧ (parseMethodDescriptor yX7_becomes.desc).map (fun d => d.parameters.length) = some 3 := by decide +kernel
set_option maxRecDepth 100000 in
set_option maxHeartbeats 4000000 in
theorem c_X7_becomes (l : Launch) (G : GD) (a : Nat → Nat) (v : OV) (i : Nat) (x1 : Int32) (x2 : Int32) (hi : i < 4) : MetP l yX7_becomes wsX7_becomes rm_X7_becomes G [bX7 a G v] [.ref (a 0), .int (nI i), .int x1, .int x2] (some (.int (g_becomes ((v.1 3)) ((v.1 8)) i x1 x2))) := by
  refine kb_beginP (cc := cX7_becomes) (maxL := 5) (ret := (some .int)) (by decide) rfl (Nat.le_of_ble_eq_true rfl) ?_
  intro p e s m below meth c hx hb hr hml hown hts hlocks hX hP ls hl
  have hown : s.vm.findClass RX7 = some m.cls := hown
  have hl : lv_has ls 5 [(0, .ref (a 0)), (1, .int (nI i)), (2, .int x1), (3, .int x2)] := hl
  have hin7 : ∀ w ∈ u_ws RX7 TX7 19, w ∈ wsX7_becomes := (fun _ h => List.mem_cons_of_mem _ (List.mem_append_right _ (h)))
  refine lv_iload_n hx hb dX7_becomes_0 rfl (lv_at hl 3 rfl) ?_
  refine lv_if_eq (tgt := 19) hx hb dX7_becomes_1 (by decide) (fun c_1 => ?_) (fun c_1 => ?_)
  · refine lv_iload_n hx hb dX7_becomes_19 rfl (lv_at hl 2 rfl) ?_
    refine lv_aload_n hx hb dX7_becomes_20 rfl (lv_at hl 0 rfl) ?_
    refine kb_get (own := RX7) (C := RX7) (T := TX7) (N := 19) (v := .ref (a 2)) hx hb hts hin7 hown hX hP 0 rfl rfl rfl 3 (by decide) rfl (by decide +kernel) rfl dX7_becomes_21 ?_
    refine lv_iconst (v := 3) hx hb dX7_becomes_24 (by decide) ?_
    refine kb_ialdN (jn := 3) (n := 10) (f := v.1 3) hx hb hX hP 0 2 rfl rfl rfl (by omega) (by decide) dX7_becomes_25 ?_
    refine lv_isub hx hb dX7_becomes_26 ?_
    refine lv_istore (lv' := [(4, .int (x1 - ((v.1 3) 3))), (0, .ref (a 0)), (1, .int (nI i)), (2, .int x1), (3, .int x2)]) hx hb dX7_becomes_27 hl (by decide) rfl (fun ls hl => ?_)
    refine lv_iload hx hb dX7_becomes_29 (lv_at hl 0 rfl) ?_
    refine lv_if_ge (tgt := 38) hx hb dX7_becomes_31 (by decide) (fun c_31 => ?_) (fun c_31 => ?_)
    · refine lv_iload hx hb dX7_becomes_38 (lv_at hl 0 rfl) ?_
      refine lv_bipush (v := 99) hx hb dX7_becomes_40 (by decide) ?_
      refine lv_icmp_le (tgt := 50) hx hb dX7_becomes_42 (by decide) (fun c_42 => ?_) (fun c_42 => ?_)
      · refine lv_iload hx hb dX7_becomes_50 (lv_at hl 0 rfl) ?_
        exact kr_pi hx hb hr hlocks dX7_becomes_52 (by simp only [g_becomes, clampG, if_pos c_1, if_pos c_31, if_pos c_42] <;> rfl)
      · refine lv_bipush (v := 99) hx hb dX7_becomes_45 (by decide) ?_
        refine lv_goto (tgt := 52) hx hb dX7_becomes_47 (by decide) ?_
        exact kr_pi hx hb hr hlocks dX7_becomes_52 (by simp only [g_becomes, clampG, if_pos c_1, if_pos c_31, if_neg c_42] <;> rfl)
    · refine lv_iconst (v := 0) hx hb dX7_becomes_34 (by decide) ?_
      refine lv_goto (tgt := 52) hx hb dX7_becomes_35 (by decide) ?_
      exact kr_pi hx hb hr hlocks dX7_becomes_52 (by simp only [g_becomes, clampG, if_pos c_1, if_neg c_31] <;> rfl)
  · refine lv_iload_n hx hb dX7_becomes_4 rfl (lv_at hl 2 rfl) ?_
    refine lv_aload_n hx hb dX7_becomes_5 rfl (lv_at hl 0 rfl) ?_
    refine kb_get (own := RX7) (C := RX7) (T := TX7) (N := 19) (v := .ref (a 7)) hx hb hts hin7 hown hX hP 0 rfl rfl rfl 8 (by decide) rfl (by decide +kernel) rfl dX7_becomes_6 ?_
    refine lv_iconst (v := 3) hx hb dX7_becomes_9 (by decide) ?_
    refine lv_iload_n hx hb dX7_becomes_10 rfl (lv_at hl 1 rfl) ?_
    refine lv_imul hx hb dX7_becomes_11 ?_
    refine lv_iconst (v := 1) hx hb dX7_becomes_12 (by decide) ?_
    refine lv_iadd hx hb dX7_becomes_13 ?_
    refine kb_ialdN (jn := (3 * i) + 1) (n := 24) (f := v.1 8) hx hb hX hP 0 7 rfl rfl (by simp only [nI_addE, nI_mulE] <;> rfl) (by omega) (by decide) dX7_becomes_14 ?_
    refine lv_iadd hx hb dX7_becomes_15 ?_
    refine lv_goto (tgt := 27) hx hb dX7_becomes_16 (by decide) ?_
    refine lv_istore (lv' := [(4, .int (x1 + ((v.1 8) ((3 * i) + 1)))), (0, .ref (a 0)), (1, .int (nI i)), (2, .int x1), (3, .int x2)]) hx hb dX7_becomes_27 hl (by decide) rfl (fun ls hl => ?_)
    refine lv_iload hx hb dX7_becomes_29 (lv_at hl 0 rfl) ?_
    refine lv_if_ge (tgt := 38) hx hb dX7_becomes_31 (by decide) (fun c_31 => ?_) (fun c_31 => ?_)
    · refine lv_iload hx hb dX7_becomes_38 (lv_at hl 0 rfl) ?_
      refine lv_bipush (v := 99) hx hb dX7_becomes_40 (by decide) ?_
      refine lv_icmp_le (tgt := 50) hx hb dX7_becomes_42 (by decide) (fun c_42 => ?_) (fun c_42 => ?_)
      · refine lv_iload hx hb dX7_becomes_50 (lv_at hl 0 rfl) ?_
        exact kr_pi hx hb hr hlocks dX7_becomes_52 (by simp only [g_becomes, clampG, if_neg c_1, if_pos c_31, if_pos c_42] <;> rfl)
      · refine lv_bipush (v := 99) hx hb dX7_becomes_45 (by decide) ?_
        refine lv_goto (tgt := 52) hx hb dX7_becomes_47 (by decide) ?_
        exact kr_pi hx hb hr hlocks dX7_becomes_52 (by simp only [g_becomes, clampG, if_neg c_1, if_pos c_31, if_neg c_42] <;> rfl)
    · refine lv_iconst (v := 0) hx hb dX7_becomes_34 (by decide) ?_
      refine lv_goto (tgt := 52) hx hb dX7_becomes_35 (by decide) ?_
      exact kr_pi hx hb hr hlocks dX7_becomes_52 (by simp only [g_becomes, clampG, if_neg c_1, if_neg c_31] <;> rfl)

def rm_X7_many : Room := { frames := 0, cells := 0, slots := 0, locals := 0 }
theorem hdS_X7_many : yX7_many.cls ≠ "java/lang/invoke/MethodHandle" ∧ yX7_many.cls ≠ "java/lang/invoke/VarHandle" ∧ (parseMethodDescriptor yX7_many.desc).map (fun d => d.parameters.length) = some 1 := by decide +kernel
set_option maxRecDepth 100000 in
set_option maxHeartbeats 4000000 in
theorem c_X7_many (l : Launch) (G : GD) (x1 : Int32)  : MetP l yX7_many wsX7_many rm_X7_many G [] [.int x1] (some (.int (g_many x1))) := by
  refine kb_beginP (cc := cX7_many) (maxL := 3) (ret := (some .int)) (by decide) rfl (Nat.le_of_ble_eq_true rfl) ?_
  intro p e s m below meth c hx hb hr hml hown hts hlocks hX hP ls hl
  have hown : s.vm.findClass RX7 = some m.cls := hown
  have hl : lv_has ls 3 [(0, .int x1)] := hl
  refine lv_iconst (v := 0) hx hb dX7_many_0 (by decide) ?_
  refine lv_istore_n (lv' := [(1, .int 0), (0, .int x1)]) hx hb dX7_many_1 rfl hl (by decide) rfl (fun ls hl => ?_)
  refine lv_iconst (v := 0) hx hb dX7_many_2 (by decide) ?_
  refine lv_istore_n (lv' := [(2, .int 0), (1, .int 0), (0, .int x1)]) hx hb dX7_many_3 rfl hl (by decide) rfl (fun ls hl => ?_)
  refine lp_up (N := 8) (P := fun k => ∀ (ls : Array Slot), lv_has ls 3 [(2, .int (nI k)), (1, .int (itN (s_many x1) 0 k)), (0, .int x1)] →  W p l e (headSpec wsX7_many rm_X7_many).room s m ([.int x1] : List Value).toArray below meth c s.heap [] 0 0 (MQ below (kQp (some (.int (g_many x1)))) ([.int x1] : List Value).toArray s 0 0 (fun _ => False)) (F0 m 4 ls [])) ?_ ?_ 0 (Nat.zero_le _)  _ (lv_sub hl [0, 1, 2] rfl) 
  · skip
    intro ls hl 
    refine lv_iload_n hx hb dX7_many_4 rfl (lv_at hl 0 rfl) ?_
    refine lv_bipush (v := 8) hx hb dX7_many_5 (by decide) ?_
    refine lv_icmp_ge (tgt := 24) hx hb dX7_many_7 (by decide) (fun c_7 => ?_) (fun c_7 => absurd ((by decide : (8 : Int32) ≤ nI 8)) c_7)
    refine lv_iload_n hx hb dX7_many_24 rfl (lv_at hl 1 rfl) ?_
    exact kr_pi hx hb hr hlocks dX7_many_25 (by rfl)
  · skip
    intro k hk_k ih_4 ls hl 
    refine lv_iload_n hx hb dX7_many_4 rfl (lv_at hl 0 rfl) ?_
    refine lv_bipush (v := 8) hx hb dX7_many_5 (by decide) ?_
    refine lv_icmp_ge (tgt := 24) hx hb dX7_many_7 (by decide) (fun c_7 => absurd c_7 (nI_ge (b := 8) hk_k (by decide))) (fun c_7 => ?_)
    refine lv_iload_n hx hb dX7_many_10 rfl (lv_at hl 1 rfl) ?_
    refine lv_iload_n hx hb dX7_many_11 rfl (lv_at hl 2 rfl) ?_
    refine lv_iload_n hx hb dX7_many_12 rfl (lv_at hl 0 rfl) ?_
    refine lv_ishr hx hb dX7_many_13 ?_
    refine lv_iconst (v := 1) hx hb dX7_many_14 (by decide) ?_
    refine lv_iand hx hb dX7_many_15 ?_
    refine lv_iadd hx hb dX7_many_16 ?_
    refine lv_istore_n (lv' := [(1, .int ((itN (s_many x1) 0 k) + ((x1 >>> ((nI k) &&& 31)) &&& 1))), (2, .int (nI k)), (0, .int x1)]) hx hb dX7_many_17 rfl hl (by decide) rfl (fun ls hl => ?_)
    refine lv_iinc (v := nI (k + 1)) (lv' := [(2, .int (nI (k + 1))), (1, .int ((itN (s_many x1) 0 k) + ((x1 >>> ((nI k) &&& 31)) &&& 1))), (0, .int x1)]) hx hb dX7_many_18 hl (k := 1) rfl (nI_1 _) (by decide) rfl (fun ls hl => ?_)
    refine lv_goto (tgt := 4) hx hb dX7_many_21 (by decide) ?_
    exact ih_4  _ (show lv_has ls 3 [(2, .int (nI (k + 1))), (1, .int (itN (s_many x1) 0 (k + 1))), (0, .int x1)] from lv_sub hl [0, 1, 2] rfl) 

def rm_X7_isBehind : Room := { frames := 1, cells := 0, slots := 0, locals := 25 }
theorem hdS_X7_isBehind : yX7_isBehind.cls ≠ "java/lang/invoke/MethodHandle" ∧ yX7_isBehind.cls ≠ "java/lang/invoke/VarHandle" ∧ (parseMethodDescriptor yX7_isBehind.desc).map (fun d => d.parameters.length) = some 1 := by decide +kernel
set_option maxRecDepth 100000 in
set_option maxHeartbeats 4000000 in
theorem c_X7_isBehind (l : Launch) (G : GD) (x1 : Int32)  : MetP l yX7_isBehind wsX7_isBehind rm_X7_isBehind G [] [.int x1] (some (.int (b2i (g_isBehind x1)))) := by
  refine kb_beginP (cc := cX7_isBehind) (maxL := 1) (ret := (some .boolean)) (by decide) rfl (Nat.le_of_ble_eq_true rfl) ?_
  intro p e s m below meth c hx hb hr hml hown hts hlocks hX hP ls hl
  have hown : s.vm.findClass RX7 = some m.cls := hown
  have hl : lv_has ls 1 [(0, .int x1)] := hl
  refine lv_iload_n hx hb dX7_isBehind_0 rfl (lv_at hl 0 rfl) ?_
  refine lv_i2l (v := (x1 : Int32).toInt64) hx hb dX7_isBehind_1 rfl ?_
  refine lv_lconst (v := 0) hx hb dX7_isBehind_2 (by decide) ?_
  refine lv_ldc2 (own := RX7) (v := 60) hx hb hown (hts (.constantLong RX7 153 60) (by decide +kernel)) dX7_isBehind_3 ?_
  refine kcS_p hx hb hml hown hts hX hP (c_X7_in l G ((x1 : Int32).toInt64) 0 60) gX7_isBehind_X7_in 3 rfl rfl rfl hdS_X7_in ⟨Nat.le_of_ble_eq_true rfl, Nat.le_of_ble_eq_true rfl⟩ (fun q hq => absurd hq List.not_mem_nil) hl.1 rfl rfl (Nat.le_of_ble_eq_true rfl) dX7_isBehind_6 ⟨Nat.zero_le _, Nat.zero_le _⟩ ?_
  exact kr_pz hx hb hr hlocks dX7_isBehind_9 (narrow_b2i _) (by rfl)

def rm_X7_news : Room := { frames := 0, cells := 0, slots := 0, locals := 0 }
theorem hd_X7_news : yX7_news.cls = RX7 ∧ yX7_news.cls ≠ "java/lang/invoke/MethodHandle" ∧ yX7_news.cls ≠ "java/lang/invoke/VarHandle" ∧ (parseMethodDescriptor yX7_news.desc).map (fun d => d.parameters.length) = some 1 := by decide +kernel
set_option maxRecDepth 100000 in
set_option maxHeartbeats 4000000 in
theorem c_X7_news (l : Launch) (G : GD) (a : Nat → Nat) (v : OV) (d : Nat) (hd : d < 8) (hL4 : (v.1 7 0).toNatClampNeg ≤ 4) (hL0 : ¬ v.1 7 0 = 0) : MetP l yX7_news wsX7_news rm_X7_news G [bX7 a G v] [.ref (a 0), .int (nI d)] (some (.int (g_news ((v.1 7)) ((v.1 10)) d))) := by
  refine kb_beginP (cc := cX7_news) (maxL := 4) (ret := (some .int)) (by decide) rfl (Nat.le_of_ble_eq_true rfl) ?_
  intro p e s m below meth c hx hb hr hml hown hts hlocks hX hP ls hl
  have hown : s.vm.findClass RX7 = some m.cls := hown
  have hl : lv_has ls 4 [(0, .ref (a 0)), (1, .int (nI d))] := hl
  have hin7 : ∀ w ∈ u_ws RX7 TX7 19, w ∈ wsX7_news := (fun _ h => List.mem_cons_of_mem _ (List.mem_append_right _ (h)))
  refine lv_iconst (v := 0) hx hb dX7_news_0 (by decide) ?_
  refine lv_istore_n (lv' := [(2, .int 0), (0, .ref (a 0)), (1, .int (nI d))]) hx hb dX7_news_1 rfl hl (by decide) rfl (fun ls hl => ?_)
  refine lv_iconst (v := 0) hx hb dX7_news_2 (by decide) ?_
  refine lv_istore_n (lv' := [(3, .int 0), (2, .int 0), (0, .ref (a 0)), (1, .int (nI d))]) hx hb dX7_news_3 rfl hl (by decide) rfl (fun ls hl => ?_)
  refine lp_up (N := (v.1 7 0).toNatClampNeg) (P := fun k => ∀ (ls : Array Slot), lv_has ls 4 [(3, .int (nI k)), (2, .int (itN (s_news (v.1 10) d) 0 k)), (0, .ref (a 0)), (1, .int (nI d))] →  W p l e (headSpec wsX7_news rm_X7_news).room s m ([.ref (a 0), .int (nI d)] : List Value).toArray below meth c s.heap [] 0 0 (MQ below (kQp (some (.int (g_news ((v.1 7)) ((v.1 10)) d)))) ([.ref (a 0), .int (nI d)] : List Value).toArray s 0 0 (fun _ => False)) (F0 m 4 ls [])) ?_ ?_ 0 (Nat.zero_le _)  _ (lv_sub hl [0, 1, 2, 3] rfl) 
  · skip
    intro ls hl 
    refine lv_iload_n hx hb dX7_news_4 rfl (lv_at hl 0 rfl) ?_
    refine lv_aload_n hx hb dX7_news_5 rfl (lv_at hl 2 rfl) ?_
    refine kb_get (own := RX7) (C := RX7) (T := TX7) (N := 19) (v := .ref (a 6)) hx hb hts hin7 hown hX hP 0 rfl rfl rfl 7 (by decide) rfl (by decide +kernel) rfl dX7_news_6 ?_
    refine lv_iconst (v := 0) hx hb dX7_news_9 (by decide) ?_
    refine kb_ialdN (jn := 0) (n := 2) (f := v.1 7) hx hb hX hP 0 6 rfl rfl rfl (by omega) (by decide) dX7_news_10 ?_
    refine lv_icmp_ge (tgt := 33) hx hb dX7_news_11 (by decide) (fun c_11 => ?_) (fun c_11 => absurd (lpx_c _) c_11)
    refine lv_iload_n hx hb dX7_news_33 rfl (lv_at hl 1 rfl) ?_
    refine lv_aload_n hx hb dX7_news_34 rfl (lv_at hl 2 rfl) ?_
    refine kb_get (own := RX7) (C := RX7) (T := TX7) (N := 19) (v := .ref (a 6)) hx hb hts hin7 hown hX hP 0 rfl rfl rfl 7 (by decide) rfl (by decide +kernel) rfl dX7_news_35 ?_
    refine lv_iconst (v := 0) hx hb dX7_news_38 (by decide) ?_
    refine kb_ialdN (jn := 0) (n := 2) (f := v.1 7) hx hb hX hP 0 6 rfl rfl rfl (by omega) (by decide) dX7_news_39 ?_
    refine lv_idiv hx hb dX7_news_40 hL0 ?_
    exact kr_pi hx hb hr hlocks dX7_news_41 (by rfl)
  · skip
    intro k hk_k ih_4 ls hl 
    refine lv_iload_n hx hb dX7_news_4 rfl (lv_at hl 0 rfl) ?_
    refine lv_aload_n hx hb dX7_news_5 rfl (lv_at hl 2 rfl) ?_
    refine kb_get (own := RX7) (C := RX7) (T := TX7) (N := 19) (v := .ref (a 6)) hx hb hts hin7 hown hX hP 0 rfl rfl rfl 7 (by decide) rfl (by decide +kernel) rfl dX7_news_6 ?_
    refine lv_iconst (v := 0) hx hb dX7_news_9 (by decide) ?_
    refine kb_ialdN (jn := 0) (n := 2) (f := v.1 7) hx hb hX hP 0 6 rfl rfl rfl (by omega) (by decide) dX7_news_10 ?_
    refine lv_icmp_ge (tgt := 33) hx hb dX7_news_11 (by decide) (fun c_11 => absurd c_11 (lps_c hk_k)) (fun c_11 => ?_)
    refine lv_iload_n hx hb dX7_news_14 rfl (lv_at hl 1 rfl) ?_
    refine lv_aload_n hx hb dX7_news_15 rfl (lv_at hl 2 rfl) ?_
    refine kb_get (own := RX7) (C := RX7) (T := TX7) (N := 19) (v := .ref (a 9)) hx hb hts hin7 hown hX hP 0 rfl rfl rfl 10 (by decide) rfl (by decide +kernel) rfl dX7_news_16 ?_
    refine lv_iconst (v := 4) hx hb dX7_news_19 (by decide) ?_
    refine lv_iload_n hx hb dX7_news_20 rfl (lv_at hl 3 rfl) ?_
    refine lv_imul hx hb dX7_news_21 ?_
    refine lv_iload_n hx hb dX7_news_22 rfl (lv_at hl 0 rfl) ?_
    refine lv_iadd hx hb dX7_news_23 ?_
    refine kb_ialdN (jn := (4 * d) + k) (n := 552) (f := v.1 10) hx hb hX hP 0 9 rfl rfl (by simp only [nI_addE, nI_mulE] <;> rfl) (by omega) (by decide) dX7_news_24 ?_
    refine lv_iadd hx hb dX7_news_25 ?_
    refine lv_istore_n (lv' := [(2, .int ((itN (s_news (v.1 10) d) 0 k) + ((v.1 10) ((4 * d) + k)))), (3, .int (nI k)), (0, .ref (a 0)), (1, .int (nI d))]) hx hb dX7_news_26 rfl hl (by decide) rfl (fun ls hl => ?_)
    refine lv_iinc (v := nI (k + 1)) (lv' := [(3, .int (nI (k + 1))), (2, .int ((itN (s_news (v.1 10) d) 0 k) + ((v.1 10) ((4 * d) + k)))), (0, .ref (a 0)), (1, .int (nI d))]) hx hb dX7_news_27 hl (k := 1) rfl (nI_1 _) (by decide) rfl (fun ls hl => ?_)
    refine lv_goto (tgt := 4) hx hb dX7_news_30 (by decide) ?_
    exact ih_4  _ (show lv_has ls 4 [(3, .int (nI (k + 1))), (2, .int (itN (s_news (v.1 10) d) 0 (k + 1))), (0, .ref (a 0)), (1, .int (nI d))] from lv_sub hl [0, 1, 2, 3] rfl) 

def rm_X7_count : Room := { frames := 0, cells := 0, slots := 0, locals := 0 }
theorem hd_X7_count : yX7_count.cls = RX7 ∧ yX7_count.cls ≠ "java/lang/invoke/MethodHandle" ∧ yX7_count.cls ≠ "java/lang/invoke/VarHandle" ∧ (parseMethodDescriptor yX7_count.desc).map (fun d => d.parameters.length) = some 1 := by decide +kernel
set_option maxRecDepth 100000 in
set_option maxHeartbeats 4000000 in
theorem c_X7_count (l : Launch) (G : GD) (a : Nat → Nat) (v : OV) (x1 : Int32)  : MetP l yX7_count wsX7_count rm_X7_count G [bX7 a G v] [.ref (a 0), .int x1] (some (.int (g_count v x1))) := by
  refine kb_beginP (cc := cX7_count) (maxL := 2) (ret := (some .int)) (by decide) rfl (Nat.le_of_ble_eq_true rfl) ?_
  intro p e s m below meth c hx hb hr hml hown hts hlocks hX hP ls hl
  have hown : s.vm.findClass RX7 = some m.cls := hown
  have hl : lv_has ls 2 [(0, .ref (a 0)), (1, .int x1)] := hl
  have hin7 : ∀ w ∈ u_ws RX7 TX7 19, w ∈ wsX7_count := (fun _ h => List.mem_cons_of_mem _ (List.mem_append_right _ (h)))
  refine lv_iload_n hx hb dX7_count_0 rfl (lv_at hl 1 rfl) ?_
  by_cases h1_0 : x1 = 0
  · refine kb_tIn (tgt := 48) hx hb h1_0 dX7_count_1 (by decide) (by decide) rfl (by decide) ?_
    refine lv_aload_n hx hb dX7_count_48 rfl (lv_at hl 0 rfl) ?_
    refine kb_get (own := RX7) (C := RX7) (T := TX7) (N := 19) (v := .ref (a 2)) hx hb hts hin7 hown hX hP 0 rfl rfl rfl 3 (by decide) rfl (by decide +kernel) rfl dX7_count_49 ?_
    refine lv_iconst (v := 0) hx hb dX7_count_52 (by decide) ?_
    refine kb_ialdN (jn := 0) (n := 10) (f := v.1 3) hx hb hX hP 0 2 rfl rfl rfl (by omega) (by decide) dX7_count_53 ?_
    exact kr_pi hx hb hr hlocks dX7_count_54 (by simp only [g_count, if_pos h1_0] <;> rfl)
  by_cases h1_1 : x1 = 1
  · refine kb_tIn (tgt := 55) hx hb h1_1 dX7_count_1 (by decide) (by decide) rfl (by decide) ?_
    refine lv_aload_n hx hb dX7_count_55 rfl (lv_at hl 0 rfl) ?_
    refine kb_get (own := RX7) (C := RX7) (T := TX7) (N := 19) (v := .ref (a 3)) hx hb hts hin7 hown hX hP 0 rfl rfl rfl 4 (by decide) rfl (by decide +kernel) rfl dX7_count_56 ?_
    refine lv_iconst (v := 0) hx hb dX7_count_59 (by decide) ?_
    refine kb_ialdN (jn := 0) (n := 2) (f := v.1 4) hx hb hX hP 0 3 rfl rfl rfl (by omega) (by decide) dX7_count_60 ?_
    exact kr_pi hx hb hr hlocks dX7_count_61 (by simp only [g_count, if_neg h1_0, if_pos h1_1] <;> rfl)
  by_cases h1_2 : x1 = 2
  · refine kb_tIn (tgt := 62) hx hb h1_2 dX7_count_1 (by decide) (by decide) rfl (by decide) ?_
    refine lv_aload_n hx hb dX7_count_62 rfl (lv_at hl 0 rfl) ?_
    refine kb_get (own := RX7) (C := RX7) (T := TX7) (N := 19) (v := .ref (a 6)) hx hb hts hin7 hown hX hP 0 rfl rfl rfl 7 (by decide) rfl (by decide +kernel) rfl dX7_count_63 ?_
    refine lv_iconst (v := 0) hx hb dX7_count_66 (by decide) ?_
    refine kb_ialdN (jn := 0) (n := 2) (f := v.1 7) hx hb hX hP 0 6 rfl rfl rfl (by omega) (by decide) dX7_count_67 ?_
    exact kr_pi hx hb hr hlocks dX7_count_68 (by simp only [g_count, if_neg h1_0, if_neg h1_1, if_pos h1_2] <;> rfl)
  by_cases h1_3 : x1 = 3
  · refine kb_tIn (tgt := 69) hx hb h1_3 dX7_count_1 (by decide) (by decide) rfl (by decide) ?_
    refine lv_aload_n hx hb dX7_count_69 rfl (lv_at hl 0 rfl) ?_
    refine kb_get (own := RX7) (C := RX7) (T := TX7) (N := 19) (v := .ref (a 9)) hx hb hts hin7 hown hX hP 0 rfl rfl rfl 10 (by decide) rfl (by decide +kernel) rfl dX7_count_70 ?_
    refine lv_bipush (v := 44) hx hb dX7_count_73 (by decide) ?_
    refine kb_ialdN (jn := 44) (n := 552) (f := v.1 10) hx hb hX hP 0 9 rfl rfl rfl (by omega) (by decide) dX7_count_75 ?_
    exact kr_pi hx hb hr hlocks dX7_count_76 (by simp only [g_count, if_neg h1_0, if_neg h1_1, if_neg h1_2, if_pos h1_3] <;> rfl)
  by_cases h1_4 : x1 = 4
  · refine kb_tIn (tgt := 77) hx hb h1_4 dX7_count_1 (by decide) (by decide) rfl (by decide) ?_
    refine lv_aload_n hx hb dX7_count_77 rfl (lv_at hl 0 rfl) ?_
    refine kb_get (own := RX7) (C := RX7) (T := TX7) (N := 19) (v := .ref (a 9)) hx hb hts hin7 hown hX hP 0 rfl rfl rfl 10 (by decide) rfl (by decide +kernel) rfl dX7_count_78 ?_
    refine lv_bipush (v := 45) hx hb dX7_count_81 (by decide) ?_
    refine kb_ialdN (jn := 45) (n := 552) (f := v.1 10) hx hb hX hP 0 9 rfl rfl rfl (by omega) (by decide) dX7_count_83 ?_
    exact kr_pi hx hb hr hlocks dX7_count_84 (by simp only [g_count, if_neg h1_0, if_neg h1_1, if_neg h1_2, if_neg h1_3, if_pos h1_4] <;> rfl)
  by_cases h1_5 : x1 = 5
  · refine kb_tIn (tgt := 85) hx hb h1_5 dX7_count_1 (by decide) (by decide) rfl (by decide) ?_
    refine lv_aload_n hx hb dX7_count_85 rfl (lv_at hl 0 rfl) ?_
    refine kb_get (own := RX7) (C := RX7) (T := TX7) (N := 19) (v := .int (v.2 12)) hx hb hts hin7 hown hX hP 0 rfl rfl rfl 12 (by decide) rfl (by decide +kernel) rfl dX7_count_86 ?_
    exact kr_pi hx hb hr hlocks dX7_count_89 (by simp only [g_count, if_neg h1_0, if_neg h1_1, if_neg h1_2, if_neg h1_3, if_neg h1_4, if_pos h1_5] <;> rfl)
  by_cases h1_6 : x1 = 6
  · refine kb_tIn (tgt := 90) hx hb h1_6 dX7_count_1 (by decide) (by decide) rfl (by decide) ?_
    refine lv_aload_n hx hb dX7_count_90 rfl (lv_at hl 0 rfl) ?_
    refine kb_get (own := RX7) (C := RX7) (T := TX7) (N := 19) (v := .int (v.2 11)) hx hb hts hin7 hown hX hP 0 rfl rfl rfl 11 (by decide) rfl (by decide +kernel) rfl dX7_count_91 ?_
    exact kr_pi hx hb hr hlocks dX7_count_94 (by simp only [g_count, if_neg h1_0, if_neg h1_1, if_neg h1_2, if_neg h1_3, if_neg h1_4, if_neg h1_5, if_pos h1_6] <;> rfl)
  by_cases h1_7 : x1 = 7
  · refine kb_tIn (tgt := 95) hx hb h1_7 dX7_count_1 (by decide) (by decide) rfl (by decide) ?_
    refine lv_aload_n hx hb dX7_count_95 rfl (lv_at hl 0 rfl) ?_
    refine kb_get (own := RX7) (C := RX7) (T := TX7) (N := 19) (v := .int (v.2 0)) hx hb hts hin7 hown hX hP 0 rfl rfl rfl 0 (by decide) rfl (by decide +kernel) rfl dX7_count_96 ?_
    exact kr_pi hx hb hr hlocks dX7_count_99 (by simp only [g_count, if_neg h1_0, if_neg h1_1, if_neg h1_2, if_neg h1_3, if_neg h1_4, if_neg h1_5, if_neg h1_6, if_pos h1_7] <;> rfl)
  have t1_0 : x1.toInt ≠ 0 := fun e => h1_0 (Int32.toInt_inj.mp (e.trans (by decide)))
  have t1_1 : x1.toInt ≠ 1 := fun e => h1_1 (Int32.toInt_inj.mp (e.trans (by decide)))
  have t1_2 : x1.toInt ≠ 2 := fun e => h1_2 (Int32.toInt_inj.mp (e.trans (by decide)))
  have t1_3 : x1.toInt ≠ 3 := fun e => h1_3 (Int32.toInt_inj.mp (e.trans (by decide)))
  have t1_4 : x1.toInt ≠ 4 := fun e => h1_4 (Int32.toInt_inj.mp (e.trans (by decide)))
  have t1_5 : x1.toInt ≠ 5 := fun e => h1_5 (Int32.toInt_inj.mp (e.trans (by decide)))
  have t1_6 : x1.toInt ≠ 6 := fun e => h1_6 (Int32.toInt_inj.mp (e.trans (by decide)))
  have t1_7 : x1.toInt ≠ 7 := fun e => h1_7 (Int32.toInt_inj.mp (e.trans (by decide)))
  refine kb_tOut (tgt := 100) hx hb dX7_count_1 (by omega) (by decide) ?_
  refine lv_iconst (v := (-1)) hx hb dX7_count_100 (by decide) ?_
  exact kr_pi hx hb hr hlocks dX7_count_101 (by simp only [g_count, if_neg h1_0, if_neg h1_1, if_neg h1_2, if_neg h1_3, if_neg h1_4, if_neg h1_5, if_neg h1_6, if_neg h1_7] <;> rfl)
