/-! the law: where the loop stands -/
def WL (G : GD) (h0 : Nat) (a tx nw tr un kp wy rm pl dr : Nat → Nat) (vt vn vr : OV) (adu : Nat → Nat → Nat) (hvu : Nat → OV) (nu : Nat) (adk : Nat → Nat → Nat) (hvk : Nat → OV) (nk : Nat) (vy vm vp vd v : OV) : List va_W := [bX6 h0 (tx 0) (nw 0) (tr 0) (un 0) (kp 0) (wy 0) (rm 0) (pl 0) (dr 0), bX4 tx G vt, bX0 nw G vn, bX0 tr G vr, bX1 un G 8 adu hvu nu, bX1 kp G 2 adk hvk nk, bX5 wy G vy, bX3 rm G vm, bX2 pl G vp, bX2 dr G vd, bX7 a G v]
def LE (p : Program) (s : State) (m : MethodId) (meth : Method) (c : Code) (b L : Nat) (xs : Nat → Int32) (G : GD) : Prop :=
  p.tables.exec = Jvm.exec ∧ c.code = cL_law ∧ c.maxLocals = 4 ∧ s.vm.findClass RL = some m.cls ∧ (∀ w ∈ wsL_law, w.before #[Value.ref b] s = true) ∧ va_X b L xs s s.heap ∧ b < s.heap.size ∧ CX G s ∧ L ≤ 3072
/-- from a place of the loop with nothing on the stack, in any world in which both sides tell the same, the law comes to its end -/
def Nxt (p : Program) (l : Launch) (e : Env) (s : State) (m : MethodId) (below : List Frame) (meth : Method) (c : Code) (b : Nat) (Z : State → Prop) (G : GD) (h0 : Nat) (a : Nat → Nat) (pc k : Nat) : Prop :=
  ∀ (tx nw tr un kp wy rm pl dr : Nat → Nat) (vt vn vr : OV) (adu : Nat → Nat → Nat) (hvu : Nat → OV) (nu : Nat) (adk : Nat → Nat → Nat) (hvk : Nat → OV) (nk : Nat) (vy vm vp vd v : OV) (q : PN) (H : Heap) (locs : List Loc) (ls : Array Slot),
    PP G (WL G h0 a tx nw tr un kp wy rm pl dr vt vn vr adu hvu nu adk hvk nk vy vm vp vd v) H → DD (fun q : Nat => s.heap.size ≤ q) (WL G h0 a tx nw tr un kp wy rm pl dr vt vn vr adu hvu nu adk hvk nk vy vm vp vd v) → va_S (fun q : Nat => s.heap.size ≤ q) s.heap H locs → lv_has ls 4 [(3, .int (nI (6 * k))), (2, .ref (a 0)), (1, .ref h0), (0, .ref b)] → RelQ q vt vn vp hvu nu hvk nk v →
    W p l e room_1 s m #[Value.ref b] below meth c H locs 106 2337 Z (F0 m pc ls [])
theorem ixs {L k j : Nat} (hL : L ≤ 3072) (hk : 6 * k + 6 ≤ L) (hj : j < 6) : vp_in (nI (6 * k) + nI j) L := by
  rw [nI_add]
  exact vp_in_nI (by omega) (by omega)
theorem sw_perm {α : Type} (f r : List (List α)) (x y : List α) : (f ++ y :: x :: r).flatten.Perm (f ++ x :: y :: r).flatten := List.Perm.flatten (List.Perm.append_left f (List.Perm.swap x y r))
theorem PP_sw {G : GD} {f r : List va_W} {x y : va_W} {H : Heap} (h : PP G (f ++ x :: y :: r) H) : PP G (f ++ y :: x :: r) H := P_iff.mpr (fun q hq => P_iff.mp h q ((sw_perm f r x y).mem_iff.mp hq))
theorem DD_sw {A : Nat → Prop} {f r : List va_W} {x y : va_W} (h : DD A (f ++ x :: y :: r)) : DD A (f ++ y :: x :: r) := D_perm h ((sw_perm f r x y).map Prod.fst)
theorem and31 (x : Int32) : ∃ t, t < 32 ∧ x &&& 31 = nI t := by
  refine ⟨(x &&& 31).toBitVec.toNat, ?_, ?_⟩
  · show (x.toBitVec &&& 31#32).toNat < 32
    rw [BitVec.toNat_and]
    exact Nat.lt_of_le_of_lt Nat.and_le_right (by decide)
  · apply Int32.toBitVec_inj.mp
    show _ = BitVec.ofNat 32 _
    rw [BitVec.ofNat_toNat, BitVec.setWidth_eq]
theorem lw_more {L k : Nat} (hL : L ≤ 3072) (hk : k ≤ 600) (h : ¬ nI L - 6 < nI (6 * k)) : 6 * k + 6 ≤ L := by
  have e : nI L - 6 = Int32.ofInt ((L : Int) - 6) := by rw [Int32.ofInt_sub, ← nI_ofInt]; rfl
  rw [e, Int32.lt_iff_toInt_lt, ofInt_t (by omega) (by omega), nI_toInt (by omega)] at h
  omega
section LB
variable {q : PN} {vt vn vp v : OV} {hvu hvk : Nat → OV} {nu nk : Nat}
theorem RelQ.cpre (h : RelQ q vt vn vp hvu nu hvk nk v) : ¬ vp.2 9 < 0 ∧ (vp.2 9).toNatClampNeg ≤ 8 ∧ ¬ vp.2 10 < 0 := by
  have h8 := h.1.2.1.2
  have h4 := h.1.2.2.1.2
  have hw := h.2.1
  rw [hw.2.2.2.2.1, hw.2.2.2.2.2.1, nI_clamp (by omega)]
  exact ⟨nI_pos (by omega), h8, nI_pos (by omega)⟩
theorem RelQ.len (h : RelQ q vt vn vp hvu nu hvk nk v) : ∃ len, v.2 0 = nI len ∧ len ≤ 300 := by
  obtain ⟨bt, len, t1, t2, t3, t4, t5⟩ := h.2.2.2.2.2.2
  exact ⟨len, t4, t1⟩
theorem RelQ.day (h : RelQ q vt vn vp hvu nu hvk nk v) (z n : Nat) : ∀ k, k < n → dayOk v (q.2 10) z k (g_week v (q.2 10) z k) := by
  obtain ⟨hq, hw, hv, ⟨m, hh, hu, hS⟩, hU, hK, ht⟩ := h
  exact fun k _ => r_weekDay hq hv hh hS z k
end LB
