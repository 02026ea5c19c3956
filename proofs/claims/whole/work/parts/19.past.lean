/-! the past: houses in a row -/
section KQ
variable {p : Program} {l : Launch} {e : Env} {R : Room} {s : State} {m : MethodId} {args : Array Value} {below : List Frame} {meth : Method} {c : Code} {H : Heap} {locs : List Loc} {cells slots : Nat} {Q : State → Prop}
variable {cc : ByteArray} {pc : Nat} {ls : Array Slot} {rest : List Value} {G : GD} {A : Nat → Prop} {a : Nat} {bs : List va_W} {H0 : Heap}
theorem kb_rwq {x y : Value} (h : x = y) (k : W p l e R s m args below meth c H locs cells slots Q (F0 m pc ls (y :: rest))) : W p l e R s m args below meth c H locs cells slots Q (F0 m pc ls (x :: rest)) := by
  subst h
  exact k
theorem kb_astq (hx : p.tables.exec = Jvm.exec) (hb : c.code = cc) (hX : CX G s) (hP : va_P G.1 vwCl bs.flatten H) (hD : va_D A bs.flatten) (hS : va_S A H0 H locs) (i j i' j' : Nat) {b b' : va_W} {n v : Nat} {vs : List Value} {f f' : Nat → Option Nat} (hi : bs[i]? = some b) (hj : b[j]? = some (a, .inl (G.2.2.2, n, .inr (.inr (.inr (.inr f)))))) (hi' : bs[i']? = some b') (hj' : b'[j']? = some (v, .inr (0, vs))) {k : Int32} (hin : vp_in k n) (hf : va_up f k.toNatClampNeg (some v) = f') (hdg : decode cc pc = .ok (.aastore, 1))
    {b2 : va_W} (hs2 : b.set j (a, .inl (G.2.2.2, n, .inr (.inr (.inr (.inr f'))))) = b2) (kk : ∀ (H1 : Heap) (locs1 : List Loc), va_P G.1 vwCl (bs.set i b2).flatten H1 → va_D A (bs.set i b2).flatten → va_S A H0 H1 locs1 → W p l e R s m args below meth c H1 locs1 cells slots Q (F0 m (pc + 1) ls rest)) : W p l e R s m args below meth c H locs cells slots Q (F0 m pc ls (.ref v :: .int k :: .ref a :: rest)) := by
  obtain ⟨q, hq, hset⟩ := bl_at _ _ _ _ _ hi hj
  obtain ⟨q', hq', -⟩ := bl_at _ _ _ _ _ hi' hj'
  subst hf
  refine va_astq (r := (RX0, TX0, 6)) hx hb hX.1 hP hD hS q 2 q' 0 hq rfl hq' rfl hin hdg (fun H1 locs1 h1 h2 h3 => ?_)
  rw [hset, hs2] at h1 h2
  exact kk H1 locs1 h1 h2 h3
theorem kr_pa {v : Nat} {C : String} {x : Option Value} {av : Array Value} (hx : p.tables.exec = Jvm.exec) (hb : c.code = cc) (hr : meth.sig.returnType = some (.object C)) (hlocks : meth.locks = false) (hdg : decode cc pc = .ok (.areturn, 1)) (hv : some (.ref v) = x) : W p l e R s m av below meth c s.heap [] 0 0 (MQ below (kQp x) av s 0 0 (fun _ => False)) (F0 m pc ls [.ref v]) :=
  W.aret hx hb hr (Or.inl ⟨_, rfl⟩) (Or.inr ⟨_, rfl⟩) (fun t ht _ => ⟨by rw [hv], ht⟩) (fun _ h => by cases h) hdg hlocks
theorem kr_pn {C : String} {x : Option Value} {av : Array Value} (hx : p.tables.exec = Jvm.exec) (hb : c.code = cc) (hr : meth.sig.returnType = some (.object C)) (hlocks : meth.locks = false) (hdg : decode cc pc = .ok (.areturn, 1)) (hv : some .null = x) : W p l e R s m av below meth c s.heap [] 0 0 (MQ below (kQp x) av s 0 0 (fun _ => False)) (F0 m pc ls [.null]) :=
  W.aret hx hb hr (Or.inl ⟨_, rfl⟩) (Or.inl rfl) (fun t ht _ => ⟨by rw [hv], ht⟩) (fun _ h => by cases h) hdg hlocks
end KQ
def hsGo (G : GD) (ad : Nat → Nat → Nat) (hv : Nat → OV) : Nat → Nat → va_W
  | 0, _ => []
  | n + 1, k => bX0 (ad k) G (hv k) ++ hsGo G ad hv n (k + 1)
def hX1 (a : Nat → Nat) (G : GD) (m : Nat) (f : Nat → Option Nat) (n : Nat) : va_W := [(a 0, .inr (1, [.ref (a 1), .int (nI n)])), (a 1, .inl (G.2.2.2, m, .inr (.inr (.inr (.inr f)))))]
def bX1 (a : Nat → Nat) (G : GD) (m : Nat) (ad : Nat → Nat → Nat) (hv : Nat → OV) (n : Nat) : va_W :=
  (a 0, .inr (1, [.ref (a 1), .int (nI n)])) :: (a 1, .inl (G.2.2.2, m, .inr (.inr (.inr (.inr (fun k => some (ad k 0))))))) :: hsGo G ad hv m 0
theorem hs_split (G : GD) (ad : Nat → Nat → Nat) (hv : Nat → OV) (j : Nat) : ∀ i k, hsGo G ad hv (i + (j + 1)) k = hsGo G ad hv i k ++ (bX0 (ad (k + i)) G (hv (k + i)) ++ hsGo G ad hv j (k + i + 1))
  | 0, k => by rw [Nat.zero_add]; rfl
  | i + 1, k => by
    rw [show i + 1 + (j + 1) = (i + (j + 1)) + 1 by omega]
    show bX0 (ad k) G (hv k) ++ hsGo G ad hv (i + (j + 1)) (k + 1) = _
    rw [hs_split G ad hv j i (k + 1), show k + 1 + i = k + (i + 1) by omega]
    simp only [hsGo, List.append_assoc]
theorem hs_congr {G : GD} {ad ad' : Nat → Nat → Nat} {hv hv' : Nat → OV} : ∀ {n k : Nat}, (∀ j, k ≤ j → j < k + n → ad j = ad' j ∧ hv j = hv' j) → hsGo G ad hv n k = hsGo G ad' hv' n k
  | 0, _, _ => rfl
  | n + 1, k, h => by
    simp only [hsGo]
    rw [(h k (Nat.le_refl k) (by omega)).1, (h k (Nat.le_refl k) (by omega)).2, hs_congr (n := n) (k := k + 1) (fun j h1 h2 => h j (by omega) (by omega))]
theorem hs_shift (G : GD) (ad : Nat → Nat → Nat) (hv : Nat → OV) : ∀ n k, hsGo G ad hv n (k + 1) = hsGo G (fun j => ad (j + 1)) (fun j => hv (j + 1)) n k
  | 0, _ => rfl
  | n + 1, k => by simp only [hsGo]; rw [hs_shift G ad hv n (k + 1)]
theorem hs_ad (G : GD) (ad : Nat → Nat → Nat) (hv hv' : Nat → OV) : ∀ n k, (hsGo G ad hv n k).map Prod.fst = (hsGo G ad hv' n k).map Prod.fst
  | 0, _ => rfl
  | n + 1, k => by
    simp only [hsGo, List.map_append]
    rw [hs_ad G ad hv hv' n (k + 1)]
    rfl
theorem bX1_ad (a : Nat → Nat) (G : GD) (m : Nat) (ad : Nat → Nat → Nat) (hv hv' : Nat → OV) (n n' : Nat) : (bX1 a G m ad hv' n').map Prod.fst = (bX1 a G m ad hv n).map Prod.fst := by
  simp only [bX1, List.map_cons]
  rw [hs_ad G ad hv' hv m 0]
/-- the row turned by one: the same cells -/
theorem hs_rot (G : GD) (ad : Nat → Nat → Nat) (hv : Nat → OV) {m : Nat} (hm : 1 ≤ m) : (hsGo G (rot m ad) (rot m hv) m 0).Perm (hsGo G ad hv m 0) := by
  obtain ⟨n, rfl⟩ : ∃ n, m = n + 1 := ⟨m - 1, by omega⟩
  have h1 : hsGo G (rot (n + 1) ad) (rot (n + 1) hv) (n + 1) 0 = hsGo G ad hv n 1 ++ bX0 (ad 0) G (hv 0) := by
    have h2 := hs_split G (rot (n + 1) ad) (rot (n + 1) hv) 0 n 0
    rw [show n + (0 + 1) = n + 1 by omega] at h2
    rw [h2]
    simp only [hsGo, List.append_nil, Nat.zero_add]
    have h3 : hsGo G (rot (n + 1) ad) (rot (n + 1) hv) n 0 = hsGo G ad hv n (0 + 1) := by
      rw [hs_shift]
      refine hs_congr (fun j _ hj => ?_)
      constructor <;> (simp only [rot]; rw [if_pos (by omega)])
    rw [h3]
    simp [rot]
  rw [h1]
  show (hsGo G ad hv n 1 ++ bX0 (ad 0) G (hv 0)).Perm (bX0 (ad 0) G (hv 0) ++ hsGo G ad hv n 1)
  exact List.perm_append_comm
def mvF (ad : Nat → Nat → Nat) (k : Nat) : Nat → Option Nat := fun j => if j < k then some (ad (j + 1) 0) else some (ad j 0)
theorem mv_0 (ad : Nat → Nat → Nat) : mvF ad 0 = fun k => some (ad k 0) := rfl
theorem mv_s (ad : Nat → Nat → Nat) (k : Nat) : va_up (mvF ad k) k (some (ad (k + 1) 0)) = mvF ad (k + 1) := by
  funext j
  simp only [va_up, mvF]
  by_cases h : j = k
  · subst h; simp
  · rw [if_neg h]
    by_cases h2 : j < k
    · rw [if_pos h2, if_pos (by omega)]
    · rw [if_neg h2, if_neg (by omega)]
theorem mv_e (ad : Nat → Nat → Nat) {m : Nat} (hm : 1 ≤ m) : va_up (mvF ad (m - 1)) (m - 1) (some (ad 0 0)) = fun k => some (rot m ad k 0) := by
  funext j
  simp only [va_up, mvF, rot]
  by_cases h : j = m - 1
  · rw [if_pos h, if_neg (by omega), if_pos (by omega)]
  · rw [if_neg h]
    by_cases h2 : j < m - 1
    · rw [if_pos h2, if_pos (by omega)]
    · rw [if_neg h2, if_neg (by omega), if_neg (by omega)]
theorem hs_at (G : GD) (ad : Nat → Nat → Nat) (hv : Nat → OV) {m k : Nat} (hk : k < m) : (hsGo G ad hv m 0)[(hsGo G ad hv k 0).length]? = some (ad k 0, .inr (0, [.ref (ad k 1), .ref (ad k 2), .ref (ad k 3), .ref (ad k 4), .int ((hv k).2 4), .int ((hv k).2 5)])) := by
  have h := hs_split G ad hv (m - (k + 1)) k 0
  rw [show k + (m - (k + 1) + 1) = m by omega] at h
  rw [h, List.getElem?_append_right (Nat.le_refl _), Nat.sub_self, Nat.zero_add]
  rfl
theorem cut1P {a : Nat → Nat} {G : GD} {m : Nat} {ad : Nat → Nat → Nat} {hv : Nat → OV} {n : Nat} {bs : List va_W} {H : Heap} (h : PP G (bX1 a G m ad hv n :: bs) H) : PP G (hX1 a G m (fun k => some (ad k 0)) n :: hsGo G ad hv m 0 :: bs) H := h
theorem cut1D {a : Nat → Nat} {G : GD} {m : Nat} {ad : Nat → Nat → Nat} {hv : Nat → OV} {n : Nat} {bs : List va_W} {A : Nat → Prop} (h : DD A (bX1 a G m ad hv n :: bs)) : DD A (hX1 a G m (fun k => some (ad k 0)) n :: hsGo G ad hv m 0 :: bs) := h
theorem rot_P {a : Nat → Nat} {G : GD} {m : Nat} {ad : Nat → Nat → Nat} {hv : Nat → OV} {n : Nat} {H : Heap} (hm : 1 ≤ m) (h : PP G [hX1 a G m (fun k => some (rot m ad k 0)) n, hsGo G ad hv m 0] H) : PP G [bX1 a G m (rot m ad) (rot m hv) n] H := by
  rw [PP, P_iff] at h ⊢
  intro q hq
  refine h q ?_
  simp only [List.flatten_cons, List.flatten_nil, List.append_nil, List.mem_append] at hq ⊢
  simp only [bX1, List.mem_cons] at hq
  rcases hq with rfl | rfl | hq
  · exact Or.inl (by simp [hX1])
  · exact Or.inl (by simp [hX1])
  · exact Or.inr ((hs_rot G ad hv hm).mem_iff.mp hq)
theorem rot_ad {a : Nat → Nat} {G : GD} {m : Nat} {ad : Nat → Nat → Nat} {hv : Nat → OV} {n n' : Nat} (hm : 1 ≤ m) (hv' : Nat → OV) : ((bX1 a G m (rot m ad) hv' n').map Prod.fst).Perm ((bX1 a G m ad hv n).map Prod.fst) := by
  simp only [bX1, List.map_cons]
  refine (List.Perm.cons _ (List.Perm.cons _ ?_))
  rw [hs_ad G (rot m ad) hv' (rot m hv) m 0]
  exact (hs_rot G ad hv hm).map _
/-- one of the houses alone -/
def pX1 (a : Nat → Nat) (G : GD) (m : Nat) (ad : Nat → Nat → Nat) (hv : Nat → OV) (n k : Nat) : va_W :=
  (a 0, .inr (1, [.ref (a 1), .int (nI n)])) :: (a 1, .inl (G.2.2.2, m, .inr (.inr (.inr (.inr (fun k => some (ad k 0))))))) :: hsGo G ad hv k 0
theorem bX1_cut (a : Nat → Nat) (G : GD) (m : Nat) (ad : Nat → Nat → Nat) (hv : Nat → OV) (n : Nat) {k : Nat} (hk : k < m) (x : OV) : bX1 a G m ad (upF hv k x) n = pX1 a G m ad hv n k ++ (bX0 (ad k) G x ++ hsGo G ad hv (m - (k + 1)) (k + 1)) := by
  have h := hs_split G ad (upF hv k x) (m - (k + 1)) k 0
  rw [show k + (m - (k + 1) + 1) = m by omega] at h
  simp only [bX1, pX1, List.cons_append]
  rw [h, Nat.zero_add, hs_congr (G := G) (ad := ad) (hv := upF hv k x) (ad' := ad) (hv' := hv) (n := k) (k := 0) (fun j _ hj => ⟨rfl, (if_neg (by omega) : upF hv k x j = hv j)⟩), hs_congr (G := G) (ad := ad) (hv := upF hv k x) (ad' := ad) (hv' := hv) (n := m - (k + 1)) (k := k + 1) (fun j hj _ => ⟨rfl, (if_neg (by omega) : upF hv k x j = hv j)⟩), show upF hv k x k = x from if_pos rfl]
theorem upF_id {α : Type} (f : Nat → α) (k : Nat) : upF f k (f k) = f := by
  funext j
  simp only [upF]
  split
  · rename_i h; rw [h]
  · rfl
theorem bX1_fl {a : Nat → Nat} {G : GD} {m : Nat} {ad : Nat → Nat → Nat} {hv : Nat → OV} {n k : Nat} (hk : k < m) (x : OV) (bs : List va_W) : List.flatten (bX1 a G m ad (upF hv k x) n :: bs) = List.flatten (pX1 a G m ad hv n k :: bX0 (ad k) G x :: hsGo G ad hv (m - (k + 1)) (k + 1) :: bs) := by
  rw [List.flatten_cons, bX1_cut a G m ad hv n hk x]
  simp only [List.flatten_cons, List.append_assoc]
theorem bX1_fl0 {a : Nat → Nat} {G : GD} {m : Nat} {ad : Nat → Nat → Nat} {hv : Nat → OV} {n k : Nat} (hk : k < m) (bs : List va_W) : List.flatten (bX1 a G m ad hv n :: bs) = List.flatten (pX1 a G m ad hv n k :: bX0 (ad k) G (hv k) :: hsGo G ad hv (m - (k + 1)) (k + 1) :: bs) := by
  have h := bX1_fl (a := a) (G := G) (m := m) (ad := ad) (hv := hv) (n := n) hk (hv k) bs
  rw [upF_id] at h
  exact h

def rm_X1_forgetAll : Room := { frames := 0, cells := 0, slots := 0, locals := 0 }
theorem hd_X1_forgetAll : yX1_forgetAll.cls = RX1 ∧ yX1_forgetAll.cls ≠ "java/lang/invoke/MethodHandle" ∧ yX1_forgetAll.cls ≠ "java/lang/invoke/VarHandle" ∧ (parseMethodDescriptor yX1_forgetAll.desc).map (fun d => d.parameters.length) = some 0 := by decide +kernel
set_option maxRecDepth 100000 in
set_option maxHeartbeats 4000000 in
theorem c_X1_forgetAll (l : Launch) (G : GD) (a : Nat → Nat) (mm : Nat) (ad : Nat → Nat → Nat) (hv : Nat → OV) (n : Nat)  : MetS l yX1_forgetAll wsX1_forgetAll rm_X1_forgetAll G [bX1 a G mm ad hv n] [.ref (a 0)] (fun r bc => r = none ∧ bc = [bX1 a G mm ad hv 0]) := by
  refine kb_beginS (cc := cX1_forgetAll) (maxL := 1) (ret := none) (by decide) rfl (Nat.le_of_ble_eq_true rfl) ?_
  intro p e s m below meth c hx hb hr hml hown hts hlocks hX H locs hP hD hS ls hl
  have hown : s.vm.findClass RX1 = some m.cls := hown
  have hl : lv_has ls 1 [(0, .ref (a 0))] := hl
  have hin1 : ∀ w ∈ u_ws RX1 TX1 2, w ∈ wsX1_forgetAll := (fun _ h => List.mem_cons_of_mem _ (List.mem_append_right _ (h)))
  refine lv_aload_n hx hb dX1_forgetAll_0 rfl (lv_at hl 0 rfl) ?_
  refine lv_iconst (v := 0) hx hb dX1_forgetAll_1 (by decide) ?_
  refine kb_put (own := RX1) (C := RX1) (T := TX1) (N := 2) hx hb hts hin1 tyX1 tyX1_ok nmX1 (ty := .int) hown hX hP hD hS 0 rfl rfl rfl 1 (by decide) rfl (by decide +kernel) (by decide +kernel) rfl rfl (Nat.le_of_ble_eq_true rfl) dX1_forgetAll_2 rfl (fun H locs hP hD hS => ?_)
  have hP : PP G [bX1 a G mm ad hv 0] H := hP
  have hD : DD (AA (List.flatten [bX1 a G mm ad hv n])) [bX1 a G mm ad hv 0] := D_re hD (adc (bX1_ad _ _ _ _ _ _ _ _) adn)
  have hP : PP G [bX1 a G mm ad hv 0] H := by
    exact hP
  exact kr_sv hx hb hr hlocks dX1_forgetAll_5 hP hS (sameAd_cons (bX1_ad _ _ _ _ _ _ _ _) sameAd_nil) ⟨rfl, rfl⟩

def rm_X1_slotAt : Room := { frames := 0, cells := 0, slots := 0, locals := 0 }
theorem hd_X1_slotAt : yX1_slotAt.cls = RX1 ∧ yX1_slotAt.cls ≠ "java/lang/invoke/MethodHandle" ∧ yX1_slotAt.cls ≠ "java/lang/invoke/VarHandle" ∧ (parseMethodDescriptor yX1_slotAt.desc).map (fun d => d.parameters.length) = some 1 := by decide +kernel
set_option maxRecDepth 100000 in
set_option maxHeartbeats 4000000 in
theorem c_X1_slotAt_v1 (l : Launch) (G : GD) (a : Nat → Nat) (mm : Nat) (ad : Nat → Nat → Nat) (hv : Nat → OV) (n : Nat) (k : Nat) (hk : k < mm) (hm : mm ≤ 8) : MetP l yX1_slotAt wsX1_slotAt rm_X1_slotAt G [bX1 a G mm ad hv n] [.ref (a 0), .int (nI k)] (some (.ref ((ad k) 0))) := by
  refine kb_beginP (cc := cX1_slotAt) (maxL := 2) (ret := (some (.object "DoorsThatRemember$House"))) (by decide) rfl (Nat.le_of_ble_eq_true rfl) ?_
  intro p e s m below meth c hx hb hr hml hown hts hlocks hX hP ls hl
  have hown : s.vm.findClass RX1 = some m.cls := hown
  have hl : lv_has ls 2 [(0, .ref (a 0)), (1, .int (nI k))] := hl
  have hin1 : ∀ w ∈ u_ws RX1 TX1 2, w ∈ wsX1_slotAt := (fun _ h => List.mem_cons_of_mem _ (List.mem_append_right _ (h)))
  refine lv_iload_n hx hb dX1_slotAt_0 rfl (lv_at hl 1 rfl) ?_
  refine lv_if_lt (tgt := 22) hx hb dX1_slotAt_1 (by decide) (fun c_1 => absurd c_1 (nI_pos (by omega))) (fun c_1 => ?_)
  refine lv_iload_n hx hb dX1_slotAt_4 rfl (lv_at hl 1 rfl) ?_
  refine lv_aload_n hx hb dX1_slotAt_5 rfl (lv_at hl 0 rfl) ?_
  refine kb_get (own := RX1) (C := RX1) (T := TX1) (N := 2) (v := .ref (a 1)) hx hb hts hin1 hown hX hP 0 rfl rfl rfl 0 (by decide) rfl (by decide +kernel) rfl dX1_slotAt_6 ?_
  refine kb_alen (v := nI mm) hx hb hX hP 0 1 2 rfl rfl rfl rfl dX1_slotAt_9 ?_
  refine lv_icmp_ge (tgt := 22) hx hb dX1_slotAt_10 (by decide) (fun c_10 => absurd c_10 (nI_ge hk (by omega))) (fun c_10 => ?_)
  refine lv_aload_n hx hb dX1_slotAt_13 rfl (lv_at hl 0 rfl) ?_
  refine kb_get (own := RX1) (C := RX1) (T := TX1) (N := 2) (v := .ref (a 1)) hx hb hts hin1 hown hX hP 0 rfl rfl rfl 0 (by decide) rfl (by decide +kernel) rfl dX1_slotAt_14 ?_
  refine lv_iload_n hx hb dX1_slotAt_17 rfl (lv_at hl 1 rfl) ?_
  refine kb_aldq (n := mm) (f := fun k_ => some (ad k_ 0)) hx hb hX hP 0 1 rfl rfl (vp_in_nI hk (by omega)) dX1_slotAt_18 ?_
  refine kb_rwq (y := .ref (ad k 0)) (by rw [nI_clamp (by omega)]; rfl) ?_
  refine lv_goto (tgt := 23) hx hb dX1_slotAt_19 (by decide) ?_
  exact kr_pa hx hb hr hlocks dX1_slotAt_23 rfl

set_option maxRecDepth 100000 in
set_option maxHeartbeats 4000000 in
theorem c_X1_slotAt_v2 (l : Launch) (G : GD) (a : Nat → Nat) (mm : Nat) (ad : Nat → Nat → Nat) (hv : Nat → OV) (n : Nat) (x : Int32) (hx0 : x < 0) : MetP l yX1_slotAt wsX1_slotAt rm_X1_slotAt G [bX1 a G mm ad hv n] [.ref (a 0), .int x] (some .null) := by
  refine kb_beginP (cc := cX1_slotAt) (maxL := 2) (ret := (some (.object "DoorsThatRemember$House"))) (by decide) rfl (Nat.le_of_ble_eq_true rfl) ?_
  intro p e s m below meth c hx hb hr hml hown hts hlocks hX hP ls hl
  have hown : s.vm.findClass RX1 = some m.cls := hown
  have hl : lv_has ls 2 [(0, .ref (a 0)), (1, .int x)] := hl
  refine lv_iload_n hx hb dX1_slotAt_0 rfl (lv_at hl 1 rfl) ?_
  refine lv_if_lt (tgt := 22) hx hb dX1_slotAt_1 (by decide) (fun c_1 => ?_) (fun c_1 => absurd (hx0) c_1)
  refine lv_null hx hb dX1_slotAt_22 ?_
  exact kr_pn hx hb hr hlocks dX1_slotAt_23 rfl

def rm_X1_dropOldest : Room := { frames := 0, cells := 0, slots := 0, locals := 0 }
theorem hd_X1_dropOldest : yX1_dropOldest.cls = RX1 ∧ yX1_dropOldest.cls ≠ "java/lang/invoke/MethodHandle" ∧ yX1_dropOldest.cls ≠ "java/lang/invoke/VarHandle" ∧ (parseMethodDescriptor yX1_dropOldest.desc).map (fun d => d.parameters.length) = some 0 := by decide +kernel
set_option maxRecDepth 100000 in
set_option maxHeartbeats 4000000 in
theorem c_X1_dropOldest (l : Launch) (G : GD) (a : Nat → Nat) (mm : Nat) (ad : Nat → Nat → Nat) (hv : Nat → OV) (n : Nat) (hm1 : 1 ≤ mm) (hm : mm ≤ 8) : MetS l yX1_dropOldest wsX1_dropOldest rm_X1_dropOldest G [bX1 a G mm ad hv n] [.ref (a 0)] (fun r bc => r = none ∧ bc = [bX1 a G mm (rot mm ad) (rot mm hv) (mm - 1)]) := by
  refine kb_beginS (cc := cX1_dropOldest) (maxL := 3) (ret := none) (by decide) rfl (Nat.le_of_ble_eq_true rfl) ?_
  intro p e s m below meth c hx hb hr hml hown hts hlocks hX H locs hP hD hS ls hl
  have hown : s.vm.findClass RX1 = some m.cls := hown
  have hl : lv_has ls 3 [(0, .ref (a 0))] := hl
  have hin1 : ∀ w ∈ u_ws RX1 TX1 2, w ∈ wsX1_dropOldest := (fun _ h => List.mem_cons_of_mem _ (List.mem_append_right _ (h)))
  have hP := cut1P hP
  have hD := cut1D hD
  have hP : PP G [hX1 a G mm (mvF ad 0) n, hsGo G ad hv mm 0] H := hP
  have hD : DD (AA (List.flatten [bX1 a G mm ad hv n])) [hX1 a G mm (mvF ad 0) n, hsGo G ad hv mm 0] := hD
  refine lv_aload_n hx hb dX1_dropOldest_0 rfl (lv_at hl 0 rfl) ?_
  refine kb_get (own := RX1) (C := RX1) (T := TX1) (N := 2) (v := .ref (a 1)) hx hb hts hin1 hown hX hP 0 rfl rfl rfl 0 (by decide) rfl (by decide +kernel) rfl dX1_dropOldest_1 ?_
  refine kb_alen (v := nI mm) hx hb hX hP 0 1 2 rfl rfl rfl rfl dX1_dropOldest_4 ?_
  refine lv_iconst (v := 1) hx hb dX1_dropOldest_5 (by decide) ?_
  refine lv_icmp_ge (tgt := 10) hx hb dX1_dropOldest_6 (by decide) (fun c_6 => ?_) (fun c_6 => absurd (nI_le hm1 (by omega)) c_6)
  refine lv_aload_n hx hb dX1_dropOldest_10 rfl (lv_at hl 0 rfl) ?_
  refine kb_get (own := RX1) (C := RX1) (T := TX1) (N := 2) (v := .ref (a 1)) hx hb hts hin1 hown hX hP 0 rfl rfl rfl 0 (by decide) rfl (by decide +kernel) rfl dX1_dropOldest_11 ?_
  refine lv_iconst (v := 0) hx hb dX1_dropOldest_14 (by decide) ?_
  refine kb_aldq (n := mm) (f := (mvF ad 0)) hx hb hX hP 0 1 rfl rfl (vp_in_nI (n := 0) (N := mm) (by omega) (by omega)) dX1_dropOldest_15 ?_
  refine kb_rwq (y := .ref (ad 0 0)) (by first | rfl | (rw [nI_clamp (by omega)]; simp only [mvF]; rw [if_neg (by omega)]; rfl)) ?_
  refine lv_astore_n (lv' := [(1, .ref (ad 0 0)), (0, .ref (a 0))]) hx hb dX1_dropOldest_16 rfl hl (by decide) rfl (fun ls hl => ?_)
  refine lv_iconst (v := 1) hx hb dX1_dropOldest_17 (by decide) ?_
  refine lv_istore_n (lv' := [(2, .int 1), (1, .ref (ad 0 0)), (0, .ref (a 0))]) hx hb dX1_dropOldest_18 rfl hl (by decide) rfl (fun ls hl => ?_)
  refine lp_up (N := mm - 1) (P := fun k => ∀ (H : Heap) (locs : List Loc) (ls : Array Slot), PP G [hX1 a G mm (mvF ad k) n, hsGo G ad hv mm 0] H → DD (AA (List.flatten [bX1 a G mm ad hv n])) [hX1 a G mm (mvF ad k) n, hsGo G ad hv mm 0] → va_S (AA (List.flatten [bX1 a G mm ad hv n])) s.heap H locs → lv_has ls 3 [(2, .int (nI (k + 1))), (1, .ref (ad 0 0)), (0, .ref (a 0))] →  W p l e (headSpec wsX1_dropOldest rm_X1_dropOldest).room s m ([.ref (a 0)] : List Value).toArray below meth c H locs 0 0 (MQ below (kQs G [bX1 a G mm ad hv n] (fun r bc => r = none ∧ bc = [bX1 a G mm (rot mm ad) (rot mm hv) (mm - 1)])) ([.ref (a 0)] : List Value).toArray s 0 0 (AA (List.flatten [bX1 a G mm ad hv n]))) (F0 m 19 ls [])) ?_ ?_ 0 (Nat.zero_le _)  _ _ _ hP hD hS (lv_sub hl [0, 1, 2] rfl) 
  · skip
    intro H locs ls hP hD hS hl 
    refine lv_iload_n hx hb dX1_dropOldest_19 rfl (lv_at hl 0 rfl) ?_
    refine lv_aload_n hx hb dX1_dropOldest_20 rfl (lv_at hl 2 rfl) ?_
    refine kb_get (own := RX1) (C := RX1) (T := TX1) (N := 2) (v := .ref (a 1)) hx hb hts hin1 hown hX hP 0 rfl rfl rfl 0 (by decide) rfl (by decide +kernel) rfl dX1_dropOldest_21 ?_
    refine kb_alen (v := nI mm) hx hb hX hP 0 1 2 rfl rfl rfl rfl dX1_dropOldest_24 ?_
    refine lv_icmp_ge (tgt := 48) hx hb dX1_dropOldest_25 (by decide) (fun c_25 => ?_) (fun c_25 => absurd (nI_le (by omega) (by omega)) c_25)
    refine lv_aload_n hx hb dX1_dropOldest_48 rfl (lv_at hl 2 rfl) ?_
    refine kb_get (own := RX1) (C := RX1) (T := TX1) (N := 2) (v := .ref (a 1)) hx hb hts hin1 hown hX hP 0 rfl rfl rfl 0 (by decide) rfl (by decide +kernel) rfl dX1_dropOldest_49 ?_
    refine lv_aload_n hx hb dX1_dropOldest_52 rfl (lv_at hl 2 rfl) ?_
    refine kb_get (own := RX1) (C := RX1) (T := TX1) (N := 2) (v := .ref (a 1)) hx hb hts hin1 hown hX hP 0 rfl rfl rfl 0 (by decide) rfl (by decide +kernel) rfl dX1_dropOldest_53 ?_
    refine kb_alen (v := nI mm) hx hb hX hP 0 1 2 rfl rfl rfl rfl dX1_dropOldest_56 ?_
    refine lv_iconst (v := 1) hx hb dX1_dropOldest_57 (by decide) ?_
    refine lv_isub hx hb dX1_dropOldest_58 ?_
    refine kb_rw (y := nI (mm - 1)) (nI_pm (nI_ne0 (by omega) (by omega))) ?_
    refine lv_aload_n hx hb dX1_dropOldest_59 rfl (lv_at hl 1 rfl) ?_
    refine kb_astq (n := mm) (f := (mvF ad (mm - 1))) (f' := (fun k => some (rot mm ad k 0))) hx hb hX hP hD hS 0 1 1 (hsGo G ad hv 0 0).length rfl rfl rfl (hs_at G ad hv (by omega)) (vp_in_nI (n := (mm - 1)) (N := mm) (by omega) (by omega)) (by rw [nI_clamp (by omega)]; exact mv_e ad hm1) dX1_dropOldest_60 rfl (fun H locs hP hD hS => ?_)
    have hP : PP G [hX1 a G mm (fun k => some (rot mm ad k 0)) n, hsGo G ad hv mm 0] H := hP
    have hD : DD (AA (List.flatten [bX1 a G mm ad hv n])) [hX1 a G mm (fun k => some (rot mm ad k 0)) n, hsGo G ad hv mm 0] := hD
    refine lv_aload_n hx hb dX1_dropOldest_61 rfl (lv_at hl 2 rfl) ?_
    refine lv_aload_n hx hb dX1_dropOldest_62 rfl (lv_at hl 2 rfl) ?_
    refine kb_get (own := RX1) (C := RX1) (T := TX1) (N := 2) (v := .ref (a 1)) hx hb hts hin1 hown hX hP 0 rfl rfl rfl 0 (by decide) rfl (by decide +kernel) rfl dX1_dropOldest_63 ?_
    refine kb_alen (v := nI mm) hx hb hX hP 0 1 2 rfl rfl rfl rfl dX1_dropOldest_66 ?_
    refine lv_iconst (v := 1) hx hb dX1_dropOldest_67 (by decide) ?_
    refine lv_isub hx hb dX1_dropOldest_68 ?_
    refine kb_rw (y := nI (mm - 1)) (nI_pm (nI_ne0 (by omega) (by omega))) ?_
    refine kb_put (own := RX1) (C := RX1) (T := TX1) (N := 2) hx hb hts hin1 tyX1 tyX1_ok nmX1 (ty := .int) hown hX hP hD hS 0 rfl rfl rfl 1 (by decide) rfl (by decide +kernel) (by decide +kernel) rfl rfl (Nat.le_of_ble_eq_true rfl) dX1_dropOldest_69 rfl (fun H locs hP hD hS => ?_)
    have hP : PP G [hX1 a G mm (fun k => some (rot mm ad k 0)) (mm - 1), hsGo G ad hv mm 0] H := hP
    have hD : DD (AA (List.flatten [bX1 a G mm ad hv n])) [hX1 a G mm (fun k => some (rot mm ad k 0)) (mm - 1), hsGo G ad hv mm 0] := D_re hD (adc rfl (adc rfl adn))
    have hP := rot_P hm1 hP
    have hP : PP G [bX1 a G mm (rot mm ad) (rot mm hv) (mm - 1)] H := by
      exact hP
    exact kr_sv hx hb hr hlocks dX1_dropOldest_72 hP hS ⟨rot_ad hm1 _, sameAd_nil⟩ ⟨rfl, rfl⟩
  · skip
    intro k hk_k ih_19 H locs ls hP hD hS hl 
    refine lv_iload_n hx hb dX1_dropOldest_19 rfl (lv_at hl 0 rfl) ?_
    refine lv_aload_n hx hb dX1_dropOldest_20 rfl (lv_at hl 2 rfl) ?_
    refine kb_get (own := RX1) (C := RX1) (T := TX1) (N := 2) (v := .ref (a 1)) hx hb hts hin1 hown hX hP 0 rfl rfl rfl 0 (by decide) rfl (by decide +kernel) rfl dX1_dropOldest_21 ?_
    refine kb_alen (v := nI mm) hx hb hX hP 0 1 2 rfl rfl rfl rfl dX1_dropOldest_24 ?_
    refine lv_icmp_ge (tgt := 48) hx hb dX1_dropOldest_25 (by decide) (fun c_25 => absurd c_25 (nI_ge (by omega) (by omega))) (fun c_25 => ?_)
    refine lv_aload_n hx hb dX1_dropOldest_28 rfl (lv_at hl 2 rfl) ?_
    refine kb_get (own := RX1) (C := RX1) (T := TX1) (N := 2) (v := .ref (a 1)) hx hb hts hin1 hown hX hP 0 rfl rfl rfl 0 (by decide) rfl (by decide +kernel) rfl dX1_dropOldest_29 ?_
    refine lv_iload_n hx hb dX1_dropOldest_32 rfl (lv_at hl 0 rfl) ?_
    refine lv_iconst (v := 1) hx hb dX1_dropOldest_33 (by decide) ?_
    refine lv_isub hx hb dX1_dropOldest_34 ?_
    refine kb_rw (y := nI k) ((nI_pred k)) ?_
    refine lv_aload_n hx hb dX1_dropOldest_35 rfl (lv_at hl 2 rfl) ?_
    refine kb_get (own := RX1) (C := RX1) (T := TX1) (N := 2) (v := .ref (a 1)) hx hb hts hin1 hown hX hP 0 rfl rfl rfl 0 (by decide) rfl (by decide +kernel) rfl dX1_dropOldest_36 ?_
    refine lv_iload_n hx hb dX1_dropOldest_39 rfl (lv_at hl 0 rfl) ?_
    refine kb_aldq (n := mm) (f := (mvF ad k)) hx hb hX hP 0 1 rfl rfl (vp_in_nI (n := (k + 1)) (N := mm) (by omega) (by omega)) dX1_dropOldest_40 ?_
    refine kb_rwq (y := .ref (ad (k + 1) 0)) (by first | rfl | (rw [nI_clamp (by omega)]; simp only [mvF]; rw [if_neg (by omega)]; rfl)) ?_
    refine kb_astq (n := mm) (f := (mvF ad k)) (f' := (mvF ad (k + 1))) hx hb hX hP hD hS 0 1 1 (hsGo G ad hv (k + 1) 0).length rfl rfl rfl (hs_at G ad hv (by omega)) (vp_in_nI (n := k) (N := mm) (by omega) (by omega)) (by rw [nI_clamp (by omega)]; exact mv_s ad k) dX1_dropOldest_41 rfl (fun H locs hP hD hS => ?_)
    have hP : PP G [hX1 a G mm (mvF ad (k + 1)) n, hsGo G ad hv mm 0] H := hP
    have hD : DD (AA (List.flatten [bX1 a G mm ad hv n])) [hX1 a G mm (mvF ad (k + 1)) n, hsGo G ad hv mm 0] := hD
    refine lv_iinc (v := nI ((k + 1) + 1)) (lv' := [(2, .int (nI ((k + 1) + 1))), (1, .ref (ad 0 0)), (0, .ref (a 0))]) hx hb dX1_dropOldest_42 hl (k := 0) rfl (nI_1 _) (by decide) rfl (fun ls hl => ?_)
    refine lv_goto (tgt := 19) hx hb dX1_dropOldest_45 (by decide) ?_
    have hP : PP G [hX1 a G mm (mvF ad (k + 1)) n, hsGo G ad hv mm 0] H := hP
    have hD : DD (AA (List.flatten [bX1 a G mm ad hv n])) [hX1 a G mm (mvF ad (k + 1)) n, hsGo G ad hv mm 0] := D_re hD (adc rfl (adc rfl adn))
    exact ih_19  _ _ _ hP hD hS (show lv_has ls 3 [(2, .int (nI ((k + 1) + 1))), (1, .ref (ad 0 0)), (0, .ref (a 0))] from lv_sub hl [0, 1, 2] rfl) 

def rm_X1_push : Room := { frames := 2, cells := 0, slots := 0, locals := 43 }
theorem hd_X1_push : yX1_push.cls = RX1 ∧ yX1_push.cls ≠ "java/lang/invoke/MethodHandle" ∧ yX1_push.cls ≠ "java/lang/invoke/VarHandle" ∧ (parseMethodDescriptor yX1_push.desc).map (fun d => d.parameters.length) = some 1 := by decide +kernel
set_option maxRecDepth 100000 in
set_option maxHeartbeats 4000000 in
theorem c_X1_push_v1 (l : Launch) (G : GD) (a : Nat → Nat) (mm : Nat) (ad : Nat → Nat → Nat) (hv : Nat → OV) (n : Nat) (c0 : Nat → Nat) (h : OV) (hn : n < mm) (hm : mm ≤ 8) : MetS l yX1_push wsX1_push rm_X1_push G [bX1 a G mm ad hv n, bX0 c0 G h] [.ref (a 0), .ref (c0 0)] (fun r bc => r = none ∧ bc = [bX1 a G mm ad (upF hv n (f_X0_become (hv n) h)) (n + 1), bX0 c0 G h]) := by
  refine kb_beginS (cc := cX1_push) (maxL := 3) (ret := none) (by decide) rfl (Nat.le_of_ble_eq_true rfl) ?_
  intro p e s m below meth c hx hb hr hml hown hts hlocks hX H locs hP hD hS ls hl
  have hown : s.vm.findClass RX1 = some m.cls := hown
  have hl : lv_has ls 3 [(0, .ref (a 0)), (1, .ref (c0 0))] := hl
  have hin1 : ∀ w ∈ u_ws RX1 TX1 2, w ∈ wsX1_push := (fun _ h => List.mem_cons_of_mem _ (List.mem_append_left _ (List.mem_append_right _ (h))))
  refine lv_aload_n hx hb dX1_push_0 rfl (lv_at hl 0 rfl) ?_
  refine kb_get (own := RX1) (C := RX1) (T := TX1) (N := 2) (v := .int (nI n)) hx hb hts hin1 hown hX hP 0 rfl rfl rfl 1 (by decide) rfl (by decide +kernel) rfl dX1_push_1 ?_
  refine lv_aload_n hx hb dX1_push_4 rfl (lv_at hl 0 rfl) ?_
  refine kb_get (own := RX1) (C := RX1) (T := TX1) (N := 2) (v := .ref (a 1)) hx hb hts hin1 hown hX hP 0 rfl rfl rfl 0 (by decide) rfl (by decide +kernel) rfl dX1_push_5 ?_
  refine kb_alen (v := nI mm) hx hb hX hP 0 1 2 rfl rfl rfl rfl dX1_push_8 ?_
  refine lv_icmp_lt (tgt := 16) hx hb dX1_push_9 (by decide) (fun c_9 => ?_) (fun c_9 => absurd (nI_lt hn (by omega)) c_9)
  refine lv_aload_n hx hb dX1_push_16 rfl (lv_at hl 0 rfl) ?_
  refine lv_aload_n hx hb dX1_push_17 rfl (lv_at hl 0 rfl) ?_
  refine kb_get (own := RX1) (C := RX1) (T := TX1) (N := 2) (v := .int (nI n)) hx hb hts hin1 hown hX hP 0 rfl rfl rfl 1 (by decide) rfl (by decide +kernel) rfl dX1_push_18 ?_
  refine kcV_p hx hb hml hown hts hX hP (c_X1_slotAt_v1 l G a mm ad hv n n (by omega) hm) gX1_push_X1_slotAt 1 rfl rfl rfl hd_X1_slotAt ⟨Nat.le_of_ble_eq_true rfl, Nat.le_of_ble_eq_true rfl⟩ [0] rfl 0 rfl rfl rfl hl.1 rfl rfl (Nat.le_of_ble_eq_true rfl) dX1_push_21 ⟨Nat.zero_le _, Nat.zero_le _⟩ ?_
  refine lv_astore_n (lv' := [(2, .ref ((ad n) 0)), (0, .ref (a 0)), (1, .ref (c0 0))]) hx hb dX1_push_24 rfl hl (by decide) rfl (fun ls hl => ?_)
  refine lv_aload_n hx hb dX1_push_25 rfl (lv_at hl 0 rfl) ?_
  refine lv_ifnull hx hb dX1_push_26 ?_
  have hP := (congrArg (fun z => va_P G.1 vwCl z H) (bX1_fl0 (k := n) (by omega) _)).mp hP
  have hD := (congrArg (fun z => va_D (AA (List.flatten [bX1 a G mm ad hv n, bX0 c0 G h])) z) (bX1_fl0 (k := n) (by omega) _)).mp hD
  have hP : PP G [pX1 a G mm ad hv n n, bX0 (ad n) G (hv n), hsGo G ad hv (mm - (n + 1)) (n + 1), bX0 c0 G h] H := hP
  have hD : DD (AA (List.flatten [bX1 a G mm ad hv n, bX0 c0 G h])) [pX1 a G mm ad hv n n, bX0 (ad n) G (hv n), hsGo G ad hv (mm - (n + 1)) (n + 1), bX0 c0 G h] := hD
  refine lv_aload_n hx hb dX1_push_29 rfl (lv_at hl 0 rfl) ?_
  refine lv_aload_n hx hb dX1_push_30 rfl (lv_at hl 2 rfl) ?_
  refine kcV_s hx hb hml hown hts hX hP hD hS (c_X0_become l G (ad n) (hv n) c0 h) gX1_push_X0_become 1 rfl rfl rfl hd_X0_become ⟨Nat.le_of_ble_eq_true rfl, Nat.le_of_ble_eq_true rfl⟩ [1, 3] (by decide) rfl 1 rfl rfl rfl hl.1 rfl rfl (Nat.le_of_ble_eq_true rfl) dX1_push_31 ⟨Nat.zero_le _, Nat.zero_le _⟩ (fun r_ bc_ hq_1 H locs hP hD hS => ?_)
  obtain ⟨rfl, rfl⟩ := hq_1
  have hP : PP G [pX1 a G mm ad hv n n, bX0 (ad n) G (f_X0_become (hv n) h), hsGo G ad hv (mm - (n + 1)) (n + 1), bX0 c0 G h] H := hP
  have hD : DD (AA (List.flatten [bX1 a G mm ad hv n, bX0 c0 G h])) [pX1 a G mm ad hv n n, bX0 (ad n) G (f_X0_become (hv n) h), hsGo G ad hv (mm - (n + 1)) (n + 1), bX0 c0 G h] := D_re hD (adc rfl (adc (bX0_ad _ _ _ _) (adc rfl (adc (bX0_ad _ _ _ _) adn))))
  have hP := (congrArg (fun z => va_P G.1 vwCl z H) (bX1_fl (k := n) (by omega) (f_X0_become (hv n) h) _)).mpr hP
  have hD := (congrArg (fun z => va_D (AA (List.flatten [bX1 a G mm ad hv n, bX0 c0 G h])) z) (bX1_fl (k := n) (by omega) (f_X0_become (hv n) h) _)).mpr hD
  have hP : PP G [bX1 a G mm ad (upF hv n (f_X0_become (hv n) h)) n, bX0 c0 G h] H := hP
  have hD : DD (AA (List.flatten [bX1 a G mm ad hv n, bX0 c0 G h])) [bX1 a G mm ad (upF hv n (f_X0_become (hv n) h)) n, bX0 c0 G h] := hD
  refine lv_aload_n hx hb dX1_push_34 rfl (lv_at hl 1 rfl) ?_
  refine lv_dup hx hb dX1_push_35 rfl ?_
  refine kb_get (own := RX1) (C := RX1) (T := TX1) (N := 2) (v := .int (nI n)) hx hb hts hin1 hown hX hP 0 rfl rfl rfl 1 (by decide) rfl (by decide +kernel) rfl dX1_push_36 ?_
  refine lv_iconst (v := 1) hx hb dX1_push_39 (by decide) ?_
  refine lv_iadd hx hb dX1_push_40 ?_
  refine kb_rw (y := nI (n + 1)) (nI_1 _) ?_
  refine kb_put (own := RX1) (C := RX1) (T := TX1) (N := 2) hx hb hts hin1 tyX1 tyX1_ok nmX1 (ty := .int) hown hX hP hD hS 0 rfl rfl rfl 1 (by decide) rfl (by decide +kernel) (by decide +kernel) rfl rfl (Nat.le_of_ble_eq_true rfl) dX1_push_41 rfl (fun H locs hP hD hS => ?_)
  have hP : PP G [bX1 a G mm ad (upF hv n (f_X0_become (hv n) h)) (n + 1), bX0 c0 G h] H := hP
  have hD : DD (AA (List.flatten [bX1 a G mm ad hv n, bX0 c0 G h])) [bX1 a G mm ad (upF hv n (f_X0_become (hv n) h)) (n + 1), bX0 c0 G h] := D_re hD (adc (bX1_ad _ _ _ _ _ _ _ _) (adc (bX0_ad _ _ _ _) adn))
  have hP : PP G [bX1 a G mm ad (upF hv n (f_X0_become (hv n) h)) (n + 1), bX0 c0 G h] H := by
    exact hP
  exact kr_sv hx hb hr hlocks dX1_push_44 hP hS (sameAd_cons (bX1_ad _ _ _ _ _ _ _ _) (sameAd_cons (bX0_ad _ _ _ _) sameAd_nil)) ⟨rfl, rfl⟩

set_option maxRecDepth 100000 in
set_option maxHeartbeats 4000000 in
theorem c_X1_push_v2 (l : Launch) (G : GD) (a : Nat → Nat) (mm : Nat) (ad : Nat → Nat → Nat) (hv : Nat → OV) (n : Nat) (c0 : Nat → Nat) (h : OV) (hn : n = mm) (hm1 : 1 ≤ mm) (hm : mm ≤ 8) : MetS l yX1_push wsX1_push rm_X1_push G [bX1 a G mm ad hv n, bX0 c0 G h] [.ref (a 0), .ref (c0 0)] (fun r bc => r = none ∧ bc = [bX1 a G mm (rot mm ad) (upF (rot mm hv) (mm - 1) (f_X0_become (rot mm hv (mm - 1)) h)) (mm - 1 + 1), bX0 c0 G h]) := by
  refine kb_beginS (cc := cX1_push) (maxL := 3) (ret := none) (by decide) rfl (Nat.le_of_ble_eq_true rfl) ?_
  intro p e s m below meth c hx hb hr hml hown hts hlocks hX H locs hP hD hS ls hl
  have hown : s.vm.findClass RX1 = some m.cls := hown
  have hl : lv_has ls 3 [(0, .ref (a 0)), (1, .ref (c0 0))] := hl
  have hin1 : ∀ w ∈ u_ws RX1 TX1 2, w ∈ wsX1_push := (fun _ h => List.mem_cons_of_mem _ (List.mem_append_left _ (List.mem_append_right _ (h))))
  refine lv_aload_n hx hb dX1_push_0 rfl (lv_at hl 0 rfl) ?_
  refine kb_get (own := RX1) (C := RX1) (T := TX1) (N := 2) (v := .int (nI n)) hx hb hts hin1 hown hX hP 0 rfl rfl rfl 1 (by decide) rfl (by decide +kernel) rfl dX1_push_1 ?_
  refine lv_aload_n hx hb dX1_push_4 rfl (lv_at hl 0 rfl) ?_
  refine kb_get (own := RX1) (C := RX1) (T := TX1) (N := 2) (v := .ref (a 1)) hx hb hts hin1 hown hX hP 0 rfl rfl rfl 0 (by decide) rfl (by decide +kernel) rfl dX1_push_5 ?_
  refine kb_alen (v := nI mm) hx hb hX hP 0 1 2 rfl rfl rfl rfl dX1_push_8 ?_
  refine lv_icmp_lt (tgt := 16) hx hb dX1_push_9 (by decide) (fun c_9 => absurd c_9 (by rw [hn]; exact nI_nlt (Nat.le_refl _) (by omega))) (fun c_9 => ?_)
  refine lv_aload_n hx hb dX1_push_12 rfl (lv_at hl 0 rfl) ?_
  refine kcV_s hx hb hml hown hts hX hP hD hS (c_X1_dropOldest l G a mm ad hv n hm1 hm) gX1_push_X1_dropOldest 0 rfl rfl rfl hd_X1_dropOldest ⟨Nat.le_of_ble_eq_true rfl, Nat.le_of_ble_eq_true rfl⟩ [0] (by decide) rfl 0 rfl rfl rfl hl.1 rfl rfl (Nat.le_of_ble_eq_true rfl) dX1_push_13 ⟨Nat.zero_le _, Nat.zero_le _⟩ (fun r_ bc_ hq_1 H locs hP hD hS => ?_)
  obtain ⟨rfl, rfl⟩ := hq_1
  have hP : PP G [bX1 a G mm (rot mm ad) (rot mm hv) (mm - 1), bX0 c0 G h] H := hP
  have hD : DD (AA (List.flatten [bX1 a G mm ad hv n, bX0 c0 G h])) [bX1 a G mm (rot mm ad) (rot mm hv) (mm - 1), bX0 c0 G h] := D_re hD (adc (bX1_ad _ _ _ _ _ _ _ _) (adc (bX0_ad _ _ _ _) adn))
  refine lv_aload_n hx hb dX1_push_16 rfl (lv_at hl 0 rfl) ?_
  refine lv_aload_n hx hb dX1_push_17 rfl (lv_at hl 0 rfl) ?_
  refine kb_get (own := RX1) (C := RX1) (T := TX1) (N := 2) (v := .int (nI (mm - 1))) hx hb hts hin1 hown hX hP 0 rfl rfl rfl 1 (by decide) rfl (by decide +kernel) rfl dX1_push_18 ?_
  refine kcV_p hx hb hml hown hts hX hP (c_X1_slotAt_v1 l G a mm (rot mm ad) (rot mm hv) (mm - 1) (mm - 1) (by omega) hm) gX1_push_X1_slotAt 1 rfl rfl rfl hd_X1_slotAt ⟨Nat.le_of_ble_eq_true rfl, Nat.le_of_ble_eq_true rfl⟩ [0] rfl 0 rfl rfl rfl hl.1 rfl rfl (Nat.le_of_ble_eq_true rfl) dX1_push_21 ⟨Nat.zero_le _, Nat.zero_le _⟩ ?_
  refine lv_astore_n (lv' := [(2, .ref (((rot mm ad) (mm - 1)) 0)), (0, .ref (a 0)), (1, .ref (c0 0))]) hx hb dX1_push_24 rfl hl (by decide) rfl (fun ls hl => ?_)
  refine lv_aload_n hx hb dX1_push_25 rfl (lv_at hl 0 rfl) ?_
  refine lv_ifnull hx hb dX1_push_26 ?_
  have hP := (congrArg (fun z => va_P G.1 vwCl z H) (bX1_fl0 (k := mm - 1) (by omega) _)).mp hP
  have hD := (congrArg (fun z => va_D (AA (List.flatten [bX1 a G mm ad hv n, bX0 c0 G h])) z) (bX1_fl0 (k := mm - 1) (by omega) _)).mp hD
  have hP : PP G [pX1 a G mm (rot mm ad) (rot mm hv) (mm - 1) (mm - 1), bX0 ((rot mm ad) (mm - 1)) G ((rot mm hv) (mm - 1)), hsGo G (rot mm ad) (rot mm hv) (mm - ((mm - 1) + 1)) ((mm - 1) + 1), bX0 c0 G h] H := hP
  have hD : DD (AA (List.flatten [bX1 a G mm ad hv n, bX0 c0 G h])) [pX1 a G mm (rot mm ad) (rot mm hv) (mm - 1) (mm - 1), bX0 ((rot mm ad) (mm - 1)) G ((rot mm hv) (mm - 1)), hsGo G (rot mm ad) (rot mm hv) (mm - ((mm - 1) + 1)) ((mm - 1) + 1), bX0 c0 G h] := hD
  refine lv_aload_n hx hb dX1_push_29 rfl (lv_at hl 0 rfl) ?_
  refine lv_aload_n hx hb dX1_push_30 rfl (lv_at hl 2 rfl) ?_
  refine kcV_s hx hb hml hown hts hX hP hD hS (c_X0_become l G ((rot mm ad) (mm - 1)) ((rot mm hv) (mm - 1)) c0 h) gX1_push_X0_become 1 rfl rfl rfl hd_X0_become ⟨Nat.le_of_ble_eq_true rfl, Nat.le_of_ble_eq_true rfl⟩ [1, 3] (by decide) rfl 1 rfl rfl rfl hl.1 rfl rfl (Nat.le_of_ble_eq_true rfl) dX1_push_31 ⟨Nat.zero_le _, Nat.zero_le _⟩ (fun r_ bc_ hq_2 H locs hP hD hS => ?_)
  obtain ⟨rfl, rfl⟩ := hq_2
  have hP : PP G [pX1 a G mm (rot mm ad) (rot mm hv) (mm - 1) (mm - 1), bX0 ((rot mm ad) (mm - 1)) G (f_X0_become ((rot mm hv) (mm - 1)) h), hsGo G (rot mm ad) (rot mm hv) (mm - ((mm - 1) + 1)) ((mm - 1) + 1), bX0 c0 G h] H := hP
  have hD : DD (AA (List.flatten [bX1 a G mm ad hv n, bX0 c0 G h])) [pX1 a G mm (rot mm ad) (rot mm hv) (mm - 1) (mm - 1), bX0 ((rot mm ad) (mm - 1)) G (f_X0_become ((rot mm hv) (mm - 1)) h), hsGo G (rot mm ad) (rot mm hv) (mm - ((mm - 1) + 1)) ((mm - 1) + 1), bX0 c0 G h] := D_re hD (adc rfl (adc (bX0_ad _ _ _ _) (adc rfl (adc (bX0_ad _ _ _ _) adn))))
  have hP := (congrArg (fun z => va_P G.1 vwCl z H) (bX1_fl (k := mm - 1) (by omega) (f_X0_become ((rot mm hv) (mm - 1)) h) _)).mpr hP
  have hD := (congrArg (fun z => va_D (AA (List.flatten [bX1 a G mm ad hv n, bX0 c0 G h])) z) (bX1_fl (k := mm - 1) (by omega) (f_X0_become ((rot mm hv) (mm - 1)) h) _)).mpr hD
  have hP : PP G [bX1 a G mm (rot mm ad) (upF (rot mm hv) (mm - 1) (f_X0_become ((rot mm hv) (mm - 1)) h)) (mm - 1), bX0 c0 G h] H := hP
  have hD : DD (AA (List.flatten [bX1 a G mm ad hv n, bX0 c0 G h])) [bX1 a G mm (rot mm ad) (upF (rot mm hv) (mm - 1) (f_X0_become ((rot mm hv) (mm - 1)) h)) (mm - 1), bX0 c0 G h] := hD
  refine lv_aload_n hx hb dX1_push_34 rfl (lv_at hl 1 rfl) ?_
  refine lv_dup hx hb dX1_push_35 rfl ?_
  refine kb_get (own := RX1) (C := RX1) (T := TX1) (N := 2) (v := .int (nI (mm - 1))) hx hb hts hin1 hown hX hP 0 rfl rfl rfl 1 (by decide) rfl (by decide +kernel) rfl dX1_push_36 ?_
  refine lv_iconst (v := 1) hx hb dX1_push_39 (by decide) ?_
  refine lv_iadd hx hb dX1_push_40 ?_
  refine kb_rw (y := nI (mm - 1 + 1)) (nI_1 _) ?_
  refine kb_put (own := RX1) (C := RX1) (T := TX1) (N := 2) hx hb hts hin1 tyX1 tyX1_ok nmX1 (ty := .int) hown hX hP hD hS 0 rfl rfl rfl 1 (by decide) rfl (by decide +kernel) (by decide +kernel) rfl rfl (Nat.le_of_ble_eq_true rfl) dX1_push_41 rfl (fun H locs hP hD hS => ?_)
  have hP : PP G [bX1 a G mm (rot mm ad) (upF (rot mm hv) (mm - 1) (f_X0_become ((rot mm hv) (mm - 1)) h)) (mm - 1 + 1), bX0 c0 G h] H := hP
  have hD : DD (AA (List.flatten [bX1 a G mm ad hv n, bX0 c0 G h])) [bX1 a G mm (rot mm ad) (upF (rot mm hv) (mm - 1) (f_X0_become ((rot mm hv) (mm - 1)) h)) (mm - 1 + 1), bX0 c0 G h] := D_re hD (adc (bX1_ad _ _ _ _ _ _ _ _) (adc (bX0_ad _ _ _ _) adn))
  have hP : PP G [bX1 a G mm (rot mm ad) (upF (rot mm hv) (mm - 1) (f_X0_become (rot mm hv (mm - 1)) h)) (mm - 1 + 1), bX0 c0 G h] H := by
    exact hP
  exact kr_sv hx hb hr hlocks dX1_push_44 hP hS ⟨rot_ad hm1 _, (sameAd_cons (bX0_ad _ _ _ _) sameAd_nil)⟩ ⟨rfl, rfl⟩

def rm_X1_pop : Room := { frames := 2, cells := 0, slots := 0, locals := 43 }
theorem hd_X1_pop : yX1_pop.cls = RX1 ∧ yX1_pop.cls ≠ "java/lang/invoke/MethodHandle" ∧ yX1_pop.cls ≠ "java/lang/invoke/VarHandle" ∧ (parseMethodDescriptor yX1_pop.desc).map (fun d => d.parameters.length) = some 1 := by decide +kernel
set_option maxRecDepth 100000 in
set_option maxHeartbeats 4000000 in
theorem c_X1_pop_v1 (l : Launch) (G : GD) (a : Nat → Nat) (mm : Nat) (ad : Nat → Nat → Nat) (hv : Nat → OV) (n : Nat) (c0 : Nat → Nat) (h : OV) (hn0 : 0 < n) (hn : n ≤ mm) (hm : mm ≤ 8) : MetS l yX1_pop wsX1_pop rm_X1_pop G [bX1 a G mm ad hv n, bX0 c0 G h] [.ref (a 0), .ref (c0 0)] (fun r bc => r = some (.int (1)) ∧ bc = [bX1 a G mm ad hv (n - 1), bX0 c0 G (f_X0_become h (hv (n - 1)))]) := by
  refine kb_beginS (cc := cX1_pop) (maxL := 3) (ret := (some .boolean)) (by decide) rfl (Nat.le_of_ble_eq_true rfl) ?_
  intro p e s m below meth c hx hb hr hml hown hts hlocks hX H locs hP hD hS ls hl
  have hown : s.vm.findClass RX1 = some m.cls := hown
  have hl : lv_has ls 3 [(0, .ref (a 0)), (1, .ref (c0 0))] := hl
  have hin1 : ∀ w ∈ u_ws RX1 TX1 2, w ∈ wsX1_pop := (fun _ h => List.mem_cons_of_mem _ (List.mem_append_left _ (List.mem_append_right _ (h))))
  refine lv_aload_n hx hb dX1_pop_0 rfl (lv_at hl 0 rfl) ?_
  refine lv_aload_n hx hb dX1_pop_1 rfl (lv_at hl 0 rfl) ?_
  refine kb_get (own := RX1) (C := RX1) (T := TX1) (N := 2) (v := .int (nI n)) hx hb hts hin1 hown hX hP 0 rfl rfl rfl 1 (by decide) rfl (by decide +kernel) rfl dX1_pop_2 ?_
  refine lv_iconst (v := 1) hx hb dX1_pop_5 (by decide) ?_
  refine lv_isub hx hb dX1_pop_6 ?_
  refine kb_rw (y := nI (n - 1)) (nI_pm (nI_ne0 hn0 (by omega))) ?_
  refine kcV_p hx hb hml hown hts hX hP (c_X1_slotAt_v1 l G a mm ad hv n (n - 1) (by omega) hm) gX1_pop_X1_slotAt 1 rfl rfl rfl hd_X1_slotAt ⟨Nat.le_of_ble_eq_true rfl, Nat.le_of_ble_eq_true rfl⟩ [0] rfl 0 rfl rfl rfl hl.1 rfl rfl (Nat.le_of_ble_eq_true rfl) dX1_pop_7 ⟨Nat.zero_le _, Nat.zero_le _⟩ ?_
  refine lv_astore_n (lv' := [(2, .ref ((ad (n - 1)) 0)), (0, .ref (a 0)), (1, .ref (c0 0))]) hx hb dX1_pop_10 rfl hl (by decide) rfl (fun ls hl => ?_)
  refine lv_aload_n hx hb dX1_pop_11 rfl (lv_at hl 0 rfl) ?_
  refine lv_ifnonnull (tgt := 17) hx hb dX1_pop_12 (by decide) ?_
  have hP := (congrArg (fun z => va_P G.1 vwCl z H) (bX1_fl0 (k := n - 1) (by omega) _)).mp hP
  have hD := (congrArg (fun z => va_D (AA (List.flatten [bX1 a G mm ad hv n, bX0 c0 G h])) z) (bX1_fl0 (k := n - 1) (by omega) _)).mp hD
  have hP : PP G [pX1 a G mm ad hv n (n - 1), bX0 (ad (n - 1)) G (hv (n - 1)), hsGo G ad hv (mm - ((n - 1) + 1)) ((n - 1) + 1), bX0 c0 G h] H := hP
  have hD : DD (AA (List.flatten [bX1 a G mm ad hv n, bX0 c0 G h])) [pX1 a G mm ad hv n (n - 1), bX0 (ad (n - 1)) G (hv (n - 1)), hsGo G ad hv (mm - ((n - 1) + 1)) ((n - 1) + 1), bX0 c0 G h] := hD
  refine lv_aload_n hx hb dX1_pop_17 rfl (lv_at hl 2 rfl) ?_
  refine lv_aload_n hx hb dX1_pop_18 rfl (lv_at hl 0 rfl) ?_
  refine kcV_s hx hb hml hown hts hX hP hD hS (c_X0_become l G c0 h (ad (n - 1)) (hv (n - 1))) gX1_pop_X0_become 1 rfl rfl rfl hd_X0_become ⟨Nat.le_of_ble_eq_true rfl, Nat.le_of_ble_eq_true rfl⟩ [3, 1] (by decide) rfl 3 rfl rfl rfl hl.1 rfl rfl (Nat.le_of_ble_eq_true rfl) dX1_pop_19 ⟨Nat.zero_le _, Nat.zero_le _⟩ (fun r_ bc_ hq_1 H locs hP hD hS => ?_)
  obtain ⟨rfl, rfl⟩ := hq_1
  have hP : PP G [pX1 a G mm ad hv n (n - 1), bX0 (ad (n - 1)) G (hv (n - 1)), hsGo G ad hv (mm - ((n - 1) + 1)) ((n - 1) + 1), bX0 c0 G (f_X0_become h (hv (n - 1)))] H := hP
  have hD : DD (AA (List.flatten [bX1 a G mm ad hv n, bX0 c0 G h])) [pX1 a G mm ad hv n (n - 1), bX0 (ad (n - 1)) G (hv (n - 1)), hsGo G ad hv (mm - ((n - 1) + 1)) ((n - 1) + 1), bX0 c0 G (f_X0_become h (hv (n - 1)))] := D_re hD (adc rfl (adc (bX0_ad _ _ _ _) (adc rfl (adc (bX0_ad _ _ _ _) adn))))
  have hP := (congrArg (fun z => va_P G.1 vwCl z H) (bX1_fl0 (k := n - 1) (by omega) _)).mpr hP
  have hD := (congrArg (fun z => va_D (AA (List.flatten [bX1 a G mm ad hv n, bX0 c0 G h])) z) (bX1_fl0 (k := n - 1) (by omega) _)).mpr hD
  have hP : PP G [bX1 a G mm ad hv n, bX0 c0 G (f_X0_become h (hv (n - 1)))] H := hP
  have hD : DD (AA (List.flatten [bX1 a G mm ad hv n, bX0 c0 G h])) [bX1 a G mm ad hv n, bX0 c0 G (f_X0_become h (hv (n - 1)))] := hD
  refine lv_aload_n hx hb dX1_pop_22 rfl (lv_at hl 1 rfl) ?_
  refine lv_dup hx hb dX1_pop_23 rfl ?_
  refine kb_get (own := RX1) (C := RX1) (T := TX1) (N := 2) (v := .int (nI n)) hx hb hts hin1 hown hX hP 0 rfl rfl rfl 1 (by decide) rfl (by decide +kernel) rfl dX1_pop_24 ?_
  refine lv_iconst (v := 1) hx hb dX1_pop_27 (by decide) ?_
  refine lv_isub hx hb dX1_pop_28 ?_
  refine kb_rw (y := nI (n - 1)) (nI_pm (nI_ne0 hn0 (by omega))) ?_
  refine kb_put (own := RX1) (C := RX1) (T := TX1) (N := 2) hx hb hts hin1 tyX1 tyX1_ok nmX1 (ty := .int) hown hX hP hD hS 0 rfl rfl rfl 1 (by decide) rfl (by decide +kernel) (by decide +kernel) rfl rfl (Nat.le_of_ble_eq_true rfl) dX1_pop_29 rfl (fun H locs hP hD hS => ?_)
  have hP : PP G [bX1 a G mm ad hv (n - 1), bX0 c0 G (f_X0_become h (hv (n - 1)))] H := hP
  have hD : DD (AA (List.flatten [bX1 a G mm ad hv n, bX0 c0 G h])) [bX1 a G mm ad hv (n - 1), bX0 c0 G (f_X0_become h (hv (n - 1)))] := D_re hD (adc (bX1_ad _ _ _ _ _ _ _ _) (adc (bX0_ad _ _ _ _) adn))
  refine lv_iconst (v := 1) hx hb dX1_pop_32 (by decide) ?_
  have hP : PP G [bX1 a G mm ad hv (n - 1), bX0 c0 G (f_X0_become h (hv (n - 1)))] H := by
    exact hP
  exact kr_sz hx hb hr hlocks dX1_pop_33 rfl hP hS (sameAd_cons (bX1_ad _ _ _ _ _ _ _ _) (sameAd_cons (bX0_ad _ _ _ _) sameAd_nil)) ⟨rfl, rfl⟩

set_option maxRecDepth 100000 in
set_option maxHeartbeats 4000000 in
theorem c_X1_pop_v2 (l : Launch) (G : GD) (a : Nat → Nat) (mm : Nat) (ad : Nat → Nat → Nat) (hv : Nat → OV) (n : Nat) (c0 : Nat → Nat) (h : OV) (hn : n = 0) : MetS l yX1_pop wsX1_pop rm_X1_pop G [bX1 a G mm ad hv n, bX0 c0 G h] [.ref (a 0), .ref (c0 0)] (fun r bc => r = some (.int (0)) ∧ bc = [bX1 a G mm ad hv n, bX0 c0 G h]) := by
  refine kb_beginS (cc := cX1_pop) (maxL := 3) (ret := (some .boolean)) (by decide) rfl (Nat.le_of_ble_eq_true rfl) ?_
  intro p e s m below meth c hx hb hr hml hown hts hlocks hX H locs hP hD hS ls hl
  have hown : s.vm.findClass RX1 = some m.cls := hown
  have hl : lv_has ls 3 [(0, .ref (a 0)), (1, .ref (c0 0))] := hl
  have hin1 : ∀ w ∈ u_ws RX1 TX1 2, w ∈ wsX1_pop := (fun _ h => List.mem_cons_of_mem _ (List.mem_append_left _ (List.mem_append_right _ (h))))
  refine lv_aload_n hx hb dX1_pop_0 rfl (lv_at hl 0 rfl) ?_
  refine lv_aload_n hx hb dX1_pop_1 rfl (lv_at hl 0 rfl) ?_
  refine kb_get (own := RX1) (C := RX1) (T := TX1) (N := 2) (v := .int (nI n)) hx hb hts hin1 hown hX hP 0 rfl rfl rfl 1 (by decide) rfl (by decide +kernel) rfl dX1_pop_2 ?_
  refine lv_iconst (v := 1) hx hb dX1_pop_5 (by decide) ?_
  refine lv_isub hx hb dX1_pop_6 ?_
  refine kcV_p hx hb hml hown hts hX hP (c_X1_slotAt_v2 l G a mm ad hv n ((nI n) - 1) (by rw [hn]; decide)) gX1_pop_X1_slotAt 1 rfl rfl rfl hd_X1_slotAt ⟨Nat.le_of_ble_eq_true rfl, Nat.le_of_ble_eq_true rfl⟩ [0] rfl 0 rfl rfl rfl hl.1 rfl rfl (Nat.le_of_ble_eq_true rfl) dX1_pop_7 ⟨Nat.zero_le _, Nat.zero_le _⟩ ?_
  refine lv_astore_nN (lv' := [(2, .null), (0, .ref (a 0)), (1, .ref (c0 0))]) hx hb dX1_pop_10 rfl hl (by decide) rfl (fun ls hl => ?_)
  refine lv_aload_nN hx hb dX1_pop_11 rfl (lv_at hl 0 rfl) ?_
  refine lv_ifnonnullN hx hb dX1_pop_12 ?_
  refine lv_iconst (v := 0) hx hb dX1_pop_15 (by decide) ?_
  have hP : PP G [bX1 a G mm ad hv n, bX0 c0 G h] H := by
    exact hP
  exact kr_sz hx hb hr hlocks dX1_pop_16 rfl hP hS (sameAd_cons (bX1_ad _ _ _ _ _ _ _ _) (sameAd_cons (bX0_ad _ _ _ _) sameAd_nil)) ⟨rfl, rfl⟩

theorem c_X1_push (l : Launch) (G : GD) (a : Nat → Nat) (mm : Nat) (ad : Nat → Nat → Nat) (hv : Nat → OV) (n : Nat) (c0 : Nat → Nat) (h : OV) (hn : n ≤ mm) (hm1 : 1 ≤ mm) (hm : mm ≤ 8) : MetS l yX1_push wsX1_push rm_X1_push G [bX1 a G mm ad hv n, bX0 c0 G h] [.ref (a 0), .ref (c0 0)] (fun r bc => r = none ∧ bc = [bX1 a G mm (pushA mm n ad) (pushH mm n hv h) (pushN mm n), bX0 c0 G h]) := by
  rcases Nat.lt_or_ge n mm with h1 | h1
  · simp only [pushA, pushH, pushN, if_pos h1]
    exact c_X1_push_v1 l G a mm ad hv n c0 h h1 hm
  · simp only [pushA, pushH, pushN, if_neg (Nat.not_lt.mpr h1)]
    have := c_X1_push_v2 l G a mm ad hv n c0 h (by omega) hm1 hm
    rw [show mm - 1 + 1 = mm by omega] at this
    exact this
theorem c_X1_pop (l : Launch) (G : GD) (a : Nat → Nat) (mm : Nat) (ad : Nat → Nat → Nat) (hv : Nat → OV) (n : Nat) (c0 : Nat → Nat) (h : OV) (hn : n ≤ mm) (hm : mm ≤ 8) : MetS l yX1_pop wsX1_pop rm_X1_pop G [bX1 a G mm ad hv n, bX0 c0 G h] [.ref (a 0), .ref (c0 0)] (fun r bc => r = some (.int (popR n)) ∧ bc = [bX1 a G mm ad hv (n - 1), bX0 c0 G (popV n hv h)]) := by
  rcases Nat.eq_zero_or_pos n with h1 | h1
  · subst h1
    exact c_X1_pop_v2 l G a mm ad hv 0 c0 h rfl
  · simp only [popR, popV, if_neg (show ¬ n = 0 by omega)]
    exact c_X1_pop_v1 l G a mm ad hv n c0 h h1 hn hm
