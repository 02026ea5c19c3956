/-! worlds in blocks; contracts whose answer and world are told; rows for fields, arrays and calls over blocks -/
abbrev GD : Type := va_G × ClassId × ClassId × ClassId
abbrev OV : Type := (Nat → Nat → Int32) × (Nat → Int32)
def setA (v : OV) (t : Nat) (f : Nat → Int32) : OV := (fun u => if u = t then f else v.1 u, v.2)
def setI (v : OV) (t : Nat) (x : Int32) : OV := (v.1, fun u => if u = t then x else v.2 u)
def nW : List Cond := [
  .fieldLinkNest RX6 77 "DoorsThatRemember$Text" "length" "I" "DoorsThatRemember",
  .fieldLinkNest RX6 116 "DoorsThatRemember$House" "oilLeft" "[I" "DoorsThatRemember",
  .fieldLinkNest RX6 125 "DoorsThatRemember$House" "place" "[I" "DoorsThatRemember",
  .fieldLinkNest RX6 243 "DoorsThatRemember$House" "minutes" "I" "DoorsThatRemember",
  .fieldLinkNest RX6 160 "DoorsThatRemember$House" "nights" "I" "DoorsThatRemember",
  .fieldLinkNest RX6 170 "DoorsThatRemember$Past" "size" "I" "DoorsThatRemember",
  .fieldLinkNest RX5 50 "DoorsThatRemember$Plan" "sideA" "[I" "DoorsThatRemember",
  .fieldLinkNest RX6 102 "DoorsThatRemember$Plan" "sideA" "[I" "DoorsThatRemember",
  .fieldLinkNest RX5 57 "DoorsThatRemember$Plan" "sideB" "[I" "DoorsThatRemember",
  .fieldLinkNest RX6 110 "DoorsThatRemember$Plan" "sideB" "[I" "DoorsThatRemember",
  .fieldLinkNest RX6 113 "DoorsThatRemember$Plan" "passTo" "[I" "DoorsThatRemember",
  .fieldLinkNest RX0 90 "DoorsThatRemember$Plan" "passTo" "[I" "DoorsThatRemember",
  .fieldLinkNest RX6 119 "DoorsThatRemember$Plan" "draught" "[I" "DoorsThatRemember",
  .fieldLinkNest RX0 102 "DoorsThatRemember$Plan" "draught" "[I" "DoorsThatRemember",
  .fieldLinkNest RX0 33 "DoorsThatRemember$Plan" "home" "[I" "DoorsThatRemember",
  .fieldLinkNest RX6 128 "DoorsThatRemember$Plan" "temper" "[I" "DoorsThatRemember",
  .fieldLinkNest RX3 26 "DoorsThatRemember$Plan" "goal" "[I" "DoorsThatRemember",
  .fieldLinkNest RX6 131 "DoorsThatRemember$Plan" "goal" "[I" "DoorsThatRemember",
  .fieldLinkNest RX0 24 "DoorsThatRemember$Plan" "firstGrudges" "[I" "DoorsThatRemember",
  .fieldLinkNest RX3 22 "DoorsThatRemember$Plan" "roomCount" "I" "DoorsThatRemember",
  .fieldLinkNest RX5 43 "DoorsThatRemember$Plan" "roomCount" "I" "DoorsThatRemember",
  .fieldLinkNest RX6 249 "DoorsThatRemember$Plan" "roomCount" "I" "DoorsThatRemember",
  .fieldLinkNest RX5 18 "DoorsThatRemember$Plan" "doorCount" "I" "DoorsThatRemember",
  .fieldLinkNest RX6 95 "DoorsThatRemember$Plan" "doorCount" "I" "DoorsThatRemember",
  .fieldLinkNest RX0 87 "DoorsThatRemember$Plan" "doorCount" "I" "DoorsThatRemember",
  .fieldLinkNest RX3 15 "DoorsThatRemember$Plan" "lodgerCount" "I" "DoorsThatRemember",
  .fieldLinkNest RX0 77 "DoorsThatRemember$Plan" "lodgerCount" "I" "DoorsThatRemember",
  .fieldLinkNest RX6 252 "DoorsThatRemember$Plan" "lodgerCount" "I" "DoorsThatRemember",
  .fieldLinkNest RX0 93 "DoorsThatRemember$Plan" "tenths" "I" "DoorsThatRemember",
  .fieldLinkNest RX0 96 "DoorsThatRemember$Plan" "fade" "I" "DoorsThatRemember",
  .fieldLinkNest RX6 149 "DoorsThatRemember$Plan" "oilLasts" "I" "DoorsThatRemember",
  .methodLinkNest RX6 9 yX4_init "DoorsThatRemember",
  .methodLinkNest RX6 18 yX0_init "DoorsThatRemember",
  .methodLinkNest RX1 21 yX0_init "DoorsThatRemember",
  .methodLinkNest RX6 40 yX5_init "DoorsThatRemember",
  .methodLinkNest RX6 47 yX3_init "DoorsThatRemember",
  .methodLinkNest RX6 54 yX2_init "DoorsThatRemember",
  .methodLinkNest RX2 62 yX6_put "DoorsThatRemember",
  .methodLinkNest RX0 29 yX6_copy "DoorsThatRemember",
  .methodLinkNest RX0 36 yX6_fill "DoorsThatRemember",
  .methodLinkNest RX4 22 yX6_put "DoorsThatRemember",
  .methodLinkNest RX2 52 yX6_fill "DoorsThatRemember",
  .methodLinkNest RX4 56 yX6_at "DoorsThatRemember",
  .methodLinkNest RX4 60 yX6_within "DoorsThatRemember",
  .methodLinkNest RX2 66 yX6_at "DoorsThatRemember",
  .methodLinkNest RX2 97 yX6_within "DoorsThatRemember",
  .methodLinkNest RX0 47 yX6_at "DoorsThatRemember",
  .methodLinkNest RX0 51 yX6_put "DoorsThatRemember",
  .methodLinkNest RX2 107 yX6_grown "DoorsThatRemember",
  .methodLinkNest RX2 111 yX6_worn "DoorsThatRemember",
  .methodLinkNest RX0 99 yX6_worn "DoorsThatRemember",
  .methodLinkNest RX0 105 yX6_grown "DoorsThatRemember",
  .methodLinkNest RX5 24 yX6_holds "DoorsThatRemember",
  .methodLinkNest RX5 34 yX6_put "DoorsThatRemember",
  .methodLinkNest RX5 39 yX6_fill "DoorsThatRemember",
  .methodLinkNest RX5 53 yX6_at "DoorsThatRemember",
  .methodLinkNest RX3 29 yX6_at "DoorsThatRemember",
  .methodLinkNest RX3 43 yX6_put "DoorsThatRemember",
  .methodLinkNest RX3 51 yX6_holds "DoorsThatRemember",
  .methodLinkNest RX2 114 yX6_holds "DoorsThatRemember"]
def nOk : Cond → Bool := fun w => match w with
  | .fieldLinkNest _ _ _ _ _ _ => true
  | .methodLinkNest _ _ _ _ => true
  | _ => false
theorem nW_ok : ∀ w ∈ nW, nOk w = true := by decide +kernel
def CX (G : GD) (U : State) : Prop := va_K G.1 vwCl [(G.2.1, .int), (G.2.2.1, .byte), (G.2.2.2, .object "DoorsThatRemember$House")] U ∧ ∀ w ∈ nW, va_Nw w U
theorem CX.warm {G : GD} {s U : State} (hW : s.WarmedH U.vm) (h : CX G s) : CX G U := by
  refine ⟨va_K.moved hW.alike h.1, fun w hw => ?_⟩
  have h1 := nW_ok w hw
  have h2 := h.2 w hw
  cases w <;> first | exact va_Nw.warmF hW h2 | exact va_Nw.warmM hW h2 | (simp [nOk] at h1)
theorem CX.calling {G : GD} {U : State} {g : JFrame} {mk : MethodId} {a : Array Value} (h : CX G U) : CX G (U.calling g mk a) := by
  refine ⟨va_K.moved (u := U) (U := U.calling g mk a) (Vm.Alike.refl U.vm) h.1, fun w hw => ?_⟩
  have h1 := nW_ok w hw
  have h2 := h.2 w hw
  refine va_Nw.same ?_ (rfl : U.vm = (U.calling g mk a).vm) h2
  cases w <;> first | rfl | (simp [nOk] at h1)
theorem bl_at : ∀ (bs : List va_W) (i j : Nat) (b : va_W) (c : Nat × va_E), bs[i]? = some b → b[j]? = some c → ∃ q, bs.flatten[q]? = some c ∧ ∀ c', bs.flatten.set q c' = (bs.set i (b.set j c')).flatten
  | [], i, j, b, c, h, _ => by simp at h
  | b0 :: bs, 0, j, b, c, h, hj => by
    simp only [List.getElem?_cons_zero, Option.some.injEq] at h
    subst h
    have hl : j < b0.length := (List.getElem?_eq_some_iff.mp hj).1
    refine ⟨j, ?_, fun c' => ?_⟩
    · rw [List.flatten_cons, List.getElem?_append_left hl]; exact hj
    · rw [List.flatten_cons, List.set_append_left _ _ hl]; rfl
  | b0 :: bs, i + 1, j, b, c, h, hj => by
    obtain ⟨q, h1, h2⟩ := bl_at bs i j b c (by simpa using h) hj
    refine ⟨b0.length + q, ?_, fun c' => ?_⟩
    · rw [List.flatten_cons, List.getElem?_append_right (by omega), Nat.add_sub_cancel_left]; exact h1
    · rw [List.flatten_cons, List.set_append_right _ _ (by omega), Nat.add_sub_cancel_left, h2]; rfl
def updB : List va_W → List Nat → List va_W → List va_W
  | bs, i :: is, b :: bc => updB (bs.set i b) is bc
  | bs, _, _ => bs
/-- the same addresses, block by block -/
def sameAd : List va_W → List va_W → Prop
  | [], [] => True
  | b :: bs, b' :: bs' => (b'.map Prod.fst).Perm (b.map Prod.fst) ∧ sameAd bs bs'
  | _, _ => False
theorem sameAd_rf : ∀ {bs bs' : List va_W}, bs'.map (fun b => b.map Prod.fst) = bs.map (fun b => b.map Prod.fst) → sameAd bs bs'
  | [], [], _ => trivial
  | [], _ :: _, h => by simp at h
  | _ :: _, [], h => by simp at h
  | b :: bs, b' :: bs', h => by
    simp only [List.map_cons, List.cons.injEq] at h
    exact ⟨by rw [h.1], sameAd_rf h.2⟩
def AA (ws : va_W) : Nat → Prop := fun q => q ∈ ws.map Prod.fst
theorem D_iff {A : Nat → Prop} {ws : va_W} : va_D A ws ↔ (ws.map Prod.fst).Nodup ∧ ∀ q ∈ ws.map Prod.fst, A q := by
  constructor
  · intro h
    refine ⟨?_, fun q hq => ?_⟩
    · refine List.pairwise_iff_getElem.mpr (fun i j hi hj hij he => ?_)
      simp only [List.length_map] at hi hj
      rw [List.getElem_map, List.getElem_map] at he
      have := h.1 i j _ _ (List.getElem?_eq_getElem hi) (List.getElem?_eq_getElem hj) he
      omega
    · obtain ⟨c, hc, rfl⟩ := List.mem_map.mp hq
      obtain ⟨k, hk⟩ := List.getElem?_of_mem hc
      exact h.2 k c hk
  · intro h
    refine ⟨fun i j p q hi hj he => ?_, fun k q hk => h.2 _ (List.mem_map.mpr ⟨q, List.mem_of_getElem? hk, rfl⟩)⟩
    have h1 : (ws.map Prod.fst)[i]? = some p.1 := by rw [List.getElem?_map, hi]; rfl
    have h2 : (ws.map Prod.fst)[j]? = some p.1 := by rw [List.getElem?_map, hj, he]; rfl
    have hi' : i < (ws.map Prod.fst).length := (List.getElem?_eq_some_iff.mp h1).1
    exact (List.getElem?_inj hi' h.1).mp (h1.trans h2.symm)
theorem D_perm {A : Nat → Prop} {ws ws' : va_W} (h : va_D A ws) (hp : (ws'.map Prod.fst).Perm (ws.map Prod.fst)) : va_D A ws' := by
  rw [D_iff] at h ⊢
  exact ⟨hp.nodup_iff.mpr h.1, fun q hq => h.2 q (hp.mem_iff.mp hq)⟩
theorem P_iff {D : va_G} {cl : List vw_C} {ws : va_W} {H : Heap} : va_P D cl ws H ↔ ∀ q ∈ ws, va_at D cl q H := by
  constructor
  · intro h q hq
    obtain ⟨k, hk⟩ := List.getElem?_of_mem hq
    exact h k q hk
  · intro h k q hk
    exact h q (List.mem_of_getElem? hk)
theorem set_perm : ∀ {bs : List va_W} {i : Nat} {b b' : va_W}, bs[i]? = some b → (b'.map Prod.fst).Perm (b.map Prod.fst) → ((bs.set i b').flatten.map Prod.fst).Perm (bs.flatten.map Prod.fst)
  | [], i, b, b', h, _ => by simp at h
  | b0 :: bs, 0, b, b', h, hp => by
    simp only [List.getElem?_cons_zero, Option.some.injEq] at h
    subst h
    simp only [List.set_cons_zero, List.flatten_cons, List.map_append]
    exact hp.append_right _
  | b0 :: bs, i + 1, b, b', h, hp => by
    simp only [List.set_cons_succ, List.flatten_cons, List.map_append]
    exact (set_perm (by simpa using h) hp).append_left _
theorem updB_perm : ∀ {is : List Nat} {bs bc bc' : List va_W}, va_nd is = true → is.map (fun i => bs[i]?) = bc.map some → sameAd bc bc' → ((updB bs is bc').flatten.map Prod.fst).Perm (bs.flatten.map Prod.fst)
  | [], bs, bc, bc', _, _, _ => by cases bc' <;> exact List.Perm.refl _
  | i :: is, bs, [], bc', _, h, _ => by simp at h
  | i :: is, bs, b :: bc, [], _, _, h => by exact absurd h (by simp [sameAd])
  | i :: is, bs, b :: bc, b' :: bc', hn, h, hs => by
    simp only [List.map_cons, List.cons.injEq] at h
    simp only [va_nd, Bool.and_eq_true, decide_eq_true_eq] at hn
    have h2 : is.map (fun k => (bs.set i b')[k]?) = bc.map some := by
      rw [← h.2]
      refine List.map_congr_left fun k hk => ?_
      rw [List.getElem?_set_ne (fun e : i = k => hn.1 (by rw [e]; exact hk))]
    exact (updB_perm (bs := bs.set i b') hn.2 h2 hs.2).trans (set_perm h.1 hs.1)
theorem updB_mem : ∀ {is : List Nat} {bs bc : List va_W} {c : Nat × va_E}, is.length ≤ bc.length → c ∈ (updB bs is bc).flatten → c ∈ bc.flatten ∨ ∃ k b, k ∉ is ∧ bs[k]? = some b ∧ c ∈ b
  | [], bs, bc, c, _, h => by
    have h1 : c ∈ bs.flatten := by cases bc <;> exact h
    obtain ⟨b, hb, hc⟩ := List.mem_flatten.mp h1
    obtain ⟨k, hk⟩ := List.getElem?_of_mem hb
    exact Or.inr ⟨k, b, by simp, hk, hc⟩
  | i :: is, bs, [], c, hl, h => by simp at hl
  | i :: is, bs, b0 :: bc, c, hl, h => by
    rcases updB_mem (is := is) (bs := bs.set i b0) (bc := bc) (by simpa using hl) h with h | ⟨k, b, h1, h2, h3⟩
    · exact Or.inl (by rw [List.flatten_cons]; exact List.mem_append_right _ h)
    · by_cases hk : k = i
      · subst hk
        by_cases hl : k < bs.length
        · rw [List.getElem?_set_self hl] at h2
          cases h2
          exact Or.inl (by rw [List.flatten_cons]; exact List.mem_append_left _ h3)
        · rw [List.set_eq_of_length_le (by omega)] at h2
          exact absurd (List.getElem?_eq_some_iff.mp h2).1 hl
      · rw [List.getElem?_set_ne (Ne.symm hk)] at h2
        exact Or.inr ⟨k, b, by simp [hk, h1], h2, h3⟩
theorem sameAd_len : ∀ {bs bs' : List va_W}, sameAd bs bs' → bs'.length = bs.length
  | [], [], _ => rfl
  | [], _ :: _, h => absurd h (by simp [sameAd])
  | _ :: _, [], h => absurd h (by simp [sameAd])
  | _ :: _, _ :: _, h => by simp [sameAd_len h.2]
theorem at_idx {bs bc : List va_W} {is : List Nat} (h : is.map (fun i => bs[i]?) = bc.map some) {b : va_W} (hb : b ∈ bc) : ∃ i ∈ is, bs[i]? = some b := by
  have h1 : some b ∈ bc.map some := List.mem_map.mpr ⟨b, hb, rfl⟩
  rw [← h] at h1
  obtain ⟨i, hi, he⟩ := List.mem_map.mp h1
  exact ⟨i, hi, he⟩
theorem sub_mem {bs bc : List va_W} {is : List Nat} (h : is.map (fun i => bs[i]?) = bc.map some) {c : Nat × va_E} (hc : c ∈ bc.flatten) : c ∈ bs.flatten := by
  obtain ⟨b, hb, hc⟩ := List.mem_flatten.mp hc
  obtain ⟨i, -, hi⟩ := at_idx h hb
  exact List.mem_flatten.mpr ⟨b, List.mem_of_getElem? hi, hc⟩
/-- cells of two blocks at two places have different addresses -/
theorem nd_apart : ∀ {bs : List va_W} {i k : Nat} {b b' : va_W} {c c' : Nat × va_E}, (bs.flatten.map Prod.fst).Nodup → i ≠ k → bs[i]? = some b → bs[k]? = some b' → c ∈ b → c' ∈ b' → c.1 ≠ c'.1
  | [], i, k, b, b', c, c', _, _, h, _, _, _ => by simp at h
  | b0 :: bs, 0, 0, b, b', c, c', _, h, _, _, _, _ => absurd rfl h
  | b0 :: bs, 0, k + 1, b, b', c, c', hn, _, h1, h2, h3, h4 => by
    simp only [List.getElem?_cons_zero, Option.some.injEq] at h1
    subst h1
    simp only [List.getElem?_cons_succ] at h2
    rw [List.flatten_cons, List.map_append, List.nodup_append] at hn
    exact hn.2.2 _ (List.mem_map.mpr ⟨c, h3, rfl⟩) _ (List.mem_map.mpr ⟨c', List.mem_flatten.mpr ⟨b', List.mem_of_getElem? h2, h4⟩, rfl⟩)
  | b0 :: bs, i + 1, 0, b, b', c, c', hn, _, h1, h2, h3, h4 => by
    simp only [List.getElem?_cons_zero, Option.some.injEq] at h2
    subst h2
    simp only [List.getElem?_cons_succ] at h1
    rw [List.flatten_cons, List.map_append, List.nodup_append] at hn
    exact fun e => hn.2.2 _ (List.mem_map.mpr ⟨c', h4, rfl⟩) _ (List.mem_map.mpr ⟨c, List.mem_flatten.mpr ⟨b, List.mem_of_getElem? h1, h3⟩, rfl⟩) e.symm
  | b0 :: bs, i + 1, k + 1, b, b', c, c', hn, hik, h1, h2, h3, h4 => by
    rw [List.flatten_cons, List.map_append, List.nodup_append] at hn
    exact nd_apart (i := i) (k := k) hn.2.1 (fun e => hik (congrArg (· + 1) e)) (by simpa using h1) (by simpa using h2) h3 h4
/-- the world of a call, out of the caller's -/
theorem D_cut {A : Nat → Prop} {bs bc : List va_W} {is : List Nat} (hD : va_D A bs.flatten) (hn : va_nd is = true) (h : is.map (fun i => bs[i]?) = bc.map some) : va_D (fun _ => True) bc.flatten := by
  rw [D_iff] at hD ⊢
  refine ⟨?_, fun _ _ => trivial⟩
  replace hD := hD.1
  induction is generalizing bc with
  | nil =>
    cases bc with
    | nil => simp
    | cons b bc => simp at h
  | cons i is ih =>
    cases bc with
    | nil => simp at h
    | cons b bc =>
      simp only [List.map_cons, List.cons.injEq] at h
      simp only [va_nd, Bool.and_eq_true, decide_eq_true_eq] at hn
      rw [List.flatten_cons, List.map_append, List.nodup_append]
      refine ⟨?_, ih hn.2 h.2, fun x hx y hy => ?_⟩
      · have : (b.map Prod.fst).Sublist (bs.flatten.map Prod.fst) := (List.sublist_flatten_of_mem (List.mem_of_getElem? h.1)).map _
        exact this.nodup hD
      · obtain ⟨c, hc, rfl⟩ := List.mem_map.mp hx
        obtain ⟨c', hc', rfl⟩ := List.mem_map.mp hy
        obtain ⟨b', hb', hc'⟩ := List.mem_flatten.mp hc'
        obtain ⟨k, hk, hbk⟩ := at_idx h.2 hb'
        exact nd_apart (i := i) (k := k) hD (fun e => hn.1 (by rw [e]; exact hk)) h.1 hbk hc hc'
abbrev kPp (G : GD) (bs : List va_W) (av : List Value) : Array Value → State → Prop := va_Pc av (fun U => va_P G.1 vwCl bs.flatten U.heap ∧ CX G U)
abbrev kQp (r : Option Value) : Array Value → State → Outcome → State → Prop := fun _ st o t => o = .returned r ∧ t.heap = st.heap
abbrev kPs (G : GD) (bs : List va_W) (av : List Value) : Array Value → State → Prop := va_Pc av (fun U => va_P G.1 vwCl bs.flatten U.heap ∧ CX G U ∧ va_D (fun _ => True) bs.flatten)
abbrev kQs (G : GD) (bs : List va_W) (post : Option Value → List va_W → Prop) : Array Value → State → Outcome → State → Prop := fun _ st o t => (∃ (r : Option Value) (bs' : List va_W), o = .returned r ∧ post r bs' ∧ sameAd bs bs' ∧ va_P G.1 vwCl bs'.flatten t.heap) ∧ va_F (AA bs.flatten) st t
/-- a method that changes nothing: its answer -/
abbrev MetP (l : Launch) (y : MethodName) (ws : List Cond) (rm : Room) (G : GD) (bs : List va_W) (av : List Value) (r : Option Value) : Prop := Met l y ws rm (kPp G bs av) (kQp r) 0 0 (fun _ => False)
/-- a method that changes its world: its answer, and the world behind it -/
abbrev MetS (l : Launch) (y : MethodName) (ws : List Cond) (rm : Room) (G : GD) (bs : List va_W) (av : List Value) (post : Option Value → List va_W → Prop) : Prop := Met l y ws rm (kPs G bs av) (kQs G bs post) 0 0 (AA bs.flatten)
theorem kPp_blind {G : GD} {bs : List va_W} {av : List Value} : FrameBlind (kPp G bs av) := fun a U g mk q => ⟨q.1, q.2.1, CX.calling q.2.2⟩
theorem kPs_blind {G : GD} {bs : List va_W} {av : List Value} : FrameBlind (kPs G bs av) := fun a U g mk q => ⟨q.1, q.2.1, CX.calling q.2.2.1, q.2.2.2⟩
section KB
variable {p : Program} {l : Launch} {e : Env} {R : Room} {s : State} {m : MethodId} {args : Array Value} {below : List Frame} {meth : Method} {c : Code} {H : Heap} {locs : List Loc} {cells slots : Nat} {Q : State → Prop}
variable {cc : ByteArray} {pc : Nat} {ls : Array Slot} {rest st0 : List Value} {G : GD} {A : Nat → Prop} {a : Nat} {bs : List va_W} {H0 : Heap}
theorem kb_get (hx : p.tables.exec = Jvm.exec) (hb : c.code = cc) {own C ref n d : String} {T : u_T} {N ci index : Nat} {Ts : List Cond} (hts : ∀ w ∈ Ts, w.before args s = true) (hin : ∀ w ∈ u_ws C T N, w ∈ Ts) (hown : s.vm.findClass own = some m.cls) (hX : CX G s) (hP : va_P G.1 vwCl bs.flatten H) (i : Nat) {b : va_W} {fs : List Value} (hi : bs[i]? = some b) (hj : b[0]? = some (a, .inr (ci, fs))) (hc : vwCl[ci]? = some (C, T, N)) (k : Nat) (hk : k < N) {fin : Bool} (hT : T k = (ref, n, d, fin)) (hlink : Cond.fieldLink own index ref n d ∈ Ts) {v : Value} (hv : fs[k]? = some v) (hdg : decode cc pc = .ok (.getfield index, 3))
    (kk : W p l e R s m args below meth c H locs cells slots Q (F0 m (pc + 3) ls (v :: rest))) : W p l e R s m args below meth c H locs cells slots Q (F0 m pc ls (.ref a :: rest)) := by
  obtain ⟨q, hq, -⟩ := bl_at _ _ _ _ _ hi hj
  exact va_get hx hb hts hin hown hX.1 hP q hq hc k hk (by rw [hT]; exact hts _ hlink) (fun x h => by rw [hT] at h ⊢; exact h) hv hdg kk
theorem kb_getN (hx : p.tables.exec = Jvm.exec) (hb : c.code = cc) {own C ref n d : String} {T : u_T} {N ci index : Nat} {Ts : List Cond} (hts : ∀ w ∈ Ts, w.before args s = true) (hin : ∀ w ∈ u_ws C T N, w ∈ Ts) (hown : s.vm.findClass own = some m.cls) (hX : CX G s) (hP : va_P G.1 vwCl bs.flatten H) (i : Nat) {b : va_W} {fs : List Value} (hi : bs[i]? = some b) (hj : b[0]? = some (a, .inr (ci, fs))) (hc : vwCl[ci]? = some (C, T, N)) (k : Nat) (hk : k < N) {fin : Bool} (hT : T k = (ref, n, d, fin)) (hlink : Cond.fieldLinkNest own index ref n d "DoorsThatRemember" ∈ nW) {v : Value} (hv : fs[k]? = some v) (hdg : decode cc pc = .ok (.getfield index, 3))
    (kk : W p l e R s m args below meth c H locs cells slots Q (F0 m (pc + 3) ls (v :: rest))) : W p l e R s m args below meth c H locs cells slots Q (F0 m pc ls (.ref a :: rest)) := by
  obtain ⟨q, hq, -⟩ := bl_at _ _ _ _ _ hi hj
  exact va_getN (host := "DoorsThatRemember") hx hb hts hin hown hX.1 hP q hq hc k hk (by rw [hT]; exact va_Nw.use rfl (hX.2 _ hlink)) (fun x h => by rw [hT] at h ⊢; exact h) hv hdg kk
theorem kb_put (hx : p.tables.exec = Jvm.exec) (hb : c.code = cc) {own C ref n d : String} {T : u_T} {N ci index : Nat} {Ts : List Cond} (hts : ∀ w ∈ Ts, w.before args s = true) (hin : ∀ w ∈ u_ws C T N, w ∈ Ts) (ty0 : Nat → FieldType) (hty : ∀ k, k < N → parseFieldDescriptor (T k).2.2.1 = some (ty0 k)) (hnm : ∀ a, a < N → ∀ b, b < N → a ≠ b → (T a).2.1 ≠ (T b).2.1) (hown : s.vm.findClass own = some m.cls) (hX : CX G s) (hP : va_P G.1 vwCl bs.flatten H) (hD : va_D A bs.flatten) (hS : va_S A H0 H locs) (i : Nat) {b : va_W} {fs : List Value} (hi : bs[i]? = some b) (hj : b[0]? = some (a, .inr (ci, fs))) (hc : vwCl[ci]? = some (C, T, N)) (k : Nat) (hk : k < N) (hT : T k = (ref, n, d, false)) (hlink : Cond.fieldLink own index ref n d ∈ Ts) {ty : FieldType} {v : Value} (hd : parseFieldDescriptor (T k).2.2.1 = some ty) (hn : narrow ty v = v) (hfit : fits ty v = true) (hl : k < fs.length) (hdg : decode cc pc = .ok (.putfield index, 3))
    {b2 : va_W} (hs2 : b.set 0 (a, .inr (ci, fs.set k v)) = b2) (kk : ∀ (H1 : Heap) (locs1 : List Loc), va_P G.1 vwCl (bs.set i b2).flatten H1 → va_D A (bs.set i b2).flatten → va_S A H0 H1 locs1 → W p l e R s m args below meth c H1 locs1 cells slots Q (F0 m (pc + 3) ls rest)) : W p l e R s m args below meth c H locs cells slots Q (F0 m pc ls (v :: .ref a :: rest)) := by
  obtain ⟨q, hq, hs⟩ := bl_at _ _ _ _ _ hi hj
  refine va_put hx hb hts hin ty0 hty hnm hown hX.1 hP hD hS q hq hc k hk (by rw [hT]; exact hts _ hlink) (fun x h => by rw [hT] at h ⊢; exact h) (by rw [hT]) hd hn hfit hl hdg (fun H1 locs1 h1 h2 h3 => ?_)
  rw [hs, hs2] at h1 h2
  exact kk H1 locs1 h1 h2 h3
theorem kb_putF (hx : p.tables.exec = Jvm.exec) (hb : c.code = cc) {own C ref n d : String} {T : u_T} {N ci index : Nat} {Ts : List Cond} (hts : ∀ w ∈ Ts, w.before args s = true) (hin : ∀ w ∈ u_ws C T N, w ∈ Ts) (ty0 : Nat → FieldType) (hty : ∀ k, k < N → parseFieldDescriptor (T k).2.2.1 = some (ty0 k)) (hnm : ∀ a, a < N → ∀ b, b < N → a ≠ b → (T a).2.1 ≠ (T b).2.1) (hown : s.vm.findClass own = some m.cls) (hX : CX G s) (hP : va_P G.1 vwCl bs.flatten H) (hD : va_D A bs.flatten) (hS : va_S A H0 H locs) (i : Nat) {b : va_W} {fs : List Value} (hi : bs[i]? = some b) (hj : b[0]? = some (a, .inr (ci, fs))) (hc : vwCl[ci]? = some (C, T, N)) (k : Nat) (hk : k < N) (hT : T k = (ref, n, d, true)) (hlink : Cond.fieldLink own index ref n d ∈ Ts) (hin2 : meth.name = "<init>") (hdecl : ref = own) {ty : FieldType} {v : Value} (hd : parseFieldDescriptor (T k).2.2.1 = some ty) (hn : narrow ty v = v) (hfit : fits ty v = true) (hl : k < fs.length) (hdg : decode cc pc = .ok (.putfield index, 3))
    {b2 : va_W} (hs2 : b.set 0 (a, .inr (ci, fs.set k v)) = b2) (kk : ∀ (H1 : Heap) (locs1 : List Loc), va_P G.1 vwCl (bs.set i b2).flatten H1 → va_D A (bs.set i b2).flatten → va_S A H0 H1 locs1 → W p l e R s m args below meth c H1 locs1 cells slots Q (F0 m (pc + 3) ls rest)) : W p l e R s m args below meth c H locs cells slots Q (F0 m pc ls (v :: .ref a :: rest)) := by
  obtain ⟨q, hq, hs⟩ := bl_at _ _ _ _ _ hi hj
  refine va_putF hx hb hts hin ty0 hty hnm hown hX.1 hP hD hS q hq hc k hk (by rw [hT]; exact hts _ hlink) (fun x h => by rw [hT] at h ⊢; exact h) (by rw [hT]) hin2 (by rw [hT]; exact hdecl) hd hn hfit hl hdg (fun H1 locs1 h1 h2 h3 => ?_)
  rw [hs, hs2] at h1 h2
  exact kk H1 locs1 h1 h2 h3
theorem kb_putN (hx : p.tables.exec = Jvm.exec) (hb : c.code = cc) {own C ref n d : String} {T : u_T} {N ci index : Nat} {Ts : List Cond} (hts : ∀ w ∈ Ts, w.before args s = true) (hin : ∀ w ∈ u_ws C T N, w ∈ Ts) (ty0 : Nat → FieldType) (hty : ∀ k, k < N → parseFieldDescriptor (T k).2.2.1 = some (ty0 k)) (hnm : ∀ a, a < N → ∀ b, b < N → a ≠ b → (T a).2.1 ≠ (T b).2.1) (hown : s.vm.findClass own = some m.cls) (hX : CX G s) (hP : va_P G.1 vwCl bs.flatten H) (hD : va_D A bs.flatten) (hS : va_S A H0 H locs) (i : Nat) {b : va_W} {fs : List Value} (hi : bs[i]? = some b) (hj : b[0]? = some (a, .inr (ci, fs))) (hc : vwCl[ci]? = some (C, T, N)) (k : Nat) (hk : k < N) (hT : T k = (ref, n, d, false)) (hlink : Cond.fieldLinkNest own index ref n d "DoorsThatRemember" ∈ nW) {ty : FieldType} {v : Value} (hd : parseFieldDescriptor (T k).2.2.1 = some ty) (hn : narrow ty v = v) (hfit : fits ty v = true) (hl : k < fs.length) (hdg : decode cc pc = .ok (.putfield index, 3))
    {b2 : va_W} (hs2 : b.set 0 (a, .inr (ci, fs.set k v)) = b2) (kk : ∀ (H1 : Heap) (locs1 : List Loc), va_P G.1 vwCl (bs.set i b2).flatten H1 → va_D A (bs.set i b2).flatten → va_S A H0 H1 locs1 → W p l e R s m args below meth c H1 locs1 cells slots Q (F0 m (pc + 3) ls rest)) : W p l e R s m args below meth c H locs cells slots Q (F0 m pc ls (v :: .ref a :: rest)) := by
  obtain ⟨q, hq, hs⟩ := bl_at _ _ _ _ _ hi hj
  refine va_putN (host := "DoorsThatRemember") hx hb hts hin ty0 hty hnm hown hX.1 hP hD hS q hq hc k hk (by rw [hT]; exact va_Nw.use rfl (hX.2 _ hlink)) (fun x h => by rw [hT] at h ⊢; exact h) (by rw [hT]) hd hn hfit hl hdg (fun H1 locs1 h1 h2 h3 => ?_)
  rw [hs, hs2] at h1 h2
  exact kk H1 locs1 h1 h2 h3
theorem kb_iald (hx : p.tables.exec = Jvm.exec) (hb : c.code = cc) (hX : CX G s) (hP : va_P G.1 vwCl bs.flatten H) (i j : Nat) {b : va_W} {n : Nat} {f : Nat → Int32} (hi : bs[i]? = some b) (hj : b[j]? = some (a, .inl (G.2.1, n, .inl f))) {k : Int32} (hin : vp_in k n) (hdg : decode cc pc = .ok (.iaload, 1))
    (kk : W p l e R s m args below meth c H locs cells slots Q (F0 m (pc + 1) ls (.int (f k.toNatClampNeg) :: rest))) : W p l e R s m args below meth c H locs cells slots Q (F0 m pc ls (.int k :: .ref a :: rest)) := by
  obtain ⟨q, hq, -⟩ := bl_at _ _ _ _ _ hi hj
  exact va_iald hx hb hX.1 hP q 0 hq rfl hin hdg kk
theorem kb_bald (hx : p.tables.exec = Jvm.exec) (hb : c.code = cc) (hX : CX G s) (hP : va_P G.1 vwCl bs.flatten H) (i j : Nat) {b : va_W} {n : Nat} {f : Nat → Int32} (hi : bs[i]? = some b) (hj : b[j]? = some (a, .inl (G.2.2.1, n, .inl f))) {k : Int32} (hin : vp_in k n) (hdg : decode cc pc = .ok (.baload, 1))
    (kk : W p l e R s m args below meth c H locs cells slots Q (F0 m (pc + 1) ls (.int (f k.toNatClampNeg) :: rest))) : W p l e R s m args below meth c H locs cells slots Q (F0 m pc ls (.int k :: .ref a :: rest)) := by
  obtain ⟨q, hq, -⟩ := bl_at _ _ _ _ _ hi hj
  exact va_bald hx hb hX.1 hP q 1 hq rfl hin hdg kk
theorem kb_aldq (hx : p.tables.exec = Jvm.exec) (hb : c.code = cc) (hX : CX G s) (hP : va_P G.1 vwCl bs.flatten H) (i j : Nat) {b : va_W} {n : Nat} {f : Nat → Option Nat} (hi : bs[i]? = some b) (hj : b[j]? = some (a, .inl (G.2.2.2, n, .inr (.inr (.inr (.inr f)))))) {k : Int32} (hin : vp_in k n) (hdg : decode cc pc = .ok (.aaload, 1))
    (kk : W p l e R s m args below meth c H locs cells slots Q (F0 m (pc + 1) ls (va_rf (f k.toNatClampNeg) :: rest))) : W p l e R s m args below meth c H locs cells slots Q (F0 m pc ls (.int k :: .ref a :: rest)) := by
  obtain ⟨q, hq, -⟩ := bl_at _ _ _ _ _ hi hj
  exact va_aldq hx hb hX.1 hP q 2 hq rfl hin hdg kk
theorem kb_alen (hx : p.tables.exec = Jvm.exec) (hb : c.code = cc) (hX : CX G s) (hP : va_P G.1 vwCl bs.flatten H) (i j t0 : Nat) {b : va_W} {cA : ClassId} {x : vp_A} (hi : bs[i]? = some b) (hj : b[j]? = some (a, .inl (cA, x))) {ty : FieldType} (ht : [(G.2.1, FieldType.int), (G.2.2.1, FieldType.byte), (G.2.2.2, FieldType.object "DoorsThatRemember$House")][t0]? = some (cA, ty)) {v : Int32} (hv : Int32.ofNat x.1 = v) (hdg : decode cc pc = .ok (.arraylength, 1))
    (kk : W p l e R s m args below meth c H locs cells slots Q (F0 m (pc + 1) ls (.int v :: rest))) : W p l e R s m args below meth c H locs cells slots Q (F0 m pc ls (.ref a :: rest)) := by
  obtain ⟨q, hq, -⟩ := bl_at _ _ _ _ _ hi hj
  exact va_alen hx hb hX.1 hP q t0 hq ht hv hdg kk
theorem kb_iast (hx : p.tables.exec = Jvm.exec) (hb : c.code = cc) (hX : CX G s) (hP : va_P G.1 vwCl bs.flatten H) (hD : va_D A bs.flatten) (hS : va_S A H0 H locs) (i j : Nat) {b : va_W} {n : Nat} {f : Nat → Int32} (hi : bs[i]? = some b) (hj : b[j]? = some (a, .inl (G.2.1, n, .inl f))) {k x : Int32} (hin : vp_in k n) (hdg : decode cc pc = .ok (.iastore, 1))
    {b2 : va_W} (hs2 : b.set j (a, .inl (G.2.1, n, .inl (upd f k.toNatClampNeg x))) = b2) (kk : ∀ (H1 : Heap) (locs1 : List Loc), va_P G.1 vwCl (bs.set i b2).flatten H1 → va_D A (bs.set i b2).flatten → va_S A H0 H1 locs1 → W p l e R s m args below meth c H1 locs1 cells slots Q (F0 m (pc + 1) ls rest)) : W p l e R s m args below meth c H locs cells slots Q (F0 m pc ls (.int x :: .int k :: .ref a :: rest)) := by
  obtain ⟨q, hq, hs⟩ := bl_at _ _ _ _ _ hi hj
  refine va_iast hx hb hX.1 hP hD hS q 0 hq rfl hin hdg (fun H1 locs1 h1 h2 h3 => ?_)
  rw [hs, hs2] at h1 h2
  exact kk H1 locs1 h1 h2 h3
theorem kb_bast (hx : p.tables.exec = Jvm.exec) (hb : c.code = cc) (hX : CX G s) (hP : va_P G.1 vwCl bs.flatten H) (hD : va_D A bs.flatten) (hS : va_S A H0 H locs) (i j : Nat) {b : va_W} {n : Nat} {f : Nat → Int32} (hi : bs[i]? = some b) (hj : b[j]? = some (a, .inl (G.2.2.1, n, .inl f))) {k x : Int32} (hin : vp_in k n) (hdg : decode cc pc = .ok (.bastore, 1))
    {b2 : va_W} (hs2 : b.set j (a, .inl (G.2.2.1, n, .inl (upd f k.toNatClampNeg (vp_nar .byte x)))) = b2) (kk : ∀ (H1 : Heap) (locs1 : List Loc), va_P G.1 vwCl (bs.set i b2).flatten H1 → va_D A (bs.set i b2).flatten → va_S A H0 H1 locs1 → W p l e R s m args below meth c H1 locs1 cells slots Q (F0 m (pc + 1) ls rest)) : W p l e R s m args below meth c H locs cells slots Q (F0 m pc ls (.int x :: .int k :: .ref a :: rest)) := by
  obtain ⟨q, hq, hs⟩ := bl_at _ _ _ _ _ hi hj
  refine va_bast hx hb hX.1 hP hD hS q 1 hq rfl hin hdg (fun H1 locs1 h1 h2 h3 => ?_)
  rw [hs, hs2] at h1 h2
  exact kk H1 locs1 h1 h2 h3
/-- behind a call that changes nothing -/
theorem kc_p {r : Option Value} {av : Array Value} (hr : va_Run p l e R s m args below meth c H locs cells slots 0 0 (F0 m pc ls st0) rest (kQp r av) (fun _ => False))
    (kk : W p l e R s m args below meth c H locs cells slots Q (F0 m (pc + 3) ls (r.toList ++ rest))) : W p l e R s m args below meth c H locs cells slots Q (F0 m pc ls st0) := by
  intro T hT X
  obtain ⟨v, st₀, t, T', L, h0, X', hL, e1, e2, ⟨hv, hh⟩, st⟩ := hr T hT X
  cases hv
  have hL0 : L = [] := by
    cases L with
    | nil => rfl
    | cons q L => exact absurd (hL q List.mem_cons_self) id
  subst hL0
  rw [List.append_nil] at X'
  obtain ⟨t2, a1, b1⟩ := kk T' (by rw [e1, hh, h0]) X'
  exact ⟨t2, st t2 a1, b1⟩
/-- behind a call that changes its blocks -/
theorem kc_s {bc : List va_W} {post : Option Value → List va_W → Prop} {av : Array Value} (hr : va_Run p l e R s m args below meth c H locs cells slots 0 0 (F0 m pc ls st0) rest (kQs G bc post av) (AA bc.flatten)) (hP : va_P G.1 vwCl bs.flatten H) (hD : va_D A bs.flatten) (hS : va_S A H0 H locs) (is : List Nat) (hn : va_nd is = true) (hC : is.map (fun i => bs[i]?) = bc.map some)
    (kk : ∀ (r : Option Value) (bc' : List va_W), post r bc' → ∀ (H1 : Heap) (locs1 : List Loc), va_P G.1 vwCl (updB bs is bc').flatten H1 → va_D A (updB bs is bc').flatten → va_S A H0 H1 locs1 → W p l e R s m args below meth c H1 locs1 cells slots Q (F0 m (pc + 3) ls (r.toList ++ rest))) : W p l e R s m args below meth c H locs cells slots Q (F0 m pc ls st0) := by
  intro T hT X
  obtain ⟨v, st₀, t, T', L, h0, X', hL, e1, e2, ⟨⟨r, bc', hv, hp, hsa, hP1⟩, hz, hk⟩, st⟩ := hr T hT X
  cases hv
  rw [h0] at hz hk
  rw [← e1] at hP1 hz hk
  have hAA : ∀ q, AA bc.flatten q → AA bs.flatten q := fun q hq => by
    obtain ⟨x, hx, rfl⟩ := List.mem_map.mp hq
    exact List.mem_map.mpr ⟨x, sub_mem hC hx, rfl⟩
  have hA : ∀ q, AA bc.flatten q → A q := fun q hq => (D_iff.mp hD).2 q (hAA q hq)
  refine Exists.elim (kk v bc' hp T'.heap (locs ++ L) ?_ (D_perm hD (updB_perm hn hC hsa)) ⟨Nat.le_trans hS.1 hz, fun q h1 h2 => ?_, fun q hq => ?_⟩ T' rfl X') (fun t2 h => ⟨t2, st t2 h.1, h.2⟩)
  · rw [P_iff] at hP hP1 ⊢
    intro q hq
    have hlen : is.length ≤ bc'.length := by
      have h1 := congrArg List.length hC
      simp only [List.length_map] at h1
      rw [sameAd_len hsa, h1]
      exact Nat.le_refl _
    rcases updB_mem hlen hq with h | ⟨k, b, h1, h2, h3⟩
    · exact hP1 q h
    · have hq0 : q ∈ bs.flatten := List.mem_flatten.mpr ⟨b, List.mem_of_getElem? h2, h3⟩
      have h4 := hP q hq0
      refine h4.kept (hk q.1 h4.lt fun hAq => ?_)
      obtain ⟨x, hx, he⟩ := List.mem_map.mp hAq
      obtain ⟨b', hb', hx'⟩ := List.mem_flatten.mp hx
      obtain ⟨i, hi, hbi⟩ := at_idx hC hb'
      exact nd_apart (i := i) (k := k) (D_iff.mp hD).1 (fun e => h1 (by rw [← e]; exact hi)) hbi h2 hx' h3 he
  · rw [hk q (Nat.lt_of_lt_of_le h1 hS.1) (fun z => h2 (hA q z))]
    exact hS.2.1 q h1 h2
  · rcases List.mem_append.mp hq with h | h
    · exact hS.2.2 q h
    · exact hA _ (hL q h)
end KB
abbrev PP (G : GD) (bs : List va_W) (H : Heap) : Prop := va_P G.1 vwCl (List.flatten bs) H
abbrev DD (A : Nat → Prop) (bs : List va_W) : Prop := va_D A (List.flatten bs)
theorem flat_cut {bs : List va_W} {i j : Nat} {b : va_W} {c : Nat × va_E} (hi : bs[i]? = some b) (hj : b[j]? = some c) : bs.flatten = (bs.take i ++ [b.take j, [c], b.drop (j + 1)] ++ bs.drop (i + 1)).flatten := by
  have h1 : i < bs.length := (List.getElem?_eq_some_iff.mp hi).1
  have h2 : j < b.length := (List.getElem?_eq_some_iff.mp hj).1
  have e1 : bs = bs.take i ++ b :: bs.drop (i + 1) := by
    have h3 := (List.getElem?_eq_some_iff.mp hi).2
    rw [← h3, List.getElem_cons_drop, List.take_append_drop]
  have e2 : b = b.take j ++ c :: b.drop (j + 1) := by
    have h3 := (List.getElem?_eq_some_iff.mp hj).2
    rw [← h3, List.getElem_cons_drop, List.take_append_drop]
  conv => lhs; rw [e1]
  rw [List.flatten_append, List.flatten_cons]
  conv => lhs; rw [e2]
  simp [List.flatten_append, List.append_assoc]
theorem flat_cut_set {bs : List va_W} {i j : Nat} {b : va_W} {c : Nat × va_E} (hi : bs[i]? = some b) (hj : b[j]? = some c) (c' : Nat × va_E) : (bs.take i ++ [b.take j, [c'], b.drop (j + 1)] ++ bs.drop (i + 1)).flatten = (bs.set i (b.set j c')).flatten := by
  have h1 : i < bs.length := (List.getElem?_eq_some_iff.mp hi).1
  have h2 : j < b.length := (List.getElem?_eq_some_iff.mp hj).1
  have h3 := flat_cut (bs := bs.set i (b.set j c')) (i := i) (j := j) (b := b.set j c') (c := c') (List.getElem?_set_self h1) (List.getElem?_set_self h2)
  rw [h3]
  rw [List.take_set_of_le (Nat.le_refl _), List.take_set_of_le (Nat.le_refl _), List.drop_set_of_lt (by omega), List.drop_set_of_lt (by omega)]
theorem cell_in {bs : List va_W} {i j : Nat} {b : va_W} {c : Nat × va_E} (hi : bs[i]? = some b) (hj : b[j]? = some c) : ∀ q ∈ [[c]].flatten, q ∈ bs.flatten := by
  intro q hq
  have : q = c := by simpa using hq
  subst this
  exact List.mem_flatten.mpr ⟨b, List.mem_of_getElem? hi, List.mem_of_getElem? hj⟩
section KC
variable {p : Program} {l : Launch} {e : Env} {R : Room} {s : State} {m : MethodId} {args : Array Value} {below : List Frame} {meth : Method} {c : Code} {H : Heap} {locs : List Loc} {cells slots : Nat} {Q : State → Prop}
variable {cc bytes : ByteArray} {pc nL maxL index : Nat} {ls : Array Slot} {rest st0 As : List Value} {G : GD} {A : Nat → Prop} {b : Nat} {bs bc : List va_W} {H0 : Heap} {y : MethodName} {ret : Option FieldType} {ws ws' Ts : List Cond} {rm : Room} {own C : String} {r : Option Value} {post : Option Value → List va_W → Prop}
/-- behind a call that writes one row -/
theorem kc_cell {x0 : Nat × va_E} {x1 : Nat × va_E} {av : Array Value} (hr : va_Run p l e R s m args below meth c H locs cells slots 0 0 (F0 m pc ls st0) rest (kQs G [[x0]] (fun r bc' => r = none ∧ bc' = [[x1]]) av) (AA [[x0]].flatten)) (hP : va_P G.1 vwCl bs.flatten H) (hD : va_D A bs.flatten) (hS : va_S A H0 H locs) (i j : Nat) {b : va_W} (hi : bs[i]? = some b) (hj : b[j]? = some x0) {b2 : va_W} (hs2 : b.set j x1 = b2)
    (kk : ∀ (H1 : Heap) (locs1 : List Loc), va_P G.1 vwCl (bs.set i b2).flatten H1 → va_D A (bs.set i b2).flatten → va_S A H0 H1 locs1 → W p l e R s m args below meth c H1 locs1 cells slots Q (F0 m (pc + 3) ls rest)) : W p l e R s m args below meth c H locs cells slots Q (F0 m pc ls st0) := by
  subst hs2
  have h1 : i < bs.length := (List.getElem?_eq_some_iff.mp hi).1
  rw [flat_cut hi hj] at hP hD
  have hlen : (bs.take i).length = i := by rw [List.length_take]; omega
  have hC : (bs.take i ++ [b.take j, [x0], b.drop (j + 1)] ++ bs.drop (i + 1))[i + 1]? = some [x0] := by
    rw [List.append_assoc, List.getElem?_append_right (by omega), hlen, show i + 1 - i = 1 by omega]
    rfl
  have hset : ((bs.take i ++ [b.take j, [x0], b.drop (j + 1)] ++ bs.drop (i + 1)).set (i + 1) [x1]).flatten = (bs.set i (b.set j x1)).flatten := by
    rw [List.append_assoc, List.set_append_right _ _ (by omega), hlen, show i + 1 - i = 1 by omega, ← flat_cut_set hi hj, List.append_assoc]
    rfl
  refine kc_s hr hP hD hS [i + 1] rfl (by simp only [List.map_cons, List.map_nil]; rw [hC]) ?_
  rintro r bc' ⟨rfl, rfl⟩ H1 locs1 g1 g2 g3
  have hu : (updB (bs.take i ++ [b.take j, [x0], b.drop (j + 1)] ++ bs.drop (i + 1)) [i + 1] [[x1]]).flatten = (bs.set i (b.set j x1)).flatten := hset
  rw [hu] at g1 g2
  exact kk H1 locs1 g1 g2 g3
theorem pre_p {av : List Value} (hX : CX G s) (hP : va_P G.1 vwCl bs.flatten H) (hsub : ∀ q ∈ bc.flatten, q ∈ bs.flatten) : ∀ U : State, U.heap = H → s.WarmedH U.vm → kPp G bc av av.toArray U := by
  intro U hU hW
  refine ⟨rfl, ?_, CX.warm hW hX⟩
  rw [hU, P_iff]
  exact fun q hq => (P_iff.mp hP) q (hsub q hq)
theorem pre_s {av : List Value} (hX : CX G s) (hP : va_P G.1 vwCl bs.flatten H) (hD : va_D A bs.flatten) {is : List Nat} (hn : va_nd is = true) (hC : is.map (fun i => bs[i]?) = bc.map some) : ∀ U : State, U.heap = H → s.WarmedH U.vm → kPs G bc av av.toArray U := by
  intro U hU hW
  refine ⟨rfl, ?_, CX.warm hW hX, D_cut hD hn hC⟩
  rw [hU, P_iff]
  exact fun q hq => (P_iff.mp hP) q (sub_mem hC hq)
theorem recv_b {ci N : Nat} {T : u_T} {fs : List Value} {bb : va_W} (hX : CX G s) (hP : va_P G.1 vwCl bs.flatten H) (i : Nat) (hi : bs[i]? = some bb) (hj : bb[0]? = some (b, .inr (ci, fs))) (hc : vwCl[ci]? = some (C, T, N)) : ∃ cellB : Cell, H[b]? = some cellB ∧ cellB.vm.isStatics = false ∧ s.vm.findClass C = some cellB.cls := by
  obtain ⟨q, hq, -⟩ := bl_at _ _ _ _ _ hi hj
  exact va_recv hX.1 hP hc hq
theorem kcV_p (hx : p.tables.exec = Jvm.exec) (hb : c.code = cc) (hml : c.maxLocals = nL) (hown : s.vm.findClass own = some m.cls) (hts : ∀ w ∈ Ts, w.before args s = true) (hX : CX G s) (hP : va_P G.1 vwCl bs.flatten H) (hM : MetP l y ws rm G bc (.ref b :: As) r) (hg : GoodIn Ts (wsV own index C y ws)) (n : Nat) (hw : ws = Cond.code y bytes maxL ret :: ws') (hrc : rm.cells = 0) (hrs : rm.slots = 0) (hd : y.cls = C ∧ y.cls ≠ "java/lang/invoke/MethodHandle" ∧ y.cls ≠ "java/lang/invoke/VarHandle" ∧ (parseMethodDescriptor y.desc).map (fun d => d.parameters.length) = some n) (hR : rm.frames + 1 ≤ R.frames ∧ 8 + (maxL + 11) + rm.locals ≤ R.locals) (is : List Nat) (hC : is.map (fun i => bs[i]?) = bc.map some) (i0 : Nat) {bb : va_W} {ci N : Nat} {T : u_T} {fs : List Value} (hi : bs[i0]? = some bb) (hj : bb[0]? = some (b, .inr (ci, fs))) (hcl : vwCl[ci]? = some (C, T, N)) (hls : ls.size = nL) (hst : st0 = As.reverse ++ .ref b :: rest) (hn : As.length = n) (hroom : (rest.map fun v => v.category).sum ≤ 8) (hdg : decode cc pc = .ok (.invokevirtual index, 3)) (hf : cells ≤ R.cells ∧ slots ≤ R.slots)
    (kk : W p l e R s m args below meth c H locs cells slots Q (F0 m (pc + 3) ls (r.toList ++ rest))) : W p l e R s m args below meth c H locs cells slots Q (F0 m pc ls st0) :=
  kc_p (va_runV ⟨hx, hb, hml, hown, hts⟩ hM (cwV n hts hg hw hrc hrs hd hR) ⟨kPp_blind, recv_b hX hP i0 hi hj hcl, pre_p hX hP (fun q hq => sub_mem hC hq)⟩ rfl hn hls hst (lv_room hroom) hdg hf) kk
theorem kcV_s (hx : p.tables.exec = Jvm.exec) (hb : c.code = cc) (hml : c.maxLocals = nL) (hown : s.vm.findClass own = some m.cls) (hts : ∀ w ∈ Ts, w.before args s = true) (hX : CX G s) (hP : va_P G.1 vwCl bs.flatten H) (hD : va_D A bs.flatten) (hS : va_S A H0 H locs) (hM : MetS l y ws rm G bc (.ref b :: As) post) (hg : GoodIn Ts (wsV own index C y ws)) (n : Nat) (hw : ws = Cond.code y bytes maxL ret :: ws') (hrc : rm.cells = 0) (hrs : rm.slots = 0) (hd : y.cls = C ∧ y.cls ≠ "java/lang/invoke/MethodHandle" ∧ y.cls ≠ "java/lang/invoke/VarHandle" ∧ (parseMethodDescriptor y.desc).map (fun d => d.parameters.length) = some n) (hR : rm.frames + 1 ≤ R.frames ∧ 8 + (maxL + 11) + rm.locals ≤ R.locals) (is : List Nat) (hnd : va_nd is = true) (hC : is.map (fun i => bs[i]?) = bc.map some) (i0 : Nat) {bb : va_W} {ci N : Nat} {T : u_T} {fs : List Value} (hi : bs[i0]? = some bb) (hj : bb[0]? = some (b, .inr (ci, fs))) (hcl : vwCl[ci]? = some (C, T, N)) (hls : ls.size = nL) (hst : st0 = As.reverse ++ .ref b :: rest) (hn : As.length = n) (hroom : (rest.map fun v => v.category).sum ≤ 8) (hdg : decode cc pc = .ok (.invokevirtual index, 3)) (hf : cells ≤ R.cells ∧ slots ≤ R.slots)
    (kk : ∀ (r : Option Value) (bc' : List va_W), post r bc' → ∀ (H1 : Heap) (locs1 : List Loc), va_P G.1 vwCl (updB bs is bc').flatten H1 → va_D A (updB bs is bc').flatten → va_S A H0 H1 locs1 → W p l e R s m args below meth c H1 locs1 cells slots Q (F0 m (pc + 3) ls (r.toList ++ rest))) : W p l e R s m args below meth c H locs cells slots Q (F0 m pc ls st0) :=
  kc_s (va_runV ⟨hx, hb, hml, hown, hts⟩ hM (cwV n hts hg hw hrc hrs hd hR) ⟨kPs_blind, recv_b hX hP i0 hi hj hcl, pre_s hX hP hD hnd hC⟩ rfl hn hls hst (lv_room hroom) hdg hf) hP hD hS is hnd hC kk
theorem kcS_p (hx : p.tables.exec = Jvm.exec) (hb : c.code = cc) (hml : c.maxLocals = nL) (hown : s.vm.findClass own = some m.cls) (hts : ∀ w ∈ Ts, w.before args s = true) (hX : CX G s) (hP : va_P G.1 vwCl bs.flatten H) (hM : MetP l y ws rm G bc As r) (hg : GoodIn Ts (va_wsS own index y ws)) (n : Nat) (hw : ws = Cond.code y bytes maxL ret :: ws') (hrc : rm.cells = 0) (hrs : rm.slots = 0) (hd : y.cls ≠ "java/lang/invoke/MethodHandle" ∧ y.cls ≠ "java/lang/invoke/VarHandle" ∧ (parseMethodDescriptor y.desc).map (fun d => d.parameters.length) = some n) (hR : rm.frames + 1 ≤ R.frames ∧ 8 + (maxL + 11) + rm.locals ≤ R.locals) (hsub : ∀ q ∈ bc.flatten, q ∈ bs.flatten) (hls : ls.size = nL) (hst : st0 = As.reverse ++ rest) (hn : As.length = n) (hroom : (rest.map fun v => v.category).sum ≤ 8) (hdg : decode cc pc = .ok (.invokestatic index, 3)) (hf : cells ≤ R.cells ∧ slots ≤ R.slots)
    (kk : W p l e R s m args below meth c H locs cells slots Q (F0 m (pc + 3) ls (r.toList ++ rest))) : W p l e R s m args below meth c H locs cells slots Q (F0 m pc ls st0) :=
  kc_p (va_runS ⟨hx, hb, hml, hown, hts⟩ hM (va_cwS n hts hg hw hrc hrs hd hR) ⟨kPp_blind, pre_p hX hP hsub⟩ rfl hn hls hst (lv_room hroom) hdg hf) kk
theorem kcN_p (hx : p.tables.exec = Jvm.exec) (hb : c.code = cc) (hml : c.maxLocals = nL) (hown : s.vm.findClass own = some m.cls) (hts : ∀ w ∈ Ts, w.before args s = true) (hX : CX G s) (hP : va_P G.1 vwCl bs.flatten H) (hM : MetP l y ws rm G bc As r) (hg : GoodIn Ts ws) (hmem : Cond.methodLinkNest own index y "DoorsThatRemember" ∈ nW) (hini : Cond.initialized y.cls ∈ Ts) (hsta : Cond.static y ∈ Ts) (n : Nat) (hw : ws = Cond.code y bytes maxL ret :: ws') (hrc : rm.cells = 0) (hrs : rm.slots = 0) (hd : y.cls ≠ "java/lang/invoke/MethodHandle" ∧ y.cls ≠ "java/lang/invoke/VarHandle" ∧ (parseMethodDescriptor y.desc).map (fun d => d.parameters.length) = some n) (hR : rm.frames + 1 ≤ R.frames ∧ 8 + (maxL + 11) + rm.locals ≤ R.locals) (hsub : ∀ q ∈ bc.flatten, q ∈ bs.flatten) (hls : ls.size = nL) (hst : st0 = As.reverse ++ rest) (hn : As.length = n) (hroom : (rest.map fun v => v.category).sum ≤ 8) (hdg : decode cc pc = .ok (.invokestatic index, 3)) (hf : cells ≤ R.cells ∧ slots ≤ R.slots)
    (kk : W p l e R s m args below meth c H locs cells slots Q (F0 m (pc + 3) ls (r.toList ++ rest))) : W p l e R s m args below meth c H locs cells slots Q (F0 m pc ls st0) :=
  kc_p (va_runSN ⟨hx, hb, hml, hown, hts⟩ hM ⟨va_cnB n hts hg hw hrc hrs (hX.2 _ hmem) (hts _ hini) hd hR, hts _ hsta, trivial⟩ ⟨kPp_blind, pre_p hX hP hsub⟩ rfl hn hls hst (lv_room hroom) hdg hf) kk
end KC
abbrev kPc2 (G : GD) (x y : Nat × va_E) (av : List Value) : Array Value → State → Prop := va_Pc av (fun U => va_P G.1 vwCl [x, y] U.heap ∧ CX G U ∧ x.1 ≠ y.1)
theorem kPc2_blind {G : GD} {x y : Nat × va_E} {av : List Value} : FrameBlind (kPc2 G x y av) := fun a U g mk q => ⟨q.1, q.2.1, CX.calling q.2.2.1, q.2.2.2⟩
section KD
variable {p : Program} {l : Launch} {e : Env} {R : Room} {s : State} {m : MethodId} {args : Array Value} {below : List Frame} {meth : Method} {c : Code} {H : Heap} {locs : List Loc} {cells slots : Nat} {Q : State → Prop}
variable {cc bytes : ByteArray} {pc nL maxL index : Nat} {ls : Array Slot} {rest st0 As : List Value} {G : GD} {A : Nat → Prop} {b : Nat} {bs bc : List va_W} {H0 : Heap} {y : MethodName} {ret : Option FieldType} {ws ws' Ts : List Cond} {rm : Room} {own C : String} {x0 x1 xf : Nat × va_E}
theorem pre_c {av : List Value} (hX : CX G s) (hP : va_P G.1 vwCl bs.flatten H) {i j : Nat} {b : va_W} (hi : bs[i]? = some b) (hj : b[j]? = some x0) : ∀ U : State, U.heap = H → s.WarmedH U.vm → kPs G [[x0]] av av.toArray U := by
  intro U hU hW
  refine ⟨rfl, ?_, CX.warm hW hX, ?_⟩
  · rw [hU, P_iff]
    exact fun q hq => (P_iff.mp hP) q (cell_in hi hj q hq)
  · rw [D_iff]
    exact ⟨by simp, fun _ _ => trivial⟩
theorem pre_c2 {av : List Value} (hX : CX G s) (hP : va_P G.1 vwCl bs.flatten H) (hD : va_D A bs.flatten) {i j i' j' : Nat} {b b' : va_W} (hi : bs[i]? = some b) (hj : b[j]? = some xf) (hi' : bs[i']? = some b') (hj' : b'[j']? = some x0) (hne : i ≠ i') : ∀ U : State, U.heap = H → s.WarmedH U.vm → kPc2 G xf x0 av av.toArray U := by
  intro U hU hW
  refine ⟨rfl, ?_, CX.warm hW hX, nd_apart (D_iff.mp hD).1 hne hi hi' (List.mem_of_getElem? hj) (List.mem_of_getElem? hj')⟩
  rw [hU, P_iff]
  intro q hq
  have h2 : q = xf ∨ q = x0 := by simpa using hq
  rcases h2 with rfl | rfl
  · exact (P_iff.mp hP) q (List.mem_flatten.mpr ⟨b, List.mem_of_getElem? hi, List.mem_of_getElem? hj⟩)
  · exact (P_iff.mp hP) q (List.mem_flatten.mpr ⟨b', List.mem_of_getElem? hi', List.mem_of_getElem? hj'⟩)
theorem kcS_c (hx : p.tables.exec = Jvm.exec) (hb : c.code = cc) (hml : c.maxLocals = nL) (hown : s.vm.findClass own = some m.cls) (hts : ∀ w ∈ Ts, w.before args s = true) (hX : CX G s) (hP : va_P G.1 vwCl bs.flatten H) (hD : va_D A bs.flatten) (hS : va_S A H0 H locs) (hM : MetS l y ws rm G [[x0]] As (fun r bc' => r = none ∧ bc' = [[x1]])) (hg : GoodIn Ts (va_wsS own index y ws)) (n : Nat) (hw : ws = Cond.code y bytes maxL ret :: ws') (hrc : rm.cells = 0) (hrs : rm.slots = 0) (hd : y.cls ≠ "java/lang/invoke/MethodHandle" ∧ y.cls ≠ "java/lang/invoke/VarHandle" ∧ (parseMethodDescriptor y.desc).map (fun d => d.parameters.length) = some n) (hR : rm.frames + 1 ≤ R.frames ∧ 8 + (maxL + 11) + rm.locals ≤ R.locals) (i j : Nat) {b : va_W} (hi : bs[i]? = some b) (hj : b[j]? = some x0) {b2 : va_W} (hs2 : b.set j x1 = b2) (hls : ls.size = nL) (hst : st0 = As.reverse ++ rest) (hn : As.length = n) (hroom : (rest.map fun v => v.category).sum ≤ 8) (hdg : decode cc pc = .ok (.invokestatic index, 3)) (hf : cells ≤ R.cells ∧ slots ≤ R.slots)
    (kk : ∀ (H1 : Heap) (locs1 : List Loc), va_P G.1 vwCl (bs.set i b2).flatten H1 → va_D A (bs.set i b2).flatten → va_S A H0 H1 locs1 → W p l e R s m args below meth c H1 locs1 cells slots Q (F0 m (pc + 3) ls rest)) : W p l e R s m args below meth c H locs cells slots Q (F0 m pc ls st0) :=
  kc_cell (va_runS ⟨hx, hb, hml, hown, hts⟩ hM (va_cwS n hts hg hw hrc hrs hd hR) ⟨kPs_blind, pre_c hX hP hi hj⟩ rfl hn hls hst (lv_room hroom) hdg hf) hP hD hS i j hi hj hs2 kk
theorem kcN_c (hx : p.tables.exec = Jvm.exec) (hb : c.code = cc) (hml : c.maxLocals = nL) (hown : s.vm.findClass own = some m.cls) (hts : ∀ w ∈ Ts, w.before args s = true) (hX : CX G s) (hP : va_P G.1 vwCl bs.flatten H) (hD : va_D A bs.flatten) (hS : va_S A H0 H locs) (hM : MetS l y ws rm G [[x0]] As (fun r bc' => r = none ∧ bc' = [[x1]])) (hg : GoodIn Ts ws) (hmem : Cond.methodLinkNest own index y "DoorsThatRemember" ∈ nW) (hini : Cond.initialized y.cls ∈ Ts) (hsta : Cond.static y ∈ Ts) (n : Nat) (hw : ws = Cond.code y bytes maxL ret :: ws') (hrc : rm.cells = 0) (hrs : rm.slots = 0) (hd : y.cls ≠ "java/lang/invoke/MethodHandle" ∧ y.cls ≠ "java/lang/invoke/VarHandle" ∧ (parseMethodDescriptor y.desc).map (fun d => d.parameters.length) = some n) (hR : rm.frames + 1 ≤ R.frames ∧ 8 + (maxL + 11) + rm.locals ≤ R.locals) (i j : Nat) {b : va_W} (hi : bs[i]? = some b) (hj : b[j]? = some x0) {b2 : va_W} (hs2 : b.set j x1 = b2) (hls : ls.size = nL) (hst : st0 = As.reverse ++ rest) (hn : As.length = n) (hroom : (rest.map fun v => v.category).sum ≤ 8) (hdg : decode cc pc = .ok (.invokestatic index, 3)) (hf : cells ≤ R.cells ∧ slots ≤ R.slots)
    (kk : ∀ (H1 : Heap) (locs1 : List Loc), va_P G.1 vwCl (bs.set i b2).flatten H1 → va_D A (bs.set i b2).flatten → va_S A H0 H1 locs1 → W p l e R s m args below meth c H1 locs1 cells slots Q (F0 m (pc + 3) ls rest)) : W p l e R s m args below meth c H locs cells slots Q (F0 m pc ls st0) :=
  kc_cell (va_runSN ⟨hx, hb, hml, hown, hts⟩ hM ⟨va_cnB n hts hg hw hrc hrs (hX.2 _ hmem) (hts _ hini) hd hR, hts _ hsta, trivial⟩ ⟨kPs_blind, pre_c hX hP hi hj⟩ rfl hn hls hst (lv_room hroom) hdg hf) hP hD hS i j hi hj hs2 kk
/-- a row copied from another block's -/
theorem kcN_c2 (hx : p.tables.exec = Jvm.exec) (hb : c.code = cc) (hml : c.maxLocals = nL) (hown : s.vm.findClass own = some m.cls) (hts : ∀ w ∈ Ts, w.before args s = true) (hX : CX G s) (hP : va_P G.1 vwCl bs.flatten H) (hD : va_D A bs.flatten) (hS : va_S A H0 H locs) (hM : Met l y ws rm (kPc2 G xf x0 As) (kQs G [[x0]] (fun r bc' => r = none ∧ bc' = [[x1]])) 0 0 (AA [[x0]].flatten)) (hg : GoodIn Ts ws) (hmem : Cond.methodLinkNest own index y "DoorsThatRemember" ∈ nW) (hini : Cond.initialized y.cls ∈ Ts) (hsta : Cond.static y ∈ Ts) (n : Nat) (hw : ws = Cond.code y bytes maxL ret :: ws') (hrc : rm.cells = 0) (hrs : rm.slots = 0) (hd : y.cls ≠ "java/lang/invoke/MethodHandle" ∧ y.cls ≠ "java/lang/invoke/VarHandle" ∧ (parseMethodDescriptor y.desc).map (fun d => d.parameters.length) = some n) (hR : rm.frames + 1 ≤ R.frames ∧ 8 + (maxL + 11) + rm.locals ≤ R.locals) (i' j' : Nat) {b' : va_W} (hi' : bs[i']? = some b') (hj' : b'[j']? = some xf) (i j : Nat) {b : va_W} (hi : bs[i]? = some b) (hj : b[j]? = some x0) {b2 : va_W} (hs2 : b.set j x1 = b2) (hne : i' ≠ i) (hls : ls.size = nL) (hst : st0 = As.reverse ++ rest) (hn : As.length = n) (hroom : (rest.map fun v => v.category).sum ≤ 8) (hdg : decode cc pc = .ok (.invokestatic index, 3)) (hf : cells ≤ R.cells ∧ slots ≤ R.slots)
    (kk : ∀ (H1 : Heap) (locs1 : List Loc), va_P G.1 vwCl (bs.set i b2).flatten H1 → va_D A (bs.set i b2).flatten → va_S A H0 H1 locs1 → W p l e R s m args below meth c H1 locs1 cells slots Q (F0 m (pc + 3) ls rest)) : W p l e R s m args below meth c H locs cells slots Q (F0 m pc ls st0) :=
  kc_cell (va_runSN ⟨hx, hb, hml, hown, hts⟩ hM ⟨va_cnB n hts hg hw hrc hrs (hX.2 _ hmem) (hts _ hini) hd hR, hts _ hsta, trivial⟩ ⟨kPc2_blind, pre_c2 hX hP hD hi' hj' hi hj hne⟩ rfl hn hls hst (lv_room hroom) hdg hf) hP hD hS i j hi hj hs2 kk
end KD
/-! the beginning and the end of a method -/
section KE
variable {l : Launch} {y : MethodName} {ws ws' : List Cond} {rm : Room} {G : GD} {bs : List va_W} {av : List Value} {r : Option Value} {post : Option Value → List va_W → Prop} {cc : ByteArray} {maxL : Nat} {ret : Option FieldType}
theorem kb_beginP (hy : plainName y.cls = true) (hw : ws = Cond.code y cc maxL ret :: ws') (hsl : (lg_sl av).length ≤ maxL)
    (body : ∀ (p : Program) (e : Env) (s : State) (m : MethodId) (below : List Frame) (meth : Method) (c : Code), p.tables.exec = Jvm.exec → c.code = cc → meth.sig.returnType = ret → c.maxLocals = maxL → s.vm.findClass y.cls = some m.cls → (∀ w ∈ ws, w.before av.toArray s = true) → meth.locks = false → CX G s → va_P G.1 vwCl bs.flatten s.heap → ∀ (ls : Array Slot), lv_has ls maxL (lv_args 0 av) →
      W p l e (headSpec ws rm).room s m av.toArray below meth c s.heap [] 0 0 (MQ below (kQp r) av.toArray s 0 0 (fun _ => False)) (F0 m 0 ls [])) : MetP l y ws rm G bs av r := by
  refine Met.ofW (cc := cc) (maxL := maxL) (ret := ret) hy hw ?_
  intro p e s m args below meth c s₁ B hml hv
  obtain ⟨rfl, hP, hX⟩ := hv
  have h := body p e s m below meth c B.exec B.bytes B.returns hml (findClass_of_methodNamed B.named) (atoms_spec (ws := ws) B.pre) B.notSynchronized hX hP _ (lv_entry av (n := maxL) hsl)
  rw [lg_entry_eq]
  exact h
theorem kb_beginS (hy : plainName y.cls = true) (hw : ws = Cond.code y cc maxL ret :: ws') (hsl : (lg_sl av).length ≤ maxL)
    (body : ∀ (p : Program) (e : Env) (s : State) (m : MethodId) (below : List Frame) (meth : Method) (c : Code), p.tables.exec = Jvm.exec → c.code = cc → meth.sig.returnType = ret → c.maxLocals = maxL → s.vm.findClass y.cls = some m.cls → (∀ w ∈ ws, w.before av.toArray s = true) → meth.locks = false → CX G s → ∀ (H : Heap) (locs : List Loc), va_P G.1 vwCl bs.flatten H → va_D (AA bs.flatten) bs.flatten → va_S (AA bs.flatten) s.heap H locs → ∀ (ls : Array Slot), lv_has ls maxL (lv_args 0 av) →
      W p l e (headSpec ws rm).room s m av.toArray below meth c H locs 0 0 (MQ below (kQs G bs post) av.toArray s 0 0 (AA bs.flatten)) (F0 m 0 ls [])) : MetS l y ws rm G bs av post := by
  refine Met.ofW (cc := cc) (maxL := maxL) (ret := ret) hy hw ?_
  intro p e s m args below meth c s₁ B hml hv
  obtain ⟨rfl, hP, hX, hD⟩ := hv
  have hD' : va_D (AA bs.flatten) bs.flatten := by
    rw [D_iff] at hD ⊢
    exact ⟨hD.1, fun q hq => hq⟩
  have h := body p e s m below meth c B.exec B.bytes B.returns hml (findClass_of_methodNamed B.named) (atoms_spec (ws := ws) B.pre) B.notSynchronized hX _ _ hP hD' va_S.rf _ (lv_entry av (n := maxL) hsl)
  rw [lg_entry_eq]
  exact h
variable {p : Program} {e : Env} {s : State} {m : MethodId} {args : Array Value} {below : List Frame} {meth : Method} {c : Code} {H : Heap} {locs : List Loc} {pc : Nat} {ls : Array Slot} {R : Room}
theorem kr_pi {v x : Int32} (hx : p.tables.exec = Jvm.exec) (hb : c.code = cc) (hr : meth.sig.returnType = some .int) (hlocks : meth.locks = false) (hdg : decode cc pc = .ok (.ireturn, 1)) (hv : v = x) : W p l e R s m args below meth c s.heap [] 0 0 (MQ below (kQp (some (.int x))) args s 0 0 (fun _ => False)) (F0 m pc ls [.int v]) :=
  W.iret hx hb hr (fun t ht _ => ⟨by rw [hv], ht⟩) (fun _ h => by cases h) hdg hlocks
theorem kr_pz {v x : Int32} (hx : p.tables.exec = Jvm.exec) (hb : c.code = cc) (hr : meth.sig.returnType = some .boolean) (hlocks : meth.locks = false) (hdg : decode cc pc = .ok (.ireturn, 1)) (hn : narrow .boolean (.int v) = .int v) (hv : v = x) : W p l e R s m args below meth c s.heap [] 0 0 (MQ below (kQp (some (.int x))) args s 0 0 (fun _ => False)) (F0 m pc ls [.int v]) :=
  W.zret hx hb hr hn (fun t ht _ => ⟨by rw [hv], ht⟩) (fun _ h => by cases h) hdg hlocks
theorem kr_si {v : Int32} {bs' : List va_W} (hx : p.tables.exec = Jvm.exec) (hb : c.code = cc) (hr : meth.sig.returnType = some .int) (hlocks : meth.locks = false) (hdg : decode cc pc = .ok (.ireturn, 1)) (hP : va_P G.1 vwCl bs'.flatten H) (hS : va_S (AA bs.flatten) s.heap H locs) (hsa : sameAd bs bs') (hp : post (some (.int v)) bs') : W p l e R s m args below meth c H locs 0 0 (MQ below (kQs G bs post) args s 0 0 (AA bs.flatten)) (F0 m pc ls [.int v]) :=
  W.iret hx hb hr (fun t ht _ => ⟨⟨_, bs', rfl, hp, hsa, by rw [ht]; exact hP⟩, hS.F ht⟩) hS.2.2 hdg hlocks
theorem kr_sz {v : Int32} {bs' : List va_W} (hx : p.tables.exec = Jvm.exec) (hb : c.code = cc) (hr : meth.sig.returnType = some .boolean) (hlocks : meth.locks = false) (hdg : decode cc pc = .ok (.ireturn, 1)) (hn : narrow .boolean (.int v) = .int v) (hP : va_P G.1 vwCl bs'.flatten H) (hS : va_S (AA bs.flatten) s.heap H locs) (hsa : sameAd bs bs') (hp : post (some (.int v)) bs') : W p l e R s m args below meth c H locs 0 0 (MQ below (kQs G bs post) args s 0 0 (AA bs.flatten)) (F0 m pc ls [.int v]) :=
  W.zret hx hb hr hn (fun t ht _ => ⟨⟨_, bs', rfl, hp, hsa, by rw [ht]; exact hP⟩, hS.F ht⟩) hS.2.2 hdg hlocks
theorem kr_sv {bs' : List va_W} (hx : p.tables.exec = Jvm.exec) (hb : c.code = cc) (hr : meth.sig.returnType = none) (hlocks : meth.locks = false) (hdg : decode cc pc = .ok (.return_, 1)) (hP : va_P G.1 vwCl bs'.flatten H) (hS : va_S (AA bs.flatten) s.heap H locs) (hsa : sameAd bs bs') (hp : post none bs') : W p l e R s m args below meth c H locs 0 0 (MQ below (kQs G bs post) args s 0 0 (AA bs.flatten)) (F0 m pc ls []) :=
  W.vret hx hb hr (fun t ht _ => ⟨⟨_, bs', rfl, hp, hsa, by rw [ht]; exact hP⟩, hS.F ht⟩) hS.2.2 hdg hlocks
end KE
section KT
variable {p : Program} {l : Launch} {e : Env} {R : Room} {s : State} {m : MethodId} {args : Array Value} {below : List Frame} {meth : Method} {c : Code} {H : Heap} {locs : List Loc} {cells slots : Nat} {Q : State → Prop}
variable {cc : ByteArray} {pc : Nat} {ls : Array Slot} {rest : List Value}
theorem kb_tIn (hx : p.tables.exec = Jvm.exec) (hb : c.code = cc) {dflt lo hi : Int} {offs : Array Int} {len : Nat} {x v : Int32} {off : Int} {tgt : Nat} (hxv : x = v) (hdg : decode cc pc = .ok (.tableswitch dflt lo hi offs, len)) (h1 : ¬ v.toInt < lo) (h2 : ¬ hi < v.toInt) (ho : offs[(v.toInt - lo).toNat]? = some off) (ht : (pc : Int) + off = (tgt : Int)) (k : W p l e R s m args below meth c H locs cells slots Q (F0 m tgt ls rest)) : W p l e R s m args below meth c H locs cells slots Q (F0 m pc ls (.int x :: rest)) := by
  subst hxv
  exact lv_tableIn hx hb hdg h1 h2 ho ht k
theorem kb_tOut (hx : p.tables.exec = Jvm.exec) (hb : c.code = cc) {dflt lo hi : Int} {offs : Array Int} {len : Nat} {x : Int32} {tgt : Nat} (hdg : decode cc pc = .ok (.tableswitch dflt lo hi offs, len)) (h : x.toInt < lo ∨ hi < x.toInt) (ht : (pc : Int) + dflt = (tgt : Int)) (k : W p l e R s m args below meth c H locs cells slots Q (F0 m tgt ls rest)) : W p l e R s m args below meth c H locs cells slots Q (F0 m pc ls (.int x :: rest)) := lv_tableOut hx hb hdg h ht k
end KT
/-- a counting loop -/
theorem lp_up {N : Nat} {P : Nat → Prop} (hN : P N) (hs : ∀ k, k < N → P (k + 1) → P k) : ∀ k, k ≤ N → P k := by
  have h : ∀ n k, k + n = N → P k := by
    intro n
    induction n with
    | zero => intro k hk; rw [show k = N by omega]; exact hN
    | succ n ih => intro k hk; exact hs k (by omega) (ih (k + 1) (by omega))
  exact fun k hk => h (N - k) k (by omega)
def itN {α : Type} (f : Nat → α → α) (s : α) : Nat → α
  | 0 => s
  | n + 1 => f n (itN f s n)
theorem lp_dn {P : Nat → Prop} (h0 : P 0) (hs : ∀ k, P k → P (k + 1)) : ∀ k, P k := by
  intro k
  induction k with
  | zero => exact h0
  | succ n ih => exact hs n ih
theorem dec1 (x : Int32) : x + Int32.ofInt (-1) = x - 1 := by
  rw [Int32.sub_eq_add_neg]
  rfl
/-- the first place below n where P holds -/
def fnd (P : Nat → Bool) : Nat → Option Nat
  | 0 => none
  | n + 1 => match fnd P n with
    | some k => some k
    | none => if P n = true then some n else none
theorem fnd_none {P : Nat → Bool} : ∀ {n : Nat}, (∀ j, j < n → P j = false) → fnd P n = none
  | 0, _ => rfl
  | n + 1, h => by
    simp only [fnd]
    rw [fnd_none (fun j hj => h j (by omega))]
    simp [h n (by omega)]
theorem fnd_some {P : Nat → Bool} {k : Nat} : ∀ {n : Nat}, k < n → (∀ j, j < k → P j = false) → P k = true → fnd P n = some k
  | 0, h, _, _ => absurd h (by omega)
  | n + 1, h, hf, hk => by
    simp only [fnd]
    by_cases hkn : k = n
    · subst hkn
      rw [fnd_none hf]
      simp [hk]
    · rw [fnd_some (by omega) hf hk]
