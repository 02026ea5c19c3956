/-! constructors: worlds that grow -/
abbrev kPn (G : GD) (bs : List va_W) (av : List Value) (sz : Nat) : Array Value → State → Prop := va_Pc av (fun U => U.heap.size = sz ∧ va_P G.1 vwCl bs.flatten U.heap ∧ CX G U ∧ va_AO "DoorsThatRemember$House" U ∧ va_D (fun _ => True) bs.flatten)
abbrev kQn (G : GD) (bs : List va_W) (sz : Nat) (post : List va_W → Prop) : Array Value → State → Outcome → State → Prop := va_Qv post (fun bs' t => va_P G.1 vwCl bs'.flatten t.heap ∧ va_D (va_A bs.flatten sz) bs'.flatten) (va_A bs.flatten sz)
abbrev MetN (l : Launch) (y : MethodName) (ws : List Cond) (rm : Room) (G : GD) (bs : List va_W) (av : List Value) (post : List va_W → Prop) (mc ms : Nat) : Prop := ∀ sz, Met l y ws rm (kPn G bs av sz) (kQn G bs sz post) mc ms (va_A bs.flatten sz)
theorem kPn_blind {G : GD} {bs : List va_W} {av : List Value} {sz : Nat} : FrameBlind (kPn G bs av sz) := fun a U g mk q => ⟨q.1, q.2.1, q.2.2.1, CX.calling q.2.2.2.1, va_AO.moved (Vm.Alike.refl U.vm) q.2.2.2.2.1, q.2.2.2.2.2⟩
section KI
variable {p : Program} {l : Launch} {e : Env} {R : Room} {s : State} {m : MethodId} {args : Array Value} {below : List Frame} {meth : Method} {c : Code} {H : Heap} {locs : List Loc} {cells slots : Nat} {Q : State → Prop}
variable {cc bytes : ByteArray} {pc nL maxL index : Nat} {ls : Array Slot} {rest st0 As : List Value} {G : GD} {A : Nat → Prop} {b : Nat} {bs bc : List va_W} {H0 : Heap} {y : MethodName} {ws ws' Ts : List Cond} {rm : Room} {own C : String} {post : List va_W → Prop} {mc ms : Nat} {av : List Value}
theorem kb_beginN (hy : plainName y.cls = true) (hw : ws = Cond.code y cc maxL none :: ws') (hsl : (lg_sl av).length ≤ maxL)
    (body : ∀ (p : Program) (e : Env) (s : State) (m : MethodId) (below : List Frame) (meth : Method) (c : Code), p.tables.exec = Jvm.exec → c.code = cc → meth.sig.returnType = none → c.maxLocals = maxL → s.vm.findClass y.cls = some m.cls → (∀ w ∈ ws, w.before av.toArray s = true) → meth.locks = false → meth.name = y.name → CX G s → va_AO "DoorsThatRemember$House" s → ∀ (H : Heap) (locs : List Loc), (∀ q, s.heap.size ≤ q → va_A bs.flatten s.heap.size q) → va_P G.1 vwCl bs.flatten H → va_D (va_A bs.flatten s.heap.size) bs.flatten → va_S (va_A bs.flatten s.heap.size) s.heap H locs → ∀ (ls : Array Slot), lv_has ls maxL (lv_args 0 av) →
      W p l e (headSpec ws rm).room s m av.toArray below meth c H locs 0 0 (MQ below (kQn G bs s.heap.size post) av.toArray s mc ms (va_A bs.flatten s.heap.size)) (F0 m 0 ls [])) : MetN l y ws rm G bs av post mc ms := by
  intro sz
  refine Met.ofW (cc := cc) (maxL := maxL) (ret := none) hy hw ?_
  intro p e s m args below meth c s₁ B hml hv
  obtain ⟨rfl, hsz, hP, hX, hO, hD⟩ := hv
  subst hsz
  have h := body p e s m below meth c B.exec B.bytes B.returns hml (findClass_of_methodNamed B.named) (atoms_spec (ws := ws) B.pre) B.notSynchronized (name_of_methodNamed B.named B.method).1 hX hO _ _ (fun q hq => Or.inr hq) hP hD.self va_S.rf _ (lv_entry av (n := maxL) hsl)
  rw [lg_entry_eq]
  exact h
theorem kr_nv {bs' : List va_W} (hx : p.tables.exec = Jvm.exec) (hb : c.code = cc) (hr : meth.sig.returnType = none) (hlocks : meth.locks = false) (hdg : decode cc pc = .ok (.return_, 1)) (hP : va_P G.1 vwCl bs'.flatten H) (hD : va_D (va_A bs.flatten s.heap.size) bs'.flatten) (hS : va_S (va_A bs.flatten s.heap.size) s.heap H locs) (hp : post bs') (hc : cells ≤ mc) (hs : slots ≤ ms) : W p l e R s m args below meth c H locs cells slots (MQ below (kQn G bs s.heap.size post) args s mc ms (va_A bs.flatten s.heap.size)) (F0 m pc ls []) :=
  W.widen hc hs (W.vret hx hb hr (fun t ht _ => ⟨⟨bs', rfl, hp, by rw [ht]; exact hP, hD⟩, hS.F ht⟩) hS.2.2 hdg hlocks)
theorem fl_push (bs : List va_W) (x : Nat × va_E) : bs.flatten ++ [x] = (bs ++ [[x]]).flatten := by
  rw [List.flatten_append]
  rfl
theorem kb_new (hx : p.tables.exec = Jvm.exec) (hb : c.code = cc) {T : u_T} {N ci : Nat} (hts : ∀ w ∈ Ts, w.before args s = true) (hin : ∀ w ∈ u_ws C T N, w ∈ Ts) (ty : Nat → FieldType) (hty : ∀ k, k < N → parseFieldDescriptor (T k).2.2.1 = some (ty k)) (hown : s.vm.findClass own = some m.cls) (hcl : Cond.classLink own index C ∈ Ts) (hinst : Cond.instantiable C N ∈ Ts) (hini : Cond.initialized C ∈ Ts) (hX : CX G s) (hP : va_P G.1 vwCl bs.flatten H) (hD : va_D A bs.flatten) (hS : va_S A H0 H locs) (hA : ∀ q, H0.size ≤ q → A q) (hc : vwCl[ci]? = some (C, T, N)) {fs : List Value} (hfs : ∀ j, j < N → defaultValue (ty j) = vp_V fs j) (hcells : cells + 1 ≤ R.cells) (hslots : slots + N ≤ R.slots) (hdg : decode cc pc = .ok (.new index, 3))
    (kk : ∀ (q : Nat) (H1 : Heap), va_P G.1 vwCl (bs ++ ([[(q, .inr (ci, fs))]] : List va_W)).flatten H1 → va_D A (bs ++ ([[(q, .inr (ci, fs))]] : List va_W)).flatten → va_S A H0 H1 locs → W p l e R s m args below meth c H1 locs (cells + 1) (slots + N) Q (F0 m (pc + 3) ls (.ref q :: rest))) : W p l e R s m args below meth c H locs cells slots Q (F0 m pc ls rest) := by
  refine va_new (D := G.1) hx hb hts hin ty hty hown (hts _ hcl) (hts _ hinst) (hts _ hini) hX.1 hP hD hS hA hc hfs hcells hslots hdg (fun q H1 h1 h2 h3 => ?_)
  rw [fl_push] at h1 h2
  exact kk q H1 h1 h2 h3
theorem arr_eq {cA cB : ClassId} {ty : FieldType} (h1 : va_RA s cA ty) (h2 : va_RA s cB ty) : cA = cB := by
  cases ty with
  | object C =>
    obtain ⟨_, _, _, _, _, e1⟩ := h1
    obtain ⟨_, _, _, _, _, e2⟩ := h2
    rw [e1] at e2
    exact Option.some.inj e2
  | _ =>
    have e1 : s.vm.findClass _ = some cA := h1
    have e2 : s.vm.findClass _ = some cB := h2
    rw [e1] at e2
    exact Option.some.inj e2
theorem kb_newa (hx : p.tables.exec = Jvm.exec) (hb : c.code = cc) (hts : ∀ w ∈ Ts, w.before args s = true) (harr : Cond.arrayClass .int ∈ Ts) (hX : CX G s) (hP : va_P G.1 vwCl bs.flatten H) (hD : va_D A bs.flatten) (hS : va_S A H0 H locs) (hA : ∀ q, H0.size ≤ q → A q) {n : Nat} {x : Int32} (hxn : x = nI n) (hn : n ≤ 1000) (hcells : cells + 1 ≤ R.cells) (hslots : slots + n ≤ R.slots) (hdg : decode cc pc = .ok (.newarray .int, 2))
    (kk : ∀ (q : Nat) (H1 : Heap), va_P G.1 vwCl (bs ++ ([[(q, .inl (G.2.1, n, .inl (fun _ => 0)))]] : List va_W)).flatten H1 → va_D A (bs ++ ([[(q, .inl (G.2.1, n, .inl (fun _ => 0)))]] : List va_W)).flatten → va_S A H0 H1 locs → W p l e R s m args below meth c H1 locs (cells + 1) (slots + n) Q (F0 m (pc + 2) ls (.ref q :: rest))) : W p l e R s m args below meth c H locs cells slots Q (F0 m pc ls (.int x :: rest)) := by
  subst hxn
  refine va_newa (D := G.1) (atype := .int) (ty := .int) (N' := n) (a0 := (n, .inl (fun _ => 0))) hx hb (hts _ harr) rfl hX.1 hP hD hS hA (fun _ => rfl) (nI_pos (by omega)) (nI_clamp (by omega)) (show n * 4 ≤ 536870912 by omega) hcells hslots hdg (fun q cA H1 hK h1 h2 h3 => ?_)
  have e1 := arr_eq (hK.2 3 (cA, .int) rfl).2 (hK.2 0 (G.2.1, .int) rfl).2
  subst e1
  rw [fl_push] at h1 h2
  exact kk q H1 h1 h2 h3
theorem kb_newb (hx : p.tables.exec = Jvm.exec) (hb : c.code = cc) (hts : ∀ w ∈ Ts, w.before args s = true) (harr : Cond.arrayClass .byte ∈ Ts) (hX : CX G s) (hP : va_P G.1 vwCl bs.flatten H) (hD : va_D A bs.flatten) (hS : va_S A H0 H locs) (hA : ∀ q, H0.size ≤ q → A q) {n : Nat} {x : Int32} (hxn : x = nI n) (hn : n ≤ 1000) (hcells : cells + 1 ≤ R.cells) (hslots : slots + n ≤ R.slots) (hdg : decode cc pc = .ok (.newarray .byte, 2))
    (kk : ∀ (q : Nat) (H1 : Heap), va_P G.1 vwCl (bs ++ ([[(q, .inl (G.2.2.1, n, .inl (fun _ => 0)))]] : List va_W)).flatten H1 → va_D A (bs ++ ([[(q, .inl (G.2.2.1, n, .inl (fun _ => 0)))]] : List va_W)).flatten → va_S A H0 H1 locs → W p l e R s m args below meth c H1 locs (cells + 1) (slots + n) Q (F0 m (pc + 2) ls (.ref q :: rest))) : W p l e R s m args below meth c H locs cells slots Q (F0 m pc ls (.int x :: rest)) := by
  subst hxn
  refine va_newa (D := G.1) (atype := .byte) (ty := .byte) (N' := n) (a0 := (n, .inl (fun _ => 0))) hx hb (hts _ harr) rfl hX.1 hP hD hS hA (fun _ => rfl) (nI_pos (by omega)) (nI_clamp (by omega)) (show n * 1 ≤ 536870912 by omega) hcells hslots hdg (fun q cA H1 hK h1 h2 h3 => ?_)
  have e1 := arr_eq (hK.2 3 (cA, .byte) rfl).2 (hK.2 1 (G.2.2.1, .byte) rfl).2
  subst e1
  rw [fl_push] at h1 h2
  exact kk q H1 h1 h2 h3
theorem kb_newq (hx : p.tables.exec = Jvm.exec) (hb : c.code = cc) (hts : ∀ w ∈ Ts, w.before args s = true) (hown : s.vm.findClass own = some m.cls) (hcl : Cond.classLink own index "DoorsThatRemember$House" ∈ Ts) (hO : va_AO "DoorsThatRemember$House" s) (hX : CX G s) (hP : va_P G.1 vwCl bs.flatten H) (hD : va_D A bs.flatten) (hS : va_S A H0 H locs) (hA : ∀ q, H0.size ≤ q → A q) {n : Nat} {x : Int32} (hxn : x = nI n) (hn : n ≤ 1000) (hcells : cells + 1 ≤ R.cells) (hslots : slots + n ≤ R.slots) (hdg : decode cc pc = .ok (.anewarray index, 3))
    (kk : ∀ (q : Nat) (H1 : Heap), va_P G.1 vwCl (bs ++ ([[(q, .inl (G.2.2.2, n, .inr (.inr (.inr (.inr (fun _ => none))))))]] : List va_W)).flatten H1 → va_D A (bs ++ ([[(q, .inl (G.2.2.2, n, .inr (.inr (.inr (.inr (fun _ => none))))))]] : List va_W)).flatten → va_S A H0 H1 locs → W p l e R s m args below meth c H1 locs (cells + 1) (slots + n) Q (F0 m (pc + 3) ls (.ref q :: rest))) : W p l e R s m args below meth c H locs cells slots Q (F0 m pc ls (.int x :: rest)) := by
  subst hxn
  refine va_newq (D := G.1) (N' := n) hx hb hown (hts _ hcl) hO hX.1 hP hD hS hA (nI_pos (by omega)) (nI_clamp (by omega)) (by omega) hcells hslots hdg (fun q cA H1 hK h1 h2 h3 => ?_)
  have e1 := arr_eq (hK.2 3 (cA, .object "DoorsThatRemember$House") rfl).2 (hK.2 2 (G.2.2.2, .object "DoorsThatRemember$House") rfl).2
  subst e1
  rw [fl_push] at h1 h2
  exact kk q H1 h1 h2 h3
/-- behind a call that lets its world grow -/
theorem join_n {bsR bc bc1 : List va_W} {H1 : Heap} (hP : va_P G.1 vwCl (bsR ++ bc).flatten H) (hD : va_D A (bsR ++ bc).flatten) (hk : ∀ q : Nat, q < H.size → ¬ va_A bc.flatten H.size q → H1[q]? = H[q]?) (hF : ∀ q, va_A bc.flatten H.size q → A q) (hP1 : va_P G.1 vwCl bc1.flatten H1) (hD1 : va_D (va_A bc.flatten H.size) bc1.flatten) : va_P G.1 vwCl (bsR ++ bc1).flatten H1 ∧ va_D A (bsR ++ bc1).flatten := by
  rw [List.flatten_append] at hP hD ⊢
  rw [D_iff, List.map_append, List.nodup_append] at hD
  rw [P_iff] at hP hP1
  rw [D_iff] at hD1
  have hno : ∀ q ∈ bsR.flatten, q.1 < H.size ∧ ¬ va_A bc.flatten H.size q.1 := by
    intro q hq
    have hl := (hP q (List.mem_append_left _ hq)).lt
    refine ⟨hl, ?_⟩
    rintro (⟨k, e, h⟩ | h)
    · exact hD.1.2.2 q.1 (List.mem_map.mpr ⟨q, hq, rfl⟩) q.1 (List.mem_map.mpr ⟨_, List.mem_of_getElem? h, rfl⟩) rfl
    · omega
  constructor
  · rw [P_iff]
    intro q hq
    rcases List.mem_append.mp hq with h | h
    · obtain ⟨h1, h2⟩ := hno q h
      exact (hP q (List.mem_append_left _ h)).kept (hk _ h1 h2)
    · exact hP1 q h
  · rw [D_iff, List.map_append, List.nodup_append]
    refine ⟨⟨hD.1.1, hD1.1, fun x hx z hz e => ?_⟩, fun q hq => ?_⟩
    · obtain ⟨cx, hcx, rfl⟩ := List.mem_map.mp hx
      exact (hno cx hcx).2 (by rw [e]; exact hD1.2 z hz)
    · rcases List.mem_append.mp hq with h | h
      · exact hD.2 q (List.mem_append_left _ h)
      · exact hF q (hD1.2 q h)
theorem free_n {bsR bc : List va_W} (hD : va_D A (bsR ++ bc).flatten) (hS : va_S A H0 H locs) (hA : ∀ q, H0.size ≤ q → A q) : ∀ q, va_A bc.flatten H.size q → A q := by
  rintro q (⟨k, e, h⟩ | h)
  · exact (D_iff.mp hD).2 q (List.mem_map.mpr ⟨(q, e), by rw [List.flatten_append]; exact List.mem_append_right _ (List.mem_of_getElem? h), rfl⟩)
  · exact hA q (Nat.le_trans hS.1 h)
theorem pre_n {bsR bc : List va_W} {av : List Value} (hX : CX G s) (hO : va_AO "DoorsThatRemember$House" s) (hP : va_P G.1 vwCl (bsR ++ bc).flatten H) (hD : va_D A (bsR ++ bc).flatten) : ∀ U : State, U.heap = H → s.WarmedH U.vm → kPn G bc av H.size av.toArray U := by
  intro U hU hW
  rw [List.flatten_append] at hP hD
  refine ⟨rfl, by rw [hU], ?_, CX.warm hW hX, va_AO.moved hW.alike hO, ?_⟩
  · rw [hU, P_iff]
    exact fun q hq => (P_iff.mp hP) q (List.mem_append_right _ hq)
  · rw [D_iff, List.map_append, List.nodup_append] at hD
    rw [D_iff]
    exact ⟨hD.1.2.1, fun _ _ => trivial⟩
/-- a nest mate's constructor -/
theorem kcI_n (hx : p.tables.exec = Jvm.exec) (hb : c.code = cc) (hml : c.maxLocals = nL) (hown : s.vm.findClass own = some m.cls) (hts : ∀ w ∈ Ts, w.before args s = true) (hX : CX G s) (hO : va_AO "DoorsThatRemember$House" s) (bsR : List va_W) (hP : va_P G.1 vwCl (bsR ++ bc).flatten H) (hD : va_D A (bsR ++ bc).flatten) (hS : va_S A H0 H locs) (hA : ∀ q, H0.size ≤ q → A q) (hM : MetN l y ws rm G bc (.ref b :: As) post mc ms) (hg : GoodIn Ts ws) (hmem : Cond.methodLinkNest own index y "DoorsThatRemember" ∈ nW) (hini : Cond.initialized y.cls ∈ Ts) (hins : Cond.instanceMethod y ∈ Ts) (hyn : y.name = "<init>") (n : Nat) (hw : ws = Cond.code y bytes maxL none :: ws') (hrc : rm.cells = mc) (hrs : rm.slots = ms) (hd : y.cls ≠ "java/lang/invoke/MethodHandle" ∧ y.cls ≠ "java/lang/invoke/VarHandle" ∧ (parseMethodDescriptor y.desc).map (fun d => d.parameters.length) = some n) (hR : rm.frames + 1 ≤ R.frames ∧ 8 + (maxL + 11) + rm.locals ≤ R.locals) (hls : ls.size = nL) (hst : st0 = As.reverse ++ .ref b :: rest) (hn : As.length = n) (hroom : (rest.map fun v => v.category).sum ≤ 8) (hdg : decode cc pc = .ok (.invokespecial index, 3)) (hf : cells + mc ≤ R.cells ∧ slots + ms ≤ R.slots)
    (kk : ∀ (bc1 : List va_W), post bc1 → ∀ (H1 : Heap) (locs1 : List Loc), va_P G.1 vwCl (bsR ++ bc1).flatten H1 → va_D A (bsR ++ bc1).flatten → va_S A H0 H1 locs1 → W p l e R s m args below meth c H1 locs1 (cells + mc) (slots + ms) Q (F0 m (pc + 3) ls rest)) : W p l e R s m args below meth c H locs cells slots Q (F0 m pc ls st0) := by
  have hF := free_n hD hS hA
  refine va_callv (va_runIN ⟨hx, hb, hml, hown, hts⟩ (hM H.size) ⟨va_cnB n hts hg hw hrc hrs (hX.2 _ hmem) (hts _ hini) hd hR, hyn, hts _ hins⟩ ⟨kPn_blind, pre_n hX hO hP hD⟩ rfl hn hls hst (lv_room hroom) hdg hf) hS (fun q _ h => hF q h) hF (fun u t H1 locs1 ht hvm hw hB hz1 hk1 hS1 => ?_)
  obtain ⟨hP1, hD1⟩ := hB
  rw [ht] at hP1
  obtain ⟨g1, g2⟩ := join_n hP hD hk1 hF hP1 hD1
  exact kk u hw H1 locs1 g1 g2 hS1
/-- a constructor of a linked class -/
theorem kcJ_n (hx : p.tables.exec = Jvm.exec) (hb : c.code = cc) (hml : c.maxLocals = nL) (hown : s.vm.findClass own = some m.cls) (hts : ∀ w ∈ Ts, w.before args s = true) (hX : CX G s) (hO : va_AO "DoorsThatRemember$House" s) (bsR : List va_W) (hP : va_P G.1 vwCl (bsR ++ bc).flatten H) (hD : va_D A (bsR ++ bc).flatten) (hS : va_S A H0 H locs) (hA : ∀ q, H0.size ≤ q → A q) (hM : MetN l y ws rm G bc (.ref b :: As) post mc ms) (hg : GoodIn Ts ws) (hmem : Cond.methodLink own index y ∈ Ts) (hini : Cond.initialized y.cls ∈ Ts) (hins : Cond.instanceMethod y ∈ Ts) (hyn : y.name = "<init>") (n : Nat) (hw : ws = Cond.code y bytes maxL none :: ws') (hrc : rm.cells = mc) (hrs : rm.slots = ms) (hd : y.cls ≠ "java/lang/invoke/MethodHandle" ∧ y.cls ≠ "java/lang/invoke/VarHandle" ∧ (parseMethodDescriptor y.desc).map (fun d => d.parameters.length) = some n) (hR : rm.frames + 1 ≤ R.frames ∧ 8 + (maxL + 11) + rm.locals ≤ R.locals) (hls : ls.size = nL) (hst : st0 = As.reverse ++ .ref b :: rest) (hn : As.length = n) (hroom : (rest.map fun v => v.category).sum ≤ 8) (hdg : decode cc pc = .ok (.invokespecial index, 3)) (hf : cells + mc ≤ R.cells ∧ slots + ms ≤ R.slots)
    (kk : ∀ (bc1 : List va_W), post bc1 → ∀ (H1 : Heap) (locs1 : List Loc), va_P G.1 vwCl (bsR ++ bc1).flatten H1 → va_D A (bsR ++ bc1).flatten → va_S A H0 H1 locs1 → W p l e R s m args below meth c H1 locs1 (cells + mc) (slots + ms) Q (F0 m (pc + 3) ls rest)) : W p l e R s m args below meth c H locs cells slots Q (F0 m pc ls st0) := by
  have hF := free_n hD hS hA
  refine va_callv (va_runI ⟨hx, hb, hml, hown, hts⟩ (hM H.size) ⟨callB_of n hts hg hw hrc hrs (hts _ hini) (hts _ hmem) hd hR, hyn, hts _ hins⟩ ⟨kPn_blind, pre_n hX hO hP hD⟩ rfl hn hls hst (lv_room hroom) hdg hf) hS (fun q _ h => hF q h) hF (fun u t H1 locs1 ht hvm hw hB hz1 hk1 hS1 => ?_)
  obtain ⟨hP1, hD1⟩ := hB
  rw [ht] at hP1
  obtain ⟨g1, g2⟩ := join_n hP hD hk1 hF hP1 hD1
  exact kk u hw H1 locs1 g1 g2 hS1
end KI
def vZ : OV := (fun _ _ => 0, fun _ => 0)
