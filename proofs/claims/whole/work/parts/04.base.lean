/-! THE FRAME OF ALL CONTRACTS: a contract's start (zz_B), its end (the new world is a list of cells), calls and returns in one row. vwCl: the classes' list (part 01). zz_G: what is given of constants (part 02). -/
theorem zz_fm {α β : Type} {f : α → Option β} {is : List α} {wc : List β} (h : is.map f = wc.map some) : is.filterMap f = wc := by
  induction is generalizing wc with
  | nil => cases wc with
    | nil => rfl
    | cons b wc => simp at h
  | cons a is ih => cases wc with
    | nil => simp at h
    | cons b wc =>
      simp only [List.map_cons, List.cons.injEq] at h
      rw [List.filterMap_cons, h.1, ih h.2]
/-- what all contracts are over: the classes' numbers, the array classes of byte, int, long, the constants' places -/
abbrev zz_Y : Type := va_G × (ClassId × ClassId × ClassId) × zz_g
abbrev zz_ty (Y : zz_Y) : List (ClassId × FieldType) := [(Y.2.1.1, .byte), (Y.2.1.2.1, .int), (Y.2.1.2.2, .long)]
abbrev zz_ws (y : MethodName) (cc : ByteArray) (maxL : Nat) (ret : Option FieldType) : List Cond := Cond.code y cc maxL ret :: zz_T
def zz_B (Y : zz_Y) (wc : va_W) (sz : Nat) (U : State) : Prop :=
  U.heap.size = sz ∧ va_P Y.1 vwCl wc U.heap ∧ va_K Y.1 vwCl (zz_ty Y) U ∧ va_D (fun _ => True) wc ∧ zz_G Y.2.2 (va_A wc sz) U U.heap
/-- the world behind a method: w1 -/
def zz_E (Y : zz_Y) (wc : va_W) (sz : Nat) (w1 : va_W) (t : State) : Prop := va_P Y.1 vwCl w1 t.heap ∧ va_D (va_A wc sz) w1
def zz_I (l : Launch) (Y : zz_Y) (y : MethodName) (cc : ByteArray) (maxL : Nat) (ret : Option FieldType) (rm : Room) (av : List Value) (wc : va_W) (post : Int32 → va_W → Prop) : Prop :=
  ∀ sz : Nat, Met l y (zz_ws y cc maxL ret) rm (va_Pc av (zz_B Y wc sz)) (va_Qi post (zz_E Y wc sz) (va_A wc sz)) rm.cells rm.slots (va_A wc sz)
def zz_L (l : Launch) (Y : zz_Y) (y : MethodName) (cc : ByteArray) (maxL : Nat) (ret : Option FieldType) (rm : Room) (av : List Value) (wc : va_W) (post : Int64 → va_W → Prop) : Prop :=
  ∀ sz : Nat, Met l y (zz_ws y cc maxL ret) rm (va_Pc av (zz_B Y wc sz)) (va_Ql post (zz_E Y wc sz) (va_A wc sz)) rm.cells rm.slots (va_A wc sz)
def zz_V (l : Launch) (Y : zz_Y) (y : MethodName) (cc : ByteArray) (maxL : Nat) (ret : Option FieldType) (rm : Room) (av : List Value) (wc : va_W) (post : va_W → Prop) : Prop :=
  ∀ sz : Nat, Met l y (zz_ws y cc maxL ret) rm (va_Pc av (zz_B Y wc sz)) (va_Qv post (zz_E Y wc sz) (va_A wc sz)) rm.cells rm.slots (va_A wc sz)
/-- methods that only read -/
def zz_I0 (l : Launch) (Y : zz_Y) (y : MethodName) (cc : ByteArray) (maxL : Nat) (ret : Option FieldType) (rm : Room) (av : List Value) (wc : va_W) (post : Int32 → Prop) : Prop :=
  ∀ sz : Nat, Met l y (zz_ws y cc maxL ret) rm (va_Pc av (zz_B Y wc sz)) (vp_Si post) 0 0 (fun _ => False)
def zz_L0 (l : Launch) (Y : zz_Y) (y : MethodName) (cc : ByteArray) (maxL : Nat) (ret : Option FieldType) (rm : Room) (av : List Value) (wc : va_W) (post : Int64 → Prop) : Prop :=
  ∀ sz : Nat, Met l y (zz_ws y cc maxL ret) rm (va_Pc av (zz_B Y wc sz)) (vp_Sl post) 0 0 (fun _ => False)
/-- a method that hands back a cell -/
def zz_R (l : Launch) (Y : zz_Y) (y : MethodName) (cc : ByteArray) (maxL : Nat) (ret : Option FieldType) (rm : Room) (av : List Value) (wc : va_W) (post : Nat → va_W → Prop) : Prop :=
  ∀ sz : Nat, Met l y (zz_ws y cc maxL ret) rm (va_Pc av (zz_B Y wc sz)) (va_Qr (fun _ : va_W => True) (fun w1 a t => post a w1 ∧ zz_E Y wc sz w1 t) (va_A wc sz)) rm.cells rm.slots (va_A wc sz)
section ZB
variable {p : Program} {l : Launch} {e : Env} {R : Room} {s : State} {m : MethodId} {args : Array Value} {below : List Frame} {meth : Method} {c : Code} {H : Heap} {locs : List Loc} {cells slots : Nat} {Q : State → Prop}
variable {pc : Nat} {ls : Array Slot} {rest st0 : List Value} {Y : zz_Y} {A : Nat → Prop} {w0 wc wr : va_W} {cc : ByteArray} {y : MethodName} {rm : Room} {av : List Value} {maxL : Nat} {ret : Option FieldType}
/-- what holds at the entry of a method under contract -/
def zz_At (p : Program) (s : State) (m : MethodId) (args : Array Value) (meth : Method) (c : Code) (Y : zz_Y) (y : MethodName) (cc : ByteArray) (maxL : Nat) (ret : Option FieldType) (wc : va_W) (A : Nat → Prop) : Prop :=
  p.tables.exec = Jvm.exec ∧ c.code = cc ∧ meth.sig.returnType = ret ∧ c.maxLocals = maxL ∧ meth.locks = false ∧ meth.name = y.name ∧ s.vm.findClass y.cls = some m.cls ∧ (∀ w ∈ zz_T, w.before args s = true) ∧
  va_A wc s.heap.size = A ∧ (∀ q : Nat, s.heap.size ≤ q → A q) ∧ va_K Y.1 vwCl (zz_ty Y) s ∧ zz_G Y.2.2 A s s.heap ∧ va_P Y.1 vwCl wc s.heap ∧ va_D A wc ∧ va_S A s.heap s.heap []
/-- a method's proof, from its entry -/
theorem zz_of {Qc : Array Value → State → Outcome → State → Prop} {mc ms sz : Nat} {free : Addr → Prop} (hy : plainName y.cls = true) (hlen : (lg_sl av).length ≤ maxL)
    (body : ∀ p e s m below meth c A ls, s.heap.size = sz → zz_At p s m av.toArray meth c Y y cc maxL ret wc A → lv_has ls maxL (lv_args 0 av) →
      W p l e (headSpec (zz_ws y cc maxL ret) rm).room s m av.toArray below meth c s.heap [] 0 0 (MQ below Qc av.toArray s mc ms free) (F0 m 0 ls [])) :
    Met l y (zz_ws y cc maxL ret) rm (va_Pc av (zz_B Y wc sz)) Qc mc ms free := by
  refine Met.ofW (cc := cc) (maxL := maxL) (ret := ret) hy rfl ?_
  intro p e s m args below meth c s₁ B hml hv
  obtain ⟨rfl, hsz, hP, hK, hD0, hG⟩ := hv
  have hts := atoms_spec (ws := zz_ws y cc maxL ret) B.pre
  have hown : s.vm.findClass y.cls = some m.cls := findClass_of_methodNamed B.named
  have hin : meth.name = y.name := (name_of_methodNamed B.named B.method).1
  subst hsz
  have hl := lv_entry av (n := maxL) hlen
  rw [lg_entry_eq]
  exact body p e s m below meth c (va_A wc s.heap.size) _ rfl ⟨B.exec, B.bytes, B.returns, hml, B.notSynchronized, hin, hown, fun w h => hts w (List.mem_cons_of_mem _ h), rfl, fun q h => Or.inr h, hK, hG, hP, hD0.self, va_S.rf⟩ hl
theorem zz_blind {wc : va_W} {sz : Nat} : FrameBlind (va_Pc av (zz_B Y wc sz)) := by
  intro a U g mk q
  obtain ⟨q0, q1, qP, qK, qD, qG⟩ := q
  exact ⟨q0, q1, qP, va_K.moved (u := U) (U := U.calling g mk a) (Vm.Alike.refl U.vm) qK, qD, zz_G.same (u := U) (U := U.calling g mk a) rfl qG⟩
/-- the callee's start, out of the caller's world -/
theorem zz_pre (hK : va_K Y.1 vwCl (zz_ty Y) s) (hG : zz_G Y.2.2 A s s.heap) (hA : ∀ q : Nat, s.heap.size ≤ q → A q) (hP : va_P Y.1 vwCl w0 H) (hD : va_D A w0) (hS : va_S A s.heap H locs) (isC : List Nat) (hC : isC.map (fun i => w0[i]?) = wc.map some) (hn : va_nd isC = true) :
    ∀ U : State, U.heap = H → s.WarmedH U.vm → va_Pc av (zz_B Y wc H.size) av.toArray U := by
  intro U hU hW
  have hF := va_free (wc := wc) hD hS hA isC hC
  refine ⟨rfl, by rw [hU], by rw [hU]; exact hP.sub isC (zz_fm hC), va_K.moved hW.alike hK, (hD.sub isC hn hC).weaken (fun _ _ _ _ => trivial), ?_⟩
  rw [hU]
  exact ((hG.kept hS.2.1).warm hW).narrow hF
theorem zz_preV {C : String} {b ci : Nat} {As fs : List Value} {T : u_T} {N : Nat} (hK : va_K Y.1 vwCl (zz_ty Y) s) (hG : zz_G Y.2.2 A s s.heap) (hA : ∀ q : Nat, s.heap.size ≤ q → A q) (hP : va_P Y.1 vwCl w0 H) (hD : va_D A w0) (hS : va_S A s.heap H locs) (isC : List Nat) (hC : isC.map (fun i => w0[i]?) = wc.map some) (hn : va_nd isC = true) (hc : vwCl[ci]? = some (C, T, N)) (he : wc[0]? = some (b, .inr (ci, fs))) :
    PreV s H C b (va_Pc (.ref b :: As) (zz_B Y wc H.size)) As :=
  ⟨zz_blind, va_recv hK (hP.sub isC (zz_fm hC)) hc he, zz_pre hK hG hA hP hD hS isC hC hn⟩
theorem zz_preS {As : List Value} (hK : va_K Y.1 vwCl (zz_ty Y) s) (hG : zz_G Y.2.2 A s s.heap) (hA : ∀ q : Nat, s.heap.size ≤ q → A q) (hP : va_P Y.1 vwCl w0 H) (hD : va_D A w0) (hS : va_S A s.heap H locs) (isC : List Nat) (hC : isC.map (fun i => w0[i]?) = wc.map some) (hn : va_nd isC = true) :
    PreS s H (va_Pc As (zz_B Y wc H.size)) As := ⟨zz_blind, zz_pre hK hG hA hP hD hS isC hC hn⟩
/-- behind a call that answers an int -/
theorem zz_goI {mc ms : Nat} {post : Int32 → va_W → Prop} {a : Array Value} (hr : va_Run p l e R s m args below meth c H locs cells slots mc ms (F0 m pc ls st0) rest (va_Qi post (zz_E Y wc H.size) (va_A wc H.size) a) (va_A wc H.size))
    (hA : ∀ q : Nat, s.heap.size ≤ q → A q) (hP : va_P Y.1 vwCl w0 H) (hD : va_D A w0) (hS : va_S A s.heap H locs) (isC isR : List Nat) (hC : isC.map (fun i => w0[i]?) = wc.map some) (hR : isR.map (fun i => w0[i]?) = wr.map some) (hn : va_nd isR = true) (hdis : ∀ i ∈ isR, i ∉ isC)
    (kk : ∀ (r : Int32) (w1 : va_W) (H1 : Heap) (locs1 : List Loc), post r w1 → va_P Y.1 vwCl (wr ++ w1) H1 → va_D A (wr ++ w1) → va_S A s.heap H1 locs1 → W p l e R s m args below meth c H1 locs1 (cells + mc) (slots + ms) Q (F0 m (pc + 3) ls (.int r :: rest))) :
    W p l e R s m args below meth c H locs cells slots Q (F0 m pc ls st0) := by
  have hF := va_free (wc := wc) hD hS hA isC hC
  refine va_calli hr hS (fun q _ h => hF q h) hF (fun r u t H1 locs1 ht hvm hw hB hz1 hk1 hS1 => ?_)
  obtain ⟨hP1, hD1⟩ := hB
  rw [ht] at hP1
  obtain ⟨hP2, hD2⟩ := va_join hP hD isC isR hC hR hn hdis hk1 hF hP1 hD1
  exact kk r u H1 locs1 hw hP2 hD2 hS1
theorem zz_goL {mc ms : Nat} {post : Int64 → va_W → Prop} {a : Array Value} (hr : va_Run p l e R s m args below meth c H locs cells slots mc ms (F0 m pc ls st0) rest (va_Ql post (zz_E Y wc H.size) (va_A wc H.size) a) (va_A wc H.size))
    (hA : ∀ q : Nat, s.heap.size ≤ q → A q) (hP : va_P Y.1 vwCl w0 H) (hD : va_D A w0) (hS : va_S A s.heap H locs) (isC isR : List Nat) (hC : isC.map (fun i => w0[i]?) = wc.map some) (hR : isR.map (fun i => w0[i]?) = wr.map some) (hn : va_nd isR = true) (hdis : ∀ i ∈ isR, i ∉ isC)
    (kk : ∀ (r : Int64) (w1 : va_W) (H1 : Heap) (locs1 : List Loc), post r w1 → va_P Y.1 vwCl (wr ++ w1) H1 → va_D A (wr ++ w1) → va_S A s.heap H1 locs1 → W p l e R s m args below meth c H1 locs1 (cells + mc) (slots + ms) Q (F0 m (pc + 3) ls (.long r :: rest))) :
    W p l e R s m args below meth c H locs cells slots Q (F0 m pc ls st0) := by
  have hF := va_free (wc := wc) hD hS hA isC hC
  refine va_calll hr hS (fun q _ h => hF q h) hF (fun r u t H1 locs1 ht hvm hw hB hz1 hk1 hS1 => ?_)
  obtain ⟨hP1, hD1⟩ := hB
  rw [ht] at hP1
  obtain ⟨hP2, hD2⟩ := va_join hP hD isC isR hC hR hn hdis hk1 hF hP1 hD1
  exact kk r u H1 locs1 hw hP2 hD2 hS1
theorem zz_goV {mc ms : Nat} {post : va_W → Prop} {a : Array Value} (hr : va_Run p l e R s m args below meth c H locs cells slots mc ms (F0 m pc ls st0) rest (va_Qv post (zz_E Y wc H.size) (va_A wc H.size) a) (va_A wc H.size))
    (hA : ∀ q : Nat, s.heap.size ≤ q → A q) (hP : va_P Y.1 vwCl w0 H) (hD : va_D A w0) (hS : va_S A s.heap H locs) (isC isR : List Nat) (hC : isC.map (fun i => w0[i]?) = wc.map some) (hR : isR.map (fun i => w0[i]?) = wr.map some) (hn : va_nd isR = true) (hdis : ∀ i ∈ isR, i ∉ isC)
    (kk : ∀ (w1 : va_W) (H1 : Heap) (locs1 : List Loc), post w1 → va_P Y.1 vwCl (wr ++ w1) H1 → va_D A (wr ++ w1) → va_S A s.heap H1 locs1 → W p l e R s m args below meth c H1 locs1 (cells + mc) (slots + ms) Q (F0 m (pc + 3) ls rest)) :
    W p l e R s m args below meth c H locs cells slots Q (F0 m pc ls st0) := by
  have hF := va_free (wc := wc) hD hS hA isC hC
  refine va_callv hr hS (fun q _ h => hF q h) hF (fun u t H1 locs1 ht hvm hw hB hz1 hk1 hS1 => ?_)
  obtain ⟨hP1, hD1⟩ := hB
  rw [ht] at hP1
  obtain ⟨hP2, hD2⟩ := va_join hP hD isC isR hC hR hn hdis hk1 hF hP1 hD1
  exact kk u H1 locs1 hw hP2 hD2 hS1
theorem zz_goR {mc ms : Nat} {post : Nat → va_W → Prop} {a : Array Value} (hr : va_Run p l e R s m args below meth c H locs cells slots mc ms (F0 m pc ls st0) rest (va_Qr (fun _ : va_W => True) (fun w1 a t => post a w1 ∧ zz_E Y wc H.size w1 t) (va_A wc H.size) a) (va_A wc H.size))
    (hA : ∀ q : Nat, s.heap.size ≤ q → A q) (hP : va_P Y.1 vwCl w0 H) (hD : va_D A w0) (hS : va_S A s.heap H locs) (isC isR : List Nat) (hC : isC.map (fun i => w0[i]?) = wc.map some) (hR : isR.map (fun i => w0[i]?) = wr.map some) (hn : va_nd isR = true) (hdis : ∀ i ∈ isR, i ∉ isC)
    (kk : ∀ (r : Nat) (w1 : va_W) (H1 : Heap) (locs1 : List Loc), post r w1 → va_P Y.1 vwCl (wr ++ w1) H1 → va_D A (wr ++ w1) → va_S A s.heap H1 locs1 → W p l e R s m args below meth c H1 locs1 (cells + mc) (slots + ms) Q (F0 m (pc + 3) ls (.ref r :: rest))) :
    W p l e R s m args below meth c H locs cells slots Q (F0 m pc ls st0) := by
  have hF := va_free (wc := wc) hD hS hA isC hC
  refine va_callr hr hS (fun q _ h => hF q h) hF (fun u ra t H1 locs1 ht hvm _ hB hz1 hk1 hS1 => ?_)
  obtain ⟨hw, hP1, hD1⟩ := hB
  rw [ht] at hP1
  obtain ⟨hP2, hD2⟩ := va_join hP hD isC isR hC hR hn hdis hk1 hF hP1 hD1
  exact kk ra u H1 locs1 hw hP2 hD2 hS1
/-- the ends -/
theorem zz_iret {mc ms : Nat} {post : Int32 → va_W → Prop} {v : Int32} {w1 : va_W} {ty : FieldType} (hx : p.tables.exec = Jvm.exec) (hb : c.code = cc) (hr : meth.sig.returnType = some ty) (hn : narrow ty (.int v) = .int v) (hlocks : meth.locks = false) (hAe : va_A wc s.heap.size = A)
    (hP : va_P Y.1 vwCl w0 H) (hD : va_D A w0) (hS : va_S A s.heap H locs) (is : List Nat) (his : is.map (fun i => w0[i]?) = w1.map some) (hnd : va_nd is = true) (hp : post v w1) (hc : cells ≤ mc) (hs : slots ≤ ms) (hdg : decode cc pc = .ok (.ireturn, 1)) :
    W p l e R s m args below meth c H locs cells slots (MQ below (va_Qi post (zz_E Y wc s.heap.size) (va_A wc s.heap.size)) args s mc ms (va_A wc s.heap.size)) (F0 m pc ls [.int v]) := by
  subst hAe
  refine W.widen (k := mc) (n := ms) hc hs ?_
  exact W.zret hx hb hr hn (fun t ht hW => ⟨⟨v, w1, rfl, hp, by rw [ht]; exact hP.sub is (zz_fm his), hD.sub is hnd his⟩, hS.F ht⟩) hS.2.2 hdg hlocks
theorem zz_lret {mc ms : Nat} {post : Int64 → va_W → Prop} {v : Int64} {w1 : va_W} (hx : p.tables.exec = Jvm.exec) (hb : c.code = cc) (hr : meth.sig.returnType = some .long) (hlocks : meth.locks = false) (hAe : va_A wc s.heap.size = A)
    (hP : va_P Y.1 vwCl w0 H) (hD : va_D A w0) (hS : va_S A s.heap H locs) (is : List Nat) (his : is.map (fun i => w0[i]?) = w1.map some) (hnd : va_nd is = true) (hp : post v w1) (hc : cells ≤ mc) (hs : slots ≤ ms) (hdg : decode cc pc = .ok (.lreturn, 1)) :
    W p l e R s m args below meth c H locs cells slots (MQ below (va_Ql post (zz_E Y wc s.heap.size) (va_A wc s.heap.size)) args s mc ms (va_A wc s.heap.size)) (F0 m pc ls [.long v]) := by
  subst hAe
  refine W.widen (k := mc) (n := ms) hc hs ?_
  exact W.lret hx hb hr (fun t ht hW => ⟨⟨v, w1, rfl, hp, by rw [ht]; exact hP.sub is (zz_fm his), hD.sub is hnd his⟩, hS.F ht⟩) hS.2.2 hdg hlocks
theorem zz_vret {mc ms : Nat} {post : va_W → Prop} {w1 : va_W} (hx : p.tables.exec = Jvm.exec) (hb : c.code = cc) (hr : meth.sig.returnType = none) (hlocks : meth.locks = false) (hAe : va_A wc s.heap.size = A)
    (hP : va_P Y.1 vwCl w0 H) (hD : va_D A w0) (hS : va_S A s.heap H locs) (is : List Nat) (his : is.map (fun i => w0[i]?) = w1.map some) (hnd : va_nd is = true) (hp : post w1) (hc : cells ≤ mc) (hs : slots ≤ ms) (hdg : decode cc pc = .ok (.return_, 1)) :
    W p l e R s m args below meth c H locs cells slots (MQ below (va_Qv post (zz_E Y wc s.heap.size) (va_A wc s.heap.size)) args s mc ms (va_A wc s.heap.size)) (F0 m pc ls []) := by
  subst hAe
  refine W.widen (k := mc) (n := ms) hc hs ?_
  exact W.vret hx hb hr (fun t ht hW => ⟨⟨w1, rfl, hp, by rw [ht]; exact hP.sub is (zz_fm his), hD.sub is hnd his⟩, hS.F ht⟩) hS.2.2 hdg hlocks
theorem zz_iret0 {post : Int32 → Prop} {v : Int32} {ty : FieldType} (hx : p.tables.exec = Jvm.exec) (hb : c.code = cc) (hr : meth.sig.returnType = some ty) (hn : narrow ty (.int v) = .int v) (hlocks : meth.locks = false) (hp : post v) (hdg : decode cc pc = .ok (.ireturn, 1)) :
    W p l e R s m args below meth c s.heap [] 0 0 (MQ below (vp_Si post) args s 0 0 (fun _ => False)) (F0 m pc ls [.int v]) :=
  W.zret hx hb hr hn (fun t ht hW => ⟨v, rfl, hp, ht⟩) (fun q h => by cases h) hdg hlocks
theorem zz_lret0 {post : Int64 → Prop} {v : Int64} (hx : p.tables.exec = Jvm.exec) (hb : c.code = cc) (hr : meth.sig.returnType = some .long) (hlocks : meth.locks = false) (hp : post v) (hdg : decode cc pc = .ok (.lreturn, 1)) :
    W p l e R s m args below meth c s.heap [] 0 0 (MQ below (vp_Sl post) args s 0 0 (fun _ => False)) (F0 m pc ls [.long v]) :=
  W.lret hx hb hr (fun t ht hW => ⟨v, rfl, hp, ht⟩) (fun q h => by cases h) hdg hlocks
end ZB
/-- the words of a call -/
theorem zz_gV {own C : String} {idx maxL : Nat} {y : MethodName} {cc : ByteArray} {ret : Option FieldType} (h1 : Cond.methodLink own idx y ∈ zz_T) (h2 : Cond.instanceMethod y ∈ zz_T) (h3 : Cond.selects C y y ∈ zz_T) (h4 : Cond.initialized C ∈ zz_T) (h5 : Cond.code y cc maxL ret ∈ zz_T) : GoodIn zz_T (wsV own idx C y (zz_ws y cc maxL ret)) := by
  intro w h
  refine zz_Tgood w ?_
  simp only [wsV, List.cons_append, List.nil_append, List.mem_cons] at h
  rcases h with rfl | rfl | rfl | rfl | rfl | h
  · exact h1
  · exact h2
  · exact h3
  · exact h4
  · exact h5
  · exact h
theorem zz_gS {own : String} {idx maxL : Nat} {y : MethodName} {cc : ByteArray} {ret : Option FieldType} (h1 : Cond.methodLink own idx y ∈ zz_T) (h2 : Cond.static y ∈ zz_T) (h4 : Cond.initialized y.cls ∈ zz_T) (h5 : Cond.code y cc maxL ret ∈ zz_T) : GoodIn zz_T (va_wsS own idx y (zz_ws y cc maxL ret)) := by
  intro w h
  refine zz_Tgood w ?_
  simp only [va_wsS, List.cons_append, List.nil_append, List.mem_cons] at h
  rcases h with rfl | rfl | rfl | rfl | h
  · exact h1
  · exact h2
  · exact h4
  · exact h5
  · exact h
theorem zz_gI {maxL : Nat} {y : MethodName} {cc : ByteArray} {ret : Option FieldType} (h5 : Cond.code y cc maxL ret ∈ zz_T) : GoodIn zz_T (zz_ws y cc maxL ret) := by
  intro w h
  rcases List.mem_cons.mp h with rfl | h
  · exact zz_Tgood _ h5
  · exact zz_Tgood w h
section ZS
variable {p : Program} {l : Launch} {e : Env} {R : Room} {s : State} {m : MethodId} {args : Array Value} {below : List Frame} {meth : Method} {c : Code} {H : Heap} {locs : List Loc} {cells slots : Nat} {Q : State → Prop}
variable {pc : Nat} {ls : Array Slot} {rest : List Value} {cc : ByteArray}
/-- a table's default, out of range or at a gap -/
theorem zz_tabD (hexec : p.tables.exec = Jvm.exec) (hb : c.code = cc) {dflt lo hi : Int} {offs : Array Int} {len : Nat} {x : Int32} {tgt : Nat} (hdg : decode cc pc = .ok (.tableswitch dflt lo hi offs, len)) (h : x.toInt < lo ∨ hi < x.toInt ∨ offs[(x.toInt - lo).toNat]? = some dflt) (ht : (pc : Int) + dflt = (tgt : Int))
    (k : W p l e R s m args below meth c H locs cells slots Q (F0 m tgt ls rest)) : W p l e R s m args below meth c H locs cells slots Q (F0 m pc ls (.int x :: rest)) := by
  by_cases h1 : x.toInt < lo
  · exact lv_tableOut hexec hb hdg (Or.inl h1) ht k
  · by_cases h2 : hi < x.toInt
    · exact lv_tableOut hexec hb hdg (Or.inr h2) ht k
    · rcases h with h | h | h
      · exact absurd h h1
      · exact absurd h h2
      · exact lv_tableIn hexec hb hdg h1 h2 h ht k
end ZS
