/-! DRAFT (never compiled yet): the base of all contracts. Words: every method's are its code and wA. A writing contract speaks of a block of cells w (a va_W); behind the method the block is w'. A caller's world is (pre ++ w) ++ po; behind the call it is (pre ++ w') ++ po: no cell changes its place. A reading contract leaves the heap as it was. -/
def mN (U : State) : Prop := ∀ w ∈ nA, va_Nw w U
theorem mN.warm {s U : State} (hW : s.WarmedH U.vm) (h : mN s) : mN U := fun w hw => nA_warm hw hW (h w hw)
theorem mN.call {U : State} {g : JFrame} {mk : MethodId} {a : Array Value} (h : mN U) : mN (U.calling g mk a) := fun w hw => va_Nw.same (u := U) (U := U.calling g mk a) (nA_tab hw) rfl (h w hw)
theorem mN.use {U : State} {A : Array Value} {w : Cond} (h : mN U) (hw : w ∈ nA) : w.before A U = true := va_Nw.use (nA_tab hw) (h w hw)
abbrev mPR (D : va_G) (tys : List (ClassId × FieldType)) (w : va_W) (U : State) : Prop := va_P D nCl w U.heap ∧ va_K D nCl tys U ∧ mN U
abbrev mPW (D : va_G) (tys : List (ClassId × FieldType)) (w : va_W) (sz : Nat) (U : State) : Prop := U.heap.size = sz ∧ va_P D nCl w U.heap ∧ va_K D nCl tys U ∧ va_D (fun _ => True) w ∧ mN U
abbrev mQW (D : va_G) (tys : List (ClassId × FieldType)) (w : va_W) (sz : Nat) (w' : va_W) (t : State) : Prop := va_P D nCl w' t.heap ∧ va_K D nCl tys t ∧ va_D (va_A w sz) w'
/-- writing contracts (no cell is made): int and boolean, long, void -/
abbrev mWi (l : Launch) (y : MethodName) (cc : ByteArray) (maxL : Nat) (ret : Option FieldType) (rm : Room) (D : va_G) (tys : List (ClassId × FieldType)) (av : List Value) (w : va_W) (post : Int32 → va_W → Prop) : Prop := ∀ sz : Nat, Met l y (Cond.code y cc maxL ret :: wA) rm (va_Pc av (mPW D tys w sz)) (va_Qi post (mQW D tys w sz) (va_A w sz)) 0 0 (va_A w sz)
abbrev mWv (l : Launch) (y : MethodName) (cc : ByteArray) (maxL : Nat) (rm : Room) (D : va_G) (tys : List (ClassId × FieldType)) (av : List Value) (w : va_W) (post : va_W → Prop) : Prop := ∀ sz : Nat, Met l y (Cond.code y cc maxL none :: wA) rm (va_Pc av (mPW D tys w sz)) (va_Qv post (mQW D tys w sz) (va_A w sz)) 0 0 (va_A w sz)
/-- reading contracts -/
abbrev mRi (l : Launch) (y : MethodName) (cc : ByteArray) (maxL : Nat) (ret : Option FieldType) (rm : Room) (D : va_G) (tys : List (ClassId × FieldType)) (av : List Value) (w : va_W) (post : Int32 → Prop) : Prop := Met l y (Cond.code y cc maxL ret :: wA) rm (va_Pc av (mPR D tys w)) (vp_Si post) 0 0 (fun _ => False)
abbrev mRl (l : Launch) (y : MethodName) (cc : ByteArray) (maxL : Nat) (rm : Room) (D : va_G) (tys : List (ClassId × FieldType)) (av : List Value) (w : va_W) (post : Int64 → Prop) : Prop := Met l y (Cond.code y cc maxL (some .long) :: wA) rm (va_Pc av (mPR D tys w)) (vp_Sl post) 0 0 (fun _ => False)
/-- pure ones: no world at all -/
abbrev mSi (l : Launch) (y : MethodName) (cc : ByteArray) (maxL : Nat) (ret : Option FieldType) (rm : Room) (av : List Value) (post : Int32 → Prop) : Prop := Met l y (Cond.code y cc maxL ret :: wA) rm (va_Pc av (fun _ => True)) (vp_Si post) 0 0 (fun _ => False)
abbrev mSl (l : Launch) (y : MethodName) (cc : ByteArray) (maxL : Nat) (rm : Room) (av : List Value) (post : Int64 → Prop) : Prop := Met l y (Cond.code y cc maxL (some .long) :: wA) rm (va_Pc av (fun _ => True)) (vp_Sl post) 0 0 (fun _ => False)
section MB1
variable {D : va_G} {cl : List vw_C} {pre wc po w' : va_W} {H H1 H0 : Heap} {A : Nat → Prop} {locs : List Loc}
theorem mB_at {k : Nat} {q : Nat × va_E} (h : wc[k]? = some q) : ((pre ++ wc) ++ po)[pre.length + k]? = some q := by
  have hk : k < wc.length := (List.getElem?_eq_some_iff.mp h).1
  rw [List.getElem?_append_left (by rw [List.length_append]; omega), List.getElem?_append_right (by omega), Nat.add_sub_cancel_left]
  exact h
theorem mB_P (h : va_P D cl ((pre ++ wc) ++ po) H) : va_P D cl wc H := fun k q hk => h (pre.length + k) q (mB_at hk)
theorem mB_D (h : va_D A ((pre ++ wc) ++ po)) : va_D A wc := h.by (fun k => pre.length + k) (fun _ _ hk => mB_at hk) (fun i j _ _ e => by omega)
theorem mB_free (hD : va_D A ((pre ++ wc) ++ po)) (hS : va_S A H0 H locs) (hA : ∀ q, H0.size ≤ q → A q) : ∀ q, va_A wc H.size q → A q := by
  intro q h
  rcases h with ⟨k, e, h⟩ | h
  · exact hD.2 _ (q, e) (mB_at h)
  · exact hA q (Nat.le_trans hS.1 h)
theorem mB_frame (hP : va_P D cl ((pre ++ wc) ++ po) H) (hD : va_D A ((pre ++ wc) ++ po)) (hk : ∀ q : Nat, q < H.size → ¬ va_A wc H.size q → H1[q]? = H[q]?) (hF : ∀ q, va_A wc H.size q → A q) (hP1 : va_P D cl w' H1) (hD1 : va_D (va_A wc H.size) w') : va_P D cl ((pre ++ w') ++ po) H1 ∧ va_D A ((pre ++ w') ++ po) := by
  have hP' := hP.swap
  have hD' := hD.swap
  have old : ∀ (k : Nat) (q : Nat × va_E), (pre ++ po)[k]? = some q → ((pre ++ po) ++ wc)[k]? = some q := by
    intro k q hq
    rw [List.getElem?_append_left (List.getElem?_eq_some_iff.mp hq).1]
    exact hq
  have apart : ∀ (k : Nat) (q : Nat × va_E), (pre ++ po)[k]? = some q → q.1 < H.size ∧ ¬ va_A wc H.size q.1 := by
    intro k q hq
    have hk1 : k < (pre ++ po).length := (List.getElem?_eq_some_iff.mp hq).1
    have h2 := old k q hq
    have hlt : q.1 < H.size := (hP' k q h2).lt
    refine ⟨hlt, fun h => ?_⟩
    rcases h with ⟨j, e, h⟩ | h
    · have h3 : ((pre ++ po) ++ wc)[(pre ++ po).length + j]? = some (q.1, e) := by
        rw [List.getElem?_append_right (by omega), Nat.add_sub_cancel_left]
        exact h
      have := hD'.1 k _ q (q.1, e) h2 h3 rfl
      omega
    · omega
  have hDr : va_D A (pre ++ po) := hD'.by id (fun k q hq => old k q hq) (fun i j _ _ e => e)
  have key : va_P D cl ((pre ++ po) ++ w') H1 ∧ va_D A ((pre ++ po) ++ w') := by
    refine ⟨va_P.app (fun k q hq => ?_) hP1, va_D.app hDr (hD1.weaken (fun k q _ h => hF q.1 h)) (fun i j x y hx hy hxy => ?_)⟩
    · obtain ⟨g1, g2⟩ := apart k q hq
      exact (hP' k q (old k q hq)).kept (hk q.1 g1 g2)
    · exact (apart i x hx).2 (by rw [hxy]; exact hD1.2 j y hy)
  exact ⟨key.1.swap, key.2.swap⟩
end MB1
/-! a row of n cells of one kind, by number -/
def rp (n : Nat) (ca : Nat → Nat) (cf : Nat → va_E) : va_W := (List.range n).map fun i => (ca i, cf i)
theorem rp_get {b : va_W} {n i : Nat} {ca : Nat → Nat} {cf : Nat → va_E} (h : i < n) : (b ++ rp n ca cf)[b.length + i]? = some (ca i, cf i) := by
  rw [List.getElem?_append_right (by omega), Nat.add_sub_cancel_left]
  simp [rp, h]
theorem rp_set {b : va_W} {n i : Nat} {ca : Nat → Nat} {cf : Nat → va_E} {e : va_E} (h : i < n) : (b ++ rp n ca cf).set (b.length + i) (ca i, e) = b ++ rp n ca (va_up cf i e) := by
  apply List.ext_getElem?
  intro j
  by_cases hj : j < b.length
  · rw [List.getElem?_set_ne (by omega), List.getElem?_append_left hj, List.getElem?_append_left hj]
  · by_cases hji : j = b.length + i
    · subst hji
      rw [List.getElem?_set_self (by simp [rp]; omega), rp_get h, va_up_self]
    · rw [List.getElem?_set_ne (by omega), List.getElem?_append_right (by omega), List.getElem?_append_right (by omega)]
      simp only [rp, List.getElem?_map]
      by_cases hn : j - b.length < n
      · rw [List.getElem?_range hn]
        show some (_, _) = some (_, _)
        rw [va_up_ne _ _ (by omega)]
      · rw [List.getElem?_eq_none (by simp; omega)]
        rfl
section MB2
variable {p : Program} {l : Launch} {e : Env} {R : Room} {s : State} {m : MethodId} {args : Array Value} {below : List Frame} {meth : Method} {c : Code} {H : Heap} {locs : List Loc} {cells slots : Nat} {Q : State → Prop}
variable {cc : ByteArray} {pc : Nat} {ls : Array Slot} {rest st0 : List Value} {D : va_G} {tys : List (ClassId × FieldType)} {A : Nat → Prop} {H0 : Heap} {pre wc po : va_W}
/-- a method's start: writing, reading, pure -/
theorem mt_W {y : MethodName} {rm : Room} {maxL : Nat} {ret : Option FieldType} {av : List Value} {w : va_W} {sz mc ms : Nat} {Qc : Array Value → State → Outcome → State → Prop} {free : Addr → Prop} (hy : plainName y.cls = true) (hlen : (lg_sl av).length ≤ maxL)
    (body : ∀ (p : Program) (e : Env) (s : State) (m : MethodId) (below : List Frame) (meth : Method) (c : Code) (ls : Array Slot), p.tables.exec = Jvm.exec → c.code = cc → c.maxLocals = maxL → meth.sig.returnType = ret → s.vm.findClass y.cls = some m.cls → meth.locks = false → meth.name = y.name → (∀ w ∈ wA, w.before av.toArray s = true) → mN s → va_P D nCl w s.heap → va_K D nCl tys s → va_D (va_A w s.heap.size) w → va_S (va_A w s.heap.size) s.heap s.heap [] → (∀ q, s.heap.size ≤ q → va_A w s.heap.size q) → lv_has ls maxL (lv_args 0 av) → s.heap.size = sz → W p l e rm s m av.toArray below meth c s.heap [] 0 0 (MQ below Qc av.toArray s mc ms free) (F0 m 0 ls [])) : Met l y (Cond.code y cc maxL ret :: wA) rm (va_Pc av (mPW D tys w sz)) Qc mc ms free := by
  refine Met.ofW (cc := cc) (maxL := maxL) (ret := ret) hy rfl ?_
  intro p e s m args below meth c s₁ B hml hv
  obtain ⟨rfl, hsz, hP, hK, hD0, hn⟩ := hv
  rw [lg_entry_eq]
  have hts := atoms_spec (ws := Cond.code y cc maxL ret :: wA) B.pre
  exact body p e s m below meth c _ B.exec B.bytes hml B.returns (findClass_of_methodNamed B.named) B.notSynchronized (name_of_methodNamed B.named B.method).1 (fun w h => hts w (List.mem_cons_of_mem _ h)) hn hP hK hD0.self va_S.rf (fun q h => Or.inr h) (lv_entry av hlen) hsz
theorem mt_R {y : MethodName} {rm : Room} {maxL : Nat} {ret : Option FieldType} {av : List Value} {w : va_W} {Qc : Array Value → State → Outcome → State → Prop} {free : Addr → Prop} (hy : plainName y.cls = true) (hlen : (lg_sl av).length ≤ maxL)
    (body : ∀ (p : Program) (e : Env) (s : State) (m : MethodId) (below : List Frame) (meth : Method) (c : Code) (ls : Array Slot), p.tables.exec = Jvm.exec → c.code = cc → c.maxLocals = maxL → meth.sig.returnType = ret → s.vm.findClass y.cls = some m.cls → meth.locks = false → (∀ w ∈ wA, w.before av.toArray s = true) → mN s → va_P D nCl w s.heap → va_K D nCl tys s → lv_has ls maxL (lv_args 0 av) → W p l e rm s m av.toArray below meth c s.heap [] 0 0 (MQ below Qc av.toArray s 0 0 free) (F0 m 0 ls [])) : Met l y (Cond.code y cc maxL ret :: wA) rm (va_Pc av (mPR D tys w)) Qc 0 0 free := by
  refine Met.ofW (cc := cc) (maxL := maxL) (ret := ret) hy rfl ?_
  intro p e s m args below meth c s₁ B hml hv
  obtain ⟨rfl, hP, hK, hn⟩ := hv
  rw [lg_entry_eq]
  have hts := atoms_spec (ws := Cond.code y cc maxL ret :: wA) B.pre
  exact body p e s m below meth c _ B.exec B.bytes hml B.returns (findClass_of_methodNamed B.named) B.notSynchronized (fun w h => hts w (List.mem_cons_of_mem _ h)) hn hP hK (lv_entry av hlen)
theorem mt_S {y : MethodName} {rm : Room} {maxL : Nat} {ret : Option FieldType} {av : List Value} {Qc : Array Value → State → Outcome → State → Prop} {free : Addr → Prop} (hy : plainName y.cls = true) (hlen : (lg_sl av).length ≤ maxL)
    (body : ∀ (p : Program) (e : Env) (s : State) (m : MethodId) (below : List Frame) (meth : Method) (c : Code) (ls : Array Slot), p.tables.exec = Jvm.exec → c.code = cc → c.maxLocals = maxL → meth.sig.returnType = ret → s.vm.findClass y.cls = some m.cls → meth.locks = false → (∀ w ∈ wA, w.before av.toArray s = true) → lv_has ls maxL (lv_args 0 av) → W p l e rm s m av.toArray below meth c s.heap [] 0 0 (MQ below Qc av.toArray s 0 0 free) (F0 m 0 ls [])) : Met l y (Cond.code y cc maxL ret :: wA) rm (va_Pc av (fun _ => True)) Qc 0 0 free := by
  refine Met.ofW (cc := cc) (maxL := maxL) (ret := ret) hy rfl ?_
  intro p e s m args below meth c s₁ B hml hv
  obtain ⟨rfl, -⟩ := hv
  rw [lg_entry_eq]
  have hts := atoms_spec (ws := Cond.code y cc maxL ret :: wA) B.pre
  exact body p e s m below meth c _ B.exec B.bytes hml B.returns (findClass_of_methodNamed B.named) B.notSynchronized (fun w h => hts w (List.mem_cons_of_mem _ h)) (lv_entry av hlen)
/-- a method's end, writing -/
theorem mw_i {post : Int32 → va_W → Prop} {w w' : va_W} {v : Int32} (hexec : p.tables.exec = Jvm.exec) (hb : c.code = cc) (hr : meth.sig.returnType = some .int) (hlocks : meth.locks = false) (hp : post v w') (hP : va_P D nCl w' H) (hK : va_K D nCl tys s) (hD : va_D (va_A w s.heap.size) w') (hS : va_S (va_A w s.heap.size) s.heap H locs) (hdg : decode cc pc = .ok (.ireturn, 1)) : W p l e R s m args below meth c H locs cells slots (MQ below (va_Qi post (mQW D tys w s.heap.size) (va_A w s.heap.size)) args s cells slots (va_A w s.heap.size)) (F0 m pc ls [.int v]) :=
  W.iret hexec hb hr (fun t ht hW => ⟨⟨v, w', rfl, hp, by rw [ht]; exact hP, va_K.moved hW.alike hK, hD⟩, hS.F ht⟩) hS.2.2 hdg hlocks
theorem mw_z {post : Int32 → va_W → Prop} {w w' : va_W} {v : Int32} (hexec : p.tables.exec = Jvm.exec) (hb : c.code = cc) (hr : meth.sig.returnType = some .boolean) (hlocks : meth.locks = false) (hn : narrow .boolean (.int v) = .int v) (hp : post v w') (hP : va_P D nCl w' H) (hK : va_K D nCl tys s) (hD : va_D (va_A w s.heap.size) w') (hS : va_S (va_A w s.heap.size) s.heap H locs) (hdg : decode cc pc = .ok (.ireturn, 1)) : W p l e R s m args below meth c H locs cells slots (MQ below (va_Qi post (mQW D tys w s.heap.size) (va_A w s.heap.size)) args s cells slots (va_A w s.heap.size)) (F0 m pc ls [.int v]) :=
  W.zret hexec hb hr hn (fun t ht hW => ⟨⟨v, w', rfl, hp, by rw [ht]; exact hP, va_K.moved hW.alike hK, hD⟩, hS.F ht⟩) hS.2.2 hdg hlocks
theorem mw_v {post : va_W → Prop} {w w' : va_W} (hexec : p.tables.exec = Jvm.exec) (hb : c.code = cc) (hr : meth.sig.returnType = none) (hlocks : meth.locks = false) (hp : post w') (hP : va_P D nCl w' H) (hK : va_K D nCl tys s) (hD : va_D (va_A w s.heap.size) w') (hS : va_S (va_A w s.heap.size) s.heap H locs) (hdg : decode cc pc = .ok (.return_, 1)) : W p l e R s m args below meth c H locs cells slots (MQ below (va_Qv post (mQW D tys w s.heap.size) (va_A w s.heap.size)) args s cells slots (va_A w s.heap.size)) (F0 m pc ls []) :=
  W.vret hexec hb hr (fun t ht hW => ⟨⟨w', rfl, hp, by rw [ht]; exact hP, va_K.moved hW.alike hK, hD⟩, hS.F ht⟩) hS.2.2 hdg hlocks
/-- a method's end, reading or pure -/
theorem mr_i {post : Int32 → Prop} {v : Int32} (hexec : p.tables.exec = Jvm.exec) (hb : c.code = cc) (hr : meth.sig.returnType = some .int) (hlocks : meth.locks = false) (hp : post v) (hdg : decode cc pc = .ok (.ireturn, 1)) : W p l e R s m args below meth c s.heap [] 0 0 (MQ below (vp_Si post) args s 0 0 (fun _ => False)) (F0 m pc ls [.int v]) :=
  W.iret hexec hb hr (fun t ht hW => ⟨v, rfl, hp, ht⟩) (fun q h => by cases h) hdg hlocks
theorem mr_z {post : Int32 → Prop} {v : Int32} (hexec : p.tables.exec = Jvm.exec) (hb : c.code = cc) (hr : meth.sig.returnType = some .boolean) (hlocks : meth.locks = false) (hn : narrow .boolean (.int v) = .int v) (hp : post v) (hdg : decode cc pc = .ok (.ireturn, 1)) : W p l e R s m args below meth c s.heap [] 0 0 (MQ below (vp_Si post) args s 0 0 (fun _ => False)) (F0 m pc ls [.int v]) :=
  W.zret hexec hb hr hn (fun t ht hW => ⟨v, rfl, hp, ht⟩) (fun q h => by cases h) hdg hlocks
theorem mr_l {post : Int64 → Prop} {v : Int64} (hexec : p.tables.exec = Jvm.exec) (hb : c.code = cc) (hr : meth.sig.returnType = some .long) (hlocks : meth.locks = false) (hp : post v) (hdg : decode cc pc = .ok (.lreturn, 1)) : W p l e R s m args below meth c s.heap [] 0 0 (MQ below (vp_Sl post) args s 0 0 (fun _ => False)) (F0 m pc ls [.long v]) :=
  W.lret hexec hb hr (fun t ht hW => ⟨v, rfl, hp, ht⟩) (fun q h => by cases h) hdg hlocks
/-- what a call wants of the words -/
theorem mcV {y : MethodName} {bytes : ByteArray} {maxL mc ms index : Nat} {ret : Option FieldType} {rm : Room} {own C : String} (n : Nat) (hw : ∀ w ∈ wA, w.before args s = true) (h1 : Cond.code y bytes maxL ret ∈ wA) (h2 : Cond.methodLink own index y ∈ wA) (h3 : Cond.instanceMethod y ∈ wA) (h4 : Cond.selects C y y ∈ wA) (h5 : Cond.initialized y.cls ∈ wA) (hrc : rm.cells = mc) (hrs : rm.slots = ms) (hd : y.cls ≠ "java/lang/invoke/MethodHandle" ∧ y.cls ≠ "java/lang/invoke/VarHandle" ∧ (parseMethodDescriptor y.desc).map (fun d => d.parameters.length) = some n) (hR : rm.frames + 1 ≤ R.frames ∧ 8 + (maxL + 11) + rm.locals ≤ R.locals) : CallW R s args own C index y bytes maxL ret (Cond.code y bytes maxL ret :: wA) rm mc ms n :=
  ⟨callB_of n hw (wA_goodIn0 h1) rfl hrc hrs (hw _ h5) (hw _ h2) hd hR, hw _ h3, hw _ h4⟩
theorem mcS {y : MethodName} {bytes : ByteArray} {maxL mc ms index : Nat} {ret : Option FieldType} {rm : Room} {own : String} (n : Nat) (hw : ∀ w ∈ wA, w.before args s = true) (h1 : Cond.code y bytes maxL ret ∈ wA) (h2 : Cond.methodLink own index y ∈ wA) (h3 : Cond.static y ∈ wA) (h5 : Cond.initialized y.cls ∈ wA) (hrc : rm.cells = mc) (hrs : rm.slots = ms) (hd : y.cls ≠ "java/lang/invoke/MethodHandle" ∧ y.cls ≠ "java/lang/invoke/VarHandle" ∧ (parseMethodDescriptor y.desc).map (fun d => d.parameters.length) = some n) (hR : rm.frames + 1 ≤ R.frames ∧ 8 + (maxL + 11) + rm.locals ≤ R.locals) : CallB R s args own index y bytes maxL ret (Cond.code y bytes maxL ret :: wA) rm mc ms n ∧ (Cond.static y).before args s = true :=
  ⟨callB_of n hw (wA_goodIn0 h1) rfl hrc hrs (hw _ h5) (hw _ h2) hd hR, hw _ h3⟩
theorem mcI {y : MethodName} {bytes : ByteArray} {maxL mc ms index : Nat} {rm : Room} {own : String} (n : Nat) (hw : ∀ w ∈ wA, w.before args s = true) (h1 : Cond.code y bytes maxL none ∈ wA) (h2 : Cond.methodLink own index y ∈ wA) (h3 : Cond.instanceMethod y ∈ wA) (h5 : Cond.initialized y.cls ∈ wA) (hrc : rm.cells = mc) (hrs : rm.slots = ms) (hy : y.name = "<init>") (hd : y.cls ≠ "java/lang/invoke/MethodHandle" ∧ y.cls ≠ "java/lang/invoke/VarHandle" ∧ (parseMethodDescriptor y.desc).map (fun d => d.parameters.length) = some n) (hR : rm.frames + 1 ≤ R.frames ∧ 8 + (maxL + 11) + rm.locals ≤ R.locals) : CallB R s args own index y bytes maxL none (Cond.code y bytes maxL none :: wA) rm mc ms n ∧ y.name = "<init>" ∧ (Cond.instanceMethod y).before args s = true :=
  ⟨callB_of n hw (wA_goodIn0 h1) rfl hrc hrs (hw _ h5) (hw _ h2) hd hR, hy, hw _ h3⟩
theorem mcIN {y : MethodName} {bytes : ByteArray} {maxL mc ms index : Nat} {rm : Room} {own host : String} (n : Nat) (hw : ∀ w ∈ wA, w.before args s = true) (hn : mN s) (h1 : Cond.code y bytes maxL none ∈ wA) (h2 : Cond.methodLinkNest own index y host ∈ nA) (h3 : Cond.instanceMethod y ∈ wA) (h5 : Cond.initialized y.cls ∈ wA) (hrc : rm.cells = mc) (hrs : rm.slots = ms) (hy : y.name = "<init>") (hd : y.cls ≠ "java/lang/invoke/MethodHandle" ∧ y.cls ≠ "java/lang/invoke/VarHandle" ∧ (parseMethodDescriptor y.desc).map (fun d => d.parameters.length) = some n) (hR : rm.frames + 1 ≤ R.frames ∧ 8 + (maxL + 11) + rm.locals ≤ R.locals) : va_CN R s args own index y host bytes maxL none (Cond.code y bytes maxL none :: wA) rm mc ms n ∧ y.name = "<init>" ∧ (Cond.instanceMethod y).before args s = true :=
  ⟨va_cnB n hw (wA_goodIn0 h1) rfl hrc hrs (hn _ h2) (hw _ h5) hd hR, hy, hw _ h3⟩
/-- what a call wants of the world -/
theorem mPW_blind {w : va_W} {sz : Nat} {av : List Value} : FrameBlind (va_Pc av (mPW D tys w sz)) := fun a U g mk q => by
  obtain ⟨q0, q1, qP, qK, qD, qN⟩ := q
  exact ⟨q0, q1, qP, va_K.moved (u := U) (U := U.calling g mk a) (Vm.Alike.refl U.vm) qK, qD, qN.call⟩
theorem mPR_blind {w : va_W} {av : List Value} : FrameBlind (va_Pc av (mPR D tys w)) := fun a U g mk q => by
  obtain ⟨q0, qP, qK, qN⟩ := q
  exact ⟨q0, qP, va_K.moved (u := U) (U := U.calling g mk a) (Vm.Alike.refl U.vm) qK, qN.call⟩
theorem mpW_S {av : List Value} (hP : va_P D nCl ((pre ++ wc) ++ po) H) (hD : va_D A ((pre ++ wc) ++ po)) (hK : va_K D nCl tys s) (hn : mN s) : PreS s H (va_Pc av (mPW D tys wc H.size)) av :=
  ⟨mPW_blind, fun U hU hW => ⟨rfl, by rw [hU], by rw [hU]; exact mB_P hP, va_K.moved hW.alike hK, (mB_D hD).weaken (fun _ _ _ _ => trivial), hn.warm hW⟩⟩
theorem mpW_V {b q0 ci : Nat} {q : vw_C} {fs : List Value} {As : List Value} (hP : va_P D nCl ((pre ++ wc) ++ po) H) (hD : va_D A ((pre ++ wc) ++ po)) (hK : va_K D nCl tys s) (hn : mN s) (hc : nCl[ci]? = some q) (he : wc[q0]? = some (b, .inr (ci, fs))) : PreV s H q.1 b (va_Pc (.ref b :: As) (mPW D tys wc H.size)) As :=
  ⟨mPW_blind, va_recv hK (mB_P hP) hc he, fun U hU hW => ⟨rfl, by rw [hU], by rw [hU]; exact mB_P hP, va_K.moved hW.alike hK, (mB_D hD).weaken (fun _ _ _ _ => trivial), hn.warm hW⟩⟩
theorem mpR_V {b q0 ci : Nat} {q : vw_C} {fs : List Value} {As : List Value} (hP : va_P D nCl wc H) (hK : va_K D nCl tys s) (hn : mN s) (hc : nCl[ci]? = some q) (he : wc[q0]? = some (b, .inr (ci, fs))) : PreV s H q.1 b (va_Pc (.ref b :: As) (mPR D tys wc)) As :=
  ⟨mPR_blind, va_recv hK hP hc he, fun U hU hW => ⟨rfl, by rw [hU]; exact hP, va_K.moved hW.alike hK, hn.warm hW⟩⟩
theorem mp_S {av : List Value} : PreS s H (va_Pc av (fun _ => True)) av := ⟨fun _ _ _ _ q => ⟨q.1, trivial⟩, fun _ _ _ => ⟨rfl, trivial⟩⟩
/-- a writing call, any way in: the callee's block stands between pre and po -/
theorem mC_i {post : Int32 → va_W → Prop} {tyc : List (ClassId × FieldType)} {a : Array Value} (hr : va_Run p l e R s m args below meth c H locs cells slots 0 0 (F0 m pc ls st0) rest (va_Qi post (mQW D tyc wc H.size) (va_A wc H.size) a) (va_A wc H.size)) (hP : va_P D nCl ((pre ++ wc) ++ po) H) (hD : va_D A ((pre ++ wc) ++ po)) (hS : va_S A H0 H locs) (hA : ∀ q, H0.size ≤ q → A q)
    (kk : ∀ (r : Int32) (w' : va_W) (H1 : Heap) (locs1 : List Loc), post r w' → va_P D nCl ((pre ++ w') ++ po) H1 → va_D A ((pre ++ w') ++ po) → va_S A H0 H1 locs1 → W p l e R s m args below meth c H1 locs1 cells slots Q (F0 m (pc + 3) ls (.int r :: rest))) : W p l e R s m args below meth c H locs cells slots Q (F0 m pc ls st0) := by
  have hF := mB_free hD hS hA
  refine va_calli hr hS (fun q _ h => hF q h) hF (fun r w' t H1 locs1 ht hvm hp hB hz hk hS1 => ?_)
  obtain ⟨hP1, hK1, hD1⟩ := hB
  rw [ht] at hP1
  obtain ⟨hP2, hD2⟩ := mB_frame hP hD hk hF hP1 hD1
  exact kk r w' H1 locs1 hp hP2 hD2 hS1
theorem mC_v {post : va_W → Prop} {tyc : List (ClassId × FieldType)} {a : Array Value} (hr : va_Run p l e R s m args below meth c H locs cells slots 0 0 (F0 m pc ls st0) rest (va_Qv post (mQW D tyc wc H.size) (va_A wc H.size) a) (va_A wc H.size)) (hP : va_P D nCl ((pre ++ wc) ++ po) H) (hD : va_D A ((pre ++ wc) ++ po)) (hS : va_S A H0 H locs) (hA : ∀ q, H0.size ≤ q → A q)
    (kk : ∀ (w' : va_W) (H1 : Heap) (locs1 : List Loc), post w' → va_P D nCl ((pre ++ w') ++ po) H1 → va_D A ((pre ++ w') ++ po) → va_S A H0 H1 locs1 → W p l e R s m args below meth c H1 locs1 cells slots Q (F0 m (pc + 3) ls rest)) : W p l e R s m args below meth c H locs cells slots Q (F0 m pc ls st0) := by
  have hF := mB_free hD hS hA
  refine va_callv hr hS (fun q _ h => hF q h) hF (fun w' t H1 locs1 ht hvm hp hB hz hk hS1 => ?_)
  obtain ⟨hP1, hK1, hD1⟩ := hB
  rw [ht] at hP1
  obtain ⟨hP2, hD2⟩ := mB_frame hP hD hk hF hP1 hD1
  exact kk w' H1 locs1 hp hP2 hD2 hS1
end MB2
