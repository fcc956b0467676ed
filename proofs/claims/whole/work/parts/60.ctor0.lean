/-! Making objects: contracts whose worlds grow -/
abbrev mKp (D : va_G) (w : va_W) (sz : Nat) (U : State) : Prop := mPW D [] w sz U ∧ va_AO "HandOffRecorder$Call" U
abbrev mKq (D : va_G) (w : va_W) (sz : Nat) (u : va_W × List (ClassId × FieldType)) (t : State) : Prop := va_P D nCl u.1 t.heap ∧ va_K D nCl u.2 t ∧ va_D (va_A w sz) u.1
abbrev mKv (l : Launch) (y : MethodName) (cc : ByteArray) (maxL : Nat) (rm : Room) (D : va_G) (av : List Value) (w : va_W) (mc ms : Nat) (post : va_W × List (ClassId × FieldType) → Prop) : Prop := ∀ sz : Nat, Met l y (Cond.code y cc maxL none :: wA) rm (va_Pc av (mKp D w sz)) (va_Qv post (mKq D w sz) (va_A w sz)) mc ms (va_A w sz)
section MK
variable {p : Program} {l : Launch} {e : Env} {R : Room} {s : State} {m : MethodId} {args : Array Value} {below : List Frame} {meth : Method} {c : Code} {H : Heap} {locs : List Loc} {cells slots : Nat} {Q : State → Prop}
variable {cc : ByteArray} {pc : Nat} {ls : Array Slot} {rest st0 : List Value} {D : va_G} {tys : List (ClassId × FieldType)} {A : Nat → Prop} {H0 : Heap} {pre wc : va_W}
theorem mKt {y : MethodName} {rm : Room} {maxL : Nat} {av : List Value} {w : va_W} {sz mc ms : Nat} {Qc : Array Value → State → Outcome → State → Prop} {free : Addr → Prop} (hy : plainName y.cls = true) (hlen : (lg_sl av).length ≤ maxL)
    (body : ∀ (p : Program) (e : Env) (s : State) (m : MethodId) (below : List Frame) (meth : Method) (c : Code) (ls : Array Slot), p.tables.exec = Jvm.exec → c.code = cc → c.maxLocals = maxL → meth.sig.returnType = none → s.vm.findClass y.cls = some m.cls → meth.locks = false → meth.name = y.name → (∀ w ∈ wA, w.before av.toArray s = true) → mN s → va_AO "HandOffRecorder$Call" s → va_P D nCl w s.heap → va_K D nCl [] s → va_D (va_A w s.heap.size) w → va_S (va_A w s.heap.size) s.heap s.heap [] → (∀ q, s.heap.size ≤ q → va_A w s.heap.size q) → lv_has ls maxL (lv_args 0 av) → s.heap.size = sz → W p l e rm s m av.toArray below meth c s.heap [] 0 0 (MQ below Qc av.toArray s mc ms free) (F0 m 0 ls [])) : Met l y (Cond.code y cc maxL none :: wA) rm (va_Pc av (mKp D w sz)) Qc mc ms free := by
  refine Met.ofW (cc := cc) (maxL := maxL) (ret := none) hy rfl ?_
  intro p e s m args below meth c s₁ B hml hv
  obtain ⟨rfl, ⟨hsz, hP, hK, hD0, hn⟩, hao⟩ := hv
  rw [lg_entry_eq]
  have hts := atoms_spec (ws := Cond.code y cc maxL none :: wA) B.pre
  exact body p e s m below meth c _ B.exec B.bytes hml B.returns (findClass_of_methodNamed B.named) B.notSynchronized (name_of_methodNamed B.named B.method).1 (fun w h => hts w (List.mem_cons_of_mem _ h)) hn hao hP hK hD0.self va_S.rf (fun q h => Or.inr h) (lv_entry av hlen) hsz
theorem mk_v {post : va_W × List (ClassId × FieldType) → Prop} {w w' : va_W} {tys' : List (ClassId × FieldType)} (hexec : p.tables.exec = Jvm.exec) (hb : c.code = cc) (hr : meth.sig.returnType = none) (hlocks : meth.locks = false) (hp : post (w', tys')) (hP : va_P D nCl w' H) (hK : va_K D nCl tys' s) (hD : va_D (va_A w s.heap.size) w') (hS : va_S (va_A w s.heap.size) s.heap H locs) (hdg : decode cc pc = .ok (.return_, 1)) : W p l e R s m args below meth c H locs cells slots (MQ below (va_Qv post (mKq D w s.heap.size) (va_A w s.heap.size)) args s cells slots (va_A w s.heap.size)) (F0 m pc ls []) :=
  W.vret hexec hb hr (fun t ht hW => ⟨⟨(w', tys'), rfl, hp, by rw [ht]; exact hP, va_K.moved hW.alike hK, hD⟩, hS.F ht⟩) hS.2.2 hdg hlocks
theorem mK_pre {b : Nat} {As : List Value} (hP : va_P D nCl (pre ++ wc) H) (hD : va_D A (pre ++ wc)) (hK : va_K D nCl tys s) (hn : mN s) (hao : va_AO "HandOffRecorder$Call" s) : PreS s H (va_Pc (.ref b :: As) (mKp D wc H.size)) (.ref b :: As) := by
  have hP1 : va_P D nCl ((pre ++ wc) ++ []) H := by rw [List.append_nil]; exact hP
  have hD1 : va_D A ((pre ++ wc) ++ []) := by rw [List.append_nil]; exact hD
  have hK0 : va_K D nCl [] s := hK.sub [] rfl
  refine ⟨fun a U g mk q => ?_, fun U hU hW => ⟨rfl, ⟨by rw [hU], by rw [hU]; exact mB_P hP1, va_K.moved hW.alike hK0, (mB_D hD1).weaken (fun _ _ _ _ => trivial), hn.warm hW⟩, hao.moved hW.alike⟩⟩
  obtain ⟨q0, ⟨q1, qP, qK, qD, qN⟩, qA⟩ := q
  exact ⟨q0, ⟨q1, qP, va_K.moved (u := U) (U := U.calling g mk a) (Vm.Alike.refl U.vm) qK, qD, qN.call⟩, va_AO.moved (u := U) (U := U.calling g mk a) (Vm.Alike.refl U.vm) qA⟩
theorem mK_call {post : va_W × List (ClassId × FieldType) → Prop} {a : Array Value} {mc ms : Nat} (hr : va_Run p l e R s m args below meth c H locs cells slots mc ms (F0 m pc ls st0) rest (va_Qv post (mKq D wc H.size) (va_A wc H.size) a) (va_A wc H.size)) (hP : va_P D nCl (pre ++ wc) H) (hD : va_D A (pre ++ wc)) (hS : va_S A H0 H locs) (hA : ∀ q, H0.size ≤ q → A q) (hK : va_K D nCl tys s)
    (kk : ∀ (u : va_W × List (ClassId × FieldType)) (H1 : Heap) (locs1 : List Loc), post u → va_P D nCl (pre ++ u.1) H1 → va_D A (pre ++ u.1) → va_K D nCl (tys ++ u.2) s → va_S A H0 H1 locs1 → W p l e R s m args below meth c H1 locs1 (cells + mc) (slots + ms) Q (F0 m (pc + 3) ls rest)) : W p l e R s m args below meth c H locs cells slots Q (F0 m pc ls st0) := by
  have hP1 : va_P D nCl ((pre ++ wc) ++ []) H := by rw [List.append_nil]; exact hP
  have hD1 : va_D A ((pre ++ wc) ++ []) := by rw [List.append_nil]; exact hD
  have hF := mB_free hD1 hS hA
  refine va_callv hr hS (fun q _ h => hF q h) hF (fun u t H1 locs1 ht hvm hp hB hz hk hS1 => ?_)
  obtain ⟨hPu, hKu, hDu⟩ := hB
  rw [ht] at hPu
  obtain ⟨hP2, hD2⟩ := mB_frame hP1 hD1 hk hF hPu hDu
  rw [List.append_nil] at hP2 hD2
  exact kk u H1 locs1 hp hP2 hD2 (hK.app (va_K.moved hvm.symm hKu)) hS1
theorem va_P_at {D : va_G} {ws : va_W} {H : Heap} {k : Nat} {x : Nat × va_E} (h : va_P D nCl ws H) (hx : va_at D nCl x H) : va_P D nCl (ws.set k x) H := by
  intro j q hq
  by_cases e : j = k
  · subst e
    by_cases hj : j < ws.length
    · rw [List.getElem?_set_self hj] at hq
      rw [← Option.some.inj hq]
      exact hx
    · rw [List.getElem?_eq_none (by rw [List.length_set]; omega)] at hq
      cases hq
  · rw [List.getElem?_set_ne (by omega)] at hq
    exact h j q hq
theorem va_D_fst {A : Nat → Prop} {w1 w2 : va_W} (h : va_D A w1) (e : w1.map Prod.fst = w2.map Prod.fst) : va_D A w2 := by
  have key : ∀ (k : Nat) (q : Nat × va_E), w2[k]? = some q → ∃ q', w1[k]? = some q' ∧ q'.1 = q.1 := by
    intro k q hq
    have h2 : (w2.map Prod.fst)[k]? = some q.1 := by rw [List.getElem?_map, hq]; rfl
    rw [← e, List.getElem?_map] at h2
    cases h3 : w1[k]? with
    | none => rw [h3] at h2; cases h2
    | some q' => rw [h3] at h2; exact ⟨q', rfl, Option.some.inj h2⟩
  refine ⟨fun i j p q hp hq hpq => ?_, fun k q hq => ?_⟩
  · obtain ⟨p', hp', e1⟩ := key i p hp
    obtain ⟨q', hq', e2⟩ := key j q hq
    exact h.1 i j p' q' hp' hq' (by rw [e1, e2, hpq])
  · obtain ⟨q', hq', e1⟩ := key k q hq
    rw [← e1]
    exact h.2 k q' hq'
end MK
/-- nothing yet -/
def z0 : zS := (fun _ => 0, fun _ _ => 0, fun _ _ => 0)
