/-! The law: its own method cell, calls in a world of two objects -/
theorem mt_G {l : Launch} {y : MethodName} {cc : ByteArray} {rm : Room} {maxL : Nat} {ret : Option FieldType} {av : List Value} {B0 : State → Prop} {Qc : Array Value → State → Outcome → State → Prop} {free : Addr → Prop} (hy : plainName y.cls = true) (hlen : (lg_sl av).length ≤ maxL)
    (body : ∀ (p : Program) (e : Env) (s : State) (m : MethodId) (below : List Frame) (meth : Method) (c : Code) (ls : Array Slot), p.tables.exec = Jvm.exec → c.code = cc → c.maxLocals = maxL → meth.sig.returnType = ret → s.vm.findClass y.cls = some m.cls → meth.locks = false → (∀ w ∈ wA, w.before av.toArray s = true) → B0 s → lv_has ls maxL (lv_args 0 av) → W p l e rm s m av.toArray below meth c s.heap [] 0 0 (MQ below Qc av.toArray s 0 0 free) (F0 m 0 ls [])) : Met l y (Cond.code y cc maxL ret :: wA) rm (va_Pc av B0) Qc 0 0 free := by
  refine Met.ofW (cc := cc) (maxL := maxL) (ret := ret) hy rfl ?_
  intro p e s m args below meth c s₁ B hml hv
  obtain ⟨rfl, hB⟩ := hv
  rw [lg_entry_eq]
  have hts := atoms_spec (ws := Cond.code y cc maxL ret :: wA) B.pre
  exact body p e s m below meth c _ B.exec B.bytes hml B.returns (findClass_of_methodNamed B.named) B.notSynchronized (fun w h => hts w (List.mem_cons_of_mem _ h)) hB (lv_entry av hlen)
abbrev lwC (b L : Nat) (xs : Nat → Int32) (U : State) : Prop := va_X b L xs U U.heap ∧ b < U.heap.size
set_option maxHeartbeats 4000000 in
set_option maxRecDepth 100000 in
theorem c_L_cell (l : Launch) (b L : Nat) (xs : Nat → Int32) (hL : L < 2 ^ 31) (k : Nat) (hk : k < 2 ^ 31) : Met l nM_L_cell (Cond.code nM_L_cell nC_L_cell 2 (some .int) :: wA) ({ frames := 0, cells := 0, slots := 0, locals := 0 } : Room) (va_Pc [.ref b, .int (nI k)] (lwC b L xs)) (vp_Si (fun r => r = if k < L then xs k else 0)) 0 0 (fun _ => False) := by
  refine mt_G (by decide) (Nat.le_of_ble_eq_true rfl) ?_
  intro p e s m below meth c ls hx hb hml hr hown hlocks hw hC hl
  obtain ⟨hX, hbl⟩ := hC
  have hl : lv_has ls 2 [(0, .ref b), (1, .int (nI k))] := hl
  have hS : va_S (fun _ => False) s.heap s.heap [] := va_S.rf
  refine lv_iload_n hx hb nD_L_cell_0 rfl (lv_at hl 1 rfl) ?_
  refine lv_aload_n hx hb nD_L_cell_1 rfl (lv_at hl 0 rfl) ?_
  refine va_slen hx hb hX hbl (fun h => h) hS nD_L_cell_2 ?_
  refine lv_icmp_ge (tgt := 12) hx hb nD_L_cell_3 (by decide) (fun hc => ?_) (fun hc => ?_)
  · have hc : nI L ≤ nI k := hc
    rw [nI_leI hL hk] at hc
    refine lv_iconst (v := (0 : Int32)) hx hb nD_L_cell_12 (by decide) ?_
    exact mr_i hx hb hr hlocks (by rw [if_neg (by omega)]) nD_L_cell_13
  · have hc : ¬ nI L ≤ nI k := hc
    rw [nI_leI hL hk] at hc
    refine lv_aload_n hx hb nD_L_cell_6 rfl (lv_at hl 0 rfl) ?_
    refine lv_iload_n hx hb nD_L_cell_7 rfl (lv_at hl 1 rfl) ?_
    refine va_sld hx hb hX hbl (fun h => h) hS (vp_in_nI (show k < L by omega) hL) nD_L_cell_8 ?_
    refine lv_goto (tgt := 13) hx hb nD_L_cell_9 (by decide) ?_
    exact mr_i hx hb hr hlocks (by rw [if_pos (by omega), nI_clamp hk]) nD_L_cell_13
section LW
variable {p : Program} {l : Launch} {e : Env} {R : Room} {s : State} {m : MethodId} {args : Array Value} {below : List Frame} {meth : Method} {c : Code} {H : Heap} {locs : List Loc} {cells slots : Nat} {Q : State → Prop}
variable {cc : ByteArray} {pc : Nat} {ls : Array Slot} {rest st0 : List Value} {D : va_G} {tys : List (ClassId × FieldType)} {A : Nat → Prop} {H0 : Heap}
theorem lp_S {b L k : Nat} {xs : Nat → Int32} (hX : va_X b L xs s H0) (hbl : b < H0.size) (hbA : ¬ A b) (hS : va_S A H0 H locs) : PreS s H (va_Pc [.ref b, .int (nI k)] (lwC b L xs)) [.ref b, .int (nI k)] := by
  refine ⟨fun a U g mk q => ⟨q.1, va_X.moved (u := U) (U := U.calling g mk a) (Vm.Alike.refl U.vm) q.2.1, q.2.2⟩, fun U hU hW => ⟨rfl, ?_, ?_⟩⟩
  · rw [hU]
    exact (va_X.moved hW.alike hX).kept (hS.2.1 b hbl hbA)
  · rw [hU]
    exact Nat.lt_of_lt_of_le hbl hS.1
theorem lp_F {w1 w2 : va_W} {b q0 ci : Nat} {q : vw_C} {fs : List Value} {As : List Value} (hP : va_P D nCl (w1 ++ w2) H) (hD : va_D A (w1 ++ w2)) (hK : va_K D nCl tys s) (hn : mN s) (hc : nCl[ci]? = some q) (he : w1[q0]? = some (b, .inr (ci, fs))) : PreV s H q.1 b (va_Pc (.ref b :: As) (mPW D tys w1 H.size)) As :=
  mpW_V (pre := []) (wc := w1) (po := w2) hP hD hK hn hc he
theorem lp_G {w1 w2 : va_W} {b q0 ci : Nat} {q : vw_C} {fs : List Value} {As : List Value} (hP : va_P D nCl (w1 ++ w2) H) (hD : va_D A (w1 ++ w2)) (hK : va_K D nCl tys s) (hn : mN s) (hc : nCl[ci]? = some q) (he : w2[q0]? = some (b, .inr (ci, fs))) : PreV s H q.1 b (va_Pc (.ref b :: As) (mPW D tys w2 H.size)) As :=
  mpW_V (pre := w1) (wc := w2) (po := []) (A := A) (by rw [List.append_nil]; exact hP) (by rw [List.append_nil]; exact hD) hK hn hc he
theorem lF_i {w1 : zS → va_W} {w2 : va_W} {σ : zS} {post : Int32 → zS → Prop} {a : Array Value} (hr : va_Run p l e R s m args below meth c H locs cells slots 0 0 (F0 m pc ls st0) rest (va_Qi (zQi w1 post) (mQW D tys (w1 σ) H.size) (va_A (w1 σ) H.size) a) (va_A (w1 σ) H.size)) (hP : va_P D nCl (w1 σ ++ w2) H) (hD : va_D A (w1 σ ++ w2)) (hS : va_S A H0 H locs) (hA : ∀ q, H0.size ≤ q → A q)
    (kk : ∀ (r : Int32) (σ1 : zS) (H1 : Heap) (locs1 : List Loc), post r σ1 → va_P D nCl (w1 σ1 ++ w2) H1 → va_D A (w1 σ1 ++ w2) → va_S A H0 H1 locs1 → W p l e R s m args below meth c H1 locs1 cells slots Q (F0 m (pc + 3) ls (.int r :: rest))) : W p l e R s m args below meth c H locs cells slots Q (F0 m pc ls st0) := by
  refine mC_i (pre := []) (wc := w1 σ) (po := w2) hr hP hD hS hA (fun r w' H1 locs1 hp hP1 hD1 hS1 => ?_)
  obtain ⟨σ1, rfl, hp⟩ := hp
  exact kk r σ1 H1 locs1 hp hP1 hD1 hS1
theorem lF_v {w1 : zS → va_W} {w2 : va_W} {σ : zS} {post : zS → Prop} {a : Array Value} (hr : va_Run p l e R s m args below meth c H locs cells slots 0 0 (F0 m pc ls st0) rest (va_Qv (zQv w1 post) (mQW D tys (w1 σ) H.size) (va_A (w1 σ) H.size) a) (va_A (w1 σ) H.size)) (hP : va_P D nCl (w1 σ ++ w2) H) (hD : va_D A (w1 σ ++ w2)) (hS : va_S A H0 H locs) (hA : ∀ q, H0.size ≤ q → A q)
    (kk : ∀ (σ1 : zS) (H1 : Heap) (locs1 : List Loc), post σ1 → va_P D nCl (w1 σ1 ++ w2) H1 → va_D A (w1 σ1 ++ w2) → va_S A H0 H1 locs1 → W p l e R s m args below meth c H1 locs1 cells slots Q (F0 m (pc + 3) ls rest)) : W p l e R s m args below meth c H locs cells slots Q (F0 m pc ls st0) := by
  refine mC_v (pre := []) (wc := w1 σ) (po := w2) hr hP hD hS hA (fun w' H1 locs1 hp hP1 hD1 hS1 => ?_)
  obtain ⟨σ1, rfl, hp⟩ := hp
  exact kk σ1 H1 locs1 hp hP1 hD1 hS1
theorem mC_l {pre wc po : va_W} {post : Int64 → va_W → Prop} {tyc : List (ClassId × FieldType)} {a : Array Value} (hr : va_Run p l e R s m args below meth c H locs cells slots 0 0 (F0 m pc ls st0) rest (va_Ql post (mQW D tyc wc H.size) (va_A wc H.size) a) (va_A wc H.size)) (hP : va_P D nCl ((pre ++ wc) ++ po) H) (hD : va_D A ((pre ++ wc) ++ po)) (hS : va_S A H0 H locs) (hA : ∀ q, H0.size ≤ q → A q)
    (kk : ∀ (r : Int64) (w' : va_W) (H1 : Heap) (locs1 : List Loc), post r w' → va_P D nCl ((pre ++ w') ++ po) H1 → va_D A ((pre ++ w') ++ po) → va_S A H0 H1 locs1 → W p l e R s m args below meth c H1 locs1 cells slots Q (F0 m (pc + 3) ls (.long r :: rest))) : W p l e R s m args below meth c H locs cells slots Q (F0 m pc ls st0) := by
  have hF := mB_free hD hS hA
  refine va_calll hr hS (fun q _ h => hF q h) hF (fun r w' t H1 locs1 ht hvm hp hB hz hk hS1 => ?_)
  obtain ⟨hP1, hK1, hD1⟩ := hB
  rw [ht] at hP1
  obtain ⟨hP2, hD2⟩ := mB_frame hP hD hk hF hP1 hD1
  exact kk r w' H1 locs1 hp hP2 hD2 hS1
theorem lF_l {w1 : zS → va_W} {w2 : va_W} {σ : zS} {post : Int64 → zS → Prop} {a : Array Value} (hr : va_Run p l e R s m args below meth c H locs cells slots 0 0 (F0 m pc ls st0) rest (va_Ql (zQl w1 post) (mQW D tys (w1 σ) H.size) (va_A (w1 σ) H.size) a) (va_A (w1 σ) H.size)) (hP : va_P D nCl (w1 σ ++ w2) H) (hD : va_D A (w1 σ ++ w2)) (hS : va_S A H0 H locs) (hA : ∀ q, H0.size ≤ q → A q)
    (kk : ∀ (r : Int64) (σ1 : zS) (H1 : Heap) (locs1 : List Loc), post r σ1 → va_P D nCl (w1 σ1 ++ w2) H1 → va_D A (w1 σ1 ++ w2) → va_S A H0 H1 locs1 → W p l e R s m args below meth c H1 locs1 cells slots Q (F0 m (pc + 3) ls (.long r :: rest))) : W p l e R s m args below meth c H locs cells slots Q (F0 m pc ls st0) := by
  refine mC_l (pre := []) (wc := w1 σ) (po := w2) hr hP hD hS hA (fun r w' H1 locs1 hp hP1 hD1 hS1 => ?_)
  obtain ⟨σ1, rfl, hp⟩ := hp
  exact kk r σ1 H1 locs1 hp hP1 hD1 hS1
theorem lG_i {w1 : va_W} {w2 : zS → va_W} {σ : zS} {post : Int32 → zS → Prop} {a : Array Value} (hr : va_Run p l e R s m args below meth c H locs cells slots 0 0 (F0 m pc ls st0) rest (va_Qi (zQi w2 post) (mQW D tys (w2 σ) H.size) (va_A (w2 σ) H.size) a) (va_A (w2 σ) H.size)) (hP : va_P D nCl (w1 ++ w2 σ) H) (hD : va_D A (w1 ++ w2 σ)) (hS : va_S A H0 H locs) (hA : ∀ q, H0.size ≤ q → A q)
    (kk : ∀ (r : Int32) (σ1 : zS) (H1 : Heap) (locs1 : List Loc), post r σ1 → va_P D nCl (w1 ++ w2 σ1) H1 → va_D A (w1 ++ w2 σ1) → va_S A H0 H1 locs1 → W p l e R s m args below meth c H1 locs1 cells slots Q (F0 m (pc + 3) ls (.int r :: rest))) : W p l e R s m args below meth c H locs cells slots Q (F0 m pc ls st0) := by
  refine mC_i (pre := w1) (wc := w2 σ) (po := []) (A := A) hr (by rw [List.append_nil]; exact hP) (by rw [List.append_nil]; exact hD) hS hA (fun r w' H1 locs1 hp hP1 hD1 hS1 => ?_)
  obtain ⟨σ1, rfl, hp⟩ := hp
  rw [List.append_nil] at hP1 hD1
  exact kk r σ1 H1 locs1 hp hP1 hD1 hS1
theorem lG_v {w1 : va_W} {w2 : zS → va_W} {σ : zS} {post : zS → Prop} {a : Array Value} (hr : va_Run p l e R s m args below meth c H locs cells slots 0 0 (F0 m pc ls st0) rest (va_Qv (zQv w2 post) (mQW D tys (w2 σ) H.size) (va_A (w2 σ) H.size) a) (va_A (w2 σ) H.size)) (hP : va_P D nCl (w1 ++ w2 σ) H) (hD : va_D A (w1 ++ w2 σ)) (hS : va_S A H0 H locs) (hA : ∀ q, H0.size ≤ q → A q)
    (kk : ∀ (σ1 : zS) (H1 : Heap) (locs1 : List Loc), post σ1 → va_P D nCl (w1 ++ w2 σ1) H1 → va_D A (w1 ++ w2 σ1) → va_S A H0 H1 locs1 → W p l e R s m args below meth c H1 locs1 cells slots Q (F0 m (pc + 3) ls rest)) : W p l e R s m args below meth c H locs cells slots Q (F0 m pc ls st0) := by
  refine mC_v (pre := w1) (wc := w2 σ) (po := []) (A := A) hr (by rw [List.append_nil]; exact hP) (by rw [List.append_nil]; exact hD) hS hA (fun w' H1 locs1 hp hP1 hD1 hS1 => ?_)
  obtain ⟨σ1, rfl, hp⟩ := hp
  rw [List.append_nil] at hP1 hD1
  exact kk σ1 H1 locs1 hp hP1 hD1 hS1
theorem lG_l {w1 : va_W} {w2 : zS → va_W} {σ : zS} {post : Int64 → zS → Prop} {a : Array Value} (hr : va_Run p l e R s m args below meth c H locs cells slots 0 0 (F0 m pc ls st0) rest (va_Ql (zQl w2 post) (mQW D tys (w2 σ) H.size) (va_A (w2 σ) H.size) a) (va_A (w2 σ) H.size)) (hP : va_P D nCl (w1 ++ w2 σ) H) (hD : va_D A (w1 ++ w2 σ)) (hS : va_S A H0 H locs) (hA : ∀ q, H0.size ≤ q → A q)
    (kk : ∀ (r : Int64) (σ1 : zS) (H1 : Heap) (locs1 : List Loc), post r σ1 → va_P D nCl (w1 ++ w2 σ1) H1 → va_D A (w1 ++ w2 σ1) → va_S A H0 H1 locs1 → W p l e R s m args below meth c H1 locs1 cells slots Q (F0 m (pc + 3) ls (.long r :: rest))) : W p l e R s m args below meth c H locs cells slots Q (F0 m pc ls st0) := by
  refine mC_l (pre := w1) (wc := w2 σ) (po := []) (A := A) hr (by rw [List.append_nil]; exact hP) (by rw [List.append_nil]; exact hD) hS hA (fun r w' H1 locs1 hp hP1 hD1 hS1 => ?_)
  obtain ⟨σ1, rfl, hp⟩ := hp
  rw [List.append_nil] at hP1 hD1
  exact kk r σ1 H1 locs1 hp hP1 hD1 hS1
end LW
