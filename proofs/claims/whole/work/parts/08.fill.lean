/-! Arrays.fill(int[], int): a row of n ints is filled -/
theorem zfl_0 (f : Nat → Int32) (v : Int32) : zfl f 0 v = f := rfl
theorem zfl_s (f : Nat → Int32) (i : Nat) (v : Int32) : upd (zfl f i v) i v = zfl f (i + 1) v := by
  funext j
  unfold upd zfl
  by_cases h : j = i
  · subst h; simp
  · by_cases h2 : j < i
    · rw [if_neg h, if_pos h2, if_pos (by omega)]
    · rw [if_neg h, if_neg h2, if_neg (by omega)]
set_option maxHeartbeats 4000000 in
set_option maxRecDepth 100000 in
theorem wl_fill {l : Launch} {p : Program} {e : Env} {s : State} {m : MethodId} {args : Array Value} {below : List Frame} {meth : Method} {c : Code} {D : va_G} {tys : List (ClassId × FieldType)} {cA : ClassId} {n t0 q : Nat} {v : Int32} {f : Nat → Int32} {w0 : va_W} (hx : p.tables.exec = Jvm.exec) (hb : c.code = nC_JA_fill) (hr : meth.sig.returnType = none) (hlocks : meth.locks = false) (hK : va_K D nCl tys s) (ht : tys[t0]? = some (cA, .int)) (hn : n < 2 ^ 31) :
    ∀ (k i : Nat), i + k = n → ∀ (H : Heap) (locs : List Loc) (ls : Array Slot), va_P D nCl [(q, .inl (cA, n, .inl (zfl f i v)))] H → va_D (va_A w0 s.heap.size) [(q, .inl (cA, n, .inl (zfl f i v)))] → va_S (va_A w0 s.heap.size) s.heap H locs → lv_has ls 4 [(0, .ref q), (1, .int v), (2, .int (nI i)), (3, .int (nI n))] → W p l e ({ frames := 0, cells := 0, slots := 0, locals := 0 } : Room) s m args below meth c H locs 0 0 (MQ below (va_Qv (fun w' => w' = [(q, .inl (cA, n, .inl (zfl f n v)))]) (mQW D tys w0 s.heap.size) (va_A w0 s.heap.size)) args s 0 0 (va_A w0 s.heap.size)) (F0 m 5 ls []) := by
  intro k
  induction k with
  | zero =>
    intro i hi H locs ls hP hD hS hl
    have hi : i = n := by omega
    subst hi
    refine lv_iload_n hx hb nD_JA_fill_5 rfl (lv_at hl 2 rfl) ?_
    refine lv_iload_n hx hb nD_JA_fill_6 rfl (lv_at hl 3 rfl) ?_
    refine lv_icmp_ge (tgt := 20) hx hb nD_JA_fill_7 (by decide) (fun hc => ?_) (fun hc => ?_)
    · exact mw_v hx hb hr hlocks rfl hP hK hD hS nD_JA_fill_20
    · exact absurd (nI_le (Nat.le_refl i) hn) hc
  | succ k ih =>
    intro i hi H locs ls hP hD hS hl
    have hlt : i < n := by omega
    refine lv_iload_n hx hb nD_JA_fill_5 rfl (lv_at hl 2 rfl) ?_
    refine lv_iload_n hx hb nD_JA_fill_6 rfl (lv_at hl 3 rfl) ?_
    refine lv_icmp_ge (tgt := 20) hx hb nD_JA_fill_7 (by decide) (fun hc => ?_) (fun hc => ?_)
    · exact absurd hc (nI_ge hlt hn)
    · refine lv_aload_n hx hb nD_JA_fill_10 rfl (lv_at hl 0 rfl) ?_
      refine lv_iload_n hx hb nD_JA_fill_11 rfl (lv_at hl 2 rfl) ?_
      refine lv_iload_n hx hb nD_JA_fill_12 rfl (lv_at hl 1 rfl) ?_
      refine va_iast (D := D) hx hb hK hP hD hS 0 t0 rfl ht (vp_in_nI hlt hn) nD_JA_fill_13 (fun H locs hP hD hS => ?_)
      have hc : (nI i).toNatClampNeg = i := nI_clamp (by omega)
      rw [hc, zfl_s] at hP hD
      refine lv_iinc (k := 2) (v := nI (i + 1)) hx hb nD_JA_fill_14 hl rfl (nI_1 i) (by decide) rfl (fun ls hl => ?_)
      refine lv_goto (tgt := 5) hx hb nD_JA_fill_17 (by decide) ?_
      have hl := lv_sub (l' := [(0, .ref q), (1, .int v), (2, .int (nI (i + 1))), (3, .int (nI n))]) hl [1, 2, 0, 3] rfl
      exact ih (i + 1) (by omega) H locs ls hP hD hS hl
set_option maxHeartbeats 4000000 in
set_option maxRecDepth 100000 in
theorem c_JA_fill (l : Launch) (D : va_G) (tys : List (ClassId × FieldType)) (cA : ClassId) (n t0 q : Nat) (v : Int32) (f : Nat → Int32) (ht : tys[t0]? = some (cA, .int)) (hn : n < 2 ^ 31) : mWv l nM_JA_fill nC_JA_fill 4 ({ frames := 0, cells := 0, slots := 0, locals := 0 } : Room) D tys [.ref q, .int v] [(q, .inl (cA, n, .inl f))] (fun w' => w' = [(q, .inl (cA, n, .inl (zfl f n v)))]) := by
  intro sz
  refine mt_W (by decide) (Nat.le_of_ble_eq_true rfl) ?_
  intro p e s m below meth c ls hx hb hml hr hown hlocks hin hw hN hP hK hD hS hA hl hsz
  subst hsz
  have hl : lv_has ls 4 [(0, .ref q), (1, .int v)] := hl
  refine lv_iconst (v := (0 : Int32)) hx hb nD_JA_fill_0 (by decide) ?_
  refine lv_istore_n hx hb nD_JA_fill_1 rfl hl (by decide) rfl (fun ls hl => ?_)
  have hl : lv_has ls 4 [(2, .int (0 : Int32)), (0, .ref q), (1, .int v)] := hl
  refine lv_aload_n hx hb nD_JA_fill_2 rfl (lv_at hl 1 rfl) ?_
  refine va_alen (D := D) (v := nI n) hx hb hK hP 0 t0 rfl ht rfl nD_JA_fill_3 ?_
  refine lv_istore_n hx hb nD_JA_fill_4 rfl hl (by decide) rfl (fun ls hl => ?_)
  have hl : lv_has ls 4 [(3, .int (nI n)), (2, .int (0 : Int32)), (0, .ref q), (1, .int v)] := hl
  have hl := lv_sub (l' := [(0, .ref q), (1, .int v), (2, .int (0 : Int32)), (3, .int (nI n))]) hl [2, 3, 1, 0] rfl
  exact wl_fill (v := v) (f := f) hx hb hr hlocks hK ht hn n 0 (by omega) s.heap [] ls hP hD hS hl
section ZFILL
variable {p : Program} {l : Launch} {e : Env} {R : Room} {s : State} {m : MethodId} {args : Array Value} {below : List Frame} {meth : Method} {c : Code} {H : Heap} {locs : List Loc} {cells slots : Nat} {Q : State → Prop}
variable {cc : ByteArray} {pc nL : Nat} {ls : Array Slot} {rest : List Value} {D : va_G} {tys : List (ClassId × FieldType)} {A : Nat → Prop} {H0 : Heap}
theorem zsplit {ws : va_W} {k : Nat} {x : Nat × va_E} (h : ws[k]? = some x) : (ws.take k ++ [x]) ++ ws.drop (k + 1) = ws := by
  obtain ⟨hk, hx⟩ := List.getElem?_eq_some_iff.mp h
  rw [List.append_assoc, List.singleton_append, ← hx, ← List.drop_eq_getElem_cons hk, List.take_append_drop]
theorem zset {ws : va_W} {k : Nat} {x : Nat × va_E} (hk : k < ws.length) : (ws.take k ++ [x]) ++ ws.drop (k + 1) = ws.set k x := by
  rw [List.append_assoc, List.singleton_append, List.set_eq_take_append_cons_drop, if_pos hk]
/-- a call of fill on one cell of any world -/
theorem zC_fill {ws : va_W} {own : String} {index q0 t0 n a : Nat} {cA : ClassId} {f : Nat → Int32} {v : Int32} (S : CallFix p m c cc nL s args wA own) (h2 : Cond.methodLink own index nM_JA_fill ∈ wA) (hn : n < 2 ^ 31) (hK : va_K D nCl tys s) (hN : mN s) (hP : va_P D nCl ws H) (hD : va_D A ws) (hS : va_S A H0 H locs) (hA : ∀ q, H0.size ≤ q → A q) (ha : ws[q0]? = some (a, .inl (cA, n, .inl f))) (ht : tys[t0]? = some (cA, .int)) (hls : ls.size = nL) (hW : 2 * (F0 m pc ls (.int v :: .ref a :: rest)).monitorRoom + (rest.map fun v => v.category).sum ≤ 8) (hdg : decode cc pc = .ok (.invokestatic index, 3)) (hR : 0 + 1 ≤ R.frames ∧ 8 + (4 + 11) + 0 ≤ R.locals) (hcs : cells + 0 ≤ R.cells ∧ slots + 0 ≤ R.slots) (h1 : Cond.code nM_JA_fill nC_JA_fill 4 none ∈ wA) (h3 : Cond.static nM_JA_fill ∈ wA) (h5 : Cond.initialized nM_JA_fill.cls ∈ wA)
    (kk : ∀ (H1 : Heap) (locs1 : List Loc), va_P D nCl (ws.set q0 (a, .inl (cA, n, .inl (zfl f n v)))) H1 → va_D A (ws.set q0 (a, .inl (cA, n, .inl (zfl f n v)))) → va_S A H0 H1 locs1 → W p l e R s m args below meth c H1 locs1 cells slots Q (F0 m (pc + 3) ls rest)) : W p l e R s m args below meth c H locs cells slots Q (F0 m pc ls (.int v :: .ref a :: rest)) := by
  have hlt : q0 < ws.length := (List.getElem?_eq_some_iff.mp ha).1
  have hP1 : va_P D nCl ((ws.take q0 ++ [(a, .inl (cA, n, .inl f))]) ++ ws.drop (q0 + 1)) H := by rw [zsplit ha]; exact hP
  have hD1 : va_D A ((ws.take q0 ++ [(a, .inl (cA, n, .inl f))]) ++ ws.drop (q0 + 1)) := by rw [zsplit ha]; exact hD
  refine mC_v (pre := ws.take q0) (wc := [(a, .inl (cA, n, .inl f))]) (po := ws.drop (q0 + 1)) (tyc := tys) (va_runS (As := [.ref a, .int v]) (rest := rest) S (c_JA_fill l D tys cA n t0 a v f ht hn H.size) (mcS 2 S.2.2.2.2 h1 h2 h3 h5 rfl rfl nh_JA_fill hR) (mpW_S hP1 hD1 hK hN) rfl rfl hls rfl hW hdg ⟨hcs.1, hcs.2⟩) hP1 hD1 hS hA (fun w' H1 locs1 hp hP2 hD2 hS2 => ?_)
  subst hp
  rw [zset hlt] at hP2 hD2
  exact kk H1 locs1 hP2 hD2 hS2
end ZFILL
