set_option maxHeartbeats 4000000 in
set_option maxRecDepth 100000 in
theorem wl_M_openOf_4 {l : Launch} {p : Program} {e : Env} {s : State} {m : MethodId} {args : Array Value} {below : List Frame} {meth : Method} {c : Code} {D : va_G} {tc : Nat → ClassId} {a : Nat → Nat} {w0 : va_W} (x1 : Int32) (post : Int32 → zS → Prop) (K : Int32 → Int32 → zS → Prop) (hx : p.tables.exec = Jvm.exec) (hb : c.code = nC_M_openOf) (hml : c.maxLocals = 4) (hr : meth.sig.returnType = (some .int)) (hown : s.vm.findClass nM_M_openOf.cls = some m.cls) (hlocks : meth.locks = false) (hw : ∀ w ∈ wA, w.before args s = true) (hn : mN s) (hK : va_K D nCl (ztM tc) s) (hA : ∀ q, s.heap.size ≤ q → va_A w0 s.heap.size q)
    (hk : ∀ (y2 : Int32) (y3 : Int32) (σ : zS) (H : Heap) (locs : List Loc) (ls : Array Slot), K y2 y3 σ → va_P D nCl (zM a tc σ) H → va_D (va_A w0 s.heap.size) (zM a tc σ) → va_S (va_A w0 s.heap.size) s.heap H locs → lv_has ls 4 [(0, .ref (a 0)), (1, .int x1), (2, .int y2), (3, .int y3)] → W p l e ({ frames := 0, cells := 0, slots := 0, locals := 0 } : Room) s m args below meth c H locs 0 0 (MQ below (va_Qi (zQi (zM a tc) post) (mQW D (ztM tc) w0 s.heap.size) (va_A w0 s.heap.size)) args s 0 0 (va_A w0 s.heap.size)) (F0 m 43 ls [])) : ∀ q : Int32 × Int32 × zS, zLP (b_M_openOf_4 x1 post K) q → ∀ (H : Heap) (locs : List Loc) (ls : Array Slot), va_P D nCl (zM a tc q.2.2) H → va_D (va_A w0 s.heap.size) (zM a tc q.2.2) → va_S (va_A w0 s.heap.size) s.heap H locs → lv_has ls 4 [(0, .ref (a 0)), (1, .int x1), (2, .int q.1), (3, .int q.2.1)] → W p l e ({ frames := 0, cells := 0, slots := 0, locals := 0 } : Room) s m args below meth c H locs 0 0 (MQ below (va_Qi (zQi (zM a tc) post) (mQW D (ztM tc) w0 s.heap.size) (va_A w0 s.heap.size)) args s 0 0 (va_A w0 s.heap.size)) (F0 m 4 ls []) := by
  refine zLP_walk ?_
  rintro R ⟨y2, y3, σ⟩ hR h H locs ls hP hD hS hl
  dsimp only at hP hD hl
  dsimp only [b_M_openOf_4] at h
  refine lv_iload_n hx hb nD_M_openOf_4 rfl (lv_at hl 3 rfl) ?_
  refine lv_aload_n hx hb nD_M_openOf_5 rfl (lv_at hl 0 rfl) ?_
  refine va_get (D := D) (ci := 5) (v := .int (σ.1 4)) (C := nR_M) (T := nT_M) (N := 23) hx hb hw wu_M hown hK hP 0 yc_0 rfl 4 (by decide) (hw _ wm_427) (fun _ h9 => h9) rfl nD_M_openOf_6 ?_
  refine lv_icmp_ge (tgt := 43) hx hb nD_M_openOf_9 (by decide) (fun hc => ?_) (fun hc => ?_)
  · have h := h.1 hc
    exact hk y2 y3 σ _ _ ls h hP hD hS hl
  · have h := h.2 hc
    refine lv_aload_n hx hb nD_M_openOf_12 rfl (lv_at hl 0 rfl) ?_
    refine va_get (D := D) (ci := 5) (v := .ref (a 1)) (C := nR_M) (T := nT_M) (N := 23) hx hb hw wu_M hown hK hP 0 yc_0 rfl 5 (by decide) (hw _ wm_428) (fun _ h9 => h9) rfl nD_M_openOf_13 ?_
    refine lv_iload_n hx hb nD_M_openOf_16 rfl (lv_at hl 3 rfl) ?_
    obtain ⟨hi1, h⟩ := h
    refine va_iald (D := D) hx hb hK hP 1 0 yc_1 rfl hi1 nD_M_openOf_17 ?_
    refine lv_iload_n hx hb nD_M_openOf_18 rfl (lv_at hl 1 rfl) ?_
    refine lv_icmp_ne (tgt := 35) hx hb nD_M_openOf_19 (by decide) (fun hc => ?_) (fun hc => ?_)
    · have h := h.2 hc
      refine lv_iload_n hx hb nD_M_openOf_35 rfl (lv_at hl 2 rfl) ?_
      refine lv_istore_n hx hb nD_M_openOf_36 rfl hl (by decide) rfl (fun ls hl => ?_)
      have hl : lv_has ls 4 [(2, .int y2), (0, .ref (a 0)), (1, .int x1), (3, .int y3)] := hl
      refine lv_iinc (k := 3) (v := y3 + 1) hx hb nD_M_openOf_37 hl rfl rfl (by decide) rfl (fun ls hl => ?_)
      have hl : lv_has ls 4 [(3, .int (y3 + 1)), (2, .int y2), (0, .ref (a 0)), (1, .int x1)] := hl
      refine lv_goto (tgt := 4) hx hb nD_M_openOf_40 (by decide) ?_
      have hl := lv_sub (l' := [(0, .ref (a 0)), (1, .int x1), (2, .int y2), (3, .int (y3 + 1))]) hl [2, 3, 1, 0] rfl
      exact hR _ h _ _ ls hP hD hS hl
    · have h := h.1 hc
      refine lv_aload_n hx hb nD_M_openOf_22 rfl (lv_at hl 0 rfl) ?_
      refine va_get (D := D) (ci := 5) (v := .ref (a 7)) (C := nR_M) (T := nT_M) (N := 23) hx hb hw wu_M hown hK hP 0 yc_0 rfl 11 (by decide) (hw _ wm_434) (fun _ h9 => h9) rfl nD_M_openOf_23 ?_
      refine lv_iload_n hx hb nD_M_openOf_26 rfl (lv_at hl 3 rfl) ?_
      obtain ⟨hi2, h⟩ := h
      refine va_iald (D := D) hx hb hK hP 7 6 yc_7 rfl hi2 nD_M_openOf_27 ?_
      refine lv_if_ne (tgt := 35) hx hb nD_M_openOf_28 (by decide) (fun hc => ?_) (fun hc => ?_)
      · have h := h.2 hc
        refine lv_iload_n hx hb nD_M_openOf_35 rfl (lv_at hl 2 rfl) ?_
        refine lv_istore_n hx hb nD_M_openOf_36 rfl hl (by decide) rfl (fun ls hl => ?_)
        have hl : lv_has ls 4 [(2, .int y2), (0, .ref (a 0)), (1, .int x1), (3, .int y3)] := hl
        refine lv_iinc (k := 3) (v := y3 + 1) hx hb nD_M_openOf_37 hl rfl rfl (by decide) rfl (fun ls hl => ?_)
        have hl : lv_has ls 4 [(3, .int (y3 + 1)), (2, .int y2), (0, .ref (a 0)), (1, .int x1)] := hl
        refine lv_goto (tgt := 4) hx hb nD_M_openOf_40 (by decide) ?_
        have hl := lv_sub (l' := [(0, .ref (a 0)), (1, .int x1), (2, .int y2), (3, .int (y3 + 1))]) hl [2, 3, 1, 0] rfl
        exact hR _ h _ _ ls hP hD hS hl
      · have h := h.1 hc
        refine lv_iload_n hx hb nD_M_openOf_31 rfl (lv_at hl 3 rfl) ?_
        refine lv_goto (tgt := 36) hx hb nD_M_openOf_32 (by decide) ?_
        refine lv_istore_n hx hb nD_M_openOf_36 rfl hl (by decide) rfl (fun ls hl => ?_)
        have hl : lv_has ls 4 [(2, .int y3), (0, .ref (a 0)), (1, .int x1), (3, .int y3)] := hl
        refine lv_iinc (k := 3) (v := y3 + 1) hx hb nD_M_openOf_37 hl rfl rfl (by decide) rfl (fun ls hl => ?_)
        have hl : lv_has ls 4 [(3, .int (y3 + 1)), (2, .int y3), (0, .ref (a 0)), (1, .int x1)] := hl
        refine lv_goto (tgt := 4) hx hb nD_M_openOf_40 (by decide) ?_
        have hl := lv_sub (l' := [(0, .ref (a 0)), (1, .int x1), (2, .int y3), (3, .int (y3 + 1))]) hl [2, 3, 1, 0] rfl
        exact hR _ h _ _ ls hP hD hS hl
set_option maxHeartbeats 4000000 in
set_option maxRecDepth 100000 in
theorem c_M_openOf (l : Launch) (D : va_G) (tc : Nat → ClassId) (a : Nat → Nat) (x1 : Int32) (σ : zS) (post : Int32 → zS → Prop) (h : j_M_openOf x1 σ post) : mWi l nM_M_openOf nC_M_openOf 4 (some .int) ({ frames := 0, cells := 0, slots := 0, locals := 0 } : Room) D (ztM tc) [.ref (a 0), .int x1] (zM a tc σ) (zQi (zM a tc) post) := by
  intro sz
  refine mt_W (by decide) (Nat.le_of_ble_eq_true rfl) ?_
  intro p e s m below meth c ls hx hb hml hr hown hlocks hin hw hn hP hK hD hS hA hl hsz
  subst hsz
  have hl : lv_has ls 4 [(0, .ref (a 0)), (1, .int x1)] := hl
  unfold j_M_openOf at h
  refine lv_iconst (v := (-1 : Int32)) hx hb nD_M_openOf_0 (by decide) ?_
  refine lv_istore_n hx hb nD_M_openOf_1 rfl hl (by decide) rfl (fun ls hl => ?_)
  have hl : lv_has ls 4 [(2, .int (-1 : Int32)), (0, .ref (a 0)), (1, .int x1)] := hl
  refine lv_iconst (v := (0 : Int32)) hx hb nD_M_openOf_2 (by decide) ?_
  refine lv_istore_n hx hb nD_M_openOf_3 rfl hl (by decide) rfl (fun ls hl => ?_)
  have hl : lv_has ls 4 [(3, .int (0 : Int32)), (2, .int (-1 : Int32)), (0, .ref (a 0)), (1, .int x1)] := hl
  have hl := lv_sub (l' := [(0, .ref (a 0)), (1, .int x1), (2, .int (-1 : Int32)), (3, .int (0 : Int32))]) hl [2, 3, 1, 0] rfl
  refine wl_M_openOf_4 (l := l) x1 post _ hx hb hml hr hown hlocks hw hn hK hA (fun v3 v4 σ5 H locs ls h hP hD hS hl => ?_) ((-1 : Int32), (0 : Int32), σ) h _ _ ls hP hD hS hl
  refine lv_iload_n hx hb nD_M_openOf_43 rfl (lv_at hl 2 rfl) ?_
  exact mw_i hx hb hr hlocks ⟨σ5, rfl, h⟩ hP hK hD hS nD_M_openOf_44
set_option maxHeartbeats 4000000 in
set_option maxRecDepth 100000 in
theorem wl_M_carryOut_127 {l : Launch} {p : Program} {e : Env} {s : State} {m : MethodId} {args : Array Value} {below : List Frame} {meth : Method} {c : Code} {D : va_G} {tc : Nat → ClassId} {a : Nat → Nat} {w0 : va_W} (x2 : Int32) (x3 : Int32) (post : Int32 → zS → Prop) (K : Int32 → zS → Prop) (hx : p.tables.exec = Jvm.exec) (hb : c.code = nC_M_carryOut) (hml : c.maxLocals = 5) (hr : meth.sig.returnType = (some .int)) (hown : s.vm.findClass nM_M_carryOut.cls = some m.cls) (hlocks : meth.locks = false) (hw : ∀ w ∈ wA, w.before args s = true) (hn : mN s) (hK : va_K D nCl (ztM tc) s) (hA : ∀ q, s.heap.size ≤ q → va_A w0 s.heap.size q)
    (hk : ∀ (y4 : Int32) (σ : zS) (H : Heap) (locs : List Loc) (ls : Array Slot), K y4 σ → va_P D nCl (zM a tc σ) H → va_D (va_A w0 s.heap.size) (zM a tc σ) → va_S (va_A w0 s.heap.size) s.heap H locs → lv_has ls 5 [(0, .ref (a 0)), (2, .int x2), (3, .int x3), (4, .int y4)] → W p l e ({ frames := 0, cells := 0, slots := 0, locals := 0 } : Room) s m args below meth c H locs 0 0 (MQ below (va_Qi (zQi (zM a tc) post) (mQW D (ztM tc) w0 s.heap.size) (va_A w0 s.heap.size)) args s 0 0 (va_A w0 s.heap.size)) (F0 m 162 ls [])) : ∀ q : Int32 × zS, zLP (b_M_carryOut_127 x2 x3 post K) q → ∀ (H : Heap) (locs : List Loc) (ls : Array Slot), va_P D nCl (zM a tc q.2) H → va_D (va_A w0 s.heap.size) (zM a tc q.2) → va_S (va_A w0 s.heap.size) s.heap H locs → lv_has ls 5 [(0, .ref (a 0)), (2, .int x2), (3, .int x3), (4, .int q.1)] → W p l e ({ frames := 0, cells := 0, slots := 0, locals := 0 } : Room) s m args below meth c H locs 0 0 (MQ below (va_Qi (zQi (zM a tc) post) (mQW D (ztM tc) w0 s.heap.size) (va_A w0 s.heap.size)) args s 0 0 (va_A w0 s.heap.size)) (F0 m 127 ls []) := by
  refine zLP_walk ?_
  rintro R ⟨y4, σ⟩ hR h H locs ls hP hD hS hl
  dsimp only at hP hD hl
  dsimp only [b_M_carryOut_127] at h
  refine lv_iload hx hb nD_M_carryOut_127 (lv_at hl 3 rfl) ?_
  refine lv_aload_n hx hb nD_M_carryOut_129 rfl (lv_at hl 0 rfl) ?_
  refine va_get (D := D) (ci := 5) (v := .int (σ.1 6)) (C := nR_M) (T := nT_M) (N := 23) hx hb hw wu_M hown hK hP 0 yc_0 rfl 16 (by decide) (hw _ wm_439) (fun _ h9 => h9) rfl nD_M_carryOut_130 ?_
  refine lv_icmp_ge (tgt := 162) hx hb nD_M_carryOut_133 (by decide) (fun hc => ?_) (fun hc => ?_)
  · have h := h.1 hc
    exact hk y4 σ _ _ ls h hP hD hS hl
  · have h := h.2 hc
    refine lv_iload_n hx hb nD_M_carryOut_136 rfl (lv_at hl 1 rfl) ?_
    refine lv_if_ne (tgt := 162) hx hb nD_M_carryOut_137 (by decide) (fun hc => ?_) (fun hc => ?_)
    · have h := h.2 hc
      exact hk y4 σ _ _ ls h hP hD hS hl
    · have h := h.1 hc
      refine lv_aload_n hx hb nD_M_carryOut_140 rfl (lv_at hl 0 rfl) ?_
      refine va_get (D := D) (ci := 5) (v := .ref (a 11)) (C := nR_M) (T := nT_M) (N := 23) hx hb hw wu_M hown hK hP 0 yc_0 rfl 17 (by decide) (hw _ wm_440) (fun _ h9 => h9) rfl nD_M_carryOut_141 ?_
      refine lv_iload hx hb nD_M_carryOut_144 (lv_at hl 3 rfl) ?_
      refine lv_aload_n hx hb nD_M_carryOut_146 rfl (lv_at hl 0 rfl) ?_
      refine va_get (D := D) (ci := 5) (v := .ref (a 11)) (C := nR_M) (T := nT_M) (N := 23) hx hb hw wu_M hown hK hP 0 yc_0 rfl 17 (by decide) (hw _ wm_440) (fun _ h9 => h9) rfl nD_M_carryOut_147 ?_
      refine lv_iload hx hb nD_M_carryOut_150 (lv_at hl 3 rfl) ?_
      refine lv_iconst (v := (1 : Int32)) hx hb nD_M_carryOut_152 (by decide) ?_
      refine lv_iadd hx hb nD_M_carryOut_153 ?_
      obtain ⟨hi5, h⟩ := h
      refine va_iald (D := D) hx hb hK hP 11 10 yc_11 rfl hi5 nD_M_carryOut_154 ?_
      obtain ⟨hi6, h⟩ := h
      refine va_iast (D := D) hx hb hK hP hD hS 11 10 yc_11 rfl hi6 nD_M_carryOut_155 (fun H locs hP hD hS => ?_)
      obtain ⟨σ7, e_σ7⟩ : ∃ z : zS, z = zA σ 10 y4.toNatClampNeg (σ.2.1 10 (y4 + (1 : Int32)).toNatClampNeg) := ⟨_, rfl⟩
      obtain ⟨hP, hD⟩ := znew (w := zM a tc) e_σ7 (ya_11) hP hD
      have h := h σ7 e_σ7
      clear e_σ7
      refine lv_iinc (k := 3) (v := y4 + 1) hx hb nD_M_carryOut_156 hl rfl rfl (by decide) rfl (fun ls hl => ?_)
      have hl : lv_has ls 5 [(4, .int (y4 + 1)), (0, .ref (a 0)), (2, .int x2), (3, .int x3)] := hl
      refine lv_goto (tgt := 127) hx hb nD_M_carryOut_159 (by decide) ?_
      have hl := lv_sub (l' := [(0, .ref (a 0)), (2, .int x2), (3, .int x3), (4, .int (y4 + 1))]) hl [1, 2, 3, 0] rfl
      exact hR _ h _ _ ls hP hD hS hl
set_option maxHeartbeats 4000000 in
set_option maxRecDepth 100000 in
theorem c_M_carryOut (l : Launch) (D : va_G) (tc : Nat → ClassId) (a : Nat → Nat) (x1 : Int32) (σ : zS) (post : Int32 → zS → Prop) (h : j_M_carryOut x1 σ post) : mWi l nM_M_carryOut nC_M_carryOut 5 (some .int) ({ frames := 0, cells := 0, slots := 0, locals := 0 } : Room) D (ztM tc) [.ref (a 0), .int x1] (zM a tc σ) (zQi (zM a tc) post) := by
  intro sz
  refine mt_W (by decide) (Nat.le_of_ble_eq_true rfl) ?_
  intro p e s m below meth c ls hx hb hml hr hown hlocks hin hw hn hP hK hD hS hA hl hsz
  subst hsz
  have hl : lv_has ls 5 [(0, .ref (a 0)), (1, .int x1)] := hl
  unfold j_M_carryOut at h
  refine lv_aload_n hx hb nD_M_carryOut_0 rfl (lv_at hl 0 rfl) ?_
  refine va_get (D := D) (ci := 5) (v := .ref (a 2)) (C := nR_M) (T := nT_M) (N := 23) hx hb hw wu_M hown hK hP 0 yc_0 rfl 6 (by decide) (hw _ wm_429) (fun _ h9 => h9) rfl nD_M_carryOut_1 ?_
  refine lv_iload_n hx hb nD_M_carryOut_4 rfl (lv_at hl 1 rfl) ?_
  obtain ⟨hi1, h⟩ := h
  refine va_zald (D := D) hx hb hK hP 2 1 yc_2 rfl hi1 nD_M_carryOut_5 ?_
  refine lv_if_eq (tgt := 49) hx hb nD_M_carryOut_6 (by decide) (fun hc => ?_) (fun hc => ?_)
  · have h := h.1 hc
    refine lv_aload_n hx hb nD_M_carryOut_49 rfl (lv_at hl 0 rfl) ?_
    refine va_get (D := D) (ci := 5) (v := .int (σ.1 6)) (C := nR_M) (T := nT_M) (N := 23) hx hb hw wu_M hown hK hP 0 yc_0 rfl 16 (by decide) (hw _ wm_439) (fun _ h9 => h9) rfl nD_M_carryOut_50 ?_
    refine lv_if_ne (tgt := 58) hx hb nD_M_carryOut_53 (by decide) (fun hc => ?_) (fun hc => ?_)
    · have h := h.2 hc
      refine lv_aload_n hx hb nD_M_carryOut_58 rfl (lv_at hl 0 rfl) ?_
      refine va_get (D := D) (ci := 5) (v := .int (σ.1 0)) (C := nR_M) (T := nT_M) (N := 23) hx hb hw wu_M hown hK hP 0 yc_0 rfl 0 (by decide) (hw _ wm_423) (fun _ h9 => h9) rfl nD_M_carryOut_59 ?_
      refine lv_iconst (v := (1 : Int32)) hx hb nD_M_carryOut_62 (by decide) ?_
      refine lv_icmp_eq (tgt := 83) hx hb nD_M_carryOut_63 (by decide) (fun hc => ?_) (fun hc => ?_)
      · have h := h.1 hc
        refine lv_iconst (v := (1 : Int32)) hx hb nD_M_carryOut_83 (by decide) ?_
        refine lv_goto (tgt := 88) hx hb nD_M_carryOut_84 (by decide) ?_
        refine lv_istore_n hx hb nD_M_carryOut_88 rfl hl (by decide) rfl (fun ls hl => ?_)
        have hl : lv_has ls 5 [(2, .int (1 : Int32)), (0, .ref (a 0)), (1, .int x1)] := hl
        refine lv_iload_n hx hb nD_M_carryOut_89 rfl (lv_at hl 0 rfl) ?_
        refine lv_if_eq (tgt := 107) hx hb nD_M_carryOut_90 (by decide) (fun hc => ?_) (fun hc => ?_)
        · have h := h.1 hc
          refine lv_aload_n hx hb nD_M_carryOut_107 rfl (lv_at hl 1 rfl) ?_
          refine va_get (D := D) (ci := 5) (v := .ref (a 11)) (C := nR_M) (T := nT_M) (N := 23) hx hb hw wu_M hown hK hP 0 yc_0 rfl 17 (by decide) (hw _ wm_440) (fun _ h9 => h9) rfl nD_M_carryOut_108 ?_
          refine lv_iconst (v := (0 : Int32)) hx hb nD_M_carryOut_111 (by decide) ?_
          obtain ⟨hi2, h⟩ := h
          refine va_iald (D := D) hx hb hK hP 11 10 yc_11 rfl hi2 nD_M_carryOut_112 ?_
          refine lv_topi (fun v3 e_v3 => ?_)
          have h := h v3 e_v3
          clear e_v3
          refine lv_istore_n hx hb nD_M_carryOut_113 rfl hl (by decide) rfl (fun ls hl => ?_)
          have hl : lv_has ls 5 [(3, .int v3), (2, .int (1 : Int32)), (0, .ref (a 0)), (1, .int x1)] := hl
          refine lv_aload_n hx hb nD_M_carryOut_114 rfl (lv_at hl 2 rfl) ?_
          refine lv_dup hx hb nD_M_carryOut_115 rfl ?_
          refine va_get (D := D) (ci := 5) (v := .int (σ.1 6)) (C := nR_M) (T := nT_M) (N := 23) hx hb hw wu_M hown hK hP 0 yc_0 rfl 16 (by decide) (hw _ wm_439) (fun _ h9 => h9) rfl nD_M_carryOut_116 ?_
          refine lv_iconst (v := (1 : Int32)) hx hb nD_M_carryOut_119 (by decide) ?_
          refine lv_isub hx hb nD_M_carryOut_120 ?_
          refine va_put (D := D) (ci := 5) (v := .int ((σ.1 6) - (1 : Int32))) (ty := .int) (C := nR_M) (T := nT_M) (N := 23) hx hb hw wu_M nY_M nO_M nN_M hown hK hP hD hS 0 yc_0 rfl 16 (by decide) (hw _ wm_439) (fun _ h9 => h9) rfl (by decide +kernel) rfl rfl (Nat.le_of_ble_eq_true rfl) nD_M_carryOut_121 (fun H locs hP hD hS => ?_)
          obtain ⟨σ4, e_σ4⟩ : ∃ z : zS, z = zI σ 6 ((σ.1 6) - (1 : Int32)) := ⟨_, rfl⟩
          obtain ⟨hP, hD⟩ := znew (w := zM a tc) e_σ4 (yp_0_16) hP hD
          have h := h σ4 e_σ4
          clear e_σ4
          refine lv_iconst (v := (0 : Int32)) hx hb nD_M_carryOut_124 (by decide) ?_
          refine lv_istore hx hb nD_M_carryOut_125 hl (by decide) rfl (fun ls hl => ?_)
          have hl : lv_has ls 5 [(4, .int (0 : Int32)), (3, .int v3), (2, .int (1 : Int32)), (0, .ref (a 0)), (1, .int x1)] := hl
          have hl := lv_sub (l' := [(0, .ref (a 0)), (2, .int (1 : Int32)), (3, .int v3), (4, .int (0 : Int32))]) hl [3, 2, 1, 0] rfl
          refine wl_M_carryOut_127 (l := l) (1 : Int32) v3 post _ hx hb hml hr hown hlocks hw hn hK hA (fun v8 σ9 H locs ls h hP hD hS hl => ?_) ((0 : Int32), σ4) h _ _ ls hP hD hS hl
          refine lv_iload_n hx hb nD_M_carryOut_162 rfl (lv_at hl 2 rfl) ?_
          exact mw_i hx hb hr hlocks ⟨σ9, rfl, h⟩ hP hK hD hS nD_M_carryOut_163
        · have h := h.2 hc
          refine lv_aload_n hx hb nD_M_carryOut_93 rfl (lv_at hl 1 rfl) ?_
          refine va_get (D := D) (ci := 5) (v := .ref (a 11)) (C := nR_M) (T := nT_M) (N := 23) hx hb hw wu_M hown hK hP 0 yc_0 rfl 17 (by decide) (hw _ wm_440) (fun _ h9 => h9) rfl nD_M_carryOut_94 ?_
          refine lv_aload_n hx hb nD_M_carryOut_97 rfl (lv_at hl 1 rfl) ?_
          refine va_get (D := D) (ci := 5) (v := .int (σ.1 6)) (C := nR_M) (T := nT_M) (N := 23) hx hb hw wu_M hown hK hP 0 yc_0 rfl 16 (by decide) (hw _ wm_439) (fun _ h9 => h9) rfl nD_M_carryOut_98 ?_
          refine lv_iconst (v := (1 : Int32)) hx hb nD_M_carryOut_101 (by decide) ?_
          refine lv_isub hx hb nD_M_carryOut_102 ?_
          obtain ⟨hi10, h⟩ := h
          refine va_iald (D := D) hx hb hK hP 11 10 yc_11 rfl hi10 nD_M_carryOut_103 ?_
          refine lv_goto (tgt := 113) hx hb nD_M_carryOut_104 (by decide) ?_
          refine lv_topi (fun v11 e_v11 => ?_)
          have h := h v11 e_v11
          clear e_v11
          refine lv_istore_n hx hb nD_M_carryOut_113 rfl hl (by decide) rfl (fun ls hl => ?_)
          have hl : lv_has ls 5 [(3, .int v11), (2, .int (1 : Int32)), (0, .ref (a 0)), (1, .int x1)] := hl
          refine lv_aload_n hx hb nD_M_carryOut_114 rfl (lv_at hl 2 rfl) ?_
          refine lv_dup hx hb nD_M_carryOut_115 rfl ?_
          refine va_get (D := D) (ci := 5) (v := .int (σ.1 6)) (C := nR_M) (T := nT_M) (N := 23) hx hb hw wu_M hown hK hP 0 yc_0 rfl 16 (by decide) (hw _ wm_439) (fun _ h9 => h9) rfl nD_M_carryOut_116 ?_
          refine lv_iconst (v := (1 : Int32)) hx hb nD_M_carryOut_119 (by decide) ?_
          refine lv_isub hx hb nD_M_carryOut_120 ?_
          refine va_put (D := D) (ci := 5) (v := .int ((σ.1 6) - (1 : Int32))) (ty := .int) (C := nR_M) (T := nT_M) (N := 23) hx hb hw wu_M nY_M nO_M nN_M hown hK hP hD hS 0 yc_0 rfl 16 (by decide) (hw _ wm_439) (fun _ h9 => h9) rfl (by decide +kernel) rfl rfl (Nat.le_of_ble_eq_true rfl) nD_M_carryOut_121 (fun H locs hP hD hS => ?_)
          obtain ⟨σ12, e_σ12⟩ : ∃ z : zS, z = zI σ 6 ((σ.1 6) - (1 : Int32)) := ⟨_, rfl⟩
          obtain ⟨hP, hD⟩ := znew (w := zM a tc) e_σ12 (yp_0_16) hP hD
          have h := h σ12 e_σ12
          clear e_σ12
          refine lv_iconst (v := (0 : Int32)) hx hb nD_M_carryOut_124 (by decide) ?_
          refine lv_istore hx hb nD_M_carryOut_125 hl (by decide) rfl (fun ls hl => ?_)
          have hl : lv_has ls 5 [(4, .int (0 : Int32)), (3, .int v11), (2, .int (1 : Int32)), (0, .ref (a 0)), (1, .int x1)] := hl
          have hl := lv_sub (l' := [(0, .ref (a 0)), (2, .int (1 : Int32)), (3, .int v11), (4, .int (0 : Int32))]) hl [3, 2, 1, 0] rfl
          refine wl_M_carryOut_127 (l := l) (1 : Int32) v11 post _ hx hb hml hr hown hlocks hw hn hK hA (fun v13 σ14 H locs ls h hP hD hS hl => ?_) ((0 : Int32), σ12) h _ _ ls hP hD hS hl
          refine lv_iload_n hx hb nD_M_carryOut_162 rfl (lv_at hl 2 rfl) ?_
          exact mw_i hx hb hr hlocks ⟨σ14, rfl, h⟩ hP hK hD hS nD_M_carryOut_163
      · have h := h.2 hc
        refine lv_aload_n hx hb nD_M_carryOut_66 rfl (lv_at hl 0 rfl) ?_
        refine va_get (D := D) (ci := 5) (v := .int (σ.1 0)) (C := nR_M) (T := nT_M) (N := 23) hx hb hw wu_M hown hK hP 0 yc_0 rfl 0 (by decide) (hw _ wm_423) (fun _ h9 => h9) rfl nD_M_carryOut_67 ?_
        refine lv_iconst (v := (2 : Int32)) hx hb nD_M_carryOut_70 (by decide) ?_
        refine lv_icmp_ne (tgt := 87) hx hb nD_M_carryOut_71 (by decide) (fun hc => ?_) (fun hc => ?_)
        · have h := h.2 hc
          refine lv_iconst (v := (0 : Int32)) hx hb nD_M_carryOut_87 (by decide) ?_
          refine lv_istore_n hx hb nD_M_carryOut_88 rfl hl (by decide) rfl (fun ls hl => ?_)
          have hl : lv_has ls 5 [(2, .int (0 : Int32)), (0, .ref (a 0)), (1, .int x1)] := hl
          refine lv_iload_n hx hb nD_M_carryOut_89 rfl (lv_at hl 0 rfl) ?_
          refine lv_if_eq (tgt := 107) hx hb nD_M_carryOut_90 (by decide) (fun hc => ?_) (fun hc => ?_)
          · have h := h.1 hc
            refine lv_aload_n hx hb nD_M_carryOut_107 rfl (lv_at hl 1 rfl) ?_
            refine va_get (D := D) (ci := 5) (v := .ref (a 11)) (C := nR_M) (T := nT_M) (N := 23) hx hb hw wu_M hown hK hP 0 yc_0 rfl 17 (by decide) (hw _ wm_440) (fun _ h9 => h9) rfl nD_M_carryOut_108 ?_
            refine lv_iconst (v := (0 : Int32)) hx hb nD_M_carryOut_111 (by decide) ?_
            obtain ⟨hi15, h⟩ := h
            refine va_iald (D := D) hx hb hK hP 11 10 yc_11 rfl hi15 nD_M_carryOut_112 ?_
            refine lv_topi (fun v16 e_v16 => ?_)
            have h := h v16 e_v16
            clear e_v16
            refine lv_istore_n hx hb nD_M_carryOut_113 rfl hl (by decide) rfl (fun ls hl => ?_)
            have hl : lv_has ls 5 [(3, .int v16), (2, .int (0 : Int32)), (0, .ref (a 0)), (1, .int x1)] := hl
            refine lv_aload_n hx hb nD_M_carryOut_114 rfl (lv_at hl 2 rfl) ?_
            refine lv_dup hx hb nD_M_carryOut_115 rfl ?_
            refine va_get (D := D) (ci := 5) (v := .int (σ.1 6)) (C := nR_M) (T := nT_M) (N := 23) hx hb hw wu_M hown hK hP 0 yc_0 rfl 16 (by decide) (hw _ wm_439) (fun _ h9 => h9) rfl nD_M_carryOut_116 ?_
            refine lv_iconst (v := (1 : Int32)) hx hb nD_M_carryOut_119 (by decide) ?_
            refine lv_isub hx hb nD_M_carryOut_120 ?_
            refine va_put (D := D) (ci := 5) (v := .int ((σ.1 6) - (1 : Int32))) (ty := .int) (C := nR_M) (T := nT_M) (N := 23) hx hb hw wu_M nY_M nO_M nN_M hown hK hP hD hS 0 yc_0 rfl 16 (by decide) (hw _ wm_439) (fun _ h9 => h9) rfl (by decide +kernel) rfl rfl (Nat.le_of_ble_eq_true rfl) nD_M_carryOut_121 (fun H locs hP hD hS => ?_)
            obtain ⟨σ17, e_σ17⟩ : ∃ z : zS, z = zI σ 6 ((σ.1 6) - (1 : Int32)) := ⟨_, rfl⟩
            obtain ⟨hP, hD⟩ := znew (w := zM a tc) e_σ17 (yp_0_16) hP hD
            have h := h σ17 e_σ17
            clear e_σ17
            refine lv_iconst (v := (0 : Int32)) hx hb nD_M_carryOut_124 (by decide) ?_
            refine lv_istore hx hb nD_M_carryOut_125 hl (by decide) rfl (fun ls hl => ?_)
            have hl : lv_has ls 5 [(4, .int (0 : Int32)), (3, .int v16), (2, .int (0 : Int32)), (0, .ref (a 0)), (1, .int x1)] := hl
            have hl := lv_sub (l' := [(0, .ref (a 0)), (2, .int (0 : Int32)), (3, .int v16), (4, .int (0 : Int32))]) hl [3, 2, 1, 0] rfl
            refine wl_M_carryOut_127 (l := l) (0 : Int32) v16 post _ hx hb hml hr hown hlocks hw hn hK hA (fun v18 σ19 H locs ls h hP hD hS hl => ?_) ((0 : Int32), σ17) h _ _ ls hP hD hS hl
            refine lv_iload_n hx hb nD_M_carryOut_162 rfl (lv_at hl 2 rfl) ?_
            exact mw_i hx hb hr hlocks ⟨σ19, rfl, h⟩ hP hK hD hS nD_M_carryOut_163
          · have h := h.2 hc
            refine lv_aload_n hx hb nD_M_carryOut_93 rfl (lv_at hl 1 rfl) ?_
            refine va_get (D := D) (ci := 5) (v := .ref (a 11)) (C := nR_M) (T := nT_M) (N := 23) hx hb hw wu_M hown hK hP 0 yc_0 rfl 17 (by decide) (hw _ wm_440) (fun _ h9 => h9) rfl nD_M_carryOut_94 ?_
            refine lv_aload_n hx hb nD_M_carryOut_97 rfl (lv_at hl 1 rfl) ?_
            refine va_get (D := D) (ci := 5) (v := .int (σ.1 6)) (C := nR_M) (T := nT_M) (N := 23) hx hb hw wu_M hown hK hP 0 yc_0 rfl 16 (by decide) (hw _ wm_439) (fun _ h9 => h9) rfl nD_M_carryOut_98 ?_
            refine lv_iconst (v := (1 : Int32)) hx hb nD_M_carryOut_101 (by decide) ?_
            refine lv_isub hx hb nD_M_carryOut_102 ?_
            obtain ⟨hi20, h⟩ := h
            refine va_iald (D := D) hx hb hK hP 11 10 yc_11 rfl hi20 nD_M_carryOut_103 ?_
            refine lv_goto (tgt := 113) hx hb nD_M_carryOut_104 (by decide) ?_
            refine lv_topi (fun v21 e_v21 => ?_)
            have h := h v21 e_v21
            clear e_v21
            refine lv_istore_n hx hb nD_M_carryOut_113 rfl hl (by decide) rfl (fun ls hl => ?_)
            have hl : lv_has ls 5 [(3, .int v21), (2, .int (0 : Int32)), (0, .ref (a 0)), (1, .int x1)] := hl
            refine lv_aload_n hx hb nD_M_carryOut_114 rfl (lv_at hl 2 rfl) ?_
            refine lv_dup hx hb nD_M_carryOut_115 rfl ?_
            refine va_get (D := D) (ci := 5) (v := .int (σ.1 6)) (C := nR_M) (T := nT_M) (N := 23) hx hb hw wu_M hown hK hP 0 yc_0 rfl 16 (by decide) (hw _ wm_439) (fun _ h9 => h9) rfl nD_M_carryOut_116 ?_
            refine lv_iconst (v := (1 : Int32)) hx hb nD_M_carryOut_119 (by decide) ?_
            refine lv_isub hx hb nD_M_carryOut_120 ?_
            refine va_put (D := D) (ci := 5) (v := .int ((σ.1 6) - (1 : Int32))) (ty := .int) (C := nR_M) (T := nT_M) (N := 23) hx hb hw wu_M nY_M nO_M nN_M hown hK hP hD hS 0 yc_0 rfl 16 (by decide) (hw _ wm_439) (fun _ h9 => h9) rfl (by decide +kernel) rfl rfl (Nat.le_of_ble_eq_true rfl) nD_M_carryOut_121 (fun H locs hP hD hS => ?_)
            obtain ⟨σ22, e_σ22⟩ : ∃ z : zS, z = zI σ 6 ((σ.1 6) - (1 : Int32)) := ⟨_, rfl⟩
            obtain ⟨hP, hD⟩ := znew (w := zM a tc) e_σ22 (yp_0_16) hP hD
            have h := h σ22 e_σ22
            clear e_σ22
            refine lv_iconst (v := (0 : Int32)) hx hb nD_M_carryOut_124 (by decide) ?_
            refine lv_istore hx hb nD_M_carryOut_125 hl (by decide) rfl (fun ls hl => ?_)
            have hl : lv_has ls 5 [(4, .int (0 : Int32)), (3, .int v21), (2, .int (0 : Int32)), (0, .ref (a 0)), (1, .int x1)] := hl
            have hl := lv_sub (l' := [(0, .ref (a 0)), (2, .int (0 : Int32)), (3, .int v21), (4, .int (0 : Int32))]) hl [3, 2, 1, 0] rfl
            refine wl_M_carryOut_127 (l := l) (0 : Int32) v21 post _ hx hb hml hr hown hlocks hw hn hK hA (fun v23 σ24 H locs ls h hP hD hS hl => ?_) ((0 : Int32), σ22) h _ _ ls hP hD hS hl
            refine lv_iload_n hx hb nD_M_carryOut_162 rfl (lv_at hl 2 rfl) ?_
            exact mw_i hx hb hr hlocks ⟨σ24, rfl, h⟩ hP hK hD hS nD_M_carryOut_163
        · have h := h.1 hc
          refine lv_aload_n hx hb nD_M_carryOut_74 rfl (lv_at hl 0 rfl) ?_
          refine va_get (D := D) (ci := 5) (v := .ref (a 1)) (C := nR_M) (T := nT_M) (N := 23) hx hb hw wu_M hown hK hP 0 yc_0 rfl 5 (by decide) (hw _ wm_428) (fun _ h9 => h9) rfl nD_M_carryOut_75 ?_
          refine lv_iload_n hx hb nD_M_carryOut_78 rfl (lv_at hl 1 rfl) ?_
          obtain ⟨hi25, h⟩ := h
          refine va_iald (D := D) hx hb hK hP 1 0 yc_1 rfl hi25 nD_M_carryOut_79 ?_
          refine lv_if_ne (tgt := 87) hx hb nD_M_carryOut_80 (by decide) (fun hc => ?_) (fun hc => ?_)
          · have h := h.2 hc
            refine lv_iconst (v := (0 : Int32)) hx hb nD_M_carryOut_87 (by decide) ?_
            refine lv_istore_n hx hb nD_M_carryOut_88 rfl hl (by decide) rfl (fun ls hl => ?_)
            have hl : lv_has ls 5 [(2, .int (0 : Int32)), (0, .ref (a 0)), (1, .int x1)] := hl
            refine lv_iload_n hx hb nD_M_carryOut_89 rfl (lv_at hl 0 rfl) ?_
            refine lv_if_eq (tgt := 107) hx hb nD_M_carryOut_90 (by decide) (fun hc => ?_) (fun hc => ?_)
            · have h := h.1 hc
              refine lv_aload_n hx hb nD_M_carryOut_107 rfl (lv_at hl 1 rfl) ?_
              refine va_get (D := D) (ci := 5) (v := .ref (a 11)) (C := nR_M) (T := nT_M) (N := 23) hx hb hw wu_M hown hK hP 0 yc_0 rfl 17 (by decide) (hw _ wm_440) (fun _ h9 => h9) rfl nD_M_carryOut_108 ?_
              refine lv_iconst (v := (0 : Int32)) hx hb nD_M_carryOut_111 (by decide) ?_
              obtain ⟨hi26, h⟩ := h
              refine va_iald (D := D) hx hb hK hP 11 10 yc_11 rfl hi26 nD_M_carryOut_112 ?_
              refine lv_topi (fun v27 e_v27 => ?_)
              have h := h v27 e_v27
              clear e_v27
              refine lv_istore_n hx hb nD_M_carryOut_113 rfl hl (by decide) rfl (fun ls hl => ?_)
              have hl : lv_has ls 5 [(3, .int v27), (2, .int (0 : Int32)), (0, .ref (a 0)), (1, .int x1)] := hl
              refine lv_aload_n hx hb nD_M_carryOut_114 rfl (lv_at hl 2 rfl) ?_
              refine lv_dup hx hb nD_M_carryOut_115 rfl ?_
              refine va_get (D := D) (ci := 5) (v := .int (σ.1 6)) (C := nR_M) (T := nT_M) (N := 23) hx hb hw wu_M hown hK hP 0 yc_0 rfl 16 (by decide) (hw _ wm_439) (fun _ h9 => h9) rfl nD_M_carryOut_116 ?_
              refine lv_iconst (v := (1 : Int32)) hx hb nD_M_carryOut_119 (by decide) ?_
              refine lv_isub hx hb nD_M_carryOut_120 ?_
              refine va_put (D := D) (ci := 5) (v := .int ((σ.1 6) - (1 : Int32))) (ty := .int) (C := nR_M) (T := nT_M) (N := 23) hx hb hw wu_M nY_M nO_M nN_M hown hK hP hD hS 0 yc_0 rfl 16 (by decide) (hw _ wm_439) (fun _ h9 => h9) rfl (by decide +kernel) rfl rfl (Nat.le_of_ble_eq_true rfl) nD_M_carryOut_121 (fun H locs hP hD hS => ?_)
              obtain ⟨σ28, e_σ28⟩ : ∃ z : zS, z = zI σ 6 ((σ.1 6) - (1 : Int32)) := ⟨_, rfl⟩
              obtain ⟨hP, hD⟩ := znew (w := zM a tc) e_σ28 (yp_0_16) hP hD
              have h := h σ28 e_σ28
              clear e_σ28
              refine lv_iconst (v := (0 : Int32)) hx hb nD_M_carryOut_124 (by decide) ?_
              refine lv_istore hx hb nD_M_carryOut_125 hl (by decide) rfl (fun ls hl => ?_)
              have hl : lv_has ls 5 [(4, .int (0 : Int32)), (3, .int v27), (2, .int (0 : Int32)), (0, .ref (a 0)), (1, .int x1)] := hl
              have hl := lv_sub (l' := [(0, .ref (a 0)), (2, .int (0 : Int32)), (3, .int v27), (4, .int (0 : Int32))]) hl [3, 2, 1, 0] rfl
              refine wl_M_carryOut_127 (l := l) (0 : Int32) v27 post _ hx hb hml hr hown hlocks hw hn hK hA (fun v29 σ30 H locs ls h hP hD hS hl => ?_) ((0 : Int32), σ28) h _ _ ls hP hD hS hl
              refine lv_iload_n hx hb nD_M_carryOut_162 rfl (lv_at hl 2 rfl) ?_
              exact mw_i hx hb hr hlocks ⟨σ30, rfl, h⟩ hP hK hD hS nD_M_carryOut_163
            · have h := h.2 hc
              refine lv_aload_n hx hb nD_M_carryOut_93 rfl (lv_at hl 1 rfl) ?_
              refine va_get (D := D) (ci := 5) (v := .ref (a 11)) (C := nR_M) (T := nT_M) (N := 23) hx hb hw wu_M hown hK hP 0 yc_0 rfl 17 (by decide) (hw _ wm_440) (fun _ h9 => h9) rfl nD_M_carryOut_94 ?_
              refine lv_aload_n hx hb nD_M_carryOut_97 rfl (lv_at hl 1 rfl) ?_
              refine va_get (D := D) (ci := 5) (v := .int (σ.1 6)) (C := nR_M) (T := nT_M) (N := 23) hx hb hw wu_M hown hK hP 0 yc_0 rfl 16 (by decide) (hw _ wm_439) (fun _ h9 => h9) rfl nD_M_carryOut_98 ?_
              refine lv_iconst (v := (1 : Int32)) hx hb nD_M_carryOut_101 (by decide) ?_
              refine lv_isub hx hb nD_M_carryOut_102 ?_
              obtain ⟨hi31, h⟩ := h
              refine va_iald (D := D) hx hb hK hP 11 10 yc_11 rfl hi31 nD_M_carryOut_103 ?_
              refine lv_goto (tgt := 113) hx hb nD_M_carryOut_104 (by decide) ?_
              refine lv_topi (fun v32 e_v32 => ?_)
              have h := h v32 e_v32
              clear e_v32
              refine lv_istore_n hx hb nD_M_carryOut_113 rfl hl (by decide) rfl (fun ls hl => ?_)
              have hl : lv_has ls 5 [(3, .int v32), (2, .int (0 : Int32)), (0, .ref (a 0)), (1, .int x1)] := hl
              refine lv_aload_n hx hb nD_M_carryOut_114 rfl (lv_at hl 2 rfl) ?_
              refine lv_dup hx hb nD_M_carryOut_115 rfl ?_
              refine va_get (D := D) (ci := 5) (v := .int (σ.1 6)) (C := nR_M) (T := nT_M) (N := 23) hx hb hw wu_M hown hK hP 0 yc_0 rfl 16 (by decide) (hw _ wm_439) (fun _ h9 => h9) rfl nD_M_carryOut_116 ?_
              refine lv_iconst (v := (1 : Int32)) hx hb nD_M_carryOut_119 (by decide) ?_
              refine lv_isub hx hb nD_M_carryOut_120 ?_
              refine va_put (D := D) (ci := 5) (v := .int ((σ.1 6) - (1 : Int32))) (ty := .int) (C := nR_M) (T := nT_M) (N := 23) hx hb hw wu_M nY_M nO_M nN_M hown hK hP hD hS 0 yc_0 rfl 16 (by decide) (hw _ wm_439) (fun _ h9 => h9) rfl (by decide +kernel) rfl rfl (Nat.le_of_ble_eq_true rfl) nD_M_carryOut_121 (fun H locs hP hD hS => ?_)
              obtain ⟨σ33, e_σ33⟩ : ∃ z : zS, z = zI σ 6 ((σ.1 6) - (1 : Int32)) := ⟨_, rfl⟩
              obtain ⟨hP, hD⟩ := znew (w := zM a tc) e_σ33 (yp_0_16) hP hD
              have h := h σ33 e_σ33
              clear e_σ33
              refine lv_iconst (v := (0 : Int32)) hx hb nD_M_carryOut_124 (by decide) ?_
              refine lv_istore hx hb nD_M_carryOut_125 hl (by decide) rfl (fun ls hl => ?_)
              have hl : lv_has ls 5 [(4, .int (0 : Int32)), (3, .int v32), (2, .int (0 : Int32)), (0, .ref (a 0)), (1, .int x1)] := hl
              have hl := lv_sub (l' := [(0, .ref (a 0)), (2, .int (0 : Int32)), (3, .int v32), (4, .int (0 : Int32))]) hl [3, 2, 1, 0] rfl
              refine wl_M_carryOut_127 (l := l) (0 : Int32) v32 post _ hx hb hml hr hown hlocks hw hn hK hA (fun v34 σ35 H locs ls h hP hD hS hl => ?_) ((0 : Int32), σ33) h _ _ ls hP hD hS hl
              refine lv_iload_n hx hb nD_M_carryOut_162 rfl (lv_at hl 2 rfl) ?_
              exact mw_i hx hb hr hlocks ⟨σ35, rfl, h⟩ hP hK hD hS nD_M_carryOut_163
          · have h := h.1 hc
            refine lv_iconst (v := (1 : Int32)) hx hb nD_M_carryOut_83 (by decide) ?_
            refine lv_goto (tgt := 88) hx hb nD_M_carryOut_84 (by decide) ?_
            refine lv_istore_n hx hb nD_M_carryOut_88 rfl hl (by decide) rfl (fun ls hl => ?_)
            have hl : lv_has ls 5 [(2, .int (1 : Int32)), (0, .ref (a 0)), (1, .int x1)] := hl
            refine lv_iload_n hx hb nD_M_carryOut_89 rfl (lv_at hl 0 rfl) ?_
            refine lv_if_eq (tgt := 107) hx hb nD_M_carryOut_90 (by decide) (fun hc => ?_) (fun hc => ?_)
            · have h := h.1 hc
              refine lv_aload_n hx hb nD_M_carryOut_107 rfl (lv_at hl 1 rfl) ?_
              refine va_get (D := D) (ci := 5) (v := .ref (a 11)) (C := nR_M) (T := nT_M) (N := 23) hx hb hw wu_M hown hK hP 0 yc_0 rfl 17 (by decide) (hw _ wm_440) (fun _ h9 => h9) rfl nD_M_carryOut_108 ?_
              refine lv_iconst (v := (0 : Int32)) hx hb nD_M_carryOut_111 (by decide) ?_
              obtain ⟨hi36, h⟩ := h
              refine va_iald (D := D) hx hb hK hP 11 10 yc_11 rfl hi36 nD_M_carryOut_112 ?_
              refine lv_topi (fun v37 e_v37 => ?_)
              have h := h v37 e_v37
              clear e_v37
              refine lv_istore_n hx hb nD_M_carryOut_113 rfl hl (by decide) rfl (fun ls hl => ?_)
              have hl : lv_has ls 5 [(3, .int v37), (2, .int (1 : Int32)), (0, .ref (a 0)), (1, .int x1)] := hl
              refine lv_aload_n hx hb nD_M_carryOut_114 rfl (lv_at hl 2 rfl) ?_
              refine lv_dup hx hb nD_M_carryOut_115 rfl ?_
              refine va_get (D := D) (ci := 5) (v := .int (σ.1 6)) (C := nR_M) (T := nT_M) (N := 23) hx hb hw wu_M hown hK hP 0 yc_0 rfl 16 (by decide) (hw _ wm_439) (fun _ h9 => h9) rfl nD_M_carryOut_116 ?_
              refine lv_iconst (v := (1 : Int32)) hx hb nD_M_carryOut_119 (by decide) ?_
              refine lv_isub hx hb nD_M_carryOut_120 ?_
              refine va_put (D := D) (ci := 5) (v := .int ((σ.1 6) - (1 : Int32))) (ty := .int) (C := nR_M) (T := nT_M) (N := 23) hx hb hw wu_M nY_M nO_M nN_M hown hK hP hD hS 0 yc_0 rfl 16 (by decide) (hw _ wm_439) (fun _ h9 => h9) rfl (by decide +kernel) rfl rfl (Nat.le_of_ble_eq_true rfl) nD_M_carryOut_121 (fun H locs hP hD hS => ?_)
              obtain ⟨σ38, e_σ38⟩ : ∃ z : zS, z = zI σ 6 ((σ.1 6) - (1 : Int32)) := ⟨_, rfl⟩
              obtain ⟨hP, hD⟩ := znew (w := zM a tc) e_σ38 (yp_0_16) hP hD
              have h := h σ38 e_σ38
              clear e_σ38
              refine lv_iconst (v := (0 : Int32)) hx hb nD_M_carryOut_124 (by decide) ?_
              refine lv_istore hx hb nD_M_carryOut_125 hl (by decide) rfl (fun ls hl => ?_)
              have hl : lv_has ls 5 [(4, .int (0 : Int32)), (3, .int v37), (2, .int (1 : Int32)), (0, .ref (a 0)), (1, .int x1)] := hl
              have hl := lv_sub (l' := [(0, .ref (a 0)), (2, .int (1 : Int32)), (3, .int v37), (4, .int (0 : Int32))]) hl [3, 2, 1, 0] rfl
              refine wl_M_carryOut_127 (l := l) (1 : Int32) v37 post _ hx hb hml hr hown hlocks hw hn hK hA (fun v39 σ40 H locs ls h hP hD hS hl => ?_) ((0 : Int32), σ38) h _ _ ls hP hD hS hl
              refine lv_iload_n hx hb nD_M_carryOut_162 rfl (lv_at hl 2 rfl) ?_
              exact mw_i hx hb hr hlocks ⟨σ40, rfl, h⟩ hP hK hD hS nD_M_carryOut_163
            · have h := h.2 hc
              refine lv_aload_n hx hb nD_M_carryOut_93 rfl (lv_at hl 1 rfl) ?_
              refine va_get (D := D) (ci := 5) (v := .ref (a 11)) (C := nR_M) (T := nT_M) (N := 23) hx hb hw wu_M hown hK hP 0 yc_0 rfl 17 (by decide) (hw _ wm_440) (fun _ h9 => h9) rfl nD_M_carryOut_94 ?_
              refine lv_aload_n hx hb nD_M_carryOut_97 rfl (lv_at hl 1 rfl) ?_
              refine va_get (D := D) (ci := 5) (v := .int (σ.1 6)) (C := nR_M) (T := nT_M) (N := 23) hx hb hw wu_M hown hK hP 0 yc_0 rfl 16 (by decide) (hw _ wm_439) (fun _ h9 => h9) rfl nD_M_carryOut_98 ?_
              refine lv_iconst (v := (1 : Int32)) hx hb nD_M_carryOut_101 (by decide) ?_
              refine lv_isub hx hb nD_M_carryOut_102 ?_
              obtain ⟨hi41, h⟩ := h
              refine va_iald (D := D) hx hb hK hP 11 10 yc_11 rfl hi41 nD_M_carryOut_103 ?_
              refine lv_goto (tgt := 113) hx hb nD_M_carryOut_104 (by decide) ?_
              refine lv_topi (fun v42 e_v42 => ?_)
              have h := h v42 e_v42
              clear e_v42
              refine lv_istore_n hx hb nD_M_carryOut_113 rfl hl (by decide) rfl (fun ls hl => ?_)
              have hl : lv_has ls 5 [(3, .int v42), (2, .int (1 : Int32)), (0, .ref (a 0)), (1, .int x1)] := hl
              refine lv_aload_n hx hb nD_M_carryOut_114 rfl (lv_at hl 2 rfl) ?_
              refine lv_dup hx hb nD_M_carryOut_115 rfl ?_
              refine va_get (D := D) (ci := 5) (v := .int (σ.1 6)) (C := nR_M) (T := nT_M) (N := 23) hx hb hw wu_M hown hK hP 0 yc_0 rfl 16 (by decide) (hw _ wm_439) (fun _ h9 => h9) rfl nD_M_carryOut_116 ?_
              refine lv_iconst (v := (1 : Int32)) hx hb nD_M_carryOut_119 (by decide) ?_
              refine lv_isub hx hb nD_M_carryOut_120 ?_
              refine va_put (D := D) (ci := 5) (v := .int ((σ.1 6) - (1 : Int32))) (ty := .int) (C := nR_M) (T := nT_M) (N := 23) hx hb hw wu_M nY_M nO_M nN_M hown hK hP hD hS 0 yc_0 rfl 16 (by decide) (hw _ wm_439) (fun _ h9 => h9) rfl (by decide +kernel) rfl rfl (Nat.le_of_ble_eq_true rfl) nD_M_carryOut_121 (fun H locs hP hD hS => ?_)
              obtain ⟨σ43, e_σ43⟩ : ∃ z : zS, z = zI σ 6 ((σ.1 6) - (1 : Int32)) := ⟨_, rfl⟩
              obtain ⟨hP, hD⟩ := znew (w := zM a tc) e_σ43 (yp_0_16) hP hD
              have h := h σ43 e_σ43
              clear e_σ43
              refine lv_iconst (v := (0 : Int32)) hx hb nD_M_carryOut_124 (by decide) ?_
              refine lv_istore hx hb nD_M_carryOut_125 hl (by decide) rfl (fun ls hl => ?_)
              have hl : lv_has ls 5 [(4, .int (0 : Int32)), (3, .int v42), (2, .int (1 : Int32)), (0, .ref (a 0)), (1, .int x1)] := hl
              have hl := lv_sub (l' := [(0, .ref (a 0)), (2, .int (1 : Int32)), (3, .int v42), (4, .int (0 : Int32))]) hl [3, 2, 1, 0] rfl
              refine wl_M_carryOut_127 (l := l) (1 : Int32) v42 post _ hx hb hml hr hown hlocks hw hn hK hA (fun v44 σ45 H locs ls h hP hD hS hl => ?_) ((0 : Int32), σ43) h _ _ ls hP hD hS hl
              refine lv_iload_n hx hb nD_M_carryOut_162 rfl (lv_at hl 2 rfl) ?_
              exact mw_i hx hb hr hlocks ⟨σ45, rfl, h⟩ hP hK hD hS nD_M_carryOut_163
    · have h := h.1 hc
      refine lv_iconst (v := (-1 : Int32)) hx hb nD_M_carryOut_56 (by decide) ?_
      exact mw_i hx hb hr hlocks ⟨σ, rfl, h⟩ hP hK hD hS nD_M_carryOut_57
  · have h := h.2 hc
    refine lv_aload_n hx hb nD_M_carryOut_9 rfl (lv_at hl 0 rfl) ?_
    refine va_get (D := D) (ci := 5) (v := .int (σ.1 6)) (C := nR_M) (T := nT_M) (N := 23) hx hb hw wu_M hown hK hP 0 yc_0 rfl 16 (by decide) (hw _ wm_439) (fun _ h9 => h9) rfl nD_M_carryOut_10 ?_
    refine lv_aload_n hx hb nD_M_carryOut_13 rfl (lv_at hl 0 rfl) ?_
    refine va_get (D := D) (ci := 5) (v := .int (σ.1 1)) (C := nR_M) (T := nT_M) (N := 23) hx hb hw wu_M hown hK hP 0 yc_0 rfl 1 (by decide) (hw _ wm_424) (fun _ h9 => h9) rfl nD_M_carryOut_14 ?_
    refine lv_icmp_lt (tgt := 22) hx hb nD_M_carryOut_17 (by decide) (fun hc => ?_) (fun hc => ?_)
    · have h := h.1 hc
      refine lv_aload_n hx hb nD_M_carryOut_22 rfl (lv_at hl 0 rfl) ?_
      refine va_get (D := D) (ci := 5) (v := .ref (a 11)) (C := nR_M) (T := nT_M) (N := 23) hx hb hw wu_M hown hK hP 0 yc_0 rfl 17 (by decide) (hw _ wm_440) (fun _ h9 => h9) rfl nD_M_carryOut_23 ?_
      refine lv_aload_n hx hb nD_M_carryOut_26 rfl (lv_at hl 0 rfl) ?_
      refine va_get (D := D) (ci := 5) (v := .int (σ.1 6)) (C := nR_M) (T := nT_M) (N := 23) hx hb hw wu_M hown hK hP 0 yc_0 rfl 16 (by decide) (hw _ wm_439) (fun _ h9 => h9) rfl nD_M_carryOut_27 ?_
      refine lv_aload_n hx hb nD_M_carryOut_30 rfl (lv_at hl 0 rfl) ?_
      refine va_get (D := D) (ci := 5) (v := .ref (a 3)) (C := nR_M) (T := nT_M) (N := 23) hx hb hw wu_M hown hK hP 0 yc_0 rfl 7 (by decide) (hw _ wm_430) (fun _ h9 => h9) rfl nD_M_carryOut_31 ?_
      refine lv_iload_n hx hb nD_M_carryOut_34 rfl (lv_at hl 1 rfl) ?_
      obtain ⟨hi46, h⟩ := h
      refine va_iald (D := D) hx hb hK hP 3 2 yc_3 rfl hi46 nD_M_carryOut_35 ?_
      obtain ⟨hi47, h⟩ := h
      refine va_iast (D := D) hx hb hK hP hD hS 11 10 yc_11 rfl hi47 nD_M_carryOut_36 (fun H locs hP hD hS => ?_)
      obtain ⟨σ48, e_σ48⟩ : ∃ z : zS, z = zA σ 10 (σ.1 6).toNatClampNeg (σ.2.1 2 x1.toNatClampNeg) := ⟨_, rfl⟩
      obtain ⟨hP, hD⟩ := znew (w := zM a tc) e_σ48 (ya_11) hP hD
      have h := h σ48 e_σ48
      clear e_σ48
      refine lv_aload_n hx hb nD_M_carryOut_37 rfl (lv_at hl 0 rfl) ?_
      refine lv_dup hx hb nD_M_carryOut_38 rfl ?_
      refine va_get (D := D) (ci := 5) (v := .int (σ48.1 6)) (C := nR_M) (T := nT_M) (N := 23) hx hb hw wu_M hown hK hP 0 yc_0 rfl 16 (by decide) (hw _ wm_439) (fun _ h9 => h9) rfl nD_M_carryOut_39 ?_
      refine lv_iconst (v := (1 : Int32)) hx hb nD_M_carryOut_42 (by decide) ?_
      refine lv_iadd hx hb nD_M_carryOut_43 ?_
      refine va_put (D := D) (ci := 5) (v := .int ((σ48.1 6) + (1 : Int32))) (ty := .int) (C := nR_M) (T := nT_M) (N := 23) hx hb hw wu_M nY_M nO_M nN_M hown hK hP hD hS 0 yc_0 rfl 16 (by decide) (hw _ wm_439) (fun _ h9 => h9) rfl (by decide +kernel) rfl rfl (Nat.le_of_ble_eq_true rfl) nD_M_carryOut_44 (fun H locs hP hD hS => ?_)
      obtain ⟨σ49, e_σ49⟩ : ∃ z : zS, z = zI σ48 6 ((σ48.1 6) + (1 : Int32)) := ⟨_, rfl⟩
      obtain ⟨hP, hD⟩ := znew (w := zM a tc) e_σ49 (yp_0_16) hP hD
      have h := h σ49 e_σ49
      clear e_σ49
      refine lv_iconst (v := (1 : Int32)) hx hb nD_M_carryOut_47 (by decide) ?_
      exact mw_i hx hb hr hlocks ⟨σ49, rfl, h⟩ hP hK hD hS nD_M_carryOut_48
    · have h := h.2 hc
      refine lv_iconst (v := (0 : Int32)) hx hb nD_M_carryOut_20 (by decide) ?_
      exact mw_i hx hb hr hlocks ⟨σ, rfl, h⟩ hP hK hD hS nD_M_carryOut_21
set_option maxHeartbeats 4000000 in
set_option maxRecDepth 100000 in
theorem wl_M_isListed_4 {l : Launch} {p : Program} {e : Env} {s : State} {m : MethodId} {args : Array Value} {below : List Frame} {meth : Method} {c : Code} {D : va_G} {tc : Nat → ClassId} {a : Nat → Nat} {w0 : va_W} (x1 : Int32) (post : Int32 → zS → Prop) (K : Int32 → Int32 → zS → Prop) (hx : p.tables.exec = Jvm.exec) (hb : c.code = nC_M_isListed) (hml : c.maxLocals = 4) (hr : meth.sig.returnType = (some .boolean)) (hown : s.vm.findClass nM_M_isListed.cls = some m.cls) (hlocks : meth.locks = false) (hw : ∀ w ∈ wA, w.before args s = true) (hn : mN s) (hK : va_K D nCl (ztM tc) s) (hA : ∀ q, s.heap.size ≤ q → va_A w0 s.heap.size q)
    (hk : ∀ (y2 : Int32) (y3 : Int32) (σ : zS) (H : Heap) (locs : List Loc) (ls : Array Slot), K y2 y3 σ → va_P D nCl (zM a tc σ) H → va_D (va_A w0 s.heap.size) (zM a tc σ) → va_S (va_A w0 s.heap.size) s.heap H locs → lv_has ls 4 [(0, .ref (a 0)), (1, .int x1), (2, .int y2), (3, .int y3)] → W p l e ({ frames := 0, cells := 0, slots := 0, locals := 0 } : Room) s m args below meth c H locs 0 0 (MQ below (va_Qi (zQi (zM a tc) post) (mQW D (ztM tc) w0 s.heap.size) (va_A w0 s.heap.size)) args s 0 0 (va_A w0 s.heap.size)) (F0 m 38 ls [])) : ∀ q : Int32 × Int32 × zS, zLP (b_M_isListed_4 x1 post K) q → ∀ (H : Heap) (locs : List Loc) (ls : Array Slot), va_P D nCl (zM a tc q.2.2) H → va_D (va_A w0 s.heap.size) (zM a tc q.2.2) → va_S (va_A w0 s.heap.size) s.heap H locs → lv_has ls 4 [(0, .ref (a 0)), (1, .int x1), (2, .int q.1), (3, .int q.2.1)] → W p l e ({ frames := 0, cells := 0, slots := 0, locals := 0 } : Room) s m args below meth c H locs 0 0 (MQ below (va_Qi (zQi (zM a tc) post) (mQW D (ztM tc) w0 s.heap.size) (va_A w0 s.heap.size)) args s 0 0 (va_A w0 s.heap.size)) (F0 m 4 ls []) := by
  refine zLP_walk ?_
  rintro R ⟨y2, y3, σ⟩ hR h H locs ls hP hD hS hl
  dsimp only at hP hD hl
  dsimp only [b_M_isListed_4] at h
  refine lv_iload_n hx hb nD_M_isListed_4 rfl (lv_at hl 3 rfl) ?_
  refine lv_aload_n hx hb nD_M_isListed_5 rfl (lv_at hl 0 rfl) ?_
  refine va_get (D := D) (ci := 5) (v := .int (σ.1 5)) (C := nR_M) (T := nT_M) (N := 23) hx hb hw wu_M hown hK hP 0 yc_0 rfl 12 (by decide) (hw _ wm_435) (fun _ h9 => h9) rfl nD_M_isListed_6 ?_
  refine lv_icmp_ge (tgt := 38) hx hb nD_M_isListed_9 (by decide) (fun hc => ?_) (fun hc => ?_)
  · have h := h.1 hc
    exact hk y2 y3 σ _ _ ls h hP hD hS hl
  · have h := h.2 hc
    refine lv_iload_n hx hb nD_M_isListed_12 rfl (lv_at hl 2 rfl) ?_
    refine lv_if_ne (tgt := 26) hx hb nD_M_isListed_13 (by decide) (fun hc => ?_) (fun hc => ?_)
    · have h := h.2 hc
      refine lv_iconst (v := (1 : Int32)) hx hb nD_M_isListed_26 (by decide) ?_
      refine lv_goto (tgt := 31) hx hb nD_M_isListed_27 (by decide) ?_
      refine lv_istore_n hx hb nD_M_isListed_31 rfl hl (by decide) rfl (fun ls hl => ?_)
      have hl : lv_has ls 4 [(2, .int (1 : Int32)), (0, .ref (a 0)), (1, .int x1), (3, .int y3)] := hl
      refine lv_iinc (k := 3) (v := y3 + 1) hx hb nD_M_isListed_32 hl rfl rfl (by decide) rfl (fun ls hl => ?_)
      have hl : lv_has ls 4 [(3, .int (y3 + 1)), (2, .int (1 : Int32)), (0, .ref (a 0)), (1, .int x1)] := hl
      refine lv_goto (tgt := 4) hx hb nD_M_isListed_35 (by decide) ?_
      have hl := lv_sub (l' := [(0, .ref (a 0)), (1, .int x1), (2, .int (1 : Int32)), (3, .int (y3 + 1))]) hl [2, 3, 1, 0] rfl
      exact hR _ h _ _ ls hP hD hS hl
    · have h := h.1 hc
      refine lv_aload_n hx hb nD_M_isListed_16 rfl (lv_at hl 0 rfl) ?_
      refine va_get (D := D) (ci := 5) (v := .ref (a 8)) (C := nR_M) (T := nT_M) (N := 23) hx hb hw wu_M hown hK hP 0 yc_0 rfl 13 (by decide) (hw _ wm_436) (fun _ h9 => h9) rfl nD_M_isListed_17 ?_
      refine lv_iload_n hx hb nD_M_isListed_20 rfl (lv_at hl 3 rfl) ?_
      obtain ⟨hi1, h⟩ := h
      refine va_iald (D := D) hx hb hK hP 8 7 yc_8 rfl hi1 nD_M_isListed_21 ?_
      refine lv_iload_n hx hb nD_M_isListed_22 rfl (lv_at hl 1 rfl) ?_
      refine lv_icmp_ne (tgt := 30) hx hb nD_M_isListed_23 (by decide) (fun hc => ?_) (fun hc => ?_)
      · have h := h.2 hc
        refine lv_iconst (v := (0 : Int32)) hx hb nD_M_isListed_30 (by decide) ?_
        refine lv_istore_n hx hb nD_M_isListed_31 rfl hl (by decide) rfl (fun ls hl => ?_)
        have hl : lv_has ls 4 [(2, .int (0 : Int32)), (0, .ref (a 0)), (1, .int x1), (3, .int y3)] := hl
        refine lv_iinc (k := 3) (v := y3 + 1) hx hb nD_M_isListed_32 hl rfl rfl (by decide) rfl (fun ls hl => ?_)
        have hl : lv_has ls 4 [(3, .int (y3 + 1)), (2, .int (0 : Int32)), (0, .ref (a 0)), (1, .int x1)] := hl
        refine lv_goto (tgt := 4) hx hb nD_M_isListed_35 (by decide) ?_
        have hl := lv_sub (l' := [(0, .ref (a 0)), (1, .int x1), (2, .int (0 : Int32)), (3, .int (y3 + 1))]) hl [2, 3, 1, 0] rfl
        exact hR _ h _ _ ls hP hD hS hl
      · have h := h.1 hc
        refine lv_iconst (v := (1 : Int32)) hx hb nD_M_isListed_26 (by decide) ?_
        refine lv_goto (tgt := 31) hx hb nD_M_isListed_27 (by decide) ?_
        refine lv_istore_n hx hb nD_M_isListed_31 rfl hl (by decide) rfl (fun ls hl => ?_)
        have hl : lv_has ls 4 [(2, .int (1 : Int32)), (0, .ref (a 0)), (1, .int x1), (3, .int y3)] := hl
        refine lv_iinc (k := 3) (v := y3 + 1) hx hb nD_M_isListed_32 hl rfl rfl (by decide) rfl (fun ls hl => ?_)
        have hl : lv_has ls 4 [(3, .int (y3 + 1)), (2, .int (1 : Int32)), (0, .ref (a 0)), (1, .int x1)] := hl
        refine lv_goto (tgt := 4) hx hb nD_M_isListed_35 (by decide) ?_
        have hl := lv_sub (l' := [(0, .ref (a 0)), (1, .int x1), (2, .int (1 : Int32)), (3, .int (y3 + 1))]) hl [2, 3, 1, 0] rfl
        exact hR _ h _ _ ls hP hD hS hl
set_option maxHeartbeats 4000000 in
set_option maxRecDepth 100000 in
theorem c_M_isListed (l : Launch) (D : va_G) (tc : Nat → ClassId) (a : Nat → Nat) (x1 : Int32) (σ : zS) (post : Int32 → zS → Prop) (h : j_M_isListed x1 σ post) : mWi l nM_M_isListed nC_M_isListed 4 (some .boolean) ({ frames := 0, cells := 0, slots := 0, locals := 0 } : Room) D (ztM tc) [.ref (a 0), .int x1] (zM a tc σ) (zQi (zM a tc) post) := by
  intro sz
  refine mt_W (by decide) (Nat.le_of_ble_eq_true rfl) ?_
  intro p e s m below meth c ls hx hb hml hr hown hlocks hin hw hn hP hK hD hS hA hl hsz
  subst hsz
  have hl : lv_has ls 4 [(0, .ref (a 0)), (1, .int x1)] := hl
  unfold j_M_isListed at h
  refine lv_iconst (v := (0 : Int32)) hx hb nD_M_isListed_0 (by decide) ?_
  refine lv_istore_n hx hb nD_M_isListed_1 rfl hl (by decide) rfl (fun ls hl => ?_)
  have hl : lv_has ls 4 [(2, .int (0 : Int32)), (0, .ref (a 0)), (1, .int x1)] := hl
  refine lv_iconst (v := (0 : Int32)) hx hb nD_M_isListed_2 (by decide) ?_
  refine lv_istore_n hx hb nD_M_isListed_3 rfl hl (by decide) rfl (fun ls hl => ?_)
  have hl : lv_has ls 4 [(3, .int (0 : Int32)), (2, .int (0 : Int32)), (0, .ref (a 0)), (1, .int x1)] := hl
  have hl := lv_sub (l' := [(0, .ref (a 0)), (1, .int x1), (2, .int (0 : Int32)), (3, .int (0 : Int32))]) hl [2, 3, 1, 0] rfl
  refine wl_M_isListed_4 (l := l) x1 post _ hx hb hml hr hown hlocks hw hn hK hA (fun v2 v3 σ4 H locs ls h hP hD hS hl => ?_) ((0 : Int32), (0 : Int32), σ) h _ _ ls hP hD hS hl
  refine lv_iload_n hx hb nD_M_isListed_38 rfl (lv_at hl 2 rfl) ?_
  exact mw_z hx hb hr hlocks h.1 ⟨σ4, rfl, h.2⟩ hP hK hD hS nD_M_isListed_39
set_option maxHeartbeats 4000000 in
set_option maxRecDepth 100000 in
theorem c_M_sizeOf (l : Launch) (D : va_G) (tc : Nat → ClassId) (a : Nat → Nat) (x1 : Int32) (σ : zS) (post : Int32 → zS → Prop) (h : j_M_sizeOf x1 σ post) : mWi l nM_M_sizeOf nC_M_sizeOf 2 (some .int) ({ frames := 0, cells := 0, slots := 0, locals := 0 } : Room) D (ztM tc) [.ref (a 0), .int x1] (zM a tc σ) (zQi (zM a tc) post) := by
  intro sz
  refine mt_W (by decide) (Nat.le_of_ble_eq_true rfl) ?_
  intro p e s m below meth c ls hx hb hml hr hown hlocks hin hw hn hP hK hD hS hA hl hsz
  subst hsz
  have hl : lv_has ls 2 [(0, .ref (a 0)), (1, .int x1)] := hl
  unfold j_M_sizeOf at h
  refine lv_aload_n hx hb nD_M_sizeOf_0 rfl (lv_at hl 0 rfl) ?_
  refine va_get (D := D) (ci := 5) (v := .ref (a 12)) (C := nR_M) (T := nT_M) (N := 23) hx hb hw wu_M hown hK hP 0 yc_0 rfl 20 (by decide) (hw _ wm_443) (fun _ h9 => h9) rfl nD_M_sizeOf_1 ?_
  refine lv_iload_n hx hb nD_M_sizeOf_4 rfl (lv_at hl 1 rfl) ?_
  obtain ⟨hi1, h⟩ := h
  refine va_lald (D := D) hx hb hK hP 12 11 yc_12 rfl hi1 nD_M_sizeOf_5 ?_
  refine lv_ldc2 (v := (15 : Int64)) hx hb hown (hw _ wm_563) nD_M_sizeOf_6 ?_
  refine lv_land hx hb nD_M_sizeOf_9 ?_
  refine lv_l2i (v := ((σ.2.2 0 x1.toNatClampNeg) &&& (15 : Int64)).toInt32) hx hb nD_M_sizeOf_10 rfl ?_
  exact mw_i hx hb hr hlocks ⟨σ, rfl, h⟩ hP hK hD hS nD_M_sizeOf_11
set_option maxHeartbeats 4000000 in
set_option maxRecDepth 100000 in
theorem wl_M_good_12 {l : Launch} {p : Program} {e : Env} {s : State} {m : MethodId} {args : Array Value} {below : List Frame} {meth : Method} {c : Code} {D : va_G} {tc : Nat → ClassId} {a : Nat → Nat} {w0 : va_W} (x1 : Int32) (post : Int32 → zS → Prop) (K : Int32 → zS → Prop) (hx : p.tables.exec = Jvm.exec) (hb : c.code = nC_M_good) (hml : c.maxLocals = 3) (hr : meth.sig.returnType = (some .boolean)) (hown : s.vm.findClass nM_M_good.cls = some m.cls) (hlocks : meth.locks = false) (hw : ∀ w ∈ wA, w.before args s = true) (hn : mN s) (hK : va_K D nCl (ztM tc) s) (hA : ∀ q, s.heap.size ≤ q → va_A w0 s.heap.size q)
    (hk : ∀ (y2 : Int32) (σ : zS) (H : Heap) (locs : List Loc) (ls : Array Slot), K y2 σ → va_P D nCl (zM a tc σ) H → va_D (va_A w0 s.heap.size) (zM a tc σ) → va_S (va_A w0 s.heap.size) s.heap H locs → lv_has ls 3 [(0, .ref (a 0)), (1, .int x1), (2, .int y2)] → W p l e ({ frames := 1, cells := 0, slots := 0, locals := 24 } : Room) s m args below meth c H locs 0 0 (MQ below (va_Qi (zQi (zM a tc) post) (mQW D (ztM tc) w0 s.heap.size) (va_A w0 s.heap.size)) args s 0 0 (va_A w0 s.heap.size)) (F0 m 65 ls [])) : ∀ q : Int32 × zS, zLP (b_M_good_12 x1 post K) q → ∀ (H : Heap) (locs : List Loc) (ls : Array Slot), va_P D nCl (zM a tc q.2) H → va_D (va_A w0 s.heap.size) (zM a tc q.2) → va_S (va_A w0 s.heap.size) s.heap H locs → lv_has ls 3 [(0, .ref (a 0)), (1, .int x1), (2, .int q.1)] → W p l e ({ frames := 1, cells := 0, slots := 0, locals := 24 } : Room) s m args below meth c H locs 0 0 (MQ below (va_Qi (zQi (zM a tc) post) (mQW D (ztM tc) w0 s.heap.size) (va_A w0 s.heap.size)) args s 0 0 (va_A w0 s.heap.size)) (F0 m 12 ls []) := by
  refine zLP_walk ?_
  rintro R ⟨y2, σ⟩ hR h H locs ls hP hD hS hl
  dsimp only at hP hD hl
  dsimp only [b_M_good_12] at h
  refine lv_iload_n hx hb nD_M_good_12 rfl (lv_at hl 2 rfl) ?_
  refine lv_iload_n hx hb nD_M_good_13 rfl (lv_at hl 1 rfl) ?_
  refine lv_icmp_ge (tgt := 65) hx hb nD_M_good_14 (by decide) (fun hc => ?_) (fun hc => ?_)
  · have h := h.1 hc
    exact hk y2 σ _ _ ls h hP hD hS hl
  · have h := h.2 hc
    refine lv_aload_n hx hb nD_M_good_17 rfl (lv_at hl 0 rfl) ?_
    refine va_get (D := D) (ci := 5) (v := .ref (a 7)) (C := nR_M) (T := nT_M) (N := 23) hx hb hw wu_M hown hK hP 0 yc_0 rfl 11 (by decide) (hw _ wm_434) (fun _ h9 => h9) rfl nD_M_good_18 ?_
    refine lv_aload_n hx hb nD_M_good_21 rfl (lv_at hl 0 rfl) ?_
    refine va_get (D := D) (ci := 5) (v := .ref (a 8)) (C := nR_M) (T := nT_M) (N := 23) hx hb hw wu_M hown hK hP 0 yc_0 rfl 13 (by decide) (hw _ wm_436) (fun _ h9 => h9) rfl nD_M_good_22 ?_
    refine lv_iload_n hx hb nD_M_good_25 rfl (lv_at hl 1 rfl) ?_
    obtain ⟨hi1, h⟩ := h
    refine va_iald (D := D) hx hb hK hP 8 7 yc_8 rfl hi1 nD_M_good_26 ?_
    obtain ⟨hi2, h⟩ := h
    refine va_iald (D := D) hx hb hK hP 7 6 yc_7 rfl hi2 nD_M_good_27 ?_
    refine lv_iconst (v := (1 : Int32)) hx hb nD_M_good_28 (by decide) ?_
    refine lv_icmp_ne (tgt := 59) hx hb nD_M_good_29 (by decide) (fun hc => ?_) (fun hc => ?_)
    · have h := h.2 hc
      refine lv_iinc (k := 2) (v := y2 + 1) hx hb nD_M_good_59 hl rfl rfl (by decide) rfl (fun ls hl => ?_)
      have hl : lv_has ls 3 [(2, .int (y2 + 1)), (0, .ref (a 0)), (1, .int x1)] := hl
      refine lv_goto (tgt := 12) hx hb nD_M_good_62 (by decide) ?_
      have hl := lv_sub (l' := [(0, .ref (a 0)), (1, .int x1), (2, .int (y2 + 1))]) hl [1, 2, 0] rfl
      exact hR _ h _ _ ls hP hD hS hl
    · have h := h.1 hc
      refine lv_aload_n hx hb nD_M_good_32 rfl (lv_at hl 0 rfl) ?_
      refine va_get (D := D) (ci := 5) (v := .ref (a 5)) (C := nR_M) (T := nT_M) (N := 23) hx hb hw wu_M hown hK hP 0 yc_0 rfl 9 (by decide) (hw _ wm_432) (fun _ h9 => h9) rfl nD_M_good_33 ?_
      refine lv_aload_n hx hb nD_M_good_36 rfl (lv_at hl 0 rfl) ?_
      refine va_get (D := D) (ci := 5) (v := .ref (a 8)) (C := nR_M) (T := nT_M) (N := 23) hx hb hw wu_M hown hK hP 0 yc_0 rfl 13 (by decide) (hw _ wm_436) (fun _ h9 => h9) rfl nD_M_good_37 ?_
      refine lv_iload_n hx hb nD_M_good_40 rfl (lv_at hl 1 rfl) ?_
      obtain ⟨hi3, h⟩ := h
      refine va_iald (D := D) hx hb hK hP 8 7 yc_8 rfl hi3 nD_M_good_41 ?_
      obtain ⟨hi4, h⟩ := h
      refine va_iald (D := D) hx hb hK hP 5 4 yc_5 rfl hi4 nD_M_good_42 ?_
      refine lv_aload_n hx hb nD_M_good_43 rfl (lv_at hl 0 rfl) ?_
      refine va_get (D := D) (ci := 5) (v := .ref (a 4)) (C := nR_M) (T := nT_M) (N := 23) hx hb hw wu_M hown hK hP 0 yc_0 rfl 8 (by decide) (hw _ wm_431) (fun _ h9 => h9) rfl nD_M_good_44 ?_
      refine lv_aload_n hx hb nD_M_good_47 rfl (lv_at hl 0 rfl) ?_
      refine va_get (D := D) (ci := 5) (v := .ref (a 8)) (C := nR_M) (T := nT_M) (N := 23) hx hb hw wu_M hown hK hP 0 yc_0 rfl 13 (by decide) (hw _ wm_436) (fun _ h9 => h9) rfl nD_M_good_48 ?_
      refine lv_iload_n hx hb nD_M_good_51 rfl (lv_at hl 2 rfl) ?_
      obtain ⟨hi5, h⟩ := h
      refine va_iald (D := D) hx hb hK hP 8 7 yc_8 rfl hi5 nD_M_good_52 ?_
      obtain ⟨hi6, h⟩ := h
      refine va_iald (D := D) hx hb hK hP 4 3 yc_4 rfl hi6 nD_M_good_53 ?_
      refine lv_icmp_ge (tgt := 59) hx hb nD_M_good_54 (by decide) (fun hc => ?_) (fun hc => ?_)
      · have h := h.1 hc
        refine lv_iinc (k := 2) (v := y2 + 1) hx hb nD_M_good_59 hl rfl rfl (by decide) rfl (fun ls hl => ?_)
        have hl : lv_has ls 3 [(2, .int (y2 + 1)), (0, .ref (a 0)), (1, .int x1)] := hl
        refine lv_goto (tgt := 12) hx hb nD_M_good_62 (by decide) ?_
        have hl := lv_sub (l' := [(0, .ref (a 0)), (1, .int x1), (2, .int (y2 + 1))]) hl [1, 2, 0] rfl
        exact hR _ h _ _ ls hP hD hS hl
      · have h := h.2 hc
        refine lv_iconst (v := (0 : Int32)) hx hb nD_M_good_57 (by decide) ?_
        exact mw_z hx hb hr hlocks rfl ⟨σ, rfl, h⟩ hP hK hD hS nD_M_good_58
set_option maxHeartbeats 4000000 in
set_option maxRecDepth 100000 in
theorem wl_M_good_2 {l : Launch} {p : Program} {e : Env} {s : State} {m : MethodId} {args : Array Value} {below : List Frame} {meth : Method} {c : Code} {D : va_G} {tc : Nat → ClassId} {a : Nat → Nat} {w0 : va_W} (post : Int32 → zS → Prop) (K : Int32 → zS → Prop) (hx : p.tables.exec = Jvm.exec) (hb : c.code = nC_M_good) (hml : c.maxLocals = 3) (hr : meth.sig.returnType = (some .boolean)) (hown : s.vm.findClass nM_M_good.cls = some m.cls) (hlocks : meth.locks = false) (hw : ∀ w ∈ wA, w.before args s = true) (hn : mN s) (hK : va_K D nCl (ztM tc) s) (hA : ∀ q, s.heap.size ≤ q → va_A w0 s.heap.size q)
    (hk : ∀ (y1 : Int32) (σ : zS) (H : Heap) (locs : List Loc) (ls : Array Slot), K y1 σ → va_P D nCl (zM a tc σ) H → va_D (va_A w0 s.heap.size) (zM a tc σ) → va_S (va_A w0 s.heap.size) s.heap H locs → lv_has ls 3 [(0, .ref (a 0)), (1, .int y1)] → W p l e ({ frames := 1, cells := 0, slots := 0, locals := 24 } : Room) s m args below meth c H locs 0 0 (MQ below (va_Qi (zQi (zM a tc) post) (mQW D (ztM tc) w0 s.heap.size) (va_A w0 s.heap.size)) args s 0 0 (va_A w0 s.heap.size)) (F0 m 71 ls [])) : ∀ q : Int32 × zS, zLP (b_M_good_2 post K) q → ∀ (H : Heap) (locs : List Loc) (ls : Array Slot), va_P D nCl (zM a tc q.2) H → va_D (va_A w0 s.heap.size) (zM a tc q.2) → va_S (va_A w0 s.heap.size) s.heap H locs → lv_has ls 3 [(0, .ref (a 0)), (1, .int q.1)] → W p l e ({ frames := 1, cells := 0, slots := 0, locals := 24 } : Room) s m args below meth c H locs 0 0 (MQ below (va_Qi (zQi (zM a tc) post) (mQW D (ztM tc) w0 s.heap.size) (va_A w0 s.heap.size)) args s 0 0 (va_A w0 s.heap.size)) (F0 m 2 ls []) := by
  refine zLP_walk ?_
  rintro R ⟨y1, σ⟩ hR h H locs ls hP hD hS hl
  dsimp only at hP hD hl
  dsimp only [b_M_good_2] at h
  refine lv_iload_n hx hb nD_M_good_2 rfl (lv_at hl 1 rfl) ?_
  refine lv_aload_n hx hb nD_M_good_3 rfl (lv_at hl 0 rfl) ?_
  refine va_get (D := D) (ci := 5) (v := .int (σ.1 5)) (C := nR_M) (T := nT_M) (N := 23) hx hb hw wu_M hown hK hP 0 yc_0 rfl 12 (by decide) (hw _ wm_435) (fun _ h9 => h9) rfl nD_M_good_4 ?_
  refine lv_icmp_ge (tgt := 71) hx hb nD_M_good_7 (by decide) (fun hc => ?_) (fun hc => ?_)
  · have h := h.1 hc
    exact hk y1 σ _ _ ls h hP hD hS hl
  · have h := h.2 hc
    refine lv_iconst (v := (0 : Int32)) hx hb nD_M_good_10 (by decide) ?_
    refine lv_istore_n hx hb nD_M_good_11 rfl hl (by decide) rfl (fun ls hl => ?_)
    have hl : lv_has ls 3 [(2, .int (0 : Int32)), (0, .ref (a 0)), (1, .int y1)] := hl
    have hl := lv_sub (l' := [(0, .ref (a 0)), (1, .int y1), (2, .int (0 : Int32))]) hl [1, 2, 0] rfl
    refine wl_M_good_12 (l := l) y1 post _ hx hb hml hr hown hlocks hw hn hK hA (fun v7 σ8 H locs ls h hP hD hS hl => ?_) ((0 : Int32), σ) h _ _ ls hP hD hS hl
    refine lv_iinc (k := 1) (v := y1 + 1) hx hb nD_M_good_65 hl rfl rfl (by decide) rfl (fun ls hl => ?_)
    have hl : lv_has ls 3 [(1, .int (y1 + 1)), (0, .ref (a 0)), (2, .int v7)] := hl
    refine lv_goto (tgt := 2) hx hb nD_M_good_68 (by decide) ?_
    have hl := lv_sub (l' := [(0, .ref (a 0)), (1, .int (y1 + 1))]) hl [1, 0] rfl
    exact hR _ h _ _ ls hP hD hS hl
set_option maxHeartbeats 4000000 in
set_option maxRecDepth 100000 in
theorem wl_M_good_78 {l : Launch} {p : Program} {e : Env} {s : State} {m : MethodId} {args : Array Value} {below : List Frame} {meth : Method} {c : Code} {D : va_G} {tc : Nat → ClassId} {a : Nat → Nat} {w0 : va_W} (post : Int32 → zS → Prop) (K : Int32 → zS → Prop) (hx : p.tables.exec = Jvm.exec) (hb : c.code = nC_M_good) (hml : c.maxLocals = 3) (hr : meth.sig.returnType = (some .boolean)) (hown : s.vm.findClass nM_M_good.cls = some m.cls) (hlocks : meth.locks = false) (hw : ∀ w ∈ wA, w.before args s = true) (hn : mN s) (hK : va_K D nCl (ztM tc) s) (hA : ∀ q, s.heap.size ≤ q → va_A w0 s.heap.size q)
    (hk : ∀ (y1 : Int32) (σ : zS) (H : Heap) (locs : List Loc) (ls : Array Slot), K y1 σ → va_P D nCl (zM a tc σ) H → va_D (va_A w0 s.heap.size) (zM a tc σ) → va_S (va_A w0 s.heap.size) s.heap H locs → lv_has ls 3 [(0, .ref (a 0)), (1, .int y1)] → W p l e ({ frames := 1, cells := 0, slots := 0, locals := 24 } : Room) s m args below meth c H locs 0 0 (MQ below (va_Qi (zQi (zM a tc) post) (mQW D (ztM tc) w0 s.heap.size) (va_A w0 s.heap.size)) args s 0 0 (va_A w0 s.heap.size)) (F0 m 137 ls [])) : ∀ q : Int32 × zS, zLP (b_M_good_78 post K) q → ∀ (H : Heap) (locs : List Loc) (ls : Array Slot), va_P D nCl (zM a tc q.2) H → va_D (va_A w0 s.heap.size) (zM a tc q.2) → va_S (va_A w0 s.heap.size) s.heap H locs → lv_has ls 3 [(0, .ref (a 0)), (1, .int q.1)] → W p l e ({ frames := 1, cells := 0, slots := 0, locals := 24 } : Room) s m args below meth c H locs 0 0 (MQ below (va_Qi (zQi (zM a tc) post) (mQW D (ztM tc) w0 s.heap.size) (va_A w0 s.heap.size)) args s 0 0 (va_A w0 s.heap.size)) (F0 m 78 ls []) := by
  refine zLP_walk ?_
  rintro R ⟨y1, σ⟩ hR h H locs ls hP hD hS hl
  dsimp only at hP hD hl
  dsimp only [b_M_good_78] at h
  refine lv_iload_n hx hb nD_M_good_78 rfl (lv_at hl 1 rfl) ?_
  refine lv_aload_n hx hb nD_M_good_79 rfl (lv_at hl 0 rfl) ?_
  refine va_get (D := D) (ci := 5) (v := .int (σ.1 5)) (C := nR_M) (T := nT_M) (N := 23) hx hb hw wu_M hown hK hP 0 yc_0 rfl 12 (by decide) (hw _ wm_435) (fun _ h9 => h9) rfl nD_M_good_80 ?_
  refine lv_icmp_ge (tgt := 137) hx hb nD_M_good_83 (by decide) (fun hc => ?_) (fun hc => ?_)
  · have h := h.1 hc
    exact hk y1 σ _ _ ls h hP hD hS hl
  · have h := h.2 hc
    refine lv_aload_n hx hb nD_M_good_86 rfl (lv_at hl 0 rfl) ?_
    refine va_get (D := D) (ci := 5) (v := .ref (a 8)) (C := nR_M) (T := nT_M) (N := 23) hx hb hw wu_M hown hK hP 0 yc_0 rfl 13 (by decide) (hw _ wm_436) (fun _ h9 => h9) rfl nD_M_good_87 ?_
    refine lv_iload_n hx hb nD_M_good_90 rfl (lv_at hl 1 rfl) ?_
    obtain ⟨hi12, h⟩ := h
    refine va_iald (D := D) hx hb hK hP 8 7 yc_8 rfl hi12 nD_M_good_91 ?_
    refine lv_topi (fun v13 e_v13 => ?_)
    have h := h v13 e_v13
    clear e_v13
    refine lv_istore_n hx hb nD_M_good_92 rfl hl (by decide) rfl (fun ls hl => ?_)
    have hl : lv_has ls 3 [(2, .int v13), (0, .ref (a 0)), (1, .int y1)] := hl
    refine lv_aload_n hx hb nD_M_good_93 rfl (lv_at hl 1 rfl) ?_
    refine va_get (D := D) (ci := 5) (v := .ref (a 9)) (C := nR_M) (T := nT_M) (N := 23) hx hb hw wu_M hown hK hP 0 yc_0 rfl 14 (by decide) (hw _ wm_437) (fun _ h9 => h9) rfl nD_M_good_94 ?_
    refine lv_iload_n hx hb nD_M_good_97 rfl (lv_at hl 0 rfl) ?_
    refine lv_aload_n hx hb nD_M_good_98 rfl (lv_at hl 1 rfl) ?_
    refine lv_iload_n hx hb nD_M_good_99 rfl (lv_at hl 0 rfl) ?_
    refine zC_i (va_runV (As := [.int v13]) (rest := [.int v13, .ref (a 9)]) ⟨hx, hb, hml, hown, hw⟩ (c_M_carryOut l D tc a v13 σ _ h _) (mcV 1 hw wm_422 wm_419 wm_421 wm_18 wm_33 rfl rfl nh_M_carryOut ⟨Nat.le_of_ble_eq_true rfl, Nat.le_of_ble_eq_true rfl⟩) (zp_V (ci := 5) hP hD hK hn rfl yc_0) rfl rfl hl.1 rfl (lv_room (Nat.le_of_ble_eq_true rfl)) nD_M_good_100 ⟨Nat.zero_le _, Nat.zero_le _⟩) hD hS hA (fun r15 σ14 H locs h hP hD hS => ?_)
    obtain ⟨hi16, h⟩ := h
    refine va_iast (D := D) hx hb hK hP hD hS 9 8 yc_9 rfl hi16 nD_M_good_103 (fun H locs hP hD hS => ?_)
    obtain ⟨σ17, e_σ17⟩ : ∃ z : zS, z = zA σ14 8 v13.toNatClampNeg r15 := ⟨_, rfl⟩
    obtain ⟨hP, hD⟩ := znew (w := zM a tc) e_σ17 (ya_9) hP hD
    have h := h σ17 e_σ17
    clear e_σ17
    refine lv_aload_n hx hb nD_M_good_104 rfl (lv_at hl 1 rfl) ?_
    refine va_get (D := D) (ci := 5) (v := .ref (a 7)) (C := nR_M) (T := nT_M) (N := 23) hx hb hw wu_M hown hK hP 0 yc_0 rfl 11 (by decide) (hw _ wm_434) (fun _ h9 => h9) rfl nD_M_good_105 ?_
    refine lv_iload_n hx hb nD_M_good_108 rfl (lv_at hl 0 rfl) ?_
    obtain ⟨hi18, h⟩ := h
    refine va_iald (D := D) hx hb hK hP 7 6 yc_7 rfl hi18 nD_M_good_109 ?_
    refine lv_iconst (v := (1 : Int32)) hx hb nD_M_good_110 (by decide) ?_
    refine lv_icmp_ne (tgt := 131) hx hb nD_M_good_111 (by decide) (fun hc => ?_) (fun hc => ?_)
    · have h := h.2 hc
      refine lv_iinc (k := 2) (v := y1 + 1) hx hb nD_M_good_131 hl rfl rfl (by decide) rfl (fun ls hl => ?_)
      have hl : lv_has ls 3 [(1, .int (y1 + 1)), (2, .int v13), (0, .ref (a 0))] := hl
      refine lv_goto (tgt := 78) hx hb nD_M_good_134 (by decide) ?_
      have hl := lv_sub (l' := [(0, .ref (a 0)), (1, .int (y1 + 1))]) hl [2, 0] rfl
      exact hR _ h _ _ ls hP hD hS hl
    · have h := h.1 hc
      refine lv_aload_n hx hb nD_M_good_114 rfl (lv_at hl 1 rfl) ?_
      refine va_get (D := D) (ci := 5) (v := .ref (a 9)) (C := nR_M) (T := nT_M) (N := 23) hx hb hw wu_M hown hK hP 0 yc_0 rfl 14 (by decide) (hw _ wm_437) (fun _ h9 => h9) rfl nD_M_good_115 ?_
      refine lv_iload_n hx hb nD_M_good_118 rfl (lv_at hl 0 rfl) ?_
      obtain ⟨hi19, h⟩ := h
      refine va_iald (D := D) hx hb hK hP 9 8 yc_9 rfl hi19 nD_M_good_119 ?_
      refine lv_aload_n hx hb nD_M_good_120 rfl (lv_at hl 1 rfl) ?_
      refine va_get (D := D) (ci := 5) (v := .ref (a 6)) (C := nR_M) (T := nT_M) (N := 23) hx hb hw wu_M hown hK hP 0 yc_0 rfl 10 (by decide) (hw _ wm_433) (fun _ h9 => h9) rfl nD_M_good_121 ?_
      refine lv_iload_n hx hb nD_M_good_124 rfl (lv_at hl 0 rfl) ?_
      obtain ⟨hi20, h⟩ := h
      refine va_iald (D := D) hx hb hK hP 6 5 yc_6 rfl hi20 nD_M_good_125 ?_
      refine lv_icmp_eq (tgt := 131) hx hb nD_M_good_126 (by decide) (fun hc => ?_) (fun hc => ?_)
      · have h := h.1 hc
        refine lv_iinc (k := 2) (v := y1 + 1) hx hb nD_M_good_131 hl rfl rfl (by decide) rfl (fun ls hl => ?_)
        have hl : lv_has ls 3 [(1, .int (y1 + 1)), (2, .int v13), (0, .ref (a 0))] := hl
        refine lv_goto (tgt := 78) hx hb nD_M_good_134 (by decide) ?_
        have hl := lv_sub (l' := [(0, .ref (a 0)), (1, .int (y1 + 1))]) hl [2, 0] rfl
        exact hR _ h _ _ ls hP hD hS hl
      · have h := h.2 hc
        refine lv_iconst (v := (0 : Int32)) hx hb nD_M_good_129 (by decide) ?_
        exact mw_z hx hb hr hlocks rfl ⟨σ17, rfl, h⟩ hP hK hD hS nD_M_good_130
set_option maxHeartbeats 4000000 in
set_option maxRecDepth 100000 in
theorem c_M_good (l : Launch) (D : va_G) (tc : Nat → ClassId) (a : Nat → Nat) (σ : zS) (post : Int32 → zS → Prop) (h : j_M_good  σ post) : mWi l nM_M_good nC_M_good 3 (some .boolean) ({ frames := 1, cells := 0, slots := 0, locals := 24 } : Room) D (ztM tc) [.ref (a 0)] (zM a tc σ) (zQi (zM a tc) post) := by
  intro sz
  refine mt_W (by decide) (Nat.le_of_ble_eq_true rfl) ?_
  intro p e s m below meth c ls hx hb hml hr hown hlocks hin hw hn hP hK hD hS hA hl hsz
  subst hsz
  have hl : lv_has ls 3 [(0, .ref (a 0))] := hl
  unfold j_M_good at h
  refine lv_iconst (v := (1 : Int32)) hx hb nD_M_good_0 (by decide) ?_
  refine lv_istore_n hx hb nD_M_good_1 rfl hl (by decide) rfl (fun ls hl => ?_)
  have hl : lv_has ls 3 [(1, .int (1 : Int32)), (0, .ref (a 0))] := hl
  have hl := lv_sub (l' := [(0, .ref (a 0)), (1, .int (1 : Int32))]) hl [1, 0] rfl
  refine wl_M_good_2 (l := l) post _ hx hb hml hr hown hlocks hw hn hK hA (fun v9 σ10 H locs ls h hP hD hS hl => ?_) ((1 : Int32), σ) h _ _ ls hP hD hS hl
  refine lv_aload_n hx hb nD_M_good_71 rfl (lv_at hl 0 rfl) ?_
  refine lv_iconst (v := (0 : Int32)) hx hb nD_M_good_72 (by decide) ?_
  refine va_put (D := D) (ci := 5) (v := .int (0 : Int32)) (ty := .int) (C := nR_M) (T := nT_M) (N := 23) hx hb hw wu_M nY_M nO_M nN_M hown hK hP hD hS 0 yc_0 rfl 16 (by decide) (hw _ wm_439) (fun _ h9 => h9) rfl (by decide +kernel) rfl rfl (Nat.le_of_ble_eq_true rfl) nD_M_good_73 (fun H locs hP hD hS => ?_)
  obtain ⟨σ11, e_σ11⟩ : ∃ z : zS, z = zI σ10 6 (0 : Int32) := ⟨_, rfl⟩
  obtain ⟨hP, hD⟩ := znew (w := zM a tc) e_σ11 (yp_0_16) hP hD
  have h := h σ11 e_σ11
  clear e_σ11
  refine lv_iconst (v := (0 : Int32)) hx hb nD_M_good_76 (by decide) ?_
  refine lv_istore_n hx hb nD_M_good_77 rfl hl (by decide) rfl (fun ls hl => ?_)
  have hl : lv_has ls 3 [(1, .int (0 : Int32)), (0, .ref (a 0))] := hl
  have hl := lv_sub (l' := [(0, .ref (a 0)), (1, .int (0 : Int32))]) hl [1, 0] rfl
  refine wl_M_good_78 (l := l) post _ hx hb hml hr hown hlocks hw hn hK hA (fun v21 σ22 H locs ls h hP hD hS hl => ?_) ((0 : Int32), σ11) h _ _ ls hP hD hS hl
  refine lv_iconst (v := (1 : Int32)) hx hb nD_M_good_137 (by decide) ?_
  exact mw_z hx hb hr hlocks rfl ⟨σ22, rfl, h⟩ hP hK hD hS nD_M_good_138
