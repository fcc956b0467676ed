set_option maxHeartbeats 4000000 in
set_option maxRecDepth 100000 in
theorem wl_M_note_2 {l : Launch} {p : Program} {e : Env} {s : State} {m : MethodId} {args : Array Value} {below : List Frame} {meth : Method} {c : Code} {D : va_G} {tc : Nat → ClassId} {a : Nat → Nat} {w0 : va_W} (post : zS → Prop) (K : Int32 → zS → Prop) (hx : p.tables.exec = Jvm.exec) (hb : c.code = nC_M_note) (hml : c.maxLocals = 6) (hr : meth.sig.returnType = none) (hown : s.vm.findClass nM_M_note.cls = some m.cls) (hlocks : meth.locks = false) (hw : ∀ w ∈ wA, w.before args s = true) (hn : mN s) (hK : va_K D nCl (ztM tc) s) (hA : ∀ q, s.heap.size ≤ q → va_A w0 s.heap.size q)
    (hk : ∀ (y1 : Int32) (σ : zS) (H : Heap) (locs : List Loc) (ls : Array Slot), K y1 σ → va_P D nCl (zM a tc σ) H → va_D (va_A w0 s.heap.size) (zM a tc σ) → va_S (va_A w0 s.heap.size) s.heap H locs → lv_has ls 6 [(0, .ref (a 0)), (1, .int y1)] → W p l e ({ frames := 1, cells := 0, slots := 0, locals := 23 } : Room) s m args below meth c H locs 0 0 (MQ below (va_Qv (zQv (zM a tc) post) (mQW D (ztM tc) w0 s.heap.size) (va_A w0 s.heap.size)) args s 0 0 (va_A w0 s.heap.size)) (F0 m 35 ls [])) : ∀ q : Int32 × zS, zLP (b_M_note_2 post K) q → ∀ (H : Heap) (locs : List Loc) (ls : Array Slot), va_P D nCl (zM a tc q.2) H → va_D (va_A w0 s.heap.size) (zM a tc q.2) → va_S (va_A w0 s.heap.size) s.heap H locs → lv_has ls 6 [(0, .ref (a 0)), (1, .int q.1)] → W p l e ({ frames := 1, cells := 0, slots := 0, locals := 23 } : Room) s m args below meth c H locs 0 0 (MQ below (va_Qv (zQv (zM a tc) post) (mQW D (ztM tc) w0 s.heap.size) (va_A w0 s.heap.size)) args s 0 0 (va_A w0 s.heap.size)) (F0 m 2 ls []) := by
  refine zLP_walk ?_
  rintro R ⟨y1, σ⟩ hR h H locs ls hP hD hS hl
  dsimp only at hP hD hl
  dsimp only [b_M_note_2] at h
  refine lv_iload_n hx hb nD_M_note_2 rfl (lv_at hl 1 rfl) ?_
  refine lv_aload_n hx hb nD_M_note_3 rfl (lv_at hl 0 rfl) ?_
  refine va_get (D := D) (ci := 5) (v := .int (σ.1 4)) (C := nR_M) (T := nT_M) (N := 23) hx hb hw wu_M hown hK hP 0 yc_0 rfl 4 (by decide) (hw _ wm_427) (fun _ h9 => h9) rfl nD_M_note_4 ?_
  refine lv_icmp_ge (tgt := 35) hx hb nD_M_note_7 (by decide) (fun hc => ?_) (fun hc => ?_)
  · have h := h.1 hc
    exact hk y1 σ _ _ ls h hP hD hS hl
  · have h := h.2 hc
    refine lv_aload_n hx hb nD_M_note_10 rfl (lv_at hl 0 rfl) ?_
    refine va_get (D := D) (ci := 5) (v := .ref (a 7)) (C := nR_M) (T := nT_M) (N := 23) hx hb hw wu_M hown hK hP 0 yc_0 rfl 11 (by decide) (hw _ wm_434) (fun _ h9 => h9) rfl nD_M_note_11 ?_
    refine lv_iload_n hx hb nD_M_note_14 rfl (lv_at hl 1 rfl) ?_
    obtain ⟨hi1, h⟩ := h
    refine va_iald (D := D) hx hb hK hP 7 6 yc_7 rfl hi1 nD_M_note_15 ?_
    refine lv_iconst (v := (1 : Int32)) hx hb nD_M_note_16 (by decide) ?_
    refine lv_icmp_ne (tgt := 29) hx hb nD_M_note_17 (by decide) (fun hc => ?_) (fun hc => ?_)
    · have h := h.2 hc
      refine lv_iinc (k := 1) (v := y1 + 1) hx hb nD_M_note_29 hl rfl rfl (by decide) rfl (fun ls hl => ?_)
      have hl : lv_has ls 6 [(1, .int (y1 + 1)), (0, .ref (a 0))] := hl
      refine lv_goto (tgt := 2) hx hb nD_M_note_32 (by decide) ?_
      have hl := lv_sub (l' := [(0, .ref (a 0)), (1, .int (y1 + 1))]) hl [1, 0] rfl
      exact hR _ h _ _ ls hP hD hS hl
    · have h := h.1 hc
      refine lv_aload_n hx hb nD_M_note_20 rfl (lv_at hl 0 rfl) ?_
      refine lv_iload_n hx hb nD_M_note_21 rfl (lv_at hl 1 rfl) ?_
      refine zC_i (va_runV (As := [.int y1]) (rest := []) ⟨hx, hb, hml, hown, hw⟩ (c_M_isListed l D tc a y1 σ _ h _) (mcV 1 hw wm_409 wm_406 wm_408 wm_15 wm_33 rfl rfl nh_M_isListed ⟨Nat.le_of_ble_eq_true rfl, Nat.le_of_ble_eq_true rfl⟩) (zp_V (ci := 5) hP hD hK hn rfl yc_0) rfl rfl hl.1 rfl (lv_room (Nat.le_of_ble_eq_true rfl)) nD_M_note_22 ⟨Nat.zero_le _, Nat.zero_le _⟩) hD hS hA (fun r3 σ2 H locs h hP hD hS => ?_)
      refine lv_if_ne (tgt := 29) hx hb nD_M_note_25 (by decide) (fun hc => ?_) (fun hc => ?_)
      · have h := h.2 hc
        refine lv_iinc (k := 1) (v := y1 + 1) hx hb nD_M_note_29 hl rfl rfl (by decide) rfl (fun ls hl => ?_)
        have hl : lv_has ls 6 [(1, .int (y1 + 1)), (0, .ref (a 0))] := hl
        refine lv_goto (tgt := 2) hx hb nD_M_note_32 (by decide) ?_
        have hl := lv_sub (l' := [(0, .ref (a 0)), (1, .int (y1 + 1))]) hl [1, 0] rfl
        exact hR _ h _ _ ls hP hD hS hl
      · have h := h.1 hc
        exact mw_v hx hb hr hlocks ⟨σ2, rfl, h⟩ hP hK hD hS nD_M_note_28
set_option maxHeartbeats 4000000 in
set_option maxRecDepth 100000 in
theorem wl_M_note_53 {l : Launch} {p : Program} {e : Env} {s : State} {m : MethodId} {args : Array Value} {below : List Frame} {meth : Method} {c : Code} {D : va_G} {tc : Nat → ClassId} {a : Nat → Nat} {w0 : va_W} (post : zS → Prop) (K : Int64 → Int32 → zS → Prop) (hx : p.tables.exec = Jvm.exec) (hb : c.code = nC_M_note) (hml : c.maxLocals = 6) (hr : meth.sig.returnType = none) (hown : s.vm.findClass nM_M_note.cls = some m.cls) (hlocks : meth.locks = false) (hw : ∀ w ∈ wA, w.before args s = true) (hn : mN s) (hK : va_K D nCl (ztM tc) s) (hA : ∀ q, s.heap.size ≤ q → va_A w0 s.heap.size q)
    (hk : ∀ (y1 : Int64) (y3 : Int32) (σ : zS) (H : Heap) (locs : List Loc) (ls : Array Slot), K y1 y3 σ → va_P D nCl (zM a tc σ) H → va_D (va_A w0 s.heap.size) (zM a tc σ) → va_S (va_A w0 s.heap.size) s.heap H locs → lv_has ls 6 [(0, .ref (a 0)), (1, .long y1), (3, .int y3)] → W p l e ({ frames := 1, cells := 0, slots := 0, locals := 23 } : Room) s m args below meth c H locs 0 0 (MQ below (va_Qv (zQv (zM a tc) post) (mQW D (ztM tc) w0 s.heap.size) (va_A w0 s.heap.size)) args s 0 0 (va_A w0 s.heap.size)) (F0 m 83 ls [])) : ∀ q : Int64 × Int32 × zS, zLP (b_M_note_53 post K) q → ∀ (H : Heap) (locs : List Loc) (ls : Array Slot), va_P D nCl (zM a tc q.2.2) H → va_D (va_A w0 s.heap.size) (zM a tc q.2.2) → va_S (va_A w0 s.heap.size) s.heap H locs → lv_has ls 6 [(0, .ref (a 0)), (1, .long q.1), (3, .int q.2.1)] → W p l e ({ frames := 1, cells := 0, slots := 0, locals := 23 } : Room) s m args below meth c H locs 0 0 (MQ below (va_Qv (zQv (zM a tc) post) (mQW D (ztM tc) w0 s.heap.size) (va_A w0 s.heap.size)) args s 0 0 (va_A w0 s.heap.size)) (F0 m 53 ls []) := by
  refine zLP_walk ?_
  rintro R ⟨y1, y3, σ⟩ hR h H locs ls hP hD hS hl
  dsimp only at hP hD hl
  dsimp only [b_M_note_53] at h
  refine lv_iload_n hx hb nD_M_note_53 rfl (lv_at hl 2 rfl) ?_
  refine lv_aload_n hx hb nD_M_note_54 rfl (lv_at hl 0 rfl) ?_
  refine va_get (D := D) (ci := 5) (v := .int (σ.1 6)) (C := nR_M) (T := nT_M) (N := 23) hx hb hw wu_M hown hK hP 0 yc_0 rfl 16 (by decide) (hw _ wm_439) (fun _ h9 => h9) rfl nD_M_note_55 ?_
  refine lv_icmp_ge (tgt := 83) hx hb nD_M_note_58 (by decide) (fun hc => ?_) (fun hc => ?_)
  · have h := h.1 hc
    exact hk y1 y3 σ _ _ ls h hP hD hS hl
  · have h := h.2 hc
    refine lv_lload_n hx hb nD_M_note_61 rfl (lv_at hl 1 rfl) ?_
    refine lv_aload_n hx hb nD_M_note_62 rfl (lv_at hl 0 rfl) ?_
    refine va_get (D := D) (ci := 5) (v := .ref (a 11)) (C := nR_M) (T := nT_M) (N := 23) hx hb hw wu_M hown hK hP 0 yc_0 rfl 17 (by decide) (hw _ wm_440) (fun _ h9 => h9) rfl nD_M_note_63 ?_
    refine lv_iload_n hx hb nD_M_note_66 rfl (lv_at hl 2 rfl) ?_
    obtain ⟨hi8, h⟩ := h
    refine va_iald (D := D) hx hb hK hP 11 10 yc_11 rfl hi8 nD_M_note_67 ?_
    refine lv_i2l (v := (σ.2.1 10 y3.toNatClampNeg).toInt64) hx hb nD_M_note_68 rfl ?_
    refine lv_iconst (v := (4 : Int32)) hx hb nD_M_note_69 (by decide) ?_
    refine lv_iconst (v := (4 : Int32)) hx hb nD_M_note_70 (by decide) ?_
    refine lv_iload_n hx hb nD_M_note_71 rfl (lv_at hl 2 rfl) ?_
    refine lv_imul hx hb nD_M_note_72 ?_
    refine lv_iadd hx hb nD_M_note_73 ?_
    refine lv_lshl (v := ((σ.2.1 10 y3.toNatClampNeg).toInt64) <<< (((4 : Int32) + ((4 : Int32) * y3)).toInt64 &&& 63)) hx hb nD_M_note_74 rfl ?_
    refine lv_ladd hx hb nD_M_note_75 ?_
    refine lv_topl (fun v9 e_v9 => ?_)
    have h := h v9 e_v9
    clear e_v9
    refine lv_lstore_n hx hb nD_M_note_76 rfl hl (by decide) rfl (fun ls hl => ?_)
    have hl : lv_has ls 6 [(1, .long v9), (0, .ref (a 0)), (3, .int y3)] := hl
    refine lv_iinc (k := 2) (v := y3 + 1) hx hb nD_M_note_77 hl rfl rfl (by decide) rfl (fun ls hl => ?_)
    have hl : lv_has ls 6 [(3, .int (y3 + 1)), (1, .long v9), (0, .ref (a 0))] := hl
    refine lv_goto (tgt := 53) hx hb nD_M_note_80 (by decide) ?_
    have hl := lv_sub (l' := [(0, .ref (a 0)), (1, .long v9), (3, .int (y3 + 1))]) hl [2, 1, 0] rfl
    exact hR _ h _ _ ls hP hD hS hl
set_option maxHeartbeats 4000000 in
set_option maxRecDepth 100000 in
theorem wl_M_note_88 {l : Launch} {p : Program} {e : Env} {s : State} {m : MethodId} {args : Array Value} {below : List Frame} {meth : Method} {c : Code} {D : va_G} {tc : Nat → ClassId} {a : Nat → Nat} {w0 : va_W} (x1 : Int64) (post : zS → Prop) (K : Int32 → Int32 → zS → Prop) (hx : p.tables.exec = Jvm.exec) (hb : c.code = nC_M_note) (hml : c.maxLocals = 6) (hr : meth.sig.returnType = none) (hown : s.vm.findClass nM_M_note.cls = some m.cls) (hlocks : meth.locks = false) (hw : ∀ w ∈ wA, w.before args s = true) (hn : mN s) (hK : va_K D nCl (ztM tc) s) (hA : ∀ q, s.heap.size ≤ q → va_A w0 s.heap.size q)
    (hk : ∀ (y3 : Int32) (y4 : Int32) (σ : zS) (H : Heap) (locs : List Loc) (ls : Array Slot), K y3 y4 σ → va_P D nCl (zM a tc σ) H → va_D (va_A w0 s.heap.size) (zM a tc σ) → va_S (va_A w0 s.heap.size) s.heap H locs → lv_has ls 6 [(0, .ref (a 0)), (1, .long x1), (3, .int y3), (4, .int y4)] → W p l e ({ frames := 1, cells := 0, slots := 0, locals := 23 } : Room) s m args below meth c H locs 0 0 (MQ below (va_Qv (zQv (zM a tc) post) (mQW D (ztM tc) w0 s.heap.size) (va_A w0 s.heap.size)) args s 0 0 (va_A w0 s.heap.size)) (F0 m 125 ls [])) : ∀ q : Int32 × Int32 × zS, zLP (b_M_note_88 x1 post K) q → ∀ (H : Heap) (locs : List Loc) (ls : Array Slot), va_P D nCl (zM a tc q.2.2) H → va_D (va_A w0 s.heap.size) (zM a tc q.2.2) → va_S (va_A w0 s.heap.size) s.heap H locs → lv_has ls 6 [(0, .ref (a 0)), (1, .long x1), (3, .int q.1), (4, .int q.2.1)] → W p l e ({ frames := 1, cells := 0, slots := 0, locals := 23 } : Room) s m args below meth c H locs 0 0 (MQ below (va_Qv (zQv (zM a tc) post) (mQW D (ztM tc) w0 s.heap.size) (va_A w0 s.heap.size)) args s 0 0 (va_A w0 s.heap.size)) (F0 m 88 ls []) := by
  refine zLP_walk ?_
  rintro R ⟨y3, y4, σ⟩ hR h H locs ls hP hD hS hl
  dsimp only at hP hD hl
  dsimp only [b_M_note_88] at h
  refine lv_iload hx hb nD_M_note_88 (lv_at hl 3 rfl) ?_
  refine lv_aload_n hx hb nD_M_note_90 rfl (lv_at hl 0 rfl) ?_
  refine va_get (D := D) (ci := 5) (v := .int (σ.1 7)) (C := nR_M) (T := nT_M) (N := 23) hx hb hw wu_M hown hK hP 0 yc_0 rfl 19 (by decide) (hw _ wm_442) (fun _ h9 => h9) rfl nD_M_note_91 ?_
  refine lv_icmp_ge (tgt := 125) hx hb nD_M_note_94 (by decide) (fun hc => ?_) (fun hc => ?_)
  · have h := h.1 hc
    exact hk y3 y4 σ _ _ ls h hP hD hS hl
  · have h := h.2 hc
    refine lv_iload_n hx hb nD_M_note_97 rfl (lv_at hl 2 rfl) ?_
    refine lv_if_ne (tgt := 113) hx hb nD_M_note_98 (by decide) (fun hc => ?_) (fun hc => ?_)
    · have h := h.2 hc
      refine lv_iconst (v := (1 : Int32)) hx hb nD_M_note_113 (by decide) ?_
      refine lv_goto (tgt := 118) hx hb nD_M_note_114 (by decide) ?_
      refine lv_istore_n hx hb nD_M_note_118 rfl hl (by decide) rfl (fun ls hl => ?_)
      have hl : lv_has ls 6 [(3, .int (1 : Int32)), (0, .ref (a 0)), (1, .long x1), (4, .int y4)] := hl
      refine lv_iinc (k := 3) (v := y4 + 1) hx hb nD_M_note_119 hl rfl rfl (by decide) rfl (fun ls hl => ?_)
      have hl : lv_has ls 6 [(4, .int (y4 + 1)), (3, .int (1 : Int32)), (0, .ref (a 0)), (1, .long x1)] := hl
      refine lv_goto (tgt := 88) hx hb nD_M_note_122 (by decide) ?_
      have hl := lv_sub (l' := [(0, .ref (a 0)), (1, .long x1), (3, .int (1 : Int32)), (4, .int (y4 + 1))]) hl [2, 3, 1, 0] rfl
      exact hR _ h _ _ ls hP hD hS hl
    · have h := h.1 hc
      refine lv_aload_n hx hb nD_M_note_101 rfl (lv_at hl 0 rfl) ?_
      refine va_get (D := D) (ci := 5) (v := .ref (a 12)) (C := nR_M) (T := nT_M) (N := 23) hx hb hw wu_M hown hK hP 0 yc_0 rfl 20 (by decide) (hw _ wm_443) (fun _ h9 => h9) rfl nD_M_note_102 ?_
      refine lv_iload hx hb nD_M_note_105 (lv_at hl 3 rfl) ?_
      obtain ⟨hi13, h⟩ := h
      refine va_lald (D := D) hx hb hK hP 12 11 yc_12 rfl hi13 nD_M_note_107 ?_
      refine lv_lload_n hx hb nD_M_note_108 rfl (lv_at hl 1 rfl) ?_
      refine W.lcmp hx hb nD_M_note_109 ?_
      refine lv_if_ne (tgt := 117) hx hb nD_M_note_110 (by decide) (fun hc => ?_) (fun hc => ?_)
      · have h := h.2 hc
        refine lv_iconst (v := (0 : Int32)) hx hb nD_M_note_117 (by decide) ?_
        refine lv_istore_n hx hb nD_M_note_118 rfl hl (by decide) rfl (fun ls hl => ?_)
        have hl : lv_has ls 6 [(3, .int (0 : Int32)), (0, .ref (a 0)), (1, .long x1), (4, .int y4)] := hl
        refine lv_iinc (k := 3) (v := y4 + 1) hx hb nD_M_note_119 hl rfl rfl (by decide) rfl (fun ls hl => ?_)
        have hl : lv_has ls 6 [(4, .int (y4 + 1)), (3, .int (0 : Int32)), (0, .ref (a 0)), (1, .long x1)] := hl
        refine lv_goto (tgt := 88) hx hb nD_M_note_122 (by decide) ?_
        have hl := lv_sub (l' := [(0, .ref (a 0)), (1, .long x1), (3, .int (0 : Int32)), (4, .int (y4 + 1))]) hl [2, 3, 1, 0] rfl
        exact hR _ h _ _ ls hP hD hS hl
      · have h := h.1 hc
        refine lv_iconst (v := (1 : Int32)) hx hb nD_M_note_113 (by decide) ?_
        refine lv_goto (tgt := 118) hx hb nD_M_note_114 (by decide) ?_
        refine lv_istore_n hx hb nD_M_note_118 rfl hl (by decide) rfl (fun ls hl => ?_)
        have hl : lv_has ls 6 [(3, .int (1 : Int32)), (0, .ref (a 0)), (1, .long x1), (4, .int y4)] := hl
        refine lv_iinc (k := 3) (v := y4 + 1) hx hb nD_M_note_119 hl rfl rfl (by decide) rfl (fun ls hl => ?_)
        have hl : lv_has ls 6 [(4, .int (y4 + 1)), (3, .int (1 : Int32)), (0, .ref (a 0)), (1, .long x1)] := hl
        refine lv_goto (tgt := 88) hx hb nD_M_note_122 (by decide) ?_
        have hl := lv_sub (l' := [(0, .ref (a 0)), (1, .long x1), (3, .int (1 : Int32)), (4, .int (y4 + 1))]) hl [2, 3, 1, 0] rfl
        exact hR _ h _ _ ls hP hD hS hl
set_option maxHeartbeats 4000000 in
set_option maxRecDepth 100000 in
theorem wl_M_note_162 {l : Launch} {p : Program} {e : Env} {s : State} {m : MethodId} {args : Array Value} {below : List Frame} {meth : Method} {c : Code} {D : va_G} {tc : Nat → ClassId} {a : Nat → Nat} {w0 : va_W} (post : zS → Prop) (K : Int32 → zS → Prop) (hx : p.tables.exec = Jvm.exec) (hb : c.code = nC_M_note) (hml : c.maxLocals = 6) (hr : meth.sig.returnType = none) (hown : s.vm.findClass nM_M_note.cls = some m.cls) (hlocks : meth.locks = false) (hw : ∀ w ∈ wA, w.before args s = true) (hn : mN s) (hK : va_K D nCl (ztM tc) s) (hA : ∀ q, s.heap.size ≤ q → va_A w0 s.heap.size q)
    (hk : ∀ (y4 : Int32) (σ : zS) (H : Heap) (locs : List Loc) (ls : Array Slot), K y4 σ → va_P D nCl (zM a tc σ) H → va_D (va_A w0 s.heap.size) (zM a tc σ) → va_S (va_A w0 s.heap.size) s.heap H locs → lv_has ls 6 [(0, .ref (a 0)), (4, .int y4)] → W p l e ({ frames := 1, cells := 0, slots := 0, locals := 23 } : Room) s m args below meth c H locs 0 0 (MQ below (va_Qv (zQv (zM a tc) post) (mQW D (ztM tc) w0 s.heap.size) (va_A w0 s.heap.size)) args s 0 0 (va_A w0 s.heap.size)) (F0 m 258 ls [])) : ∀ q : Int32 × zS, zLP (b_M_note_162 post K) q → ∀ (H : Heap) (locs : List Loc) (ls : Array Slot), va_P D nCl (zM a tc q.2) H → va_D (va_A w0 s.heap.size) (zM a tc q.2) → va_S (va_A w0 s.heap.size) s.heap H locs → lv_has ls 6 [(0, .ref (a 0)), (4, .int q.1)] → W p l e ({ frames := 1, cells := 0, slots := 0, locals := 23 } : Room) s m args below meth c H locs 0 0 (MQ below (va_Qv (zQv (zM a tc) post) (mQW D (ztM tc) w0 s.heap.size) (va_A w0 s.heap.size)) args s 0 0 (va_A w0 s.heap.size)) (F0 m 162 ls []) := by
  refine zLP_walk ?_
  rintro R ⟨y4, σ⟩ hR h H locs ls hP hD hS hl
  dsimp only at hP hD hl
  dsimp only [b_M_note_162] at h
  refine lv_iload hx hb nD_M_note_162 (lv_at hl 1 rfl) ?_
  refine lv_aload_n hx hb nD_M_note_164 rfl (lv_at hl 0 rfl) ?_
  refine va_get (D := D) (ci := 5) (v := .int (σ.1 5)) (C := nR_M) (T := nT_M) (N := 23) hx hb hw wu_M hown hK hP 0 yc_0 rfl 12 (by decide) (hw _ wm_435) (fun _ h9 => h9) rfl nD_M_note_165 ?_
  refine lv_icmp_ge (tgt := 258) hx hb nD_M_note_168 (by decide) (fun hc => ?_) (fun hc => ?_)
  · have h := h.1 hc
    exact hk y4 σ _ _ ls h hP hD hS hl
  · have h := h.2 hc
    refine lv_aload_n hx hb nD_M_note_171 rfl (lv_at hl 0 rfl) ?_
    refine va_get (D := D) (ci := 5) (v := .ref (a 8)) (C := nR_M) (T := nT_M) (N := 23) hx hb hw wu_M hown hK hP 0 yc_0 rfl 13 (by decide) (hw _ wm_436) (fun _ h9 => h9) rfl nD_M_note_172 ?_
    refine lv_iload hx hb nD_M_note_175 (lv_at hl 1 rfl) ?_
    obtain ⟨hi17, h⟩ := h
    refine va_iald (D := D) hx hb hK hP 8 7 yc_8 rfl hi17 nD_M_note_177 ?_
    refine lv_topi (fun v18 e_v18 => ?_)
    have h := h v18 e_v18
    clear e_v18
    refine lv_istore hx hb nD_M_note_178 hl (by decide) rfl (fun ls hl => ?_)
    have hl : lv_has ls 6 [(5, .int v18), (0, .ref (a 0)), (4, .int y4)] := hl
    refine lv_aload_n hx hb nD_M_note_180 rfl (lv_at hl 1 rfl) ?_
    refine va_get (D := D) (ci := 5) (v := .ref (a 7)) (C := nR_M) (T := nT_M) (N := 23) hx hb hw wu_M hown hK hP 0 yc_0 rfl 11 (by decide) (hw _ wm_434) (fun _ h9 => h9) rfl nD_M_note_181 ?_
    refine lv_iload hx hb nD_M_note_184 (lv_at hl 0 rfl) ?_
    obtain ⟨hi19, h⟩ := h
    refine va_iald (D := D) hx hb hK hP 7 6 yc_7 rfl hi19 nD_M_note_186 ?_
    refine lv_if_ne (tgt := 252) hx hb nD_M_note_187 (by decide) (fun hc => ?_) (fun hc => ?_)
    · have h := h.2 hc
      refine lv_iinc (k := 2) (v := y4 + 1) hx hb nD_M_note_252 hl rfl rfl (by decide) rfl (fun ls hl => ?_)
      have hl : lv_has ls 6 [(4, .int (y4 + 1)), (5, .int v18), (0, .ref (a 0))] := hl
      refine lv_goto (tgt := 162) hx hb nD_M_note_255 (by decide) ?_
      have hl := lv_sub (l' := [(0, .ref (a 0)), (4, .int (y4 + 1))]) hl [2, 0] rfl
      exact hR _ h _ _ ls hP hD hS hl
    · have h := h.1 hc
      refine lv_aload_n hx hb nD_M_note_190 rfl (lv_at hl 1 rfl) ?_
      refine va_get (D := D) (ci := 5) (v := .ref (a 13)) (C := nR_M) (T := nT_M) (N := 23) hx hb hw wu_M hown hK hP 0 yc_0 rfl 21 (by decide) (hw _ wm_444) (fun _ h9 => h9) rfl nD_M_note_191 ?_
      refine lv_aload_n hx hb nD_M_note_194 rfl (lv_at hl 1 rfl) ?_
      refine va_get (D := D) (ci := 5) (v := .ref (a 1)) (C := nR_M) (T := nT_M) (N := 23) hx hb hw wu_M hown hK hP 0 yc_0 rfl 5 (by decide) (hw _ wm_428) (fun _ h9 => h9) rfl nD_M_note_195 ?_
      refine lv_iload hx hb nD_M_note_198 (lv_at hl 0 rfl) ?_
      obtain ⟨hi20, h⟩ := h
      refine va_iald (D := D) hx hb hK hP 1 0 yc_1 rfl hi20 nD_M_note_200 ?_
      refine lv_aload_n hx hb nD_M_note_201 rfl (lv_at hl 1 rfl) ?_
      refine va_get (D := D) (ci := 5) (v := .ref (a 13)) (C := nR_M) (T := nT_M) (N := 23) hx hb hw wu_M hown hK hP 0 yc_0 rfl 21 (by decide) (hw _ wm_444) (fun _ h9 => h9) rfl nD_M_note_202 ?_
      refine lv_aload_n hx hb nD_M_note_205 rfl (lv_at hl 1 rfl) ?_
      refine va_get (D := D) (ci := 5) (v := .ref (a 1)) (C := nR_M) (T := nT_M) (N := 23) hx hb hw wu_M hown hK hP 0 yc_0 rfl 5 (by decide) (hw _ wm_428) (fun _ h9 => h9) rfl nD_M_note_206 ?_
      refine lv_iload hx hb nD_M_note_209 (lv_at hl 0 rfl) ?_
      obtain ⟨hi21, h⟩ := h
      refine va_iald (D := D) hx hb hK hP 1 0 yc_1 rfl hi21 nD_M_note_211 ?_
      obtain ⟨hi22, h⟩ := h
      refine va_lald (D := D) hx hb hK hP 13 12 yc_13 rfl hi22 nD_M_note_212 ?_
      refine lv_lconst (v := (1 : Int64)) hx hb nD_M_note_213 (by decide) ?_
      refine lv_ladd hx hb nD_M_note_214 ?_
      obtain ⟨hi23, h⟩ := h
      refine va_last (D := D) hx hb hK hP hD hS 13 12 yc_13 rfl hi23 nD_M_note_215 (fun H locs hP hD hS => ?_)
      obtain ⟨σ24, e_σ24⟩ : ∃ z : zS, z = zL σ 1 (σ.2.1 0 v18.toNatClampNeg).toNatClampNeg ((σ.2.2 1 (σ.2.1 0 v18.toNatClampNeg).toNatClampNeg) + (1 : Int64)) := ⟨_, rfl⟩
      obtain ⟨hP, hD⟩ := znew (w := zM a tc) e_σ24 (ya_13) hP hD
      have h := h σ24 e_σ24
      clear e_σ24
      refine lv_aload_n hx hb nD_M_note_216 rfl (lv_at hl 1 rfl) ?_
      refine va_get (D := D) (ci := 5) (v := .ref (a 14)) (C := nR_M) (T := nT_M) (N := 23) hx hb hw wu_M hown hK hP 0 yc_0 rfl 22 (by decide) (hw _ wm_445) (fun _ h9 => h9) rfl nD_M_note_217 ?_
      refine lv_aload_n hx hb nD_M_note_220 rfl (lv_at hl 1 rfl) ?_
      refine va_get (D := D) (ci := 5) (v := .ref (a 1)) (C := nR_M) (T := nT_M) (N := 23) hx hb hw wu_M hown hK hP 0 yc_0 rfl 5 (by decide) (hw _ wm_428) (fun _ h9 => h9) rfl nD_M_note_221 ?_
      refine lv_iload hx hb nD_M_note_224 (lv_at hl 0 rfl) ?_
      obtain ⟨hi25, h⟩ := h
      refine va_iald (D := D) hx hb hK hP 1 0 yc_1 rfl hi25 nD_M_note_226 ?_
      refine lv_aload_n hx hb nD_M_note_227 rfl (lv_at hl 1 rfl) ?_
      refine va_get (D := D) (ci := 5) (v := .ref (a 14)) (C := nR_M) (T := nT_M) (N := 23) hx hb hw wu_M hown hK hP 0 yc_0 rfl 22 (by decide) (hw _ wm_445) (fun _ h9 => h9) rfl nD_M_note_228 ?_
      refine lv_aload_n hx hb nD_M_note_231 rfl (lv_at hl 1 rfl) ?_
      refine va_get (D := D) (ci := 5) (v := .ref (a 1)) (C := nR_M) (T := nT_M) (N := 23) hx hb hw wu_M hown hK hP 0 yc_0 rfl 5 (by decide) (hw _ wm_428) (fun _ h9 => h9) rfl nD_M_note_232 ?_
      refine lv_iload hx hb nD_M_note_235 (lv_at hl 0 rfl) ?_
      obtain ⟨hi26, h⟩ := h
      refine va_iald (D := D) hx hb hK hP 1 0 yc_1 rfl hi26 nD_M_note_237 ?_
      obtain ⟨hi27, h⟩ := h
      refine va_iald (D := D) hx hb hK hP 14 13 yc_14 rfl hi27 nD_M_note_238 ?_
      refine lv_iconst (v := (1 : Int32)) hx hb nD_M_note_239 (by decide) ?_
      refine lv_aload_n hx hb nD_M_note_240 rfl (lv_at hl 1 rfl) ?_
      refine va_get (D := D) (ci := 5) (v := .ref (a 9)) (C := nR_M) (T := nT_M) (N := 23) hx hb hw wu_M hown hK hP 0 yc_0 rfl 14 (by decide) (hw _ wm_437) (fun _ h9 => h9) rfl nD_M_note_241 ?_
      refine lv_iload hx hb nD_M_note_244 (lv_at hl 0 rfl) ?_
      obtain ⟨hi28, h⟩ := h
      refine va_iald (D := D) hx hb hK hP 9 8 yc_9 rfl hi28 nD_M_note_246 ?_
      refine lv_iconst (v := (1 : Int32)) hx hb nD_M_note_247 (by decide) ?_
      refine lv_iadd hx hb nD_M_note_248 ?_
      refine lv_ishl hx hb nD_M_note_249 ?_
      refine lv_ior hx hb nD_M_note_250 ?_
      obtain ⟨hi29, h⟩ := h
      refine va_iast (D := D) hx hb hK hP hD hS 14 13 yc_14 rfl hi29 nD_M_note_251 (fun H locs hP hD hS => ?_)
      obtain ⟨σ30, e_σ30⟩ : ∃ z : zS, z = zA σ24 11 (σ24.2.1 0 v18.toNatClampNeg).toNatClampNeg ((σ24.2.1 11 (σ24.2.1 0 v18.toNatClampNeg).toNatClampNeg) ||| ((1 : Int32) <<< (((σ24.2.1 8 v18.toNatClampNeg) + (1 : Int32)) &&& 31))) := ⟨_, rfl⟩
      obtain ⟨hP, hD⟩ := znew (w := zM a tc) e_σ30 (ya_14) hP hD
      have h := h σ30 e_σ30
      clear e_σ30
      refine lv_iinc (k := 2) (v := y4 + 1) hx hb nD_M_note_252 hl rfl rfl (by decide) rfl (fun ls hl => ?_)
      have hl : lv_has ls 6 [(4, .int (y4 + 1)), (5, .int v18), (0, .ref (a 0))] := hl
      refine lv_goto (tgt := 162) hx hb nD_M_note_255 (by decide) ?_
      have hl := lv_sub (l' := [(0, .ref (a 0)), (4, .int (y4 + 1))]) hl [2, 0] rfl
      exact hR _ h _ _ ls hP hD hS hl
set_option maxHeartbeats 4000000 in
set_option maxRecDepth 100000 in
theorem c_M_note (l : Launch) (D : va_G) (tc : Nat → ClassId) (a : Nat → Nat) (σ : zS) (post : zS → Prop) (h : j_M_note  σ post) : mWv l nM_M_note nC_M_note 6 ({ frames := 1, cells := 0, slots := 0, locals := 23 } : Room) D (ztM tc) [.ref (a 0)] (zM a tc σ) (zQv (zM a tc) post) := by
  intro sz
  refine mt_W (by decide) (Nat.le_of_ble_eq_true rfl) ?_
  intro p e s m below meth c ls hx hb hml hr hown hlocks hin hw hn hP hK hD hS hA hl hsz
  subst hsz
  have hl : lv_has ls 6 [(0, .ref (a 0))] := hl
  unfold j_M_note at h
  refine lv_iconst (v := (0 : Int32)) hx hb nD_M_note_0 (by decide) ?_
  refine lv_istore_n hx hb nD_M_note_1 rfl hl (by decide) rfl (fun ls hl => ?_)
  have hl : lv_has ls 6 [(1, .int (0 : Int32)), (0, .ref (a 0))] := hl
  have hl := lv_sub (l' := [(0, .ref (a 0)), (1, .int (0 : Int32))]) hl [1, 0] rfl
  refine wl_M_note_2 (l := l) post _ hx hb hml hr hown hlocks hw hn hK hA (fun v4 σ5 H locs ls h hP hD hS hl => ?_) ((0 : Int32), σ) h _ _ ls hP hD hS hl
  refine lv_aload_n hx hb nD_M_note_35 rfl (lv_at hl 0 rfl) ?_
  refine lv_dup hx hb nD_M_note_36 rfl ?_
  refine va_get (D := D) (ci := 5) (v := .long (σ5.2.2 2 0)) (C := nR_M) (T := nT_M) (N := 23) hx hb hw wu_M hown hK hP 0 yc_0 rfl 18 (by decide) (hw _ wm_441) (fun _ h9 => h9) rfl nD_M_note_37 ?_
  refine lv_lconst (v := (1 : Int64)) hx hb nD_M_note_40 (by decide) ?_
  refine lv_ladd hx hb nD_M_note_41 ?_
  refine va_put (D := D) (ci := 5) (v := .long ((σ5.2.2 2 0) + (1 : Int64))) (ty := .long) (C := nR_M) (T := nT_M) (N := 23) hx hb hw wu_M nY_M nO_M nN_M hown hK hP hD hS 0 yc_0 rfl 18 (by decide) (hw _ wm_441) (fun _ h9 => h9) rfl (by decide +kernel) rfl rfl (Nat.le_of_ble_eq_true rfl) nD_M_note_42 (fun H locs hP hD hS => ?_)
  obtain ⟨σ6, e_σ6⟩ : ∃ z : zS, z = zT σ5 ((σ5.2.2 2 0) + (1 : Int64)) := ⟨_, rfl⟩
  obtain ⟨hP, hD⟩ := znew (w := zM a tc) e_σ6 (yp_0_18) hP hD
  have h := h σ6 e_σ6
  clear e_σ6
  refine lv_aload_n hx hb nD_M_note_45 rfl (lv_at hl 0 rfl) ?_
  refine va_get (D := D) (ci := 5) (v := .int (σ6.1 6)) (C := nR_M) (T := nT_M) (N := 23) hx hb hw wu_M hown hK hP 0 yc_0 rfl 16 (by decide) (hw _ wm_439) (fun _ h9 => h9) rfl nD_M_note_46 ?_
  refine lv_i2l (v := (σ6.1 6).toInt64) hx hb nD_M_note_49 rfl ?_
  refine lv_topl (fun v7 e_v7 => ?_)
  have h := h v7 e_v7
  clear e_v7
  refine lv_lstore_n hx hb nD_M_note_50 rfl hl (by decide) rfl (fun ls hl => ?_)
  have hl : lv_has ls 6 [(1, .long v7), (0, .ref (a 0))] := hl
  refine lv_iconst (v := (0 : Int32)) hx hb nD_M_note_51 (by decide) ?_
  refine lv_istore_n hx hb nD_M_note_52 rfl hl (by decide) rfl (fun ls hl => ?_)
  have hl : lv_has ls 6 [(3, .int (0 : Int32)), (1, .long v7), (0, .ref (a 0))] := hl
  have hl := lv_sub (l' := [(0, .ref (a 0)), (1, .long v7), (3, .int (0 : Int32))]) hl [2, 1, 0] rfl
  refine wl_M_note_53 (l := l) post _ hx hb hml hr hown hlocks hw hn hK hA (fun v10 v11 σ12 H locs ls h hP hD hS hl => ?_) (v7, (0 : Int32), σ6) h _ _ ls hP hD hS hl
  refine lv_iconst (v := (0 : Int32)) hx hb nD_M_note_83 (by decide) ?_
  refine lv_istore_n hx hb nD_M_note_84 rfl hl (by decide) rfl (fun ls hl => ?_)
  have hl : lv_has ls 6 [(3, .int (0 : Int32)), (0, .ref (a 0)), (1, .long v10)] := hl
  refine lv_iconst (v := (0 : Int32)) hx hb nD_M_note_85 (by decide) ?_
  refine lv_istore hx hb nD_M_note_86 hl (by decide) rfl (fun ls hl => ?_)
  have hl : lv_has ls 6 [(4, .int (0 : Int32)), (3, .int (0 : Int32)), (0, .ref (a 0)), (1, .long v10)] := hl
  have hl := lv_sub (l' := [(0, .ref (a 0)), (1, .long v10), (3, .int (0 : Int32)), (4, .int (0 : Int32))]) hl [2, 3, 1, 0] rfl
  refine wl_M_note_88 (l := l) v10 post _ hx hb hml hr hown hlocks hw hn hK hA (fun v14 v15 σ16 H locs ls h hP hD hS hl => ?_) ((0 : Int32), (0 : Int32), σ12) h _ _ ls hP hD hS hl
  refine lv_iload_n hx hb nD_M_note_125 rfl (lv_at hl 2 rfl) ?_
  refine lv_if_ne (tgt := 159) hx hb nD_M_note_126 (by decide) (fun hc => ?_) (fun hc => ?_)
  · have h := h.2 hc
    refine lv_iconst (v := (0 : Int32)) hx hb nD_M_note_159 (by decide) ?_
    refine lv_istore hx hb nD_M_note_160 hl (by decide) rfl (fun ls hl => ?_)
    have hl : lv_has ls 6 [(4, .int (0 : Int32)), (0, .ref (a 0)), (1, .long v10), (3, .int v14)] := hl
    have hl := lv_sub (l' := [(0, .ref (a 0)), (4, .int (0 : Int32))]) hl [1, 0] rfl
    refine wl_M_note_162 (l := l) post _ hx hb hml hr hown hlocks hw hn hK hA (fun v31 σ32 H locs ls h hP hD hS hl => ?_) ((0 : Int32), σ16) h _ _ ls hP hD hS hl
    exact mw_v hx hb hr hlocks ⟨σ32, rfl, h⟩ hP hK hD hS nD_M_note_258
  · have h := h.1 hc
    refine lv_aload_n hx hb nD_M_note_129 rfl (lv_at hl 0 rfl) ?_
    refine va_get (D := D) (ci := 5) (v := .int (σ16.1 7)) (C := nR_M) (T := nT_M) (N := 23) hx hb hw wu_M hown hK hP 0 yc_0 rfl 19 (by decide) (hw _ wm_442) (fun _ h9 => h9) rfl nD_M_note_130 ?_
    refine lv_sipush (v := (1400 : Int32)) hx hb nD_M_note_133 (by decide) ?_
    refine lv_icmp_ge (tgt := 159) hx hb nD_M_note_136 (by decide) (fun hc => ?_) (fun hc => ?_)
    · have h := h.1 hc
      refine lv_iconst (v := (0 : Int32)) hx hb nD_M_note_159 (by decide) ?_
      refine lv_istore hx hb nD_M_note_160 hl (by decide) rfl (fun ls hl => ?_)
      have hl : lv_has ls 6 [(4, .int (0 : Int32)), (0, .ref (a 0)), (1, .long v10), (3, .int v14)] := hl
      have hl := lv_sub (l' := [(0, .ref (a 0)), (4, .int (0 : Int32))]) hl [1, 0] rfl
      refine wl_M_note_162 (l := l) post _ hx hb hml hr hown hlocks hw hn hK hA (fun v33 σ34 H locs ls h hP hD hS hl => ?_) ((0 : Int32), σ16) h _ _ ls hP hD hS hl
      exact mw_v hx hb hr hlocks ⟨σ34, rfl, h⟩ hP hK hD hS nD_M_note_258
    · have h := h.2 hc
      refine lv_aload_n hx hb nD_M_note_139 rfl (lv_at hl 0 rfl) ?_
      refine va_get (D := D) (ci := 5) (v := .ref (a 12)) (C := nR_M) (T := nT_M) (N := 23) hx hb hw wu_M hown hK hP 0 yc_0 rfl 20 (by decide) (hw _ wm_443) (fun _ h9 => h9) rfl nD_M_note_140 ?_
      refine lv_aload_n hx hb nD_M_note_143 rfl (lv_at hl 0 rfl) ?_
      refine va_get (D := D) (ci := 5) (v := .int (σ16.1 7)) (C := nR_M) (T := nT_M) (N := 23) hx hb hw wu_M hown hK hP 0 yc_0 rfl 19 (by decide) (hw _ wm_442) (fun _ h9 => h9) rfl nD_M_note_144 ?_
      refine lv_lload_n hx hb nD_M_note_147 rfl (lv_at hl 1 rfl) ?_
      obtain ⟨hi35, h⟩ := h
      refine va_last (D := D) hx hb hK hP hD hS 12 11 yc_12 rfl hi35 nD_M_note_148 (fun H locs hP hD hS => ?_)
      obtain ⟨σ36, e_σ36⟩ : ∃ z : zS, z = zL σ16 0 (σ16.1 7).toNatClampNeg v10 := ⟨_, rfl⟩
      obtain ⟨hP, hD⟩ := znew (w := zM a tc) e_σ36 (ya_12) hP hD
      have h := h σ36 e_σ36
      clear e_σ36
      refine lv_aload_n hx hb nD_M_note_149 rfl (lv_at hl 0 rfl) ?_
      refine lv_dup hx hb nD_M_note_150 rfl ?_
      refine va_get (D := D) (ci := 5) (v := .int (σ36.1 7)) (C := nR_M) (T := nT_M) (N := 23) hx hb hw wu_M hown hK hP 0 yc_0 rfl 19 (by decide) (hw _ wm_442) (fun _ h9 => h9) rfl nD_M_note_151 ?_
      refine lv_iconst (v := (1 : Int32)) hx hb nD_M_note_154 (by decide) ?_
      refine lv_iadd hx hb nD_M_note_155 ?_
      refine va_put (D := D) (ci := 5) (v := .int ((σ36.1 7) + (1 : Int32))) (ty := .int) (C := nR_M) (T := nT_M) (N := 23) hx hb hw wu_M nY_M nO_M nN_M hown hK hP hD hS 0 yc_0 rfl 19 (by decide) (hw _ wm_442) (fun _ h9 => h9) rfl (by decide +kernel) rfl rfl (Nat.le_of_ble_eq_true rfl) nD_M_note_156 (fun H locs hP hD hS => ?_)
      obtain ⟨σ37, e_σ37⟩ : ∃ z : zS, z = zI σ36 7 ((σ36.1 7) + (1 : Int32)) := ⟨_, rfl⟩
      obtain ⟨hP, hD⟩ := znew (w := zM a tc) e_σ37 (yp_0_19) hP hD
      have h := h σ37 e_σ37
      clear e_σ37
      refine lv_iconst (v := (0 : Int32)) hx hb nD_M_note_159 (by decide) ?_
      refine lv_istore hx hb nD_M_note_160 hl (by decide) rfl (fun ls hl => ?_)
      have hl : lv_has ls 6 [(4, .int (0 : Int32)), (0, .ref (a 0)), (1, .long v10), (3, .int v14)] := hl
      have hl := lv_sub (l' := [(0, .ref (a 0)), (4, .int (0 : Int32))]) hl [1, 0] rfl
      refine wl_M_note_162 (l := l) post _ hx hb hml hr hown hlocks hw hn hK hA (fun v38 σ39 H locs ls h hP hD hS hl => ?_) ((0 : Int32), σ37) h _ _ ls hP hD hS hl
      exact mw_v hx hb hr hlocks ⟨σ39, rfl, h⟩ hP hK hD hS nD_M_note_258
set_option maxHeartbeats 4000000 in
set_option maxRecDepth 100000 in
theorem c_M_lengthen (l : Launch) (D : va_G) (tc : Nat → ClassId) (a : Nat → Nat) (x1 : Int32) (σ : zS) (post : zS → Prop) (h : j_M_lengthen x1 σ post) : mWv l nM_M_lengthen nC_M_lengthen 2 ({ frames := 2, cells := 0, slots := 0, locals := 48 } : Room) D (ztM tc) [.ref (a 0), .int x1] (zM a tc σ) (zQv (zM a tc) post) := by
  intro sz
  refine mt_W (by decide) (Nat.le_of_ble_eq_true rfl) ?_
  intro p e s m below meth c ls hx hb hml hr hown hlocks hin hw hn hP hK hD hS hA hl hsz
  subst hsz
  have hl : lv_has ls 2 [(0, .ref (a 0)), (1, .int x1)] := hl
  unfold j_M_lengthen at h
  refine lv_aload_n hx hb nD_M_lengthen_0 rfl (lv_at hl 0 rfl) ?_
  refine va_get (D := D) (ci := 5) (v := .ref (a 8)) (C := nR_M) (T := nT_M) (N := 23) hx hb hw wu_M hown hK hP 0 yc_0 rfl 13 (by decide) (hw _ wm_436) (fun _ h9 => h9) rfl nD_M_lengthen_1 ?_
  refine lv_aload_n hx hb nD_M_lengthen_4 rfl (lv_at hl 0 rfl) ?_
  refine va_get (D := D) (ci := 5) (v := .int (σ.1 5)) (C := nR_M) (T := nT_M) (N := 23) hx hb hw wu_M hown hK hP 0 yc_0 rfl 12 (by decide) (hw _ wm_435) (fun _ h9 => h9) rfl nD_M_lengthen_5 ?_
  refine lv_iload_n hx hb nD_M_lengthen_8 rfl (lv_at hl 1 rfl) ?_
  obtain ⟨hi1, h⟩ := h
  refine va_iast (D := D) hx hb hK hP hD hS 8 7 yc_8 rfl hi1 nD_M_lengthen_9 (fun H locs hP hD hS => ?_)
  obtain ⟨σ2, e_σ2⟩ : ∃ z : zS, z = zA σ 7 (σ.1 5).toNatClampNeg x1 := ⟨_, rfl⟩
  obtain ⟨hP, hD⟩ := znew (w := zM a tc) e_σ2 (ya_8) hP hD
  have h := h σ2 e_σ2
  clear e_σ2
  refine lv_aload_n hx hb nD_M_lengthen_10 rfl (lv_at hl 0 rfl) ?_
  refine lv_dup hx hb nD_M_lengthen_11 rfl ?_
  refine va_get (D := D) (ci := 5) (v := .int (σ2.1 5)) (C := nR_M) (T := nT_M) (N := 23) hx hb hw wu_M hown hK hP 0 yc_0 rfl 12 (by decide) (hw _ wm_435) (fun _ h9 => h9) rfl nD_M_lengthen_12 ?_
  refine lv_iconst (v := (1 : Int32)) hx hb nD_M_lengthen_15 (by decide) ?_
  refine lv_iadd hx hb nD_M_lengthen_16 ?_
  refine va_put (D := D) (ci := 5) (v := .int ((σ2.1 5) + (1 : Int32))) (ty := .int) (C := nR_M) (T := nT_M) (N := 23) hx hb hw wu_M nY_M nO_M nN_M hown hK hP hD hS 0 yc_0 rfl 12 (by decide) (hw _ wm_435) (fun _ h9 => h9) rfl (by decide +kernel) rfl rfl (Nat.le_of_ble_eq_true rfl) nD_M_lengthen_17 (fun H locs hP hD hS => ?_)
  obtain ⟨σ3, e_σ3⟩ : ∃ z : zS, z = zI σ2 5 ((σ2.1 5) + (1 : Int32)) := ⟨_, rfl⟩
  obtain ⟨hP, hD⟩ := znew (w := zM a tc) e_σ3 (yp_0_12) hP hD
  have h := h σ3 e_σ3
  clear e_σ3
  refine lv_aload_n hx hb nD_M_lengthen_20 rfl (lv_at hl 0 rfl) ?_
  refine zC_i (va_runV (As := []) (rest := []) ⟨hx, hb, hml, hown, hw⟩ (c_M_good l D tc a σ3 _ h _) (mcV 0 hw wm_418 wm_415 wm_417 wm_17 wm_33 rfl rfl nh_M_good ⟨Nat.le_of_ble_eq_true rfl, Nat.le_of_ble_eq_true rfl⟩) (zp_V (ci := 5) hP hD hK hn rfl yc_0) rfl rfl hl.1 rfl (lv_room (Nat.le_of_ble_eq_true rfl)) nD_M_lengthen_21 ⟨Nat.zero_le _, Nat.zero_le _⟩) hD hS hA (fun r5 σ4 H locs h hP hD hS => ?_)
  refine lv_if_eq (tgt := 44) hx hb nD_M_lengthen_24 (by decide) (fun hc => ?_) (fun hc => ?_)
  · have h := h.1 hc
    refine lv_aload_n hx hb nD_M_lengthen_44 rfl (lv_at hl 0 rfl) ?_
    refine lv_dup hx hb nD_M_lengthen_45 rfl ?_
    refine va_get (D := D) (ci := 5) (v := .int (σ4.1 5)) (C := nR_M) (T := nT_M) (N := 23) hx hb hw wu_M hown hK hP 0 yc_0 rfl 12 (by decide) (hw _ wm_435) (fun _ h9 => h9) rfl nD_M_lengthen_46 ?_
    refine lv_iconst (v := (1 : Int32)) hx hb nD_M_lengthen_49 (by decide) ?_
    refine lv_isub hx hb nD_M_lengthen_50 ?_
    refine va_put (D := D) (ci := 5) (v := .int ((σ4.1 5) - (1 : Int32))) (ty := .int) (C := nR_M) (T := nT_M) (N := 23) hx hb hw wu_M nY_M nO_M nN_M hown hK hP hD hS 0 yc_0 rfl 12 (by decide) (hw _ wm_435) (fun _ h9 => h9) rfl (by decide +kernel) rfl rfl (Nat.le_of_ble_eq_true rfl) nD_M_lengthen_51 (fun H locs hP hD hS => ?_)
    obtain ⟨σ6, e_σ6⟩ : ∃ z : zS, z = zI σ4 5 ((σ4.1 5) - (1 : Int32)) := ⟨_, rfl⟩
    obtain ⟨hP, hD⟩ := znew (w := zM a tc) e_σ6 (yp_0_12) hP hD
    have h := h σ6 e_σ6
    clear e_σ6
    exact mw_v hx hb hr hlocks ⟨σ6, rfl, h⟩ hP hK hD hS nD_M_lengthen_54
  · have h := h.2 hc
    refine lv_aload_n hx hb nD_M_lengthen_27 rfl (lv_at hl 0 rfl) ?_
    refine zC_v (va_runV (As := []) (rest := []) ⟨hx, hb, hml, hown, hw⟩ (c_M_note l D tc a σ4 _ h _) (mcV 0 hw wm_405 wm_402 wm_404 wm_14 wm_33 rfl rfl nh_M_note ⟨Nat.le_of_ble_eq_true rfl, Nat.le_of_ble_eq_true rfl⟩) (zp_V (ci := 5) hP hD hK hn rfl yc_0) rfl rfl hl.1 rfl (lv_room (Nat.le_of_ble_eq_true rfl)) nD_M_lengthen_28 ⟨Nat.zero_le _, Nat.zero_le _⟩) hD hS hA (fun σ7 H locs h hP hD hS => ?_)
    refine lv_aload_n hx hb nD_M_lengthen_31 rfl (lv_at hl 0 rfl) ?_
    refine va_get (D := D) (ci := 5) (v := .ref (a 10)) (C := nR_M) (T := nT_M) (N := 23) hx hb hw wu_M hown hK hP 0 yc_0 rfl 15 (by decide) (hw _ wm_438) (fun _ h9 => h9) rfl nD_M_lengthen_32 ?_
    refine lv_aload_n hx hb nD_M_lengthen_35 rfl (lv_at hl 0 rfl) ?_
    refine va_get (D := D) (ci := 5) (v := .int (σ7.1 5)) (C := nR_M) (T := nT_M) (N := 23) hx hb hw wu_M hown hK hP 0 yc_0 rfl 12 (by decide) (hw _ wm_435) (fun _ h9 => h9) rfl nD_M_lengthen_36 ?_
    refine lv_iconst (v := (0 : Int32)) hx hb nD_M_lengthen_39 (by decide) ?_
    obtain ⟨hi8, h⟩ := h
    refine va_iast (D := D) hx hb hK hP hD hS 10 9 yc_10 rfl hi8 nD_M_lengthen_40 (fun H locs hP hD hS => ?_)
    obtain ⟨σ9, e_σ9⟩ : ∃ z : zS, z = zA σ7 9 (σ7.1 5).toNatClampNeg (0 : Int32) := ⟨_, rfl⟩
    obtain ⟨hP, hD⟩ := znew (w := zM a tc) e_σ9 (ya_10) hP hD
    have h := h σ9 e_σ9
    clear e_σ9
    refine lv_goto (tgt := 54) hx hb nD_M_lengthen_41 (by decide) ?_
    exact mw_v hx hb hr hlocks ⟨σ9, rfl, h⟩ hP hK hD hS nD_M_lengthen_54
set_option maxHeartbeats 4000000 in
set_option maxRecDepth 100000 in
theorem wl_M_work_12 {l : Launch} {p : Program} {e : Env} {s : State} {m : MethodId} {args : Array Value} {below : List Frame} {meth : Method} {c : Code} {D : va_G} {tc : Nat → ClassId} {a : Nat → Nat} {w0 : va_W} (post : zS → Prop) (K : Int32 → zS → Prop) (hx : p.tables.exec = Jvm.exec) (hb : c.code = nC_M_work) (hml : c.maxLocals = 3) (hr : meth.sig.returnType = none) (hown : s.vm.findClass nM_M_work.cls = some m.cls) (hlocks : meth.locks = false) (hw : ∀ w ∈ wA, w.before args s = true) (hn : mN s) (hK : va_K D nCl (ztM tc) s) (hA : ∀ q, s.heap.size ≤ q → va_A w0 s.heap.size q)
    (hk : ∀ (y1 : Int32) (σ : zS) (H : Heap) (locs : List Loc) (ls : Array Slot), K y1 σ → va_P D nCl (zM a tc σ) H → va_D (va_A w0 s.heap.size) (zM a tc σ) → va_S (va_A w0 s.heap.size) s.heap H locs → lv_has ls 3 [(0, .ref (a 0)), (1, .int y1)] → W p l e ({ frames := 3, cells := 0, slots := 0, locals := 69 } : Room) s m args below meth c H locs 0 0 (MQ below (va_Qv (zQv (zM a tc) post) (mQW D (ztM tc) w0 s.heap.size) (va_A w0 s.heap.size)) args s 0 0 (va_A w0 s.heap.size)) (F0 m 37 ls [])) : ∀ q : Int32 × zS, zLP (b_M_work_12 post K) q → ∀ (H : Heap) (locs : List Loc) (ls : Array Slot), va_P D nCl (zM a tc q.2) H → va_D (va_A w0 s.heap.size) (zM a tc q.2) → va_S (va_A w0 s.heap.size) s.heap H locs → lv_has ls 3 [(0, .ref (a 0)), (1, .int q.1)] → W p l e ({ frames := 3, cells := 0, slots := 0, locals := 69 } : Room) s m args below meth c H locs 0 0 (MQ below (va_Qv (zQv (zM a tc) post) (mQW D (ztM tc) w0 s.heap.size) (va_A w0 s.heap.size)) args s 0 0 (va_A w0 s.heap.size)) (F0 m 12 ls []) := by
  refine zLP_walk ?_
  rintro R ⟨y1, σ⟩ hR h H locs ls hP hD hS hl
  dsimp only at hP hD hl
  dsimp only [b_M_work_12] at h
  refine lv_iload_n hx hb nD_M_work_12 rfl (lv_at hl 1 rfl) ?_
  refine lv_iconst (v := (3 : Int32)) hx hb nD_M_work_13 (by decide) ?_
  refine lv_icmp_ge (tgt := 37) hx hb nD_M_work_14 (by decide) (fun hc => ?_) (fun hc => ?_)
  · have h := h.1 hc
    exact hk y1 σ _ _ ls h hP hD hS hl
  · have h := h.2 hc
    refine lv_aload_n hx hb nD_M_work_17 rfl (lv_at hl 0 rfl) ?_
    refine va_get (D := D) (ci := 5) (v := .ref (a 13)) (C := nR_M) (T := nT_M) (N := 23) hx hb hw wu_M hown hK hP 0 yc_0 rfl 21 (by decide) (hw _ wm_444) (fun _ h9 => h9) rfl nD_M_work_18 ?_
    refine lv_iload_n hx hb nD_M_work_21 rfl (lv_at hl 1 rfl) ?_
    refine lv_lconst (v := (0 : Int64)) hx hb nD_M_work_22 (by decide) ?_
    obtain ⟨hi3, h⟩ := h
    refine va_last (D := D) hx hb hK hP hD hS 13 12 yc_13 rfl hi3 nD_M_work_23 (fun H locs hP hD hS => ?_)
    obtain ⟨σ4, e_σ4⟩ : ∃ z : zS, z = zL σ 1 y1.toNatClampNeg (0 : Int64) := ⟨_, rfl⟩
    obtain ⟨hP, hD⟩ := znew (w := zM a tc) e_σ4 (ya_13) hP hD
    have h := h σ4 e_σ4
    clear e_σ4
    refine lv_aload_n hx hb nD_M_work_24 rfl (lv_at hl 0 rfl) ?_
    refine va_get (D := D) (ci := 5) (v := .ref (a 14)) (C := nR_M) (T := nT_M) (N := 23) hx hb hw wu_M hown hK hP 0 yc_0 rfl 22 (by decide) (hw _ wm_445) (fun _ h9 => h9) rfl nD_M_work_25 ?_
    refine lv_iload_n hx hb nD_M_work_28 rfl (lv_at hl 1 rfl) ?_
    refine lv_iconst (v := (0 : Int32)) hx hb nD_M_work_29 (by decide) ?_
    obtain ⟨hi5, h⟩ := h
    refine va_iast (D := D) hx hb hK hP hD hS 14 13 yc_14 rfl hi5 nD_M_work_30 (fun H locs hP hD hS => ?_)
    obtain ⟨σ6, e_σ6⟩ : ∃ z : zS, z = zA σ4 11 y1.toNatClampNeg (0 : Int32) := ⟨_, rfl⟩
    obtain ⟨hP, hD⟩ := znew (w := zM a tc) e_σ6 (ya_14) hP hD
    have h := h σ6 e_σ6
    clear e_σ6
    refine lv_iinc (k := 1) (v := y1 + 1) hx hb nD_M_work_31 hl rfl rfl (by decide) rfl (fun ls hl => ?_)
    have hl : lv_has ls 3 [(1, .int (y1 + 1)), (0, .ref (a 0))] := hl
    refine lv_goto (tgt := 12) hx hb nD_M_work_34 (by decide) ?_
    have hl := lv_sub (l' := [(0, .ref (a 0)), (1, .int (y1 + 1))]) hl [1, 0] rfl
    exact hR _ h _ _ ls hP hD hS hl
set_option maxHeartbeats 4000000 in
set_option maxRecDepth 100000 in
theorem wl_M_work_60 {l : Launch} {p : Program} {e : Env} {s : State} {m : MethodId} {args : Array Value} {below : List Frame} {meth : Method} {c : Code} {D : va_G} {tc : Nat → ClassId} {a : Nat → Nat} {w0 : va_W} (post : zS → Prop) (K : Int32 → zS → Prop) (hx : p.tables.exec = Jvm.exec) (hb : c.code = nC_M_work) (hml : c.maxLocals = 3) (hr : meth.sig.returnType = none) (hown : s.vm.findClass nM_M_work.cls = some m.cls) (hlocks : meth.locks = false) (hw : ∀ w ∈ wA, w.before args s = true) (hn : mN s) (hK : va_K D nCl (ztM tc) s) (hA : ∀ q, s.heap.size ≤ q → va_A w0 s.heap.size q)
    (hk : ∀ (y1 : Int32) (σ : zS) (H : Heap) (locs : List Loc) (ls : Array Slot), K y1 σ → va_P D nCl (zM a tc σ) H → va_D (va_A w0 s.heap.size) (zM a tc σ) → va_S (va_A w0 s.heap.size) s.heap H locs → lv_has ls 3 [(0, .ref (a 0)), (1, .int y1)] → W p l e ({ frames := 3, cells := 0, slots := 0, locals := 69 } : Room) s m args below meth c H locs 0 0 (MQ below (va_Qv (zQv (zM a tc) post) (mQW D (ztM tc) w0 s.heap.size) (va_A w0 s.heap.size)) args s 0 0 (va_A w0 s.heap.size)) (F0 m 146 ls [])) : ∀ q : Int32 × zS, zLP (b_M_work_60 post K) q → ∀ (H : Heap) (locs : List Loc) (ls : Array Slot), va_P D nCl (zM a tc q.2) H → va_D (va_A w0 s.heap.size) (zM a tc q.2) → va_S (va_A w0 s.heap.size) s.heap H locs → lv_has ls 3 [(0, .ref (a 0)), (1, .int q.1)] → W p l e ({ frames := 3, cells := 0, slots := 0, locals := 69 } : Room) s m args below meth c H locs 0 0 (MQ below (va_Qv (zQv (zM a tc) post) (mQW D (ztM tc) w0 s.heap.size) (va_A w0 s.heap.size)) args s 0 0 (va_A w0 s.heap.size)) (F0 m 60 ls []) := by
  refine zLP_walk ?_
  rintro R ⟨y1, σ⟩ hR h H locs ls hP hD hS hl
  dsimp only at hP hD hl
  dsimp only [b_M_work_60] at h
  refine lv_iload_n hx hb nD_M_work_60 rfl (lv_at hl 1 rfl) ?_
  refine lv_ldc (v := (2000000 : Int32)) hx hb hown (hw _ wm_410) nD_M_work_61 ?_
  refine lv_icmp_ge (tgt := 146) hx hb nD_M_work_63 (by decide) (fun hc => ?_) (fun hc => ?_)
  · have h := h.1 hc
    exact hk y1 σ _ _ ls h hP hD hS hl
  · have h := h.2 hc
    refine lv_aload_n hx hb nD_M_work_66 rfl (lv_at hl 0 rfl) ?_
    refine va_get (D := D) (ci := 5) (v := .ref (a 10)) (C := nR_M) (T := nT_M) (N := 23) hx hb hw wu_M hown hK hP 0 yc_0 rfl 15 (by decide) (hw _ wm_438) (fun _ h9 => h9) rfl nD_M_work_67 ?_
    refine lv_aload_n hx hb nD_M_work_70 rfl (lv_at hl 0 rfl) ?_
    refine va_get (D := D) (ci := 5) (v := .int (σ.1 5)) (C := nR_M) (T := nT_M) (N := 23) hx hb hw wu_M hown hK hP 0 yc_0 rfl 12 (by decide) (hw _ wm_435) (fun _ h9 => h9) rfl nD_M_work_71 ?_
    obtain ⟨hi14, h⟩ := h
    refine va_iald (D := D) hx hb hK hP 10 9 yc_10 rfl hi14 nD_M_work_74 ?_
    refine lv_topi (fun v15 e_v15 => ?_)
    have h := h v15 e_v15
    clear e_v15
    refine lv_istore_n hx hb nD_M_work_75 rfl hl (by decide) rfl (fun ls hl => ?_)
    have hl : lv_has ls 3 [(2, .int v15), (0, .ref (a 0)), (1, .int y1)] := hl
    refine lv_iload_n hx hb nD_M_work_76 rfl (lv_at hl 0 rfl) ?_
    refine lv_aload_n hx hb nD_M_work_77 rfl (lv_at hl 1 rfl) ?_
    refine va_get (D := D) (ci := 5) (v := .int (σ.1 4)) (C := nR_M) (T := nT_M) (N := 23) hx hb hw wu_M hown hK hP 0 yc_0 rfl 4 (by decide) (hw _ wm_427) (fun _ h9 => h9) rfl nD_M_work_78 ?_
    refine lv_icmp_ge (tgt := 122) hx hb nD_M_work_81 (by decide) (fun hc => ?_) (fun hc => ?_)
    · have h := h.1 hc
      refine lv_aload_n hx hb nD_M_work_122 rfl (lv_at hl 1 rfl) ?_
      refine va_get (D := D) (ci := 5) (v := .int (σ.1 5)) (C := nR_M) (T := nT_M) (N := 23) hx hb hw wu_M hown hK hP 0 yc_0 rfl 12 (by decide) (hw _ wm_435) (fun _ h9 => h9) rfl nD_M_work_123 ?_
      refine lv_if_ne (tgt := 130) hx hb nD_M_work_126 (by decide) (fun hc => ?_) (fun hc => ?_)
      · have h := h.2 hc
        refine lv_aload_n hx hb nD_M_work_130 rfl (lv_at hl 1 rfl) ?_
        refine lv_dup hx hb nD_M_work_131 rfl ?_
        refine va_get (D := D) (ci := 5) (v := .int (σ.1 5)) (C := nR_M) (T := nT_M) (N := 23) hx hb hw wu_M hown hK hP 0 yc_0 rfl 12 (by decide) (hw _ wm_435) (fun _ h9 => h9) rfl nD_M_work_132 ?_
        refine lv_iconst (v := (1 : Int32)) hx hb nD_M_work_135 (by decide) ?_
        refine lv_isub hx hb nD_M_work_136 ?_
        refine va_put (D := D) (ci := 5) (v := .int ((σ.1 5) - (1 : Int32))) (ty := .int) (C := nR_M) (T := nT_M) (N := 23) hx hb hw wu_M nY_M nO_M nN_M hown hK hP hD hS 0 yc_0 rfl 12 (by decide) (hw _ wm_435) (fun _ h9 => h9) rfl (by decide +kernel) rfl rfl (Nat.le_of_ble_eq_true rfl) nD_M_work_137 (fun H locs hP hD hS => ?_)
        obtain ⟨σ16, e_σ16⟩ : ∃ z : zS, z = zI σ 5 ((σ.1 5) - (1 : Int32)) := ⟨_, rfl⟩
        obtain ⟨hP, hD⟩ := znew (w := zM a tc) e_σ16 (yp_0_12) hP hD
        have h := h σ16 e_σ16
        clear e_σ16
        refine lv_iinc (k := 2) (v := y1 + 1) hx hb nD_M_work_140 hl rfl rfl (by decide) rfl (fun ls hl => ?_)
        have hl : lv_has ls 3 [(1, .int (y1 + 1)), (2, .int v15), (0, .ref (a 0))] := hl
        refine lv_goto (tgt := 60) hx hb nD_M_work_143 (by decide) ?_
        have hl := lv_sub (l' := [(0, .ref (a 0)), (1, .int (y1 + 1))]) hl [2, 0] rfl
        exact hR _ h _ _ ls hP hD hS hl
      · have h := h.1 hc
        exact mw_v hx hb hr hlocks ⟨σ, rfl, h⟩ hP hK hD hS nD_M_work_129
    · have h := h.2 hc
      refine lv_aload_n hx hb nD_M_work_84 rfl (lv_at hl 1 rfl) ?_
      refine va_get (D := D) (ci := 5) (v := .ref (a 10)) (C := nR_M) (T := nT_M) (N := 23) hx hb hw wu_M hown hK hP 0 yc_0 rfl 15 (by decide) (hw _ wm_438) (fun _ h9 => h9) rfl nD_M_work_85 ?_
      refine lv_aload_n hx hb nD_M_work_88 rfl (lv_at hl 1 rfl) ?_
      refine va_get (D := D) (ci := 5) (v := .int (σ.1 5)) (C := nR_M) (T := nT_M) (N := 23) hx hb hw wu_M hown hK hP 0 yc_0 rfl 12 (by decide) (hw _ wm_435) (fun _ h9 => h9) rfl nD_M_work_89 ?_
      refine lv_iload_n hx hb nD_M_work_92 rfl (lv_at hl 0 rfl) ?_
      refine lv_iconst (v := (1 : Int32)) hx hb nD_M_work_93 (by decide) ?_
      refine lv_iadd hx hb nD_M_work_94 ?_
      obtain ⟨hi17, h⟩ := h
      refine va_iast (D := D) hx hb hK hP hD hS 10 9 yc_10 rfl hi17 nD_M_work_95 (fun H locs hP hD hS => ?_)
      obtain ⟨σ18, e_σ18⟩ : ∃ z : zS, z = zA σ 9 (σ.1 5).toNatClampNeg (v15 + (1 : Int32)) := ⟨_, rfl⟩
      obtain ⟨hP, hD⟩ := znew (w := zM a tc) e_σ18 (ya_10) hP hD
      have h := h σ18 e_σ18
      clear e_σ18
      refine lv_aload_n hx hb nD_M_work_96 rfl (lv_at hl 1 rfl) ?_
      refine va_get (D := D) (ci := 5) (v := .ref (a 7)) (C := nR_M) (T := nT_M) (N := 23) hx hb hw wu_M hown hK hP 0 yc_0 rfl 11 (by decide) (hw _ wm_434) (fun _ h9 => h9) rfl nD_M_work_97 ?_
      refine lv_iload_n hx hb nD_M_work_100 rfl (lv_at hl 0 rfl) ?_
      obtain ⟨hi19, h⟩ := h
      refine va_iald (D := D) hx hb hK hP 7 6 yc_7 rfl hi19 nD_M_work_101 ?_
      refine lv_iconst (v := (2 : Int32)) hx hb nD_M_work_102 (by decide) ?_
      refine lv_icmp_eq (tgt := 140) hx hb nD_M_work_103 (by decide) (fun hc => ?_) (fun hc => ?_)
      · have h := h.1 hc
        refine lv_iinc (k := 2) (v := y1 + 1) hx hb nD_M_work_140 hl rfl rfl (by decide) rfl (fun ls hl => ?_)
        have hl : lv_has ls 3 [(1, .int (y1 + 1)), (2, .int v15), (0, .ref (a 0))] := hl
        refine lv_goto (tgt := 60) hx hb nD_M_work_143 (by decide) ?_
        have hl := lv_sub (l' := [(0, .ref (a 0)), (1, .int (y1 + 1))]) hl [2, 0] rfl
        exact hR _ h _ _ ls hP hD hS hl
      · have h := h.2 hc
        refine lv_aload_n hx hb nD_M_work_106 rfl (lv_at hl 1 rfl) ?_
        refine lv_iload_n hx hb nD_M_work_107 rfl (lv_at hl 0 rfl) ?_
        refine zC_i (va_runV (As := [.int v15]) (rest := []) ⟨hx, hb, hml, hown, hw⟩ (c_M_isListed l D tc a v15 σ18 _ h _) (mcV 1 hw wm_409 wm_406 wm_408 wm_15 wm_33 rfl rfl nh_M_isListed ⟨Nat.le_of_ble_eq_true rfl, Nat.le_of_ble_eq_true rfl⟩) (zp_V (ci := 5) hP hD hK hn rfl yc_0) rfl rfl hl.1 rfl (lv_room (Nat.le_of_ble_eq_true rfl)) nD_M_work_108 ⟨Nat.zero_le _, Nat.zero_le _⟩) hD hS hA (fun r21 σ20 H locs h hP hD hS => ?_)
        refine lv_if_ne (tgt := 140) hx hb nD_M_work_111 (by decide) (fun hc => ?_) (fun hc => ?_)
        · have h := h.2 hc
          refine lv_iinc (k := 2) (v := y1 + 1) hx hb nD_M_work_140 hl rfl rfl (by decide) rfl (fun ls hl => ?_)
          have hl : lv_has ls 3 [(1, .int (y1 + 1)), (2, .int v15), (0, .ref (a 0))] := hl
          refine lv_goto (tgt := 60) hx hb nD_M_work_143 (by decide) ?_
          have hl := lv_sub (l' := [(0, .ref (a 0)), (1, .int (y1 + 1))]) hl [2, 0] rfl
          exact hR _ h _ _ ls hP hD hS hl
        · have h := h.1 hc
          refine lv_aload_n hx hb nD_M_work_114 rfl (lv_at hl 1 rfl) ?_
          refine lv_iload_n hx hb nD_M_work_115 rfl (lv_at hl 0 rfl) ?_
          refine zC_v (va_runV (As := [.int v15]) (rest := []) ⟨hx, hb, hml, hown, hw⟩ (c_M_lengthen l D tc a v15 σ20 _ h _) (mcV 1 hw wm_414 wm_411 wm_413 wm_16 wm_33 rfl rfl nh_M_lengthen ⟨Nat.le_of_ble_eq_true rfl, Nat.le_of_ble_eq_true rfl⟩) (zp_V (ci := 5) hP hD hK hn rfl yc_0) rfl rfl hl.1 rfl (lv_room (Nat.le_of_ble_eq_true rfl)) nD_M_work_116 ⟨Nat.zero_le _, Nat.zero_le _⟩) hD hS hA (fun σ22 H locs h hP hD hS => ?_)
          refine lv_goto (tgt := 140) hx hb nD_M_work_119 (by decide) ?_
          refine lv_iinc (k := 2) (v := y1 + 1) hx hb nD_M_work_140 hl rfl rfl (by decide) rfl (fun ls hl => ?_)
          have hl : lv_has ls 3 [(1, .int (y1 + 1)), (2, .int v15), (0, .ref (a 0))] := hl
          refine lv_goto (tgt := 60) hx hb nD_M_work_143 (by decide) ?_
          have hl := lv_sub (l' := [(0, .ref (a 0)), (1, .int (y1 + 1))]) hl [2, 0] rfl
          exact hR _ h _ _ ls hP hD hS hl
set_option maxHeartbeats 4000000 in
set_option maxRecDepth 100000 in
theorem c_M_work (l : Launch) (D : va_G) (tc : Nat → ClassId) (a : Nat → Nat) (σ : zS) (post : zS → Prop) (h : j_M_work  σ post) : mWv l nM_M_work nC_M_work 3 ({ frames := 3, cells := 0, slots := 0, locals := 69 } : Room) D (ztM tc) [.ref (a 0)] (zM a tc σ) (zQv (zM a tc) post) := by
  intro sz
  refine mt_W (by decide) (Nat.le_of_ble_eq_true rfl) ?_
  intro p e s m below meth c ls hx hb hml hr hown hlocks hin hw hn hP hK hD hS hA hl hsz
  subst hsz
  have hl : lv_has ls 3 [(0, .ref (a 0))] := hl
  unfold j_M_work at h
  refine lv_aload_n hx hb nD_M_work_0 rfl (lv_at hl 0 rfl) ?_
  refine lv_lconst (v := (0 : Int64)) hx hb nD_M_work_1 (by decide) ?_
  refine va_put (D := D) (ci := 5) (v := .long (0 : Int64)) (ty := .long) (C := nR_M) (T := nT_M) (N := 23) hx hb hw wu_M nY_M nO_M nN_M hown hK hP hD hS 0 yc_0 rfl 18 (by decide) (hw _ wm_441) (fun _ h9 => h9) rfl (by decide +kernel) rfl rfl (Nat.le_of_ble_eq_true rfl) nD_M_work_2 (fun H locs hP hD hS => ?_)
  obtain ⟨σ1, e_σ1⟩ : ∃ z : zS, z = zT σ (0 : Int64) := ⟨_, rfl⟩
  obtain ⟨hP, hD⟩ := znew (w := zM a tc) e_σ1 (yp_0_18) hP hD
  have h := h σ1 e_σ1
  clear e_σ1
  refine lv_aload_n hx hb nD_M_work_5 rfl (lv_at hl 0 rfl) ?_
  refine lv_iconst (v := (0 : Int32)) hx hb nD_M_work_6 (by decide) ?_
  refine va_put (D := D) (ci := 5) (v := .int (0 : Int32)) (ty := .int) (C := nR_M) (T := nT_M) (N := 23) hx hb hw wu_M nY_M nO_M nN_M hown hK hP hD hS 0 yc_0 rfl 19 (by decide) (hw _ wm_442) (fun _ h9 => h9) rfl (by decide +kernel) rfl rfl (Nat.le_of_ble_eq_true rfl) nD_M_work_7 (fun H locs hP hD hS => ?_)
  obtain ⟨σ2, e_σ2⟩ : ∃ z : zS, z = zI σ1 7 (0 : Int32) := ⟨_, rfl⟩
  obtain ⟨hP, hD⟩ := znew (w := zM a tc) e_σ2 (yp_0_19) hP hD
  have h := h σ2 e_σ2
  clear e_σ2
  refine lv_iconst (v := (0 : Int32)) hx hb nD_M_work_10 (by decide) ?_
  refine lv_istore_n hx hb nD_M_work_11 rfl hl (by decide) rfl (fun ls hl => ?_)
  have hl : lv_has ls 3 [(1, .int (0 : Int32)), (0, .ref (a 0))] := hl
  have hl := lv_sub (l' := [(0, .ref (a 0)), (1, .int (0 : Int32))]) hl [1, 0] rfl
  refine wl_M_work_12 (l := l) post _ hx hb hml hr hown hlocks hw hn hK hA (fun v7 σ8 H locs ls h hP hD hS hl => ?_) ((0 : Int32), σ2) h _ _ ls hP hD hS hl
  refine lv_aload_n hx hb nD_M_work_37 rfl (lv_at hl 0 rfl) ?_
  refine lv_iconst (v := (0 : Int32)) hx hb nD_M_work_38 (by decide) ?_
  refine va_put (D := D) (ci := 5) (v := .int (0 : Int32)) (ty := .int) (C := nR_M) (T := nT_M) (N := 23) hx hb hw wu_M nY_M nO_M nN_M hown hK hP hD hS 0 yc_0 rfl 12 (by decide) (hw _ wm_435) (fun _ h9 => h9) rfl (by decide +kernel) rfl rfl (Nat.le_of_ble_eq_true rfl) nD_M_work_39 (fun H locs hP hD hS => ?_)
  obtain ⟨σ9, e_σ9⟩ : ∃ z : zS, z = zI σ8 5 (0 : Int32) := ⟨_, rfl⟩
  obtain ⟨hP, hD⟩ := znew (w := zM a tc) e_σ9 (yp_0_12) hP hD
  have h := h σ9 e_σ9
  clear e_σ9
  refine lv_aload_n hx hb nD_M_work_42 rfl (lv_at hl 0 rfl) ?_
  refine va_get (D := D) (ci := 5) (v := .ref (a 10)) (C := nR_M) (T := nT_M) (N := 23) hx hb hw wu_M hown hK hP 0 yc_0 rfl 15 (by decide) (hw _ wm_438) (fun _ h9 => h9) rfl nD_M_work_43 ?_
  refine lv_iconst (v := (0 : Int32)) hx hb nD_M_work_46 (by decide) ?_
  refine lv_iconst (v := (0 : Int32)) hx hb nD_M_work_47 (by decide) ?_
  obtain ⟨hi10, h⟩ := h
  refine va_iast (D := D) hx hb hK hP hD hS 10 9 yc_10 rfl hi10 nD_M_work_48 (fun H locs hP hD hS => ?_)
  obtain ⟨σ11, e_σ11⟩ : ∃ z : zS, z = zA σ9 9 (0 : Int32).toNatClampNeg (0 : Int32) := ⟨_, rfl⟩
  obtain ⟨hP, hD⟩ := znew (w := zM a tc) e_σ11 (ya_10) hP hD
  have h := h σ11 e_σ11
  clear e_σ11
  refine lv_aload_n hx hb nD_M_work_49 rfl (lv_at hl 0 rfl) ?_
  refine lv_iconst (v := (0 : Int32)) hx hb nD_M_work_50 (by decide) ?_
  refine va_put (D := D) (ci := 5) (v := .int (0 : Int32)) (ty := .int) (C := nR_M) (T := nT_M) (N := 23) hx hb hw wu_M nY_M nO_M nN_M hown hK hP hD hS 0 yc_0 rfl 16 (by decide) (hw _ wm_439) (fun _ h9 => h9) rfl (by decide +kernel) rfl rfl (Nat.le_of_ble_eq_true rfl) nD_M_work_51 (fun H locs hP hD hS => ?_)
  obtain ⟨σ12, e_σ12⟩ : ∃ z : zS, z = zI σ11 6 (0 : Int32) := ⟨_, rfl⟩
  obtain ⟨hP, hD⟩ := znew (w := zM a tc) e_σ12 (yp_0_16) hP hD
  have h := h σ12 e_σ12
  clear e_σ12
  refine lv_aload_n hx hb nD_M_work_54 rfl (lv_at hl 0 rfl) ?_
  refine zC_v (va_runV (As := []) (rest := []) ⟨hx, hb, hml, hown, hw⟩ (c_M_note l D tc a σ12 _ h _) (mcV 0 hw wm_405 wm_402 wm_404 wm_14 wm_33 rfl rfl nh_M_note ⟨Nat.le_of_ble_eq_true rfl, Nat.le_of_ble_eq_true rfl⟩) (zp_V (ci := 5) hP hD hK hn rfl yc_0) rfl rfl hl.1 rfl (lv_room (Nat.le_of_ble_eq_true rfl)) nD_M_work_55 ⟨Nat.zero_le _, Nat.zero_le _⟩) hD hS hA (fun σ13 H locs h hP hD hS => ?_)
  refine lv_iconst (v := (0 : Int32)) hx hb nD_M_work_58 (by decide) ?_
  refine lv_istore_n hx hb nD_M_work_59 rfl hl (by decide) rfl (fun ls hl => ?_)
  have hl : lv_has ls 3 [(1, .int (0 : Int32)), (0, .ref (a 0))] := hl
  have hl := lv_sub (l' := [(0, .ref (a 0)), (1, .int (0 : Int32))]) hl [1, 0] rfl
  refine wl_M_work_60 (l := l) post _ hx hb hml hr hown hlocks hw hn hK hA (fun v23 σ24 H locs ls h hP hD hS hl => ?_) ((0 : Int32), σ13) h _ _ ls hP hD hS hl
  exact mw_v hx hb hr hlocks ⟨σ24, rfl, h⟩ hP hK hD hS nD_M_work_146
