set_option maxHeartbeats 4000000 in
set_option maxRecDepth 100000 in
theorem c_X3_clear (l : Launch) (D : va_G) (tc : Nat → ClassId) (a : Nat → Nat) (σ : zS) (post : zS → Prop) (h : j_X3_clear  σ post) : mWv l nM_X3_clear nC_X3_clear 1 ({ frames := 1, cells := 0, slots := 0, locals := 23 } : Room) D (ztX tc) [.ref (a 6)] (zX a tc σ) (zQv (zX a tc) post) := by
  intro sz
  refine mt_W (by decide) (Nat.le_of_ble_eq_true rfl) ?_
  intro p e s m below meth c ls hx hb hml hr hown hlocks hin hw hn hP hK hD hS hA hl hsz
  subst hsz
  have hl : lv_has ls 1 [(0, .ref (a 6))] := hl
  unfold j_X3_clear at h
  refine lv_aload_n hx hb nD_X3_clear_0 rfl (lv_at hl 0 rfl) ?_
  refine va_get (D := D) (ci := 2) (v := .ref (a 8)) (C := nR_X3) (T := nT_X3) (N := 3) hx hb hw wu_X3 hown hK hP 6 xc_6 rfl 1 (by decide) (hw _ wm_71) (fun _ h9 => h9) rfl nD_X3_clear_1 ?_
  refine lv_iconst (v := (0 : Int32)) hx hb nD_X3_clear_4 (by decide) ?_
  refine zC_fill (q0 := 8) (t0 := 4) (rest := []) ⟨hx, hb, hml, hown, hw⟩ wm_155 (by decide) hK hn hP hD hS hA xc_8 rfl hl.1 (lv_room (Nat.le_of_ble_eq_true rfl)) nD_X3_clear_5 ⟨Nat.le_of_ble_eq_true rfl, Nat.le_of_ble_eq_true rfl⟩ ⟨Nat.zero_le _, Nat.zero_le _⟩ wm_142 wm_141 wm_31 (fun H locs hP hD hS => ?_)
  obtain ⟨σ1, e_σ1⟩ : ∃ z : zS, z = zF σ 4 (zfl (σ.2.1 4) 1024 (0 : Int32)) := ⟨_, rfl⟩
  obtain ⟨hP, hD⟩ := znew (w := zX a tc) e_σ1 (xf_8) hP hD
  have h := h σ1 e_σ1
  clear e_σ1
  refine lv_aload_n hx hb nD_X3_clear_8 rfl (lv_at hl 0 rfl) ?_
  refine lv_iconst (v := (0 : Int32)) hx hb nD_X3_clear_9 (by decide) ?_
  refine va_put (D := D) (ci := 2) (v := .int (0 : Int32)) (ty := .int) (C := nR_X3) (T := nT_X3) (N := 3) hx hb hw wu_X3 nY_X3 nO_X3 nN_X3 hown hK hP hD hS 6 xc_6 rfl 2 (by decide) (hw _ wm_72) (fun _ h9 => h9) rfl (by decide +kernel) rfl rfl (Nat.le_of_ble_eq_true rfl) nD_X3_clear_10 (fun H locs hP hD hS => ?_)
  obtain ⟨σ2, e_σ2⟩ : ∃ z : zS, z = zI σ1 8 (0 : Int32) := ⟨_, rfl⟩
  obtain ⟨hP, hD⟩ := znew (w := zX a tc) e_σ2 (xp_6_2) hP hD
  have h := h σ2 e_σ2
  clear e_σ2
  exact mw_v hx hb hr hlocks ⟨σ2, rfl, h⟩ hP hK hD hS nD_X3_clear_13
set_option maxHeartbeats 4000000 in
set_option maxRecDepth 100000 in
theorem wl_X3_add_13 {l : Launch} {p : Program} {e : Env} {s : State} {m : MethodId} {args : Array Value} {below : List Frame} {meth : Method} {c : Code} {D : va_G} {tc : Nat → ClassId} {a : Nat → Nat} {w0 : va_W} (x1 : Int64) (post : zS → Prop) (K : Int32 → Int32 → zS → Prop) (hx : p.tables.exec = Jvm.exec) (hb : c.code = nC_X3_add) (hml : c.maxLocals = 6) (hr : meth.sig.returnType = none) (hown : s.vm.findClass nM_X3_add.cls = some m.cls) (hlocks : meth.locks = false) (hw : ∀ w ∈ wA, w.before args s = true) (hn : mN s) (hK : va_K D nCl (ztX tc) s) (hA : ∀ q, s.heap.size ≤ q → va_A w0 s.heap.size q)
    (hk : ∀ (y3 : Int32) (y4 : Int32) (σ : zS) (H : Heap) (locs : List Loc) (ls : Array Slot), K y3 y4 σ → va_P D nCl (zX a tc σ) H → va_D (va_A w0 s.heap.size) (zX a tc σ) → va_S (va_A w0 s.heap.size) s.heap H locs → lv_has ls 6 [(0, .ref (a 6)), (1, .long x1), (3, .int y3), (4, .int y4)] → W p l e ({ frames := 0, cells := 0, slots := 0, locals := 0 } : Room) s m args below meth c H locs 0 0 (MQ below (va_Qv (zQv (zX a tc) post) (mQW D (ztX tc) w0 s.heap.size) (va_A w0 s.heap.size)) args s 0 0 (va_A w0 s.heap.size)) (F0 m 109 ls [])) : ∀ q : Int32 × Int32 × zS, zLP (b_X3_add_13 x1 post K) q → ∀ (H : Heap) (locs : List Loc) (ls : Array Slot), va_P D nCl (zX a tc q.2.2) H → va_D (va_A w0 s.heap.size) (zX a tc q.2.2) → va_S (va_A w0 s.heap.size) s.heap H locs → lv_has ls 6 [(0, .ref (a 6)), (1, .long x1), (3, .int q.1), (4, .int q.2.1)] → W p l e ({ frames := 0, cells := 0, slots := 0, locals := 0 } : Room) s m args below meth c H locs 0 0 (MQ below (va_Qv (zQv (zX a tc) post) (mQW D (ztX tc) w0 s.heap.size) (va_A w0 s.heap.size)) args s 0 0 (va_A w0 s.heap.size)) (F0 m 13 ls []) := by
  refine zLP_walk ?_
  rintro R ⟨y3, y4, σ⟩ hR h H locs ls hP hD hS hl
  dsimp only at hP hD hl
  dsimp only [b_X3_add_13] at h
  refine lv_iload hx hb nD_X3_add_13 (lv_at hl 3 rfl) ?_
  refine lv_sipush (v := (1024 : Int32)) hx hb nD_X3_add_15 (by decide) ?_
  refine lv_icmp_ge (tgt := 109) hx hb nD_X3_add_18 (by decide) (fun hc => ?_) (fun hc => ?_)
  · have h := h.1 hc
    exact hk y3 y4 σ _ _ ls h hP hD hS hl
  · have h := h.2 hc
    refine lv_aload_n hx hb nD_X3_add_21 rfl (lv_at hl 0 rfl) ?_
    refine va_get (D := D) (ci := 2) (v := .ref (a 8)) (C := nR_X3) (T := nT_X3) (N := 3) hx hb hw wu_X3 hown hK hP 6 xc_6 rfl 1 (by decide) (hw _ wm_71) (fun _ h9 => h9) rfl nD_X3_add_22 ?_
    refine lv_iload_n hx hb nD_X3_add_25 rfl (lv_at hl 2 rfl) ?_
    obtain ⟨hi2, h⟩ := h
    refine va_iald (D := D) hx hb hK hP 8 4 xc_8 rfl hi2 nD_X3_add_26 ?_
    refine lv_topi (fun v3 e_v3 => ?_)
    have h := h v3 e_v3
    clear e_v3
    refine lv_istore hx hb nD_X3_add_27 hl (by decide) rfl (fun ls hl => ?_)
    have hl : lv_has ls 6 [(5, .int v3), (0, .ref (a 6)), (1, .long x1), (3, .int y3), (4, .int y4)] := hl
    refine lv_iload hx hb nD_X3_add_29 (lv_at hl 0 rfl) ?_
    refine lv_if_eq (tgt := 49) hx hb nD_X3_add_31 (by decide) (fun hc => ?_) (fun hc => ?_)
    · have h := h.1 hc
      refine lv_iload hx hb nD_X3_add_49 (lv_at hl 0 rfl) ?_
      refine lv_if_ne (tgt := 95) hx hb nD_X3_add_51 (by decide) (fun hc => ?_) (fun hc => ?_)
      · have h := h.2 hc
        refine lv_iload_n hx hb nD_X3_add_95 rfl (lv_at hl 3 rfl) ?_
        refine lv_iconst (v := (1 : Int32)) hx hb nD_X3_add_96 (by decide) ?_
        refine lv_iadd hx hb nD_X3_add_97 ?_
        refine lv_sipush (v := (1024 : Int32)) hx hb nD_X3_add_98 (by decide) ?_
        refine lv_irem hx hb nD_X3_add_101 (by decide) ?_
        refine lv_topi (fun v4 e_v4 => ?_)
        have h := h v4 e_v4
        clear e_v4
        refine lv_istore_n hx hb nD_X3_add_102 rfl hl (by decide) rfl (fun ls hl => ?_)
        have hl : lv_has ls 6 [(3, .int v4), (5, .int v3), (0, .ref (a 6)), (1, .long x1), (4, .int y4)] := hl
        refine lv_iinc (k := 4) (v := y4 + 1) hx hb nD_X3_add_103 hl rfl rfl (by decide) rfl (fun ls hl => ?_)
        have hl : lv_has ls 6 [(4, .int (y4 + 1)), (3, .int v4), (5, .int v3), (0, .ref (a 6)), (1, .long x1)] := hl
        refine lv_goto (tgt := 13) hx hb nD_X3_add_106 (by decide) ?_
        have hl := lv_sub (l' := [(0, .ref (a 6)), (1, .long x1), (3, .int v4), (4, .int (y4 + 1))]) hl [3, 4, 1, 0] rfl
        exact hR _ h _ _ ls hP hD hS hl
      · have h := h.1 hc
        refine lv_aload_n hx hb nD_X3_add_54 rfl (lv_at hl 1 rfl) ?_
        refine va_get (D := D) (ci := 2) (v := .int (σ.1 8)) (C := nR_X3) (T := nT_X3) (N := 3) hx hb hw wu_X3 hown hK hP 6 xc_6 rfl 2 (by decide) (hw _ wm_72) (fun _ h9 => h9) rfl nD_X3_add_55 ?_
        refine lv_sipush (v := (680 : Int32)) hx hb nD_X3_add_58 (by decide) ?_
        refine lv_icmp_ge (tgt := 95) hx hb nD_X3_add_61 (by decide) (fun hc => ?_) (fun hc => ?_)
        · have h := h.1 hc
          refine lv_iload_n hx hb nD_X3_add_95 rfl (lv_at hl 3 rfl) ?_
          refine lv_iconst (v := (1 : Int32)) hx hb nD_X3_add_96 (by decide) ?_
          refine lv_iadd hx hb nD_X3_add_97 ?_
          refine lv_sipush (v := (1024 : Int32)) hx hb nD_X3_add_98 (by decide) ?_
          refine lv_irem hx hb nD_X3_add_101 (by decide) ?_
          refine lv_topi (fun v5 e_v5 => ?_)
          have h := h v5 e_v5
          clear e_v5
          refine lv_istore_n hx hb nD_X3_add_102 rfl hl (by decide) rfl (fun ls hl => ?_)
          have hl : lv_has ls 6 [(3, .int v5), (5, .int v3), (0, .ref (a 6)), (1, .long x1), (4, .int y4)] := hl
          refine lv_iinc (k := 4) (v := y4 + 1) hx hb nD_X3_add_103 hl rfl rfl (by decide) rfl (fun ls hl => ?_)
          have hl : lv_has ls 6 [(4, .int (y4 + 1)), (3, .int v5), (5, .int v3), (0, .ref (a 6)), (1, .long x1)] := hl
          refine lv_goto (tgt := 13) hx hb nD_X3_add_106 (by decide) ?_
          have hl := lv_sub (l' := [(0, .ref (a 6)), (1, .long x1), (3, .int v5), (4, .int (y4 + 1))]) hl [3, 4, 1, 0] rfl
          exact hR _ h _ _ ls hP hD hS hl
        · have h := h.2 hc
          refine lv_aload_n hx hb nD_X3_add_64 rfl (lv_at hl 1 rfl) ?_
          refine va_get (D := D) (ci := 2) (v := .ref (a 7)) (C := nR_X3) (T := nT_X3) (N := 3) hx hb hw wu_X3 hown hK hP 6 xc_6 rfl 0 (by decide) (hw _ wm_70) (fun _ h9 => h9) rfl nD_X3_add_65 ?_
          refine lv_aload_n hx hb nD_X3_add_68 rfl (lv_at hl 1 rfl) ?_
          refine va_get (D := D) (ci := 2) (v := .int (σ.1 8)) (C := nR_X3) (T := nT_X3) (N := 3) hx hb hw wu_X3 hown hK hP 6 xc_6 rfl 2 (by decide) (hw _ wm_72) (fun _ h9 => h9) rfl nD_X3_add_69 ?_
          refine lv_lload_n hx hb nD_X3_add_72 rfl (lv_at hl 2 rfl) ?_
          obtain ⟨hi6, h⟩ := h
          refine va_last (D := D) hx hb hK hP hD hS 7 3 xc_7 rfl hi6 nD_X3_add_73 (fun H locs hP hD hS => ?_)
          obtain ⟨σ7, e_σ7⟩ : ∃ z : zS, z = zL σ 0 (σ.1 8).toNatClampNeg x1 := ⟨_, rfl⟩
          obtain ⟨hP, hD⟩ := znew (w := zX a tc) e_σ7 (xa_7) hP hD
          have h := h σ7 e_σ7
          clear e_σ7
          refine lv_aload_n hx hb nD_X3_add_74 rfl (lv_at hl 1 rfl) ?_
          refine lv_dup hx hb nD_X3_add_75 rfl ?_
          refine va_get (D := D) (ci := 2) (v := .int (σ7.1 8)) (C := nR_X3) (T := nT_X3) (N := 3) hx hb hw wu_X3 hown hK hP 6 xc_6 rfl 2 (by decide) (hw _ wm_72) (fun _ h9 => h9) rfl nD_X3_add_76 ?_
          refine lv_iconst (v := (1 : Int32)) hx hb nD_X3_add_79 (by decide) ?_
          refine lv_iadd hx hb nD_X3_add_80 ?_
          refine va_put (D := D) (ci := 2) (v := .int ((σ7.1 8) + (1 : Int32))) (ty := .int) (C := nR_X3) (T := nT_X3) (N := 3) hx hb hw wu_X3 nY_X3 nO_X3 nN_X3 hown hK hP hD hS 6 xc_6 rfl 2 (by decide) (hw _ wm_72) (fun _ h9 => h9) rfl (by decide +kernel) rfl rfl (Nat.le_of_ble_eq_true rfl) nD_X3_add_81 (fun H locs hP hD hS => ?_)
          obtain ⟨σ8, e_σ8⟩ : ∃ z : zS, z = zI σ7 8 ((σ7.1 8) + (1 : Int32)) := ⟨_, rfl⟩
          obtain ⟨hP, hD⟩ := znew (w := zX a tc) e_σ8 (xp_6_2) hP hD
          have h := h σ8 e_σ8
          clear e_σ8
          refine lv_aload_n hx hb nD_X3_add_84 rfl (lv_at hl 1 rfl) ?_
          refine va_get (D := D) (ci := 2) (v := .ref (a 8)) (C := nR_X3) (T := nT_X3) (N := 3) hx hb hw wu_X3 hown hK hP 6 xc_6 rfl 1 (by decide) (hw _ wm_71) (fun _ h9 => h9) rfl nD_X3_add_85 ?_
          refine lv_iload_n hx hb nD_X3_add_88 rfl (lv_at hl 3 rfl) ?_
          refine lv_aload_n hx hb nD_X3_add_89 rfl (lv_at hl 1 rfl) ?_
          refine va_get (D := D) (ci := 2) (v := .int (σ8.1 8)) (C := nR_X3) (T := nT_X3) (N := 3) hx hb hw wu_X3 hown hK hP 6 xc_6 rfl 2 (by decide) (hw _ wm_72) (fun _ h9 => h9) rfl nD_X3_add_90 ?_
          obtain ⟨hi9, h⟩ := h
          refine va_iast (D := D) hx hb hK hP hD hS 8 4 xc_8 rfl hi9 nD_X3_add_93 (fun H locs hP hD hS => ?_)
          obtain ⟨σ10, e_σ10⟩ : ∃ z : zS, z = zA σ8 4 y3.toNatClampNeg (σ8.1 8) := ⟨_, rfl⟩
          obtain ⟨hP, hD⟩ := znew (w := zX a tc) e_σ10 (xa_8) hP hD
          have h := h σ10 e_σ10
          clear e_σ10
          exact mw_v hx hb hr hlocks ⟨σ10, rfl, h⟩ hP hK hD hS nD_X3_add_94
    · have h := h.2 hc
      refine lv_aload_n hx hb nD_X3_add_34 rfl (lv_at hl 1 rfl) ?_
      refine va_get (D := D) (ci := 2) (v := .ref (a 7)) (C := nR_X3) (T := nT_X3) (N := 3) hx hb hw wu_X3 hown hK hP 6 xc_6 rfl 0 (by decide) (hw _ wm_70) (fun _ h9 => h9) rfl nD_X3_add_35 ?_
      refine lv_iload hx hb nD_X3_add_38 (lv_at hl 0 rfl) ?_
      refine lv_iconst (v := (1 : Int32)) hx hb nD_X3_add_40 (by decide) ?_
      refine lv_isub hx hb nD_X3_add_41 ?_
      obtain ⟨hi11, h⟩ := h
      refine va_lald (D := D) hx hb hK hP 7 3 xc_7 rfl hi11 nD_X3_add_42 ?_
      refine lv_lload_n hx hb nD_X3_add_43 rfl (lv_at hl 2 rfl) ?_
      refine W.lcmp hx hb nD_X3_add_44 ?_
      refine lv_if_ne (tgt := 49) hx hb nD_X3_add_45 (by decide) (fun hc => ?_) (fun hc => ?_)
      · have h := h.2 hc
        refine lv_iload hx hb nD_X3_add_49 (lv_at hl 0 rfl) ?_
        refine lv_if_ne (tgt := 95) hx hb nD_X3_add_51 (by decide) (fun hc => ?_) (fun hc => ?_)
        · have h := h.2 hc
          refine lv_iload_n hx hb nD_X3_add_95 rfl (lv_at hl 3 rfl) ?_
          refine lv_iconst (v := (1 : Int32)) hx hb nD_X3_add_96 (by decide) ?_
          refine lv_iadd hx hb nD_X3_add_97 ?_
          refine lv_sipush (v := (1024 : Int32)) hx hb nD_X3_add_98 (by decide) ?_
          refine lv_irem hx hb nD_X3_add_101 (by decide) ?_
          refine lv_topi (fun v12 e_v12 => ?_)
          have h := h v12 e_v12
          clear e_v12
          refine lv_istore_n hx hb nD_X3_add_102 rfl hl (by decide) rfl (fun ls hl => ?_)
          have hl : lv_has ls 6 [(3, .int v12), (5, .int v3), (0, .ref (a 6)), (1, .long x1), (4, .int y4)] := hl
          refine lv_iinc (k := 4) (v := y4 + 1) hx hb nD_X3_add_103 hl rfl rfl (by decide) rfl (fun ls hl => ?_)
          have hl : lv_has ls 6 [(4, .int (y4 + 1)), (3, .int v12), (5, .int v3), (0, .ref (a 6)), (1, .long x1)] := hl
          refine lv_goto (tgt := 13) hx hb nD_X3_add_106 (by decide) ?_
          have hl := lv_sub (l' := [(0, .ref (a 6)), (1, .long x1), (3, .int v12), (4, .int (y4 + 1))]) hl [3, 4, 1, 0] rfl
          exact hR _ h _ _ ls hP hD hS hl
        · have h := h.1 hc
          refine lv_aload_n hx hb nD_X3_add_54 rfl (lv_at hl 1 rfl) ?_
          refine va_get (D := D) (ci := 2) (v := .int (σ.1 8)) (C := nR_X3) (T := nT_X3) (N := 3) hx hb hw wu_X3 hown hK hP 6 xc_6 rfl 2 (by decide) (hw _ wm_72) (fun _ h9 => h9) rfl nD_X3_add_55 ?_
          refine lv_sipush (v := (680 : Int32)) hx hb nD_X3_add_58 (by decide) ?_
          refine lv_icmp_ge (tgt := 95) hx hb nD_X3_add_61 (by decide) (fun hc => ?_) (fun hc => ?_)
          · have h := h.1 hc
            refine lv_iload_n hx hb nD_X3_add_95 rfl (lv_at hl 3 rfl) ?_
            refine lv_iconst (v := (1 : Int32)) hx hb nD_X3_add_96 (by decide) ?_
            refine lv_iadd hx hb nD_X3_add_97 ?_
            refine lv_sipush (v := (1024 : Int32)) hx hb nD_X3_add_98 (by decide) ?_
            refine lv_irem hx hb nD_X3_add_101 (by decide) ?_
            refine lv_topi (fun v13 e_v13 => ?_)
            have h := h v13 e_v13
            clear e_v13
            refine lv_istore_n hx hb nD_X3_add_102 rfl hl (by decide) rfl (fun ls hl => ?_)
            have hl : lv_has ls 6 [(3, .int v13), (5, .int v3), (0, .ref (a 6)), (1, .long x1), (4, .int y4)] := hl
            refine lv_iinc (k := 4) (v := y4 + 1) hx hb nD_X3_add_103 hl rfl rfl (by decide) rfl (fun ls hl => ?_)
            have hl : lv_has ls 6 [(4, .int (y4 + 1)), (3, .int v13), (5, .int v3), (0, .ref (a 6)), (1, .long x1)] := hl
            refine lv_goto (tgt := 13) hx hb nD_X3_add_106 (by decide) ?_
            have hl := lv_sub (l' := [(0, .ref (a 6)), (1, .long x1), (3, .int v13), (4, .int (y4 + 1))]) hl [3, 4, 1, 0] rfl
            exact hR _ h _ _ ls hP hD hS hl
          · have h := h.2 hc
            refine lv_aload_n hx hb nD_X3_add_64 rfl (lv_at hl 1 rfl) ?_
            refine va_get (D := D) (ci := 2) (v := .ref (a 7)) (C := nR_X3) (T := nT_X3) (N := 3) hx hb hw wu_X3 hown hK hP 6 xc_6 rfl 0 (by decide) (hw _ wm_70) (fun _ h9 => h9) rfl nD_X3_add_65 ?_
            refine lv_aload_n hx hb nD_X3_add_68 rfl (lv_at hl 1 rfl) ?_
            refine va_get (D := D) (ci := 2) (v := .int (σ.1 8)) (C := nR_X3) (T := nT_X3) (N := 3) hx hb hw wu_X3 hown hK hP 6 xc_6 rfl 2 (by decide) (hw _ wm_72) (fun _ h9 => h9) rfl nD_X3_add_69 ?_
            refine lv_lload_n hx hb nD_X3_add_72 rfl (lv_at hl 2 rfl) ?_
            obtain ⟨hi14, h⟩ := h
            refine va_last (D := D) hx hb hK hP hD hS 7 3 xc_7 rfl hi14 nD_X3_add_73 (fun H locs hP hD hS => ?_)
            obtain ⟨σ15, e_σ15⟩ : ∃ z : zS, z = zL σ 0 (σ.1 8).toNatClampNeg x1 := ⟨_, rfl⟩
            obtain ⟨hP, hD⟩ := znew (w := zX a tc) e_σ15 (xa_7) hP hD
            have h := h σ15 e_σ15
            clear e_σ15
            refine lv_aload_n hx hb nD_X3_add_74 rfl (lv_at hl 1 rfl) ?_
            refine lv_dup hx hb nD_X3_add_75 rfl ?_
            refine va_get (D := D) (ci := 2) (v := .int (σ15.1 8)) (C := nR_X3) (T := nT_X3) (N := 3) hx hb hw wu_X3 hown hK hP 6 xc_6 rfl 2 (by decide) (hw _ wm_72) (fun _ h9 => h9) rfl nD_X3_add_76 ?_
            refine lv_iconst (v := (1 : Int32)) hx hb nD_X3_add_79 (by decide) ?_
            refine lv_iadd hx hb nD_X3_add_80 ?_
            refine va_put (D := D) (ci := 2) (v := .int ((σ15.1 8) + (1 : Int32))) (ty := .int) (C := nR_X3) (T := nT_X3) (N := 3) hx hb hw wu_X3 nY_X3 nO_X3 nN_X3 hown hK hP hD hS 6 xc_6 rfl 2 (by decide) (hw _ wm_72) (fun _ h9 => h9) rfl (by decide +kernel) rfl rfl (Nat.le_of_ble_eq_true rfl) nD_X3_add_81 (fun H locs hP hD hS => ?_)
            obtain ⟨σ16, e_σ16⟩ : ∃ z : zS, z = zI σ15 8 ((σ15.1 8) + (1 : Int32)) := ⟨_, rfl⟩
            obtain ⟨hP, hD⟩ := znew (w := zX a tc) e_σ16 (xp_6_2) hP hD
            have h := h σ16 e_σ16
            clear e_σ16
            refine lv_aload_n hx hb nD_X3_add_84 rfl (lv_at hl 1 rfl) ?_
            refine va_get (D := D) (ci := 2) (v := .ref (a 8)) (C := nR_X3) (T := nT_X3) (N := 3) hx hb hw wu_X3 hown hK hP 6 xc_6 rfl 1 (by decide) (hw _ wm_71) (fun _ h9 => h9) rfl nD_X3_add_85 ?_
            refine lv_iload_n hx hb nD_X3_add_88 rfl (lv_at hl 3 rfl) ?_
            refine lv_aload_n hx hb nD_X3_add_89 rfl (lv_at hl 1 rfl) ?_
            refine va_get (D := D) (ci := 2) (v := .int (σ16.1 8)) (C := nR_X3) (T := nT_X3) (N := 3) hx hb hw wu_X3 hown hK hP 6 xc_6 rfl 2 (by decide) (hw _ wm_72) (fun _ h9 => h9) rfl nD_X3_add_90 ?_
            obtain ⟨hi17, h⟩ := h
            refine va_iast (D := D) hx hb hK hP hD hS 8 4 xc_8 rfl hi17 nD_X3_add_93 (fun H locs hP hD hS => ?_)
            obtain ⟨σ18, e_σ18⟩ : ∃ z : zS, z = zA σ16 4 y3.toNatClampNeg (σ16.1 8) := ⟨_, rfl⟩
            obtain ⟨hP, hD⟩ := znew (w := zX a tc) e_σ18 (xa_8) hP hD
            have h := h σ18 e_σ18
            clear e_σ18
            exact mw_v hx hb hr hlocks ⟨σ18, rfl, h⟩ hP hK hD hS nD_X3_add_94
      · have h := h.1 hc
        exact mw_v hx hb hr hlocks ⟨σ, rfl, h⟩ hP hK hD hS nD_X3_add_48
set_option maxHeartbeats 4000000 in
set_option maxRecDepth 100000 in
theorem c_X3_add (l : Launch) (D : va_G) (tc : Nat → ClassId) (a : Nat → Nat) (x1 : Int64) (σ : zS) (post : zS → Prop) (h : j_X3_add x1 σ post) : mWv l nM_X3_add nC_X3_add 6 ({ frames := 0, cells := 0, slots := 0, locals := 0 } : Room) D (ztX tc) [.ref (a 6), .long x1] (zX a tc σ) (zQv (zX a tc) post) := by
  intro sz
  refine mt_W (by decide) (Nat.le_of_ble_eq_true rfl) ?_
  intro p e s m below meth c ls hx hb hml hr hown hlocks hin hw hn hP hK hD hS hA hl hsz
  subst hsz
  have hl : lv_has ls 6 [(0, .ref (a 6)), (1, .long x1)] := hl
  unfold j_X3_add at h
  refine lv_lload_n hx hb nD_X3_add_0 rfl (lv_at hl 1 rfl) ?_
  refine lv_ldc2 (v := (-7046029254386353131 : Int64)) hx hb hown (hw _ wm_173) nD_X3_add_1 ?_
  refine lv_lmul hx hb nD_X3_add_4 ?_
  refine lv_bipush (v := (54 : Int32)) hx hb nD_X3_add_5 (by decide) ?_
  refine lv_lushr (v := ((x1 * (-7046029254386353131 : Int64)).toUInt64 >>> ((54 : Int32).toInt64.toUInt64 &&& Int64.toUInt64 63)).toInt64) hx hb nD_X3_add_7 rfl ?_
  refine lv_l2i (v := (((x1 * (-7046029254386353131 : Int64)).toUInt64 >>> ((54 : Int32).toInt64.toUInt64 &&& Int64.toUInt64 63)).toInt64).toInt32) hx hb nD_X3_add_8 rfl ?_
  refine lv_topi (fun v1 e_v1 => ?_)
  have h := h v1 e_v1
  clear e_v1
  refine lv_istore_n hx hb nD_X3_add_9 rfl hl (by decide) rfl (fun ls hl => ?_)
  have hl : lv_has ls 6 [(3, .int v1), (0, .ref (a 6)), (1, .long x1)] := hl
  refine lv_iconst (v := (0 : Int32)) hx hb nD_X3_add_10 (by decide) ?_
  refine lv_istore hx hb nD_X3_add_11 hl (by decide) rfl (fun ls hl => ?_)
  have hl : lv_has ls 6 [(4, .int (0 : Int32)), (3, .int v1), (0, .ref (a 6)), (1, .long x1)] := hl
  have hl := lv_sub (l' := [(0, .ref (a 6)), (1, .long x1), (3, .int v1), (4, .int (0 : Int32))]) hl [2, 3, 1, 0] rfl
  refine wl_X3_add_13 (l := l) x1 post _ hx hb hml hr hown hlocks hw hn hK hA (fun v19 v20 σ21 H locs ls h hP hD hS hl => ?_) (v1, (0 : Int32), σ) h _ _ ls hP hD hS hl
  exact mw_v hx hb hr hlocks ⟨σ21, rfl, h⟩ hP hK hD hS nD_X3_add_109
set_option maxHeartbeats 4000000 in
set_option maxRecDepth 100000 in
theorem wl_X3_shortest_4 {l : Launch} {p : Program} {e : Env} {s : State} {m : MethodId} {args : Array Value} {below : List Frame} {meth : Method} {c : Code} {D : va_G} {tc : Nat → ClassId} {a : Nat → Nat} {w0 : va_W} (post : Int32 → zS → Prop) (K : Int32 → Int32 → zS → Prop) (hx : p.tables.exec = Jvm.exec) (hb : c.code = nC_X3_shortest) (hml : c.maxLocals = 4) (hr : meth.sig.returnType = (some .int)) (hown : s.vm.findClass nM_X3_shortest.cls = some m.cls) (hlocks : meth.locks = false) (hw : ∀ w ∈ wA, w.before args s = true) (hn : mN s) (hK : va_K D nCl (ztX tc) s) (hA : ∀ q, s.heap.size ≤ q → va_A w0 s.heap.size q)
    (hk : ∀ (y1 : Int32) (y2 : Int32) (σ : zS) (H : Heap) (locs : List Loc) (ls : Array Slot), K y1 y2 σ → va_P D nCl (zX a tc σ) H → va_D (va_A w0 s.heap.size) (zX a tc σ) → va_S (va_A w0 s.heap.size) s.heap H locs → lv_has ls 4 [(0, .ref (a 6)), (1, .int y1), (2, .int y2)] → W p l e ({ frames := 1, cells := 0, slots := 0, locals := 21 } : Room) s m args below meth c H locs 0 0 (MQ below (va_Qi (zQi (zX a tc) post) (mQW D (ztX tc) w0 s.heap.size) (va_A w0 s.heap.size)) args s 0 0 (va_A w0 s.heap.size)) (F0 m 43 ls [])) : ∀ q : Int32 × Int32 × zS, zLP (b_X3_shortest_4 post K) q → ∀ (H : Heap) (locs : List Loc) (ls : Array Slot), va_P D nCl (zX a tc q.2.2) H → va_D (va_A w0 s.heap.size) (zX a tc q.2.2) → va_S (va_A w0 s.heap.size) s.heap H locs → lv_has ls 4 [(0, .ref (a 6)), (1, .int q.1), (2, .int q.2.1)] → W p l e ({ frames := 1, cells := 0, slots := 0, locals := 21 } : Room) s m args below meth c H locs 0 0 (MQ below (va_Qi (zQi (zX a tc) post) (mQW D (ztX tc) w0 s.heap.size) (va_A w0 s.heap.size)) args s 0 0 (va_A w0 s.heap.size)) (F0 m 4 ls []) := by
  refine zLP_walk ?_
  rintro R ⟨y1, y2, σ⟩ hR h H locs ls hP hD hS hl
  dsimp only at hP hD hl
  dsimp only [b_X3_shortest_4] at h
  refine lv_iload_n hx hb nD_X3_shortest_4 rfl (lv_at hl 2 rfl) ?_
  refine lv_aload_n hx hb nD_X3_shortest_5 rfl (lv_at hl 0 rfl) ?_
  refine va_get (D := D) (ci := 2) (v := .int (σ.1 8)) (C := nR_X3) (T := nT_X3) (N := 3) hx hb hw wu_X3 hown hK hP 6 xc_6 rfl 2 (by decide) (hw _ wm_72) (fun _ h9 => h9) rfl nD_X3_shortest_6 ?_
  refine lv_icmp_ge (tgt := 43) hx hb nD_X3_shortest_9 (by decide) (fun hc => ?_) (fun hc => ?_)
  · have h := h.1 hc
    exact hk y1 y2 σ _ _ ls h hP hD hS hl
  · have h := h.2 hc
    refine lv_aload_n hx hb nD_X3_shortest_12 rfl (lv_at hl 0 rfl) ?_
    refine va_get (D := D) (ci := 2) (v := .ref (a 7)) (C := nR_X3) (T := nT_X3) (N := 3) hx hb hw wu_X3 hown hK hP 6 xc_6 rfl 0 (by decide) (hw _ wm_70) (fun _ h9 => h9) rfl nD_X3_shortest_13 ?_
    refine lv_iload_n hx hb nD_X3_shortest_16 rfl (lv_at hl 2 rfl) ?_
    obtain ⟨hi1, h⟩ := h
    refine va_lald (D := D) hx hb hK hP 7 3 xc_7 rfl hi1 nD_X3_shortest_17 ?_
    refine vp_callSi (W.runS (As := [.long (σ.2.2 0 y2.toNatClampNeg)]) (rest := []) ⟨hx, hb, hml, hown, hw⟩ (c_X2_length l (σ.2.2 0 y2.toNatClampNeg) _ h) (mcS 1 hw wm_199 wm_351 wm_198 wm_32 rfl rfl nh_X2_length ⟨Nat.le_of_ble_eq_true rfl, Nat.le_of_ble_eq_true rfl⟩) mp_S rfl rfl hl.1 rfl (lv_room (Nat.le_of_ble_eq_true rfl)) nD_X3_shortest_18 ⟨Nat.zero_le _, Nat.zero_le _⟩) (fun r2 h => ?_)
    refine lv_istore_n hx hb nD_X3_shortest_21 rfl hl (by decide) rfl (fun ls hl => ?_)
    have hl : lv_has ls 4 [(3, .int r2), (0, .ref (a 6)), (1, .int y1), (2, .int y2)] := hl
    refine lv_iload_n hx hb nD_X3_shortest_22 rfl (lv_at hl 2 rfl) ?_
    refine lv_iconst (v := (-1 : Int32)) hx hb nD_X3_shortest_23 (by decide) ?_
    refine lv_icmp_ne (tgt := 31) hx hb nD_X3_shortest_24 (by decide) (fun hc => ?_) (fun hc => ?_)
    · have h := h.2 hc
      refine lv_iload_n hx hb nD_X3_shortest_31 rfl (lv_at hl 2 rfl) ?_
      refine lv_iload_n hx hb nD_X3_shortest_32 rfl (lv_at hl 0 rfl) ?_
      refine va_mmin hx hb (hml.trans hl.1.symm) hown (hw _ wm_352) (hw _ wm_135) (hw _ wm_30) (hw _ wm_136) (Nat.le_of_ble_eq_true rfl) (Nat.le_of_ble_eq_true rfl) (Nat.zero_le _) (Nat.zero_le _) nD_X3_shortest_33 ?_
      refine lv_topi (fun v3 e_v3 => ?_)
      have h := h v3 e_v3
      clear e_v3
      refine lv_istore_n hx hb nD_X3_shortest_36 rfl hl (by decide) rfl (fun ls hl => ?_)
      have hl : lv_has ls 4 [(1, .int v3), (3, .int r2), (0, .ref (a 6)), (2, .int y2)] := hl
      refine lv_iinc (k := 3) (v := y2 + 1) hx hb nD_X3_shortest_37 hl rfl rfl (by decide) rfl (fun ls hl => ?_)
      have hl : lv_has ls 4 [(2, .int (y2 + 1)), (1, .int v3), (3, .int r2), (0, .ref (a 6))] := hl
      refine lv_goto (tgt := 4) hx hb nD_X3_shortest_40 (by decide) ?_
      have hl := lv_sub (l' := [(0, .ref (a 6)), (1, .int v3), (2, .int (y2 + 1))]) hl [3, 1, 0] rfl
      exact hR _ h _ _ ls hP hD hS hl
    · have h := h.1 hc
      refine lv_iload_n hx hb nD_X3_shortest_27 rfl (lv_at hl 0 rfl) ?_
      refine lv_goto (tgt := 36) hx hb nD_X3_shortest_28 (by decide) ?_
      refine lv_istore_n hx hb nD_X3_shortest_36 rfl hl (by decide) rfl (fun ls hl => ?_)
      have hl : lv_has ls 4 [(1, .int r2), (3, .int r2), (0, .ref (a 6)), (2, .int y2)] := hl
      refine lv_iinc (k := 3) (v := y2 + 1) hx hb nD_X3_shortest_37 hl rfl rfl (by decide) rfl (fun ls hl => ?_)
      have hl : lv_has ls 4 [(2, .int (y2 + 1)), (1, .int r2), (3, .int r2), (0, .ref (a 6))] := hl
      refine lv_goto (tgt := 4) hx hb nD_X3_shortest_40 (by decide) ?_
      have hl := lv_sub (l' := [(0, .ref (a 6)), (1, .int r2), (2, .int (y2 + 1))]) hl [3, 1, 0] rfl
      exact hR _ h _ _ ls hP hD hS hl
set_option maxHeartbeats 4000000 in
set_option maxRecDepth 100000 in
theorem c_X3_shortest (l : Launch) (D : va_G) (tc : Nat → ClassId) (a : Nat → Nat) (σ : zS) (post : Int32 → zS → Prop) (h : j_X3_shortest  σ post) : mWi l nM_X3_shortest nC_X3_shortest 4 (some .int) ({ frames := 1, cells := 0, slots := 0, locals := 21 } : Room) D (ztX tc) [.ref (a 6)] (zX a tc σ) (zQi (zX a tc) post) := by
  intro sz
  refine mt_W (by decide) (Nat.le_of_ble_eq_true rfl) ?_
  intro p e s m below meth c ls hx hb hml hr hown hlocks hin hw hn hP hK hD hS hA hl hsz
  subst hsz
  have hl : lv_has ls 4 [(0, .ref (a 6))] := hl
  unfold j_X3_shortest at h
  refine lv_iconst (v := (-1 : Int32)) hx hb nD_X3_shortest_0 (by decide) ?_
  refine lv_istore_n hx hb nD_X3_shortest_1 rfl hl (by decide) rfl (fun ls hl => ?_)
  have hl : lv_has ls 4 [(1, .int (-1 : Int32)), (0, .ref (a 6))] := hl
  refine lv_iconst (v := (0 : Int32)) hx hb nD_X3_shortest_2 (by decide) ?_
  refine lv_istore_n hx hb nD_X3_shortest_3 rfl hl (by decide) rfl (fun ls hl => ?_)
  have hl : lv_has ls 4 [(2, .int (0 : Int32)), (1, .int (-1 : Int32)), (0, .ref (a 6))] := hl
  have hl := lv_sub (l' := [(0, .ref (a 6)), (1, .int (-1 : Int32)), (2, .int (0 : Int32))]) hl [2, 1, 0] rfl
  refine wl_X3_shortest_4 (l := l) post _ hx hb hml hr hown hlocks hw hn hK hA (fun v4 v5 σ6 H locs ls h hP hD hS hl => ?_) ((-1 : Int32), (0 : Int32), σ) h _ _ ls hP hD hS hl
  refine lv_iload_n hx hb nD_X3_shortest_43 rfl (lv_at hl 1 rfl) ?_
  exact mw_i hx hb hr hlocks ⟨σ6, rfl, h⟩ hP hK hD hS nD_X3_shortest_44
set_option maxHeartbeats 4000000 in
set_option maxRecDepth 100000 in
theorem wl_X3_longest_4 {l : Launch} {p : Program} {e : Env} {s : State} {m : MethodId} {args : Array Value} {below : List Frame} {meth : Method} {c : Code} {D : va_G} {tc : Nat → ClassId} {a : Nat → Nat} {w0 : va_W} (post : Int32 → zS → Prop) (K : Int32 → Int32 → zS → Prop) (hx : p.tables.exec = Jvm.exec) (hb : c.code = nC_X3_longest) (hml : c.maxLocals = 3) (hr : meth.sig.returnType = (some .int)) (hown : s.vm.findClass nM_X3_longest.cls = some m.cls) (hlocks : meth.locks = false) (hw : ∀ w ∈ wA, w.before args s = true) (hn : mN s) (hK : va_K D nCl (ztX tc) s) (hA : ∀ q, s.heap.size ≤ q → va_A w0 s.heap.size q)
    (hk : ∀ (y1 : Int32) (y2 : Int32) (σ : zS) (H : Heap) (locs : List Loc) (ls : Array Slot), K y1 y2 σ → va_P D nCl (zX a tc σ) H → va_D (va_A w0 s.heap.size) (zX a tc σ) → va_S (va_A w0 s.heap.size) s.heap H locs → lv_has ls 3 [(0, .ref (a 6)), (1, .int y1), (2, .int y2)] → W p l e ({ frames := 1, cells := 0, slots := 0, locals := 21 } : Room) s m args below meth c H locs 0 0 (MQ below (va_Qi (zQi (zX a tc) post) (mQW D (ztX tc) w0 s.heap.size) (va_A w0 s.heap.size)) args s 0 0 (va_A w0 s.heap.size)) (F0 m 32 ls [])) : ∀ q : Int32 × Int32 × zS, zLP (b_X3_longest_4 post K) q → ∀ (H : Heap) (locs : List Loc) (ls : Array Slot), va_P D nCl (zX a tc q.2.2) H → va_D (va_A w0 s.heap.size) (zX a tc q.2.2) → va_S (va_A w0 s.heap.size) s.heap H locs → lv_has ls 3 [(0, .ref (a 6)), (1, .int q.1), (2, .int q.2.1)] → W p l e ({ frames := 1, cells := 0, slots := 0, locals := 21 } : Room) s m args below meth c H locs 0 0 (MQ below (va_Qi (zQi (zX a tc) post) (mQW D (ztX tc) w0 s.heap.size) (va_A w0 s.heap.size)) args s 0 0 (va_A w0 s.heap.size)) (F0 m 4 ls []) := by
  refine zLP_walk ?_
  rintro R ⟨y1, y2, σ⟩ hR h H locs ls hP hD hS hl
  dsimp only at hP hD hl
  dsimp only [b_X3_longest_4] at h
  refine lv_iload_n hx hb nD_X3_longest_4 rfl (lv_at hl 2 rfl) ?_
  refine lv_aload_n hx hb nD_X3_longest_5 rfl (lv_at hl 0 rfl) ?_
  refine va_get (D := D) (ci := 2) (v := .int (σ.1 8)) (C := nR_X3) (T := nT_X3) (N := 3) hx hb hw wu_X3 hown hK hP 6 xc_6 rfl 2 (by decide) (hw _ wm_72) (fun _ h9 => h9) rfl nD_X3_longest_6 ?_
  refine lv_icmp_ge (tgt := 32) hx hb nD_X3_longest_9 (by decide) (fun hc => ?_) (fun hc => ?_)
  · have h := h.1 hc
    exact hk y1 y2 σ _ _ ls h hP hD hS hl
  · have h := h.2 hc
    refine lv_iload_n hx hb nD_X3_longest_12 rfl (lv_at hl 1 rfl) ?_
    refine lv_aload_n hx hb nD_X3_longest_13 rfl (lv_at hl 0 rfl) ?_
    refine va_get (D := D) (ci := 2) (v := .ref (a 7)) (C := nR_X3) (T := nT_X3) (N := 3) hx hb hw wu_X3 hown hK hP 6 xc_6 rfl 0 (by decide) (hw _ wm_70) (fun _ h9 => h9) rfl nD_X3_longest_14 ?_
    refine lv_iload_n hx hb nD_X3_longest_17 rfl (lv_at hl 2 rfl) ?_
    obtain ⟨hi1, h⟩ := h
    refine va_lald (D := D) hx hb hK hP 7 3 xc_7 rfl hi1 nD_X3_longest_18 ?_
    refine vp_callSi (W.runS (As := [.long (σ.2.2 0 y2.toNatClampNeg)]) (rest := [.int y1]) ⟨hx, hb, hml, hown, hw⟩ (c_X2_length l (σ.2.2 0 y2.toNatClampNeg) _ h) (mcS 1 hw wm_199 wm_351 wm_198 wm_32 rfl rfl nh_X2_length ⟨Nat.le_of_ble_eq_true rfl, Nat.le_of_ble_eq_true rfl⟩) mp_S rfl rfl hl.1 rfl (lv_room (Nat.le_of_ble_eq_true rfl)) nD_X3_longest_19 ⟨Nat.zero_le _, Nat.zero_le _⟩) (fun r2 h => ?_)
    refine va_mmax hx hb (hml.trans hl.1.symm) hown (hw _ wm_361) (hw _ wm_138) (hw _ wm_30) (hw _ wm_139) (Nat.le_of_ble_eq_true rfl) (Nat.le_of_ble_eq_true rfl) (Nat.zero_le _) (Nat.zero_le _) nD_X3_longest_22 ?_
    refine lv_topi (fun v3 e_v3 => ?_)
    have h := h v3 e_v3
    clear e_v3
    refine lv_istore_n hx hb nD_X3_longest_25 rfl hl (by decide) rfl (fun ls hl => ?_)
    have hl : lv_has ls 3 [(1, .int v3), (0, .ref (a 6)), (2, .int y2)] := hl
    refine lv_iinc (k := 2) (v := y2 + 1) hx hb nD_X3_longest_26 hl rfl rfl (by decide) rfl (fun ls hl => ?_)
    have hl : lv_has ls 3 [(2, .int (y2 + 1)), (1, .int v3), (0, .ref (a 6))] := hl
    refine lv_goto (tgt := 4) hx hb nD_X3_longest_29 (by decide) ?_
    have hl := lv_sub (l' := [(0, .ref (a 6)), (1, .int v3), (2, .int (y2 + 1))]) hl [2, 1, 0] rfl
    exact hR _ h _ _ ls hP hD hS hl
set_option maxHeartbeats 4000000 in
set_option maxRecDepth 100000 in
theorem c_X3_longest (l : Launch) (D : va_G) (tc : Nat → ClassId) (a : Nat → Nat) (σ : zS) (post : Int32 → zS → Prop) (h : j_X3_longest  σ post) : mWi l nM_X3_longest nC_X3_longest 3 (some .int) ({ frames := 1, cells := 0, slots := 0, locals := 21 } : Room) D (ztX tc) [.ref (a 6)] (zX a tc σ) (zQi (zX a tc) post) := by
  intro sz
  refine mt_W (by decide) (Nat.le_of_ble_eq_true rfl) ?_
  intro p e s m below meth c ls hx hb hml hr hown hlocks hin hw hn hP hK hD hS hA hl hsz
  subst hsz
  have hl : lv_has ls 3 [(0, .ref (a 6))] := hl
  unfold j_X3_longest at h
  refine lv_iconst (v := (-1 : Int32)) hx hb nD_X3_longest_0 (by decide) ?_
  refine lv_istore_n hx hb nD_X3_longest_1 rfl hl (by decide) rfl (fun ls hl => ?_)
  have hl : lv_has ls 3 [(1, .int (-1 : Int32)), (0, .ref (a 6))] := hl
  refine lv_iconst (v := (0 : Int32)) hx hb nD_X3_longest_2 (by decide) ?_
  refine lv_istore_n hx hb nD_X3_longest_3 rfl hl (by decide) rfl (fun ls hl => ?_)
  have hl : lv_has ls 3 [(2, .int (0 : Int32)), (1, .int (-1 : Int32)), (0, .ref (a 6))] := hl
  have hl := lv_sub (l' := [(0, .ref (a 6)), (1, .int (-1 : Int32)), (2, .int (0 : Int32))]) hl [2, 1, 0] rfl
  refine wl_X3_longest_4 (l := l) post _ hx hb hml hr hown hlocks hw hn hK hA (fun v4 v5 σ6 H locs ls h hP hD hS hl => ?_) ((-1 : Int32), (0 : Int32), σ) h _ _ ls hP hD hS hl
  refine lv_iload_n hx hb nD_X3_longest_32 rfl (lv_at hl 1 rfl) ?_
  exact mw_i hx hb hr hlocks ⟨σ6, rfl, h⟩ hP hK hD hS nD_X3_longest_33
set_option maxHeartbeats 4000000 in
set_option maxRecDepth 100000 in
theorem wl_X3_anyHas_2 {l : Launch} {p : Program} {e : Env} {s : State} {m : MethodId} {args : Array Value} {below : List Frame} {meth : Method} {c : Code} {D : va_G} {tc : Nat → ClassId} {a : Nat → Nat} {w0 : va_W} (x1 : Int32) (x2 : Int32) (post : Int32 → zS → Prop) (K : Int32 → zS → Prop) (hx : p.tables.exec = Jvm.exec) (hb : c.code = nC_X3_anyHas) (hml : c.maxLocals = 4) (hr : meth.sig.returnType = (some .boolean)) (hown : s.vm.findClass nM_X3_anyHas.cls = some m.cls) (hlocks : meth.locks = false) (hw : ∀ w ∈ wA, w.before args s = true) (hn : mN s) (hK : va_K D nCl (ztX tc) s) (hA : ∀ q, s.heap.size ≤ q → va_A w0 s.heap.size q)
    (hk : ∀ (y3 : Int32) (σ : zS) (H : Heap) (locs : List Loc) (ls : Array Slot), K y3 σ → va_P D nCl (zX a tc σ) H → va_D (va_A w0 s.heap.size) (zX a tc σ) → va_S (va_A w0 s.heap.size) s.heap H locs → lv_has ls 4 [(0, .ref (a 6)), (1, .int x1), (2, .int x2), (3, .int y3)] → W p l e ({ frames := 1, cells := 0, slots := 0, locals := 22 } : Room) s m args below meth c H locs 0 0 (MQ below (va_Qi (zQi (zX a tc) post) (mQW D (ztX tc) w0 s.heap.size) (va_A w0 s.heap.size)) args s 0 0 (va_A w0 s.heap.size)) (F0 m 49 ls [])) : ∀ q : Int32 × zS, zLP (b_X3_anyHas_2 x1 x2 post K) q → ∀ (H : Heap) (locs : List Loc) (ls : Array Slot), va_P D nCl (zX a tc q.2) H → va_D (va_A w0 s.heap.size) (zX a tc q.2) → va_S (va_A w0 s.heap.size) s.heap H locs → lv_has ls 4 [(0, .ref (a 6)), (1, .int x1), (2, .int x2), (3, .int q.1)] → W p l e ({ frames := 1, cells := 0, slots := 0, locals := 22 } : Room) s m args below meth c H locs 0 0 (MQ below (va_Qi (zQi (zX a tc) post) (mQW D (ztX tc) w0 s.heap.size) (va_A w0 s.heap.size)) args s 0 0 (va_A w0 s.heap.size)) (F0 m 2 ls []) := by
  refine zLP_walk ?_
  rintro R ⟨y3, σ⟩ hR h H locs ls hP hD hS hl
  dsimp only at hP hD hl
  dsimp only [b_X3_anyHas_2] at h
  refine lv_iload_n hx hb nD_X3_anyHas_2 rfl (lv_at hl 3 rfl) ?_
  refine lv_aload_n hx hb nD_X3_anyHas_3 rfl (lv_at hl 0 rfl) ?_
  refine va_get (D := D) (ci := 2) (v := .int (σ.1 8)) (C := nR_X3) (T := nT_X3) (N := 3) hx hb hw wu_X3 hown hK hP 6 xc_6 rfl 2 (by decide) (hw _ wm_72) (fun _ h9 => h9) rfl nD_X3_anyHas_4 ?_
  refine lv_icmp_ge (tgt := 49) hx hb nD_X3_anyHas_7 (by decide) (fun hc => ?_) (fun hc => ?_)
  · have h := h.1 hc
    exact hk y3 σ _ _ ls h hP hD hS hl
  · have h := h.2 hc
    refine lv_iload_n hx hb nD_X3_anyHas_10 rfl (lv_at hl 1 rfl) ?_
    refine lv_if_lt (tgt := 43) hx hb nD_X3_anyHas_11 (by decide) (fun hc => ?_) (fun hc => ?_)
    · have h := h.1 hc
      refine lv_iinc (k := 3) (v := y3 + 1) hx hb nD_X3_anyHas_43 hl rfl rfl (by decide) rfl (fun ls hl => ?_)
      have hl : lv_has ls 4 [(3, .int (y3 + 1)), (0, .ref (a 6)), (1, .int x1), (2, .int x2)] := hl
      refine lv_goto (tgt := 2) hx hb nD_X3_anyHas_46 (by decide) ?_
      have hl := lv_sub (l' := [(0, .ref (a 6)), (1, .int x1), (2, .int x2), (3, .int (y3 + 1))]) hl [1, 2, 3, 0] rfl
      exact hR _ h _ _ ls hP hD hS hl
    · have h := h.2 hc
      refine lv_iload_n hx hb nD_X3_anyHas_14 rfl (lv_at hl 1 rfl) ?_
      refine lv_aload_n hx hb nD_X3_anyHas_15 rfl (lv_at hl 0 rfl) ?_
      refine va_get (D := D) (ci := 2) (v := .ref (a 7)) (C := nR_X3) (T := nT_X3) (N := 3) hx hb hw wu_X3 hown hK hP 6 xc_6 rfl 0 (by decide) (hw _ wm_70) (fun _ h9 => h9) rfl nD_X3_anyHas_16 ?_
      refine lv_iload_n hx hb nD_X3_anyHas_19 rfl (lv_at hl 3 rfl) ?_
      obtain ⟨hi1, h⟩ := h
      refine va_lald (D := D) hx hb hK hP 7 3 xc_7 rfl hi1 nD_X3_anyHas_20 ?_
      refine vp_callSi (W.runS (As := [.long (σ.2.2 0 y3.toNatClampNeg)]) (rest := [.int x1]) ⟨hx, hb, hml, hown, hw⟩ (c_X2_length l (σ.2.2 0 y3.toNatClampNeg) _ h) (mcS 1 hw wm_199 wm_351 wm_198 wm_32 rfl rfl nh_X2_length ⟨Nat.le_of_ble_eq_true rfl, Nat.le_of_ble_eq_true rfl⟩) mp_S rfl rfl hl.1 rfl (lv_room (Nat.le_of_ble_eq_true rfl)) nD_X3_anyHas_21 ⟨Nat.zero_le _, Nat.zero_le _⟩) (fun r2 h => ?_)
      refine lv_icmp_ge (tgt := 43) hx hb nD_X3_anyHas_24 (by decide) (fun hc => ?_) (fun hc => ?_)
      · have h := h.1 hc
        refine lv_iinc (k := 3) (v := y3 + 1) hx hb nD_X3_anyHas_43 hl rfl rfl (by decide) rfl (fun ls hl => ?_)
        have hl : lv_has ls 4 [(3, .int (y3 + 1)), (0, .ref (a 6)), (1, .int x1), (2, .int x2)] := hl
        refine lv_goto (tgt := 2) hx hb nD_X3_anyHas_46 (by decide) ?_
        have hl := lv_sub (l' := [(0, .ref (a 6)), (1, .int x1), (2, .int x2), (3, .int (y3 + 1))]) hl [1, 2, 3, 0] rfl
        exact hR _ h _ _ ls hP hD hS hl
      · have h := h.2 hc
        refine lv_aload_n hx hb nD_X3_anyHas_27 rfl (lv_at hl 0 rfl) ?_
        refine va_get (D := D) (ci := 2) (v := .ref (a 7)) (C := nR_X3) (T := nT_X3) (N := 3) hx hb hw wu_X3 hown hK hP 6 xc_6 rfl 0 (by decide) (hw _ wm_70) (fun _ h9 => h9) rfl nD_X3_anyHas_28 ?_
        refine lv_iload_n hx hb nD_X3_anyHas_31 rfl (lv_at hl 3 rfl) ?_
        obtain ⟨hi3, h⟩ := h
        refine va_lald (D := D) hx hb hK hP 7 3 xc_7 rfl hi3 nD_X3_anyHas_32 ?_
        refine lv_iload_n hx hb nD_X3_anyHas_33 rfl (lv_at hl 1 rfl) ?_
        refine vp_callSi (W.runS (As := [.long (σ.2.2 0 y3.toNatClampNeg), .int x1]) (rest := []) ⟨hx, hb, hml, hown, hw⟩ (c_X2_valueAt l (σ.2.2 0 y3.toNatClampNeg) x1 _ h) (mcS 2 hw wm_206 wm_370 wm_205 wm_32 rfl rfl nh_X2_valueAt ⟨Nat.le_of_ble_eq_true rfl, Nat.le_of_ble_eq_true rfl⟩) mp_S rfl rfl hl.1 rfl (lv_room (Nat.le_of_ble_eq_true rfl)) nD_X3_anyHas_34 ⟨Nat.zero_le _, Nat.zero_le _⟩) (fun r4 h => ?_)
        refine lv_iload_n hx hb nD_X3_anyHas_37 rfl (lv_at hl 2 rfl) ?_
        refine lv_icmp_ne (tgt := 43) hx hb nD_X3_anyHas_38 (by decide) (fun hc => ?_) (fun hc => ?_)
        · have h := h.2 hc
          refine lv_iinc (k := 3) (v := y3 + 1) hx hb nD_X3_anyHas_43 hl rfl rfl (by decide) rfl (fun ls hl => ?_)
          have hl : lv_has ls 4 [(3, .int (y3 + 1)), (0, .ref (a 6)), (1, .int x1), (2, .int x2)] := hl
          refine lv_goto (tgt := 2) hx hb nD_X3_anyHas_46 (by decide) ?_
          have hl := lv_sub (l' := [(0, .ref (a 6)), (1, .int x1), (2, .int x2), (3, .int (y3 + 1))]) hl [1, 2, 3, 0] rfl
          exact hR _ h _ _ ls hP hD hS hl
        · have h := h.1 hc
          refine lv_iconst (v := (1 : Int32)) hx hb nD_X3_anyHas_41 (by decide) ?_
          exact mw_z hx hb hr hlocks rfl ⟨σ, rfl, h⟩ hP hK hD hS nD_X3_anyHas_42
set_option maxHeartbeats 4000000 in
set_option maxRecDepth 100000 in
theorem c_X3_anyHas (l : Launch) (D : va_G) (tc : Nat → ClassId) (a : Nat → Nat) (x1 : Int32) (x2 : Int32) (σ : zS) (post : Int32 → zS → Prop) (h : j_X3_anyHas x1 x2 σ post) : mWi l nM_X3_anyHas nC_X3_anyHas 4 (some .boolean) ({ frames := 1, cells := 0, slots := 0, locals := 22 } : Room) D (ztX tc) [.ref (a 6), .int x1, .int x2] (zX a tc σ) (zQi (zX a tc) post) := by
  intro sz
  refine mt_W (by decide) (Nat.le_of_ble_eq_true rfl) ?_
  intro p e s m below meth c ls hx hb hml hr hown hlocks hin hw hn hP hK hD hS hA hl hsz
  subst hsz
  have hl : lv_has ls 4 [(0, .ref (a 6)), (1, .int x1), (2, .int x2)] := hl
  unfold j_X3_anyHas at h
  refine lv_iconst (v := (0 : Int32)) hx hb nD_X3_anyHas_0 (by decide) ?_
  refine lv_istore_n hx hb nD_X3_anyHas_1 rfl hl (by decide) rfl (fun ls hl => ?_)
  have hl : lv_has ls 4 [(3, .int (0 : Int32)), (0, .ref (a 6)), (1, .int x1), (2, .int x2)] := hl
  have hl := lv_sub (l' := [(0, .ref (a 6)), (1, .int x1), (2, .int x2), (3, .int (0 : Int32))]) hl [1, 2, 3, 0] rfl
  refine wl_X3_anyHas_2 (l := l) x1 x2 post _ hx hb hml hr hown hlocks hw hn hK hA (fun v5 σ6 H locs ls h hP hD hS hl => ?_) ((0 : Int32), σ) h _ _ ls hP hD hS hl
  refine lv_iconst (v := (0 : Int32)) hx hb nD_X3_anyHas_49 (by decide) ?_
  exact mw_z hx hb hr hlocks rfl ⟨σ6, rfl, h⟩ hP hK hD hS nD_X3_anyHas_50
set_option maxHeartbeats 4000000 in
set_option maxRecDepth 100000 in
theorem c_X1_clear (l : Launch) (D : va_G) (tc : Nat → ClassId) (a : Nat → Nat) (σ : zS) (post : zS → Prop) (h : j_X1_clear  σ post) : mWv l nM_X1_clear nC_X1_clear 1 ({ frames := 2, cells := 0, slots := 0, locals := 43 } : Room) D (ztX tc) [.ref (a 5)] (zX a tc σ) (zQv (zX a tc) post) := by
  intro sz
  refine mt_W (by decide) (Nat.le_of_ble_eq_true rfl) ?_
  intro p e s m below meth c ls hx hb hml hr hown hlocks hin hw hn hP hK hD hS hA hl hsz
  subst hsz
  have hl : lv_has ls 1 [(0, .ref (a 5))] := hl
  unfold j_X1_clear at h
  refine lv_aload_n hx hb nD_X1_clear_0 rfl (lv_at hl 0 rfl) ?_
  refine va_get (D := D) (ci := 1) (v := .ref (a 6)) (C := nR_X1) (T := nT_X1) (N := 4) hx hb hw wu_X1 hown hK hP 5 xc_5 rfl 0 (by decide) (hw _ wm_83) (fun _ h9 => h9) rfl nD_X1_clear_1 ?_
  refine zC_v (va_runV (As := []) (rest := []) ⟨hx, hb, hml, hown, hw⟩ (c_X3_clear l D tc a σ _ h _) (mcV 0 hw wm_154 wm_151 wm_152 wm_153 wm_28 rfl rfl nh_X3_clear ⟨Nat.le_of_ble_eq_true rfl, Nat.le_of_ble_eq_true rfl⟩) (zp_V (ci := 2) hP hD hK hn rfl xc_6) rfl rfl hl.1 rfl (lv_room (Nat.le_of_ble_eq_true rfl)) nD_X1_clear_4 ⟨Nat.zero_le _, Nat.zero_le _⟩) hD hS hA (fun σ1 H locs h hP hD hS => ?_)
  refine lv_aload_n hx hb nD_X1_clear_7 rfl (lv_at hl 0 rfl) ?_
  refine va_get (D := D) (ci := 1) (v := .ref (a 9)) (C := nR_X1) (T := nT_X1) (N := 4) hx hb hw wu_X1 hown hK hP 5 xc_5 rfl 1 (by decide) (hw _ wm_85) (fun _ h9 => h9) rfl nD_X1_clear_8 ?_
  refine lv_iconst (v := (0 : Int32)) hx hb nD_X1_clear_11 (by decide) ?_
  refine zC_fill (q0 := 9) (t0 := 5) (rest := []) ⟨hx, hb, hml, hown, hw⟩ wm_156 (by decide) hK hn hP hD hS hA xc_9 rfl hl.1 (lv_room (Nat.le_of_ble_eq_true rfl)) nD_X1_clear_12 ⟨Nat.le_of_ble_eq_true rfl, Nat.le_of_ble_eq_true rfl⟩ ⟨Nat.zero_le _, Nat.zero_le _⟩ wm_142 wm_141 wm_31 (fun H locs hP hD hS => ?_)
  obtain ⟨σ2, e_σ2⟩ : ∃ z : zS, z = zF σ1 2 (zfl (σ1.2.1 2) 3 (0 : Int32)) := ⟨_, rfl⟩
  obtain ⟨hP, hD⟩ := znew (w := zX a tc) e_σ2 (xf_9) hP hD
  have h := h σ2 e_σ2
  clear e_σ2
  refine lv_aload_n hx hb nD_X1_clear_15 rfl (lv_at hl 0 rfl) ?_
  refine va_get (D := D) (ci := 1) (v := .ref (a 10)) (C := nR_X1) (T := nT_X1) (N := 4) hx hb hw wu_X1 hown hK hP 5 xc_5 rfl 2 (by decide) (hw _ wm_87) (fun _ h9 => h9) rfl nD_X1_clear_16 ?_
  refine lv_iconst (v := (0 : Int32)) hx hb nD_X1_clear_19 (by decide) ?_
  refine zC_fill (q0 := 10) (t0 := 6) (rest := []) ⟨hx, hb, hml, hown, hw⟩ wm_156 (by decide) hK hn hP hD hS hA xc_10 rfl hl.1 (lv_room (Nat.le_of_ble_eq_true rfl)) nD_X1_clear_20 ⟨Nat.le_of_ble_eq_true rfl, Nat.le_of_ble_eq_true rfl⟩ ⟨Nat.zero_le _, Nat.zero_le _⟩ wm_142 wm_141 wm_31 (fun H locs hP hD hS => ?_)
  obtain ⟨σ3, e_σ3⟩ : ∃ z : zS, z = zF σ2 3 (zfl (σ2.2.1 3) 3 (0 : Int32)) := ⟨_, rfl⟩
  obtain ⟨hP, hD⟩ := znew (w := zX a tc) e_σ3 (xf_10) hP hD
  have h := h σ3 e_σ3
  clear e_σ3
  refine lv_aload_n hx hb nD_X1_clear_23 rfl (lv_at hl 0 rfl) ?_
  refine lv_iconst (v := (0 : Int32)) hx hb nD_X1_clear_24 (by decide) ?_
  refine va_put (D := D) (ci := 1) (v := .int (0 : Int32)) (ty := .int) (C := nR_X1) (T := nT_X1) (N := 4) hx hb hw wu_X1 nY_X1 nO_X1 nN_X1 hown hK hP hD hS 5 xc_5 rfl 3 (by decide) (hw _ wm_89) (fun _ h9 => h9) rfl (by decide +kernel) rfl rfl (Nat.le_of_ble_eq_true rfl) nD_X1_clear_25 (fun H locs hP hD hS => ?_)
  obtain ⟨σ4, e_σ4⟩ : ∃ z : zS, z = zI σ3 7 (0 : Int32) := ⟨_, rfl⟩
  obtain ⟨hP, hD⟩ := znew (w := zX a tc) e_σ4 (xp_5_3) hP hD
  have h := h σ4 e_σ4
  clear e_σ4
  exact mw_v hx hb hr hlocks ⟨σ4, rfl, h⟩ hP hK hD hS nD_X1_clear_28
set_option maxHeartbeats 4000000 in
set_option maxRecDepth 100000 in
theorem c_X1_addExplanation (l : Launch) (D : va_G) (tc : Nat → ClassId) (a : Nat → Nat) (x1 : Int64) (σ : zS) (post : zS → Prop) (h : j_X1_addExplanation x1 σ post) : mWv l nM_X1_addExplanation nC_X1_addExplanation 3 ({ frames := 1, cells := 0, slots := 0, locals := 25 } : Room) D (ztX tc) [.ref (a 5), .long x1] (zX a tc σ) (zQv (zX a tc) post) := by
  intro sz
  refine mt_W (by decide) (Nat.le_of_ble_eq_true rfl) ?_
  intro p e s m below meth c ls hx hb hml hr hown hlocks hin hw hn hP hK hD hS hA hl hsz
  subst hsz
  have hl : lv_has ls 3 [(0, .ref (a 5)), (1, .long x1)] := hl
  unfold j_X1_addExplanation at h
  refine lv_aload_n hx hb nD_X1_addExplanation_0 rfl (lv_at hl 0 rfl) ?_
  refine lv_dup hx hb nD_X1_addExplanation_1 rfl ?_
  refine va_get (D := D) (ci := 1) (v := .int (σ.1 7)) (C := nR_X1) (T := nT_X1) (N := 4) hx hb hw wu_X1 hown hK hP 5 xc_5 rfl 3 (by decide) (hw _ wm_89) (fun _ h9 => h9) rfl nD_X1_addExplanation_2 ?_
  refine lv_iconst (v := (1 : Int32)) hx hb nD_X1_addExplanation_5 (by decide) ?_
  refine lv_iadd hx hb nD_X1_addExplanation_6 ?_
  refine va_put (D := D) (ci := 1) (v := .int ((σ.1 7) + (1 : Int32))) (ty := .int) (C := nR_X1) (T := nT_X1) (N := 4) hx hb hw wu_X1 nY_X1 nO_X1 nN_X1 hown hK hP hD hS 5 xc_5 rfl 3 (by decide) (hw _ wm_89) (fun _ h9 => h9) rfl (by decide +kernel) rfl rfl (Nat.le_of_ble_eq_true rfl) nD_X1_addExplanation_7 (fun H locs hP hD hS => ?_)
  obtain ⟨σ1, e_σ1⟩ : ∃ z : zS, z = zI σ 7 ((σ.1 7) + (1 : Int32)) := ⟨_, rfl⟩
  obtain ⟨hP, hD⟩ := znew (w := zX a tc) e_σ1 (xp_5_3) hP hD
  have h := h σ1 e_σ1
  clear e_σ1
  refine lv_aload_n hx hb nD_X1_addExplanation_10 rfl (lv_at hl 0 rfl) ?_
  refine va_get (D := D) (ci := 1) (v := .ref (a 6)) (C := nR_X1) (T := nT_X1) (N := 4) hx hb hw wu_X1 hown hK hP 5 xc_5 rfl 0 (by decide) (hw _ wm_83) (fun _ h9 => h9) rfl nD_X1_addExplanation_11 ?_
  refine lv_lload_n hx hb nD_X1_addExplanation_14 rfl (lv_at hl 1 rfl) ?_
  refine zC_v (va_runV (As := [.long x1]) (rest := []) ⟨hx, hb, hml, hown, hw⟩ (c_X3_add l D tc a x1 σ1 _ h _) (mcV 1 hw wm_172 wm_169 wm_170 wm_171 wm_28 rfl rfl nh_X3_add ⟨Nat.le_of_ble_eq_true rfl, Nat.le_of_ble_eq_true rfl⟩) (zp_V (ci := 2) hP hD hK hn rfl xc_6) rfl rfl hl.1 rfl (lv_room (Nat.le_of_ble_eq_true rfl)) nD_X1_addExplanation_15 ⟨Nat.zero_le _, Nat.zero_le _⟩) hD hS hA (fun σ2 H locs h hP hD hS => ?_)
  exact mw_v hx hb hr hlocks ⟨σ2, rfl, h⟩ hP hK hD hS nD_X1_addExplanation_18
set_option maxHeartbeats 4000000 in
set_option maxRecDepth 100000 in
theorem c_X1_addReply (l : Launch) (D : va_G) (tc : Nat → ClassId) (a : Nat → Nat) (x1 : Int32) (x2 : Int32) (σ : zS) (post : zS → Prop) (h : j_X1_addReply x1 x2 σ post) : mWv l nM_X1_addReply nC_X1_addReply 3 ({ frames := 0, cells := 0, slots := 0, locals := 0 } : Room) D (ztX tc) [.ref (a 5), .int x1, .int x2] (zX a tc σ) (zQv (zX a tc) post) := by
  intro sz
  refine mt_W (by decide) (Nat.le_of_ble_eq_true rfl) ?_
  intro p e s m below meth c ls hx hb hml hr hown hlocks hin hw hn hP hK hD hS hA hl hsz
  subst hsz
  have hl : lv_has ls 3 [(0, .ref (a 5)), (1, .int x1), (2, .int x2)] := hl
  unfold j_X1_addReply at h
  refine lv_aload_n hx hb nD_X1_addReply_0 rfl (lv_at hl 0 rfl) ?_
  refine va_get (D := D) (ci := 1) (v := .ref (a 9)) (C := nR_X1) (T := nT_X1) (N := 4) hx hb hw wu_X1 hown hK hP 5 xc_5 rfl 1 (by decide) (hw _ wm_85) (fun _ h9 => h9) rfl nD_X1_addReply_1 ?_
  refine lv_iload_n hx hb nD_X1_addReply_4 rfl (lv_at hl 1 rfl) ?_
  refine lv_dup2_11 hx hb nD_X1_addReply_5 rfl rfl ?_
  obtain ⟨hi1, h⟩ := h
  refine va_iald (D := D) hx hb hK hP 9 5 xc_9 rfl hi1 nD_X1_addReply_6 ?_
  refine lv_iconst (v := (1 : Int32)) hx hb nD_X1_addReply_7 (by decide) ?_
  refine lv_iadd hx hb nD_X1_addReply_8 ?_
  obtain ⟨hi2, h⟩ := h
  refine va_iast (D := D) hx hb hK hP hD hS 9 5 xc_9 rfl hi2 nD_X1_addReply_9 (fun H locs hP hD hS => ?_)
  obtain ⟨σ3, e_σ3⟩ : ∃ z : zS, z = zA σ 2 x1.toNatClampNeg ((σ.2.1 2 x1.toNatClampNeg) + (1 : Int32)) := ⟨_, rfl⟩
  obtain ⟨hP, hD⟩ := znew (w := zX a tc) e_σ3 (xa_9) hP hD
  have h := h σ3 e_σ3
  clear e_σ3
  refine lv_aload_n hx hb nD_X1_addReply_10 rfl (lv_at hl 0 rfl) ?_
  refine va_get (D := D) (ci := 1) (v := .ref (a 10)) (C := nR_X1) (T := nT_X1) (N := 4) hx hb hw wu_X1 hown hK hP 5 xc_5 rfl 2 (by decide) (hw _ wm_87) (fun _ h9 => h9) rfl nD_X1_addReply_11 ?_
  refine lv_iload_n hx hb nD_X1_addReply_14 rfl (lv_at hl 1 rfl) ?_
  refine lv_dup2_11 hx hb nD_X1_addReply_15 rfl rfl ?_
  obtain ⟨hi4, h⟩ := h
  refine va_iald (D := D) hx hb hK hP 10 6 xc_10 rfl hi4 nD_X1_addReply_16 ?_
  refine lv_iconst (v := (1 : Int32)) hx hb nD_X1_addReply_17 (by decide) ?_
  refine lv_iload_n hx hb nD_X1_addReply_18 rfl (lv_at hl 2 rfl) ?_
  refine lv_iconst (v := (-1 : Int32)) hx hb nD_X1_addReply_19 (by decide) ?_
  refine lv_isub hx hb nD_X1_addReply_20 ?_
  refine lv_ishl hx hb nD_X1_addReply_21 ?_
  refine lv_ior hx hb nD_X1_addReply_22 ?_
  obtain ⟨hi5, h⟩ := h
  refine va_iast (D := D) hx hb hK hP hD hS 10 6 xc_10 rfl hi5 nD_X1_addReply_23 (fun H locs hP hD hS => ?_)
  obtain ⟨σ6, e_σ6⟩ : ∃ z : zS, z = zA σ3 3 x1.toNatClampNeg ((σ3.2.1 3 x1.toNatClampNeg) ||| ((1 : Int32) <<< ((x2 - (-1 : Int32)) &&& 31))) := ⟨_, rfl⟩
  obtain ⟨hP, hD⟩ := znew (w := zX a tc) e_σ6 (xa_10) hP hD
  have h := h σ6 e_σ6
  clear e_σ6
  exact mw_v hx hb hr hlocks ⟨σ6, rfl, h⟩ hP hK hD hS nD_X1_addReply_24
