def lwB (L : Nat) (xs : Nat → Int32) (R : Int32 × zS × zS → Prop) (y3 : Int32) (σ τ : zS) : Nat → Prop
  | 0 => (vp_in (y3 + (1 : Int32)) L ∧ (vp_in (y3 + (2 : Int32)) L ∧ j_X5_renew (xs (y3 + (1 : Int32)).toNatClampNeg) (xs (y3 + (2 : Int32)).toNatClampNeg) σ (fun σ3 => (vp_in (y3 + (1 : Int32)) L ∧ (vp_in (y3 + (2 : Int32)) L ∧ j_M_renew (xs (y3 + (1 : Int32)).toNatClampNeg) (xs (y3 + (2 : Int32)).toNatClampNeg) τ (fun τ6 => R (y3 + 3, σ3, τ6)))))))
  | 1 => (vp_in (y3 + (1 : Int32)) L ∧ (vp_in (y3 + (2 : Int32)) L ∧ j_X5_beginPut (xs (y3 + (1 : Int32)).toNatClampNeg) (xs (y3 + (2 : Int32)).toNatClampNeg) σ (fun r9 σ10 => (vp_in (y3 + (1 : Int32)) L ∧ (vp_in (y3 + (2 : Int32)) L ∧ j_M_beginPut (xs (y3 + (1 : Int32)).toNatClampNeg) (xs (y3 + (2 : Int32)).toNatClampNeg) τ (fun r13 τ14 => ((r9 = r13 → R (y3 + 3, σ10, τ14)) ∧ (¬ r9 = r13 → False))))))))
  | 2 => (vp_in (y3 + (1 : Int32)) L ∧ j_X5_beginTake (xs (y3 + (1 : Int32)).toNatClampNeg) σ (fun r16 σ17 => (vp_in (y3 + (1 : Int32)) L ∧ j_M_beginTake (xs (y3 + (1 : Int32)).toNatClampNeg) τ (fun r19 τ20 => ((r16 = r19 → R (y3 + 3, σ17, τ20)) ∧ (¬ r16 = r19 → False))))))
  | 3 => (vp_in (y3 + (1 : Int32)) L ∧ (vp_in (y3 + (2 : Int32)) L ∧ (((xs (y3 + (2 : Int32)).toNatClampNeg) = 0 → j_X5_endPut (xs (y3 + (1 : Int32)).toNatClampNeg) (0 : Int32) σ (fun r23 σ24 => (vp_in (y3 + (1 : Int32)) L ∧ (vp_in (y3 + (2 : Int32)) L ∧ (((xs (y3 + (2 : Int32)).toNatClampNeg) = 0 → j_M_endPut (xs (y3 + (1 : Int32)).toNatClampNeg) (0 : Int32) τ (fun r27 τ28 => ((r23 = r27 → R (y3 + 3, σ24, τ28)) ∧ (¬ r23 = r27 → False)))) ∧ (¬ (xs (y3 + (2 : Int32)).toNatClampNeg) = 0 → j_M_endPut (xs (y3 + (1 : Int32)).toNatClampNeg) (1 : Int32) τ (fun r29 τ30 => ((r23 = r29 → R (y3 + 3, σ24, τ30)) ∧ (¬ r23 = r29 → False))))))))) ∧ (¬ (xs (y3 + (2 : Int32)).toNatClampNeg) = 0 → j_X5_endPut (xs (y3 + (1 : Int32)).toNatClampNeg) (1 : Int32) σ (fun r31 σ32 => (vp_in (y3 + (1 : Int32)) L ∧ (vp_in (y3 + (2 : Int32)) L ∧ (((xs (y3 + (2 : Int32)).toNatClampNeg) = 0 → j_M_endPut (xs (y3 + (1 : Int32)).toNatClampNeg) (0 : Int32) τ (fun r35 τ36 => ((r31 = r35 → R (y3 + 3, σ32, τ36)) ∧ (¬ r31 = r35 → False)))) ∧ (¬ (xs (y3 + (2 : Int32)).toNatClampNeg) = 0 → j_M_endPut (xs (y3 + (1 : Int32)).toNatClampNeg) (1 : Int32) τ (fun r37 τ38 => ((r31 = r37 → R (y3 + 3, σ32, τ38)) ∧ (¬ r31 = r37 → False))))))))))))
  | 4 => (vp_in (y3 + (1 : Int32)) L ∧ (vp_in (y3 + (2 : Int32)) L ∧ j_X5_endTake (xs (y3 + (1 : Int32)).toNatClampNeg) (xs (y3 + (2 : Int32)).toNatClampNeg) σ (fun r41 σ42 => (vp_in (y3 + (1 : Int32)) L ∧ (vp_in (y3 + (2 : Int32)) L ∧ j_M_endTake (xs (y3 + (1 : Int32)).toNatClampNeg) (xs (y3 + (2 : Int32)).toNatClampNeg) τ (fun r45 τ46 => ((r41 = r45 → R (y3 + 3, σ42, τ46)) ∧ (¬ r41 = r45 → False))))))))
  | 5 => (vp_in (y3 + (1 : Int32)) L ∧ j_X5_giveUp (xs (y3 + (1 : Int32)).toNatClampNeg) σ (fun r48 σ49 => (vp_in (y3 + (1 : Int32)) L ∧ j_M_giveUp (xs (y3 + (1 : Int32)).toNatClampNeg) τ (fun r51 τ52 => ((r48 = r51 → R (y3 + 3, σ49, τ52)) ∧ (¬ r48 = r51 → False))))))
  | 6 => j_X5_events  σ (fun r53 σ54 => j_M_events  τ (fun r55 τ56 => ((r53 = r55 → R (y3 + 3, σ54, τ56)) ∧ (¬ r53 = r55 → False))))
  | 7 => j_X5_begun  σ (fun r57 σ58 => j_M_begun  τ (fun r59 τ60 => ((r57 = r59 → R (y3 + 3, σ58, τ60)) ∧ (¬ r57 = r59 → False))))
  | 8 => j_X5_fits  σ (fun r61 σ62 => j_M_fits  τ (fun r63 τ64 => ((r61 = r63 → R (y3 + 3, σ62, τ64)) ∧ (¬ r61 = r63 → False))))
  | 9 => j_X5_brokenAt  σ (fun r65 σ66 => j_M_brokenAt  τ (fun r67 τ68 => ((r65 = r67 → R (y3 + 3, σ66, τ68)) ∧ (¬ r65 = r67 → False))))
  | 10 => j_X5_explanations  σ (fun r69 σ70 => j_M_explanations  τ (fun r71 τ72 => (((lg_cmp r69 r71) = 0 → R (y3 + 3, σ70, τ72)) ∧ (¬ (lg_cmp r69 r71) = 0 → False))))
  | 11 => j_X5_outcomes  σ (fun r73 σ74 => j_M_outcomes  τ (fun r75 τ76 => ((r73 = r75 → R (y3 + 3, σ74, τ76)) ∧ (¬ r73 = r75 → False))))
  | 12 => j_X5_fewest  σ (fun r77 σ78 => j_M_fewest  τ (fun r79 τ80 => ((r77 = r79 → R (y3 + 3, σ78, τ80)) ∧ (¬ r77 = r79 → False))))
  | 13 => j_X5_most  σ (fun r81 σ82 => j_M_most  τ (fun r83 τ84 => ((r81 = r83 → R (y3 + 3, σ82, τ84)) ∧ (¬ r81 = r83 → False))))
  | 14 => (vp_in (y3 + (1 : Int32)) L ∧ (vp_in (y3 + (2 : Int32)) L ∧ j_X5_mayHold (xs (y3 + (1 : Int32)).toNatClampNeg) (xs (y3 + (2 : Int32)).toNatClampNeg) σ (fun r87 σ88 => (vp_in (y3 + (1 : Int32)) L ∧ (vp_in (y3 + (2 : Int32)) L ∧ j_M_mayHold (xs (y3 + (1 : Int32)).toNatClampNeg) (xs (y3 + (2 : Int32)).toNatClampNeg) τ (fun r91 τ92 => ((r87 = r91 → R (y3 + 3, σ88, τ92)) ∧ (¬ r87 = r91 → False))))))))
  | 15 => (vp_in (y3 + (1 : Int32)) L ∧ j_X5_certain (xs (y3 + (1 : Int32)).toNatClampNeg) σ (fun r94 σ95 => (vp_in (y3 + (1 : Int32)) L ∧ j_M_certain (xs (y3 + (1 : Int32)).toNatClampNeg) τ (fun r97 τ98 => ((r94 = r97 → R (y3 + 3, σ95, τ98)) ∧ (¬ r94 = r97 → False))))))
  | 16 => (vp_in (y3 + (1 : Int32)) L ∧ j_X5_answers (xs (y3 + (1 : Int32)).toNatClampNeg) σ (fun r100 σ101 => (vp_in (y3 + (1 : Int32)) L ∧ j_M_answers (xs (y3 + (1 : Int32)).toNatClampNeg) τ (fun r103 τ104 => ((r100 = r103 → R (y3 + 3, σ101, τ104)) ∧ (¬ r100 = r103 → False))))))
  | _ => R (y3 + 3, σ, τ)
def b_L_law (L : Nat) (xs : Nat → Int32) (R : Int32 × zS × zS → Prop) (q : Int32 × zS × zS) : Prop := match q with
  | (y3, σ, τ) => (¬ (nI L - 3) < y3 → vp_in y3 L ∧ znm (xs y3.toNatClampNeg &&& 31) fun k => ∀ j, j < 32 → k = nI j → lwB L xs R y3 σ τ j)
abbrev lwA (s : State) : Nat → Prop := fun q => s.heap.size ≤ q
/-- at the loop's head -/
def lwWd (p : Program) (e : Env) (l : Launch) (s : State) (m : MethodId) (below : List Frame) (meth : Method) (c : Code) (D : va_G) (a g : Nat → Nat) (tc tg : Nat → ClassId) (bs : Nat) (q : Int32 × zS × zS) : Prop := ∀ (H : Heap) (locs : List Loc) (ls : Array Slot), va_P D nCl (zX a tc q.2.1 ++ zM g tg q.2.2) H → va_D (lwA s) (zX a tc q.2.1 ++ zM g tg q.2.2) → va_S (lwA s) s.heap H locs → lv_has ls 4 [(0, .ref bs), (1, .ref (a 0)), (2, .ref (g 0)), (3, .int q.1)] → W p l e room_1 s m #[Value.ref bs] below meth c H locs 34 3306 (lw_Z below #[Value.ref bs] s) (F0 m 38 ls [])
set_option maxHeartbeats 4000000 in
set_option maxRecDepth 100000 in
theorem lw_512 {p : Program} {e : Env} {l : Launch} {s : State} {m : MethodId} {below : List Frame} {meth : Method} {c : Code} {D : va_G} {a g : Nat → Nat} {tc tg : Nat → ClassId} {bs : Nat} {R : Int32 × zS × zS → Prop} {y3 : Int32} {σ τ : zS} {H : Heap} {locs : List Loc} {ls : Array Slot} (hx : p.tables.exec = Jvm.exec) (hb : c.code = nC_L_law) (hR : ∀ q, R q → lwWd p e l s m below meth c D a g tc tg bs q) (h : R (y3 + 3, σ, τ)) (hP : va_P D nCl (zX a tc σ ++ zM g tg τ) H) (hD : va_D (lwA s) (zX a tc σ ++ zM g tg τ)) (hS : va_S (lwA s) s.heap H locs) (hl : lv_has ls 4 [(0, .ref bs), (1, .ref (a 0)), (2, .ref (g 0)), (3, .int y3)]) : W p l e room_1 s m #[Value.ref bs] below meth c H locs 34 3306 (lw_Z below #[Value.ref bs] s) (F0 m 512 ls []) := by
  refine lv_iinc (k := 3) (v := y3 + 3) hx hb nD_L_law_512 hl rfl rfl (by decide) rfl (fun ls hl => ?_)
  refine lv_goto (tgt := 38) hx hb nD_L_law_515 (by decide) ?_
  have hl := lv_sub (l' := [(0, .ref bs), (1, .ref (a 0)), (2, .ref (g 0)), (3, .int (y3 + 3))]) hl [1, 2, 3, 0] rfl
  exact hR _ h H locs ls hP hD hS hl
set_option maxHeartbeats 4000000 in
set_option maxRecDepth 100000 in
theorem lw_c0 {p : Program} {e : Env} {l : Launch} {s : State} {m : MethodId} {below : List Frame} {meth : Method} {c : Code} {D : va_G} {a g : Nat → Nat} {tc tg : Nat → ClassId} {bs L : Nat} {xs : Nat → Int32} {R : Int32 × zS × zS → Prop} (hx : p.tables.exec = Jvm.exec) (hb : c.code = nC_L_law) (hml : c.maxLocals = 4) (hown : s.vm.findClass R_law = some m.cls) (hw : ∀ w ∈ wA, w.before #[Value.ref bs] s = true) (hn : mN s) (hX : va_X bs L xs s s.heap) (hbl : bs < s.heap.size) (hbA : ¬ lwA s bs) (hKX : va_K D nCl (ztX tc) s) (hKM : va_K D nCl (ztM tg) s) (hA : ∀ q, s.heap.size ≤ q → lwA s q) (hR : ∀ q, R q → lwWd p e l s m below meth c D a g tc tg bs q) {y3 : Int32} {σ τ : zS} {H : Heap} {locs : List Loc} {ls : Array Slot} (h : lwB L xs R y3 σ τ 0) (hP : va_P D nCl (zX a tc σ ++ zM g tg τ) H) (hD : va_D (lwA s) (zX a tc σ ++ zM g tg τ)) (hS : va_S (lwA s) s.heap H locs) (hl : lv_has ls 4 [(0, .ref bs), (1, .ref (a 0)), (2, .ref (g 0)), (3, .int y3)]) : W p l e room_1 s m #[Value.ref bs] below meth c H locs 34 3306 (lw_Z below #[Value.ref bs] s) (F0 m 136 ls []) := by
  dsimp only [lwB] at h
  refine lv_aload_n hx hb nD_L_law_136 rfl (lv_at hl 1 rfl) ?_
  refine lv_aload_n hx hb nD_L_law_137 rfl (lv_at hl 0 rfl) ?_
  refine lv_iload_n hx hb nD_L_law_138 rfl (lv_at hl 3 rfl) ?_
  refine lv_iconst (v := (1 : Int32)) hx hb nD_L_law_139 (by decide) ?_
  refine lv_iadd hx hb nD_L_law_140 ?_
  obtain ⟨hi1, h⟩ := h
  refine va_sld hx hb hX hbl hbA hS hi1 nD_L_law_141 ?_
  refine lv_aload_n hx hb nD_L_law_142 rfl (lv_at hl 0 rfl) ?_
  refine lv_iload_n hx hb nD_L_law_143 rfl (lv_at hl 3 rfl) ?_
  refine lv_iconst (v := (2 : Int32)) hx hb nD_L_law_144 (by decide) ?_
  refine lv_iadd hx hb nD_L_law_145 ?_
  obtain ⟨hi2, h⟩ := h
  refine va_sld hx hb hX hbl hbA hS hi2 nD_L_law_146 ?_
  refine lF_v (va_runV (As := [.int (xs (y3 + (1 : Int32)).toNatClampNeg), .int (xs (y3 + (2 : Int32)).toNatClampNeg)]) (rest := []) ⟨hx, hb, hml, hown, hw⟩ (c_X5_renew l D tc a (xs (y3 + (1 : Int32)).toNatClampNeg) (xs (y3 + (2 : Int32)).toNatClampNeg) σ _ h _) (mcV 2 hw wm_263 wm_260 wm_261 wm_262 wm_25 rfl rfl nh_X5_renew ⟨Nat.le_of_ble_eq_true rfl, Nat.le_of_ble_eq_true rfl⟩) (lp_F (ci := 4) hP hD hKX hn rfl xc_0) rfl rfl hl.1 rfl (lv_room (Nat.le_of_ble_eq_true rfl)) nD_L_law_147 ⟨Nat.le_of_ble_eq_true rfl, Nat.le_of_ble_eq_true rfl⟩) hP hD hS hA (fun σ3 H locs h hP hD hS => ?_)
  refine lv_aload_n hx hb nD_L_law_150 rfl (lv_at hl 2 rfl) ?_
  refine lv_aload_n hx hb nD_L_law_151 rfl (lv_at hl 0 rfl) ?_
  refine lv_iload_n hx hb nD_L_law_152 rfl (lv_at hl 3 rfl) ?_
  refine lv_iconst (v := (1 : Int32)) hx hb nD_L_law_153 (by decide) ?_
  refine lv_iadd hx hb nD_L_law_154 ?_
  obtain ⟨hi4, h⟩ := h
  refine va_sld hx hb hX hbl hbA hS hi4 nD_L_law_155 ?_
  refine lv_aload_n hx hb nD_L_law_156 rfl (lv_at hl 0 rfl) ?_
  refine lv_iload_n hx hb nD_L_law_157 rfl (lv_at hl 3 rfl) ?_
  refine lv_iconst (v := (2 : Int32)) hx hb nD_L_law_158 (by decide) ?_
  refine lv_iadd hx hb nD_L_law_159 ?_
  obtain ⟨hi5, h⟩ := h
  refine va_sld hx hb hX hbl hbA hS hi5 nD_L_law_160 ?_
  refine lG_v (va_runV (As := [.int (xs (y3 + (1 : Int32)).toNatClampNeg), .int (xs (y3 + (2 : Int32)).toNatClampNeg)]) (rest := []) ⟨hx, hb, hml, hown, hw⟩ (c_M_renew l D tg g (xs (y3 + (1 : Int32)).toNatClampNeg) (xs (y3 + (2 : Int32)).toNatClampNeg) τ _ h _) (mcV 2 hw wm_397 wm_494 wm_395 wm_396 wm_33 rfl rfl nh_M_renew ⟨Nat.le_of_ble_eq_true rfl, Nat.le_of_ble_eq_true rfl⟩) (lp_G (ci := 5) hP hD hKM hn rfl yc_0) rfl rfl hl.1 rfl (lv_room (Nat.le_of_ble_eq_true rfl)) nD_L_law_161 ⟨Nat.le_of_ble_eq_true rfl, Nat.le_of_ble_eq_true rfl⟩) hP hD hS hA (fun τ6 H locs h hP hD hS => ?_)
  refine lv_goto (tgt := 512) hx hb nD_L_law_164 (by decide) ?_
  exact lw_512 hx hb hR h hP hD hS hl
set_option maxHeartbeats 4000000 in
set_option maxRecDepth 100000 in
theorem lw_c1 {p : Program} {e : Env} {l : Launch} {s : State} {m : MethodId} {below : List Frame} {meth : Method} {c : Code} {D : va_G} {a g : Nat → Nat} {tc tg : Nat → ClassId} {bs L : Nat} {xs : Nat → Int32} {R : Int32 × zS × zS → Prop} (hx : p.tables.exec = Jvm.exec) (hb : c.code = nC_L_law) (hml : c.maxLocals = 4) (hown : s.vm.findClass R_law = some m.cls) (hw : ∀ w ∈ wA, w.before #[Value.ref bs] s = true) (hn : mN s) (hX : va_X bs L xs s s.heap) (hbl : bs < s.heap.size) (hbA : ¬ lwA s bs) (hKX : va_K D nCl (ztX tc) s) (hKM : va_K D nCl (ztM tg) s) (hA : ∀ q, s.heap.size ≤ q → lwA s q) (hR : ∀ q, R q → lwWd p e l s m below meth c D a g tc tg bs q) {y3 : Int32} {σ τ : zS} {H : Heap} {locs : List Loc} {ls : Array Slot} (h : lwB L xs R y3 σ τ 1) (hP : va_P D nCl (zX a tc σ ++ zM g tg τ) H) (hD : va_D (lwA s) (zX a tc σ ++ zM g tg τ)) (hS : va_S (lwA s) s.heap H locs) (hl : lv_has ls 4 [(0, .ref bs), (1, .ref (a 0)), (2, .ref (g 0)), (3, .int y3)]) : W p l e room_1 s m #[Value.ref bs] below meth c H locs 34 3306 (lw_Z below #[Value.ref bs] s) (F0 m 167 ls []) := by
  dsimp only [lwB] at h
  refine lv_aload_n hx hb nD_L_law_167 rfl (lv_at hl 1 rfl) ?_
  refine lv_aload_n hx hb nD_L_law_168 rfl (lv_at hl 0 rfl) ?_
  refine lv_iload_n hx hb nD_L_law_169 rfl (lv_at hl 3 rfl) ?_
  refine lv_iconst (v := (1 : Int32)) hx hb nD_L_law_170 (by decide) ?_
  refine lv_iadd hx hb nD_L_law_171 ?_
  obtain ⟨hi7, h⟩ := h
  refine va_sld hx hb hX hbl hbA hS hi7 nD_L_law_172 ?_
  refine lv_aload_n hx hb nD_L_law_173 rfl (lv_at hl 0 rfl) ?_
  refine lv_iload_n hx hb nD_L_law_174 rfl (lv_at hl 3 rfl) ?_
  refine lv_iconst (v := (2 : Int32)) hx hb nD_L_law_175 (by decide) ?_
  refine lv_iadd hx hb nD_L_law_176 ?_
  obtain ⟨hi8, h⟩ := h
  refine va_sld hx hb hX hbl hbA hS hi8 nD_L_law_177 ?_
  refine lF_i (va_runV (As := [.int (xs (y3 + (1 : Int32)).toNatClampNeg), .int (xs (y3 + (2 : Int32)).toNatClampNeg)]) (rest := []) ⟨hx, hb, hml, hown, hw⟩ (c_X5_beginPut l D tc a (xs (y3 + (1 : Int32)).toNatClampNeg) (xs (y3 + (2 : Int32)).toNatClampNeg) σ _ h _) (mcV 2 hw wm_267 wm_264 wm_265 wm_266 wm_25 rfl rfl nh_X5_beginPut ⟨Nat.le_of_ble_eq_true rfl, Nat.le_of_ble_eq_true rfl⟩) (lp_F (ci := 4) hP hD hKX hn rfl xc_0) rfl rfl hl.1 rfl (lv_room (Nat.le_of_ble_eq_true rfl)) nD_L_law_178 ⟨Nat.le_of_ble_eq_true rfl, Nat.le_of_ble_eq_true rfl⟩) hP hD hS hA (fun r9 σ10 H locs h hP hD hS => ?_)
  refine lv_aload_n hx hb nD_L_law_181 rfl (lv_at hl 2 rfl) ?_
  refine lv_aload_n hx hb nD_L_law_182 rfl (lv_at hl 0 rfl) ?_
  refine lv_iload_n hx hb nD_L_law_183 rfl (lv_at hl 3 rfl) ?_
  refine lv_iconst (v := (1 : Int32)) hx hb nD_L_law_184 (by decide) ?_
  refine lv_iadd hx hb nD_L_law_185 ?_
  obtain ⟨hi11, h⟩ := h
  refine va_sld hx hb hX hbl hbA hS hi11 nD_L_law_186 ?_
  refine lv_aload_n hx hb nD_L_law_187 rfl (lv_at hl 0 rfl) ?_
  refine lv_iload_n hx hb nD_L_law_188 rfl (lv_at hl 3 rfl) ?_
  refine lv_iconst (v := (2 : Int32)) hx hb nD_L_law_189 (by decide) ?_
  refine lv_iadd hx hb nD_L_law_190 ?_
  obtain ⟨hi12, h⟩ := h
  refine va_sld hx hb hX hbl hbA hS hi12 nD_L_law_191 ?_
  refine lG_i (va_runV (As := [.int (xs (y3 + (1 : Int32)).toNatClampNeg), .int (xs (y3 + (2 : Int32)).toNatClampNeg)]) (rest := [.int r9]) ⟨hx, hb, hml, hown, hw⟩ (c_M_beginPut l D tg g (xs (y3 + (1 : Int32)).toNatClampNeg) (xs (y3 + (2 : Int32)).toNatClampNeg) τ _ h _) (mcV 2 hw wm_498 wm_495 wm_496 wm_497 wm_33 rfl rfl nh_M_beginPut ⟨Nat.le_of_ble_eq_true rfl, Nat.le_of_ble_eq_true rfl⟩) (lp_G (ci := 5) hP hD hKM hn rfl yc_0) rfl rfl hl.1 rfl (lv_room (Nat.le_of_ble_eq_true rfl)) nD_L_law_192 ⟨Nat.le_of_ble_eq_true rfl, Nat.le_of_ble_eq_true rfl⟩) hP hD hS hA (fun r13 τ14 H locs h hP hD hS => ?_)
  refine lv_icmp_eq (tgt := 512) hx hb nD_L_law_195 (by decide) (fun hc => ?_) (fun hc => ?_)
  · have h := h.1 hc
    exact lw_512 hx hb hR h hP hD hS hl
  · have h := h.2 hc
    exact h.elim
set_option maxHeartbeats 4000000 in
set_option maxRecDepth 100000 in
theorem lw_c2 {p : Program} {e : Env} {l : Launch} {s : State} {m : MethodId} {below : List Frame} {meth : Method} {c : Code} {D : va_G} {a g : Nat → Nat} {tc tg : Nat → ClassId} {bs L : Nat} {xs : Nat → Int32} {R : Int32 × zS × zS → Prop} (hx : p.tables.exec = Jvm.exec) (hb : c.code = nC_L_law) (hml : c.maxLocals = 4) (hown : s.vm.findClass R_law = some m.cls) (hw : ∀ w ∈ wA, w.before #[Value.ref bs] s = true) (hn : mN s) (hX : va_X bs L xs s s.heap) (hbl : bs < s.heap.size) (hbA : ¬ lwA s bs) (hKX : va_K D nCl (ztX tc) s) (hKM : va_K D nCl (ztM tg) s) (hA : ∀ q, s.heap.size ≤ q → lwA s q) (hR : ∀ q, R q → lwWd p e l s m below meth c D a g tc tg bs q) {y3 : Int32} {σ τ : zS} {H : Heap} {locs : List Loc} {ls : Array Slot} (h : lwB L xs R y3 σ τ 2) (hP : va_P D nCl (zX a tc σ ++ zM g tg τ) H) (hD : va_D (lwA s) (zX a tc σ ++ zM g tg τ)) (hS : va_S (lwA s) s.heap H locs) (hl : lv_has ls 4 [(0, .ref bs), (1, .ref (a 0)), (2, .ref (g 0)), (3, .int y3)]) : W p l e room_1 s m #[Value.ref bs] below meth c H locs 34 3306 (lw_Z below #[Value.ref bs] s) (F0 m 200 ls []) := by
  dsimp only [lwB] at h
  refine lv_aload_n hx hb nD_L_law_200 rfl (lv_at hl 1 rfl) ?_
  refine lv_aload_n hx hb nD_L_law_201 rfl (lv_at hl 0 rfl) ?_
  refine lv_iload_n hx hb nD_L_law_202 rfl (lv_at hl 3 rfl) ?_
  refine lv_iconst (v := (1 : Int32)) hx hb nD_L_law_203 (by decide) ?_
  refine lv_iadd hx hb nD_L_law_204 ?_
  obtain ⟨hi15, h⟩ := h
  refine va_sld hx hb hX hbl hbA hS hi15 nD_L_law_205 ?_
  refine lF_i (va_runV (As := [.int (xs (y3 + (1 : Int32)).toNatClampNeg)]) (rest := []) ⟨hx, hb, hml, hown, hw⟩ (c_X5_beginTake l D tc a (xs (y3 + (1 : Int32)).toNatClampNeg) σ _ h _) (mcV 1 hw wm_293 wm_290 wm_291 wm_292 wm_25 rfl rfl nh_X5_beginTake ⟨Nat.le_of_ble_eq_true rfl, Nat.le_of_ble_eq_true rfl⟩) (lp_F (ci := 4) hP hD hKX hn rfl xc_0) rfl rfl hl.1 rfl (lv_room (Nat.le_of_ble_eq_true rfl)) nD_L_law_206 ⟨Nat.le_of_ble_eq_true rfl, Nat.le_of_ble_eq_true rfl⟩) hP hD hS hA (fun r16 σ17 H locs h hP hD hS => ?_)
  refine lv_aload_n hx hb nD_L_law_209 rfl (lv_at hl 2 rfl) ?_
  refine lv_aload_n hx hb nD_L_law_210 rfl (lv_at hl 0 rfl) ?_
  refine lv_iload_n hx hb nD_L_law_211 rfl (lv_at hl 3 rfl) ?_
  refine lv_iconst (v := (1 : Int32)) hx hb nD_L_law_212 (by decide) ?_
  refine lv_iadd hx hb nD_L_law_213 ?_
  obtain ⟨hi18, h⟩ := h
  refine va_sld hx hb hX hbl hbA hS hi18 nD_L_law_214 ?_
  refine lG_i (va_runV (As := [.int (xs (y3 + (1 : Int32)).toNatClampNeg)]) (rest := [.int r16]) ⟨hx, hb, hml, hown, hw⟩ (c_M_beginTake l D tg g (xs (y3 + (1 : Int32)).toNatClampNeg) τ _ h _) (mcV 1 hw wm_514 wm_511 wm_512 wm_513 wm_33 rfl rfl nh_M_beginTake ⟨Nat.le_of_ble_eq_true rfl, Nat.le_of_ble_eq_true rfl⟩) (lp_G (ci := 5) hP hD hKM hn rfl yc_0) rfl rfl hl.1 rfl (lv_room (Nat.le_of_ble_eq_true rfl)) nD_L_law_215 ⟨Nat.le_of_ble_eq_true rfl, Nat.le_of_ble_eq_true rfl⟩) hP hD hS hA (fun r19 τ20 H locs h hP hD hS => ?_)
  refine lv_icmp_eq (tgt := 512) hx hb nD_L_law_218 (by decide) (fun hc => ?_) (fun hc => ?_)
  · have h := h.1 hc
    exact lw_512 hx hb hR h hP hD hS hl
  · have h := h.2 hc
    exact h.elim
set_option maxHeartbeats 4000000 in
set_option maxRecDepth 100000 in
theorem lw_c3 {p : Program} {e : Env} {l : Launch} {s : State} {m : MethodId} {below : List Frame} {meth : Method} {c : Code} {D : va_G} {a g : Nat → Nat} {tc tg : Nat → ClassId} {bs L : Nat} {xs : Nat → Int32} {R : Int32 × zS × zS → Prop} (hx : p.tables.exec = Jvm.exec) (hb : c.code = nC_L_law) (hml : c.maxLocals = 4) (hown : s.vm.findClass R_law = some m.cls) (hw : ∀ w ∈ wA, w.before #[Value.ref bs] s = true) (hn : mN s) (hX : va_X bs L xs s s.heap) (hbl : bs < s.heap.size) (hbA : ¬ lwA s bs) (hKX : va_K D nCl (ztX tc) s) (hKM : va_K D nCl (ztM tg) s) (hA : ∀ q, s.heap.size ≤ q → lwA s q) (hR : ∀ q, R q → lwWd p e l s m below meth c D a g tc tg bs q) {y3 : Int32} {σ τ : zS} {H : Heap} {locs : List Loc} {ls : Array Slot} (h : lwB L xs R y3 σ τ 3) (hP : va_P D nCl (zX a tc σ ++ zM g tg τ) H) (hD : va_D (lwA s) (zX a tc σ ++ zM g tg τ)) (hS : va_S (lwA s) s.heap H locs) (hl : lv_has ls 4 [(0, .ref bs), (1, .ref (a 0)), (2, .ref (g 0)), (3, .int y3)]) : W p l e room_1 s m #[Value.ref bs] below meth c H locs 34 3306 (lw_Z below #[Value.ref bs] s) (F0 m 223 ls []) := by
  dsimp only [lwB] at h
  refine lv_aload_n hx hb nD_L_law_223 rfl (lv_at hl 1 rfl) ?_
  refine lv_aload_n hx hb nD_L_law_224 rfl (lv_at hl 0 rfl) ?_
  refine lv_iload_n hx hb nD_L_law_225 rfl (lv_at hl 3 rfl) ?_
  refine lv_iconst (v := (1 : Int32)) hx hb nD_L_law_226 (by decide) ?_
  refine lv_iadd hx hb nD_L_law_227 ?_
  obtain ⟨hi21, h⟩ := h
  refine va_sld hx hb hX hbl hbA hS hi21 nD_L_law_228 ?_
  refine lv_aload_n hx hb nD_L_law_229 rfl (lv_at hl 0 rfl) ?_
  refine lv_iload_n hx hb nD_L_law_230 rfl (lv_at hl 3 rfl) ?_
  refine lv_iconst (v := (2 : Int32)) hx hb nD_L_law_231 (by decide) ?_
  refine lv_iadd hx hb nD_L_law_232 ?_
  obtain ⟨hi22, h⟩ := h
  refine va_sld hx hb hX hbl hbA hS hi22 nD_L_law_233 ?_
  refine lv_if_eq (tgt := 241) hx hb nD_L_law_234 (by decide) (fun hc => ?_) (fun hc => ?_)
  · have h := h.1 hc
    refine lv_iconst (v := (0 : Int32)) hx hb nD_L_law_241 (by decide) ?_
    refine lF_i (va_runV (As := [.int (xs (y3 + (1 : Int32)).toNatClampNeg), .int (0 : Int32)]) (rest := []) ⟨hx, hb, hml, hown, hw⟩ (c_X5_endPut l D tc a (xs (y3 + (1 : Int32)).toNatClampNeg) (0 : Int32) σ _ h _) (mcV 2 hw wm_301 wm_298 wm_299 wm_300 wm_25 rfl rfl nh_X5_endPut ⟨Nat.le_of_ble_eq_true rfl, Nat.le_of_ble_eq_true rfl⟩) (lp_F (ci := 4) hP hD hKX hn rfl xc_0) rfl rfl hl.1 rfl (lv_room (Nat.le_of_ble_eq_true rfl)) nD_L_law_242 ⟨Nat.le_of_ble_eq_true rfl, Nat.le_of_ble_eq_true rfl⟩) hP hD hS hA (fun r23 σ24 H locs h hP hD hS => ?_)
    refine lv_aload_n hx hb nD_L_law_245 rfl (lv_at hl 2 rfl) ?_
    refine lv_aload_n hx hb nD_L_law_246 rfl (lv_at hl 0 rfl) ?_
    refine lv_iload_n hx hb nD_L_law_247 rfl (lv_at hl 3 rfl) ?_
    refine lv_iconst (v := (1 : Int32)) hx hb nD_L_law_248 (by decide) ?_
    refine lv_iadd hx hb nD_L_law_249 ?_
    obtain ⟨hi25, h⟩ := h
    refine va_sld hx hb hX hbl hbA hS hi25 nD_L_law_250 ?_
    refine lv_aload_n hx hb nD_L_law_251 rfl (lv_at hl 0 rfl) ?_
    refine lv_iload_n hx hb nD_L_law_252 rfl (lv_at hl 3 rfl) ?_
    refine lv_iconst (v := (2 : Int32)) hx hb nD_L_law_253 (by decide) ?_
    refine lv_iadd hx hb nD_L_law_254 ?_
    obtain ⟨hi26, h⟩ := h
    refine va_sld hx hb hX hbl hbA hS hi26 nD_L_law_255 ?_
    refine lv_if_eq (tgt := 263) hx hb nD_L_law_256 (by decide) (fun hc => ?_) (fun hc => ?_)
    · have h := h.1 hc
      refine lv_iconst (v := (0 : Int32)) hx hb nD_L_law_263 (by decide) ?_
      refine lG_i (va_runV (As := [.int (xs (y3 + (1 : Int32)).toNatClampNeg), .int (0 : Int32)]) (rest := [.int r23]) ⟨hx, hb, hml, hown, hw⟩ (c_M_endPut l D tg g (xs (y3 + (1 : Int32)).toNatClampNeg) (0 : Int32) τ _ h _) (mcV 2 hw wm_518 wm_515 wm_516 wm_517 wm_33 rfl rfl nh_M_endPut ⟨Nat.le_of_ble_eq_true rfl, Nat.le_of_ble_eq_true rfl⟩) (lp_G (ci := 5) hP hD hKM hn rfl yc_0) rfl rfl hl.1 rfl (lv_room (Nat.le_of_ble_eq_true rfl)) nD_L_law_264 ⟨Nat.le_of_ble_eq_true rfl, Nat.le_of_ble_eq_true rfl⟩) hP hD hS hA (fun r27 τ28 H locs h hP hD hS => ?_)
      refine lv_icmp_eq (tgt := 512) hx hb nD_L_law_267 (by decide) (fun hc => ?_) (fun hc => ?_)
      · have h := h.1 hc
        exact lw_512 hx hb hR h hP hD hS hl
      · have h := h.2 hc
        exact h.elim
    · have h := h.2 hc
      refine lv_iconst (v := (1 : Int32)) hx hb nD_L_law_259 (by decide) ?_
      refine lv_goto (tgt := 264) hx hb nD_L_law_260 (by decide) ?_
      refine lG_i (va_runV (As := [.int (xs (y3 + (1 : Int32)).toNatClampNeg), .int (1 : Int32)]) (rest := [.int r23]) ⟨hx, hb, hml, hown, hw⟩ (c_M_endPut l D tg g (xs (y3 + (1 : Int32)).toNatClampNeg) (1 : Int32) τ _ h _) (mcV 2 hw wm_518 wm_515 wm_516 wm_517 wm_33 rfl rfl nh_M_endPut ⟨Nat.le_of_ble_eq_true rfl, Nat.le_of_ble_eq_true rfl⟩) (lp_G (ci := 5) hP hD hKM hn rfl yc_0) rfl rfl hl.1 rfl (lv_room (Nat.le_of_ble_eq_true rfl)) nD_L_law_264 ⟨Nat.le_of_ble_eq_true rfl, Nat.le_of_ble_eq_true rfl⟩) hP hD hS hA (fun r29 τ30 H locs h hP hD hS => ?_)
      refine lv_icmp_eq (tgt := 512) hx hb nD_L_law_267 (by decide) (fun hc => ?_) (fun hc => ?_)
      · have h := h.1 hc
        exact lw_512 hx hb hR h hP hD hS hl
      · have h := h.2 hc
        exact h.elim
  · have h := h.2 hc
    refine lv_iconst (v := (1 : Int32)) hx hb nD_L_law_237 (by decide) ?_
    refine lv_goto (tgt := 242) hx hb nD_L_law_238 (by decide) ?_
    refine lF_i (va_runV (As := [.int (xs (y3 + (1 : Int32)).toNatClampNeg), .int (1 : Int32)]) (rest := []) ⟨hx, hb, hml, hown, hw⟩ (c_X5_endPut l D tc a (xs (y3 + (1 : Int32)).toNatClampNeg) (1 : Int32) σ _ h _) (mcV 2 hw wm_301 wm_298 wm_299 wm_300 wm_25 rfl rfl nh_X5_endPut ⟨Nat.le_of_ble_eq_true rfl, Nat.le_of_ble_eq_true rfl⟩) (lp_F (ci := 4) hP hD hKX hn rfl xc_0) rfl rfl hl.1 rfl (lv_room (Nat.le_of_ble_eq_true rfl)) nD_L_law_242 ⟨Nat.le_of_ble_eq_true rfl, Nat.le_of_ble_eq_true rfl⟩) hP hD hS hA (fun r31 σ32 H locs h hP hD hS => ?_)
    refine lv_aload_n hx hb nD_L_law_245 rfl (lv_at hl 2 rfl) ?_
    refine lv_aload_n hx hb nD_L_law_246 rfl (lv_at hl 0 rfl) ?_
    refine lv_iload_n hx hb nD_L_law_247 rfl (lv_at hl 3 rfl) ?_
    refine lv_iconst (v := (1 : Int32)) hx hb nD_L_law_248 (by decide) ?_
    refine lv_iadd hx hb nD_L_law_249 ?_
    obtain ⟨hi33, h⟩ := h
    refine va_sld hx hb hX hbl hbA hS hi33 nD_L_law_250 ?_
    refine lv_aload_n hx hb nD_L_law_251 rfl (lv_at hl 0 rfl) ?_
    refine lv_iload_n hx hb nD_L_law_252 rfl (lv_at hl 3 rfl) ?_
    refine lv_iconst (v := (2 : Int32)) hx hb nD_L_law_253 (by decide) ?_
    refine lv_iadd hx hb nD_L_law_254 ?_
    obtain ⟨hi34, h⟩ := h
    refine va_sld hx hb hX hbl hbA hS hi34 nD_L_law_255 ?_
    refine lv_if_eq (tgt := 263) hx hb nD_L_law_256 (by decide) (fun hc => ?_) (fun hc => ?_)
    · have h := h.1 hc
      refine lv_iconst (v := (0 : Int32)) hx hb nD_L_law_263 (by decide) ?_
      refine lG_i (va_runV (As := [.int (xs (y3 + (1 : Int32)).toNatClampNeg), .int (0 : Int32)]) (rest := [.int r31]) ⟨hx, hb, hml, hown, hw⟩ (c_M_endPut l D tg g (xs (y3 + (1 : Int32)).toNatClampNeg) (0 : Int32) τ _ h _) (mcV 2 hw wm_518 wm_515 wm_516 wm_517 wm_33 rfl rfl nh_M_endPut ⟨Nat.le_of_ble_eq_true rfl, Nat.le_of_ble_eq_true rfl⟩) (lp_G (ci := 5) hP hD hKM hn rfl yc_0) rfl rfl hl.1 rfl (lv_room (Nat.le_of_ble_eq_true rfl)) nD_L_law_264 ⟨Nat.le_of_ble_eq_true rfl, Nat.le_of_ble_eq_true rfl⟩) hP hD hS hA (fun r35 τ36 H locs h hP hD hS => ?_)
      refine lv_icmp_eq (tgt := 512) hx hb nD_L_law_267 (by decide) (fun hc => ?_) (fun hc => ?_)
      · have h := h.1 hc
        exact lw_512 hx hb hR h hP hD hS hl
      · have h := h.2 hc
        exact h.elim
    · have h := h.2 hc
      refine lv_iconst (v := (1 : Int32)) hx hb nD_L_law_259 (by decide) ?_
      refine lv_goto (tgt := 264) hx hb nD_L_law_260 (by decide) ?_
      refine lG_i (va_runV (As := [.int (xs (y3 + (1 : Int32)).toNatClampNeg), .int (1 : Int32)]) (rest := [.int r31]) ⟨hx, hb, hml, hown, hw⟩ (c_M_endPut l D tg g (xs (y3 + (1 : Int32)).toNatClampNeg) (1 : Int32) τ _ h _) (mcV 2 hw wm_518 wm_515 wm_516 wm_517 wm_33 rfl rfl nh_M_endPut ⟨Nat.le_of_ble_eq_true rfl, Nat.le_of_ble_eq_true rfl⟩) (lp_G (ci := 5) hP hD hKM hn rfl yc_0) rfl rfl hl.1 rfl (lv_room (Nat.le_of_ble_eq_true rfl)) nD_L_law_264 ⟨Nat.le_of_ble_eq_true rfl, Nat.le_of_ble_eq_true rfl⟩) hP hD hS hA (fun r37 τ38 H locs h hP hD hS => ?_)
      refine lv_icmp_eq (tgt := 512) hx hb nD_L_law_267 (by decide) (fun hc => ?_) (fun hc => ?_)
      · have h := h.1 hc
        exact lw_512 hx hb hR h hP hD hS hl
      · have h := h.2 hc
        exact h.elim
set_option maxHeartbeats 4000000 in
set_option maxRecDepth 100000 in
theorem lw_c4 {p : Program} {e : Env} {l : Launch} {s : State} {m : MethodId} {below : List Frame} {meth : Method} {c : Code} {D : va_G} {a g : Nat → Nat} {tc tg : Nat → ClassId} {bs L : Nat} {xs : Nat → Int32} {R : Int32 × zS × zS → Prop} (hx : p.tables.exec = Jvm.exec) (hb : c.code = nC_L_law) (hml : c.maxLocals = 4) (hown : s.vm.findClass R_law = some m.cls) (hw : ∀ w ∈ wA, w.before #[Value.ref bs] s = true) (hn : mN s) (hX : va_X bs L xs s s.heap) (hbl : bs < s.heap.size) (hbA : ¬ lwA s bs) (hKX : va_K D nCl (ztX tc) s) (hKM : va_K D nCl (ztM tg) s) (hA : ∀ q, s.heap.size ≤ q → lwA s q) (hR : ∀ q, R q → lwWd p e l s m below meth c D a g tc tg bs q) {y3 : Int32} {σ τ : zS} {H : Heap} {locs : List Loc} {ls : Array Slot} (h : lwB L xs R y3 σ τ 4) (hP : va_P D nCl (zX a tc σ ++ zM g tg τ) H) (hD : va_D (lwA s) (zX a tc σ ++ zM g tg τ)) (hS : va_S (lwA s) s.heap H locs) (hl : lv_has ls 4 [(0, .ref bs), (1, .ref (a 0)), (2, .ref (g 0)), (3, .int y3)]) : W p l e room_1 s m #[Value.ref bs] below meth c H locs 34 3306 (lw_Z below #[Value.ref bs] s) (F0 m 272 ls []) := by
  dsimp only [lwB] at h
  refine lv_aload_n hx hb nD_L_law_272 rfl (lv_at hl 1 rfl) ?_
  refine lv_aload_n hx hb nD_L_law_273 rfl (lv_at hl 0 rfl) ?_
  refine lv_iload_n hx hb nD_L_law_274 rfl (lv_at hl 3 rfl) ?_
  refine lv_iconst (v := (1 : Int32)) hx hb nD_L_law_275 (by decide) ?_
  refine lv_iadd hx hb nD_L_law_276 ?_
  obtain ⟨hi39, h⟩ := h
  refine va_sld hx hb hX hbl hbA hS hi39 nD_L_law_277 ?_
  refine lv_aload_n hx hb nD_L_law_278 rfl (lv_at hl 0 rfl) ?_
  refine lv_iload_n hx hb nD_L_law_279 rfl (lv_at hl 3 rfl) ?_
  refine lv_iconst (v := (2 : Int32)) hx hb nD_L_law_280 (by decide) ?_
  refine lv_iadd hx hb nD_L_law_281 ?_
  obtain ⟨hi40, h⟩ := h
  refine va_sld hx hb hX hbl hbA hS hi40 nD_L_law_282 ?_
  refine lF_i (va_runV (As := [.int (xs (y3 + (1 : Int32)).toNatClampNeg), .int (xs (y3 + (2 : Int32)).toNatClampNeg)]) (rest := []) ⟨hx, hb, hml, hown, hw⟩ (c_X5_endTake l D tc a (xs (y3 + (1 : Int32)).toNatClampNeg) (xs (y3 + (2 : Int32)).toNatClampNeg) σ _ h _) (mcV 2 hw wm_317 wm_314 wm_315 wm_316 wm_25 rfl rfl nh_X5_endTake ⟨Nat.le_of_ble_eq_true rfl, Nat.le_of_ble_eq_true rfl⟩) (lp_F (ci := 4) hP hD hKX hn rfl xc_0) rfl rfl hl.1 rfl (lv_room (Nat.le_of_ble_eq_true rfl)) nD_L_law_283 ⟨Nat.le_of_ble_eq_true rfl, Nat.le_of_ble_eq_true rfl⟩) hP hD hS hA (fun r41 σ42 H locs h hP hD hS => ?_)
  refine lv_aload_n hx hb nD_L_law_286 rfl (lv_at hl 2 rfl) ?_
  refine lv_aload_n hx hb nD_L_law_287 rfl (lv_at hl 0 rfl) ?_
  refine lv_iload_n hx hb nD_L_law_288 rfl (lv_at hl 3 rfl) ?_
  refine lv_iconst (v := (1 : Int32)) hx hb nD_L_law_289 (by decide) ?_
  refine lv_iadd hx hb nD_L_law_290 ?_
  obtain ⟨hi43, h⟩ := h
  refine va_sld hx hb hX hbl hbA hS hi43 nD_L_law_291 ?_
  refine lv_aload_n hx hb nD_L_law_292 rfl (lv_at hl 0 rfl) ?_
  refine lv_iload_n hx hb nD_L_law_293 rfl (lv_at hl 3 rfl) ?_
  refine lv_iconst (v := (2 : Int32)) hx hb nD_L_law_294 (by decide) ?_
  refine lv_iadd hx hb nD_L_law_295 ?_
  obtain ⟨hi44, h⟩ := h
  refine va_sld hx hb hX hbl hbA hS hi44 nD_L_law_296 ?_
  refine lG_i (va_runV (As := [.int (xs (y3 + (1 : Int32)).toNatClampNeg), .int (xs (y3 + (2 : Int32)).toNatClampNeg)]) (rest := [.int r41]) ⟨hx, hb, hml, hown, hw⟩ (c_M_endTake l D tg g (xs (y3 + (1 : Int32)).toNatClampNeg) (xs (y3 + (2 : Int32)).toNatClampNeg) τ _ h _) (mcV 2 hw wm_526 wm_523 wm_524 wm_525 wm_33 rfl rfl nh_M_endTake ⟨Nat.le_of_ble_eq_true rfl, Nat.le_of_ble_eq_true rfl⟩) (lp_G (ci := 5) hP hD hKM hn rfl yc_0) rfl rfl hl.1 rfl (lv_room (Nat.le_of_ble_eq_true rfl)) nD_L_law_297 ⟨Nat.le_of_ble_eq_true rfl, Nat.le_of_ble_eq_true rfl⟩) hP hD hS hA (fun r45 τ46 H locs h hP hD hS => ?_)
  refine lv_icmp_eq (tgt := 512) hx hb nD_L_law_300 (by decide) (fun hc => ?_) (fun hc => ?_)
  · have h := h.1 hc
    exact lw_512 hx hb hR h hP hD hS hl
  · have h := h.2 hc
    exact h.elim
set_option maxHeartbeats 4000000 in
set_option maxRecDepth 100000 in
theorem lw_c5 {p : Program} {e : Env} {l : Launch} {s : State} {m : MethodId} {below : List Frame} {meth : Method} {c : Code} {D : va_G} {a g : Nat → Nat} {tc tg : Nat → ClassId} {bs L : Nat} {xs : Nat → Int32} {R : Int32 × zS × zS → Prop} (hx : p.tables.exec = Jvm.exec) (hb : c.code = nC_L_law) (hml : c.maxLocals = 4) (hown : s.vm.findClass R_law = some m.cls) (hw : ∀ w ∈ wA, w.before #[Value.ref bs] s = true) (hn : mN s) (hX : va_X bs L xs s s.heap) (hbl : bs < s.heap.size) (hbA : ¬ lwA s bs) (hKX : va_K D nCl (ztX tc) s) (hKM : va_K D nCl (ztM tg) s) (hA : ∀ q, s.heap.size ≤ q → lwA s q) (hR : ∀ q, R q → lwWd p e l s m below meth c D a g tc tg bs q) {y3 : Int32} {σ τ : zS} {H : Heap} {locs : List Loc} {ls : Array Slot} (h : lwB L xs R y3 σ τ 5) (hP : va_P D nCl (zX a tc σ ++ zM g tg τ) H) (hD : va_D (lwA s) (zX a tc σ ++ zM g tg τ)) (hS : va_S (lwA s) s.heap H locs) (hl : lv_has ls 4 [(0, .ref bs), (1, .ref (a 0)), (2, .ref (g 0)), (3, .int y3)]) : W p l e room_1 s m #[Value.ref bs] below meth c H locs 34 3306 (lw_Z below #[Value.ref bs] s) (F0 m 305 ls []) := by
  dsimp only [lwB] at h
  refine lv_aload_n hx hb nD_L_law_305 rfl (lv_at hl 1 rfl) ?_
  refine lv_aload_n hx hb nD_L_law_306 rfl (lv_at hl 0 rfl) ?_
  refine lv_iload_n hx hb nD_L_law_307 rfl (lv_at hl 3 rfl) ?_
  refine lv_iconst (v := (1 : Int32)) hx hb nD_L_law_308 (by decide) ?_
  refine lv_iadd hx hb nD_L_law_309 ?_
  obtain ⟨hi47, h⟩ := h
  refine va_sld hx hb hX hbl hbA hS hi47 nD_L_law_310 ?_
  refine lF_i (va_runV (As := [.int (xs (y3 + (1 : Int32)).toNatClampNeg)]) (rest := []) ⟨hx, hb, hml, hown, hw⟩ (c_X5_giveUp l D tc a (xs (y3 + (1 : Int32)).toNatClampNeg) σ _ h _) (mcV 1 hw wm_321 wm_318 wm_319 wm_320 wm_25 rfl rfl nh_X5_giveUp ⟨Nat.le_of_ble_eq_true rfl, Nat.le_of_ble_eq_true rfl⟩) (lp_F (ci := 4) hP hD hKX hn rfl xc_0) rfl rfl hl.1 rfl (lv_room (Nat.le_of_ble_eq_true rfl)) nD_L_law_311 ⟨Nat.le_of_ble_eq_true rfl, Nat.le_of_ble_eq_true rfl⟩) hP hD hS hA (fun r48 σ49 H locs h hP hD hS => ?_)
  refine lv_aload_n hx hb nD_L_law_314 rfl (lv_at hl 2 rfl) ?_
  refine lv_aload_n hx hb nD_L_law_315 rfl (lv_at hl 0 rfl) ?_
  refine lv_iload_n hx hb nD_L_law_316 rfl (lv_at hl 3 rfl) ?_
  refine lv_iconst (v := (1 : Int32)) hx hb nD_L_law_317 (by decide) ?_
  refine lv_iadd hx hb nD_L_law_318 ?_
  obtain ⟨hi50, h⟩ := h
  refine va_sld hx hb hX hbl hbA hS hi50 nD_L_law_319 ?_
  refine lG_i (va_runV (As := [.int (xs (y3 + (1 : Int32)).toNatClampNeg)]) (rest := [.int r48]) ⟨hx, hb, hml, hown, hw⟩ (c_M_giveUp l D tg g (xs (y3 + (1 : Int32)).toNatClampNeg) τ _ h _) (mcV 1 hw wm_530 wm_527 wm_528 wm_529 wm_33 rfl rfl nh_M_giveUp ⟨Nat.le_of_ble_eq_true rfl, Nat.le_of_ble_eq_true rfl⟩) (lp_G (ci := 5) hP hD hKM hn rfl yc_0) rfl rfl hl.1 rfl (lv_room (Nat.le_of_ble_eq_true rfl)) nD_L_law_320 ⟨Nat.le_of_ble_eq_true rfl, Nat.le_of_ble_eq_true rfl⟩) hP hD hS hA (fun r51 τ52 H locs h hP hD hS => ?_)
  refine lv_icmp_eq (tgt := 512) hx hb nD_L_law_323 (by decide) (fun hc => ?_) (fun hc => ?_)
  · have h := h.1 hc
    exact lw_512 hx hb hR h hP hD hS hl
  · have h := h.2 hc
    exact h.elim
set_option maxHeartbeats 4000000 in
set_option maxRecDepth 100000 in
theorem lw_c6 {p : Program} {e : Env} {l : Launch} {s : State} {m : MethodId} {below : List Frame} {meth : Method} {c : Code} {D : va_G} {a g : Nat → Nat} {tc tg : Nat → ClassId} {bs L : Nat} {xs : Nat → Int32} {R : Int32 × zS × zS → Prop} (hx : p.tables.exec = Jvm.exec) (hb : c.code = nC_L_law) (hml : c.maxLocals = 4) (hown : s.vm.findClass R_law = some m.cls) (hw : ∀ w ∈ wA, w.before #[Value.ref bs] s = true) (hn : mN s) (hX : va_X bs L xs s s.heap) (hbl : bs < s.heap.size) (hbA : ¬ lwA s bs) (hKX : va_K D nCl (ztX tc) s) (hKM : va_K D nCl (ztM tg) s) (hA : ∀ q, s.heap.size ≤ q → lwA s q) (hR : ∀ q, R q → lwWd p e l s m below meth c D a g tc tg bs q) {y3 : Int32} {σ τ : zS} {H : Heap} {locs : List Loc} {ls : Array Slot} (h : lwB L xs R y3 σ τ 6) (hP : va_P D nCl (zX a tc σ ++ zM g tg τ) H) (hD : va_D (lwA s) (zX a tc σ ++ zM g tg τ)) (hS : va_S (lwA s) s.heap H locs) (hl : lv_has ls 4 [(0, .ref bs), (1, .ref (a 0)), (2, .ref (g 0)), (3, .int y3)]) : W p l e room_1 s m #[Value.ref bs] below meth c H locs 34 3306 (lw_Z below #[Value.ref bs] s) (F0 m 328 ls []) := by
  dsimp only [lwB] at h
  refine lv_aload_n hx hb nD_L_law_328 rfl (lv_at hl 1 rfl) ?_
  refine lF_i (va_runV (As := []) (rest := []) ⟨hx, hb, hml, hown, hw⟩ (c_X5_events l D tc a  σ _ h _) (mcV 0 hw wm_325 wm_322 wm_323 wm_324 wm_25 rfl rfl nh_X5_events ⟨Nat.le_of_ble_eq_true rfl, Nat.le_of_ble_eq_true rfl⟩) (lp_F (ci := 4) hP hD hKX hn rfl xc_0) rfl rfl hl.1 rfl (lv_room (Nat.le_of_ble_eq_true rfl)) nD_L_law_329 ⟨Nat.le_of_ble_eq_true rfl, Nat.le_of_ble_eq_true rfl⟩) hP hD hS hA (fun r53 σ54 H locs h hP hD hS => ?_)
  refine lv_aload_n hx hb nD_L_law_332 rfl (lv_at hl 2 rfl) ?_
  refine lG_i (va_runV (As := []) (rest := [.int r53]) ⟨hx, hb, hml, hown, hw⟩ (c_M_events l D tg g  τ _ h _) (mcV 0 hw wm_534 wm_531 wm_532 wm_533 wm_33 rfl rfl nh_M_events ⟨Nat.le_of_ble_eq_true rfl, Nat.le_of_ble_eq_true rfl⟩) (lp_G (ci := 5) hP hD hKM hn rfl yc_0) rfl rfl hl.1 rfl (lv_room (Nat.le_of_ble_eq_true rfl)) nD_L_law_333 ⟨Nat.le_of_ble_eq_true rfl, Nat.le_of_ble_eq_true rfl⟩) hP hD hS hA (fun r55 τ56 H locs h hP hD hS => ?_)
  refine lv_icmp_eq (tgt := 512) hx hb nD_L_law_336 (by decide) (fun hc => ?_) (fun hc => ?_)
  · have h := h.1 hc
    exact lw_512 hx hb hR h hP hD hS hl
  · have h := h.2 hc
    exact h.elim
set_option maxHeartbeats 4000000 in
set_option maxRecDepth 100000 in
theorem lw_c7 {p : Program} {e : Env} {l : Launch} {s : State} {m : MethodId} {below : List Frame} {meth : Method} {c : Code} {D : va_G} {a g : Nat → Nat} {tc tg : Nat → ClassId} {bs L : Nat} {xs : Nat → Int32} {R : Int32 × zS × zS → Prop} (hx : p.tables.exec = Jvm.exec) (hb : c.code = nC_L_law) (hml : c.maxLocals = 4) (hown : s.vm.findClass R_law = some m.cls) (hw : ∀ w ∈ wA, w.before #[Value.ref bs] s = true) (hn : mN s) (hX : va_X bs L xs s s.heap) (hbl : bs < s.heap.size) (hbA : ¬ lwA s bs) (hKX : va_K D nCl (ztX tc) s) (hKM : va_K D nCl (ztM tg) s) (hA : ∀ q, s.heap.size ≤ q → lwA s q) (hR : ∀ q, R q → lwWd p e l s m below meth c D a g tc tg bs q) {y3 : Int32} {σ τ : zS} {H : Heap} {locs : List Loc} {ls : Array Slot} (h : lwB L xs R y3 σ τ 7) (hP : va_P D nCl (zX a tc σ ++ zM g tg τ) H) (hD : va_D (lwA s) (zX a tc σ ++ zM g tg τ)) (hS : va_S (lwA s) s.heap H locs) (hl : lv_has ls 4 [(0, .ref bs), (1, .ref (a 0)), (2, .ref (g 0)), (3, .int y3)]) : W p l e room_1 s m #[Value.ref bs] below meth c H locs 34 3306 (lw_Z below #[Value.ref bs] s) (F0 m 341 ls []) := by
  dsimp only [lwB] at h
  refine lv_aload_n hx hb nD_L_law_341 rfl (lv_at hl 1 rfl) ?_
  refine lF_i (va_runV (As := []) (rest := []) ⟨hx, hb, hml, hown, hw⟩ (c_X5_begun l D tc a  σ _ h _) (mcV 0 hw wm_329 wm_326 wm_327 wm_328 wm_25 rfl rfl nh_X5_begun ⟨Nat.le_of_ble_eq_true rfl, Nat.le_of_ble_eq_true rfl⟩) (lp_F (ci := 4) hP hD hKX hn rfl xc_0) rfl rfl hl.1 rfl (lv_room (Nat.le_of_ble_eq_true rfl)) nD_L_law_342 ⟨Nat.le_of_ble_eq_true rfl, Nat.le_of_ble_eq_true rfl⟩) hP hD hS hA (fun r57 σ58 H locs h hP hD hS => ?_)
  refine lv_aload_n hx hb nD_L_law_345 rfl (lv_at hl 2 rfl) ?_
  refine lG_i (va_runV (As := []) (rest := [.int r57]) ⟨hx, hb, hml, hown, hw⟩ (c_M_begun l D tg g  τ _ h _) (mcV 0 hw wm_538 wm_535 wm_536 wm_537 wm_33 rfl rfl nh_M_begun ⟨Nat.le_of_ble_eq_true rfl, Nat.le_of_ble_eq_true rfl⟩) (lp_G (ci := 5) hP hD hKM hn rfl yc_0) rfl rfl hl.1 rfl (lv_room (Nat.le_of_ble_eq_true rfl)) nD_L_law_346 ⟨Nat.le_of_ble_eq_true rfl, Nat.le_of_ble_eq_true rfl⟩) hP hD hS hA (fun r59 τ60 H locs h hP hD hS => ?_)
  refine lv_icmp_eq (tgt := 512) hx hb nD_L_law_349 (by decide) (fun hc => ?_) (fun hc => ?_)
  · have h := h.1 hc
    exact lw_512 hx hb hR h hP hD hS hl
  · have h := h.2 hc
    exact h.elim
set_option maxHeartbeats 4000000 in
set_option maxRecDepth 100000 in
theorem lw_c8 {p : Program} {e : Env} {l : Launch} {s : State} {m : MethodId} {below : List Frame} {meth : Method} {c : Code} {D : va_G} {a g : Nat → Nat} {tc tg : Nat → ClassId} {bs L : Nat} {xs : Nat → Int32} {R : Int32 × zS × zS → Prop} (hx : p.tables.exec = Jvm.exec) (hb : c.code = nC_L_law) (hml : c.maxLocals = 4) (hown : s.vm.findClass R_law = some m.cls) (hw : ∀ w ∈ wA, w.before #[Value.ref bs] s = true) (hn : mN s) (hX : va_X bs L xs s s.heap) (hbl : bs < s.heap.size) (hbA : ¬ lwA s bs) (hKX : va_K D nCl (ztX tc) s) (hKM : va_K D nCl (ztM tg) s) (hA : ∀ q, s.heap.size ≤ q → lwA s q) (hR : ∀ q, R q → lwWd p e l s m below meth c D a g tc tg bs q) {y3 : Int32} {σ τ : zS} {H : Heap} {locs : List Loc} {ls : Array Slot} (h : lwB L xs R y3 σ τ 8) (hP : va_P D nCl (zX a tc σ ++ zM g tg τ) H) (hD : va_D (lwA s) (zX a tc σ ++ zM g tg τ)) (hS : va_S (lwA s) s.heap H locs) (hl : lv_has ls 4 [(0, .ref bs), (1, .ref (a 0)), (2, .ref (g 0)), (3, .int y3)]) : W p l e room_1 s m #[Value.ref bs] below meth c H locs 34 3306 (lw_Z below #[Value.ref bs] s) (F0 m 354 ls []) := by
  dsimp only [lwB] at h
  refine lv_aload_n hx hb nD_L_law_354 rfl (lv_at hl 1 rfl) ?_
  refine lF_i (va_runV (As := []) (rest := []) ⟨hx, hb, hml, hown, hw⟩ (c_X5_fits l D tc a  σ _ h _) (mcV 0 hw wm_228 wm_330 wm_226 wm_227 wm_25 rfl rfl nh_X5_fits ⟨Nat.le_of_ble_eq_true rfl, Nat.le_of_ble_eq_true rfl⟩) (lp_F (ci := 4) hP hD hKX hn rfl xc_0) rfl rfl hl.1 rfl (lv_room (Nat.le_of_ble_eq_true rfl)) nD_L_law_355 ⟨Nat.le_of_ble_eq_true rfl, Nat.le_of_ble_eq_true rfl⟩) hP hD hS hA (fun r61 σ62 H locs h hP hD hS => ?_)
  refine lv_aload_n hx hb nD_L_law_358 rfl (lv_at hl 2 rfl) ?_
  refine lG_i (va_runV (As := []) (rest := [.int r61]) ⟨hx, hb, hml, hown, hw⟩ (c_M_fits l D tg g  τ _ h _) (mcV 0 hw wm_542 wm_539 wm_540 wm_541 wm_33 rfl rfl nh_M_fits ⟨Nat.le_of_ble_eq_true rfl, Nat.le_of_ble_eq_true rfl⟩) (lp_G (ci := 5) hP hD hKM hn rfl yc_0) rfl rfl hl.1 rfl (lv_room (Nat.le_of_ble_eq_true rfl)) nD_L_law_359 ⟨Nat.le_of_ble_eq_true rfl, Nat.le_of_ble_eq_true rfl⟩) hP hD hS hA (fun r63 τ64 H locs h hP hD hS => ?_)
  refine lv_icmp_eq (tgt := 512) hx hb nD_L_law_362 (by decide) (fun hc => ?_) (fun hc => ?_)
  · have h := h.1 hc
    exact lw_512 hx hb hR h hP hD hS hl
  · have h := h.2 hc
    exact h.elim
set_option maxHeartbeats 4000000 in
set_option maxRecDepth 100000 in
theorem lw_c9 {p : Program} {e : Env} {l : Launch} {s : State} {m : MethodId} {below : List Frame} {meth : Method} {c : Code} {D : va_G} {a g : Nat → Nat} {tc tg : Nat → ClassId} {bs L : Nat} {xs : Nat → Int32} {R : Int32 × zS × zS → Prop} (hx : p.tables.exec = Jvm.exec) (hb : c.code = nC_L_law) (hml : c.maxLocals = 4) (hown : s.vm.findClass R_law = some m.cls) (hw : ∀ w ∈ wA, w.before #[Value.ref bs] s = true) (hn : mN s) (hX : va_X bs L xs s s.heap) (hbl : bs < s.heap.size) (hbA : ¬ lwA s bs) (hKX : va_K D nCl (ztX tc) s) (hKM : va_K D nCl (ztM tg) s) (hA : ∀ q, s.heap.size ≤ q → lwA s q) (hR : ∀ q, R q → lwWd p e l s m below meth c D a g tc tg bs q) {y3 : Int32} {σ τ : zS} {H : Heap} {locs : List Loc} {ls : Array Slot} (h : lwB L xs R y3 σ τ 9) (hP : va_P D nCl (zX a tc σ ++ zM g tg τ) H) (hD : va_D (lwA s) (zX a tc σ ++ zM g tg τ)) (hS : va_S (lwA s) s.heap H locs) (hl : lv_has ls 4 [(0, .ref bs), (1, .ref (a 0)), (2, .ref (g 0)), (3, .int y3)]) : W p l e room_1 s m #[Value.ref bs] below meth c H locs 34 3306 (lw_Z below #[Value.ref bs] s) (F0 m 367 ls []) := by
  dsimp only [lwB] at h
  refine lv_aload_n hx hb nD_L_law_367 rfl (lv_at hl 1 rfl) ?_
  refine lF_i (va_runV (As := []) (rest := []) ⟨hx, hb, hml, hown, hw⟩ (c_X5_brokenAt l D tc a  σ _ h _) (mcV 0 hw wm_334 wm_331 wm_332 wm_333 wm_25 rfl rfl nh_X5_brokenAt ⟨Nat.le_of_ble_eq_true rfl, Nat.le_of_ble_eq_true rfl⟩) (lp_F (ci := 4) hP hD hKX hn rfl xc_0) rfl rfl hl.1 rfl (lv_room (Nat.le_of_ble_eq_true rfl)) nD_L_law_368 ⟨Nat.le_of_ble_eq_true rfl, Nat.le_of_ble_eq_true rfl⟩) hP hD hS hA (fun r65 σ66 H locs h hP hD hS => ?_)
  refine lv_aload_n hx hb nD_L_law_371 rfl (lv_at hl 2 rfl) ?_
  refine lG_i (va_runV (As := []) (rest := [.int r65]) ⟨hx, hb, hml, hown, hw⟩ (c_M_brokenAt l D tg g  τ _ h _) (mcV 0 hw wm_546 wm_543 wm_544 wm_545 wm_33 rfl rfl nh_M_brokenAt ⟨Nat.le_of_ble_eq_true rfl, Nat.le_of_ble_eq_true rfl⟩) (lp_G (ci := 5) hP hD hKM hn rfl yc_0) rfl rfl hl.1 rfl (lv_room (Nat.le_of_ble_eq_true rfl)) nD_L_law_372 ⟨Nat.le_of_ble_eq_true rfl, Nat.le_of_ble_eq_true rfl⟩) hP hD hS hA (fun r67 τ68 H locs h hP hD hS => ?_)
  refine lv_icmp_eq (tgt := 512) hx hb nD_L_law_375 (by decide) (fun hc => ?_) (fun hc => ?_)
  · have h := h.1 hc
    exact lw_512 hx hb hR h hP hD hS hl
  · have h := h.2 hc
    exact h.elim
set_option maxHeartbeats 4000000 in
set_option maxRecDepth 100000 in
theorem lw_c10 {p : Program} {e : Env} {l : Launch} {s : State} {m : MethodId} {below : List Frame} {meth : Method} {c : Code} {D : va_G} {a g : Nat → Nat} {tc tg : Nat → ClassId} {bs L : Nat} {xs : Nat → Int32} {R : Int32 × zS × zS → Prop} (hx : p.tables.exec = Jvm.exec) (hb : c.code = nC_L_law) (hml : c.maxLocals = 4) (hown : s.vm.findClass R_law = some m.cls) (hw : ∀ w ∈ wA, w.before #[Value.ref bs] s = true) (hn : mN s) (hX : va_X bs L xs s s.heap) (hbl : bs < s.heap.size) (hbA : ¬ lwA s bs) (hKX : va_K D nCl (ztX tc) s) (hKM : va_K D nCl (ztM tg) s) (hA : ∀ q, s.heap.size ≤ q → lwA s q) (hR : ∀ q, R q → lwWd p e l s m below meth c D a g tc tg bs q) {y3 : Int32} {σ τ : zS} {H : Heap} {locs : List Loc} {ls : Array Slot} (h : lwB L xs R y3 σ τ 10) (hP : va_P D nCl (zX a tc σ ++ zM g tg τ) H) (hD : va_D (lwA s) (zX a tc σ ++ zM g tg τ)) (hS : va_S (lwA s) s.heap H locs) (hl : lv_has ls 4 [(0, .ref bs), (1, .ref (a 0)), (2, .ref (g 0)), (3, .int y3)]) : W p l e room_1 s m #[Value.ref bs] below meth c H locs 34 3306 (lw_Z below #[Value.ref bs] s) (F0 m 380 ls []) := by
  dsimp only [lwB] at h
  refine lv_aload_n hx hb nD_L_law_380 rfl (lv_at hl 1 rfl) ?_
  refine lF_l (va_runV (As := []) (rest := []) ⟨hx, hb, hml, hown, hw⟩ (c_X5_explanations l D tc a  σ _ h _) (mcV 0 hw wm_338 wm_335 wm_336 wm_337 wm_25 rfl rfl nh_X5_explanations ⟨Nat.le_of_ble_eq_true rfl, Nat.le_of_ble_eq_true rfl⟩) (lp_F (ci := 4) hP hD hKX hn rfl xc_0) rfl rfl hl.1 rfl (lv_room (Nat.le_of_ble_eq_true rfl)) nD_L_law_381 ⟨Nat.le_of_ble_eq_true rfl, Nat.le_of_ble_eq_true rfl⟩) hP hD hS hA (fun r69 σ70 H locs h hP hD hS => ?_)
  refine lv_aload_n hx hb nD_L_law_384 rfl (lv_at hl 2 rfl) ?_
  refine lG_l (va_runV (As := []) (rest := [.long r69]) ⟨hx, hb, hml, hown, hw⟩ (c_M_explanations l D tg g  τ _ h _) (mcV 0 hw wm_550 wm_547 wm_548 wm_549 wm_33 rfl rfl nh_M_explanations ⟨Nat.le_of_ble_eq_true rfl, Nat.le_of_ble_eq_true rfl⟩) (lp_G (ci := 5) hP hD hKM hn rfl yc_0) rfl rfl hl.1 rfl (lv_room (Nat.le_of_ble_eq_true rfl)) nD_L_law_385 ⟨Nat.le_of_ble_eq_true rfl, Nat.le_of_ble_eq_true rfl⟩) hP hD hS hA (fun r71 τ72 H locs h hP hD hS => ?_)
  refine W.lcmp hx hb nD_L_law_388 ?_
  refine lv_if_eq (tgt := 512) hx hb nD_L_law_389 (by decide) (fun hc => ?_) (fun hc => ?_)
  · have h := h.1 hc
    exact lw_512 hx hb hR h hP hD hS hl
  · have h := h.2 hc
    exact h.elim
set_option maxHeartbeats 4000000 in
set_option maxRecDepth 100000 in
theorem lw_c11 {p : Program} {e : Env} {l : Launch} {s : State} {m : MethodId} {below : List Frame} {meth : Method} {c : Code} {D : va_G} {a g : Nat → Nat} {tc tg : Nat → ClassId} {bs L : Nat} {xs : Nat → Int32} {R : Int32 × zS × zS → Prop} (hx : p.tables.exec = Jvm.exec) (hb : c.code = nC_L_law) (hml : c.maxLocals = 4) (hown : s.vm.findClass R_law = some m.cls) (hw : ∀ w ∈ wA, w.before #[Value.ref bs] s = true) (hn : mN s) (hX : va_X bs L xs s s.heap) (hbl : bs < s.heap.size) (hbA : ¬ lwA s bs) (hKX : va_K D nCl (ztX tc) s) (hKM : va_K D nCl (ztM tg) s) (hA : ∀ q, s.heap.size ≤ q → lwA s q) (hR : ∀ q, R q → lwWd p e l s m below meth c D a g tc tg bs q) {y3 : Int32} {σ τ : zS} {H : Heap} {locs : List Loc} {ls : Array Slot} (h : lwB L xs R y3 σ τ 11) (hP : va_P D nCl (zX a tc σ ++ zM g tg τ) H) (hD : va_D (lwA s) (zX a tc σ ++ zM g tg τ)) (hS : va_S (lwA s) s.heap H locs) (hl : lv_has ls 4 [(0, .ref bs), (1, .ref (a 0)), (2, .ref (g 0)), (3, .int y3)]) : W p l e room_1 s m #[Value.ref bs] below meth c H locs 34 3306 (lw_Z below #[Value.ref bs] s) (F0 m 394 ls []) := by
  dsimp only [lwB] at h
  refine lv_aload_n hx hb nD_L_law_394 rfl (lv_at hl 1 rfl) ?_
  refine lF_i (va_runV (As := []) (rest := []) ⟨hx, hb, hml, hown, hw⟩ (c_X5_outcomes l D tc a  σ _ h _) (mcV 0 hw wm_342 wm_339 wm_340 wm_341 wm_25 rfl rfl nh_X5_outcomes ⟨Nat.le_of_ble_eq_true rfl, Nat.le_of_ble_eq_true rfl⟩) (lp_F (ci := 4) hP hD hKX hn rfl xc_0) rfl rfl hl.1 rfl (lv_room (Nat.le_of_ble_eq_true rfl)) nD_L_law_395 ⟨Nat.le_of_ble_eq_true rfl, Nat.le_of_ble_eq_true rfl⟩) hP hD hS hA (fun r73 σ74 H locs h hP hD hS => ?_)
  refine lv_aload_n hx hb nD_L_law_398 rfl (lv_at hl 2 rfl) ?_
  refine lG_i (va_runV (As := []) (rest := [.int r73]) ⟨hx, hb, hml, hown, hw⟩ (c_M_outcomes l D tg g  τ _ h _) (mcV 0 hw wm_554 wm_551 wm_552 wm_553 wm_33 rfl rfl nh_M_outcomes ⟨Nat.le_of_ble_eq_true rfl, Nat.le_of_ble_eq_true rfl⟩) (lp_G (ci := 5) hP hD hKM hn rfl yc_0) rfl rfl hl.1 rfl (lv_room (Nat.le_of_ble_eq_true rfl)) nD_L_law_399 ⟨Nat.le_of_ble_eq_true rfl, Nat.le_of_ble_eq_true rfl⟩) hP hD hS hA (fun r75 τ76 H locs h hP hD hS => ?_)
  refine lv_icmp_eq (tgt := 512) hx hb nD_L_law_402 (by decide) (fun hc => ?_) (fun hc => ?_)
  · have h := h.1 hc
    exact lw_512 hx hb hR h hP hD hS hl
  · have h := h.2 hc
    exact h.elim
set_option maxHeartbeats 4000000 in
set_option maxRecDepth 100000 in
theorem lw_c12 {p : Program} {e : Env} {l : Launch} {s : State} {m : MethodId} {below : List Frame} {meth : Method} {c : Code} {D : va_G} {a g : Nat → Nat} {tc tg : Nat → ClassId} {bs L : Nat} {xs : Nat → Int32} {R : Int32 × zS × zS → Prop} (hx : p.tables.exec = Jvm.exec) (hb : c.code = nC_L_law) (hml : c.maxLocals = 4) (hown : s.vm.findClass R_law = some m.cls) (hw : ∀ w ∈ wA, w.before #[Value.ref bs] s = true) (hn : mN s) (hX : va_X bs L xs s s.heap) (hbl : bs < s.heap.size) (hbA : ¬ lwA s bs) (hKX : va_K D nCl (ztX tc) s) (hKM : va_K D nCl (ztM tg) s) (hA : ∀ q, s.heap.size ≤ q → lwA s q) (hR : ∀ q, R q → lwWd p e l s m below meth c D a g tc tg bs q) {y3 : Int32} {σ τ : zS} {H : Heap} {locs : List Loc} {ls : Array Slot} (h : lwB L xs R y3 σ τ 12) (hP : va_P D nCl (zX a tc σ ++ zM g tg τ) H) (hD : va_D (lwA s) (zX a tc σ ++ zM g tg τ)) (hS : va_S (lwA s) s.heap H locs) (hl : lv_has ls 4 [(0, .ref bs), (1, .ref (a 0)), (2, .ref (g 0)), (3, .int y3)]) : W p l e room_1 s m #[Value.ref bs] below meth c H locs 34 3306 (lw_Z below #[Value.ref bs] s) (F0 m 407 ls []) := by
  dsimp only [lwB] at h
  refine lv_aload_n hx hb nD_L_law_407 rfl (lv_at hl 1 rfl) ?_
  refine lF_i (va_runV (As := []) (rest := []) ⟨hx, hb, hml, hown, hw⟩ (c_X5_fewest l D tc a  σ _ h _) (mcV 0 hw wm_346 wm_343 wm_344 wm_345 wm_25 rfl rfl nh_X5_fewest ⟨Nat.le_of_ble_eq_true rfl, Nat.le_of_ble_eq_true rfl⟩) (lp_F (ci := 4) hP hD hKX hn rfl xc_0) rfl rfl hl.1 rfl (lv_room (Nat.le_of_ble_eq_true rfl)) nD_L_law_408 ⟨Nat.le_of_ble_eq_true rfl, Nat.le_of_ble_eq_true rfl⟩) hP hD hS hA (fun r77 σ78 H locs h hP hD hS => ?_)
  refine lv_aload_n hx hb nD_L_law_411 rfl (lv_at hl 2 rfl) ?_
  refine lG_i (va_runV (As := []) (rest := [.int r77]) ⟨hx, hb, hml, hown, hw⟩ (c_M_fewest l D tg g  τ _ h _) (mcV 0 hw wm_558 wm_555 wm_556 wm_557 wm_33 rfl rfl nh_M_fewest ⟨Nat.le_of_ble_eq_true rfl, Nat.le_of_ble_eq_true rfl⟩) (lp_G (ci := 5) hP hD hKM hn rfl yc_0) rfl rfl hl.1 rfl (lv_room (Nat.le_of_ble_eq_true rfl)) nD_L_law_412 ⟨Nat.le_of_ble_eq_true rfl, Nat.le_of_ble_eq_true rfl⟩) hP hD hS hA (fun r79 τ80 H locs h hP hD hS => ?_)
  refine lv_icmp_eq (tgt := 512) hx hb nD_L_law_415 (by decide) (fun hc => ?_) (fun hc => ?_)
  · have h := h.1 hc
    exact lw_512 hx hb hR h hP hD hS hl
  · have h := h.2 hc
    exact h.elim
set_option maxHeartbeats 4000000 in
set_option maxRecDepth 100000 in
theorem lw_c13 {p : Program} {e : Env} {l : Launch} {s : State} {m : MethodId} {below : List Frame} {meth : Method} {c : Code} {D : va_G} {a g : Nat → Nat} {tc tg : Nat → ClassId} {bs L : Nat} {xs : Nat → Int32} {R : Int32 × zS × zS → Prop} (hx : p.tables.exec = Jvm.exec) (hb : c.code = nC_L_law) (hml : c.maxLocals = 4) (hown : s.vm.findClass R_law = some m.cls) (hw : ∀ w ∈ wA, w.before #[Value.ref bs] s = true) (hn : mN s) (hX : va_X bs L xs s s.heap) (hbl : bs < s.heap.size) (hbA : ¬ lwA s bs) (hKX : va_K D nCl (ztX tc) s) (hKM : va_K D nCl (ztM tg) s) (hA : ∀ q, s.heap.size ≤ q → lwA s q) (hR : ∀ q, R q → lwWd p e l s m below meth c D a g tc tg bs q) {y3 : Int32} {σ τ : zS} {H : Heap} {locs : List Loc} {ls : Array Slot} (h : lwB L xs R y3 σ τ 13) (hP : va_P D nCl (zX a tc σ ++ zM g tg τ) H) (hD : va_D (lwA s) (zX a tc σ ++ zM g tg τ)) (hS : va_S (lwA s) s.heap H locs) (hl : lv_has ls 4 [(0, .ref bs), (1, .ref (a 0)), (2, .ref (g 0)), (3, .int y3)]) : W p l e room_1 s m #[Value.ref bs] below meth c H locs 34 3306 (lw_Z below #[Value.ref bs] s) (F0 m 420 ls []) := by
  dsimp only [lwB] at h
  refine lv_aload_n hx hb nD_L_law_420 rfl (lv_at hl 1 rfl) ?_
  refine lF_i (va_runV (As := []) (rest := []) ⟨hx, hb, hml, hown, hw⟩ (c_X5_most l D tc a  σ _ h _) (mcV 0 hw wm_356 wm_353 wm_354 wm_355 wm_25 rfl rfl nh_X5_most ⟨Nat.le_of_ble_eq_true rfl, Nat.le_of_ble_eq_true rfl⟩) (lp_F (ci := 4) hP hD hKX hn rfl xc_0) rfl rfl hl.1 rfl (lv_room (Nat.le_of_ble_eq_true rfl)) nD_L_law_421 ⟨Nat.le_of_ble_eq_true rfl, Nat.le_of_ble_eq_true rfl⟩) hP hD hS hA (fun r81 σ82 H locs h hP hD hS => ?_)
  refine lv_aload_n hx hb nD_L_law_424 rfl (lv_at hl 2 rfl) ?_
  refine lG_i (va_runV (As := []) (rest := [.int r81]) ⟨hx, hb, hml, hown, hw⟩ (c_M_most l D tg g  τ _ h _) (mcV 0 hw wm_567 wm_564 wm_565 wm_566 wm_33 rfl rfl nh_M_most ⟨Nat.le_of_ble_eq_true rfl, Nat.le_of_ble_eq_true rfl⟩) (lp_G (ci := 5) hP hD hKM hn rfl yc_0) rfl rfl hl.1 rfl (lv_room (Nat.le_of_ble_eq_true rfl)) nD_L_law_425 ⟨Nat.le_of_ble_eq_true rfl, Nat.le_of_ble_eq_true rfl⟩) hP hD hS hA (fun r83 τ84 H locs h hP hD hS => ?_)
  refine lv_icmp_eq (tgt := 512) hx hb nD_L_law_428 (by decide) (fun hc => ?_) (fun hc => ?_)
  · have h := h.1 hc
    exact lw_512 hx hb hR h hP hD hS hl
  · have h := h.2 hc
    exact h.elim
set_option maxHeartbeats 4000000 in
set_option maxRecDepth 100000 in
theorem lw_c14 {p : Program} {e : Env} {l : Launch} {s : State} {m : MethodId} {below : List Frame} {meth : Method} {c : Code} {D : va_G} {a g : Nat → Nat} {tc tg : Nat → ClassId} {bs L : Nat} {xs : Nat → Int32} {R : Int32 × zS × zS → Prop} (hx : p.tables.exec = Jvm.exec) (hb : c.code = nC_L_law) (hml : c.maxLocals = 4) (hown : s.vm.findClass R_law = some m.cls) (hw : ∀ w ∈ wA, w.before #[Value.ref bs] s = true) (hn : mN s) (hX : va_X bs L xs s s.heap) (hbl : bs < s.heap.size) (hbA : ¬ lwA s bs) (hKX : va_K D nCl (ztX tc) s) (hKM : va_K D nCl (ztM tg) s) (hA : ∀ q, s.heap.size ≤ q → lwA s q) (hR : ∀ q, R q → lwWd p e l s m below meth c D a g tc tg bs q) {y3 : Int32} {σ τ : zS} {H : Heap} {locs : List Loc} {ls : Array Slot} (h : lwB L xs R y3 σ τ 14) (hP : va_P D nCl (zX a tc σ ++ zM g tg τ) H) (hD : va_D (lwA s) (zX a tc σ ++ zM g tg τ)) (hS : va_S (lwA s) s.heap H locs) (hl : lv_has ls 4 [(0, .ref bs), (1, .ref (a 0)), (2, .ref (g 0)), (3, .int y3)]) : W p l e room_1 s m #[Value.ref bs] below meth c H locs 34 3306 (lw_Z below #[Value.ref bs] s) (F0 m 433 ls []) := by
  dsimp only [lwB] at h
  refine lv_aload_n hx hb nD_L_law_433 rfl (lv_at hl 1 rfl) ?_
  refine lv_aload_n hx hb nD_L_law_434 rfl (lv_at hl 0 rfl) ?_
  refine lv_iload_n hx hb nD_L_law_435 rfl (lv_at hl 3 rfl) ?_
  refine lv_iconst (v := (1 : Int32)) hx hb nD_L_law_436 (by decide) ?_
  refine lv_iadd hx hb nD_L_law_437 ?_
  obtain ⟨hi85, h⟩ := h
  refine va_sld hx hb hX hbl hbA hS hi85 nD_L_law_438 ?_
  refine lv_aload_n hx hb nD_L_law_439 rfl (lv_at hl 0 rfl) ?_
  refine lv_iload_n hx hb nD_L_law_440 rfl (lv_at hl 3 rfl) ?_
  refine lv_iconst (v := (2 : Int32)) hx hb nD_L_law_441 (by decide) ?_
  refine lv_iadd hx hb nD_L_law_442 ?_
  obtain ⟨hi86, h⟩ := h
  refine va_sld hx hb hX hbl hbA hS hi86 nD_L_law_443 ?_
  refine lF_i (va_runV (As := [.int (xs (y3 + (1 : Int32)).toNatClampNeg), .int (xs (y3 + (2 : Int32)).toNatClampNeg)]) (rest := []) ⟨hx, hb, hml, hown, hw⟩ (c_X5_mayHold l D tc a (xs (y3 + (1 : Int32)).toNatClampNeg) (xs (y3 + (2 : Int32)).toNatClampNeg) σ _ h _) (mcV 2 hw wm_365 wm_362 wm_363 wm_364 wm_25 rfl rfl nh_X5_mayHold ⟨Nat.le_of_ble_eq_true rfl, Nat.le_of_ble_eq_true rfl⟩) (lp_F (ci := 4) hP hD hKX hn rfl xc_0) rfl rfl hl.1 rfl (lv_room (Nat.le_of_ble_eq_true rfl)) nD_L_law_444 ⟨Nat.le_of_ble_eq_true rfl, Nat.le_of_ble_eq_true rfl⟩) hP hD hS hA (fun r87 σ88 H locs h hP hD hS => ?_)
  refine lv_aload_n hx hb nD_L_law_447 rfl (lv_at hl 2 rfl) ?_
  refine lv_aload_n hx hb nD_L_law_448 rfl (lv_at hl 0 rfl) ?_
  refine lv_iload_n hx hb nD_L_law_449 rfl (lv_at hl 3 rfl) ?_
  refine lv_iconst (v := (1 : Int32)) hx hb nD_L_law_450 (by decide) ?_
  refine lv_iadd hx hb nD_L_law_451 ?_
  obtain ⟨hi89, h⟩ := h
  refine va_sld hx hb hX hbl hbA hS hi89 nD_L_law_452 ?_
  refine lv_aload_n hx hb nD_L_law_453 rfl (lv_at hl 0 rfl) ?_
  refine lv_iload_n hx hb nD_L_law_454 rfl (lv_at hl 3 rfl) ?_
  refine lv_iconst (v := (2 : Int32)) hx hb nD_L_law_455 (by decide) ?_
  refine lv_iadd hx hb nD_L_law_456 ?_
  obtain ⟨hi90, h⟩ := h
  refine va_sld hx hb hX hbl hbA hS hi90 nD_L_law_457 ?_
  refine lG_i (va_runV (As := [.int (xs (y3 + (1 : Int32)).toNatClampNeg), .int (xs (y3 + (2 : Int32)).toNatClampNeg)]) (rest := [.int r87]) ⟨hx, hb, hml, hown, hw⟩ (c_M_mayHold l D tg g (xs (y3 + (1 : Int32)).toNatClampNeg) (xs (y3 + (2 : Int32)).toNatClampNeg) τ _ h _) (mcV 2 hw wm_571 wm_568 wm_569 wm_570 wm_33 rfl rfl nh_M_mayHold ⟨Nat.le_of_ble_eq_true rfl, Nat.le_of_ble_eq_true rfl⟩) (lp_G (ci := 5) hP hD hKM hn rfl yc_0) rfl rfl hl.1 rfl (lv_room (Nat.le_of_ble_eq_true rfl)) nD_L_law_458 ⟨Nat.le_of_ble_eq_true rfl, Nat.le_of_ble_eq_true rfl⟩) hP hD hS hA (fun r91 τ92 H locs h hP hD hS => ?_)
  refine lv_icmp_eq (tgt := 512) hx hb nD_L_law_461 (by decide) (fun hc => ?_) (fun hc => ?_)
  · have h := h.1 hc
    exact lw_512 hx hb hR h hP hD hS hl
  · have h := h.2 hc
    exact h.elim
set_option maxHeartbeats 4000000 in
set_option maxRecDepth 100000 in
theorem lw_c15 {p : Program} {e : Env} {l : Launch} {s : State} {m : MethodId} {below : List Frame} {meth : Method} {c : Code} {D : va_G} {a g : Nat → Nat} {tc tg : Nat → ClassId} {bs L : Nat} {xs : Nat → Int32} {R : Int32 × zS × zS → Prop} (hx : p.tables.exec = Jvm.exec) (hb : c.code = nC_L_law) (hml : c.maxLocals = 4) (hown : s.vm.findClass R_law = some m.cls) (hw : ∀ w ∈ wA, w.before #[Value.ref bs] s = true) (hn : mN s) (hX : va_X bs L xs s s.heap) (hbl : bs < s.heap.size) (hbA : ¬ lwA s bs) (hKX : va_K D nCl (ztX tc) s) (hKM : va_K D nCl (ztM tg) s) (hA : ∀ q, s.heap.size ≤ q → lwA s q) (hR : ∀ q, R q → lwWd p e l s m below meth c D a g tc tg bs q) {y3 : Int32} {σ τ : zS} {H : Heap} {locs : List Loc} {ls : Array Slot} (h : lwB L xs R y3 σ τ 15) (hP : va_P D nCl (zX a tc σ ++ zM g tg τ) H) (hD : va_D (lwA s) (zX a tc σ ++ zM g tg τ)) (hS : va_S (lwA s) s.heap H locs) (hl : lv_has ls 4 [(0, .ref bs), (1, .ref (a 0)), (2, .ref (g 0)), (3, .int y3)]) : W p l e room_1 s m #[Value.ref bs] below meth c H locs 34 3306 (lw_Z below #[Value.ref bs] s) (F0 m 466 ls []) := by
  dsimp only [lwB] at h
  refine lv_aload_n hx hb nD_L_law_466 rfl (lv_at hl 1 rfl) ?_
  refine lv_aload_n hx hb nD_L_law_467 rfl (lv_at hl 0 rfl) ?_
  refine lv_iload_n hx hb nD_L_law_468 rfl (lv_at hl 3 rfl) ?_
  refine lv_iconst (v := (1 : Int32)) hx hb nD_L_law_469 (by decide) ?_
  refine lv_iadd hx hb nD_L_law_470 ?_
  obtain ⟨hi93, h⟩ := h
  refine va_sld hx hb hX hbl hbA hS hi93 nD_L_law_471 ?_
  refine lF_i (va_runV (As := [.int (xs (y3 + (1 : Int32)).toNatClampNeg)]) (rest := []) ⟨hx, hb, hml, hown, hw⟩ (c_X5_certain l D tc a (xs (y3 + (1 : Int32)).toNatClampNeg) σ _ h _) (mcV 1 hw wm_374 wm_371 wm_372 wm_373 wm_25 rfl rfl nh_X5_certain ⟨Nat.le_of_ble_eq_true rfl, Nat.le_of_ble_eq_true rfl⟩) (lp_F (ci := 4) hP hD hKX hn rfl xc_0) rfl rfl hl.1 rfl (lv_room (Nat.le_of_ble_eq_true rfl)) nD_L_law_472 ⟨Nat.le_of_ble_eq_true rfl, Nat.le_of_ble_eq_true rfl⟩) hP hD hS hA (fun r94 σ95 H locs h hP hD hS => ?_)
  refine lv_aload_n hx hb nD_L_law_475 rfl (lv_at hl 2 rfl) ?_
  refine lv_aload_n hx hb nD_L_law_476 rfl (lv_at hl 0 rfl) ?_
  refine lv_iload_n hx hb nD_L_law_477 rfl (lv_at hl 3 rfl) ?_
  refine lv_iconst (v := (1 : Int32)) hx hb nD_L_law_478 (by decide) ?_
  refine lv_iadd hx hb nD_L_law_479 ?_
  obtain ⟨hi96, h⟩ := h
  refine va_sld hx hb hX hbl hbA hS hi96 nD_L_law_480 ?_
  refine lG_i (va_runV (As := [.int (xs (y3 + (1 : Int32)).toNatClampNeg)]) (rest := [.int r94]) ⟨hx, hb, hml, hown, hw⟩ (c_M_certain l D tg g (xs (y3 + (1 : Int32)).toNatClampNeg) τ _ h _) (mcV 1 hw wm_575 wm_572 wm_573 wm_574 wm_33 rfl rfl nh_M_certain ⟨Nat.le_of_ble_eq_true rfl, Nat.le_of_ble_eq_true rfl⟩) (lp_G (ci := 5) hP hD hKM hn rfl yc_0) rfl rfl hl.1 rfl (lv_room (Nat.le_of_ble_eq_true rfl)) nD_L_law_481 ⟨Nat.le_of_ble_eq_true rfl, Nat.le_of_ble_eq_true rfl⟩) hP hD hS hA (fun r97 τ98 H locs h hP hD hS => ?_)
  refine lv_icmp_eq (tgt := 512) hx hb nD_L_law_484 (by decide) (fun hc => ?_) (fun hc => ?_)
  · have h := h.1 hc
    exact lw_512 hx hb hR h hP hD hS hl
  · have h := h.2 hc
    exact h.elim
set_option maxHeartbeats 4000000 in
set_option maxRecDepth 100000 in
theorem lw_c16 {p : Program} {e : Env} {l : Launch} {s : State} {m : MethodId} {below : List Frame} {meth : Method} {c : Code} {D : va_G} {a g : Nat → Nat} {tc tg : Nat → ClassId} {bs L : Nat} {xs : Nat → Int32} {R : Int32 × zS × zS → Prop} (hx : p.tables.exec = Jvm.exec) (hb : c.code = nC_L_law) (hml : c.maxLocals = 4) (hown : s.vm.findClass R_law = some m.cls) (hw : ∀ w ∈ wA, w.before #[Value.ref bs] s = true) (hn : mN s) (hX : va_X bs L xs s s.heap) (hbl : bs < s.heap.size) (hbA : ¬ lwA s bs) (hKX : va_K D nCl (ztX tc) s) (hKM : va_K D nCl (ztM tg) s) (hA : ∀ q, s.heap.size ≤ q → lwA s q) (hR : ∀ q, R q → lwWd p e l s m below meth c D a g tc tg bs q) {y3 : Int32} {σ τ : zS} {H : Heap} {locs : List Loc} {ls : Array Slot} (h : lwB L xs R y3 σ τ 16) (hP : va_P D nCl (zX a tc σ ++ zM g tg τ) H) (hD : va_D (lwA s) (zX a tc σ ++ zM g tg τ)) (hS : va_S (lwA s) s.heap H locs) (hl : lv_has ls 4 [(0, .ref bs), (1, .ref (a 0)), (2, .ref (g 0)), (3, .int y3)]) : W p l e room_1 s m #[Value.ref bs] below meth c H locs 34 3306 (lw_Z below #[Value.ref bs] s) (F0 m 489 ls []) := by
  dsimp only [lwB] at h
  refine lv_aload_n hx hb nD_L_law_489 rfl (lv_at hl 1 rfl) ?_
  refine lv_aload_n hx hb nD_L_law_490 rfl (lv_at hl 0 rfl) ?_
  refine lv_iload_n hx hb nD_L_law_491 rfl (lv_at hl 3 rfl) ?_
  refine lv_iconst (v := (1 : Int32)) hx hb nD_L_law_492 (by decide) ?_
  refine lv_iadd hx hb nD_L_law_493 ?_
  obtain ⟨hi99, h⟩ := h
  refine va_sld hx hb hX hbl hbA hS hi99 nD_L_law_494 ?_
  refine lF_i (va_runV (As := [.int (xs (y3 + (1 : Int32)).toNatClampNeg)]) (rest := []) ⟨hx, hb, hml, hown, hw⟩ (c_X5_answers l D tc a (xs (y3 + (1 : Int32)).toNatClampNeg) σ _ h _) (mcV 1 hw wm_378 wm_375 wm_376 wm_377 wm_25 rfl rfl nh_X5_answers ⟨Nat.le_of_ble_eq_true rfl, Nat.le_of_ble_eq_true rfl⟩) (lp_F (ci := 4) hP hD hKX hn rfl xc_0) rfl rfl hl.1 rfl (lv_room (Nat.le_of_ble_eq_true rfl)) nD_L_law_495 ⟨Nat.le_of_ble_eq_true rfl, Nat.le_of_ble_eq_true rfl⟩) hP hD hS hA (fun r100 σ101 H locs h hP hD hS => ?_)
  refine lv_aload_n hx hb nD_L_law_498 rfl (lv_at hl 2 rfl) ?_
  refine lv_aload_n hx hb nD_L_law_499 rfl (lv_at hl 0 rfl) ?_
  refine lv_iload_n hx hb nD_L_law_500 rfl (lv_at hl 3 rfl) ?_
  refine lv_iconst (v := (1 : Int32)) hx hb nD_L_law_501 (by decide) ?_
  refine lv_iadd hx hb nD_L_law_502 ?_
  obtain ⟨hi102, h⟩ := h
  refine va_sld hx hb hX hbl hbA hS hi102 nD_L_law_503 ?_
  refine lG_i (va_runV (As := [.int (xs (y3 + (1 : Int32)).toNatClampNeg)]) (rest := [.int r100]) ⟨hx, hb, hml, hown, hw⟩ (c_M_answers l D tg g (xs (y3 + (1 : Int32)).toNatClampNeg) τ _ h _) (mcV 1 hw wm_579 wm_576 wm_577 wm_578 wm_33 rfl rfl nh_M_answers ⟨Nat.le_of_ble_eq_true rfl, Nat.le_of_ble_eq_true rfl⟩) (lp_G (ci := 5) hP hD hKM hn rfl yc_0) rfl rfl hl.1 rfl (lv_room (Nat.le_of_ble_eq_true rfl)) nD_L_law_504 ⟨Nat.le_of_ble_eq_true rfl, Nat.le_of_ble_eq_true rfl⟩) hP hD hS hA (fun r103 τ104 H locs h hP hD hS => ?_)
  refine lv_icmp_eq (tgt := 512) hx hb nD_L_law_507 (by decide) (fun hc => ?_) (fun hc => ?_)
  · have h := h.1 hc
    exact lw_512 hx hb hR h hP hD hS hl
  · have h := h.2 hc
    exact h.elim
