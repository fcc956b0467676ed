theorem lw_D {s : State} {args : Array Value} (hw : ∀ w ∈ wA, w.before args s = true) : ∃ D : va_G, va_K D nCl [] s := by
  obtain ⟨c0, i0, h0⟩ := u_known hw wu_X0 (hw _ wm_100)
  obtain ⟨c1, i1, h1⟩ := u_known hw wu_X1 (hw _ wm_59)
  obtain ⟨c2, i2, h2⟩ := u_known hw wu_X3 (hw _ wm_65)
  obtain ⟨c3, i3, h3⟩ := u_known hw wu_X4 (hw _ wm_44)
  obtain ⟨c4, i4, h4⟩ := u_known hw wu_X5 (hw _ wm_36)
  obtain ⟨c5, i5, h5⟩ := u_known hw wu_M (hw _ wm_389)
  refine ⟨(fun k => [c0, c1, c2, c3, c4, c5].getD k 0, fun k => [i0, i1, i2, i3, i4, i5].getD k (fun _ => 0)), fun k q hq => ?_, fun k q hq => by simp at hq⟩
  have hlt : k < 6 := (List.getElem?_eq_some_iff.mp hq).1
  rcases (show k = 0 ∨ k = 1 ∨ k = 2 ∨ k = 3 ∨ k = 4 ∨ k = 5 by omega) with rfl | rfl | rfl | rfl | rfl | rfl
  · rw [← Option.some.inj hq]; exact h0
  · rw [← Option.some.inj hq]; exact h1
  · rw [← Option.some.inj hq]; exact h2
  · rw [← Option.some.inj hq]; exact h3
  · rw [← Option.some.inj hq]; exact h4
  · rw [← Option.some.inj hq]; exact h5
def lw_r0 : zR := (0, 0, 0, fun _ _ => 0, fun _ => 0, fun _ => 0)
set_option maxHeartbeats 4000000 in
set_option maxRecDepth 100000 in
/-- from the entry, for every script of at most 1538 ints, the law comes to its end with true -/
theorem whole_start {p : Program} {e : Env} {s : State} {m : MethodId} {below : List Frame} {meth : Method} {c : Code} (l : Launch) {b L : Nat} {xs : Nat → Int32} (hL : L ≤ 1538) (C0 : lw_At p s m meth c b L xs) : W p l e room_1 s m #[Value.ref b] below meth c s.heap [] 0 0 (lw_Z below #[Value.ref b] s) (entryFrame m ([Value.ref b] : List Value).toArray 4) := by
  obtain ⟨hx, hb, hr, hml, hown, hts, hX, hbl, hlocks, hgv⟩ := C0
  have hb : c.code = nC_L_law := hb
  have hw : ∀ w ∈ wA, w.before #[Value.ref b] s = true := fun w h => hts w (wA_in h)
  have hn : mN s := fun w h => va_Nw.of (nA_tab h) (hts w (List.mem_filter.mp h).1)
  have hao : va_AO "HandOffRecorder$Call" s := va_AO.of (hts (Cond.arrayOver (.object "HandOffRecorder$Call")) (List.mem_of_getElem? (i := 57) (by decide +kernel)))
  obtain ⟨D, hK⟩ := lw_D hw
  have hbA : ¬ lwA s b := Nat.not_le.mpr hbl
  have hA : ∀ q, s.heap.size ≤ q → lwA s q := fun q h => h
  have hS : va_S (lwA s) s.heap s.heap [] := va_S.rf
  have hP : va_P D nCl [] s.heap := fun k q h => by simp at h
  have hD : va_D (lwA s) [] := ⟨fun i j p q h => by simp at h, fun k q h => by simp at h⟩
  have hl := lv_entry ([.ref b]) (n := 4) (Nat.le_of_ble_eq_true rfl)
  rw [lg_entry_eq]
  generalize (lg_sl ([.ref b]) ++ List.replicate (4 - (lg_sl ([.ref b])).length) Slot.unset).toArray = ls at hl ⊢
  have hl : lv_has ls 4 [(0, .ref b)] := hl
  refine va_new (ci := 4) (fs := [.null, .null, .null, .null, .null, .int 0, .int 0, .int 0, .int 0, .int 0]) (C := nR_X5) (T := nT_X5) (N := 10) hx hb hw wu_X5 nY_X5 nO_X5 hown (hw _ wm_35) (hw _ wm_36) (hw _ wm_25) hK hP hD hS hA rfl (fun j hj => by rcases (show j = 0 ∨ j = 1 ∨ j = 2 ∨ j = 3 ∨ j = 4 ∨ j = 5 ∨ j = 6 ∨ j = 7 ∨ j = 8 ∨ j = 9 by omega) with rfl | rfl | rfl | rfl | rfl | rfl | rfl | rfl | rfl | rfl <;> rfl) (Nat.le_of_ble_eq_true rfl) (Nat.le_of_ble_eq_true rfl) nD_L_law_0 (fun q0 H hP hD hS => ?_)
  have hP : va_P D nCl [(q0, .inr (4, [.null, .null, .null, .null, .null, .int 0, .int 0, .int 0, .int 0, .int 0]))] H := hP
  have hD : va_D (lwA s) [(q0, .inr (4, [.null, .null, .null, .null, .null, .int 0, .int 0, .int 0, .int 0, .int 0]))] := hD
  refine W.widen (k := 1) (n := 10) (Nat.le_of_ble_eq_true rfl) (Nat.le_of_ble_eq_true rfl) ?_
  refine lv_dup hx hb nD_L_law_3 rfl ?_
  refine lv_aload_n hx hb nD_L_law_4 rfl (lv_at hl 0 rfl) ?_
  refine lv_iconst (v := nI 0) hx hb nD_L_law_5 (by decide) ?_
  refine vp_callSi (W.runS (As := [.ref b, .int (nI 0)]) (rest := [.ref q0, .ref q0]) ⟨hx, hb, hml, hown, hw⟩ (c_L_cell l b L xs (by omega) 0 (by omega)) (mcS 2 hw wm_387 wm_385 wm_386 wm_24 rfl rfl nh_L_cell ⟨Nat.le_of_ble_eq_true rfl, Nat.le_of_ble_eq_true rfl⟩) (lp_S hX hbl hbA hS) rfl rfl hl.1 rfl (lv_room (Nat.le_of_ble_eq_true rfl)) nD_L_law_6 ⟨Nat.le_of_ble_eq_true rfl, Nat.le_of_ble_eq_true rfl⟩) (fun r1 e_r1 => ?_)
  refine lv_aload_n hx hb nD_L_law_9 rfl (lv_at hl 0 rfl) ?_
  refine lv_iconst (v := nI 1) hx hb nD_L_law_10 (by decide) ?_
  refine vp_callSi (W.runS (As := [.ref b, .int (nI 1)]) (rest := [.int r1, .ref q0, .ref q0]) ⟨hx, hb, hml, hown, hw⟩ (c_L_cell l b L xs (by omega) 1 (by omega)) (mcS 2 hw wm_387 wm_385 wm_386 wm_24 rfl rfl nh_L_cell ⟨Nat.le_of_ble_eq_true rfl, Nat.le_of_ble_eq_true rfl⟩) (lp_S hX hbl hbA hS) rfl rfl hl.1 rfl (lv_room (Nat.le_of_ble_eq_true rfl)) nD_L_law_11 ⟨Nat.le_of_ble_eq_true rfl, Nat.le_of_ble_eq_true rfl⟩) (fun r2 e_r2 => ?_)
  refine mK_call (pre := []) (wc := [(q0, .inr (4, [.null, .null, .null, .null, .null, .int 0, .int 0, .int 0, .int 0, .int 0]))]) (va_runI (As := [.int r1, .int r2]) (rest := [.ref q0]) ⟨hx, hb, hml, hown, hw⟩ (c_X5_init l D q0 r1 r2 (fun σ => xI (rNew lw_r0 (cK r1) (cC r2)) 0 0 σ) (s_startRecord (fun σ h => h)) _) (mcI 2 hw wm_39 wm_37 wm_38 wm_25 rfl rfl rfl nh_X5_init ⟨Nat.le_of_ble_eq_true rfl, Nat.le_of_ble_eq_true rfl⟩) (mK_pre (pre := []) hP hD hK hn hao) rfl rfl hl.1 rfl (lv_room (Nat.le_of_ble_eq_true rfl)) nD_L_law_14 ⟨Nat.le_of_ble_eq_true rfl, Nat.le_of_ble_eq_true rfl⟩) hP hD hS hA hK (fun u H2 locs2 hu hP2 hD2 hK2 hS2 => ?_)
  obtain ⟨a, tc, σ, rfl, ha0, hσ⟩ := hu
  subst ha0
  have hP : va_P D nCl (zX a tc σ) H2 := hP2
  have hD : va_D (lwA s) (zX a tc σ) := hD2
  have hKX : va_K D nCl (ztX tc) s := hK2
  have hK : va_K D nCl (ztX tc) s := hK2
  have hS : va_S (lwA s) s.heap H2 locs2 := hS2
  clear hP2 hD2 hK2 hS2
  refine W.widen (k := 19) (n := 1788) (Nat.le_of_ble_eq_true rfl) (Nat.le_of_ble_eq_true rfl) ?_
  refine lv_astore_n hx hb nD_L_law_17 rfl hl (by decide) rfl (fun ls hl => ?_)
  have hl : lv_has ls 4 [(1, .ref (a 0)), (0, .ref b)] := hl
  refine va_new (ci := 5) (fs := [.int 0, .int 0, .int 0, .int 0, .int 0, .null, .null, .null, .null, .null, .null, .null, .int 0, .null, .null, .null, .int 0, .null, .long 0, .int 0, .null, .null, .null]) (C := nR_M) (T := nT_M) (N := 23) hx hb hw wu_M nY_M nO_M hown (hw _ wm_388) (hw _ wm_389) (hw _ wm_33) hK hP hD hS hA rfl (fun j hj => by rcases (show j = 0 ∨ j = 1 ∨ j = 2 ∨ j = 3 ∨ j = 4 ∨ j = 5 ∨ j = 6 ∨ j = 7 ∨ j = 8 ∨ j = 9 ∨ j = 10 ∨ j = 11 ∨ j = 12 ∨ j = 13 ∨ j = 14 ∨ j = 15 ∨ j = 16 ∨ j = 17 ∨ j = 18 ∨ j = 19 ∨ j = 20 ∨ j = 21 ∨ j = 22 by omega) with rfl | rfl | rfl | rfl | rfl | rfl | rfl | rfl | rfl | rfl | rfl | rfl | rfl | rfl | rfl | rfl | rfl | rfl | rfl | rfl | rfl | rfl | rfl <;> rfl) (Nat.le_of_ble_eq_true rfl) (Nat.le_of_ble_eq_true rfl) nD_L_law_18 (fun q1 H hP hD hS => ?_)
  refine W.widen (k := 20) (n := 1811) (Nat.le_of_ble_eq_true rfl) (Nat.le_of_ble_eq_true rfl) ?_
  refine lv_dup hx hb nD_L_law_21 rfl ?_
  refine lv_aload_n hx hb nD_L_law_22 rfl (lv_at hl 1 rfl) ?_
  refine lv_iconst (v := nI 0) hx hb nD_L_law_23 (by decide) ?_
  refine vp_callSi (W.runS (As := [.ref b, .int (nI 0)]) (rest := [.ref q1, .ref q1]) ⟨hx, hb, hml, hown, hw⟩ (c_L_cell l b L xs (by omega) 0 (by omega)) (mcS 2 hw wm_387 wm_385 wm_386 wm_24 rfl rfl nh_L_cell ⟨Nat.le_of_ble_eq_true rfl, Nat.le_of_ble_eq_true rfl⟩) (lp_S hX hbl hbA hS) rfl rfl hl.1 rfl (lv_room (Nat.le_of_ble_eq_true rfl)) nD_L_law_24 ⟨Nat.le_of_ble_eq_true rfl, Nat.le_of_ble_eq_true rfl⟩) (fun r3 e_r3 => ?_)
  have e13 : r3 = r1 := by rw [e_r1, e_r3]
  subst e13
  refine lv_aload_n hx hb nD_L_law_27 rfl (lv_at hl 1 rfl) ?_
  refine lv_iconst (v := nI 1) hx hb nD_L_law_28 (by decide) ?_
  refine vp_callSi (W.runS (As := [.ref b, .int (nI 1)]) (rest := [.int r3, .ref q1, .ref q1]) ⟨hx, hb, hml, hown, hw⟩ (c_L_cell l b L xs (by omega) 1 (by omega)) (mcS 2 hw wm_387 wm_385 wm_386 wm_24 rfl rfl nh_L_cell ⟨Nat.le_of_ble_eq_true rfl, Nat.le_of_ble_eq_true rfl⟩) (lp_S hX hbl hbA hS) rfl rfl hl.1 rfl (lv_room (Nat.le_of_ble_eq_true rfl)) nD_L_law_29 ⟨Nat.le_of_ble_eq_true rfl, Nat.le_of_ble_eq_true rfl⟩) (fun r4 e_r4 => ?_)
  have e24 : r4 = r2 := by rw [e_r2, e_r4]
  subst e24
  refine mK_call (pre := (zX a tc σ)) (wc := [(q1, .inr (5, [.int 0, .int 0, .int 0, .int 0, .int 0, .null, .null, .null, .null, .null, .null, .null, .int 0, .null, .null, .null, .int 0, .null, .long 0, .int 0, .null, .null, .null]))]) (va_runI (As := [.int r3, .int r4]) (rest := [.ref q1]) ⟨hx, hb, hml, hown, hw⟩ (c_M_init l D q1 r3 r4 (fun τ => yI (rNew lw_r0 (cK r3) (cC r4)) 0 0 τ) (t_renew (fun τ h => h)) _) (mcI 2 hw wm_392 wm_390 wm_391 wm_33 rfl rfl rfl nh_M_init ⟨Nat.le_of_ble_eq_true rfl, Nat.le_of_ble_eq_true rfl⟩) (mK_pre (pre := (zX a tc σ)) hP hD hK hn hao) rfl rfl hl.1 rfl (lv_room (Nat.le_of_ble_eq_true rfl)) nD_L_law_32 ⟨Nat.le_of_ble_eq_true rfl, Nat.le_of_ble_eq_true rfl⟩) hP hD hS hA hK (fun u H2 locs2 hu hP2 hD2 hK2 hS2 => ?_)
  obtain ⟨g, tg, τ, rfl, hg0, hτ⟩ := hu
  subst hg0
  have hP : va_P D nCl (zX a tc σ ++ zM g tg τ) H2 := hP2
  have hD : va_D (lwA s) (zX a tc σ ++ zM g tg τ) := hD2
  have hS : va_S (lwA s) s.heap H2 locs2 := hS2
  have hK := hK2
  have hKM : va_K D nCl (ztM tg) s := hK.sub [7, 8, 9, 10, 11, 12, 13, 14, 15, 16, 17, 18, 19, 20] rfl
  refine W.widen (k := 34) (n := 3306) (Nat.le_of_ble_eq_true rfl) (Nat.le_of_ble_eq_true rfl) ?_
  refine lv_astore_n hx hb nD_L_law_35 rfl hl (by decide) rfl (fun ls hl => ?_)
  have hl : lv_has ls 4 [(2, .ref (g 0)), (1, .ref (a 0)), (0, .ref b)] := hl
  refine lv_iconst (v := (2 : Int32)) hx hb nD_L_law_36 (by decide) ?_
  refine lv_istore_n hx hb nD_L_law_37 rfl hl (by decide) rfl (fun ls hl => ?_)
  have hl : lv_has ls 4 [(3, .int (2 : Int32)), (2, .ref (g 0)), (1, .ref (a 0)), (0, .ref b)] := hl
  have hl := lv_sub (l' := [(0, .ref b), (1, .ref (a 0)), (2, .ref (g 0)), (3, .int (2 : Int32))]) hl [3, 2, 1, 0] rfl
  exact lw_loop hx hb hml hr hown hlocks hw hn hX hbl hbA hKX hKM hA ((2 : Int32), σ, τ) (lw_pure hL (rI_new (cC_ok _).1) hσ hτ) _ _ ls hP hD hS hl
