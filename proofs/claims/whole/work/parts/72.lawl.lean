set_option maxHeartbeats 4000000 in
set_option maxRecDepth 100000 in
theorem lw_loop {p : Program} {e : Env} {l : Launch} {s : State} {m : MethodId} {below : List Frame} {meth : Method} {c : Code} {D : va_G} {a g : Nat → Nat} {tc tg : Nat → ClassId} {bs L : Nat} {xs : Nat → Int32} (hx : p.tables.exec = Jvm.exec) (hb : c.code = nC_L_law) (hml : c.maxLocals = 4) (hr : meth.sig.returnType = ret) (hown : s.vm.findClass R_law = some m.cls) (hlocks : meth.locks = false) (hw : ∀ w ∈ wA, w.before #[Value.ref bs] s = true) (hn : mN s) (hX : va_X bs L xs s s.heap) (hbl : bs < s.heap.size) (hbA : ¬ lwA s bs) (hKX : va_K D nCl (ztX tc) s) (hKM : va_K D nCl (ztM tg) s) (hA : ∀ q, s.heap.size ≤ q → lwA s q) : ∀ q, zLP (b_L_law L xs) q → lwWd p e l s m below meth c D a g tc tg bs q := by
  refine zLP_walk ?_
  rintro R ⟨y3, σ, τ⟩ hR h H locs ls hP hD hS hl
  dsimp only at hP hD hl
  dsimp only [b_L_law] at h
  refine lv_iload_n hx hb nD_L_law_38 rfl (lv_at hl 3 rfl) ?_
  refine lv_aload_n hx hb nD_L_law_39 rfl (lv_at hl 0 rfl) ?_
  refine va_slen hx hb hX hbl hbA hS nD_L_law_40 ?_
  refine lv_iconst (v := (3 : Int32)) hx hb nD_L_law_41 (by decide) ?_
  refine lv_isub hx hb nD_L_law_42 ?_
  refine lv_icmp_gt (tgt := 518) hx hb nD_L_law_43 (by decide) (fun hc => ?_) (fun hc => ?_)
  · refine lv_iconst (v := (1 : Int32)) hx hb nD_L_law_518 (by decide) ?_
    refine va_forget (fun q hq => hS.2.2 q hq) ?_
    refine W.widen (k := 600000) (n := 7302250) (Nat.le_of_ble_eq_true rfl) (Nat.le_of_ble_eq_true rfl) ?_
    exact lw_ret hx hb hr hlocks nD_L_law_519
  · obtain ⟨hi, h⟩ := h hc
    refine lv_aload_n hx hb nD_L_law_46 rfl (lv_at hl 0 rfl) ?_
    refine lv_iload_n hx hb nD_L_law_47 rfl (lv_at hl 3 rfl) ?_
    refine va_sld hx hb hX hbl hbA hS hi nD_L_law_48 ?_
    refine lv_bipush (v := (31 : Int32)) hx hb nD_L_law_49 (by decide) ?_
    refine lv_iand hx hb nD_L_law_51 ?_
    refine lv_topi (fun k ek => ?_)
    have h := h k ek
    obtain ⟨j, hj, ej⟩ := pk_andE (xs y3.toNatClampNeg) (m := 31) 5 (by decide)
    rw [ej] at ek
    have h2 := h j hj ek
    clear h
    subst ek
    clear ej
    have hj : j < 32 := hj
    rcases (show j = 0 ∨ j = 1 ∨ j = 2 ∨ j = 3 ∨ j = 4 ∨ j = 5 ∨ j = 6 ∨ j = 7 ∨ j = 8 ∨ j = 9 ∨ j = 10 ∨ j = 11 ∨ j = 12 ∨ j = 13 ∨ j = 14 ∨ j = 15 ∨ j = 16 ∨ j = 17 ∨ j = 18 ∨ j = 19 ∨ j = 20 ∨ j = 21 ∨ j = 22 ∨ j = 23 ∨ j = 24 ∨ j = 25 ∨ j = 26 ∨ j = 27 ∨ j = 28 ∨ j = 29 ∨ j = 30 ∨ j = 31 by omega) with rfl | rfl | rfl | rfl | rfl | rfl | rfl | rfl | rfl | rfl | rfl | rfl | rfl | rfl | rfl | rfl | rfl | rfl | rfl | rfl | rfl | rfl | rfl | rfl | rfl | rfl | rfl | rfl | rfl | rfl | rfl | rfl
    · refine lv_tableIn (off := 84) (tgt := 136) hx hb nD_L_law_52 (by decide) (by decide) rfl (by decide) ?_
      exact lw_c0 hx hb hml hown hw hn hX hbl hbA hKX hKM hA hR h2 hP hD hS hl
    · refine lv_tableIn (off := 115) (tgt := 167) hx hb nD_L_law_52 (by decide) (by decide) rfl (by decide) ?_
      exact lw_c1 hx hb hml hown hw hn hX hbl hbA hKX hKM hA hR h2 hP hD hS hl
    · refine lv_tableIn (off := 148) (tgt := 200) hx hb nD_L_law_52 (by decide) (by decide) rfl (by decide) ?_
      exact lw_c2 hx hb hml hown hw hn hX hbl hbA hKX hKM hA hR h2 hP hD hS hl
    · refine lv_tableIn (off := 171) (tgt := 223) hx hb nD_L_law_52 (by decide) (by decide) rfl (by decide) ?_
      exact lw_c3 hx hb hml hown hw hn hX hbl hbA hKX hKM hA hR h2 hP hD hS hl
    · refine lv_tableIn (off := 220) (tgt := 272) hx hb nD_L_law_52 (by decide) (by decide) rfl (by decide) ?_
      exact lw_c4 hx hb hml hown hw hn hX hbl hbA hKX hKM hA hR h2 hP hD hS hl
    · refine lv_tableIn (off := 253) (tgt := 305) hx hb nD_L_law_52 (by decide) (by decide) rfl (by decide) ?_
      exact lw_c5 hx hb hml hown hw hn hX hbl hbA hKX hKM hA hR h2 hP hD hS hl
    · refine lv_tableIn (off := 276) (tgt := 328) hx hb nD_L_law_52 (by decide) (by decide) rfl (by decide) ?_
      exact lw_c6 hx hb hml hown hw hn hX hbl hbA hKX hKM hA hR h2 hP hD hS hl
    · refine lv_tableIn (off := 289) (tgt := 341) hx hb nD_L_law_52 (by decide) (by decide) rfl (by decide) ?_
      exact lw_c7 hx hb hml hown hw hn hX hbl hbA hKX hKM hA hR h2 hP hD hS hl
    · refine lv_tableIn (off := 302) (tgt := 354) hx hb nD_L_law_52 (by decide) (by decide) rfl (by decide) ?_
      exact lw_c8 hx hb hml hown hw hn hX hbl hbA hKX hKM hA hR h2 hP hD hS hl
    · refine lv_tableIn (off := 315) (tgt := 367) hx hb nD_L_law_52 (by decide) (by decide) rfl (by decide) ?_
      exact lw_c9 hx hb hml hown hw hn hX hbl hbA hKX hKM hA hR h2 hP hD hS hl
    · refine lv_tableIn (off := 328) (tgt := 380) hx hb nD_L_law_52 (by decide) (by decide) rfl (by decide) ?_
      exact lw_c10 hx hb hml hown hw hn hX hbl hbA hKX hKM hA hR h2 hP hD hS hl
    · refine lv_tableIn (off := 342) (tgt := 394) hx hb nD_L_law_52 (by decide) (by decide) rfl (by decide) ?_
      exact lw_c11 hx hb hml hown hw hn hX hbl hbA hKX hKM hA hR h2 hP hD hS hl
    · refine lv_tableIn (off := 355) (tgt := 407) hx hb nD_L_law_52 (by decide) (by decide) rfl (by decide) ?_
      exact lw_c12 hx hb hml hown hw hn hX hbl hbA hKX hKM hA hR h2 hP hD hS hl
    · refine lv_tableIn (off := 368) (tgt := 420) hx hb nD_L_law_52 (by decide) (by decide) rfl (by decide) ?_
      exact lw_c13 hx hb hml hown hw hn hX hbl hbA hKX hKM hA hR h2 hP hD hS hl
    · refine lv_tableIn (off := 381) (tgt := 433) hx hb nD_L_law_52 (by decide) (by decide) rfl (by decide) ?_
      exact lw_c14 hx hb hml hown hw hn hX hbl hbA hKX hKM hA hR h2 hP hD hS hl
    · refine lv_tableIn (off := 414) (tgt := 466) hx hb nD_L_law_52 (by decide) (by decide) rfl (by decide) ?_
      exact lw_c15 hx hb hml hown hw hn hX hbl hbA hKX hKM hA hR h2 hP hD hS hl
    · refine lv_tableIn (off := 437) (tgt := 489) hx hb nD_L_law_52 (by decide) (by decide) rfl (by decide) ?_
      exact lw_c16 hx hb hml hown hw hn hX hbl hbA hKX hKM hA hR h2 hP hD hS hl
    · refine lv_tableOut (tgt := 512) hx hb nD_L_law_52 (Or.inr (by decide)) (by decide) ?_
      exact lw_512 hx hb hR h2 hP hD hS hl
    · refine lv_tableOut (tgt := 512) hx hb nD_L_law_52 (Or.inr (by decide)) (by decide) ?_
      exact lw_512 hx hb hR h2 hP hD hS hl
    · refine lv_tableOut (tgt := 512) hx hb nD_L_law_52 (Or.inr (by decide)) (by decide) ?_
      exact lw_512 hx hb hR h2 hP hD hS hl
    · refine lv_tableOut (tgt := 512) hx hb nD_L_law_52 (Or.inr (by decide)) (by decide) ?_
      exact lw_512 hx hb hR h2 hP hD hS hl
    · refine lv_tableOut (tgt := 512) hx hb nD_L_law_52 (Or.inr (by decide)) (by decide) ?_
      exact lw_512 hx hb hR h2 hP hD hS hl
    · refine lv_tableOut (tgt := 512) hx hb nD_L_law_52 (Or.inr (by decide)) (by decide) ?_
      exact lw_512 hx hb hR h2 hP hD hS hl
    · refine lv_tableOut (tgt := 512) hx hb nD_L_law_52 (Or.inr (by decide)) (by decide) ?_
      exact lw_512 hx hb hR h2 hP hD hS hl
    · refine lv_tableOut (tgt := 512) hx hb nD_L_law_52 (Or.inr (by decide)) (by decide) ?_
      exact lw_512 hx hb hR h2 hP hD hS hl
    · refine lv_tableOut (tgt := 512) hx hb nD_L_law_52 (Or.inr (by decide)) (by decide) ?_
      exact lw_512 hx hb hR h2 hP hD hS hl
    · refine lv_tableOut (tgt := 512) hx hb nD_L_law_52 (Or.inr (by decide)) (by decide) ?_
      exact lw_512 hx hb hR h2 hP hD hS hl
    · refine lv_tableOut (tgt := 512) hx hb nD_L_law_52 (Or.inr (by decide)) (by decide) ?_
      exact lw_512 hx hb hR h2 hP hD hS hl
    · refine lv_tableOut (tgt := 512) hx hb nD_L_law_52 (Or.inr (by decide)) (by decide) ?_
      exact lw_512 hx hb hR h2 hP hD hS hl
    · refine lv_tableOut (tgt := 512) hx hb nD_L_law_52 (Or.inr (by decide)) (by decide) ?_
      exact lw_512 hx hb hR h2 hP hD hS hl
    · refine lv_tableOut (tgt := 512) hx hb nD_L_law_52 (Or.inr (by decide)) (by decide) ?_
      exact lw_512 hx hb hR h2 hP hD hS hl
    · refine lv_tableOut (tgt := 512) hx hb nD_L_law_52 (Or.inr (by decide)) (by decide) ?_
      exact lw_512 hx hb hR h2 hP hD hS hl
