/-! The reference: its calls that record events -/
def yI (r : zR) (ev : Nat) (br : Int32) (τ : zS) : Prop := yRec r τ ∧ yFnd r (rE r) τ ∧ τ.1 2 = nI ev ∧ τ.1 3 = br
theorem t_happened {r : zR} {ev : Nat} {br : Int32} {τ : zS} {post : zS → Prop} (hwf : rWF r) (hr : yRec r τ) (h2 : τ.1 2 = nI ev) (h3 : τ.1 3 = br) (hp : ∀ τ', yI r ev (rBr br r ev) τ' → post τ') : j_M_happened τ post := by
  have h680 := rE_680 hwf
  unfold j_M_happened
  refine t_work hwf hr (fun τ1 r1 f1 k1 => ?_)
  have s2 : τ1.1 2 = nI ev := by rw [k1.1 2 (by omega)]; exact h2
  have s3 : τ1.1 3 = br := by rw [k1.1 3 (by omega)]; exact h3
  have hz : lg_cmp (τ1.2.2 2 0) (0 : Int64) = 0 ↔ rE r = [] := by
    rw [lgc0, f1.1]
    have : lN (rE r).length = lN 0 ↔ (rE r).length = 0 := pk_lEQ (by omega) (by omega)
    exact this.trans List.length_eq_zero_iff
  rw [hz, s3]
  refine ⟨fun g => ⟨fun g2 => znm_i ?_, fun g2 => ?_⟩, fun g => ?_⟩
  · have e : rBr br r ev = nI ev := rif_t ⟨g2, g⟩
    refine hp _ ⟨?_, ?_, ?_, ?_⟩
    · obtain ⟨⟨q1, q2, q3⟩, q4⟩ := r1
      exact ⟨⟨by simp [zI, va_up]; exact q1, by simp [zI, va_up]; exact q2, by simp [zI, va_up]; exact q3⟩, q4⟩
    · obtain ⟨q1, q2, q3, q4⟩ := f1
      exact ⟨q1, by simp [zI, va_up]; exact q2, q3, q4⟩
    · simp [zI, va_up]; exact s2
    · rw [e]; simp [zI, va_up]; exact s2
  · have e : rBr br r ev = br := rif_f (fun h => g2 h.1)
    exact hp τ1 ⟨r1, f1, s2, by rw [e]; exact s3⟩
  · have e : rBr br r ev = br := rif_f (fun h => g h.2)
    exact hp τ1 ⟨r1, f1, s2, by rw [e]; exact s3⟩
theorem narZ0 : vp_nar .boolean (0 : Int32) = 0 := rfl
theorem narZ1 : vp_nar .boolean (1 : Int32) = 1 := rfl
theorem yRec_beg {r : zR} {ev u v : Nat} {p : Int32} {τ τF : zS} (hr : yRec r τ) (hev : ev + 1 < 2 ^ 31) (hv : p ≠ 0 → v < 16)
    (e0 : τF.1 0 = τ.1 0) (e1 : τF.1 1 = τ.1 1) (e4 : τF.1 4 = nI (rN r + 1)) (a0 : ∀ c, τF.2.1 0 c = if c = rN r then nI u else τ.2.1 0 c) (a1 : ∀ c, τF.2.1 1 c = if c = rN r then p else τ.2.1 1 c) (a2 : ∀ c, τF.2.1 2 c = if c = rN r then nI v else τ.2.1 2 c) (a3 : ∀ c, τF.2.1 3 c = if c = rN r then nI (ev + 1) else τ.2.1 3 c) (a4 : ∀ c, τF.2.1 4 c = τ.2.1 4 c) (a5 : ∀ c, τF.2.1 5 c = τ.2.1 5 c) (a6 : ∀ c, τF.2.1 6 c = if c = rN r then 0 else τ.2.1 6 c) : yRec (rBeg r ev (nI u) p (nI v)) τF := by
  obtain ⟨⟨h1, h2, h3⟩, h4⟩ := hr
  refine ⟨⟨by rw [e0]; exact h1, by rw [e1]; exact h2, e4⟩, fun c hc => ?_⟩
  rw [rBeg_N] at hc
  rw [a0, a1, a2, a3, a4, a5, a6, rBeg_W, rBeg_P, rBeg_V, rBeg_S, rBeg_F, rBeg_U, rBeg_A]
  by_cases e : c = rN r
  · simp only [if_pos e]
    refine ⟨⟨trivial, trivial, fun hp => ?_, trivial⟩, trivial, hev, fun h => absurd h (by decide)⟩
    have := hv hp
    rw [nI_clamp (by omega)]
  · simp only [if_neg e]
    exact h4 c (by omega)
theorem yRec_fin {r : zR} {ev d : Nat} {a s : Int32} {τ τF : zS} (hr : yRec r τ) (hev : ev + 1 < 2 ^ 31)
    (e0 : τF.1 0 = τ.1 0) (e1 : τF.1 1 = τ.1 1) (e4 : τF.1 4 = τ.1 4) (a0 : ∀ k, k < 4 → τF.2.1 k = τ.2.1 k) (a4 : ∀ c, τF.2.1 4 c = if c = d then nI (ev + 1) else τ.2.1 4 c) (a5 : ∀ c, τF.2.1 5 c = if c = d then a else τ.2.1 5 c) (a6 : ∀ c, τF.2.1 6 c = if c = d then s else τ.2.1 6 c) : yRec (rFin r ev d a s) τF := by
  obtain ⟨⟨h1, h2, h3⟩, h4⟩ := hr
  refine ⟨⟨by rw [e0]; exact h1, by rw [e1]; exact h2, by rw [e4]; exact h3⟩, fun c hc => ?_⟩
  rw [rFin_N] at hc
  rw [a0 0 (by omega), a0 1 (by omega), a0 2 (by omega), a0 3 (by omega), a4, a5, a6, rFin_W, rFin_P, rFin_V, rFin_S, rFin_F, rFin_U, rFin_A]
  have := h4 c hc
  by_cases e : c = d
  · simp only [if_pos e]
    exact ⟨⟨this.1.1, this.1.2.1, this.1.2.2.1, trivial⟩, this.2.1, this.2.2.1, fun _ => ⟨trivial, hev, trivial⟩⟩
  · simp only [if_neg e]
    exact this
theorem rOp_out {r : zR} (hwf : rWF r) {x : Int32} (h : ¬ ∃ u, u < 3 ∧ x = nI u) : rOp r x (rN r) = -1 := by
  rcases rOp_spec r x (rN r) with ⟨g, -⟩ | ⟨c, g1, g2, g3, g4⟩
  · exact g
  · exfalso
    apply h
    rcases (hwf.2.2.1 c g1).1 with k | k | k
    · exact ⟨0, by omega, by rw [← g3, k]; rfl⟩
    · exact ⟨1, by omega, by rw [← g3, k]; rfl⟩
    · exact ⟨2, by omega, by rw [← g3, k]; rfl⟩
theorem m1_neg : (-1 : Int32) < 0 := by decide
theorem t_begin {r : zR} {ev v : Nat} {br x1 p : Int32} {τ : zS} {post : Int32 → zS → Prop} (hI : rI r ev) (hy : yI r ev br τ) (hev : ev + 1 < 2 ^ 31) (hp : vp_nar .boolean p = p) (hv : p ≠ 0 → v < 16) (hyes : ∀ u, cTake r x1 u → ∀ τ', yI (rBeg r ev (nI u) p (nI v)) (ev + 1) (rBr br (rBeg r ev (nI u) p (nI v)) (ev + 1)) τ' → post 1 τ') (hno : (¬ ∃ u, cTake r x1 u) → post 0 τ) : j_M_begin x1 p (nI v) τ post := by
  obtain ⟨hr, hf, h2, h3⟩ := hy
  have hwf := hI.1
  have hN := hwf.1
  have h4 := hr.1.2.2
  unfold j_M_begin
  refine ⟨fun g => hno ?_, fun g => ⟨fun g2 => hno ?_, fun g2 => ?_⟩⟩
  · rintro ⟨u, hu, rfl, -⟩
    exact nI_pos (by omega) g
  · rintro ⟨u, hu, rfl, -⟩
    have : (2 : Int32) < nI u ↔ 2 < u := nI_ltI (a := 2) (by omega) (by omega)
    rw [this] at g2
    omega
  · have h8 : (8 : Int32) ≤ τ.1 4 ↔ 8 ≤ rN r := by rw [h4]; exact nI_leI (a := 8) (by omega) (by omega)
    rw [h8]
    refine ⟨fun g3 => hno (fun ⟨u, _, _, _, k⟩ => by omega), fun g3 => ?_⟩
    obtain ⟨u, hu, hx⟩ : ∃ u, u < 3 ∧ x1 = nI u := by
      rcases pk_ix x1 (n := 3) (by omega) with h | h | h
      · exact absurd h g
      · exfalso
        apply g2
        have k1 := Int32.le_iff_toInt_le.mp h
        apply Int32.lt_iff_toInt_lt.mpr
        have a : (2 : Int32).toInt = 2 := by decide
        have b : (nI 3).toInt = 3 := by decide
        omega
      · exact h
    subst hx
    refine t_openOf hwf hr ?_
    show (rO r u < 0 → _) ∧ (¬ rO r u < 0 → _)
    refine ⟨fun g4 => znm_i ?_, fun g4 => hno (fun ⟨w, k1, k2, k3, k4⟩ => ?_)⟩
    · have ho : rO r u = -1 := by
        rcases rO_cases hwf u with h | ⟨c, c1, c2, -⟩
        · exact h
        · rw [c2] at g4
          exact absurd g4 (nI_pos (by omega))
      have hn : rN r < 8 := by omega
      have in8 := vp_in_nI hn (show 8 < 2 ^ 31 by omega)
      have e4 : (zI τ 2 (τ.1 2 + (1 : Int32))).1 4 = nI (rN r) := by simp [zI, va_up]; exact h4
      rw [e4]
      refine ⟨in8, znm_i ?_⟩
      have e4 : (zA (zI τ 2 (τ.1 2 + (1 : Int32))) 0 (nI (rN r)).toNatClampNeg (nI u)).1 4 = nI (rN r) := e4
      rw [e4]
      refine ⟨in8, znm_i ?_⟩
      have e4 : (zA (zA (zI τ 2 (τ.1 2 + (1 : Int32))) 0 (nI (rN r)).toNatClampNeg (nI u)) 1 (nI (rN r)).toNatClampNeg (vp_nar .boolean p)).1 4 = nI (rN r) := e4
      rw [e4]
      refine ⟨in8, znm_i ?_⟩
      have e4 : (zA (zA (zA (zI τ 2 (τ.1 2 + (1 : Int32))) 0 (nI (rN r)).toNatClampNeg (nI u)) 1 (nI (rN r)).toNatClampNeg (vp_nar .boolean p)) 2 (nI (rN r)).toNatClampNeg (nI v)).1 4 = nI (rN r) := e4
      rw [e4]
      refine ⟨in8, znm_i ?_⟩
      have e4 : (zA (zA (zA (zA (zI τ 2 (τ.1 2 + (1 : Int32))) 0 (nI (rN r)).toNatClampNeg (nI u)) 1 (nI (rN r)).toNatClampNeg (vp_nar .boolean p)) 2 (nI (rN r)).toNatClampNeg (nI v)) 3 (nI (rN r)).toNatClampNeg ((zA (zA (zA (zI τ 2 (τ.1 2 + (1 : Int32))) 0 (nI (rN r)).toNatClampNeg (nI u)) 1 (nI (rN r)).toNatClampNeg (vp_nar .boolean p)) 2 (nI (rN r)).toNatClampNeg (nI v)).1 2)).1 4 = nI (rN r) := e4
      rw [e4]
      refine ⟨in8, znm_i (znm_i ?_)⟩
      rw [nI_clamp (show rN r < 2 ^ 31 by omega), hp, h2, nI_1]
      have hI' := rI_beg (p := p) hI hn hu ho hv
      refine t_happened hI'.1 (yRec_beg hr hev hv ?_ ?_ ?_ ?_ ?_ ?_ ?_ ?_ ?_ ?_) ?_ ?_ (fun τ' h => hyes u ⟨hu, rfl, ho, hn⟩ τ' h)
      · simp [zI, zA, zF, va_up]
      · simp [zI, zA, zF, va_up]
      · simp [zI, zA, zF, va_up, h4, nI_1]
      · intro c; simp [zI, zA, zF, va_up, upd]
      · intro c; simp [zI, zA, zF, va_up, upd]
      · intro c; simp [zI, zA, zF, va_up, upd]
      · intro c; simp [zI, zA, zF, va_up, upd]
      · intro c; simp [zI, zA, zF, va_up, upd]
      · intro c; simp [zI, zA, zF, va_up, upd]
      · intro c; simp [zI, zA, zF, va_up, upd]
      · simp [zI, zA, zF, va_up]
      · simp [zI, zA, zF, va_up, h3]
    · rw [nI_eq (by omega) (by omega)] at k2
      rw [k2] at g4
      rw [k3] at g4
      exact g4 m1_neg
theorem t_beginTake {r : zR} {ev : Nat} {br x1 : Int32} {τ : zS} {post : Int32 → zS → Prop} (hI : rI r ev) (hy : yI r ev br τ) (hev : ev + 1 < 2 ^ 31) (hyes : ∀ u, cTake r x1 u → ∀ τ', yI (rBeg r ev (nI u) 0 (nI 0)) (ev + 1) (rBr br (rBeg r ev (nI u) 0 (nI 0)) (ev + 1)) τ' → post 1 τ') (hno : (¬ ∃ u, cTake r x1 u) → post 0 τ) : j_M_beginTake x1 τ post := by
  unfold j_M_beginTake
  exact t_begin (v := 0) hI hy hev narZ0 (fun h => absurd rfl h) (fun u hc τ' h => ⟨narB1, hyes u hc τ' h⟩) (fun h => ⟨narB0, hno h⟩)
theorem t_beginPut {r : zR} {ev : Nat} {br x1 x2 : Int32} {τ : zS} {post : Int32 → zS → Prop} (hI : rI r ev) (hy : yI r ev br τ) (hev : ev + 1 < 2 ^ 31) (hyes : ∀ u v, cPut r x1 x2 u v → ∀ τ', yI (rBeg r ev (nI u) 1 (nI v)) (ev + 1) (rBr br (rBeg r ev (nI u) 1 (nI v)) (ev + 1)) τ' → post 1 τ') (hno : (¬ ∃ u v, cPut r x1 x2 u v) → post 0 τ) : j_M_beginPut x1 x2 τ post := by
  unfold j_M_beginPut
  refine ⟨fun g => hno ?_, fun g => ⟨fun g2 => hno ?_, fun g2 => ?_⟩⟩
  · rintro ⟨u, v, k1, k2, k3, k4, -⟩
    rw [k4] at g
    exact nI_pos (by omega) g
  · rintro ⟨u, v, k1, k2, k3, k4, -⟩
    rw [k4] at g2
    have : (15 : Int32) < nI v ↔ 15 < v := nI_ltI (a := 15) (by omega) (by omega)
    rw [this] at g2
    omega
  · obtain ⟨v, hv, hx⟩ : ∃ v, v < 16 ∧ x2 = nI v := by
      rcases pk_ix x2 (n := 16) (by omega) with h | h | h
      · exact absurd h g
      · exfalso
        apply g2
        have k1 := Int32.le_iff_toInt_le.mp h
        apply Int32.lt_iff_toInt_lt.mpr
        have a : (15 : Int32).toInt = 15 := by decide
        have b : (nI 16).toInt = 16 := by decide
        omega
      · exact h
    subst hx
    have go : (rK r = 2 → x1 = 0) → j_M_begin x1 (1 : Int32) (nI v) τ (fun r4 σ3 => (narrow .boolean (.int r4) = .int r4 ∧ post r4 σ3)) := by
      intro hk
      refine t_begin hI hy hev narZ1 (fun _ => hv) (fun u hc τ' h => ⟨narB1, hyes u v ⟨hc.1, hv, hc.2.1, rfl, hc.2.2.1, hc.2.2.2, fun k => ?_⟩ τ' h⟩) (fun h => ⟨narB0, hno (fun ⟨u, w, k1, k2, k3, k4, k5, k6, k7⟩ => h ⟨u, k1, k3, k5, k6⟩)⟩)
      have e := hk k
      rw [hc.2.1] at e
      have hu := hc.1
      exact (nI_eq (b := 0) (by omega) (by omega)).mp e
    rw [hy.1.1.1]
    refine ⟨fun g3 => ⟨fun g4 => go (fun _ => g4), fun g4 => hno ?_⟩, fun g3 => go (fun h => absurd h g3)⟩
    rintro ⟨u, w, k1, k2, k3, k4, k5, k6, k7⟩
    apply g4
    rw [k3, k7 g3]
    rfl
theorem t_close {r : zR} {ev d : Nat} {br a s : Int32} {τ : zS} {post : zS → Prop} (hI : rI r ev) (hy : yI r ev br τ) (hev : ev + 1 < 2 ^ 31) (hd : d < rN r) (hO : rS r d = 0) (hs : s = 1 ∨ s = 2) (hyes : ∀ τ', yI (rFin r ev d a s) (ev + 1) (rBr br (rFin r ev d a s) (ev + 1)) τ' → post τ') : j_M_close (nI d) s a τ post := by
  obtain ⟨hr, hf, h2, h3⟩ := hy
  have hN := hI.1.1
  unfold j_M_close
  have in8 := vp_in_nI (show d < 8 by omega) (show 8 < 2 ^ 31 by omega)
  refine znm_i ⟨in8, znm_i ⟨in8, znm_i ⟨in8, znm_i ?_⟩⟩⟩
  rw [nI_clamp (show d < 2 ^ 31 by omega), h2, nI_1]
  refine t_happened (rI_fin hI hd hO hs).1 (yRec_fin hr hev ?_ ?_ ?_ (fun k hk => ?_) ?_ ?_ ?_) ?_ ?_ (fun τ' h => hyes τ' h)
  · simp [zI, zA, zF, va_up]
  · simp [zI, zA, zF, va_up]
  · simp [zI, zA, zF, va_up]
  · have a1 : ¬ k = 4 := by omega
    have a2 : ¬ k = 5 := by omega
    have a3 : ¬ k = 6 := by omega
    simp [zI, zA, zF, va_up, a1, a2, a3]
  · intro c; simp [zI, zA, zF, va_up, upd]
  · intro c; simp [zI, zA, zF, va_up, upd]
  · intro c; simp [zI, zA, zF, va_up, upd]
  · simp [zI, zA, zF, va_up]
  · simp [zI, zA, zF, va_up, h3]
/-- openOf, by cases -/
theorem t_openC {r : zR} {x1 : Int32} {τ : zS} {post : Int32 → zS → Prop} (hwf : rWF r) (hr : yRec r τ) (h1 : ∀ u d, cOpen r x1 u d → rS r d = 0 → post (nI d) τ) (h0 : (¬ ∃ u d, cOpen r x1 u d) → post (-1) τ) : j_M_openOf x1 τ post := by
  refine t_openOf hwf hr ?_
  by_cases h : ∃ u, u < 3 ∧ x1 = nI u
  · obtain ⟨u, hu, rfl⟩ := h
    show post (rO r u) τ
    rcases rO_cases hwf u with g | ⟨c, g1, g2, g3, g4⟩
    · rw [g]
      refine h0 ?_
      rintro ⟨w, d, k1, k2, k3, k4⟩
      have hN := hwf.1
      rw [nI_eq (by omega) (by omega)] at k2
      rw [← k2, g] at k4
      exact nI_m1 (by omega) k4.symm
    · rw [g2]
      exact h1 u c ⟨hu, rfl, g1, g2⟩ g4
  · rw [rOp_out hwf h]
    exact h0 (fun ⟨u, d, k1, k2, _⟩ => h ⟨u, k1, k2⟩)
theorem t_endPut {r : zR} {ev : Nat} {br x1 x2 : Int32} {τ : zS} {post : Int32 → zS → Prop} (hI : rI r ev) (hy : yI r ev br τ) (hev : ev + 1 < 2 ^ 31) (hyes : ∀ u d a, cOpen r x1 u d → rP r d ≠ 0 → a = (if x2 = 0 then (0 : Int32) else 1) → ∀ τ', yI (rFin r ev d a 1) (ev + 1) (rBr br (rFin r ev d a 1) (ev + 1)) τ' → post 1 τ') (hno : (¬ ∃ u d, cOpen r x1 u d ∧ rP r d ≠ 0) → post 0 τ) : j_M_endPut x1 x2 τ post := by
  have hwf := hI.1
  have hN := hwf.1
  unfold j_M_endPut
  refine t_openC hwf hy.1 (fun u d hc hO => ⟨fun g => ?_, fun _ => ?_⟩) (fun g => ⟨fun _ => hno (fun ⟨u, d, k, _⟩ => g ⟨u, d, k⟩), fun h => absurd m1_neg h⟩)
  · have := hc.2.2.1
    exact absurd g (nI_pos (by omega))
  · have hd := hc.2.2.1
    refine ⟨vp_in_nI (show d < 8 by omega) (by omega), ?_⟩
    rw [nI_clamp (by omega), (hy.1.2 d hd).1.2.1]
    refine ⟨fun g => hno (fun ⟨u', d', k1, k2⟩ => ?_), fun g => ⟨fun g2 => t_close hI hy hev hd hO (Or.inl rfl) (fun τ' h => hyes u d _ hc g (by rw [if_pos g2]) τ' h), fun g2 => t_close hI hy hev hd hO (Or.inl rfl) (fun τ' h => hyes u d _ hc g (by rw [if_neg g2]) τ' h)⟩⟩
    rw [(cOpen_u hwf hc k1).2] at k2
    exact k2 g
theorem t_endTake {r : zR} {ev : Nat} {br x1 x2 : Int32} {τ : zS} {post : Int32 → zS → Prop} (hI : rI r ev) (hy : yI r ev br τ) (hev : ev + 1 < 2 ^ 31) (hyes : ∀ u d, cOpen r x1 u d → rP r d = 0 → (x2 = -1 ∨ ∃ v, v < 16 ∧ x2 = nI v) → ∀ τ', yI (rFin r ev d x2 1) (ev + 1) (rBr br (rFin r ev d x2 1) (ev + 1)) τ' → post 1 τ') (hno : (¬ ∃ u d, cOpen r x1 u d ∧ rP r d = 0 ∧ (x2 = -1 ∨ ∃ v, v < 16 ∧ x2 = nI v)) → post 0 τ) : j_M_endTake x1 x2 τ post := by
  have hwf := hI.1
  have hN := hwf.1
  have a15 : (15 : Int32).toInt = 15 := by decide
  have am1 : (-1 : Int32).toInt = -1 := by decide
  have hrange : (x2 = -1 ∨ ∃ v, v < 16 ∧ x2 = nI v) ↔ ¬ x2 < (-1 : Int32) ∧ x2 ≤ (15 : Int32) := by
    constructor
    · rintro (rfl | ⟨v, hv, rfl⟩)
      · exact ⟨by decide, by decide⟩
      · refine ⟨fun h => ?_, (nI_leI (b := 15) (by omega) (by omega)).mpr (by omega)⟩
        have h := Int32.lt_iff_toInt_lt.mp h
        rw [nI_toInt (by omega)] at h
        omega
    · rintro ⟨h1, h2⟩
      by_cases h0 : x2 < 0
      · left
        have k1 := Int32.lt_iff_toInt_lt.mp h0
        have k2 := Int32.le_iff_toInt_le.mp (Int32.not_lt.mp h1)
        have a0 : (0 : Int32).toInt = 0 := by decide
        apply Int32.toInt_inj.mp
        omega
      · right
        obtain ⟨j, hj, hx⟩ := nI_of2 (n := 15) (M := 15) (by decide) h0 h2
        exact ⟨j, by omega, hx⟩
  unfold j_M_endTake
  refine t_openC hwf hy.1 (fun u d hc hO => ⟨fun g => ?_, fun _ => ?_⟩) (fun g => ⟨fun _ => hno (fun ⟨u, d, k, _⟩ => g ⟨u, d, k⟩), fun h => absurd m1_neg h⟩)
  · have := hc.2.2.1
    exact absurd g (nI_pos (by omega))
  · have hd := hc.2.2.1
    refine ⟨vp_in_nI (show d < 8 by omega) (by omega), ?_⟩
    rw [nI_clamp (by omega), (hy.1.2 d hd).1.2.1]
    refine ⟨fun g => ⟨fun g2 => hno (fun ⟨_, _, _, _, k⟩ => (hrange.mp k).1 g2), fun g2 => ⟨fun g3 => t_close hI hy hev hd hO (Or.inl rfl) (fun τ' h => hyes u d hc g (hrange.mpr ⟨g2, g3⟩) τ' h), fun g3 => hno (fun ⟨_, _, _, _, k⟩ => g3 (hrange.mp k).2)⟩⟩, fun g => hno (fun ⟨u', d', k1, k2, _⟩ => ?_)⟩
    rw [(cOpen_u hwf hc k1).2] at k2
    exact g k2
theorem t_giveUp {r : zR} {ev : Nat} {br x1 : Int32} {τ : zS} {post : Int32 → zS → Prop} (hI : rI r ev) (hy : yI r ev br τ) (hev : ev + 1 < 2 ^ 31) (hyes : ∀ u d, cOpen r x1 u d → ∀ τ', yI (rFin r ev d 0 2) (ev + 1) (rBr br (rFin r ev d 0 2) (ev + 1)) τ' → post 1 τ') (hno : (¬ ∃ u d, cOpen r x1 u d) → post 0 τ) : j_M_giveUp x1 τ post := by
  have hwf := hI.1
  have hN := hwf.1
  unfold j_M_giveUp
  refine t_openC hwf hy.1 (fun u d hc hO => ⟨fun _ => t_close hI hy hev hc.2.2.1 hO (Or.inr rfl) (fun τ' h => hyes u d hc τ' h), fun g => ?_⟩) (fun g => ⟨fun h => absurd h (by decide), fun _ => hno g⟩)
  have := hc.2.2.1
  exact absurd (nI_pos' (by omega)) g
theorem t_renew {r : zR} {x1 x2 : Int32} {τ : zS} {post : zS → Prop} (hp : ∀ τ', yI (rNew r (cK x1) (cC x2)) 0 0 τ' → post τ') : j_M_renew x1 x2 τ post := by
  obtain ⟨hc, -, hv1, hv2, hv3⟩ := cC_ok x2
  have hI := rI_new (r := r) (k := cK x1) hc
  unfold j_M_renew
  have go : ∀ k n, k = cK x1 → n = nI (cC x2) → (znm (zI (zI τ 0 k) 1 n) fun σ2 => znm (zI σ2 2 (0 : Int32)) fun σ3 => znm (zI σ3 3 (0 : Int32)) fun σ4 => znm (zI σ4 4 (0 : Int32)) fun σ5 => j_M_work σ5 (fun σ6 => post σ6)) := by
    intro k n hk hn
    subst hk
    subst hn
    refine znm_i (znm_i (znm_i (znm_i ?_)))
    refine t_work (r := rNew r (cK x1) (cC x2)) hI.1 ⟨⟨?_, ?_, ?_⟩, fun c hc => absurd hc (by show ¬ c < 0; omega)⟩ (fun τ' g1 g2 g3 => hp τ' ⟨g1, g2, ?_, ?_⟩)
    · simp [zI, va_up]; rfl
    · simp [zI, va_up]; rfl
    · simp [zI, va_up]; rfl
    · rw [g3.1 2 (by omega)]; simp [zI, va_up]; rfl
    · rw [g3.1 3 (by omega)]; simp [zI, va_up]
  have three : ∀ k, k = cK x1 → (((1 : Int32) ≤ x2 → ((x2 ≤ (8 : Int32) → znm (zI (zI τ 0 k) 1 x2) fun σ2 => znm (zI σ2 2 (0 : Int32)) fun σ3 => znm (zI σ3 3 (0 : Int32)) fun σ4 => znm (zI σ4 4 (0 : Int32)) fun σ5 => j_M_work σ5 (fun σ6 => post σ6)) ∧ (¬ x2 ≤ (8 : Int32) → znm (zI (zI τ 0 k) 1 (8 : Int32)) fun σ7 => znm (zI σ7 2 (0 : Int32)) fun σ8 => znm (zI σ8 3 (0 : Int32)) fun σ9 => znm (zI σ9 4 (0 : Int32)) fun σ10 => j_M_work σ10 (fun σ11 => post σ11)))) ∧ (¬ (1 : Int32) ≤ x2 → znm (zI (zI τ 0 k) 1 (1 : Int32)) fun σ12 => znm (zI σ12 2 (0 : Int32)) fun σ13 => znm (zI σ13 3 (0 : Int32)) fun σ14 => znm (zI σ14 4 (0 : Int32)) fun σ15 => j_M_work σ15 (fun σ16 => post σ16))) :=
    fun k hk => ⟨fun g => ⟨fun g2 => go k x2 hk (hv1 g g2), fun g2 => go k 8 hk (hv2 g g2)⟩, fun g => go k 1 hk (hv3 g)⟩
  refine ⟨fun g => znm_i (three x1 ?_), fun g => ⟨fun g2 => znm_i (three x1 ?_), fun g2 => znm_i (three 0 ?_)⟩⟩
  · unfold cK; rw [if_pos (Or.inl g)]
  · unfold cK; rw [if_pos (Or.inr g2)]
  · unfold cK; rw [if_neg (fun h => h.elim g g2)]
