/-! The law's loop keeps both sides on one record -/
theorem cPut_u {r : zR} {x1 x2 : Int32} {u v u' v' : Nat} (h : cPut r x1 x2 u v) (h' : cPut r x1 x2 u' v') : u' = u ∧ v' = v := by
  obtain ⟨a1, a2, a3, a4, -⟩ := h
  obtain ⟨b1, b2, b3, b4, -⟩ := h'
  rw [a3, nI_eq (by omega) (by omega)] at b3
  rw [a4, nI_eq (by omega) (by omega)] at b4
  exact ⟨b3.symm, b4.symm⟩
theorem cTake_u {r : zR} {x1 : Int32} {u u' : Nat} (h : cTake r x1 u) (h' : cTake r x1 u') : u' = u := by
  obtain ⟨a1, a2, -⟩ := h
  obtain ⟨b1, b2, -⟩ := h'
  rw [a2, nI_eq (by omega) (by omega)] at b2
  exact b2.symm
theorem rE_lt {r : zR} : ∀ M, M ∈ rE r → ∀ c, c ∈ M → c < rN r := fun M hM => rG_lt ((rVM_mem 8 [] M hM).2.2 (rG_nil r))
section LP
variable {L i ev : Nat} {xs : Nat → Int32} {R : Int32 × zS × zS → Prop} {r : zR} {br : Int32} {σ τ : zS}
theorem lb_all (hi : i + 3 ≤ L) (hL : L ≤ 1538) (hev : ev ≤ i) (hI : rI r ev) (hx : xI r ev br σ) (hy : yI r ev br τ)
    (next : ∀ (r' : zR) (ev' : Nat) (br' : Int32) (σ' τ' : zS), ev' ≤ ev + 1 → rI r' ev' → xI r' ev' br' σ' → yI r' ev' br' τ' → R (nI i + 3, σ', τ')) : ∀ j, j < 32 → lwB L xs R (nI i) σ τ j := by
  have hwf := hI.1
  have h680 := rE_680 hwf
  have hrok := rRows_ok hwf (rE r) rE_lt
  have hrl : (rRows r (rE r)).length ≤ 680 := Nat.le_trans (rRows_len r (rE r)) h680
  have hcnt : ∀ u, rCnt r u (rE r) ≤ (rE r).length := fun u => rCnt_le r u (rE r)
  have hev1 : ev + 1 < 2 ^ 31 := by omega
  have in1 : vp_in (nI i + (1 : Int32)) L := by rw [nI_1]; exact vp_in_nI (by omega) (by omega)
  have in2 : vp_in (nI i + (2 : Int32)) L := by
    have : nI i + (2 : Int32) = nI (i + 2) := nI_add i 2
    rw [this]
    exact vp_in_nI (by omega) (by omega)
  have same : R (nI i + 3, σ, τ) := next r ev br σ τ (by omega) hI hx hy
  have beg : ∀ (u v : Nat) (p : Int32) (σ' τ' : zS), u < 3 → rO r u = -1 → rN r < 8 → (p ≠ 0 → v < 16) → xI (rBeg r ev (nI u) p (nI v)) (ev + 1) (rBr br (rBeg r ev (nI u) p (nI v)) (ev + 1)) σ' → yI (rBeg r ev (nI u) p (nI v)) (ev + 1) (rBr br (rBeg r ev (nI u) p (nI v)) (ev + 1)) τ' → R (nI i + 3, σ', τ') := by
    intro u v p σ' τ' hu ho hn hv h1 h2
    exact next _ _ _ σ' τ' (Nat.le_refl _) (rI_beg hI hn hu ho hv) h1 h2
  have fin : ∀ (d : Nat) (a s : Int32) (σ' τ' : zS), d < rN r → rS r d = 0 → (s = 1 ∨ s = 2) → xI (rFin r ev d a s) (ev + 1) (rBr br (rFin r ev d a s) (ev + 1)) σ' → yI (rFin r ev d a s) (ev + 1) (rBr br (rFin r ev d a s) (ev + 1)) τ' → R (nI i + 3, σ', τ') := by
    intro d a s σ' τ' hd hO hs h1 h2
    exact next _ _ _ σ' τ' (Nat.le_refl _) (rI_fin hI hd hO hs) h1 h2
  have open0 : ∀ {x1 : Int32} {u d : Nat}, cOpen r x1 u d → rS r d = 0 := fun hc => (rO_inv hwf hc.2.2.1 hc.2.2.2).2
  intro j hj
  match j, hj with
  | 0, _ =>
    refine ⟨in1, in2, ?_⟩
    unfold j_X5_renew
    refine s_startRecord (r := r) (fun σ' h1 => ⟨in1, in2, t_renew (r := r) (fun τ' h2 => ?_)⟩)
    exact next _ _ _ σ' τ' (by omega) (rI_new (cC_ok _).1) h1 h2
  | 1, _ =>
    refine ⟨in1, in2, s_beginPut hI hx (fun u v hc σ' h1 => ⟨in1, in2, ?_⟩) (fun hno => ⟨in1, in2, ?_⟩)⟩
    · refine t_beginPut hI hy hev1 (fun u' v' hc' τ' h2 => ⟨fun _ => ?_, fun h => h rfl⟩) (fun hno => absurd ⟨u, v, hc⟩ hno)
      rw [(cPut_u hc hc').1, (cPut_u hc hc').2] at h2
      exact beg u v 1 σ' τ' hc.1 hc.2.2.2.2.1 hc.2.2.2.2.2.1 (fun _ => hc.2.1) h1 h2
    · exact t_beginPut hI hy hev1 (fun u' v' hc' => absurd ⟨u', v', hc'⟩ hno) (fun _ => ⟨fun _ => same, fun h => h rfl⟩)
  | 2, _ =>
    refine ⟨in1, s_beginTake hI hx (fun u hc σ' h1 => ⟨in1, ?_⟩) (fun hno => ⟨in1, ?_⟩)⟩
    · refine t_beginTake hI hy hev1 (fun u' hc' τ' h2 => ⟨fun _ => ?_, fun h => h rfl⟩) (fun hno => absurd ⟨u, hc⟩ hno)
      rw [cTake_u hc hc'] at h2
      exact beg u 0 0 σ' τ' hc.1 hc.2.2.1 hc.2.2.2 (fun h => absurd rfl h) h1 h2
    · exact t_beginTake hI hy hev1 (fun u' hc' => absurd ⟨u', hc'⟩ hno) (fun _ => ⟨fun _ => same, fun h => h rfl⟩)
  | 3, _ =>
    refine ⟨in1, in2, fun g => ?_, fun g => ?_⟩
    · refine s_endPut hI hx (fun u d a hc hp ha σ' h1 => ⟨in1, in2, fun _ => ?_, fun g2 => absurd g g2⟩) (fun hno => ⟨in1, in2, fun _ => ?_, fun g2 => absurd g g2⟩)
      · refine t_endPut hI hy hev1 (fun u' d' a' hc' hp' ha' τ' h2 => ⟨fun _ => ?_, fun h => h rfl⟩) (fun hno => absurd ⟨u, d, hc, hp⟩ hno)
        rw [(cOpen_u hwf hc hc').2, ha', ← ha] at h2
        exact fin d a 1 σ' τ' hc.2.2.1 (open0 hc) (Or.inl rfl) h1 h2
      · exact t_endPut hI hy hev1 (fun u' d' a' hc' hp' => absurd ⟨u', d', hc', hp'⟩ hno) (fun _ => ⟨fun _ => same, fun h => h rfl⟩)
    · refine s_endPut hI hx (fun u d a hc hp ha σ' h1 => ⟨in1, in2, fun g2 => absurd g2 g, fun _ => ?_⟩) (fun hno => ⟨in1, in2, fun g2 => absurd g2 g, fun _ => ?_⟩)
      · refine t_endPut hI hy hev1 (fun u' d' a' hc' hp' ha' τ' h2 => ⟨fun _ => ?_, fun h => h rfl⟩) (fun hno => absurd ⟨u, d, hc, hp⟩ hno)
        rw [(cOpen_u hwf hc hc').2, ha', ← ha] at h2
        exact fin d a 1 σ' τ' hc.2.2.1 (open0 hc) (Or.inl rfl) h1 h2
      · exact t_endPut hI hy hev1 (fun u' d' a' hc' hp' => absurd ⟨u', d', hc', hp'⟩ hno) (fun _ => ⟨fun _ => same, fun h => h rfl⟩)
  | 4, _ =>
    refine ⟨in1, in2, s_endTake hI hx (fun u d hc hp hv σ' h1 => ⟨in1, in2, ?_⟩) (fun hno => ⟨in1, in2, ?_⟩)⟩
    · refine t_endTake hI hy hev1 (fun u' d' hc' hp' hv' τ' h2 => ⟨fun _ => ?_, fun h => h rfl⟩) (fun hno => absurd ⟨u, d, hc, hp, hv⟩ hno)
      rw [(cOpen_u hwf hc hc').2] at h2
      exact fin d _ 1 σ' τ' hc.2.2.1 (open0 hc) (Or.inl rfl) h1 h2
    · exact t_endTake hI hy hev1 (fun u' d' hc' hp' hv' => absurd ⟨u', d', hc', hp', hv'⟩ hno) (fun _ => ⟨fun _ => same, fun h => h rfl⟩)
  | 5, _ =>
    refine ⟨in1, ?_⟩
    by_cases hop : ∃ u d, cOpen r (xs (nI i + (1 : Int32)).toNatClampNeg) u d
    · obtain ⟨u, d, hc⟩ := hop
      refine s_giveUp hI hx (fun u1 d1 hc1 σ' h1 => ⟨in1, ?_⟩) (fun hno => absurd ⟨u, d, hc⟩ hno)
      refine t_giveUp hI hy hev1 (fun u' d' hc' τ' h2 => ⟨fun _ => ?_, fun h => h rfl⟩) (fun hno => absurd ⟨u, d, hc⟩ hno)
      rw [(cOpen_u hwf hc hc').2] at h2
      rw [(cOpen_u hwf hc hc1).2] at h1
      exact fin d 0 2 σ' τ' hc.2.2.1 (open0 hc) (Or.inr rfl) h1 h2
    · refine s_giveUp hI hx (fun u1 d1 hc1 => absurd ⟨u1, d1, hc1⟩ hop) (fun _ => ⟨in1, ?_⟩)
      exact t_giveUp hI hy hev1 (fun u' d' hc' => absurd ⟨u', d', hc'⟩ hop) (fun _ => ⟨fun _ => same, fun h => h rfl⟩)
  | 6, _ => exact ⟨fun _ => same, fun h => h (by rw [hx.2.2.1, hy.2.2.1])⟩
  | 7, _ => exact ⟨fun _ => same, fun h => h (by rw [hx.1.2.1, hy.1.1.2.2])⟩
  | 8, _ =>
    have e1 : σ.1 7 ≤ 0 ↔ rE r = [] := by
      rw [hx.2.1.1]
      have : nI (rE r).length ≤ nI 0 ↔ (rE r).length ≤ 0 := nI_leI (by omega) (by omega)
      exact this.trans ⟨fun h => List.length_eq_zero_iff.mp (by omega), fun h => by rw [h]; simp⟩
    have e2 : lg_cmp (τ.2.2 2 0) (0 : Int64) ≤ 0 ↔ rE r = [] := by
      rw [lgcle, hy.2.1.1, lN_zero (by omega)]
      exact List.length_eq_zero_iff
    show (σ.1 7 ≤ 0 → (lg_cmp (τ.2.2 2 0) (0 : Int64) ≤ 0 → _) ∧ (¬ lg_cmp (τ.2.2 2 0) (0 : Int64) ≤ 0 → _)) ∧ (¬ σ.1 7 ≤ 0 → (lg_cmp (τ.2.2 2 0) (0 : Int64) ≤ 0 → _) ∧ (¬ lg_cmp (τ.2.2 2 0) (0 : Int64) ≤ 0 → _))
    rw [e1, e2]
    exact ⟨fun g => ⟨fun _ => ⟨fun _ => same, fun h => h rfl⟩, fun g2 => absurd g g2⟩, fun g => ⟨fun g2 => absurd g2 g, fun _ => ⟨fun _ => same, fun h => h rfl⟩⟩⟩
  | 9, _ => exact ⟨fun _ => same, fun h => h (by rw [hx.2.2.2, hy.2.2.2])⟩
  | 10, _ => exact ⟨fun _ => same, fun h => h (by rw [lgc0, hx.2.1.1, hy.2.1.1, nI_l (by omega)])⟩
  | 11, _ => exact ⟨fun _ => same, fun h => h (by rw [hx.2.1.2.1.2.2.2.1, hy.2.1.2.1])⟩
  | 12, _ => exact s_fewest hx.2.1 (t_fewest hy.2.1 hrok hrl ⟨fun _ => same, fun h => h rfl⟩)
  | 13, _ => exact s_most hx.2.1 (t_most hy.2.1 hrok hrl ⟨fun _ => same, fun h => h rfl⟩)
  | 14, _ =>
    refine ⟨in1, in2, s_mayHold hx.2.1 (fun h1 => ⟨in1, in2, ?_⟩) (fun h1 => ⟨in1, in2, ?_⟩)⟩
    · exact t_mayHold hy.2.1 hrok hrl (fun _ => ⟨fun _ => same, fun h => h rfl⟩) (fun h2 => absurd h1 h2)
    · exact t_mayHold hy.2.1 hrok hrl (fun h2 => absurd h2 h1) (fun _ => ⟨fun _ => same, fun h => h rfl⟩)
  | 15, _ =>
    refine ⟨in1, s_certain hwf hx.1 hx.2.1 h680 hcnt (fun h1 => ⟨in1, ?_⟩) (fun h1 => ⟨in1, ?_⟩)⟩
    · exact t_certain hwf hy.1 hy.2.1 h680 hcnt (fun _ => ⟨fun _ => same, fun h => h rfl⟩) (fun h2 => absurd h1 h2)
    · exact t_certain hwf hy.1 hy.2.1 h680 hcnt (fun h2 => absurd h2 h1) (fun _ => ⟨fun _ => same, fun h => h rfl⟩)
  | 16, _ =>
    refine ⟨in1, s_answers hwf hx.1 hx.2.1 rE_lt (fun u d n hc hn e => ⟨in1, ?_⟩) (fun h1 => ⟨in1, ?_⟩)⟩
    · refine t_answers hwf hy.1 hy.2.1 rE_lt (fun u' d' n' hc' hn' e' => ⟨fun _ => same, fun h => h ?_⟩) (fun h2 => absurd ⟨u, d, hc⟩ h2)
      rw [(cOpen_u hwf hc hc').1, e, nI_eq (by omega) (by omega)] at e'
      rw [e']
    · exact t_answers hwf hy.1 hy.2.1 rE_lt (fun u' d' n' hc' => absurd ⟨u', d', hc'⟩ h1) (fun _ => ⟨fun _ => same, fun h => h rfl⟩)
  | n + 17, _ => exact same
theorem lw_pure (hL : L ≤ 1538) (hI : rI r 0) (hx : xI r 0 0 σ) (hy : yI r 0 0 τ) : zLP (b_L_law L xs) ((2 : Int32), σ, τ) := by
  refine zLP_rule (fun q => ∃ (i : Nat) (r : zR) (ev : Nat) (br : Int32), q.1 = nI i ∧ i ≤ L + 3 ∧ ev ≤ i ∧ rI r ev ∧ xI r ev br q.2.1 ∧ yI r ev br q.2.2) (fun q => L + 3 - q.1.toNatClampNeg) ?_ _ ⟨2, r, 0, 0, rfl, by omega, by omega, hI, hx, hy⟩
  rintro ⟨y3, σ1, τ1⟩ ⟨i, r1, ev, br, hy3, hi, hev, hI1, hx1, hy1⟩ R hR
  dsimp only at hy3 hx1 hy1
  subst hy3
  dsimp only [b_L_law]
  intro hc
  have hi3 : i + 3 ≤ L := by
    have h1 : ¬ (nI L - nI 3) < nI i := hc
    have h2 := pk_sub_toInt (a := L) (b := 3) (by omega) (by omega)
    have h3 : (nI i).toInt = (i : Int) := nI_toInt (by omega)
    have h4 : ¬ (nI L - nI 3).toInt < (nI i).toInt := fun h => h1 (Int32.lt_iff_toInt_lt.mpr h)
    rw [h2, h3] at h4
    omega
  refine ⟨vp_in_nI (by omega) (by omega), fun k _ j hj _ => ?_⟩
  refine lb_all hi3 hL hev hI1 hx1 hy1 (fun r' ev' br' σ' τ' g1 g2 g3 g4 => ?_) j hj
  have e3 : nI i + 3 = nI (i + 3) := nI_add i 3
  rw [e3]
  refine hR _ ⟨i + 3, r', ev', br', rfl, by omega, by omega, g2, g3, g4⟩ ?_
  dsimp only
  rw [nI_clamp (by omega), nI_clamp (by omega)]
  omega
end LP
