/-! The program: its calls that record events -/
def cPut (r : zR) (x1 x2 : Int32) (u v : Nat) : Prop := u < 3 ∧ v < 16 ∧ x1 = nI u ∧ x2 = nI v ∧ rO r u = -1 ∧ rN r < 8 ∧ (rK r = 2 → u = 0)
theorem s_beginPut {r : zR} {ev : Nat} {br x1 x2 : Int32} {σ : zS} {post : Int32 → zS → Prop} (hI : rI r ev) (hx : xI r ev br σ) (hyes : ∀ u v, cPut r x1 x2 u v → ∀ σ', xI (rBeg r ev (nI u) 1 (nI v)) (ev + 1) (rBr br (rBeg r ev (nI u) 1 (nI v)) (ev + 1)) σ' → post 1 σ') (hno : (¬ ∃ u v, cPut r x1 x2 u v) → post 0 σ) : j_X5_beginPut x1 x2 σ post := by
  obtain ⟨hr, hf, h5, h6⟩ := hx
  have hwf := hI.1
  have hN := hwf.1
  unfold j_X5_beginPut
  refine s_mayBegin hwf hr (fun u hu hx1 ho hn => ⟨fun h => absurd h (by decide), fun _ => ?_⟩) (fun g => ⟨fun _ => hno (fun ⟨u, v, k1, k2, k3, k4, k5, k6, k7⟩ => g ⟨u, k1, k3, k5, k6⟩), fun h => absurd rfl h⟩)
  refine s_isValue (fun v hv hx2 => ⟨fun h => absurd h (by decide), fun _ => ?_⟩) (fun g => ⟨fun _ => hno (fun ⟨w, v, k1, k2, k3, k4, k5, k6, k7⟩ => g ⟨v, k2, k4⟩), fun h => absurd rfl h⟩)
  subst hx1
  subst hx2
  have h0u : nI u = 0 ↔ u = 0 := nI_eq (b := 0) (by omega) (by omega)
  have go : (rK r = 2 → u = 0) → (vp_in (σ.1 2) 8 ∧ j_X0_startPut ((σ.1 2).toNatClampNeg) (nI u) (nI v) (σ.1 3) σ (fun σ7 => j_X5_openNextCall (nI u) σ7 (fun σ8 => j_X5_review σ8 (fun σ9 => post (1 : Int32) σ9)))) := by
    intro hk
    have hc : cPut r (nI u) (nI v) u v := ⟨hu, hv, rfl, rfl, ho, hn, hk⟩
    rw [hr.2.1, nI_clamp (by omega)]
    refine ⟨vp_in_nI hn (by omega), ?_⟩
    unfold j_X0_startPut j_X5_openNextCall
    refine znm_i (znm_i (znm_i (znm_i ⟨vp_in_nI hu (by omega), znm_i (znm_i (znm_i ?_))⟩)))
    have hI' := rI_beg (p := 1) hI hn hu ho (fun _ => hv)
    have h2 := hr.2.1
    refine s_review hI'.1 (xRec_beg hI hr hu hn ?_ ?_ ?_ ?_ ?_ ?_ ?_ ?_ (fun _ => ⟨hv, ?_⟩) ?_ ?_ ?_) ?_ ?_ (fun σ' h => hyes u v hc σ' h)
    · simp [zI, zA, zF, va_up]
    · simp [zI, zA, zF, va_up]
    · simp [zI, zA, zF, va_up, h2, nI_1]
    · simp [zI, zA, zF, va_up]
    · simp [zI, zA, zF, va_up]
    · intro c; simp [zI, zA, zF, va_up, upd]
    · intro c; simp [zI, zA, zF, va_up, upd]
    · intro c hc2; simp [zI, zA, zF, va_up, upd, hc2]
    · simp [zI, zA, zF, va_up, upd]
    · intro c; simp [zI, zA, zF, va_up, upd]
    · intro c; simp [zI, zA, zF, va_up, upd]
    · intro w; simp [zI, zA, zF, va_up, upd, h2, nI_clamp (show u < 2 ^ 31 by omega)]
    · simp [zI, zA, zF, va_up, h5, nI_1]
    · simp [zI, zA, zF, va_up, h6]
  unfold j_X4_letsPut
  rw [hr.1.1, h0u]
  refine ⟨fun g => ⟨fun g2 => ⟨fun h => absurd h (by decide), fun _ => go (fun _ => g2)⟩, fun g2 => ⟨fun _ => hno (fun ⟨w, v', k1, k2, k3, k4, k5, k6, k7⟩ => ?_), fun h => absurd rfl h⟩⟩, fun g => ⟨fun h => absurd h (by decide), fun _ => go (fun h => absurd h g)⟩⟩
  rw [nI_eq (by omega) (by omega)] at k3
  exact g2 (k3.trans (k7 g))
def cTake (r : zR) (x1 : Int32) (u : Nat) : Prop := u < 3 ∧ x1 = nI u ∧ rO r u = -1 ∧ rN r < 8
theorem s_beginTake {r : zR} {ev : Nat} {br x1 : Int32} {σ : zS} {post : Int32 → zS → Prop} (hI : rI r ev) (hx : xI r ev br σ) (hyes : ∀ u, cTake r x1 u → ∀ σ', xI (rBeg r ev (nI u) 0 (nI 0)) (ev + 1) (rBr br (rBeg r ev (nI u) 0 (nI 0)) (ev + 1)) σ' → post 1 σ') (hno : (¬ ∃ u, cTake r x1 u) → post 0 σ) : j_X5_beginTake x1 σ post := by
  obtain ⟨hr, hf, h5, h6⟩ := hx
  have hwf := hI.1
  have hN := hwf.1
  unfold j_X5_beginTake
  refine s_mayBegin hwf hr (fun u hu hx1 ho hn => ⟨fun h => absurd h (by decide), fun _ => ?_⟩) (fun g => ⟨fun _ => hno g, fun h => absurd rfl h⟩)
  subst hx1
  have hc : cTake r (nI u) u := ⟨hu, rfl, ho, hn⟩
  rw [hr.2.1, nI_clamp (by omega)]
  refine ⟨vp_in_nI hn (by omega), ?_⟩
  unfold j_X0_startTake j_X5_openNextCall
  refine znm_i (znm_i (znm_i ⟨vp_in_nI hu (by omega), znm_i (znm_i (znm_i ?_))⟩))
  have hI' := rI_beg (v := 0) (p := 0) hI hn hu ho (fun h => absurd rfl h)
  have h2 := hr.2.1
  refine s_review hI'.1 (xRec_beg (v := 0) hI hr hu hn ?_ ?_ ?_ ?_ ?_ ?_ ?_ ?_ (fun h => absurd rfl h) ?_ ?_ ?_) ?_ ?_ (fun σ' h => hyes u hc σ' h)
  · simp [zI, zA, zF, va_up]
  · simp [zI, zA, zF, va_up]
  · simp [zI, zA, zF, va_up, h2, nI_1]
  · simp [zI, zA, zF, va_up]
  · simp [zI, zA, zF, va_up]
  · intro c; simp [zI, zA, zF, va_up, upd]
  · intro c; simp [zI, zA, zF, va_up, upd]
  · intro c hc2; simp [zI, zA, zF, va_up, upd]
  · intro c; simp [zI, zA, zF, va_up, upd]
  · intro c; simp [zI, zA, zF, va_up, upd]
  · intro w; simp [zI, zA, zF, va_up, upd, h2, nI_clamp (show u < 2 ^ 31 by omega)]
  · simp [zI, zA, zF, va_up, h5, nI_1]
  · simp [zI, zA, zF, va_up, h6]
theorem s_endOpen {r : zR} {ev u d : Nat} {br a : Int32} {σ : zS} {post : zS → Prop} (hI : rI r ev) (hx : xI r ev br σ) (hu : u < 3) (hd : d < rN r) (hdu : rO r u = nI d) (hyes : ∀ σ', xI (rFin r ev d a 1) (ev + 1) (rBr br (rFin r ev d a 1) (ev + 1)) σ' → post σ') : j_X5_endOpenCall (nI u) a σ (fun σ5 => j_X5_review σ5 post) := by
  obtain ⟨hr, hf, h5, h6⟩ := hx
  have hN := hI.1.1
  have ho := hr.2.2.2.2.2 u hu
  have hO := (rO_inv hI.1 hd hdu).2
  unfold j_X5_endOpenCall j_X5_closeOpenCall
  refine ⟨vp_in_nI hu (by omega), znm_i ?_⟩
  rw [nI_clamp (show u < 2 ^ 31 by omega), ho, hdu, nI_clamp (show d < 2 ^ 31 by omega)]
  refine ⟨vp_in_nI (show d < 8 by omega) (by omega), znm_i (znm_i ⟨vp_in_nI hu (by omega), znm_i (znm_i ?_)⟩)⟩
  refine s_review (rI_fin hI hd hO (Or.inl rfl)).1 (xRec_fin hI hr hu hd hdu (Or.inl rfl) ?_ ?_ ?_ (fun i hi => ?_) (fun i hi => ?_) (fun k k1 k2 => ?_) (fun c hc => ?_) (fun _ => ?_) (fun w => ?_)) ?_ ?_ (fun σ' h => hyes σ' h)
  · simp [zI, zA, zF, va_up]
  · simp [zI, zA, zF, va_up]
  · simp [zI, zA, zF, va_up]
  · have e : (zI (zA (zI (zA σ 9 d a) 3 ((zA σ 9 d a).1 3 ||| (1 : Int32) <<< (nI d &&& 31))) 0 u (-1)) 5 ((zA (zI (zA σ 9 d a) 3 ((zA σ 9 d a).1 3 ||| (1 : Int32) <<< (nI d &&& 31))) 0 u (-1)).1 5 + 1)).1 3 = (σ.1 3 ||| (1 : Int32) <<< (nI d &&& 31)) := by simp [zI, zA, zF, va_up]
    rw [e, mB_set _ (by omega) hi, Bool.or_eq_true, decide_eq_true_iff]
    exact ⟨fun h => h.elim Or.inl (fun h => Or.inr ⟨rfl, h⟩), fun h => h.elim Or.inl (fun h => Or.inr h.2)⟩
  · have e : (zI (zA (zI (zA σ 9 d a) 3 ((zA σ 9 d a).1 3 ||| (1 : Int32) <<< (nI d &&& 31))) 0 u (-1)) 5 ((zA (zI (zA σ 9 d a) 3 ((zA σ 9 d a).1 3 ||| (1 : Int32) <<< (nI d &&& 31))) 0 u (-1)).1 5 + 1)).1 4 = σ.1 4 := by simp [zI, zA, zF, va_up]
    rw [e]
    exact ⟨Or.inl, fun h => h.elim id (fun h => absurd h.1 (by decide))⟩
  · have a1 : ¬ k = 9 := by omega
    have a2 : ¬ k = 0 := by omega
    simp [zI, zA, zF, va_up, a1, a2]
  · simp [zI, zA, zF, va_up, upd, hc]
  · simp [zI, zA, zF, va_up, upd]
  · simp [zI, zA, zF, va_up, upd, nI_clamp (show u < 2 ^ 31 by omega)]
  · simp [zI, zA, zF, va_up, h5, nI_1]
  · simp [zI, zA, zF, va_up, h6]
/-- an unfinished put, an unfinished take, any unfinished call of a worker -/
def cOpen (r : zR) (x1 : Int32) (u d : Nat) : Prop := u < 3 ∧ x1 = nI u ∧ d < rN r ∧ rO r u = nI d
theorem cOpen_u {r : zR} (hwf : rWF r) {x1 : Int32} {u d u' d' : Nat} (h : cOpen r x1 u d) (h' : cOpen r x1 u' d') : u' = u ∧ d' = d := by
  obtain ⟨a1, a2, a3, a4⟩ := h
  obtain ⟨b1, b2, b3, b4⟩ := h'
  have hN := hwf.1
  rw [a2, nI_eq (by omega) (by omega)] at b2
  subst b2
  rw [a4, nI_eq (by omega) (by omega)] at b4
  exact ⟨rfl, b4.symm⟩
theorem s_endPut {r : zR} {ev : Nat} {br x1 x2 : Int32} {σ : zS} {post : Int32 → zS → Prop} (hI : rI r ev) (hx : xI r ev br σ) (hyes : ∀ u d a, cOpen r x1 u d → rP r d ≠ 0 → a = (if x2 = 0 then (0 : Int32) else 1) → ∀ σ', xI (rFin r ev d a 1) (ev + 1) (rBr br (rFin r ev d a 1) (ev + 1)) σ' → post 1 σ') (hno : (¬ ∃ u d, cOpen r x1 u d ∧ rP r d ≠ 0) → post 0 σ) : j_X5_endPut x1 x2 σ post := by
  have hr := hx.1
  have hwf := hI.1
  have hN := hwf.1
  unfold j_X5_endPut
  refine s_hasOpen hwf hr (fun u d hu hx1 hd hdu _ _ => ⟨fun h => absurd h (by decide), fun _ => ?_⟩) (fun g => ⟨fun _ => hno (fun ⟨u, d, k, _⟩ => g ⟨u, d, k⟩), fun h => absurd rfl h⟩)
  subst hx1
  have hc : cOpen r (nI u) u d := ⟨hu, rfl, hd, hdu⟩
  refine ⟨vp_in_nI hu (by omega), ?_⟩
  rw [nI_clamp (show u < 2 ^ 31 by omega), hr.2.2.2.2.2 u hu, hdu, nI_clamp (show d < 2 ^ 31 by omega), (hr.1.2.2 d hd).2.1]
  refine ⟨vp_in_nI (show d < 8 by omega) (by omega), fun g => hno (fun ⟨u', d', k1, k2⟩ => ?_), fun g => ⟨fun g2 => s_endOpen hI hx hu hd hdu (fun σ' h => hyes u d _ hc g (by rw [if_pos g2]) σ' h), fun g2 => s_endOpen hI hx hu hd hdu (fun σ' h => hyes u d _ hc g (by rw [if_neg g2]) σ' h)⟩⟩
  rw [(cOpen_u hwf hc k1).2] at k2
  exact k2 g
theorem s_endTake {r : zR} {ev : Nat} {br x1 x2 : Int32} {σ : zS} {post : Int32 → zS → Prop} (hI : rI r ev) (hx : xI r ev br σ) (hyes : ∀ u d, cOpen r x1 u d → rP r d = 0 → (x2 = -1 ∨ ∃ v, v < 16 ∧ x2 = nI v) → ∀ σ', xI (rFin r ev d x2 1) (ev + 1) (rBr br (rFin r ev d x2 1) (ev + 1)) σ' → post 1 σ') (hno : (¬ ∃ u d, cOpen r x1 u d ∧ rP r d = 0 ∧ (x2 = -1 ∨ ∃ v, v < 16 ∧ x2 = nI v)) → post 0 σ) : j_X5_endTake x1 x2 σ post := by
  have hr := hx.1
  have hwf := hI.1
  have hN := hwf.1
  unfold j_X5_endTake
  refine s_hasOpen hwf hr (fun u d hu hx1 hd hdu _ _ => ⟨fun h => absurd h (by decide), fun _ => ?_⟩) (fun g => ⟨fun _ => hno (fun ⟨u, d, k, _⟩ => g ⟨u, d, k⟩), fun h => absurd rfl h⟩)
  subst hx1
  have hc : cOpen r (nI u) u d := ⟨hu, rfl, hd, hdu⟩
  refine ⟨vp_in_nI hu (by omega), ?_⟩
  rw [nI_clamp (show u < 2 ^ 31 by omega), hr.2.2.2.2.2 u hu, hdu, nI_clamp (show d < 2 ^ 31 by omega), (hr.1.2.2 d hd).2.1]
  refine ⟨vp_in_nI (show d < 8 by omega) (by omega), fun g => ⟨fun g2 => s_endOpen hI hx hu hd hdu (fun σ' h => hyes u d hc g (Or.inl g2) σ' h), fun g2 => ?_⟩, fun g => hno (fun ⟨u', d', k1, k2, _⟩ => ?_)⟩
  · refine s_isValue (fun v hv hx2 => ⟨fun h => absurd h (by decide), fun _ => s_endOpen hI hx hu hd hdu (fun σ' h => hyes u d hc g (Or.inr ⟨v, hv, hx2⟩) σ' h)⟩) (fun g3 => ⟨fun _ => hno (fun ⟨u', d', k1, k2, k3⟩ => k3.elim g2 g3), fun h => absurd rfl h⟩)
  · rw [(cOpen_u hwf hc k1).2] at k2
    exact g k2
theorem s_giveUp {r : zR} {ev : Nat} {br x1 : Int32} {σ : zS} {post : Int32 → zS → Prop} (hI : rI r ev) (hx : xI r ev br σ) (hyes : ∀ u d, cOpen r x1 u d → ∀ σ', xI (rFin r ev d 0 2) (ev + 1) (rBr br (rFin r ev d 0 2) (ev + 1)) σ' → post 1 σ') (hno : (¬ ∃ u d, cOpen r x1 u d) → post 0 σ) : j_X5_giveUp x1 σ post := by
  obtain ⟨hr, hf, h5, h6⟩ := hx
  have hwf := hI.1
  have hN := hwf.1
  unfold j_X5_giveUp
  refine s_hasOpen hwf hr (fun u d hu hx1 hd hdu _ hO => ⟨fun h => absurd h (by decide), fun _ => ?_⟩) (fun g => ⟨fun _ => hno (fun ⟨u, d, k⟩ => g ⟨u, d, k⟩), fun h => absurd rfl h⟩)
  subst hx1
  have hc : cOpen r (nI u) u d := ⟨hu, rfl, hd, hdu⟩
  refine ⟨vp_in_nI hu (by omega), znm_i ?_⟩
  rw [nI_clamp (show u < 2 ^ 31 by omega), hr.2.2.2.2.2 u hu, hdu]
  unfold j_X5_closeOpenCall
  refine ⟨vp_in_nI hu (by omega), znm_i (znm_i ?_)⟩
  refine s_review (rI_fin (a := 0) hI hd hO (Or.inr rfl)).1 (xRec_fin hI hr hu hd hdu (Or.inr rfl) ?_ ?_ ?_ (fun i hi => ?_) (fun i hi => ?_) (fun k k1 k2 => ?_) (fun c hc => ?_) (fun h => absurd h (by decide)) (fun w => ?_)) ?_ ?_ (fun σ' h => hyes u d hc σ' h)
  · simp [zI, zA, zF, va_up]
  · simp [zI, zA, zF, va_up]
  · simp [zI, zA, zF, va_up]
  · have e : (zI (zA (zI σ 4 (σ.1 4 ||| (1 : Int32) <<< (nI d &&& 31))) 0 (nI u).toNatClampNeg (-1)) 5 ((zA (zI σ 4 (σ.1 4 ||| (1 : Int32) <<< (nI d &&& 31))) 0 (nI u).toNatClampNeg (-1)).1 5 + 1)).1 3 = σ.1 3 := by simp [zI, zA, zF, va_up]
    rw [e]
    exact ⟨Or.inl, fun h => h.elim id (fun h => absurd h.1 (by decide))⟩
  · have e : (zI (zA (zI σ 4 (σ.1 4 ||| (1 : Int32) <<< (nI d &&& 31))) 0 (nI u).toNatClampNeg (-1)) 5 ((zA (zI σ 4 (σ.1 4 ||| (1 : Int32) <<< (nI d &&& 31))) 0 (nI u).toNatClampNeg (-1)).1 5 + 1)).1 4 = (σ.1 4 ||| (1 : Int32) <<< (nI d &&& 31)) := by simp [zI, zA, zF, va_up]
    rw [e, mB_set _ (by omega) hi, Bool.or_eq_true, decide_eq_true_iff]
    exact ⟨fun h => h.elim Or.inl (fun h => Or.inr ⟨rfl, h⟩), fun h => h.elim Or.inl (fun h => Or.inr h.2)⟩
  · have a2 : ¬ k = 0 := by omega
    simp [zI, zA, zF, va_up, a2]
  · simp [zI, zA, zF, va_up, upd]
  · simp [zI, zA, zF, va_up, upd, nI_clamp (show u < 2 ^ 31 by omega)]
  · simp [zI, zA, zF, va_up, h5, nI_1]
  · simp [zI, zA, zF, va_up, h6]
/-- a record's beginning: kind and capacity as they are taken -/
def cK (x : Int32) : Int32 := if x = 1 ∨ x = 2 then x else 0
def cC (x : Int32) : Nat := if x < 1 then 1 else if 8 < x then 8 else x.toNatClampNeg
theorem cC_ok (x : Int32) : (1 ≤ cC x ∧ cC x ≤ 8) ∧ (if (1 : Int32) < (if (8 : Int32) < x then (8 : Int32) else x) then (if (8 : Int32) < x then (8 : Int32) else x) else (1 : Int32)) = nI (cC x) ∧ ((1 : Int32) ≤ x → x ≤ (8 : Int32) → x = nI (cC x)) ∧ ((1 : Int32) ≤ x → ¬ x ≤ (8 : Int32) → (8 : Int32) = nI (cC x)) ∧ (¬ (1 : Int32) ≤ x → (1 : Int32) = nI (cC x)) := by
  by_cases h1 : x < 1
  · have e : cC x = 1 := if_pos h1
    rw [e]
    have h8 : ¬ (8 : Int32) < x := by
      intro h
      have := Int32.lt_iff_toInt_lt.mp h
      have := Int32.lt_iff_toInt_lt.mp h1
      have a : (8 : Int32).toInt = 8 := by decide
      have b : (1 : Int32).toInt = 1 := by decide
      omega
    have hle : ¬ (1 : Int32) ≤ x := Int32.not_le.mpr h1
    refine ⟨⟨by omega, by omega⟩, ?_, fun h => absurd h hle, fun h => absurd h hle, fun _ => rfl⟩
    rw [if_neg h8, if_neg (fun h => hle (Int32.le_of_lt h))]
    rfl
  · have hle : (1 : Int32) ≤ x := Int32.not_lt.mp h1
    by_cases h8 : (8 : Int32) < x
    · have e : cC x = 8 := by unfold cC; rw [if_neg h1, if_pos h8]
      rw [e]
      refine ⟨⟨by omega, by omega⟩, ?_, fun _ h => absurd h8 (Int32.not_lt.mpr h), fun _ _ => rfl, fun h => absurd hle h⟩
      rw [if_pos h8, if_pos (by decide)]
      rfl
    · have e : cC x = x.toNatClampNeg := by unfold cC; rw [if_neg h1, if_neg h8]
      have h8' : x ≤ (8 : Int32) := Int32.not_lt.mp h8
      have hn0 : ¬ x < 0 := by
        intro h
        have := Int32.lt_iff_toInt_lt.mp h
        have h3 := Int32.le_iff_toInt_le.mp hle
        have a : (0 : Int32).toInt = 0 := by decide
        have b : (1 : Int32).toInt = 1 := by decide
        omega
      obtain ⟨j, hj, hx⟩ := nI_of2 (n := 8) (M := 8) (by decide) hn0 h8'
      have hjx : x.toNatClampNeg = j := by rw [hx]; exact nI_clamp (by omega)
      have hj1 : 1 ≤ j := by
        have : nI 1 ≤ nI j := by rw [← hx]; exact hle
        exact (nI_leI (by omega) (by omega)).mp this
      rw [e, hjx]
      refine ⟨⟨hj1, hj⟩, ?_, fun _ _ => hx, fun _ h => absurd h8' h, fun h => absurd hle h⟩
      rw [if_neg h8]
      by_cases g : (1 : Int32) < x
      · rw [if_pos g]; exact hx
      · rw [if_neg g]
        have g : x ≤ nI 1 := Int32.not_lt.mp g
        rw [hx, nI_leI (by omega) (by omega)] at g
        have : j = 1 := by omega
        rw [this]
        rfl
theorem s_startRecord {r : zR} {x1 x2 : Int32} {σ : zS} {post : zS → Prop} (hp : ∀ σ', xI (rNew r (cK x1) (cC x2)) 0 0 σ' → post σ') : j_X5_startRecord x1 x2 σ post := by
  obtain ⟨hc, hv, -⟩ := cC_ok x2
  have hI := rI_new (r := r) (k := cK x1) hc
  unfold j_X5_startRecord j_X4_setUp
  rw [hv]
  have go : ∀ k, k = cK x1 → (znm (zI σ 0 k) fun σ1 => znm (zI σ1 1 (nI (cC x2))) fun σ1 => znm (zF σ1 0 (zfl (σ1.2.1 0) 3 (-1 : Int32))) fun σ2 => znm (zI σ2 2 (0 : Int32)) fun σ3 => znm (zI σ3 3 (0 : Int32)) fun σ4 => znm (zI σ4 4 (0 : Int32)) fun σ5 => znm (zI σ5 5 (0 : Int32)) fun σ6 => znm (zI σ6 6 (0 : Int32)) fun σ7 => j_X5_review σ7 (fun σ8 => post σ8)) := by
    intro k hk
    subst hk
    refine znm_i (znm_i (znm_i (znm_i (znm_i (znm_i (znm_i (znm_i ?_)))))))
    refine s_review (r := rNew r (cK x1) (cC x2)) (ev := 0) (br := 0) hI.1 ⟨⟨?_, ?_, fun c hc => absurd hc (by show ¬ c < 0; omega)⟩, ?_, fun d hd => ?_, fun d hd => ?_, fun c hc => absurd hc (by show ¬ c < 0; omega), fun u hu => ?_⟩ ?_ ?_ (fun σ' h => hp σ' ?_)
    · simp [zI, zF, va_up]; rfl
    · simp [zI, zF, va_up]; rfl
    · simp [zI, zF, va_up]; rfl
    · simp only [zI, zF, va_up]
      simp [b_0]
      intro h
      exact absurd h (by show ¬ d < 0; omega)
    · simp only [zI, zF, va_up]
      simp [b_0]
      intro h
      exact absurd h (by show ¬ d < 0; omega)
    · simp [zI, zF, va_up, zfl, hu]; rfl
    · simp [zI, zF, va_up]; rfl
    · simp [zI, zF, va_up]
    · have : rBr 0 (rNew r (cK x1) (cC x2)) 0 = 0 := rif_f (fun h => rE_new h.2)
      rw [this] at h
      exact h
  refine ⟨fun g => go x1 ?_, fun g => ⟨fun g2 => go x1 ?_, fun g2 => go 0 ?_⟩⟩
  · unfold cK; rw [if_pos (Or.inl g)]
  · unfold cK; rw [if_pos (Or.inr g2)]
  · unfold cK; rw [if_neg (fun h => h.elim g g2)]
