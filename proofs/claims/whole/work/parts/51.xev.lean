/-! The program: events -/
noncomputable def rBr (br : Int32) (r : zR) (ev : Nat) : Int32 := rif (br = 0 ∧ rE r = []) (nI ev) br
def xI (r : zR) (ev : Nat) (br : Int32) (σ : zS) : Prop := xRec r σ ∧ xFnd r (rE r) σ ∧ σ.1 5 = nI ev ∧ σ.1 6 = br
theorem s_review {r : zR} {ev : Nat} {br : Int32} {σ : zS} {post : zS → Prop} (hwf : rWF r) (hr : xRec r σ) (h5 : σ.1 5 = nI ev) (h6 : σ.1 6 = br) (hp : ∀ σ', xI r ev (rBr br r ev) σ' → post σ') : j_X5_review σ post := by
  have h680 := rE_680 hwf
  unfold j_X5_review j_X1_clear j_X3_clear
  refine znm_i (znm_i (znm_i (znm_i (znm_i ?_))))
  obtain ⟨σ4, e4⟩ : ∃ z, z = zI (zF (zF (zI (zF σ 4 (zfl (σ.2.1 4) 1024 (0 : Int32))) 8 (0 : Int32)) 2 (zfl ((zI (zF σ 4 (zfl (σ.2.1 4) 1024 (0 : Int32))) 8 (0 : Int32)).2.1 2) 3 (0 : Int32))) 3 (zfl ((zF (zI (zF σ 4 (zfl (σ.2.1 4) 1024 (0 : Int32))) 8 (0 : Int32)) 2 (zfl ((zI (zF σ 4 (zfl (σ.2.1 4) 1024 (0 : Int32))) 8 (0 : Int32)).2.1 2) 3 (0 : Int32))).2.1 3) 3 (0 : Int32))) 7 (0 : Int32) := ⟨_, rfl⟩
  rw [← e4]
  have k4 : xKp σ σ4 := by
    rw [e4]
    refine ⟨fun k h7 h8 => ?_, fun k hk => ?_⟩
    · simp [zI, zF, va_up, h7, h8]
    · have a : ¬ k = 2 := by omega
      have b : ¬ k = 3 := by omega
      have c : ¬ k = 4 := by omega
      simp [zI, zF, va_up, a, b, c]
  have f4 : xFnd r [] σ4 := by
    rw [e4]
    refine ⟨by simp [zI, zF, va_up]; rfl, ⟨List.nodup_nil, fun w hw => absurd hw (List.not_mem_nil), by simp [rRows], by simp [zI, zF, va_up, rRows]; rfl, fun i v hv => by simp [rRows] at hv, fun _ => 0, fun p hp => ?_, fun p q _ _ h => absurd rfl h, fun i v hv => by simp [rRows] at hv⟩, fun u hu => ?_⟩
    · simp [zI, zF, va_up, zfl, hp]
      rfl
    · have a : rCnt r u [] = 0 := rfl
      have b : rBit r u [] = 0 := rfl
      rw [a, b]
      simp [zI, zF, va_up, zfl, hu]
      rfl
  have hrun := s_LL hwf 8 [] [] 0 σ4 (fun σ2 => (((σ2.1 6) = 0 → j_X5_fits σ2 (fun r4 σ3 => ((r4 = 0 → znm (zI σ3 6 (σ3.1 5)) fun σ5 => post σ5) ∧ (¬ r4 = 0 → post σ3)))) ∧ (¬ (σ2.1 6) = 0 → post σ2))) (by simp) (fun c hc => absurd hc (List.not_mem_nil)) (fun d hd => by rw [b_0]; simp) (hr.kp k4) f4 (fun c hc => absurd hc (List.not_mem_nil)) (by rw [rE_X hwf]; simpa using h680) (fun σ2 k2 _ f2 => ?_)
  · exact hrun
  · rw [List.nil_append, rE_X hwf] at f2
    have k24 := k4.tr k2
    have r2 := hr.kp k24
    have s5 : σ2.1 5 = nI ev := by rw [k24.1 5 (by omega) (by omega)]; exact h5
    have s6 : σ2.1 6 = br := by rw [k24.1 6 (by omega) (by omega)]; exact h6
    have hle : σ2.1 7 ≤ 0 ↔ rE r = [] := by
      rw [f2.1]
      have : nI (rE r).length ≤ nI 0 ↔ (rE r).length ≤ 0 := nI_leI (by omega) (by omega)
      refine this.trans ⟨fun h => List.length_eq_zero_iff.mp (by omega), fun h => by rw [h]; simp⟩
    rw [s6]
    refine ⟨fun g => ?_, fun g => ?_⟩
    · unfold j_X5_fits
      rw [hle]
      refine ⟨fun g2 => ⟨fun _ => znm_i ?_, fun h => absurd rfl h⟩, fun g2 => ⟨fun h => absurd h (by decide), fun _ => ?_⟩⟩
      · refine hp _ ⟨?_, ?_, ?_, ?_⟩
        · obtain ⟨⟨q1, q2, q3⟩, q4, q5, q6, q7, q8⟩ := r2
          exact ⟨⟨by simp [zI, va_up]; exact q1, by simp [zI, va_up]; exact q2, q3⟩, by simp [zI, va_up]; exact q4, by simp [zI, va_up]; exact q5, by simp [zI, va_up]; exact q6, q7, q8⟩
        · obtain ⟨q1, q2, q3⟩ := f2
          exact ⟨by simp [zI, va_up]; exact q1, q2.eq (by simp [zI, va_up]) rfl rfl, q3⟩
        · simp [zI, va_up]; exact s5
        · have : rBr br r ev = nI ev := rif_t ⟨g, g2⟩
          rw [this]
          simp [zI, va_up]; exact s5
      · have : rBr br r ev = br := rif_f (fun h => g2 h.2)
        exact hp σ2 ⟨r2, f2, s5, by rw [this]; exact s6⟩
    · have : rBr br r ev = br := rif_f (fun h => g h.1)
      exact hp σ2 ⟨r2, f2, s5, by rw [this]; exact s6⟩
theorem s_isWorker {x : Int32} {post : Int32 → Prop} (h1 : ∀ u, u < 3 → x = nI u → post 1) (h0 : (¬ ∃ u, u < 3 ∧ x = nI u) → post 0) : j_X5_isWorker x post := by
  unfold j_X5_isWorker
  refine ⟨fun g => h0 ?_, fun g => ⟨fun g2 => h0 ?_, fun g2 => ?_⟩⟩
  · rintro ⟨u, hu, rfl⟩
    exact nI_pos (by omega) g
  · rintro ⟨u, hu, rfl⟩
    have : (3 : Int32) ≤ nI u ↔ 3 ≤ u := nI_leI (a := 3) (by omega) (by omega)
    rw [this] at g2
    omega
  · rcases pk_ix x (n := 3) (by omega) with h | h | ⟨u, hu, hx⟩
    · exact absurd h g
    · exact absurd h g2
    · exact h1 u hu hx
theorem s_isValue {x : Int32} {post : Int32 → Prop} (h1 : ∀ u, u < 16 → x = nI u → post 1) (h0 : (¬ ∃ u, u < 16 ∧ x = nI u) → post 0) : j_X5_isValue x post := by
  unfold j_X5_isValue
  refine ⟨fun g => h0 ?_, fun g => ⟨fun g2 => h0 ?_, fun g2 => ?_⟩⟩
  · rintro ⟨u, hu, rfl⟩
    exact nI_pos (by omega) g
  · rintro ⟨u, hu, rfl⟩
    have : (16 : Int32) ≤ nI u ↔ 16 ≤ u := nI_leI (a := 16) (by omega) (by omega)
    rw [this] at g2
    omega
  · rcases pk_ix x (n := 16) (by omega) with h | h | ⟨u, hu, hx⟩
    · exact absurd h g
    · exact absurd h g2
    · exact h1 u hu hx
/-- the unfinished call, as a number or none -/
theorem rO_cases {r : zR} (hwf : rWF r) (u : Nat) : rO r u = -1 ∨ ∃ c, c < rN r ∧ rO r u = nI c ∧ rW r c = nI u ∧ rS r c = 0 := by
  rcases rOp_spec r (nI u) (rN r) with ⟨h, -⟩ | ⟨c, h1, h2, h3, h4⟩
  · exact Or.inl h
  · exact Or.inr ⟨c, h1, h2, h3, h4⟩
theorem s_hasOpen {r : zR} {x : Int32} {σ : zS} {post : Int32 → zS → Prop} (hwf : rWF r) (hr : xRec r σ) (h1 : ∀ u c, u < 3 → x = nI u → c < rN r → rO r u = nI c → rW r c = nI u → rS r c = 0 → post 1 σ) (h0 : (¬ ∃ u c, u < 3 ∧ x = nI u ∧ c < rN r ∧ rO r u = nI c) → post 0 σ) : j_X5_hasOpenCall x σ post := by
  have hN := hwf.1
  unfold j_X5_hasOpenCall
  refine s_isWorker (fun u hu hx => ⟨fun h => absurd h (by decide), fun _ => ?_⟩) (fun hno => ⟨fun _ => h0 (fun ⟨u, c, h1, h2, _⟩ => hno ⟨u, h1, h2⟩), fun h => absurd rfl h⟩)
  subst hx
  refine ⟨vp_in_nI hu (by omega), ?_⟩
  rw [nI_clamp (by omega), hr.2.2.2.2.2 u hu]
  rcases rO_cases hwf u with h | ⟨c, g1, g2, g3, g4⟩
  · refine ⟨fun _ => h0 ?_, fun g => absurd h g⟩
    rintro ⟨w, c, k1, k2, k3, k4⟩
    rw [nI_eq (by omega) (by omega)] at k2
    rw [← k2, h] at k4
    exact nI_m1 (by omega) k4.symm
  · refine ⟨fun g => ?_, fun _ => h1 u c hu rfl g1 g2 g3 g4⟩
    rw [g2] at g
    exact absurd g (nI_m1 (by omega))
theorem s_mayBegin {r : zR} {x : Int32} {σ : zS} {post : Int32 → zS → Prop} (hwf : rWF r) (hr : xRec r σ) (h1 : ∀ u, u < 3 → x = nI u → rO r u = -1 → rN r < 8 → post 1 σ) (h0 : (¬ ∃ u, u < 3 ∧ x = nI u ∧ rO r u = -1 ∧ rN r < 8) → post 0 σ) : j_X5_mayBegin x σ post := by
  have hN := hwf.1
  unfold j_X5_mayBegin
  refine s_isWorker (fun u hu hx => ⟨fun h => absurd h (by decide), fun _ => ?_⟩) (fun hno => ⟨fun _ => h0 (fun ⟨u, h1, h2, _⟩ => hno ⟨u, h1, h2⟩), fun h => absurd rfl h⟩)
  subst hx
  refine ⟨vp_in_nI hu (by omega), ?_⟩
  rw [nI_clamp (by omega), hr.2.2.2.2.2 u hu]
  have h8 : (8 : Int32) ≤ σ.1 2 ↔ 8 ≤ rN r := by rw [hr.2.1]; exact nI_leI (a := 8) (by omega) (by omega)
  rw [h8]
  refine ⟨fun g => ⟨fun g2 => h0 (fun ⟨w, _, _, _, k⟩ => by omega), fun g2 => h1 u hu rfl g (by omega)⟩, fun g => h0 (fun ⟨w, k1, k2, k3, _⟩ => ?_)⟩
  rw [nI_eq (by omega) (by omega)] at k2
  rw [← k2] at k3
  exact g k3
theorem xRec_beg {r : zR} {ev u v : Nat} {p : Int32} {σ σF : zS} (hI : rI r ev) (hr : xRec r σ) (hu : u < 3) (hn : rN r < 8)
    (e0 : σF.1 0 = σ.1 0) (e1 : σF.1 1 = σ.1 1) (e2 : σF.1 2 = nI (rN r + 1)) (e3 : σF.1 3 = σ.1 3) (e4 : σF.1 4 = σ.1 4) (a5 : ∀ c, σF.2.1 5 c = if c = rN r then nI u else σ.2.1 5 c) (a6 : ∀ c, σF.2.1 6 c = if c = rN r then p else σ.2.1 6 c) (a7 : ∀ c, c ≠ rN r → σF.2.1 7 c = σ.2.1 7 c) (b7 : p ≠ 0 → v < 16 ∧ σF.2.1 7 (rN r) = nI v) (a8 : ∀ c, σF.2.1 8 c = if c = rN r then σ.1 3 else σ.2.1 8 c) (a9 : ∀ c, σF.2.1 9 c = σ.2.1 9 c) (a0 : ∀ w, σF.2.1 0 w = if w = u then nI (rN r) else σ.2.1 0 w) : xRec (rBeg r ev (nI u) p (nI v)) σF := by
  obtain ⟨⟨h1, h2, h3⟩, h4, h5, h6, h7, h8⟩ := hr
  refine ⟨⟨by rw [e0]; exact h1, by rw [e1]; exact h2, fun c hc => ?_⟩, e2, fun d hd => ?_, fun d hd => ?_, fun c hc => ⟨fun d hd => ?_, fun hs => ?_⟩, fun w hw => ?_⟩
  · rw [rBeg_N] at hc
    rw [a5, a6, rBeg_W, rBeg_P, rBeg_V]
    by_cases e : c = rN r
    · simp only [if_pos e]
      refine ⟨trivial, trivial, fun hp => ?_⟩
      rw [e, (b7 hp).2, nI_clamp (by have := (b7 hp).1; omega)]
    · simp only [if_neg e]
      rw [a7 c e]
      exact h3 c (by omega)
  · rw [e3, h5 d hd, rBeg_N, rBeg_S]
    by_cases e : d = rN r
    · simp only [if_pos e]
      exact ⟨fun g => by omega, fun g => absurd g.2 (by decide)⟩
    · simp only [if_neg e]
      exact ⟨fun g => ⟨by omega, g.2⟩, fun g => ⟨by omega, g.2⟩⟩
  · rw [e4, h6 d hd, rBeg_N, rBeg_S]
    by_cases e : d = rN r
    · simp only [if_pos e]
      exact ⟨fun g => by omega, fun g => absurd g.2 (by decide)⟩
    · simp only [if_neg e]
      exact ⟨fun g => ⟨by omega, g.2⟩, fun g => ⟨by omega, g.2⟩⟩
  · rw [rBeg_N] at hc ⊢
    rw [a8, rBeg_S, rBeg_U, rBeg_F]
    by_cases e : c = rN r
    · rw [if_pos e, if_pos e, h5 d hd]
      by_cases ed : d = rN r
      · rw [if_pos ed]
        exact ⟨fun g => by omega, fun g => absurd g.2.1 (by decide)⟩
      · rw [if_neg ed]
        refine ⟨fun g => ⟨by omega, g.2, ?_⟩, fun g => ⟨by omega, g.2.1⟩⟩
        have := (hI.2 d g.1).2 (by rw [g.2]; decide)
        omega
    · rw [if_neg e, if_neg e, (h7 c (by omega)).1 d hd]
      by_cases ed : d = rN r
      · rw [if_pos ed]
        exact ⟨fun g => by omega, fun g => absurd g.2.1 (by decide)⟩
      · rw [if_neg ed]
        exact ⟨fun g => ⟨by omega, g.2⟩, fun g => ⟨by omega, g.2⟩⟩
  · rw [rBeg_N] at hc
    rw [rBeg_S] at hs
    rw [a9, rBeg_A]
    by_cases e : c = rN r
    · rw [if_pos e] at hs
      exact absurd hs (by decide)
    · rw [if_neg e] at hs ⊢
      exact (h7 c (by omega)).2 hs
  · rw [a0, rO_beg hu hw, h8 w hw]
theorem xRec_fin {r : zR} {ev d u : Nat} {a s : Int32} {σ σF : zS} (hI : rI r ev) (hr : xRec r σ) (hu : u < 3) (hd : d < rN r) (hdu : rO r u = nI d) (hs : s = 1 ∨ s = 2)
    (e0 : σF.1 0 = σ.1 0) (e1 : σF.1 1 = σ.1 1) (e2 : σF.1 2 = σ.1 2) (e3 : ∀ i, i < 32 → (bt (σF.1 3) i = true ↔ bt (σ.1 3) i = true ∨ (s = 1 ∧ i = d))) (e4 : ∀ i, i < 32 → (bt (σF.1 4) i = true ↔ bt (σ.1 4) i = true ∨ (s = 2 ∧ i = d))) (a5 : ∀ k, 5 ≤ k → k < 9 → σF.2.1 k = σ.2.1 k) (a9 : ∀ c, c ≠ d → σF.2.1 9 c = σ.2.1 9 c) (b9 : s = 1 → σF.2.1 9 d = a) (a0 : ∀ w, σF.2.1 0 w = if w = u then -1 else σ.2.1 0 w) : xRec (rFin r ev d a s) σF := by
  obtain ⟨⟨h1, h2, h3⟩, h4, h5, h6, h7, h8⟩ := hr
  obtain ⟨hwf, hle⟩ := hI
  have hN := hwf.1
  obtain ⟨g1, g2⟩ := rO_inv hwf hd hdu
  have hs0 : s ≠ 0 := by rcases hs with rfl | rfl <;> decide
  refine ⟨⟨by rw [e0]; exact h1, by rw [e1]; exact h2, fun c hc => ?_⟩, by rw [e2]; exact h4, fun i hi => ?_, fun i hi => ?_, fun c hc => ⟨fun i hi => ?_, fun hsc => ?_⟩, fun w hw => ?_⟩
  · rw [a5 5 (by omega) (by omega), a5 6 (by omega) (by omega), a5 7 (by omega) (by omega), rFin_W, rFin_P, rFin_V]
    exact h3 c hc
  · rw [e3 i hi, h5 i hi, rFin_N, rFin_S]
    by_cases e : i = d
    · rw [if_pos e]
      refine ⟨fun g => ⟨by omega, g.elim (fun g => ?_) (fun g => g.1)⟩, fun g => Or.inr ⟨g.2, e⟩⟩
      rw [e, g2] at g
      exact absurd g.2 (by decide)
    · rw [if_neg e]
      exact ⟨fun g => g.elim id (fun g => absurd g.2 e), Or.inl⟩
  · rw [e4 i hi, h6 i hi, rFin_N, rFin_S]
    by_cases e : i = d
    · rw [if_pos e]
      refine ⟨fun g => ⟨by omega, g.elim (fun g => ?_) (fun g => g.1)⟩, fun g => Or.inr ⟨g.2, e⟩⟩
      rw [e, g2] at g
      exact absurd g.2 (by decide)
    · rw [if_neg e]
      exact ⟨fun g => g.elim id (fun g => absurd g.2 e), Or.inl⟩
  · rw [rFin_N] at hc ⊢
    rw [a5 8 (by omega) (by omega), (h7 c hc).1 i hi, rFin_S, rFin_U, rFin_F]
    by_cases e : i = d
    · rw [if_pos e, if_pos e, e, g2]
      refine ⟨fun g => absurd g.2.1 (by decide), fun g => ?_⟩
      have := (hle c hc).1
      omega
    · rw [if_neg e, if_neg e]
  · rw [rFin_N] at hc
    rw [rFin_S] at hsc
    rw [rFin_A]
    by_cases e : c = d
    · rw [if_pos e] at hsc ⊢
      rw [e]
      exact b9 hsc
    · rw [if_neg e] at hsc ⊢
      rw [a9 c e]
      exact (h7 c hc).2 hsc
  · rw [a0, rO_fin hwf hd hu hw hdu hs0, h8 w hw]
