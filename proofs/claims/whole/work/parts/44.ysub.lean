/-! The reference's search finds all explanations -/
noncomputable def fS (r : zR) : Nat → List Nat → Nat → Nat
  | 0, _, _ => 1
  | k + 1, L, c => 1 + rif (rCM r L c ∧ rRe r L c) (sN r k (L ++ [c]) + 1) 0
noncomputable def fE (r : zR) : Nat → List Nat → Nat → List (List Nat)
  | 0, _, _ => []
  | k + 1, L, c => rif (rCM r L c ∧ rRe r L c) (rVM r k (L ++ [c])) []
theorem sN_fS (r : zR) (k : Nat) (L : List Nat) : sN r k L = sSt (fS r k L) 0 (rN r) := by
  cases k with
  | zero => rfl
  | succ k => rfl
theorem rVM_fE (r : zR) (k : Nat) (L : List Nat) : rVM r k L = rNote r L ++ (List.range' 0 (rN r)).flatMap (fE r k L) := by
  cases k with
  | zero =>
    have : (List.range' 0 (rN r)).flatMap (fE r 0 L) = [] := List.flatMap_eq_nil_iff.mpr (fun _ _ => rfl)
    rw [this, List.append_nil]
    rfl
  | succ k =>
    rw [← List.range_eq_range']
    rfl
theorem t_sub {r : zR} (hwf : rWF r) {post : zS → Prop} {K : Int32 → zS → Prop} : ∀ (k : Nat) (L : List Nat), L.length + k = 8 → rG r L → rReA r L → ∀ (j c : Nat), c + j = rN r → ∀ (E : List (List Nat)) (τ : zS) (s m : Nat), yNode r L c E τ → (∀ M, M ∈ E → ∀ x, x ∈ M → x < rN r) → E.length + ((List.range' c j).flatMap (fE r k L)).length < 1400 → s + sSt (fS r k L) c j ≤ 2000000 →
    (∀ τ', yNode r L (rN r) (E ++ (List.range' c j).flatMap (fE r k L)) τ' → (∀ i, i < L.length → τ'.2.1 9 i = τ.2.1 9 i) → yKp τ τ' → zlp (b_M_work_60 post K) m (nI (s + sSt (fS r k L) c j), τ')) → zlp (b_M_work_60 post K) (m + sSt (fS r k L) c j) (nI s, τ) := by
  intro k
  induction k with
  | zero =>
    intro L hk hG hRe j
    induction j with
    | zero =>
      intro c hc E τ s m hn hE hlen hst hgo
      have e : c = rN r := by omega
      subst e
      have := hgo τ (by simpa using hn) (fun _ _ => rfl) (yKp.rf τ)
      simpa [sSt] using this
    | succ j jh =>
      intro c hc E τ s m hn hE hlen hst hgo
      have est : sSt (fS r 0 L) c (j + 1) = 1 + sSt (fS r 0 L) (c + 1) j := rfl
      rw [List.range'_succ, List.flatMap_cons] at hlen hgo
      rw [est] at hst hgo ⊢
      have e0 : fE r 0 L c = [] := rfl
      rw [e0, List.nil_append] at hlen hgo
      have ef : m + (1 + sSt (fS r 0 L) (c + 1) j) = (m + sSt (fS r 0 L) (c + 1) j) + 1 := by omega
      rw [ef]
      show b_M_work_60 post K (zlp _ _) (nI s, τ)
      refine t_step hwf hG hRe (by omega) hn (rRows_ok hwf E hE) (by omega) (by omega) (fun _ τ' h1 h2 h3 => ?_) (fun _ h8 => absurd h8 (by omega))
      refine jh (c + 1) (by omega) E τ' (s + 1) m h1 hE hlen (by omega) (fun τ'' g1 g2 g3 => ?_)
      have := hgo τ'' g1 (fun i hi => (g2 i hi).trans (h2 i hi)) (h3.tr g3)
      have e2 : s + 1 + sSt (fS r 0 L) (c + 1) j = s + (1 + sSt (fS r 0 L) (c + 1) j) := by omega
      rw [e2]
      exact this
  | succ k ih =>
    intro L hk hG hRe j
    induction j with
    | zero =>
      intro c hc E τ s m hn hE hlen hst hgo
      have e : c = rN r := by omega
      subst e
      have := hgo τ (by simpa using hn) (fun _ _ => rfl) (yKp.rf τ)
      simpa [sSt] using this
    | succ j jh =>
      intro c hc E τ s m hn hE hlen hst hgo
      have est : sSt (fS r (k + 1) L) c (j + 1) = fS r (k + 1) L c + sSt (fS r (k + 1) L) (c + 1) j := rfl
      rw [List.range'_succ, List.flatMap_cons] at hlen hgo
      rw [est] at hst hgo ⊢
      by_cases h : rCM r L c ∧ rRe r L c
      · have e0 : fE r (k + 1) L c = rVM r k (L ++ [c]) := rif_t h
        have e1 : fS r (k + 1) L c = 1 + (sN r k (L ++ [c]) + 1) := by show 1 + rif _ _ _ = _; rw [rif_t h]
        rw [e0] at hlen hgo
        rw [e1] at hst hgo ⊢
        have hG1 : rG r (L ++ [c]) := rG_snoc hG (by omega) h.1
        have hRe1 : rReA r (L ++ [c]) := (rReA_snoc hRe).mpr h.2
        generalize hX : sSt (fS r (k + 1) L) (c + 1) j = X at hst hgo ⊢
        generalize hNN : sN r k (L ++ [c]) = NN at hst hgo ⊢
        rw [sN_fS] at hNN
        have ef : m + (1 + (NN + 1) + X) = ((m + X + 1) + NN) + 1 := by omega
        rw [ef]
        show b_M_work_60 post K (zlp _ _) (nI s, τ)
        refine t_step hwf hG hRe (by omega) hn (rRows_ok hwf E hE) (by omega) (by omega) (fun hno => absurd h hno) (fun _ h8 τ1 n1 o1 x1 k1 => ?_)
        have hv := rVM_fE r k (L ++ [c])
        rw [← hNN]
        have hE1 : ∀ M, M ∈ E ++ rVM r k (L ++ [c]) → ∀ x, x ∈ M → x < rN r := by
          intro M hM
          rcases List.mem_append.mp hM with hM | hM
          · exact hE M hM
          · exact rG_lt ((rVM_mem k _ _ hM).2.2 hG1)
        refine ih (L ++ [c]) (by simp; omega) hG1 hRe1 (rN r) 0 (by omega) (E ++ rNote r (L ++ [c])) τ1 (s + 1) (m + X + 1) n1 (fun M hM => hE1 M ?_) ?_ (by omega) (fun τ2 n2 o2 k2 => ?_)
        · rw [hv, ← List.append_assoc]
          exact List.mem_append_left _ hM
        · rw [List.length_append] at hlen
          rw [hv, List.length_append] at hlen
          rw [List.length_append]
          omega
        · rw [hNN]
          show b_M_work_60 post K (zlp _ _) (nI (s + 1 + NN), τ2)
          rw [List.append_assoc, ← hv] at n2
          refine t_pop (c' := c + 1) hwf h8 n2 (by rw [o2 L.length (by simp)]; exact x1) (by omega) (fun τ3 n3 o3 k3 => ?_)
          have := jh (c + 1) (by omega) (E ++ rVM r k (L ++ [c])) τ3 (s + 1 + NN + 1) m n3 hE1 (by rw [List.length_append] at hlen ⊢; omega) (by rw [hX]; omega) (fun τ4 g1 g2 g3 => ?_)
          · rw [hX] at this
            exact this
          · rw [List.append_assoc] at g1
            have h9 := hgo τ4 g1 (fun i hi => ((g2 i hi).trans ((o3 i).trans ((o2 i (by simp; omega)).trans (o1 i hi))))) (k1.tr (k2.tr (k3.tr g3)))
            have e2 : s + 1 + NN + 1 + sSt (fS r (k + 1) L) (c + 1) j = s + (1 + (NN + 1) + X) := by rw [hX]; omega
            rw [e2]
            exact h9
      · have e0 : fE r (k + 1) L c = [] := rif_f h
        have e1 : fS r (k + 1) L c = 1 := by show 1 + rif _ _ _ = _; rw [rif_f h]
        rw [e0, List.nil_append] at hlen hgo
        rw [e1] at hst hgo ⊢
        have ef : m + (1 + sSt (fS r (k + 1) L) (c + 1) j) = (m + sSt (fS r (k + 1) L) (c + 1) j) + 1 := by omega
        rw [ef]
        show b_M_work_60 post K (zlp _ _) (nI s, τ)
        refine t_step hwf hG hRe (by omega) hn (rRows_ok hwf E hE) (by omega) (by omega) (fun _ τ' h1 h2 h3 => ?_) (fun hy => absurd hy h)
        refine jh (c + 1) (by omega) E τ' (s + 1) m h1 hE hlen (by omega) (fun τ'' g1 g2 g3 => ?_)
        have := hgo τ'' g1 (fun i hi => (g2 i hi).trans (h2 i hi)) (h3.tr g3)
        have e2 : s + 1 + sSt (fS r (k + 1) L) (c + 1) j = s + (1 + sSt (fS r (k + 1) L) (c + 1) j) := by omega
        rw [e2]
        exact this
theorem t_clear {τ : zS} {post : zS → Prop} {K : Int32 → zS → Prop} (hK : ∀ y τ', τ'.1 = τ.1 → (∀ k, k ≠ 11 → τ'.2.1 k = τ.2.1 k) → (∀ k, k ≠ 1 → τ'.2.2 k = τ.2.2 k) → (∀ u, u < 3 → τ'.2.2 1 u = 0 ∧ τ'.2.1 11 u = 0) → K y τ') : zLP (b_M_work_12 post K) ((0 : Int32), τ) := by
  refine zLP_rule (fun q => ∃ u, u ≤ 3 ∧ q.1 = nI u ∧ q.2.1 = τ.1 ∧ (∀ k, k ≠ 11 → q.2.2.1 k = τ.2.1 k) ∧ (∀ k, k ≠ 1 → q.2.2.2 k = τ.2.2 k) ∧ ∀ v, v < u → q.2.2.2 1 v = 0 ∧ q.2.2.1 11 v = 0) (fun q => 3 - q.1.toNatClampNeg) ?_ _ ⟨0, by omega, rfl, rfl, fun _ _ => rfl, fun _ _ => rfl, fun v h => absurd h (by omega)⟩
  rintro ⟨y, τ1⟩ ⟨u, hu, hy, h1, h2, h3, h4⟩ R hR
  dsimp only at hy h1 h2 h3 h4
  subst hy
  dsimp only [b_M_work_12]
  have hle : (3 : Int32) ≤ nI u ↔ 3 ≤ u := nI_leI (a := 3) (by omega) (by omega)
  rw [hle]
  refine ⟨fun g => hK _ τ1 h1 h2 h3 (fun v hv => h4 v (by omega)), fun g => ?_⟩
  have inu := vp_in_nI (show u < 3 by omega) (show 3 < 2 ^ 31 by omega)
  refine ⟨inu, znm_i ⟨inu, znm_i ?_⟩⟩
  rw [nI_clamp (by omega), nI_1]
  refine hR _ ⟨u + 1, by omega, rfl, h1, fun k hk => ?_, fun k hk => ?_, fun v hv => ?_⟩ (by dsimp only; rw [nI_clamp (by omega), nI_clamp (by omega)]; omega)
  · have := h2 k hk
    simp [zA, zF, zL, zG, va_up, hk, this]
  · have := h3 k hk
    simp [zA, zF, zL, zG, va_up, hk, this]
  · by_cases e : v = u
    · subst e
      simp [zA, zF, zL, zG, va_up, upd, vp_updL]
    · have := h4 v (by omega)
      simp [zA, zF, zL, zG, va_up, upd, vp_updL, e, this.1, this.2]
theorem t_work {r : zR} {τ : zS} {post : zS → Prop} (hwf : rWF r) (hr : yRec r τ) (hp : ∀ τ', yRec r τ' → yFnd r (rE r) τ' → yKp τ τ' → post τ') : j_M_work τ post := by
  unfold j_M_work
  refine znm_i (znm_i (t_clear (fun _ τ1 g1 g2 g3 g4 => znm_i ⟨vp_in_nI (n := 0) (by omega) (by omega), znm_i (znm_i ?_)⟩)))
  have e0 : (0 : Int32).toNatClampNeg = 0 := rfl
  rw [e0]
  obtain ⟨τ2, e2⟩ : ∃ z, z = zI (zA (zI τ1 5 (0 : Int32)) 9 0 (0 : Int32)) 6 (0 : Int32) := ⟨_, rfl⟩
  rw [← e2]
  have k2 : yKp τ τ2 := by
    rw [e2]
    refine ⟨fun k hk => ?_, fun k hk => ?_⟩
    · have a : ¬ k = 5 := by omega
      have b : ¬ k = 6 := by omega
      have d : ¬ k = 7 := by omega
      have := congrFun g1 k
      simp [zI, zA, zF, zT, zG, va_up, a, b, d] at this ⊢
      exact this
    · have a : ¬ k = 9 := by omega
      have := g2 k (by omega)
      simp [zI, zA, zF, zT, zG, va_up, a] at this ⊢
      exact this
  have r2 := hr.kp k2
  have f2 : yFnd r [] τ2 := by
    rw [e2]
    refine ⟨?_, ?_, fun i v hv => by simp [rRows] at hv, fun u hu => ?_⟩
    · have := g3 2 (by omega)
      simp [zI, zA, zF, zT, zG, va_up] at this ⊢
      rw [this]
      rfl
    · have := congrFun g1 7
      simp [zI, zA, zF, zT, zG, va_up, rRows] at this ⊢
      rw [this]
      rfl
    · have := g4 u hu
      have a : rCnt r u [] = 0 := rfl
      have b : rBit r u [] = 0 := rfl
      rw [a, b]
      simp [zI, zA, zF, va_up, this.1, this.2]
      rfl
  have p2 : yPath [] τ2 := ⟨by rw [e2]; simp [zI, zA, zF, va_up]; rfl, fun i c h => by simp at h⟩
  have w2 : yRow (rRun r []).1 τ2 := ⟨by rw [e2]; simp [zI, zA, zF, va_up, rRun_nil]; rfl, fun i c h => by simp [rRun_nil] at h⟩
  have h680 := rE_680 hwf
  have hv := rVM_fE r 8 []
  have hEl : (rE r).length = (rNote r []).length + ((List.range' 0 (rN r)).flatMap (fE r 8 [])).length := by
    unfold rE
    rw [hv, List.length_append]
  refine t_note hwf r2 f2 (by simp) List.nodup_nil (fun x hx => absurd hx (List.not_mem_nil)) p2 w2 (fun c hc => absurd hc (List.not_mem_nil)) (fun v hv => by simp [rRows] at hv) (by simp) (fun τ3 nt f3 => ?_)
  have n3 : τ3.2.1 9 0 = nI 0 := by
    rw [nt.2 9 (by omega), e2]
    simp [zI, zA, zF, va_up, upd]
    rfl
  have hst := sN_le hwf 8 [] List.nodup_nil (fun x hx => absurd hx (List.not_mem_nil)) (by simp)
  rw [sB_8] at hst
  have hrun := t_sub hwf (post := post) (K := fun _ σ24 => post σ24) 8 [] (by simp) (rG_nil r) (fun i c h => by simp at h) (rN r) 0 (by omega) (rNote r []) τ3 0 1 ⟨r2.kp nt.kp, by simpa using f3, nt.path p2, n3⟩ (fun M hM => ?_) (by omega) (by rw [← sN_fS]; omega) (fun τ4 n4 _ k4 => ?_)
  · exact ⟨_, hrun⟩
  · intro x hx
    unfold rNote at hM
    by_cases ha : rAll r []
    · rw [rif_t ha] at hM
      rw [List.mem_singleton.mp hM] at hx
      exact absurd hx (List.not_mem_nil)
    · rw [rif_f ha] at hM
      exact absurd hM (List.not_mem_nil)
  · show b_M_work_60 post _ (zlp _ _) (nI _, τ4)
    rw [← hv] at n4
    exact t_end hwf n4 (by rw [← sN_fS]; omega) (hp τ4 n4.1 n4.2.1 (k2.tr (nt.kp.tr k4)))
