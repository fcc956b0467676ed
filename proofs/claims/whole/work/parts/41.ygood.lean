/-! The reference: is a list good -/
theorem t_order_in {r : zR} {τ : zS} {L : List Nat} {j cj : Nat} {post K : Int32 → zS → Prop} (hwf : rWF r) (hr : yRec r τ) (hl : L.length ≤ 8) (hL : ∀ x, x ∈ L → x < rN r) (hpa : yPath L τ) (hj : L[j]? = some cj) (hK : ∀ y, (∀ i ci : Nat, i < j → L[i]? = some ci → ¬ (rS r cj = 1 ∧ rU r cj < rF r ci)) → K y τ) (h0 : (∃ i ci : Nat, i < j ∧ L[i]? = some ci ∧ rS r cj = 1 ∧ rU r cj < rF r ci) → post 0 τ) : zLP (b_M_good_12 (nI j) post K) ((0 : Int32), τ) := by
  have hN := hwf.1
  have hjl := (List.getElem?_eq_some_iff.mp hj).1
  have hcj := hL cj (List.mem_of_getElem? hj)
  obtain ⟨⟨w1, w2, w3, w4⟩, w5, w6, w7⟩ := hr.2 cj hcj
  refine zLP_rule (fun q => ∃ i, i ≤ j ∧ q = (nI i, τ) ∧ ∀ i' ci, i' < i → L[i']? = some ci → ¬ (rS r cj = 1 ∧ rU r cj < rF r ci)) (fun q => j - q.1.toNatClampNeg) ?_ _ ⟨0, by omega, rfl, fun i' ci h => absurd h (by omega)⟩
  rintro q ⟨i, hi, rfl, hno⟩ R hR
  dsimp only [b_M_good_12]
  rw [nI_leI (by omega) (by omega)]
  refine ⟨fun g => ?_, fun g => ?_⟩
  · have e : i = j := by omega
    subst e
    exact hK _ hno
  · have hij : i < j := by omega
    obtain ⟨ci, hci⟩ : ∃ ci, L[i]? = some ci := ⟨_, List.getElem?_eq_getElem (by omega)⟩
    have hcin := hL ci (List.mem_of_getElem? hci)
    obtain ⟨-, v5, v6, -⟩ := hr.2 ci hcin
    have next : ¬ (rS r cj = 1 ∧ rU r cj < rF r ci) → R (nI i + 1, τ) := by
      intro hn
      rw [nI_1]
      refine hR _ ⟨i + 1, by omega, rfl, fun i' c' h hc' => ?_⟩ (by dsimp only; rw [nI_clamp (by omega), nI_clamp (by omega)]; omega)
      by_cases e : i' = i
      · subst e
        rw [hci] at hc'
        rw [← Option.some.inj hc']
        exact hn
      · exact hno i' c' (by omega) hc'
    rw [nI_clamp (show j < 2 ^ 31 by omega), nI_clamp (show i < 2 ^ 31 by omega), hpa.2 j cj hj, hpa.2 i ci hci, nI_clamp (show cj < 2 ^ 31 by omega), nI_clamp (show ci < 2 ^ 31 by omega), w4, v5]
    have inj := vp_in_nI (show j < 8 by omega) (show 8 < 2 ^ 31 by omega)
    have inc := vp_in_nI (show cj < 8 by omega) (show 8 < 2 ^ 31 by omega)
    refine ⟨inj, inc, fun g1 => ?_, fun g1 => next (fun h => g1 h.1)⟩
    obtain ⟨u1, u2, u3⟩ := w7 g1
    rw [u1, nI_leI (by omega) (by omega)]
    refine ⟨inj, inc, vp_in_nI (show i < 8 by omega) (by omega), vp_in_nI (show ci < 8 by omega) (by omega), fun g2 => next (fun h => by omega), fun g2 => h0 ⟨i, ci, hij, hci, g1, by omega⟩⟩
theorem t_order {r : zR} {τ : zS} {L : List Nat} {post K : Int32 → zS → Prop} (hwf : rWF r) (hr : yRec r τ) (hl : L.length ≤ 8) (hL : ∀ x, x ∈ L → x < rN r) (hpa : yPath L τ) (hK : ∀ y, (∀ i j ci cj : Nat, i < j → L[i]? = some ci → L[j]? = some cj → ¬ (rS r cj = 1 ∧ rU r cj < rF r ci)) → K y τ) (h0 : (∃ i j ci cj : Nat, i < j ∧ L[i]? = some ci ∧ L[j]? = some cj ∧ rS r cj = 1 ∧ rU r cj < rF r ci) → post 0 τ) : zLP (b_M_good_2 post K) ((1 : Int32), τ) := by
  refine zLP_rule (fun q => ∃ j, q = (nI j, τ) ∧ j < 10 ∧ ∀ i j' ci cj : Nat, j' < j → i < j' → L[i]? = some ci → L[j']? = some cj → ¬ (rS r cj = 1 ∧ rU r cj < rF r ci)) (fun q => 10 - q.1.toNatClampNeg) ?_ _ ⟨1, rfl, by omega, fun i j' ci cj h h2 => absurd h2 (by omega)⟩
  rintro q ⟨j, rfl, hj10, hno⟩ R hR
  dsimp only [b_M_good_2]
  have hle : τ.1 5 ≤ nI j ↔ L.length ≤ j := by rw [hpa.1]; exact nI_leI (by omega) (by omega)
  rw [hle]
  refine ⟨fun g => hK _ (fun i j' ci cj h h1 h2 => hno i j' ci cj (by have := (List.getElem?_eq_some_iff.mp h2).1; omega) h h1 h2), fun g => ?_⟩
  obtain ⟨cj, hcj⟩ : ∃ cj, L[j]? = some cj := ⟨_, List.getElem?_eq_getElem (by omega)⟩
  refine t_order_in hwf hr hl hL hpa hcj (fun y hy => ?_) (fun ⟨i, ci, h1, h2, h3⟩ => h0 ⟨i, j, ci, cj, h1, h2, hcj, h3⟩)
  rw [nI_1]
  refine hR _ ⟨j + 1, rfl, by omega, fun i j' ci c' h h1 h2 h3 => ?_⟩ (by dsimp only; rw [nI_clamp (by omega), nI_clamp (by omega)]; omega)
  by_cases e : j' = j
  · subst e
    rw [hcj] at h3
    rw [← Option.some.inj h3]
    exact hy i ci h1 h2
  · exact hno i j' ci c' (by omega) h1 h2 h3
/-- all answers of a list are right -/
def rReA (r : zR) (L : List Nat) : Prop := ∀ i c, L[i]? = some c → rRe r (L.take i) c
/-- what good may change -/
def yGd (τ τ' : zS) : Prop := (∀ k, k ≠ 6 → τ'.1 k = τ.1 k) ∧ (∀ k, k ≠ 8 → k ≠ 10 → τ'.2.1 k = τ.2.1 k) ∧ τ'.2.2 = τ.2.2
theorem yGd.kp {τ τ' : zS} (h : yGd τ τ') : yKp τ τ' := ⟨fun k hk => h.1 k (by omega), fun k hk => h.2.1 k (by omega) (by omega)⟩
theorem yGd.path {τ τ' : zS} {L : List Nat} (h : yGd τ τ') (hp : yPath L τ) : yPath L τ' := ⟨by rw [h.1 5 (by omega)]; exact hp.1, by rw [h.2.1 7 (by omega) (by omega)]; exact hp.2⟩
theorem t_good {r : zR} {τ : zS} {L : List Nat} {post : Int32 → zS → Prop} (hwf : rWF r) (hr : yRec r τ) (hl : L.length ≤ 8) (hnd : L.Nodup) (hL : ∀ x, x ∈ L → x < rN r) (hpa : yPath L τ)
    (h1 : L.Pairwise (fun x y => ¬ (rS r y = 1 ∧ rU r y < rF r x)) → rReA r L → ∀ τ', yGd τ τ' → yRow (rRun r L).1 τ' → (∀ c, c ∈ L → τ'.2.1 8 c = (rRun r L).2 c) → post 1 τ')
    (h0 : ¬ (L.Pairwise (fun x y => ¬ (rS r y = 1 ∧ rU r y < rF r x)) ∧ rReA r L) → ∀ τ', yGd τ τ' → post 0 τ') : j_M_good τ post := by
  have hN := hwf.1
  unfold j_M_good
  refine t_order hwf hr hl hL hpa (fun _ hord => ?_) (fun ⟨i, j, ci, cj, g1, g2, g3, g4⟩ => h0 (fun h => ?_) τ ⟨fun _ _ => rfl, fun _ _ _ => rfl, rfl⟩)
  · have hpw : L.Pairwise (fun x y => ¬ (rS r y = 1 ∧ rU r y < rF r x)) := by
      rw [List.pairwise_iff_getElem]
      intro i j hi hj hij
      exact hord i j _ _ hij (List.getElem?_eq_getElem hi) (List.getElem?_eq_getElem hj)
    refine znm_i ?_
    refine zLP_rule (fun q => ∃ k, k ≤ L.length ∧ q.1 = nI k ∧ yGd τ q.2 ∧ yRow (rRun r (L.take k)).1 q.2 ∧ (∀ c, c ∈ L.take k → q.2.2.1 8 c = (rRun r (L.take k)).2 c) ∧ ∀ i c, i < k → L[i]? = some c → rRe r (L.take i) c) (fun q => L.length - q.1.toNatClampNeg) ?_ _ ⟨0, by omega, rfl, ⟨fun k hk => by simp [zI, va_up, hk], fun _ _ _ => rfl, rfl⟩, ⟨by simp [zI, va_up, rRun_nil]; rfl, fun i x h => by simp [rRun_nil] at h⟩, fun c hc => by simp at hc, fun i c h => absurd h (by omega)⟩
    rintro ⟨y, τ1⟩ ⟨k, hk, hy, hgd, hrow, hgiv, hre⟩ R hR
    dsimp only at hy hgd hrow hgiv hre
    subst hy
    dsimp only [b_M_good_78]
    have hpa1 := hgd.path hpa
    have hr1 := hr.kp hgd.kp
    have hle : τ1.1 5 ≤ nI k ↔ L.length ≤ k := by rw [hpa1.1]; exact nI_leI (by omega) (by omega)
    rw [hle]
    refine ⟨fun g => ?_, fun g => ?_⟩
    · have e : L.take k = L := List.take_of_length_le g
      rw [e] at hrow hgiv
      exact h1 hpw (fun i c hi => hre i c (by have := (List.getElem?_eq_some_iff.mp hi).1; omega) hi) τ1 hgd hrow hgiv
    · obtain ⟨c, hc⟩ : ∃ c, L[k]? = some c := ⟨_, List.getElem?_eq_getElem (by omega)⟩
      have hcn := hL c (List.mem_of_getElem? hc)
      have htk : L.take (k + 1) = L.take k ++ [c] := by rw [List.take_succ, hc]; rfl
      have hLk : ∀ x, x ∈ L.take k → x < rN r := fun x hx => hL x (List.mem_of_mem_take hx)
      have hnin : c ∉ L.take k := by
        have : (L.take k ++ [c]).Nodup := by rw [← htk]; exact hnd.sublist (List.take_sublist _ _)
        intro hm
        exact (List.nodup_append.mp this).2.2 c hm c (List.mem_singleton.mpr rfl) rfl
      have inc := vp_in_nI (show c < 8 by omega) (show 8 < 2 ^ 31 by omega)
      refine ⟨vp_in_nI (show k < 8 by omega) (by omega), znm_i ?_⟩
      rw [nI_clamp (show k < 2 ^ 31 by omega), hpa1.2 k c hc]
      refine t_carryOut hwf hr1 hcn hrow (rRun_ok hwf _ hLk) (fun τ2 hrow2 hco => ?_)
      obtain ⟨⟨w1, w2, w3, w4⟩, w5, w6, w7⟩ := hr1.2 c hcn
      have s6 : τ2.2.1 6 c = rS r c := by rw [hco.2.1 6 (by omega)]; exact w4
      refine ⟨inc, znm_i ?_⟩
      rw [nI_clamp (show c < 2 ^ 31 by omega)]
      have hgd3 : yGd τ (zA τ2 8 c (rStep r c (rRun r (L.take k)).1).1) := by
        refine ⟨fun j hj => ?_, fun j hj hj2 => ?_, ?_⟩
        · show τ2.1 j = _
          rw [hco.1 j hj, hgd.1 j hj]
        · have : (zA τ2 8 c (rStep r c (rRun r (L.take k)).1).1).2.1 j = τ2.2.1 j := by simp [zA, zF, va_up, hj]
          rw [this, hco.2.1 j hj2, hgd.2.1 j hj hj2]
        · show τ2.2.2 = _
          rw [hco.2.2, hgd.2.2]
      have e6 : (zA τ2 8 c (rStep r c (rRun r (L.take k)).1).1).2.1 6 c = rS r c := by simp [zA, zF, va_up, s6]
      have e8 : (zA τ2 8 c (rStep r c (rRun r (L.take k)).1).1).2.1 8 c = (rStep r c (rRun r (L.take k)).1).1 := by simp [zA, zF, va_up, upd]
      have next : rRe r (L.take k) c → R (nI k + 1, zA τ2 8 c (rStep r c (rRun r (L.take k)).1).1) := by
        intro hrc
        rw [nI_1]
        refine hR _ ⟨k + 1, by omega, rfl, hgd3, ?_, fun x hx => ?_, fun i x hi hx => ?_⟩ (by dsimp only; rw [nI_clamp (by omega), nI_clamp (by omega)]; omega)
        · dsimp only
          rw [htk, rRun_snoc]
          refine ⟨hrow2.1, fun i x hi => ?_⟩
          have := hrow2.2 i x hi
          simp [zA, zF, va_up, this]
        · dsimp only
          rw [htk] at hx ⊢
          rw [rRun_snoc]
          by_cases e : x = c
          · subst e
            simp [zA, zF, va_up, upd, rAdd]
          · have hxk : x ∈ L.take k := (List.mem_append.mp hx).elim id (fun h => absurd (List.mem_singleton.mp h) e)
            have h3 := hgiv x hxk
            have h4 : τ2.2.1 8 x = τ1.2.1 8 x := by rw [hco.2.1 8 (by omega)]
            simp [zA, zF, va_up, upd, rAdd, e, h3, h4]
        · by_cases e : i = k
          · subst e
            rw [hc] at hx
            rw [← Option.some.inj hx]
            exact hrc
          · exact hre i x (by omega) hx
      rw [e6, e8]
      refine ⟨inc, fun g1 => ⟨inc, inc, ?_⟩, fun g1 => next (fun h => absurd h g1)⟩
      have e5 : (zA τ2 8 c (rStep r c (rRun r (L.take k)).1).1).2.1 5 c = rA r c := by
        have : τ2.2.1 5 c = rA r c := by rw [hco.2.1 5 (by omega)]; exact (w7 g1).2.2
        simp [zA, zF, va_up, this]
      rw [e5]
      exact ⟨fun e => next (fun _ => e), fun e => h0 (fun h => e (h.2 k c hc g1)) _ hgd3⟩
  · have := List.pairwise_iff_getElem.mp h.1 i j (List.getElem?_eq_some_iff.mp g2).1 (List.getElem?_eq_some_iff.mp g3).1 g1
    rw [(List.getElem?_eq_some_iff.mp g2).2, (List.getElem?_eq_some_iff.mp g3).2] at this
    exact this g4
