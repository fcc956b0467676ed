/-! Questions, on both sides -/
def qMin (b : Int32) (w : List Nat) : Int32 := if b = -1 then nI w.length else if nI w.length < b then nI w.length else b
def qMax (b : Int32) (w : List Nat) : Int32 := if b < nI w.length then nI w.length else b
theorem qMin_t {b : Int32} {w : List Nat} (h : b = -1) : qMin b w = nI w.length := if_pos h
theorem qMin_f {b : Int32} {w : List Nat} (h : ¬ b = -1) : qMin b w = if nI w.length < b then nI w.length else b := if_neg h
theorem qMax_e {b : Int32} {w : List Nat} : qMax b w = if b < nI w.length then nI w.length else b := rfl
def qFew (rs : List (List Nat)) : Int32 := rs.foldl qMin (-1)
def qMost (rs : List (List Nat)) : Int32 := rs.foldl qMax (-1)
theorem fold_take {α β : Type} (g : β → α → β) (b : β) (l : List α) {i : Nat} {v : α} (h : l[i]? = some v) : (l.take (i + 1)).foldl g b = g ((l.take i).foldl g b) v := by
  rw [List.take_succ, h]
  simp [List.foldl_append]
theorem s_fewest {r : zR} {E : List (List Nat)} {σ : zS} {post : Int32 → zS → Prop} (hf : xFnd r E σ) (hp : post (qFew (rRows r E)) σ) : j_X5_fewest σ post := by
  obtain ⟨-, ⟨a1, a2, a3, a4, a5, -⟩, -⟩ := hf
  unfold j_X5_fewest j_X3_shortest
  refine zLP_rule (fun q => ∃ i, i ≤ (rRows r E).length ∧ q = (((rRows r E).take i).foldl qMin (-1), nI i, σ)) (fun q => (rRows r E).length - q.2.1.toNatClampNeg) ?_ _ ⟨0, by omega, rfl⟩
  rintro q ⟨i, hi, rfl⟩ R hR
  dsimp only [b_X3_shortest_4]
  have hle : σ.1 8 ≤ nI i ↔ (rRows r E).length ≤ i := by rw [a4]; exact nI_leI (by omega) (by omega)
  rw [hle]
  refine ⟨fun g => ?_, fun g => ⟨vp_in_nI (show i < 680 by omega) (by omega), ?_⟩⟩
  · rw [List.take_of_length_le g]
    exact hp
  · obtain ⟨v, hv⟩ : ∃ v, (rRows r E)[i]? = some v := ⟨_, List.getElem?_eq_getElem (by omega)⟩
    rw [nI_clamp (by omega), a5 i v hv]
    refine s_length (a2 v (List.mem_of_getElem? hv)) ?_
    have next : ∀ b, b = qMin (((rRows r E).take i).foldl qMin (-1)) v → R (b, nI i + 1, σ) := by
      intro b hb
      rw [nI_1, hb, ← fold_take qMin (-1) _ hv]
      exact hR _ ⟨i + 1, by omega, rfl⟩ (by dsimp only; rw [nI_clamp (by omega), nI_clamp (by omega)]; omega)
    exact ⟨fun g2 => next _ (qMin_t g2).symm, fun g2 => znm_i (next _ (qMin_f g2).symm)⟩
theorem s_most {r : zR} {E : List (List Nat)} {σ : zS} {post : Int32 → zS → Prop} (hf : xFnd r E σ) (hp : post (qMost (rRows r E)) σ) : j_X5_most σ post := by
  obtain ⟨-, ⟨a1, a2, a3, a4, a5, -⟩, -⟩ := hf
  unfold j_X5_most j_X3_longest
  refine zLP_rule (fun q => ∃ i, i ≤ (rRows r E).length ∧ q = (((rRows r E).take i).foldl qMax (-1), nI i, σ)) (fun q => (rRows r E).length - q.2.1.toNatClampNeg) ?_ _ ⟨0, by omega, rfl⟩
  rintro q ⟨i, hi, rfl⟩ R hR
  dsimp only [b_X3_longest_4]
  have hle : σ.1 8 ≤ nI i ↔ (rRows r E).length ≤ i := by rw [a4]; exact nI_leI (by omega) (by omega)
  rw [hle]
  refine ⟨fun g => ?_, fun g => ⟨vp_in_nI (show i < 680 by omega) (by omega), ?_⟩⟩
  · rw [List.take_of_length_le g]
    exact hp
  · obtain ⟨v, hv⟩ : ∃ v, (rRows r E)[i]? = some v := ⟨_, List.getElem?_eq_getElem (by omega)⟩
    rw [nI_clamp (by omega), a5 i v hv]
    refine s_length (a2 v (List.mem_of_getElem? hv)) (znm_i ?_)
    have e : (if ((rRows r E).take i).foldl qMax (-1) < nI v.length then nI v.length else ((rRows r E).take i).foldl qMax (-1)) = ((rRows r E).take (i + 1)).foldl qMax (-1) := by rw [fold_take qMax (-1) _ hv]; rfl
    rw [e, nI_1]
    exact hR _ ⟨i + 1, by omega, rfl⟩ (by dsimp only; rw [nI_clamp (by omega), nI_clamp (by omega)]; omega)
def qHas (rs : List (List Nat)) (x1 x2 : Int32) : Prop := ∃ w, w ∈ rs ∧ ∃ i, x1 = nI i ∧ i < w.length ∧ x2 = nI (w.getD i 0)
theorem s_mayHold {r : zR} {E : List (List Nat)} {σ : zS} {x1 x2 : Int32} {post : Int32 → zS → Prop} (hf : xFnd r E σ) (h1 : qHas (rRows r E) x1 x2 → post 1 σ) (h0 : ¬ qHas (rRows r E) x1 x2 → post 0 σ) : j_X5_mayHold x1 x2 σ post := by
  obtain ⟨-, ⟨a1, a2, a3, a4, a5, -⟩, -⟩ := hf
  unfold j_X5_mayHold j_X3_anyHas
  refine zLP_rule (fun q => ∃ i, i ≤ (rRows r E).length ∧ q = (nI i, σ) ∧ ¬ qHas ((rRows r E).take i) x1 x2) (fun q => (rRows r E).length - q.1.toNatClampNeg) ?_ _ ⟨0, by omega, rfl, fun ⟨w, hw, _⟩ => by simp at hw⟩
  rintro q ⟨i, hi, rfl, hno⟩ R hR
  dsimp only [b_X3_anyHas_2]
  have hle : σ.1 8 ≤ nI i ↔ (rRows r E).length ≤ i := by rw [a4]; exact nI_leI (by omega) (by omega)
  rw [hle]
  refine ⟨fun g => ⟨narB0, h0 ?_⟩, fun g => ?_⟩
  · rw [List.take_of_length_le g] at hno
    exact hno
  · obtain ⟨v, hv⟩ : ∃ v, (rRows r E)[i]? = some v := ⟨_, List.getElem?_eq_getElem (by omega)⟩
    have hvok := a2 v (List.mem_of_getElem? hv)
    have h8 := hvok.1
    have next : (¬ ∃ k, x1 = nI k ∧ k < v.length ∧ x2 = nI (v.getD k 0)) → R (nI i + 1, σ) := by
      intro hn
      rw [nI_1]
      refine hR _ ⟨i + 1, by omega, rfl, ?_⟩ (by dsimp only; rw [nI_clamp (by omega), nI_clamp (by omega)]; omega)
      rintro ⟨w, hw, hw2⟩
      rw [List.take_succ, hv] at hw
      rcases List.mem_append.mp hw with hw | hw
      · exact hno ⟨w, hw, hw2⟩
      · have hw : w = v := by simpa using hw
        rw [hw] at hw2
        exact hn hw2
    have in680 := vp_in_nI (show i < 680 by omega) (show 680 < 2 ^ 31 by omega)
    rw [nI_clamp (by omega), a5 i v hv]
    refine ⟨fun g2 => next ?_, fun g2 => ⟨in680, s_length hvok ⟨fun g3 => next ?_, fun g3 => ⟨in680, ?_⟩⟩⟩⟩
    · rintro ⟨k, hk, k2, -⟩
      rw [hk] at g2
      exact nI_pos (by omega) g2
    · rintro ⟨k, hk, k2, -⟩
      rw [hk, nI_leI (by omega) (by omega)] at g3
      omega
    · obtain ⟨k, hk, hx⟩ : ∃ k, k < v.length ∧ x1 = nI k := by
        rcases pk_ix x1 (n := v.length) (by omega) with h | h | h
        · exact absurd h g2
        · exact absurd h g3
        · exact h
      subst hx
      refine s_valueAt hvok hk ⟨fun g4 => ⟨narB1, h1 ⟨v, List.mem_of_getElem? hv, k, rfl, hk, g4.symm⟩⟩, fun g4 => next ?_⟩
      rintro ⟨j, hj, j2, j3⟩
      rw [nI_eq (by omega) (by omega)] at hj
      rw [← hj] at j3
      exact g4 j3.symm
theorem s_certain {r : zR} {E : List (List Nat)} {σ : zS} {x1 : Int32} {post : Int32 → zS → Prop} (hwf : rWF r) (hr : xRec r σ) (hf : xFnd r E σ) (hE : E.length ≤ 680) (hcnt : ∀ u, rCnt r u E ≤ E.length) (h1 : (∃ u d, cOpen r x1 u d ∧ E ≠ [] ∧ rCnt r u E = E.length) → post 1 σ) (h0 : (¬ ∃ u d, cOpen r x1 u d ∧ E ≠ [] ∧ rCnt r u E = E.length) → post 0 σ) : j_X5_certain x1 σ post := by
  unfold j_X5_certain j_X5_fits
  have hle : σ.1 7 ≤ 0 ↔ E = [] := by
    rw [hf.1]
    have : nI E.length ≤ nI 0 ↔ E.length ≤ 0 := nI_leI (by omega) (by omega)
    refine this.trans ⟨fun h => List.length_eq_zero_iff.mp (by omega), fun h => by rw [h]; simp⟩
  rw [hle]
  refine ⟨fun g => ⟨fun _ => h0 (fun ⟨u, d, _, k, _⟩ => k g), fun h => absurd rfl h⟩, fun g => ⟨fun h => absurd h (by decide), fun _ => ?_⟩⟩
  refine s_hasOpen hwf hr (fun u d hu hx hd hdu _ _ => ⟨fun h => absurd h (by decide), fun _ => ?_⟩) (fun g2 => ⟨fun _ => h0 (fun ⟨u, d, k, _⟩ => g2 ⟨u, d, k⟩), fun h => absurd rfl h⟩)
  subst hx
  have hc : cOpen r (nI u) u d := ⟨hu, rfl, hd, hdu⟩
  have hcu := hcnt u
  refine ⟨vp_in_nI hu (by omega), ?_⟩
  rw [nI_clamp (by omega), (hf.2.2 u hu).1, hf.1, nI_eq (by omega) (by omega)]
  refine ⟨fun g2 => h1 ⟨u, d, hc, g, g2⟩, fun g2 => h0 (fun ⟨u', d', k1, _, k3⟩ => ?_)⟩
  rw [(cOpen_u hwf hc k1).1] at k3
  exact g2 k3
theorem rCnt_le (r : zR) (u : Nat) (E : List (List Nat)) : rCnt r u E ≤ E.length := by
  have key : ∀ (E : List (List Nat)) (n : Nat), E.foldl (fun n L => rif (rLst r u L) (n + 1) n) n ≤ n + E.length := by
    intro E
    induction E with
    | nil => intro n; simp
    | cons L t ih =>
      intro n
      rw [List.foldl_cons, List.length_cons]
      have := ih (rif (rLst r u L) (n + 1) n)
      by_cases h : rLst r u L
      · rw [rif_t h] at this ⊢; omega
      · rw [rif_f h] at this ⊢; omega
  have := key E 0
  unfold rCnt
  omega
/-! the reference's -/
theorem t_sizeOf {r : zR} {E : List (List Nat)} {τ : zS} {i : Nat} {v : List Nat} {post : Int32 → zS → Prop} (hf : yFnd r E τ) (hrok : ∀ w, w ∈ rRows r E → eOk w) (hl : (rRows r E).length ≤ 680) (hv : (rRows r E)[i]? = some v) (hp : post (nI v.length) τ) : j_M_sizeOf (nI i) τ post := by
  have hi := (List.getElem?_eq_some_iff.mp hv).1
  have hok := hrok v (List.mem_of_getElem? hv)
  have h8 := hok.1
  have h9 := eN_8 hok
  unfold j_M_sizeOf
  refine ⟨vp_in_nI (show i < 1400 by omega) (by omega), ?_⟩
  rw [nI_clamp (by omega), hf.2.2.1 i v hv]
  have e : (eM v &&& (15 : Int64)).toInt32 = nI v.length := by
    unfold eM
    have hm : (15 : Int64) = lN (16 - 1) := by decide
    rw [hm, g_mask (s := 4) (p := 16) (by decide) (by omega) (by omega), lN_i]
    exact congrArg nI (by omega)
  rw [e]
  exact hp
theorem qMin_neg : ∀ (l : List (List Nat)) (b : Int32), (∀ w, w ∈ l → w.length ≤ 8) → (b = -1 ∨ ∃ k, k < 2 ^ 31 ∧ b = nI k) → (l.foldl qMin b = -1 ∨ ∃ k, k < 2 ^ 31 ∧ l.foldl qMin b = nI k) := by
  intro l
  induction l with
  | nil => intro b _ h; exact h
  | cons w t ih =>
    intro b hl h
    rw [List.foldl_cons]
    refine ih _ (fun x hx => hl x (List.mem_cons_of_mem _ hx)) ?_
    have h8 := hl w (List.mem_cons_self ..)
    unfold qMin
    split
    · exact Or.inr ⟨w.length, by omega, rfl⟩
    · split
      · exact Or.inr ⟨w.length, by omega, rfl⟩
      · exact h
theorem t_fewest {r : zR} {E : List (List Nat)} {τ : zS} {post : Int32 → zS → Prop} (hf : yFnd r E τ) (hrok : ∀ w, w ∈ rRows r E → eOk w) (hl : (rRows r E).length ≤ 680) (hp : post (qFew (rRows r E)) τ) : j_M_fewest τ post := by
  unfold j_M_fewest
  refine zLP_rule (fun q => ∃ i, i ≤ (rRows r E).length ∧ q = (((rRows r E).take i).foldl qMin (-1), nI i, τ)) (fun q => (rRows r E).length - q.2.1.toNatClampNeg) ?_ _ ⟨0, by omega, rfl⟩
  rintro q ⟨i, hi, rfl⟩ R hR
  dsimp only [b_M_fewest_4]
  have hle : τ.1 7 ≤ nI i ↔ (rRows r E).length ≤ i := by rw [hf.2.1]; exact nI_leI (by omega) (by omega)
  rw [hle]
  refine ⟨fun g => ?_, fun g => ?_⟩
  · rw [List.take_of_length_le g]
    exact hp
  · obtain ⟨v, hv⟩ : ∃ v, (rRows r E)[i]? = some v := ⟨_, List.getElem?_eq_getElem (by omega)⟩
    refine t_sizeOf hf hrok hl hv ?_
    have hneg := qMin_neg ((rRows r E).take i) (-1) (fun w hw => (hrok w (List.mem_of_mem_take hw)).1) (Or.inl rfl)
    have next : ∀ b, b = qMin (((rRows r E).take i).foldl qMin (-1)) v → R (b, nI i + 1, τ) := by
      intro b hb
      rw [nI_1, hb, ← fold_take qMin (-1) _ hv]
      exact hR _ ⟨i + 1, by omega, rfl⟩ (by dsimp only; rw [nI_clamp (by omega), nI_clamp (by omega)]; omega)
    generalize ((rRows r E).take i).foldl qMin (-1) = b at hneg next ⊢
    refine ⟨fun g2 => next _ ?_, fun g2 => ⟨fun g3 => next _ ?_, fun g3 => next _ ?_⟩⟩
    · rcases hneg with h | ⟨k, hk, h⟩
      · unfold qMin; rw [if_pos h]
      · rw [h] at g2
        exact absurd g2 (nI_pos hk)
    · have hne : ¬ b = -1 := fun h => g2 (by rw [h]; decide)
      unfold qMin
      rw [if_neg hne, if_neg (Int32.not_lt.mpr g3)]
    · have hne : ¬ b = -1 := fun h => g2 (by rw [h]; decide)
      unfold qMin
      rw [if_neg hne, if_pos (Int32.not_le.mp g3)]
theorem t_most {r : zR} {E : List (List Nat)} {τ : zS} {post : Int32 → zS → Prop} (hf : yFnd r E τ) (hrok : ∀ w, w ∈ rRows r E → eOk w) (hl : (rRows r E).length ≤ 680) (hp : post (qMost (rRows r E)) τ) : j_M_most τ post := by
  unfold j_M_most
  refine zLP_rule (fun q => ∃ i, i ≤ (rRows r E).length ∧ q = (((rRows r E).take i).foldl qMax (-1), nI i, τ)) (fun q => (rRows r E).length - q.2.1.toNatClampNeg) ?_ _ ⟨0, by omega, rfl⟩
  rintro q ⟨i, hi, rfl⟩ R hR
  dsimp only [b_M_most_4]
  have hle : τ.1 7 ≤ nI i ↔ (rRows r E).length ≤ i := by rw [hf.2.1]; exact nI_leI (by omega) (by omega)
  rw [hle]
  refine ⟨fun g => ?_, fun g => ?_⟩
  · rw [List.take_of_length_le g]
    exact hp
  · obtain ⟨v, hv⟩ : ∃ v, (rRows r E)[i]? = some v := ⟨_, List.getElem?_eq_getElem (by omega)⟩
    refine t_sizeOf hf hrok hl hv ?_
    have next : ∀ b, b = qMax (((rRows r E).take i).foldl qMax (-1)) v → R (b, nI i + 1, τ) := by
      intro b hb
      rw [nI_1, hb, ← fold_take qMax (-1) _ hv]
      exact hR _ ⟨i + 1, by omega, rfl⟩ (by dsimp only; rw [nI_clamp (by omega), nI_clamp (by omega)]; omega)
    refine ⟨fun g3 => next _ ?_, fun g3 => next _ ?_⟩
    · rw [qMax_e, if_neg (Int32.not_lt.mpr g3)]
    · rw [qMax_e, if_pos (Int32.not_le.mp g3)]
theorem eM_at {v : List Nat} (hok : eOk v) {k : Nat} (hk : k < v.length) : (eM v >>> (((4 : Int32) + ((4 : Int32) * nI k)).toInt64 &&& 63)) &&& (15 : Int64) = lN (v.getD k 0) := by
  have h8 := hok.1
  have h9 := eN_8 hok
  have e4 : (4 : Int32) + nI (4 * k) = nI (4 + 4 * k) := nI_add 4 (4 * k)
  rw [mul4, e4]
  have e5 : ((nI (4 + 4 * k)).toInt64 &&& 63) = lN (4 + 4 * k) := wb_c (4 + 4 * k) (by omega)
  rw [e5]
  unfold eM
  have e6 : ((lN (4 + 4 * k)).toBitVec.smod 64).toNat = 4 + 4 * k := by
    rw [wb_tb, wb_sm (4 + 4 * k) (by omega)]
    simp
    omega
  rw [pf_shr e6 (by omega)]
  have hm : (15 : Int64) = lN (16 - 1) := by decide
  rw [hm, g_mask (s := 4) (p := 16) (by decide) (by omega) (Nat.lt_of_le_of_lt (Nat.div_le_self _ _) (by omega))]
  congr 1
  have h16 : (2 : Nat) ^ 4 = 16 := by decide
  rw [Nat.pow_add, p16, h16, ← Nat.div_div_eq_div_mul]
  have : (v.length + 16 * eN v) / 16 = eN v := by omega
  rw [this, eN_get hok.2]
theorem t_mayHold {r : zR} {E : List (List Nat)} {τ : zS} {x1 x2 : Int32} {post : Int32 → zS → Prop} (hf : yFnd r E τ) (hrok : ∀ w, w ∈ rRows r E → eOk w) (hl : (rRows r E).length ≤ 680) (h1 : qHas (rRows r E) x1 x2 → post 1 τ) (h0 : ¬ qHas (rRows r E) x1 x2 → post 0 τ) : j_M_mayHold x1 x2 τ post := by
  unfold j_M_mayHold
  have a7 : (7 : Int32).toInt = 7 := by decide
  have a15 : (15 : Int32).toInt = 15 := by decide
  have n7 : ∀ k, k ≤ 8 → (nI k).toInt = k := fun k hk => nI_toInt (by omega)
  have hx1 : qHas (rRows r E) x1 x2 → ∃ k, k < 8 ∧ x1 = nI k := by
    rintro ⟨w, hw, i, hi, hi2, -⟩
    have := (hrok w hw).1
    exact ⟨i, by omega, hi⟩
  have hx2 : qHas (rRows r E) x1 x2 → ∃ k, k < 16 ∧ x2 = nI k := by
    rintro ⟨w, hw, i, hi, hi2, hi3⟩
    refine ⟨w.getD i 0, ?_, hi3⟩
    have : w.getD i 0 ∈ w := by
      rw [List.getD, List.getElem?_eq_getElem hi2]
      exact List.getElem_mem hi2
    exact (hrok w hw).2 _ this
  refine ⟨fun g => h0 (fun h => ?_), fun g => ⟨fun g2 => h0 (fun h => ?_), fun g2 => ⟨fun g3 => h0 (fun h => ?_), fun g3 => ⟨fun g4 => ?_, fun g4 => h0 (fun h => ?_)⟩⟩⟩⟩
  · obtain ⟨k, hk, e⟩ := hx1 h
    rw [e] at g
    exact nI_pos (by omega) g
  · obtain ⟨k, hk, e⟩ := hx1 h
    rw [e] at g2
    have : (7 : Int32) < nI k ↔ 7 < k := nI_ltI (a := 7) (by omega) (by omega)
    rw [this] at g2
    omega
  · obtain ⟨k, hk, e⟩ := hx2 h
    rw [e] at g3
    exact nI_pos (by omega) g3
  · obtain ⟨p, hp, ex1⟩ : ∃ p, p < 8 ∧ x1 = nI p := by
      obtain ⟨j, hj, hx⟩ := nI_of2 (n := 7) (M := 7) (by decide) g (Int32.not_lt.mp g2)
      exact ⟨j, by omega, hx⟩
    obtain ⟨vv, hvv, ex2⟩ : ∃ vv, vv < 16 ∧ x2 = nI vv := by
      obtain ⟨j, hj, hx⟩ := nI_of2 (n := 15) (M := 15) (by decide) g3 g4
      exact ⟨j, by omega, hx⟩
    subst ex1
    subst ex2
    refine zLP_rule (fun q => ∃ i, i ≤ (rRows r E).length ∧ q.2.1 = nI i ∧ q.2.2 = τ ∧ ((q.1 = 1 ∧ qHas ((rRows r E).take i) (nI p) (nI vv)) ∨ (q.1 = 0 ∧ ¬ qHas ((rRows r E).take i) (nI p) (nI vv)))) (fun q => (rRows r E).length - q.2.1.toNatClampNeg) ?_ _ ⟨0, by omega, rfl, rfl, Or.inr ⟨rfl, fun ⟨w, hw, _⟩ => by simp at hw⟩⟩
    rintro ⟨y, z, τ1⟩ ⟨i, hi, hz, ht, hy⟩ R hR
    dsimp only at hz ht hy
    subst hz
    subst ht
    dsimp only [b_M_mayHold_27]
    have hle : τ1.1 7 ≤ nI i ↔ (rRows r E).length ≤ i := by rw [hf.2.1]; exact nI_leI (by omega) (by omega)
    rw [hle]
    refine ⟨fun gg => ?_, fun gg => ?_⟩
    · rw [List.take_of_length_le gg] at hy
      rcases hy with ⟨rfl, hy⟩ | ⟨rfl, hy⟩
      · exact ⟨narB1, h1 hy⟩
      · exact ⟨narB0, h0 hy⟩
    · obtain ⟨v, hv⟩ : ∃ v, (rRows r E)[i]? = some v := ⟨_, List.getElem?_eq_getElem (by omega)⟩
      have hvok := hrok v (List.mem_of_getElem? hv)
      have h8 := hvok.1
      have htk : (rRows r E).take (i + 1) = (rRows r E).take i ++ [v] := by rw [List.take_succ, hv]; rfl
      have next : ∀ b, ((b = 1 ∧ qHas ((rRows r E).take (i + 1)) (nI p) (nI vv)) ∨ (b = 0 ∧ ¬ qHas ((rRows r E).take (i + 1)) (nI p) (nI vv))) → R (b, nI i + 1, τ1) := by
        intro b hb
        rw [nI_1]
        exact hR _ ⟨i + 1, by omega, rfl, rfl, hb⟩ (by dsimp only; rw [nI_clamp (by omega), nI_clamp (by omega)]; omega)
      rw [htk] at next
      have grow : qHas ((rRows r E).take i ++ [v]) (nI p) (nI vv) ↔ qHas ((rRows r E).take i) (nI p) (nI vv) ∨ (p < v.length ∧ vv = v.getD p 0) := by
        constructor
        · rintro ⟨w, hw, k, k1, k2, k3⟩
          rcases List.mem_append.mp hw with hw | hw
          · exact Or.inl ⟨w, hw, k, k1, k2, k3⟩
          · have ew : w = v := List.mem_singleton.mp hw
            subst ew
            rw [nI_eq (by omega) (by omega)] at k1
            subst k1
            refine Or.inr ⟨k2, ?_⟩
            have hlt : w.getD p 0 < 16 := by
              have : w.getD p 0 ∈ w := by
                rw [List.getD, List.getElem?_eq_getElem k2]
                exact List.getElem_mem k2
              exact hvok.2 _ this
            exact (nI_eq (by omega) (by omega)).mp k3
        · rintro (⟨w, hw, h⟩ | ⟨k1, k2⟩)
          · exact ⟨w, List.mem_append_left _ hw, h⟩
          · exact ⟨v, List.mem_append_right _ (List.mem_singleton.mpr rfl), p, rfl, k1, by rw [k2]⟩
      rw [grow] at next
      rcases hy with ⟨rfl, hy⟩ | ⟨rfl, hy⟩
      · exact ⟨fun k => absurd k (by decide), fun _ => next 1 (Or.inl ⟨rfl, Or.inl hy⟩)⟩
      · refine ⟨fun _ => t_sizeOf hf hrok hl hv ?_, fun k => absurd rfl k⟩
        rw [nI_leI (by omega) (by omega)]
        refine ⟨fun k => next 0 (Or.inr ⟨rfl, fun h => h.elim hy (fun h => by omega)⟩), fun k => ⟨vp_in_nI (show i < 1400 by omega) (by omega), ?_⟩⟩
        have kp : p < v.length := by omega
        have hlt : v.getD p 0 < 16 := by
          have : v.getD p 0 ∈ v := by
            rw [List.getD, List.getElem?_eq_getElem kp]
            exact List.getElem_mem kp
          exact hvok.2 _ this
        rw [nI_clamp (by omega), hf.2.2.1 i v hv, eM_at hvok kp, nI_l (by omega), lgc0, pk_lEQ (by omega) (by omega)]
        exact ⟨fun e => next 1 (Or.inl ⟨rfl, Or.inr ⟨kp, e.symm⟩⟩), fun e => next 0 (Or.inr ⟨rfl, fun h => h.elim hy (fun h => e h.2.symm)⟩)⟩
  · obtain ⟨k, hk, e⟩ := hx2 h
    rw [e] at g4
    exact g4 ((nI_leI (b := 15) (by omega) (by omega)).mpr (by omega))
theorem lgcle (x y : Int64) : lg_cmp x y ≤ 0 ↔ x ≤ y := by
  unfold lg_cmp
  by_cases h : x > y
  · rw [if_pos h]
    exact ⟨fun e => absurd e (by decide), fun e => absurd h (Int64.not_lt.mpr e)⟩
  · rw [if_neg h]
    have hle : x ≤ y := Int64.not_lt.mp h
    by_cases h2 : x = y
    · rw [if_pos h2]; exact ⟨fun _ => hle, fun _ => by decide⟩
    · rw [if_neg h2]; exact ⟨fun _ => hle, fun _ => by decide⟩
theorem lN_zero {n : Nat} (h : n < 2 ^ 31) : lN n ≤ (0 : Int64) ↔ n = 0 := by
  have : lN n ≤ lN 0 ↔ n ≤ 0 := pk_lLE (by omega) (by omega)
  exact this.trans ⟨fun h => by omega, fun h => by omega⟩
theorem t_certain {r : zR} {E : List (List Nat)} {τ : zS} {x1 : Int32} {post : Int32 → zS → Prop} (hwf : rWF r) (hr : yRec r τ) (hf : yFnd r E τ) (hE : E.length ≤ 680) (hcnt : ∀ u, rCnt r u E ≤ E.length) (h1 : (∃ u d, cOpen r x1 u d ∧ E ≠ [] ∧ rCnt r u E = E.length) → post 1 τ) (h0 : (¬ ∃ u d, cOpen r x1 u d ∧ E ≠ [] ∧ rCnt r u E = E.length) → post 0 τ) : j_M_certain x1 τ post := by
  have hN := hwf.1
  unfold j_M_certain
  refine t_openC hwf hr (fun u d hc hO => ⟨fun g => ?_, fun _ => ?_⟩) (fun g => ⟨fun _ => h0 (fun ⟨u, d, k, _⟩ => g ⟨u, d, k⟩), fun h => absurd m1_neg h⟩)
  · have := hc.2.2.1
    exact absurd g (nI_pos (by omega))
  · obtain ⟨hu, hx, hd, hdu⟩ := id hc
    subst hx
    have hcu := hcnt u
    rw [lgcle, hf.1, lN_zero (by omega)]
    refine ⟨fun g => h0 (fun ⟨_, _, _, k, _⟩ => k (List.length_eq_zero_iff.mp g)), fun g => ⟨vp_in_nI hu (by omega), ?_⟩⟩
    rw [nI_clamp (by omega), (hf.2.2.2 u hu).1, lgc0, pk_lEQ (by omega) (by omega)]
    refine ⟨fun g2 => h1 ⟨u, d, hc, fun e => g (by rw [e]; rfl), g2⟩, fun g2 => h0 (fun ⟨u', d', k1, _, k3⟩ => ?_)⟩
    rw [(cOpen_u hwf hc k1).1] at k3
    exact g2 k3
