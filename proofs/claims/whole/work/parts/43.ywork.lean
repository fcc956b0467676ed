/-! The reference: the whole search -/
theorem yKp_A {τ : zS} {k i : Nat} {v : Int32} (h : 7 ≤ k) : yKp τ (zA τ k i v) := by
  refine ⟨fun _ _ => rfl, fun j hj => ?_⟩
  have : ¬ j = k := by omega
  simp [zA, zF, va_up, this]
theorem yKp_I {τ : zS} {k : Nat} {v : Int32} (h : 5 ≤ k) : yKp τ (zI τ k v) := by
  refine ⟨fun j hj => ?_, fun _ _ => rfl⟩
  have : ¬ j = k := by omega
  simp [zI, va_up, this]
/-- steps of the loop at a node, without its end -/
def sSt (f : Nat → Nat) : Nat → Nat → Nat
  | _, 0 => 0
  | c, j + 1 => f c + sSt f (c + 1) j
noncomputable def sN (r : zR) : Nat → List Nat → Nat
  | 0, _ => sSt (fun _ => 1) 0 (rN r)
  | k + 1, L => sSt (fun c => 1 + rif (rCM r L c ∧ rRe r L c) (sN r k (L ++ [c]) + 1) 0) 0 (rN r)
theorem sSt_1 : ∀ j c, sSt (fun _ => 1) c j = j := by
  intro j
  induction j with
  | zero => intro c; rfl
  | succ j ih => intro c; show 1 + sSt _ (c + 1) j = j + 1; rw [ih]; omega
def sB : Nat → Nat
  | 0 => 9
  | k + 1 => 9 + (k + 1) * sB k
theorem sB_8 : sB 8 = 986409 := by decide
/-- how many of the calls from c on aren't in L -/
def sFree (L : List Nat) : Nat → Nat → Nat
  | _, 0 => 0
  | c, j + 1 => (if c ∈ L then 0 else 1) + sFree L (c + 1) j
theorem sFree_le {L : List Nat} {n : Nat} (hnd : L.Nodup) (hL : ∀ x, x ∈ L → x < n) : sFree L 0 n + L.length ≤ n := by
  have key : ∀ j c, sFree L c j + ((List.range' c j).filter (fun x => decide (x ∈ L))).length = j := by
    intro j
    induction j with
    | zero => intro c; rfl
    | succ j ih =>
      intro c
      rw [List.range'_succ, List.filter_cons]
      have := ih (c + 1)
      by_cases h : c ∈ L
      · rw [if_pos (by simpa using h), List.length_cons]
        unfold sFree
        rw [if_pos h]
        omega
      · rw [if_neg (by simpa using h)]
        unfold sFree
        rw [if_neg h]
        omega
  have h1 := key n 0
  have h2 : L.length ≤ ((List.range' 0 n).filter (fun x => decide (x ∈ L))).length := by
    refine List.Nodup.length_le_of_subset hnd (fun x hx => List.mem_filter.mpr ⟨?_, by simpa using hx⟩)
    rw [List.mem_range'_1]
    have := hL x hx
    omega
  omega
theorem sN_le {r : zR} (hwf : rWF r) : ∀ (k : Nat) (L : List Nat), L.Nodup → (∀ x, x ∈ L → x < rN r) → L.length + k = 8 → sN r k L + 1 ≤ sB k := by
  have hN := hwf.1
  intro k
  induction k with
  | zero => intro L _ _ _; show sSt (fun _ => 1) 0 (rN r) + 1 ≤ 9; rw [sSt_1]; omega
  | succ k ih =>
    intro L hnd hL hk
    show sSt (fun c => 1 + rif (rCM r L c ∧ rRe r L c) (sN r k (L ++ [c]) + 1) 0) 0 (rN r) + 1 ≤ 9 + (k + 1) * sB k
    have key : ∀ j c, c + j = rN r → sSt (fun c => 1 + rif (rCM r L c ∧ rRe r L c) (sN r k (L ++ [c]) + 1) 0) c j ≤ j + sFree L c j * sB k := by
      intro j
      induction j with
      | zero => intro c _; exact Nat.zero_le _
      | succ j jh =>
        intro c hc
        have h1 := jh (c + 1) (by omega)
        show 1 + rif (rCM r L c ∧ rRe r L c) (sN r k (L ++ [c]) + 1) 0 + sSt _ (c + 1) j ≤ j + 1 + ((if c ∈ L then 0 else 1) + sFree L (c + 1) j) * sB k
        rw [Nat.add_mul]
        by_cases h : rCM r L c ∧ rRe r L c
        · rw [rif_t h, if_neg h.1.1.1, Nat.one_mul]
          have h2 := ih (L ++ [c]) (List.nodup_append.mpr ⟨hnd, by simp, fun a ha b hb e => h.1.1.1 (by rw [← List.mem_singleton.mp hb, ← e]; exact ha)⟩) (fun x hx => (List.mem_append.mp hx).elim (hL x) (fun h => by rw [List.mem_singleton.mp h]; omega)) (by simp; omega)
          omega
        · rw [rif_f h]
          have : 0 ≤ (if c ∈ L then 0 else 1) * sB k := Nat.zero_le _
          omega
    have h1 := key (rN r) 0 (by omega)
    have h2 := sFree_le hnd hL
    have h3 : sFree L 0 (rN r) ≤ k + 1 := by omega
    have h4 := Nat.mul_le_mul_right (sB k) h3
    omega
/-- what the search leaves: the record alone -/
def yNode (r : zR) (L : List Nat) (c : Nat) (E : List (List Nat)) (τ : zS) : Prop := yRec r τ ∧ yFnd r E τ ∧ yPath L τ ∧ τ.2.1 9 L.length = nI c
theorem rRows_ok {r : zR} (hwf : rWF r) : ∀ (E : List (List Nat)), (∀ L, L ∈ E → ∀ x, x ∈ L → x < rN r) → ∀ v, v ∈ rRows r E → eOk v := by
  have key : ∀ (E : List (List Nat)) (rs : List (List Nat)), (∀ L, L ∈ E → ∀ x, x ∈ L → x < rN r) → (∀ v, v ∈ rs → eOk v) → ∀ v, v ∈ E.foldl (fun rs L => dd rs (rRun r L).1) rs → eOk v := by
    intro E
    induction E with
    | nil => intro rs _ h; exact h
    | cons L t ih =>
      intro rs hE h
      rw [List.foldl_cons]
      refine ih _ (fun M hM => hE M (List.mem_cons_of_mem _ hM)) (fun v hv => ?_)
      unfold dd at hv
      by_cases hm : (rRun r L).1 ∈ rs
      · rw [if_pos hm] at hv; exact h v hv
      · rw [if_neg hm] at hv
        rcases List.mem_append.mp hv with hv | hv
        · exact h v hv
        · rw [List.mem_singleton.mp hv]; exact rRun_ok hwf L (hE L (List.mem_cons_self ..))
  intro E hE
  exact key E [] hE (fun v hv => absurd hv (List.not_mem_nil))
theorem rG_lt {r : zR} {L : List Nat} (h : rG r L) : ∀ x, x ∈ L → x < rN r := fun x hx => (h.2.1 x hx).1
theorem rReA_snoc {r : zR} {L : List Nat} {c : Nat} (h : rReA r L) : rReA r (L ++ [c]) ↔ rRe r L c := by
  constructor
  · intro g
    have := g L.length c (by simp)
    rwa [List.take_left' rfl] at this
  · intro g i d hd
    by_cases hi : i < L.length
    · rw [List.getElem?_append_left hi] at hd
      rw [List.take_append_of_le_length (by omega)]
      exact h i d hd
    · have hi3 : i = L.length := by
        have := (List.getElem?_eq_some_iff.mp hd).1
        simp at this
        omega
      subst hi3
      have hd : c = d := by simpa using hd
      subst hd
      rw [List.take_left' rfl]
      exact g
theorem rPw_snoc {r : zR} {L : List Nat} {c : Nat} (h : L.Pairwise (fun x y => ¬ (rS r y = 1 ∧ rU r y < rF r x))) : (L ++ [c]).Pairwise (fun x y => ¬ (rS r y = 1 ∧ rU r y < rF r x)) ↔ ∀ x, x ∈ L → ¬ (rS r c = 1 ∧ rU r c < rF r x) := by
  rw [List.pairwise_append]
  constructor
  · intro g x hx
    exact g.2.2 x hx c (List.mem_singleton.mpr rfl)
  · intro g
    refine ⟨h, by simp, fun a ha b hb => ?_⟩
    rw [List.mem_singleton.mp hb]
    exact g a ha
theorem t_step {r : zR} {L : List Nat} {c s : Nat} {E : List (List Nat)} {τ : zS} {post : zS → Prop} {K : Int32 → zS → Prop} {R : Int32 × zS → Prop} (hwf : rWF r) (hG : rG r L) (hRe : rReA r L) (hc : c < rN r) (hn : yNode r L c E τ) (hrok : ∀ v, v ∈ rRows r E → eOk v) (hE : E.length < 1400) (hs : s < 2000000)
    (hskip : ¬ (rCM r L c ∧ rRe r L c) → ∀ τ', yNode r L (c + 1) E τ' → (∀ i, i < L.length → τ'.2.1 9 i = τ.2.1 9 i) → yKp τ τ' → R (nI (s + 1), τ'))
    (hgo : rCM r L c ∧ rRe r L c → L.length < 8 → ∀ τ', yNode r (L ++ [c]) 0 (E ++ rNote r (L ++ [c])) τ' → (∀ i, i < L.length → τ'.2.1 9 i = τ.2.1 9 i) → τ'.2.1 9 L.length = nI (c + 1) → yKp τ τ' → R (nI (s + 1), τ')) : b_M_work_60 post K R (nI s, τ) := by
  have hN := hwf.1
  obtain ⟨hr, hf, hpa, hnx⟩ := hn
  have hL := rG_lt hG
  have hlen : L.length ≤ 8 := by
    have := sFree_le hG.1 hL
    omega
  dsimp only [b_M_work_60]
  have h2m : (2000000 : Int32) ≤ nI s ↔ 2000000 ≤ s := nI_leI (a := 2000000) (by omega) (by omega)
  have in9 := vp_in_nI (show L.length < 9 by omega) (show 9 < 2 ^ 31 by omega)
  have inc := vp_in_nI (show c < 8 by omega) (show 8 < 2 ^ 31 by omega)
  rw [h2m, hpa.1, nI_clamp (show L.length < 2 ^ 31 by omega), hnx, nI_1]
  refine ⟨fun g => absurd g (by omega), fun _ => ⟨in9, znm_i ?_⟩⟩
  have hle : τ.1 4 ≤ nI c ↔ rN r ≤ c := by rw [hr.1.2.2]; exact nI_leI (by omega) (by omega)
  rw [hle]
  refine ⟨fun g => absurd g (by omega), fun _ => ⟨in9, znm_i ⟨inc, ?_⟩⟩⟩
  rw [nI_1, nI_clamp (show c < 2 ^ 31 by omega)]
  obtain ⟨τ1, e1⟩ : ∃ z, z = zA τ 9 L.length (nI (c + 1)) := ⟨_, rfl⟩
  have k1 : yKp τ τ1 := by
    rw [e1]
    exact yKp_A (by omega)
  have r1 := hr.kp k1
  have f1 : yFnd r E τ1 := by
    rw [e1]
    obtain ⟨g1, g2, g3, g4⟩ := hf
    exact ⟨g1, g2, g3, fun u hu => by have := g4 u hu; simp [zA, zF, va_up, this.1, this.2]⟩
  have p1 : yPath L τ1 := by
    rw [e1]
    exact ⟨hpa.1, fun i x hx => by have := hpa.2 i x hx; simp [zA, zF, va_up, this]⟩
  have n1 : τ1.2.1 9 L.length = nI (c + 1) := by rw [e1]; simp [zA, zF, va_up, upd]
  have o1 : ∀ i, i < L.length → τ1.2.1 9 i = τ.2.1 9 i := by
    intro i hi
    have : ¬ i = L.length := by omega
    rw [e1]
    simp [zA, zF, va_up, upd, this]
  rw [← e1, (r1.2 c hc).1.2.2.2]
  have skip : ¬ (rCM r L c ∧ rRe r L c) → R (nI (s + 1), τ1) := fun h => hskip h τ1 ⟨r1, f1, p1, n1⟩ o1 k1
  refine ⟨fun g => skip (fun h => h.1.1.2 g), fun g => ?_⟩
  refine t_isListed hlen (fun x hx => Nat.lt_of_lt_of_le (hL x hx) hN) (by omega) p1 (fun hm => ⟨fun h => absurd h (by decide), fun _ => skip (fun h => h.1.1.1 hm)⟩) (fun hm => ⟨fun _ => ?_, fun h => absurd rfl h⟩)
  have hl8 : L.length < 8 := by
    have hnd : (L ++ [c]).Nodup := List.nodup_append.mpr ⟨hG.1, by simp, fun a ha b hb e => hm (by rw [← List.mem_singleton.mp hb, ← e]; exact ha)⟩
    have := sFree_le (n := rN r) hnd (fun x hx => (List.mem_append.mp hx).elim (hL x) (fun h => by rw [List.mem_singleton.mp h]; exact hc))
    simp at this
    omega
  have hnd : (L ++ [c]).Nodup := List.nodup_append.mpr ⟨hG.1, by simp, fun a ha b hb e => hm (by rw [← List.mem_singleton.mp hb, ← e]; exact ha)⟩
  have hL1 : ∀ x, x ∈ L ++ [c] → x < rN r := fun x hx => (List.mem_append.mp hx).elim (hL x) (fun h => by rw [List.mem_singleton.mp h]; exact hc)
  unfold j_M_lengthen
  rw [p1.1, nI_clamp (show L.length < 2 ^ 31 by omega)]
  refine ⟨vp_in_nI hl8 (by omega), znm_i (znm_i ?_)⟩
  have e5 : (zA τ1 7 L.length (nI c)).1 5 = nI L.length := p1.1
  rw [e5, nI_1]
  obtain ⟨τ3, e3⟩ : ∃ z, z = zI (zA τ1 7 L.length (nI c)) 5 (nI (L.length + 1)) := ⟨_, rfl⟩
  rw [← e3]
  have k3 : yKp τ1 τ3 := by
    rw [e3]
    refine ⟨fun k hk => ?_, fun k hk => ?_⟩
    · have : ¬ k = 5 := by omega
      simp [zI, zA, zF, va_up, this]
    · have : ¬ k = 7 := by omega
      simp [zI, zA, zF, va_up, this]
  have p3 : yPath (L ++ [c]) τ3 := by
    rw [e3]
    refine ⟨by simp [zI, va_up], fun i x hx => ?_⟩
    by_cases hi : i < L.length
    · rw [List.getElem?_append_left hi] at hx
      have := p1.2 i x hx
      have hne : ¬ i = L.length := by omega
      simp [zI, zA, zF, va_up, upd, hne, this]
    · have hi3 : i = L.length := by
        have := (List.getElem?_eq_some_iff.mp hx).1
        simp at this
        omega
      subst hi3
      have hx : c = x := by simpa using hx
      simp [zI, zA, zF, va_up, upd, hx]
  have f3 : yFnd r E τ3 := by
    rw [e3]
    obtain ⟨g1, g2, g3, g4⟩ := f1
    exact ⟨g1, by simp [zI, va_up]; exact g2, g3, fun u hu => by have := g4 u hu; simp [zI, zA, zF, va_up, this.1, this.2]⟩
  have n3 : ∀ i, τ3.2.1 9 i = τ1.2.1 9 i := by
    intro i
    rw [e3]
    simp [zI, zA, zF, va_up]
  have q3 : ∀ i x, L[i]? = some x → τ3.2.1 7 i = nI x := by
    intro i x hx
    exact p3.2 i x (by rw [List.getElem?_append_left (List.getElem?_eq_some_iff.mp hx).1]; exact hx)
  have fnd : ∀ τ', yGd τ3 τ' → yFnd r E τ' := by
    intro τ' hg
    obtain ⟨g1, g2, g3, g4⟩ := f3
    exact ⟨by rw [hg.2.2]; exact g1, by rw [hg.1 7 (by omega)]; exact g2, by rw [hg.2.2]; exact g3, by rw [hg.2.2, hg.2.1 11 (by omega) (by omega)]; exact g4⟩
  refine t_good hwf (r1.kp k3) (by simp; omega) hnd hL1 p3 (fun hpw hre τ4 hgd hrow hgiv => ⟨fun h => absurd h (by decide), fun _ => ?_⟩) (fun hno τ4 hgd => ⟨fun _ => znm_i ?_, fun h => absurd rfl h⟩)
  · have hcm : rCM r L c := ⟨⟨hm, g⟩, (rPw_snoc hG.2.2).mp hpw⟩
    have hrc : rRe r L c := (rReA_snoc hRe).mp hre
    refine t_note hwf ((r1.kp k3).kp hgd.kp) (fnd τ4 hgd) (by simp; omega) hnd hL1 (hgd.path p3) hrow hgiv hrok hE (fun τ5 hnt hf5 => ?_)
    have p5 := hnt.path (hgd.path p3)
    rw [p5.1, nI_clamp (by simp; omega)]
    refine ⟨vp_in_nI (show (L ++ [c]).length < 9 by simp; omega) (by omega), znm_i ?_⟩
    have n5 : ∀ i, τ5.2.1 9 i = τ1.2.1 9 i := fun i => by rw [hnt.2 9 (by omega), hgd.2.1 9 (by omega) (by omega)]; exact n3 i
    have k6 : yKp τ5 (zA τ5 9 (L ++ [c]).length (0 : Int32)) := yKp_A (by omega)
    refine hgo ⟨hcm, hrc⟩ hl8 _ ⟨((((r1.kp k3).kp hgd.kp).kp hnt.kp).kp k6), ?_, ?_, ?_⟩ (fun i hi => ?_) ?_ (k1.tr (k3.tr (hgd.kp.tr (hnt.kp.tr k6))))
    · obtain ⟨g1, g2, g3, g4⟩ := hf5
      exact ⟨g1, g2, g3, fun u hu => by have := g4 u hu; simp [zA, zF, va_up, this.1, this.2]⟩
    · exact ⟨p5.1, fun i x hx => by have := p5.2 i x hx; simp [zA, zF, va_up, this]⟩
    · simp [zA, zF, va_up, upd]; rfl
    · have : ¬ i = L.length + 1 := by omega
      have h2 := n5 i
      have h3 := o1 i hi
      simp [zA, zF, va_up, upd, this, h2, h3]
    · have h2 := n5 L.length
      simp [zA, zF, va_up, upd, h2, n1]
  · have e45 : τ4.1 5 = nI (L.length + 1) := by rw [(hgd.path p3).1]; simp
    rw [e45, nI_pred]
    have k5 : yKp τ4 (zI τ4 5 (nI L.length)) := yKp_I (by omega)
    refine hskip (fun h => hno ⟨(rPw_snoc hG.2.2).mpr h.1.2, (rReA_snoc hRe).mpr h.2⟩) _ ⟨(((r1.kp k3).kp hgd.kp).kp k5), ?_, ?_, ?_⟩ (fun i hi => ?_) (k1.tr (k3.tr (hgd.kp.tr k5)))
    · obtain ⟨g1, g2, g3, g4⟩ := fnd τ4 hgd
      exact ⟨g1, by simp [zI, va_up]; exact g2, g3, g4⟩
    · refine ⟨by simp [zI, va_up], fun i x hx => ?_⟩
      show τ4.2.1 7 i = _
      rw [hgd.2.1 7 (by omega) (by omega)]
      exact q3 i x hx
    · show τ4.2.1 9 L.length = _
      rw [hgd.2.1 9 (by omega) (by omega), n3, n1]
    · show τ4.2.1 9 i = _
      rw [hgd.2.1 9 (by omega) (by omega), n3, o1 i hi]
theorem t_pop {r : zR} {L : List Nat} {c c' s : Nat} {E : List (List Nat)} {τ : zS} {post : zS → Prop} {K : Int32 → zS → Prop} {R : Int32 × zS → Prop} (hwf : rWF r) (hl : L.length < 8) (hn : yNode r (L ++ [c]) (rN r) E τ) (hc' : τ.2.1 9 L.length = nI c') (hs : s < 2000000)
    (hgo : ∀ τ', yNode r L c' E τ' → (∀ i, τ'.2.1 9 i = τ.2.1 9 i) → yKp τ τ' → R (nI (s + 1), τ')) : b_M_work_60 post K R (nI s, τ) := by
  have hN := hwf.1
  obtain ⟨hr, hf, hpa, hnx⟩ := hn
  have hlc : (L ++ [c]).length = L.length + 1 := by simp
  rw [hlc] at hnx
  have h5 : τ.1 5 = nI (L.length + 1) := by rw [hpa.1, hlc]
  dsimp only [b_M_work_60]
  have h2m : (2000000 : Int32) ≤ nI s ↔ 2000000 ≤ s := nI_leI (a := 2000000) (by omega) (by omega)
  rw [h2m, h5, nI_clamp (by omega), hnx, nI_1]
  refine ⟨fun g => absurd g (by omega), fun _ => ⟨vp_in_nI (show L.length + 1 < 9 by omega) (by omega), znm_i ?_⟩⟩
  have hle : τ.1 4 ≤ nI (rN r) ↔ rN r ≤ rN r := by rw [hr.1.2.2]; exact nI_leI (by omega) (by omega)
  rw [hle]
  refine ⟨fun _ => ⟨fun h => absurd h (nI_ne0 (by omega) (by omega)), fun _ => znm_i ?_⟩, fun g => absurd (Nat.le_refl _) g⟩
  rw [nI_pred]
  have k5 : yKp τ (zI τ 5 (nI L.length)) := yKp_I (by omega)
  refine hgo _ ⟨hr.kp k5, ?_, ⟨by simp [zI, va_up], fun i x hx => hpa.2 i x (by rw [List.getElem?_append_left (List.getElem?_eq_some_iff.mp hx).1]; exact hx)⟩, hc'⟩ (fun _ => rfl) k5
  obtain ⟨g1, g2, g3, g4⟩ := hf
  exact ⟨g1, by simp [zI, va_up]; exact g2, g3, g4⟩
theorem t_end {r : zR} {s : Nat} {E : List (List Nat)} {τ : zS} {post : zS → Prop} {K : Int32 → zS → Prop} {R : Int32 × zS → Prop} (hwf : rWF r) (hn : yNode r [] (rN r) E τ) (hs : s < 2000000) (hp : post τ) : b_M_work_60 post K R (nI s, τ) := by
  have hN := hwf.1
  obtain ⟨hr, hf, hpa, hnx⟩ := hn
  have h5 : τ.1 5 = nI 0 := hpa.1
  have hnx : τ.2.1 9 0 = nI (rN r) := hnx
  dsimp only [b_M_work_60]
  have h2m : (2000000 : Int32) ≤ nI s ↔ 2000000 ≤ s := nI_leI (a := 2000000) (by omega) (by omega)
  rw [h2m, h5, nI_clamp (by omega), hnx]
  refine ⟨fun g => absurd g (by omega), fun _ => ⟨vp_in_nI (show 0 < 9 by omega) (by omega), znm_i ?_⟩⟩
  have hle : τ.1 4 ≤ nI (rN r) ↔ rN r ≤ rN r := by rw [hr.1.2.2]; exact nI_leI (by omega) (by omega)
  rw [hle]
  exact ⟨fun _ => ⟨fun _ => hp, fun h => absurd nI_0 h⟩, fun g => absurd (Nat.le_refl _) g⟩
