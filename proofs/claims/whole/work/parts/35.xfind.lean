/-! What the program finds: totals, rows, replies; the search -/
def rOp (r : zR) (u : Int32) : Nat → Int32
  | 0 => -1
  | k + 1 => if rW r k = u ∧ rS r k = 0 then nI k else rOp r u k
def rO (r : zR) (u : Nat) : Int32 := rOp r (nI u) (rN r)
theorem rOp_spec (r : zR) (u : Int32) : ∀ k, (rOp r u k = -1 ∧ ∀ c, c < k → ¬ (rW r c = u ∧ rS r c = 0)) ∨ ∃ c, c < k ∧ rOp r u k = nI c ∧ rW r c = u ∧ rS r c = 0 := by
  intro k
  induction k with
  | zero => exact Or.inl ⟨rfl, fun c h => absurd h (by omega)⟩
  | succ k ih =>
    by_cases h : rW r k = u ∧ rS r k = 0
    · exact Or.inr ⟨k, by omega, if_pos h, h.1, h.2⟩
    · have e : rOp r u (k + 1) = rOp r u k := if_neg h
      rcases ih with ⟨h1, h2⟩ | ⟨c, h1, h2, h3⟩
      · refine Or.inl ⟨by rw [e, h1], fun c hc => ?_⟩
        by_cases hck : c = k
        · rw [hck]; exact h
        · exact h2 c (by omega)
      · exact Or.inr ⟨c, by omega, by rw [e, h2], h3⟩
theorem nI_m1 {c : Nat} (h : c < 2 ^ 31) : ¬ nI c = (-1 : Int32) := by
  intro e
  have := nI_pos h
  rw [e] at this
  exact this (by decide)
def rLst (r : zR) (u : Nat) (L : List Nat) : Prop := ∃ c, c < rN r ∧ rO r u = nI c ∧ c ∈ L
def rRp (r : zR) (u : Nat) (L : List Nat) : Int32 := (rRun r L).2 (rO r u).toNatClampNeg
noncomputable def rCnt (r : zR) (u : Nat) (E : List (List Nat)) : Nat := E.foldl (fun n L => rif (rLst r u L) (n + 1) n) 0
noncomputable def rBit (r : zR) (u : Nat) (E : List (List Nat)) : Int32 := E.foldl (fun b L => rif (rLst r u L) (b ||| ((1 : Int32) <<< ((rRp r u L + 1) &&& 31))) b) 0
def rRows (r : zR) (E : List (List Nat)) : List (List Nat) := E.foldl (fun rs L => dd rs (rRun r L).1) []
theorem rCnt_snoc (r : zR) (u : Nat) (E : List (List Nat)) (L : List Nat) : rCnt r u (E ++ [L]) = rif (rLst r u L) (rCnt r u E + 1) (rCnt r u E) := by
  simp [rCnt, List.foldl_append]
theorem rBit_snoc (r : zR) (u : Nat) (E : List (List Nat)) (L : List Nat) : rBit r u (E ++ [L]) = rif (rLst r u L) (rBit r u E ||| ((1 : Int32) <<< ((rRp r u L + 1) &&& 31))) (rBit r u E) := by
  simp [rBit, List.foldl_append]
theorem rRows_snoc (r : zR) (E : List (List Nat)) (L : List Nat) : rRows r (E ++ [L]) = dd (rRows r E) (rRun r L).1 := by
  simp [rRows, List.foldl_append]
theorem dd_len (rs : List (List Nat)) (w : List Nat) : (dd rs w).length ≤ rs.length + 1 := by
  unfold dd
  split
  · omega
  · simp
theorem rRows_len (r : zR) (E : List (List Nat)) : (rRows r E).length ≤ E.length := by
  have key : ∀ (E : List (List Nat)) (rs : List (List Nat)), (E.foldl (fun rs L => dd rs (rRun r L).1) rs).length ≤ rs.length + E.length := by
    intro E
    induction E with
    | nil => intro rs; simp
    | cons L t ih =>
      intro rs
      rw [List.foldl_cons, List.length_cons]
      have := ih (dd rs (rRun r L).1)
      have := dd_len rs (rRun r L).1
      omega
  have := key E []
  simpa [rRows] using this
/-- the record in the program -/
def xRec (r : zR) (σ : zS) : Prop := xSt r σ ∧ σ.1 2 = nI (rN r) ∧ (∀ d, d < 32 → (bt (σ.1 3) d = true ↔ d < rN r ∧ rS r d = 1)) ∧ (∀ d, d < 32 → (bt (σ.1 4) d = true ↔ d < rN r ∧ rS r d = 2))
  ∧ (∀ c, c < rN r → (∀ d, d < 32 → (bt (σ.2.1 8 c) d = true ↔ d < rN r ∧ rS r d = 1 ∧ rU r d < rF r c)) ∧ (rS r c = 1 → σ.2.1 9 c = rA r c)) ∧ ∀ u, u < 3 → σ.2.1 0 u = rO r u
def xFnd (r : zR) (E : List (List Nat)) (σ : zS) : Prop := σ.1 7 = nI E.length ∧ xSet (rRows r E) σ ∧ ∀ u, u < 3 → σ.2.1 2 u = nI (rCnt r u E) ∧ σ.2.1 3 u = rBit r u E
/-- what the search leaves as it was -/
def xKp (σ σ' : zS) : Prop := (∀ k, k ≠ 7 → k ≠ 8 → σ'.1 k = σ.1 k) ∧ ∀ k, k = 0 ∨ 5 ≤ k → σ'.2.1 k = σ.2.1 k
theorem xKp.rf (σ : zS) : xKp σ σ := ⟨fun _ _ _ => rfl, fun _ _ => rfl⟩
theorem xKp.tr {σ1 σ2 σ3 : zS} (h : xKp σ1 σ2) (g : xKp σ2 σ3) : xKp σ1 σ3 := ⟨fun k h7 h8 => (g.1 k h7 h8).trans (h.1 k h7 h8), fun k hk => (g.2 k hk).trans (h.2 k hk)⟩
theorem xSt.kp {r : zR} {σ σ' : zS} (h : xSt r σ) (g : xKp σ σ') : xSt r σ' := by
  obtain ⟨h1, h2, h3⟩ := h
  refine ⟨by rw [g.1 0 (by omega) (by omega)]; exact h1, by rw [g.1 1 (by omega) (by omega)]; exact h2, fun c hc => ?_⟩
  rw [g.2 5 (by omega), g.2 6 (by omega), g.2 7 (by omega)]
  exact h3 c hc
theorem xRec.kp {r : zR} {σ σ' : zS} (h : xRec r σ) (g : xKp σ σ') : xRec r σ' := by
  obtain ⟨h1, h2, h3, h4, h5, h6⟩ := h
  refine ⟨h1.kp g, by rw [g.1 2 (by omega) (by omega)]; exact h2, by rw [g.1 3 (by omega) (by omega)]; exact h3, by rw [g.1 4 (by omega) (by omega)]; exact h4, fun c hc => ?_, fun u hu => ?_⟩
  · rw [g.2 8 (by omega), g.2 9 (by omega)]; exact h5 c hc
  · rw [g.2 0 (by omega)]; exact h6 u hu
theorem xSet.eq {rs : List (List Nat)} {σ σ' : zS} (h : xSet rs σ) (e1 : σ'.1 8 = σ.1 8) (e2 : σ'.2.2 0 = σ.2.2 0) (e3 : σ'.2.1 4 = σ.2.1 4) : xSet rs σ' := by
  obtain ⟨a1, a2, a3, a4, a5, sl, b1, b2, b3⟩ := h
  exact ⟨a1, a2, a3, by rw [e1]; exact a4, by rw [e2]; exact a5, sl, by rw [e3]; exact b1, b2, b3⟩
theorem s_isIn {x : Int32} {i : Nat} {post : Int32 → Prop} (hi : i < 32) (h1 : bt x i = true → post 1) (h0 : bt x i = false → post 0) : j_X5_isIn x (nI i) post := by
  unfold j_X5_isIn
  rw [mB_in x hi]
  exact ⟨h0, fun h => h1 (by simpa using h)⟩
theorem i_sub (x : Int32) : x - (-1 : Int32) = x + 1 := by
  rw [Int32.sub_eq_add_neg]
  rfl
theorem s_note {r : zR} {E : List (List Nat)} {L : List Nat} {m : Int32} {σ : zS} {post : zS → Prop} (hwf : rWF r) (hr : xRec r σ) (hf : xFnd r E σ) (hm : ∀ d, d < 32 → (bt m d = true ↔ d ∈ L)) (hL : ∀ c, c ∈ L → c < rN r) (hrp : ∀ c, c ∈ L → σ.2.1 1 c = (rRun r L).2 c) (hroom : E.length < 680)
    (hp : ∀ σ', xKp σ σ' → σ'.2.1 1 = σ.2.1 1 → xFnd r (E ++ [L]) σ' → post σ') : j_X5_noteExplanation m (eX (rRun r L).1) σ post := by
  obtain ⟨f1, f2, f3⟩ := hf
  have hok := rRun_ok hwf L hL
  have hN := hwf.1
  unfold j_X5_noteExplanation j_X1_addExplanation
  refine znm_i ?_
  refine s_add (rs := rRows r E) (f2.eq rfl rfl rfl) hok (Or.inr (Nat.lt_of_le_of_lt (rRows_len r E) hroom)) (fun σ2 hs2 hfr => ?_)
  have ea : ∀ k, k ≠ 4 → σ2.2.1 k = σ.2.1 k := fun k hk => hfr.2 k hk
  have es : ∀ k, k ≠ 7 → k ≠ 8 → σ2.1 k = σ.1 k := fun k h7 h8 => by rw [hfr.1 k h8]; simp [zI, va_up, h7]
  have e7 : σ2.1 7 = nI (E.length + 1) := by rw [hfr.1 7 (by omega)]; simp [zI, va_up, f1, nI_1]
  refine zLP_rule (fun q => ∃ u, u ≤ 3 ∧ q.1 = nI u ∧ xSet (rRows r (E ++ [L])) q.2 ∧ q.2.1 = σ2.1 ∧ (∀ k, k ≠ 2 → k ≠ 3 → q.2.2.1 k = σ2.2.1 k) ∧ (∀ v, v < u → q.2.2.1 2 v = nI (rCnt r v (E ++ [L])) ∧ q.2.2.1 3 v = rBit r v (E ++ [L])) ∧ (∀ v, u ≤ v → v < 3 → q.2.2.1 2 v = nI (rCnt r v E) ∧ q.2.2.1 3 v = rBit r v E)) (fun q => 3 - q.1.toNatClampNeg) ?_ _ ⟨0, by omega, rfl, by rw [rRows_snoc]; exact hs2, rfl, fun _ _ _ => rfl, fun v h => absurd h (by omega), fun v _ hv => by rw [ea 2 (by omega), ea 3 (by omega)]; exact f3 v hv⟩
  rintro ⟨y, τ⟩ ⟨u, hu, hy, hset, hs1, ha1, hlo, hhi⟩ R hR
  dsimp only at hy hset hs1 ha1 hlo hhi
  subst hy
  dsimp only [b_X5_noteExplanation_11]
  have hle : (3 : Int32) ≤ nI u ↔ 3 ≤ u := nI_leI (a := 3) (by omega) (by omega)
  rw [hle]
  refine ⟨fun g => ?_, fun g => ?_⟩
  · have hu3 : u = 3 := by omega
    subst hu3
    refine hp τ ⟨fun k h7 h8 => by rw [hs1, es k h7 h8], fun k hk => by rw [ha1 k (by omega) (by omega), ea k (by omega)]⟩ (by rw [ha1 1 (by omega) (by omega), ea 1 (by omega)]) ⟨by rw [hs1, e7]; simp, hset, fun v hv => hlo v hv⟩
  · have hu3 : u < 3 := by omega
    have hopen : τ.2.1 0 u = rO r u := by rw [ha1 0 (by omega) (by omega), ea 0 (by omega)]; exact hr.2.2.2.2.2 u hu3
    refine ⟨vp_in_nI hu3 (by omega), znm_i ?_⟩
    rw [nI_clamp (by omega), hopen]
    have skip : ¬ rLst r u L → R (nI u + 1, τ) := by
      intro hn
      rw [nI_1]
      refine hR _ ⟨u + 1, by omega, rfl, hset, hs1, ha1, fun v hv => ?_, fun v hv hv3 => hhi v (by omega) hv3⟩ (by dsimp only; rw [nI_clamp (by omega), nI_clamp (by omega)]; omega)
      by_cases e : v = u
      · subst e
        rw [rCnt_snoc, rBit_snoc, rif_f hn, rif_f hn]
        exact hhi v (by omega) hu3
      · exact hlo v (by omega)
    rcases rOp_spec r (nI u) (rN r) with ⟨o1, o2⟩ | ⟨c, o1, o2, o3⟩
    · have o1 : rO r u = -1 := o1
      refine ⟨fun _ => skip ?_, fun g2 => absurd o1 g2⟩
      rintro ⟨c, hc, e, -⟩
      rw [o1] at e
      exact nI_m1 (by omega) e.symm
    · have o2 : rO r u = nI c := o2
      rw [o2]
      refine ⟨fun g2 => absurd g2 (nI_m1 (by omega)), fun _ => ?_⟩
      refine s_isIn (by omega) (fun b1 => ?_) (fun b0 => ?_)
      · have hc := (hm c (by omega)).mp b1
        refine ⟨fun g2 => absurd g2 (by decide), fun _ => ⟨vp_in_nI (show c < 8 by omega) (by omega), ?_⟩⟩
        unfold j_X1_addReply
        have hin := vp_in_nI hu3 (show 3 < 2 ^ 31 by omega)
        refine ⟨hin, hin, znm_i ⟨hin, hin, znm_i ?_⟩⟩
        rw [nI_clamp (by omega), nI_clamp (by omega), nI_1]
        have hrep : τ.2.1 1 c = rRp r u L := by
          rw [ha1 1 (by omega) (by omega), ea 1 (by omega), hrp c hc]
          unfold rRp
          rw [o2, nI_clamp (by omega)]
        have hl : rLst r u L := ⟨c, o1, o2, hc⟩
        obtain ⟨k1, k2⟩ := hhi u (by omega) hu3
        refine hR _ ⟨u + 1, by omega, rfl, hset.eq ?_ ?_ ?_, ?_, fun k h2 h3 => ?_, fun v hv => ?_, fun v hv hv3 => ?_⟩ (by dsimp only; rw [nI_clamp (by omega), nI_clamp (by omega)]; omega)
        · simp [zA, zF]
        · simp [zA, zF]
        · simp [zA, zF, va_up]
        · simp only [zA, zF]; exact hs1
        · have := ha1 k h2 h3
          simp [zA, zF, va_up, h2, h3, this]
        · by_cases e : v = u
          · subst e
            rw [rCnt_snoc, rBit_snoc, rif_t hl, rif_t hl]
            simp [zA, zF, va_up, upd, k1, k2, hrep, i_sub, nI_1]
          · have := hlo v (by omega)
            simp [zA, zF, va_up, upd, e, this.1, this.2]
        · have hvu : ¬ v = u := by omega
          have := hhi v (by omega) hv3
          simp [zA, zF, va_up, upd, hvu, this.1, this.2]
      · refine ⟨fun _ => skip ?_, fun g2 => absurd rfl g2⟩
        rintro ⟨d, hd, e, hdL⟩
        rw [o2, nI_eq (by omega) (by omega)] at e
        subst e
        have := (hm c (by omega)).mpr hdL
        rw [b0] at this
        exact absurd this (by decide)
theorem s_mayStandNext {r : zR} {L : List Nat} {m : Int32} {c : Nat} {σ : zS} {post : Int32 → zS → Prop} (hwf : rWF r) (hr : xRec r σ) (hm : ∀ d, d < 32 → (bt m d = true ↔ d ∈ L)) (hc : c < rN r) (h1 : rCX r L c → post 1 σ) (h0 : ¬ rCX r L c → post 0 σ) : j_X5_mayStandNext (nI c) m σ post := by
  have hN := hwf.1
  obtain ⟨-, -, -, q4, q5, -⟩ := hr
  unfold j_X5_mayStandNext
  refine s_isIn (by omega) (fun b1 => ?_) (fun b0 => ?_)
  · refine ⟨fun g => absurd g (by decide), fun _ => h0 (fun h => ?_)⟩
    rw [b_or, Bool.or_eq_true, hm c (by omega), q4 c (by omega)] at b1
    exact b1.elim h.1.1 (fun b => h.1.2 b.2)
  · refine ⟨fun _ => ⟨vp_in_nI (show c < 8 by omega) (by omega), ?_⟩, fun g => absurd rfl g⟩
    rw [← Bool.not_eq_true, b_or, Bool.or_eq_true, hm c (by omega), q4 c (by omega)] at b0
    have hfree : c ∉ L ∧ rS r c ≠ 2 := ⟨fun h => b0 (Or.inl h), fun h => b0 (Or.inr ⟨hc, h⟩)⟩
    rw [nI_clamp (by omega), mB_sub]
    refine ⟨fun g => h1 ⟨hfree, fun d hd hs hu => (hm d (by omega)).mp (g d (by omega) (((q5 c hc).1 d (by omega)).mpr ⟨hd, hs, hu⟩))⟩, fun g => h0 (fun h => g (fun i hi hb => ?_))⟩
    obtain ⟨g1, g2, g3⟩ := ((q5 c hc).1 i hi).mp hb
    exact (hm i hi).mpr (h.2 i g1 g2 g3)
theorem fm_len {f : Nat → List (List Nat)} {c : Nat} : ∀ n, c ≤ n → ((List.range c).flatMap f).length ≤ ((List.range n).flatMap f).length := by
  intro n
  induction n with
  | zero => intro h; have : c = 0 := by omega
            subst this; exact Nat.le_refl _
  | succ n ih =>
    intro h
    by_cases e : c = n + 1
    · rw [e]; exact Nat.le_refl _
    · have := ih (by omega)
      rw [List.range_succ, List.flatMap_append, List.length_append]
      omega
theorem fm_succ {f : Nat → List (List Nat)} (c : Nat) : (List.range (c + 1)).flatMap f = (List.range c).flatMap f ++ f c := by
  rw [List.range_succ, List.flatMap_append]
  simp
set_option maxHeartbeats 1000000 in
theorem s_LL {r : zR} (hwf : rWF r) : ∀ (k : Nat) (L : List Nat) (E : List (List Nat)) (m : Int32) (σ : zS) (post : zS → Prop), L.length + k = 8 → (∀ c, c ∈ L → c < rN r) → (∀ d, d < 32 → (bt m d = true ↔ d ∈ L)) → xRec r σ → xFnd r E σ → (∀ c, c ∈ L → σ.2.1 1 c = (rRun r L).2 c) → E.length + (rVX r k L).length ≤ 680 →
    (∀ σ', xKp σ σ' → (∀ c, c ∈ L → σ'.2.1 1 c = σ.2.1 1 c) → xFnd r (E ++ rVX r k L) σ' → post σ') → jLL (k + 1) m (eX (rRun r L).1) (nI L.length) σ post := by
  have hN := hwf.1
  intro k
  induction k with
  | zero =>
    intro L E m σ post hk hL hm hr hf hrp hb hp
    show jF_X5_lengthenList (jF_X5_carryOut (jLL 0)) m _ _ σ post
    unfold jF_X5_lengthenList
    have h8 : nI L.length < (8 : Int32) ↔ L.length < 8 := nI_ltI (b := 8) (by omega) (by omega)
    rw [mB_sub, h8]
    have hall : (∀ i, i < 32 → bt (σ.1 3) i = true → bt m i = true) ↔ rAll r L := by
      refine ⟨fun g d hd hs => (hm d (by omega)).mp (g d (by omega) ((hr.2.2.1 d (by omega)).mpr ⟨hd, hs⟩)), fun g i hi hbi => ?_⟩
      obtain ⟨g1, g2⟩ := (hr.2.2.1 i hi).mp hbi
      exact (hm i hi).mpr (g i g1 g2)
    rw [hall]
    have hv : rVX r 0 L = rNote r L := rfl
    rw [hv] at hb hp
    refine ⟨fun g => ?_, fun g => ⟨fun g2 => absurd g2 (by omega), fun _ => ?_⟩⟩
    · have hn : rNote r L = [L] := rif_t g
      rw [hn] at hb hp
      exact s_note hwf hr hf hm hL hrp (by simp at hb; omega) (fun σ' h1 h2 h3 => ⟨fun g2 => absurd g2 (by omega), fun _ => hp σ' h1 (fun c _ => by rw [h2]) h3⟩)
    · have hn : rNote r L = [] := rif_f g
      rw [hn] at hp
      exact hp σ (xKp.rf σ) (fun _ _ => rfl) (by rw [List.append_nil]; exact hf)
  | succ k ih =>
    intro L E m σ post hk hL hm hr hf hrp hb hp
    show jF_X5_lengthenList (jF_X5_carryOut (jLL (k + 1))) m _ _ σ post
    unfold jF_X5_lengthenList
    have h8 : nI L.length < (8 : Int32) ↔ L.length < 8 := nI_ltI (b := 8) (by omega) (by omega)
    rw [mB_sub, h8]
    have hall : (∀ i, i < 32 → bt (σ.1 3) i = true → bt m i = true) ↔ rAll r L := by
      refine ⟨fun g d hd hs => (hm d (by omega)).mp (g d (by omega) ((hr.2.2.1 d (by omega)).mpr ⟨hd, hs⟩)), fun g i hi hbi => ?_⟩
      obtain ⟨g1, g2⟩ := (hr.2.2.1 i hi).mp hbi
      exact (hm i hi).mpr (g i g1 g2)
    rw [hall]
    obtain ⟨f, hfd⟩ : ∃ f, f = fun c => rif (rCX r L c ∧ rRe r L c) (rVX r k (L ++ [c])) [] := ⟨_, rfl⟩
    have hv : rVX r (k + 1) L = rNote r L ++ (List.range (rN r)).flatMap f := by rw [hfd]; rfl
    rw [hv] at hb hp
    rw [List.length_append] at hb
    have tail : ∀ σ0, xKp σ σ0 → σ0.2.1 1 = σ.2.1 1 → xFnd r (E ++ rNote r L) σ0 → zLP (b_X5_lengthenList_28 (jF_X5_carryOut (jLL (k + 1))) m (eX (rRun r L).1) (nI L.length) post (fun _ σ8 => post σ8)) ((0 : Int32), σ0) := by
      intro σ0 hk0 h10 hf0
      refine zLP_rule (fun q => ∃ c, c ≤ rN r ∧ q.1 = nI c ∧ xKp σ q.2 ∧ (∀ x, x ∈ L → q.2.2.1 1 x = σ.2.1 1 x) ∧ xFnd r (E ++ rNote r L ++ (List.range c).flatMap f) q.2) (fun q => rN r - q.1.toNatClampNeg) ?_ _ ⟨0, by omega, rfl, hk0, fun x _ => by rw [h10], by simpa using hf0⟩
      rintro ⟨y, τ⟩ ⟨c, hc, hy, hkp, hpath, hfn⟩ R hR
      dsimp only at hy hkp hpath hfn
      subst hy
      dsimp only [b_X5_lengthenList_28]
      have hrτ := hr.kp hkp
      have hle : τ.1 2 ≤ nI c ↔ rN r ≤ c := by rw [hrτ.2.1]; exact nI_leI (by omega) (by omega)
      rw [hle]
      refine ⟨fun g => ?_, fun g => ?_⟩
      · have e : c = rN r := by omega
        subst e
        exact hp τ hkp hpath (by rw [← List.append_assoc]; exact hfn)
      · have hcn : c < rN r := by omega
        have next : ∀ τ', xKp σ τ' → (∀ x, x ∈ L → τ'.2.1 1 x = σ.2.1 1 x) → xFnd r (E ++ rNote r L ++ (List.range c).flatMap f ++ f c) τ' → R (nI c + 1, τ') := by
          intro τ' g1 g2 g3
          rw [nI_1]
          refine hR _ ⟨c + 1, by omega, rfl, g1, g2, ?_⟩ (by dsimp only; rw [nI_clamp (by omega), nI_clamp (by omega)]; omega)
          dsimp only
          rw [fm_succ, ← List.append_assoc]
          exact g3
        have none : ¬ (rCX r L c ∧ rRe r L c) → R (nI c + 1, τ) := by
          intro hno
          refine next τ hkp hpath ?_
          have : f c = [] := by rw [hfd]; exact rif_f hno
          rw [this, List.append_nil]
          exact hfn
        refine s_mayStandNext hwf hrτ hm hcn (fun hX => ?_) (fun hX => ⟨fun _ => none (fun h => hX h.1), fun g2 => absurd rfl g2⟩)
        refine ⟨fun g2 => absurd g2 (by decide), fun _ => ?_⟩
        unfold jF_X5_carryOut
        have hin := vp_in_nI (show c < 8 by omega) (show 8 < 2 ^ 31 by omega)
        have hok := rRun_ok hwf L hL
        have hval := (hwf.2.2.1 c hcn).2.2.2
        refine ⟨hin, ?_⟩
        rw [nI_clamp (show c < 2 ^ 31 by omega)]
        refine s_replyTo hrτ.1 hwf.2.1.2 hcn hok ?_
        have go : rRe r L c → (vp_in (nI c) 8 ∧ znm (zA τ 1 c (rStep r c (rRun r L).1).1) fun σ6 => (vp_in (nI c) 8 ∧ j_X4_rowAfter c (eX (rRun r L).1) σ6 (fun r9 σ8 => jLL (k + 1) (m ||| ((1 : Int32) <<< (nI c &&& 31))) r9 (nI L.length + (1 : Int32)) σ8 (fun σ10 => R (nI c + 1, σ10))))) := by
          intro hre
          refine ⟨hin, znm_i ⟨hin, ?_⟩⟩
          have hkp6 : xKp τ (zA τ 1 c (rStep r c (rRun r L).1).1) := ⟨fun _ _ _ => rfl, fun k hk => by have : k ≠ 1 := by omega
                                                                                                       simp [zA, zF, va_up, this]⟩
          refine s_rowAfter (hrτ.1.kp hkp6) hwf.2.1.2 hcn hval hok ?_
          have e1 : eX (rStep r c (rRun r L).1).2 = eX (rRun r (L ++ [c])).1 := by rw [rRun_snoc]; rfl
          have e2 : nI L.length + (1 : Int32) = nI (L ++ [c]).length := by rw [nI_1]; simp
          have hfc : f c = rVX r k (L ++ [c]) := by rw [hfd]; exact rif_t ⟨hX, hre⟩
          rw [e1, e2]
          refine ih (L ++ [c]) (E ++ rNote r L ++ (List.range c).flatMap f) _ _ _ (by simp; omega) (fun x hx => ?_) (fun d hd => ?_) (hrτ.kp hkp6) ?_ (fun x hx => ?_) ?_ (fun σ' g1 g2 g3 => ?_)
          · rcases List.mem_append.mp hx with hx | hx
            · exact hL x hx
            · rw [List.mem_singleton.mp hx]; exact hcn
          · rw [mB_set m (by omega) hd, Bool.or_eq_true, hm d hd, List.mem_append, List.mem_singleton, decide_eq_true_iff]
          · obtain ⟨k1, k2, k3⟩ := hfn
            refine ⟨k1, k2.eq rfl rfl ?_, fun u hu => ?_⟩
            · simp [zA, zF, va_up]
            · have := k3 u hu
              simp [zA, zF, va_up, this.1, this.2]
          · rw [rRun_snoc]
            by_cases e : x = c
            · subst e
              simp [zA, zF, va_up, upd, rAdd]
            · have hxL : x ∈ L := (List.mem_append.mp hx).elim id (fun h => absurd (List.mem_singleton.mp h) e)
              have := hpath x hxL
              have h3 := hrp x hxL
              simp [zA, zF, va_up, upd, rAdd, e, this, h3]
          · have h1 := fm_len (f := f) (c := c + 1) (rN r) (by omega)
            rw [fm_succ, List.length_append, hfc] at h1
            simp only [List.length_append]
            omega
          · refine next σ' (hkp.tr (hkp6.tr g1)) (fun x hx => ?_) (by rw [hfc]; exact g3)
            rw [g2 x (List.mem_append_left _ hx)]
            have hne : ¬ x = c := fun e => hX.1.1 (e ▸ hx)
            have := hpath x hx
            simp [zA, zF, va_up, upd, hne, this]
        refine s_isIn (by omega) (fun b1 => ?_) (fun b0 => ?_)
        · have hs := ((hrτ.2.2.1 c (by omega)).mp b1).2
          refine ⟨fun g2 => absurd g2 (by decide), fun _ => ⟨hin, ?_⟩⟩
          rw [(hrτ.2.2.2.2.1 c hcn).2 hs]
          exact ⟨fun e => go (fun _ => e), fun e => none (fun h => e (h.2 hs))⟩
        · have hs : rS r c ≠ 1 := by
            intro h
            have := (hrτ.2.2.1 c (by omega)).mpr ⟨hcn, h⟩
            rw [b0] at this
            exact absurd this (by decide)
          exact ⟨fun _ => go (fun h => absurd h hs), fun g2 => absurd rfl g2⟩
    have hl8 : L.length < 8 := by omega
    refine ⟨fun g => ?_, fun g => ⟨fun _ => ?_, fun g2 => absurd hl8 g2⟩⟩
    · have hn : rNote r L = [L] := rif_t g
      rw [hn] at hb tail
      exact s_note hwf hr hf hm hL hrp (by simp at hb; omega) (fun σ' h1 h2 h3 => ⟨fun _ => tail σ' h1 h2 h3, fun g2 => absurd hl8 g2⟩)
    · have hn : rNote r L = [] := rif_f g
      rw [hn] at tail
      exact tail σ (xKp.rf σ) rfl (by rw [List.append_nil]; exact hf)
