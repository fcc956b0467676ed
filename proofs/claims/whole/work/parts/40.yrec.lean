/-! The record in the reference; its small methods -/
def yRec (r : zR) (τ : zS) : Prop := (τ.1 0 = rK r ∧ τ.1 1 = nI (rC r) ∧ τ.1 4 = nI (rN r)) ∧ ∀ c, c < rN r → (τ.2.1 0 c = rW r c ∧ τ.2.1 1 c = rP r c ∧ (rP r c ≠ 0 → τ.2.1 2 c = nI (rV r c)) ∧ τ.2.1 6 c = rS r c)
  ∧ (τ.2.1 3 c = nI (rF r c) ∧ rF r c < 2 ^ 31 ∧ (rS r c = 1 → τ.2.1 4 c = nI (rU r c) ∧ rU r c < 2 ^ 31 ∧ τ.2.1 5 c = rA r c))
/-- the record's cells stay -/
def yKp (τ τ' : zS) : Prop := (∀ k, k < 5 → τ'.1 k = τ.1 k) ∧ ∀ k, k < 7 → τ'.2.1 k = τ.2.1 k
theorem yKp.rf (τ : zS) : yKp τ τ := ⟨fun _ _ => rfl, fun _ _ => rfl⟩
theorem yKp.tr {a b c : zS} (h : yKp a b) (g : yKp b c) : yKp a c := ⟨fun k hk => (g.1 k hk).trans (h.1 k hk), fun k hk => (g.2 k hk).trans (h.2 k hk)⟩
theorem yRec.kp {r : zR} {τ τ' : zS} (h : yRec r τ) (g : yKp τ τ') : yRec r τ' := by
  obtain ⟨⟨h1, h2, h3⟩, h4⟩ := h
  refine ⟨⟨by rw [g.1 0 (by omega)]; exact h1, by rw [g.1 1 (by omega)]; exact h2, by rw [g.1 4 (by omega)]; exact h3⟩, fun c hc => ?_⟩
  rw [g.2 0 (by omega), g.2 1 (by omega), g.2 2 (by omega), g.2 6 (by omega), g.2 3 (by omega), g.2 4 (by omega), g.2 5 (by omega)]
  exact h4 c hc
theorem t_openOf {r : zR} {τ : zS} {x : Int32} {post : Int32 → zS → Prop} (hwf : rWF r) (hr : yRec r τ) (hp : post (rOp r x (rN r)) τ) : j_M_openOf x τ post := by
  have hN := hwf.1
  unfold j_M_openOf
  refine zLP_rule (fun q => ∃ c, c ≤ rN r ∧ q = (rOp r x c, nI c, τ)) (fun q => rN r - q.2.1.toNatClampNeg) ?_ _ ⟨0, by omega, rfl⟩
  rintro q ⟨c, hc, rfl⟩ R hR
  dsimp only [b_M_openOf_4]
  have hle : τ.1 4 ≤ nI c ↔ rN r ≤ c := by rw [hr.1.2.2]; exact nI_leI (by omega) (by omega)
  rw [hle]
  refine ⟨fun g => ?_, fun g => ?_⟩
  · have e : c = rN r := by omega
    subst e
    exact hp
  · have hcn : c < rN r := by omega
    have hin := vp_in_nI (show c < 8 by omega) (show 8 < 2 ^ 31 by omega)
    obtain ⟨⟨w1, w2, w3, w4⟩, -⟩ := hr.2 c hcn
    rw [nI_clamp (by omega), w1, w4, nI_1]
    have next : ∀ v, v = rOp r x (c + 1) → R (v, nI (c + 1), τ) := by
      intro v hv
      subst hv
      exact hR _ ⟨c + 1, by omega, rfl⟩ (by dsimp only; rw [nI_clamp (by omega), nI_clamp (by omega)]; omega)
    refine ⟨hin, fun g1 => ⟨hin, fun g2 => next _ (if_pos ⟨g1, g2⟩).symm, fun g2 => next _ (if_neg (fun h => g2 h.2)).symm⟩, fun g1 => next _ (if_neg (fun h => g1 h.1)).symm⟩
/-- the list on the way, the row, the answers given -/
def yPath (L : List Nat) (τ : zS) : Prop := τ.1 5 = nI L.length ∧ ∀ i c, L[i]? = some c → τ.2.1 7 i = nI c
def yRow (w : List Nat) (τ : zS) : Prop := τ.1 6 = nI w.length ∧ ∀ i x, w[i]? = some x → τ.2.1 10 i = nI x
theorem narB0 : narrow .boolean (.int (0 : Int32)) = .int (0 : Int32) := rfl
theorem narB1 : narrow .boolean (.int (1 : Int32)) = .int (1 : Int32) := rfl
theorem t_isListed {L : List Nat} {τ : zS} {c : Nat} {post : Int32 → zS → Prop} (hl : L.length ≤ 8) (hL : ∀ x, x ∈ L → x < 8) (hc : c < 8) (hpa : yPath L τ) (h1 : c ∈ L → post 1 τ) (h0 : c ∉ L → post 0 τ) : j_M_isListed (nI c) τ post := by
  unfold j_M_isListed
  refine zLP_rule (fun q => ∃ i, i ≤ L.length ∧ q.2.1 = nI i ∧ q.2.2 = τ ∧ ((q.1 = 1 ∧ c ∈ L.take i) ∨ (q.1 = 0 ∧ c ∉ L.take i))) (fun q => L.length - q.2.1.toNatClampNeg) ?_ _ ⟨0, by omega, rfl, rfl, Or.inr ⟨rfl, by simp⟩⟩
  rintro ⟨y, z, τ1⟩ ⟨i, hi, hz, ht, hy⟩ R hR
  dsimp only at hz ht hy
  subst hz
  subst ht
  dsimp only [b_M_isListed_4]
  have hle : τ1.1 5 ≤ nI i ↔ L.length ≤ i := by rw [hpa.1]; exact nI_leI (by omega) (by omega)
  rw [hle]
  refine ⟨fun g => ?_, fun g => ?_⟩
  · have e : L.take i = L := List.take_of_length_le g
    rw [e] at hy
    rcases hy with ⟨rfl, hy⟩ | ⟨rfl, hy⟩
    · exact ⟨narB1, h1 hy⟩
    · exact ⟨narB0, h0 hy⟩
  · have hil : i < L.length := by omega
    have hin := vp_in_nI (show i < 8 by omega) (show 8 < 2 ^ 31 by omega)
    obtain ⟨x, hx⟩ : ∃ x, L[i]? = some x := ⟨_, List.getElem?_eq_getElem hil⟩
    have htk : L.take (i + 1) = L.take i ++ [x] := by rw [List.take_succ, hx]; rfl
    have hx8 := hL x (List.mem_of_getElem? hx)
    have next : ∀ v, ((v = 1 ∧ c ∈ L.take (i + 1)) ∨ (v = 0 ∧ c ∉ L.take (i + 1))) → R (v, nI i + 1, τ1) := by
      intro v hv
      rw [nI_1]
      exact hR _ ⟨i + 1, by omega, rfl, rfl, hv⟩ (by dsimp only; rw [nI_clamp (by omega), nI_clamp (by omega)]; omega)
    rw [htk] at next
    rcases hy with ⟨rfl, hy⟩ | ⟨rfl, hy⟩
    · exact ⟨fun g2 => absurd g2 (by decide), fun _ => next 1 (Or.inl ⟨rfl, List.mem_append_left _ hy⟩)⟩
    · refine ⟨fun _ => ⟨hin, ?_⟩, fun g2 => absurd rfl g2⟩
      rw [nI_clamp (by omega), hpa.2 i x hx, nI_eq (by omega) (by omega)]
      refine ⟨fun e => next 1 (Or.inl ⟨rfl, List.mem_append_right _ (by rw [e]; exact List.mem_singleton.mpr rfl)⟩), fun e => next 0 (Or.inr ⟨rfl, fun h => ?_⟩)⟩
      rcases List.mem_append.mp h with h | h
      · exact hy h
      · exact e (List.mem_singleton.mp h).symm
/-- what carrying out a call may change -/
def yCo (τ τ' : zS) : Prop := (∀ k, k ≠ 6 → τ'.1 k = τ.1 k) ∧ (∀ k, k ≠ 10 → τ'.2.1 k = τ.2.1 k) ∧ τ'.2.2 = τ.2.2
theorem yCo.kp {τ τ' : zS} (h : yCo τ τ') : yKp τ τ' := ⟨fun k hk => h.1 k (by omega), fun k hk => h.2.1 k (by omega)⟩
theorem t_shift {τ : zS} {w : List Nat} {x : Nat} {x3 : Int32} {post : Int32 → zS → Prop} {K : Int32 → zS → Prop} (hw : w.length < 8) (h6 : τ.1 6 = nI w.length) (hrow : ∀ i y, (x :: w)[i]? = some y → τ.2.1 10 i = nI y)
    (hp : ∀ y τ', yRow w τ' → τ'.1 = τ.1 → (∀ k, k ≠ 10 → τ'.2.1 k = τ.2.1 k) → τ'.2.2 = τ.2.2 → K y τ') : zLP (b_M_carryOut_127 (0 : Int32) x3 post K) ((0 : Int32), τ) := by
  refine zLP_rule (fun q => ∃ i, i ≤ w.length ∧ q.1 = nI i ∧ q.2.1 = τ.1 ∧ (∀ k, k ≠ 10 → q.2.2.1 k = τ.2.1 k) ∧ q.2.2.2 = τ.2.2 ∧ (∀ j y, j < i → w[j]? = some y → q.2.2.1 10 j = nI y) ∧ (∀ j y, i ≤ j → (x :: w)[j]? = some y → q.2.2.1 10 j = nI y)) (fun q => w.length - q.1.toNatClampNeg) ?_ _ ⟨0, by omega, rfl, rfl, fun _ _ => rfl, rfl, fun j y h => absurd h (by omega), fun j y _ h => hrow j y h⟩
  rintro ⟨y, τ1⟩ ⟨i, hi, hy, hs1, ha1, hl1, hlo, hhi⟩ R hR
  dsimp only at hy hs1 ha1 hl1 hlo hhi
  subst hy
  dsimp only [b_M_carryOut_127]
  have hle : τ1.1 6 ≤ nI i ↔ w.length ≤ i := by rw [hs1, h6]; exact nI_leI (by omega) (by omega)
  rw [hle]
  refine ⟨fun g => ?_, fun g => ⟨fun _ => ?_, fun g2 => absurd rfl g2⟩⟩
  · have e : i = w.length := by omega
    subst e
    refine hp _ τ1 ⟨by rw [hs1, h6], fun j y hj => hlo j y (List.getElem?_eq_some_iff.mp hj).1 hj⟩ hs1 ha1 hl1
  · have hil : i < w.length := by omega
    obtain ⟨y, hy⟩ : ∃ y, w[i]? = some y := ⟨_, List.getElem?_eq_getElem hil⟩
    have hv : τ1.2.1 10 (i + 1) = nI y := hhi (i + 1) y (by omega) (by simpa using hy)
    rw [nI_1, nI_clamp (by omega), nI_clamp (by omega), hv]
    refine ⟨vp_in_nI (show i + 1 < 8 by omega) (by omega), vp_in_nI (show i < 8 by omega) (by omega), znm_i ?_⟩
    refine hR _ ⟨i + 1, by omega, rfl, hs1, fun k hk => ?_, hl1, fun j z hj hz => ?_, fun j z hj hz => ?_⟩ (by dsimp only; rw [nI_clamp (by omega), nI_clamp (by omega)]; omega)
    · have := ha1 k hk
      simp [zA, zF, va_up, hk, this]
    · by_cases e : j = i
      · subst e
        rw [hy] at hz
        have := Option.some.inj hz
        simp [zA, zF, va_up, upd, this]
      · have := hlo j z (by omega) hz
        simp [zA, zF, va_up, upd, e, this]
    · have e : ¬ j = i := by omega
      have := hhi j z (by omega) hz
      simp [zA, zF, va_up, upd, e, this]
theorem t_noshift {τ : zS} {x3 : Int32} {post K : Int32 → zS → Prop} (hp : K 0 τ) : zLP (b_M_carryOut_127 (1 : Int32) x3 post K) ((0 : Int32), τ) := by
  refine ⟨1, ?_⟩
  show b_M_carryOut_127 (1 : Int32) x3 post K _ ((0 : Int32), τ)
  dsimp only [b_M_carryOut_127]
  exact ⟨fun _ => hp, fun _ => ⟨fun h => absurd h (by decide), fun _ => hp⟩⟩
theorem t_carryOut {r : zR} {τ : zS} {c : Nat} {w : List Nat} {post : Int32 → zS → Prop} (hwf : rWF r) (hr : yRec r τ) (hc : c < rN r) (hrow : yRow w τ) (hok : eOk w) (hp : ∀ τ', yRow (rStep r c w).2 τ' → yCo τ τ' → post (rStep r c w).1 τ') : j_M_carryOut (nI c) τ post := by
  have hN := hwf.1
  have hC := hwf.2.1.2
  have h8 := hok.1
  obtain ⟨⟨w1, w2, w3, w4⟩, -⟩ := hr.2 c hc
  have hin := vp_in_nI (show c < 8 by omega) (show 8 < 2 ^ 31 by omega)
  unfold j_M_carryOut
  rw [nI_clamp (show c < 2 ^ 31 by omega), w2, w1, hr.1.1, hr.1.2.1, hrow.1]
  refine ⟨hin, fun g => ?_, fun g => ?_⟩
  · have h0 : nI w.length = 0 ↔ w.length = 0 := nI_eq (b := 0) (by omega) (by omega)
    rw [h0]
    refine ⟨fun g2 => ?_, fun g2 => ?_⟩
    · have e : w = [] := List.length_eq_zero_iff.mp g2
      have er : rStep r c w = (-1, []) := by unfold rStep; rw [if_pos g, if_pos e]
      rw [er] at hp
      exact hp τ (by rw [← e]; exact hrow) ⟨fun _ _ => rfl, fun _ _ => rfl, rfl⟩
    · have hne : w ≠ [] := fun e => g2 (by rw [e]; rfl)
      have hpred : nI w.length - (1 : Int32) = nI (w.length - 1) := by
        have : w.length = (w.length - 1) + 1 := by omega
        rw [this]
        exact nI_pred _
      rw [hpred]
      have back : (rK r = 1 ∨ (rK r = 2 ∧ rW r c = 0)) → (vp_in (nI (w.length - 1)) 8 ∧ znm (τ.2.1 10 (nI (w.length - 1)).toNatClampNeg) fun v11 => znm (zI τ 6 (nI (w.length - 1))) fun σ12 => zLP (b_M_carryOut_127 (1 : Int32) v11 post (fun _ σ14 => post v11 σ14)) ((0 : Int32), σ12)) := by
        intro gb
        have er : rStep r c w = (nI (w.getD (w.length - 1) 0), w.dropLast) := by unfold rStep; rw [if_pos g, if_neg hne, if_pos gb]
        rw [er] at hp
        refine ⟨vp_in_nI (show w.length - 1 < 8 by omega) (by omega), znm_i (znm_i (t_noshift ?_))⟩
        rw [nI_clamp (by omega)]
        obtain ⟨x, hx⟩ : ∃ x, w[w.length - 1]? = some x := ⟨_, List.getElem?_eq_getElem (by omega)⟩
        have e2 : w.getD (w.length - 1) 0 = x := by simp [List.getD, hx]
        rw [e2] at hp
        rw [hrow.2 _ x hx]
        refine hp _ ⟨?_, fun i y hi => ?_⟩ ⟨fun k hk => ?_, fun _ _ => rfl, rfl⟩
        · simp [zI, va_up]
        · have hlt := (List.getElem?_eq_some_iff.mp hi).1
          rw [List.length_dropLast] at hlt
          rw [List.getElem?_dropLast, if_pos hlt] at hi
          exact hrow.2 i y hi
        · simp [zI, va_up, hk]
      have front : ¬ (rK r = 1 ∨ (rK r = 2 ∧ rW r c = 0)) → (vp_in (0 : Int32) 8 ∧ znm (τ.2.1 10 (0 : Int32).toNatClampNeg) fun v11 => znm (zI τ 6 (nI (w.length - 1))) fun σ12 => zLP (b_M_carryOut_127 (0 : Int32) v11 post (fun _ σ14 => post v11 σ14)) ((0 : Int32), σ12)) := by
        intro gb
        have er : rStep r c w = (nI (w.getD 0 0), w.tail) := by unfold rStep; rw [if_pos g, if_neg hne, if_neg gb]
        rw [er] at hp
        refine ⟨vp_in_nI (n := 0) (by omega) (by omega), znm_i (znm_i ?_)⟩
        have e0 : (0 : Int32).toNatClampNeg = 0 := rfl
        rw [e0]
        cases w with
        | nil => exact absurd rfl hne
        | cons x t =>
          have hx : τ.2.1 10 0 = nI x := hrow.2 0 x rfl
          rw [hx]
          refine t_shift (x := x) (w := t) (by simp at h8; omega) (by simp [zI, va_up]) (fun i y hi => hrow.2 i y hi) (fun y τ' g1 g3 g4 g5 => hp τ' g1 ⟨fun k hk => ?_, fun k hk => ?_, ?_⟩)
          · rw [g3]; simp [zI, va_up, hk]
          · rw [g4 k hk]; rfl
          · rw [g5]; rfl
      refine ⟨fun g3 => ⟨fun h => absurd h (by decide), fun _ => back (Or.inl g3)⟩, fun g3 => ⟨fun g4 => ⟨hin, fun g5 => ⟨fun h => absurd h (by decide), fun _ => back (Or.inr ⟨g4, g5⟩)⟩, fun g5 => ⟨fun _ => front (fun h => h.elim g3 (fun h => g5 h.2)), fun h => absurd rfl h⟩⟩, fun g4 => ⟨fun _ => front (fun h => h.elim g3 (fun h => g4 h.1)), fun h => absurd rfl h⟩⟩⟩
  · have hlt : nI w.length < nI (rC r) ↔ w.length < rC r := nI_ltI (by omega) (by omega)
    rw [hlt]
    refine ⟨fun g2 => ?_, fun g2 => ?_⟩
    · have er : rStep r c w = (1, w ++ [rV r c]) := by unfold rStep; rw [if_neg g, if_pos g2]
      rw [er] at hp
      refine ⟨hin, vp_in_nI (show w.length < 8 by omega) (by omega), znm_i (znm_i ?_)⟩
      rw [w3 g, nI_clamp (by omega)]
      refine hp _ ⟨?_, fun i y hi => ?_⟩ ⟨fun k hk => ?_, fun k hk => ?_, rfl⟩
      · simp [zI, zA, zF, va_up, hrow.1, nI_1]
      · by_cases hi2 : i < w.length
        · rw [List.getElem?_append_left hi2] at hi
          have := hrow.2 i y hi
          have hne : ¬ i = w.length := by omega
          simp [zI, zA, zF, va_up, upd, hne, this]
        · have hi3 : i = w.length := by
            have := (List.getElem?_eq_some_iff.mp hi).1
            simp at this
            omega
          subst hi3
          have hy : rV r c = y := by simpa using hi
          simp [zI, zA, zF, va_up, upd, hy]
      · simp [zI, zA, zF, va_up, hk]
      · simp [zI, zA, zF, va_up, hk]
    · have er : rStep r c w = (0, w) := by unfold rStep; rw [if_neg g, if_neg g2]
      rw [er] at hp
      exact hp τ hrow ⟨fun _ _ => rfl, fun _ _ => rfl, rfl⟩
