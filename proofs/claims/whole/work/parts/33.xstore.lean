/-! Sets of calls as bits; the program's store, row by row -/
theorem bt1 : ∀ i, i < 32 → bt 1 i = decide (i = 0) := by decide +kernel
theorem mB_in (x : Int32) {i : Nat} (hi : i < 32) : ((x >>> (nI i &&& 31)) &&& (1 : Int32)) = 0 ↔ bt x i = false := by
  constructor
  · intro h
    have h2 := congrArg (fun z => bt z 0) h
    rw [b_and, b_sshr i hi x (by omega), bt1 0 (by omega), b_0, if_pos (by omega)] at h2
    simpa using h2
  · intro h
    apply b_ext
    intro j hj
    rw [b_and, b_0, bt1 j hj]
    by_cases h0 : j = 0
    · subst h0
      rw [b_sshr i hi x hj, if_pos (by omega), Nat.add_zero, h]
      rfl
    · simp [h0]
theorem mB_sub (x y : Int32) : (x &&& (y ^^^ (-1 : Int32))) = 0 ↔ ∀ i, i < 32 → bt x i = true → bt y i = true := by
  constructor
  · intro h i hi hx
    have h2 := congrArg (fun z => bt z i) h
    rw [b_and, b_xor, b_m1 i hi, b_0, hx] at h2
    simpa using h2
  · intro h
    apply b_ext
    intro i hi
    rw [b_and, b_xor, b_m1 i hi, b_0]
    by_cases hx : bt x i = true
    · rw [hx, h i hi hx]; rfl
    · rw [Bool.not_eq_true] at hx
      rw [hx]; rfl
theorem mB_set (x : Int32) {c i : Nat} (hc : c < 32) (hi : i < 32) : bt (x ||| ((1 : Int32) <<< (nI c &&& 31))) i = (bt x i || decide (i = c)) := by
  rw [b_or, b_shl c hc 1 hi]
  congr 1
  by_cases h : c ≤ i
  · rw [bt1 (i - c) (by omega)]
    by_cases h2 : i = c
    · subst h2; simp
    · have : ¬ i - c = 0 := by omega
      simp [h2, this]
  · have : ¬ i = c := by omega
    simp [h, this]
theorem lgc0 (x y : Int64) : lg_cmp x y = 0 ↔ x = y := by
  unfold lg_cmp
  by_cases h : x > y
  · rw [if_pos h]
    refine ⟨fun e => absurd e (by decide), fun e => ?_⟩
    rw [e] at h
    exact absurd h Int64.lt_irrefl
  · rw [if_neg h]
    by_cases h2 : x = y
    · rw [if_pos h2]; exact ⟨fun _ => h2, fun _ => rfl⟩
    · rw [if_neg h2]; exact ⟨fun e => absurd e (by decide), fun e => absurd e h2⟩
/-- the store's part of the record in the program -/
def xSt (r : zR) (σ : zS) : Prop := σ.1 0 = rK r ∧ σ.1 1 = nI (rC r) ∧ ∀ c, c < rN r → σ.2.1 5 c = rW r c ∧ σ.2.1 6 c = rP r c ∧ (rP r c ≠ 0 → σ.2.1 7 c = nI (rV r c))
theorem s_length {w : List Nat} {post : Int32 → Prop} (h : eOk w) (hp : post (nI w.length)) : j_X2_length (eX w) post := by
  unfold j_X2_length
  rw [eX_len h]
  exact hp
theorem s_valueAt {w : List Nat} {i : Nat} {post : Int32 → Prop} (h : eOk w) (hi : i < w.length) (hp : post (nI (w.getD i 0))) : j_X2_valueAt (eX w) (nI i) post := by
  unfold j_X2_valueAt
  rw [eX_at h hi]
  exact hp
theorem s_withBack {w : List Nat} {v : Nat} {post : Int64 → Prop} (h : eOk w) (hl : w.length < 8) (hv : v < 16) (hp : post (eX (w ++ [v]))) : j_X2_withBack (eX w) (nI v) post := by
  unfold j_X2_withBack
  refine s_length h ?_
  rw [eX_back h hl hv]
  exact hp
theorem s_withoutBack {w : List Nat} {post : Int64 → Prop} (h : eOk w) (hne : w ≠ []) (hp : post (eX w.dropLast)) : j_X2_withoutBack (eX w) post := by
  unfold j_X2_withoutBack
  refine s_length h (znm_i ?_)
  rw [eX_dropB h hne]
  exact hp
theorem s_withoutFront {w : List Nat} {post : Int64 → Prop} (h : eOk w) (hne : w ≠ []) (hp : post (eX w.tail)) : j_X2_withoutFront (eX w) post := by
  unfold j_X2_withoutFront
  refine znm_i (s_length h ?_)
  rw [eX_dropF h hne]
  exact hp
theorem s_hasRoom {r : zR} {σ : zS} {w : List Nat} {post : Int32 → zS → Prop} (hs : xSt r σ) (hc : rC r ≤ 8) (h : eOk w) (h1 : w.length < rC r → post 1 σ) (h0 : ¬ w.length < rC r → post 0 σ) : j_X4_hasRoom (eX w) σ post := by
  unfold j_X4_hasRoom
  refine s_length h ?_
  have h8 := h.1
  rw [hs.2.1, nI_leI (by omega) (by omega)]
  exact ⟨fun g => h0 (by omega), fun g => h1 (by omega)⟩
theorem s_takesBack {r : zR} {σ : zS} {c : Nat} {post : Int32 → zS → Prop} (hs : xSt r σ) (h1 : (rK r = 1 ∨ (rK r = 2 ∧ rW r c = 0)) → post 1 σ) (h0 : ¬ (rK r = 1 ∨ (rK r = 2 ∧ rW r c = 0)) → post 0 σ) : j_X4_takesBack (rW r c) σ post := by
  unfold j_X4_takesBack
  rw [hs.1]
  refine ⟨fun g => h1 (Or.inl g), fun g => ⟨fun g2 => ⟨fun g3 => h1 (Or.inr ⟨g2, g3⟩), fun g3 => h0 (fun h => h.elim g (fun h => g3 h.2))⟩, fun g2 => h0 (fun h => h.elim g (fun h => g2 h.1))⟩⟩
theorem s_replyTo {r : zR} {σ : zS} {c : Nat} {w : List Nat} {post : Int32 → zS → Prop} (hs : xSt r σ) (hr : rC r ≤ 8) (hc : c < rN r) (h : eOk w) (hp : post (rStep r c w).1 σ) : j_X4_replyTo c (eX w) σ post := by
  obtain ⟨e1, e2, e3⟩ := hs.2.2 c hc
  unfold j_X4_replyTo
  unfold rStep at hp
  rw [e2, e1]
  refine ⟨fun g => ?_, fun g => ?_⟩
  · rw [if_pos g] at hp
    rw [lgc0, eX_zero h]
    refine ⟨fun g2 => ?_, fun g2 => ?_⟩
    · rw [if_pos g2] at hp
      exact hp
    · rw [if_neg g2] at hp
      have hl : 0 < w.length := List.length_pos_iff.mpr g2
      refine s_takesBack hs (fun g3 => ?_) (fun g3 => ?_)
      · rw [if_pos g3] at hp
        refine ⟨fun g4 => absurd g4 (by decide), fun _ => s_length h ?_⟩
        have e : nI w.length - (1 : Int32) = nI (w.length - 1) := by
          have : w.length = (w.length - 1) + 1 := by omega
          rw [this]
          exact nI_pred _
        rw [e]
        exact s_valueAt h (by omega) hp
      · rw [if_neg g3] at hp
        exact ⟨fun _ => s_valueAt (i := 0) h hl hp, fun g4 => absurd rfl g4⟩
  · rw [if_neg g] at hp
    refine s_hasRoom hs hr h (fun g2 => ?_) (fun g2 => ?_)
    · rw [if_pos g2] at hp
      exact ⟨fun g4 => absurd g4 (by decide), fun _ => hp⟩
    · rw [if_neg g2] at hp
      exact ⟨fun _ => hp, fun g4 => absurd rfl g4⟩
theorem s_rowAfter {r : zR} {σ : zS} {c : Nat} {w : List Nat} {post : Int64 → zS → Prop} (hs : xSt r σ) (hr : rC r ≤ 8) (hc : c < rN r) (hv : rP r c ≠ 0 → rV r c < 16) (h : eOk w) (hp : post (eX (rStep r c w).2) σ) : j_X4_rowAfter c (eX w) σ post := by
  obtain ⟨e1, e2, e3⟩ := hs.2.2 c hc
  unfold j_X4_rowAfter
  unfold rStep at hp
  rw [e2, e1]
  refine ⟨fun g => ?_, fun g => ?_⟩
  · rw [if_pos g] at hp
    rw [lgc0, eX_zero h]
    refine ⟨fun g2 => ?_, fun g2 => ?_⟩
    · rw [if_pos g2] at hp
      rw [g2]
      exact hp
    · rw [if_neg g2] at hp
      refine s_takesBack hs (fun g3 => ?_) (fun g3 => ?_)
      · rw [if_pos g3] at hp
        exact ⟨fun g4 => absurd g4 (by decide), fun _ => s_withoutBack h g2 hp⟩
      · rw [if_neg g3] at hp
        exact ⟨fun _ => s_withoutFront h g2 hp, fun g4 => absurd rfl g4⟩
  · rw [if_neg g] at hp
    refine s_hasRoom hs hr h (fun g2 => ?_) (fun g2 => ?_)
    · rw [if_pos g2] at hp
      refine ⟨fun g4 => absurd g4 (by decide), fun _ => ?_⟩
      rw [e3 g]
      exact s_withBack h (by omega) (hv g) hp
    · rw [if_neg g2] at hp
      exact ⟨fun _ => hp, fun g4 => absurd rfl g4⟩
theorem rStep_ok {r : zR} {c : Nat} {w : List Nat} (hr : rC r ≤ 8) (hv : rP r c ≠ 0 → rV r c < 16) (h : eOk w) : eOk (rStep r c w).2 := by
  unfold rStep
  by_cases g : rP r c = 0
  · rw [if_pos g]
    by_cases g2 : w = []
    · rw [if_pos g2]; exact ⟨by simp, fun x hx => absurd hx (List.not_mem_nil)⟩
    · rw [if_neg g2]
      by_cases g3 : rK r = 1 ∨ (rK r = 2 ∧ rW r c = 0)
      · rw [if_pos g3]
        exact ⟨by have := h.1; simp; omega, fun x hx => h.2 x ((List.dropLast_sublist w).subset hx)⟩
      · rw [if_neg g3]
        exact ⟨by have := h.1; simp; omega, fun x hx => h.2 x (List.mem_of_mem_tail hx)⟩
  · rw [if_neg g]
    by_cases g2 : w.length < rC r
    · rw [if_pos g2]
      refine ⟨by simp; omega, fun x hx => ?_⟩
      rcases List.mem_append.mp hx with hx | hx
      · exact h.2 x hx
      · rw [List.mem_singleton.mp hx]; exact hv g
    · rw [if_neg g2]; exact h
theorem rRun_ok {r : zR} (hwf : rWF r) : ∀ (L : List Nat), (∀ c, c ∈ L → c < rN r) → eOk (rRun r L).1 := by
  have key : ∀ (L : List Nat) (s : List Nat × (Nat → Int32)), eOk s.1 → (∀ c, c ∈ L → c < rN r) → eOk (L.foldl (rAdd r) s).1 := by
    intro L
    induction L with
    | nil => intro s h _; exact h
    | cons c t ih =>
      intro s h hc
      rw [List.foldl_cons]
      exact ih _ (rStep_ok hwf.2.1.2 (hwf.2.2.1 c (hc c (List.mem_cons_self ..))).2.2.2 h) (fun d hd => hc d (List.mem_cons_of_mem _ hd))
  intro L hc
  exact key L ([], fun _ => 0) ⟨by simp, fun x hx => absurd hx (List.not_mem_nil)⟩ hc
