/-! The record in the abstract: kind, capacity, number of calls, their ints (worker, put, value, answer, state), begin and end events -/
abbrev zR : Type := Int32 × Nat × Nat × (Nat → Nat → Int32) × (Nat → Nat) × (Nat → Nat)
def rK (r : zR) : Int32 := r.1
def rC (r : zR) : Nat := r.2.1
def rN (r : zR) : Nat := r.2.2.1
def rW (r : zR) (c : Nat) : Int32 := r.2.2.2.1 0 c
def rP (r : zR) (c : Nat) : Int32 := r.2.2.2.1 1 c
def rV (r : zR) (c : Nat) : Nat := (r.2.2.2.1 2 c).toNatClampNeg
def rA (r : zR) (c : Nat) : Int32 := r.2.2.2.1 3 c
def rS (r : zR) (c : Nat) : Int32 := r.2.2.2.1 4 c
def rF (r : zR) (c : Nat) : Nat := r.2.2.2.2.1 c
def rU (r : zR) (c : Nat) : Nat := r.2.2.2.2.2 c
/-- a record as calls make it -/
def rWF (r : zR) : Prop := rN r ≤ 8 ∧ (1 ≤ rC r ∧ rC r ≤ 8) ∧ (∀ c, c < rN r → (rW r c = 0 ∨ rW r c = 1 ∨ rW r c = 2) ∧ (rS r c = 0 ∨ rS r c = 1 ∨ rS r c = 2) ∧ (rS r c = 1 → rF r c < rU r c) ∧ (rP r c ≠ 0 → rV r c < 16))
  ∧ (∀ c d, c < d → d < rN r → rF r c < rF r d) ∧ (∀ c d, c < d → d < rN r → rW r c = rW r d → rS r c ≠ 0 ∧ rU r c < rF r d)
/-- what the store does -/
def rStep (r : zR) (c : Nat) (w : List Nat) : Int32 × List Nat :=
  if rP r c = 0 then
    (if w = [] then (-1, []) else if rK r = 1 ∨ (rK r = 2 ∧ rW r c = 0) then (nI (w.getD (w.length - 1) 0), w.dropLast) else (nI (w.getD 0 0), w.tail))
  else if w.length < rC r then (1, w ++ [rV r c]) else (0, w)
def rAdd (r : zR) (s : List Nat × (Nat → Int32)) (c : Nat) : List Nat × (Nat → Int32) := ((rStep r c s.1).2, va_up s.2 c (rStep r c s.1).1)
def rRun (r : zR) (L : List Nat) : List Nat × (Nat → Int32) := L.foldl (rAdd r) ([], fun _ => 0)
theorem rRun_nil (r : zR) : rRun r [] = ([], fun _ => 0) := rfl
theorem rRun_snoc (r : zR) (L : List Nat) (c : Nat) : rRun r (L ++ [c]) = rAdd r (rRun r L) c := by
  simp [rRun, List.foldl_append]
noncomputable def rif {α : Type} (p : Prop) (a b : α) : α := @ite α p (Classical.propDecidable p) a b
theorem rif_t {α : Type} {p : Prop} {a b : α} (h : p) : rif p a b = a := if_pos h
theorem rif_f {α : Type} {p : Prop} {a b : α} (h : ¬ p) : rif p a b = b := if_neg h
def rAll (r : zR) (L : List Nat) : Prop := ∀ d, d < rN r → rS r d = 1 → d ∈ L
def rCX (r : zR) (L : List Nat) (c : Nat) : Prop := (c ∉ L ∧ rS r c ≠ 2) ∧ ∀ d, d < rN r → rS r d = 1 → rU r d < rF r c → d ∈ L
def rCM (r : zR) (L : List Nat) (c : Nat) : Prop := (c ∉ L ∧ rS r c ≠ 2) ∧ ∀ x, x ∈ L → ¬ (rS r c = 1 ∧ rU r c < rF r x)
def rRe (r : zR) (L : List Nat) (c : Nat) : Prop := rS r c = 1 → (rStep r c (rRun r L).1).1 = rA r c
noncomputable def rNote (r : zR) (L : List Nat) : List (List Nat) := rif (rAll r L) [L] []
noncomputable def rVX (r : zR) : Nat → List Nat → List (List Nat)
  | 0, L => rNote r L
  | k + 1, L => rNote r L ++ (List.range (rN r)).flatMap (fun c => rif (rCX r L c ∧ rRe r L c) (rVX r k (L ++ [c])) [])
noncomputable def rVM (r : zR) : Nat → List Nat → List (List Nat)
  | 0, L => rNote r L
  | k + 1, L => rNote r L ++ (List.range (rN r)).flatMap (fun c => rif (rCM r L c ∧ rRe r L c) (rVM r k (L ++ [c])) [])
theorem fm_congr {α β : Type} {l : List α} {f g : α → List β} (h : ∀ a, a ∈ l → f a = g a) : l.flatMap f = l.flatMap g := by
  induction l with
  | nil => rfl
  | cons a t ih =>
    rw [List.flatMap_cons, List.flatMap_cons, h a (List.mem_cons_self ..), ih (fun b hb => h b (List.mem_cons_of_mem _ hb))]
/-- a list in which a call stands too early gives nothing -/
theorem rVM_dead (r : zR) : ∀ (k : Nat) (L : List Nat) (d x : Nat), d < rN r → rS r d = 1 → d ∉ L → x ∈ L → rU r d < rF r x → rVM r k L = [] := by
  intro k
  induction k with
  | zero =>
    intro L d x hd hs hn hx hu
    exact rif_f (fun h => hn (h d hd hs))
  | succ k ih =>
    intro L d x hd hs hn hx hu
    show rNote r L ++ _ = []
    have h1 : rNote r L = [] := rif_f (fun h => hn (h d hd hs))
    rw [h1, List.nil_append, List.flatMap_eq_nil_iff]
    intro c hc
    by_cases hk : rCM r L c ∧ rRe r L c
    · rw [rif_t hk]
      by_cases hcd : c = d
      · subst hcd
        exact absurd ⟨hs, hu⟩ (hk.1.2 x hx)
      · refine ih (L ++ [c]) d x hd hs ?_ (List.mem_append_left _ hx) hu
        intro h
        rcases List.mem_append.mp h with h | h
        · exact hn h
        · exact hcd (List.mem_singleton.mp h).symm
    · exact rif_f hk
def rCl (r : zR) (L : List Nat) : Prop := ∀ x, x ∈ L → ∀ d, d < rN r → rS r d = 1 → rU r d < rF r x → d ∈ L
theorem rCl_nil (r : zR) : rCl r [] := fun x hx => absurd hx (List.not_mem_nil)
theorem rCl_snoc {r : zR} {L : List Nat} {c : Nat} (h : rCl r L) (hc : rCX r L c) : rCl r (L ++ [c]) := by
  intro x hx d hd hs hu
  rcases List.mem_append.mp hx with hx | hx
  · exact List.mem_append_left _ (h x hx d hd hs hu)
  · rw [List.mem_singleton.mp hx] at hu
    exact List.mem_append_left _ (hc.2 d hd hs hu)
theorem rVXM {r : zR} (hwf : rWF r) : ∀ (k : Nat) (L : List Nat), rCl r L → rVX r k L = rVM r k L := by
  intro k
  induction k with
  | zero => intro L _; rfl
  | succ k ih =>
    intro L hL
    show rNote r L ++ _ = rNote r L ++ _
    congr 1
    refine fm_congr (fun c hc => ?_)
    have hcn : c < rN r := List.mem_range.mp hc
    by_cases hre : rRe r L c
    · by_cases hX : rCX r L c
      · have hM : rCM r L c := ⟨hX.1, fun x hx h => hX.1.1 (hL x hx c hcn h.1 h.2)⟩
        rw [rif_t ⟨hX, hre⟩, rif_t ⟨hM, hre⟩]
        exact ih _ (rCl_snoc hL hX)
      · rw [rif_f (fun h => hX h.1)]
        by_cases hM : rCM r L c
        · rw [rif_t ⟨hM, hre⟩]
          have : ∃ d, d < rN r ∧ rS r d = 1 ∧ rU r d < rF r c ∧ d ∉ L := by
            apply Classical.byContradiction
            intro hno
            apply hX
            refine ⟨hM.1, fun d hd hs hu => ?_⟩
            apply Classical.byContradiction
            intro hdl
            exact hno ⟨d, hd, hs, hu, hdl⟩
          obtain ⟨d, hd, hs, hu, hdl⟩ := this
          refine (rVM_dead r k (L ++ [c]) d c hd hs ?_ (List.mem_append_right _ (List.mem_singleton.mpr rfl)) hu).symm
          intro h
          rcases List.mem_append.mp h with h | h
          · exact hdl h
          · have e : d = c := List.mem_singleton.mp h
            subst e
            have := (hwf.2.2.1 d hd).2.2.1 hs
            omega
        · rw [rif_f (fun h => hM h.1)]
    · rw [rif_f (fun h => hre h.2), rif_f (fun h => hre h.2)]
/-- all explanations, in the order in which both find them -/
noncomputable def rE (r : zR) : List (List Nat) := rVM r 8 []
theorem rE_X {r : zR} (hwf : rWF r) : rVX r 8 [] = rE r := rVXM hwf 8 [] (rCl_nil r)
def rG (r : zR) (L : List Nat) : Prop := L.Nodup ∧ (∀ c, c ∈ L → c < rN r ∧ rS r c ≠ 2) ∧ L.Pairwise (fun x y => ¬ (rS r y = 1 ∧ rU r y < rF r x))
theorem rG_nil (r : zR) : rG r [] := ⟨List.nodup_nil, fun c hc => absurd hc (List.not_mem_nil), List.Pairwise.nil⟩
theorem rG_snoc {r : zR} {L : List Nat} {c : Nat} (h : rG r L) (hc : c < rN r) (hk : rCM r L c) : rG r (L ++ [c]) := by
  refine ⟨List.nodup_append.mpr ⟨h.1, by simp, ?_⟩, ?_, List.pairwise_append.mpr ⟨h.2.2, by simp, ?_⟩⟩
  · intro a ha b hb e
    rw [List.mem_singleton.mp hb] at e
    exact hk.1.1 (e ▸ ha)
  · intro x hx
    rcases List.mem_append.mp hx with hx | hx
    · exact h.2.1 x hx
    · rw [List.mem_singleton.mp hx]; exact ⟨hc, hk.1.2⟩
  · intro a ha b hb
    rw [List.mem_singleton.mp hb]
    exact hk.2 a ha
theorem rVM_mem {r : zR} : ∀ (k : Nat) (L M : List Nat), M ∈ rVM r k L → (∃ t, M = L ++ t) ∧ rAll r M ∧ (rG r L → rG r M) := by
  intro k
  have note : ∀ L M : List Nat, M ∈ rNote r L → (∃ t, M = L ++ t) ∧ rAll r M ∧ (rG r L → rG r M) := by
    intro L M h
    unfold rNote at h
    by_cases ha : rAll r L
    · rw [rif_t ha] at h
      rw [List.mem_singleton.mp h]
      exact ⟨⟨[], (List.append_nil _).symm⟩, ha, id⟩
    · rw [rif_f ha] at h
      exact absurd h (List.not_mem_nil)
  induction k with
  | zero => intro L M h; exact note L M h
  | succ k ih =>
    intro L M h
    have h : M ∈ rNote r L ++ (List.range (rN r)).flatMap (fun c => rif (rCM r L c ∧ rRe r L c) (rVM r k (L ++ [c])) []) := h
    rcases List.mem_append.mp h with h | h
    · exact note L M h
    · obtain ⟨c, hc, h⟩ := List.mem_flatMap.mp h
      by_cases hk : rCM r L c ∧ rRe r L c
      · rw [rif_t hk] at h
        obtain ⟨⟨t, ht⟩, h2, h3⟩ := ih _ _ h
        exact ⟨⟨c :: t, by rw [ht, List.append_assoc]; rfl⟩, h2, fun hg => h3 (rG_snoc hg (List.mem_range.mp hc) hk.1)⟩
      · rw [rif_f hk] at h
        exact absurd h (List.not_mem_nil)
theorem rVM_nodup {r : zR} : ∀ (k : Nat) (L : List Nat), (rVM r k L).Nodup := by
  have note : ∀ L : List Nat, (rNote r L).Nodup := by
    intro L
    unfold rNote
    by_cases ha : rAll r L
    · rw [rif_t ha]; simp
    · rw [rif_f ha]; simp
  intro k
  induction k with
  | zero => exact note
  | succ k ih =>
    intro L
    show (rNote r L ++ _).Nodup
    have kids : ∀ c M, M ∈ rif (rCM r L c ∧ rRe r L c) (rVM r k (L ++ [c])) [] → ∃ t, M = L ++ c :: t := by
      intro c M h
      by_cases hk : rCM r L c ∧ rRe r L c
      · rw [rif_t hk] at h
        obtain ⟨⟨t, ht⟩, -⟩ := rVM_mem k _ _ h
        exact ⟨t, by rw [ht, List.append_assoc]; rfl⟩
      · rw [rif_f hk] at h
        exact absurd h (List.not_mem_nil)
    refine List.nodup_append.mpr ⟨note L, ?_, ?_⟩
    · show List.Pairwise (· ≠ ·) _
      rw [List.pairwise_flatMap]
      refine ⟨fun c _ => ?_, ?_⟩
      · by_cases hk : rCM r L c ∧ rRe r L c
        · rw [rif_t hk]; exact ih _
        · rw [rif_f hk]; exact List.Pairwise.nil
      · have hr : (List.range (rN r)).Pairwise (· ≠ ·) := List.nodup_range
        refine hr.imp (fun {c d} hcd x hx y hy e => ?_)
        obtain ⟨t, ht⟩ := kids c x hx
        obtain ⟨u, hu⟩ := kids d y hy
        rw [ht, hu] at e
        have e := List.append_cancel_left e
        exact hcd (List.cons.inj e).1
    · intro a ha b hb e
      obtain ⟨c, hc, hb⟩ := List.mem_flatMap.mp hb
      obtain ⟨t, ht⟩ := kids c b hb
      have ha : a = L := by
        unfold rNote at ha
        by_cases hA : rAll r L
        · rw [rif_t hA] at ha; exact List.mem_singleton.mp ha
        · rw [rif_f hA] at ha; exact absurd ha (List.not_mem_nil)
      rw [← e, ha] at ht
      have := congrArg List.length ht
      rw [List.length_append, List.length_cons] at this
      omega
