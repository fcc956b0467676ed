/-! How events change the record -/
def rBeg (r : zR) (ev : Nat) (u p v : Int32) : zR := (rK r, rC r, rN r + 1, fun k => va_up (r.2.2.2.1 k) (rN r) (if k = 0 then u else if k = 1 then p else if k = 2 then v else 0), va_up (rF r) (rN r) (ev + 1), rU r)
def rFin (r : zR) (ev c : Nat) (a s : Int32) : zR := (rK r, rC r, rN r, fun k => va_up (r.2.2.2.1 k) c (if k = 3 then a else if k = 4 then s else r.2.2.2.1 k c), rF r, va_up (rU r) c (ev + 1))
def rNew (r : zR) (k : Int32) (n : Nat) : zR := (k, n, 0, r.2.2.2.1, rF r, rU r)
section RB
variable {r : zR} {ev : Nat} {u p v : Int32}
theorem rBeg_N : rN (rBeg r ev u p v) = rN r + 1 := rfl
theorem rBeg_W (c : Nat) : rW (rBeg r ev u p v) c = if c = rN r then u else rW r c := rfl
theorem rBeg_P (c : Nat) : rP (rBeg r ev u p v) c = if c = rN r then p else rP r c := rfl
theorem rBeg_V (c : Nat) : rV (rBeg r ev u p v) c = if c = rN r then v.toNatClampNeg else rV r c := by
  show (va_up (r.2.2.2.1 2) (rN r) v c).toNatClampNeg = _
  unfold va_up
  split <;> rfl
theorem rBeg_A (c : Nat) : rA (rBeg r ev u p v) c = if c = rN r then 0 else rA r c := rfl
theorem rBeg_S (c : Nat) : rS (rBeg r ev u p v) c = if c = rN r then 0 else rS r c := rfl
theorem rBeg_F (c : Nat) : rF (rBeg r ev u p v) c = if c = rN r then ev + 1 else rF r c := rfl
theorem rBeg_U (c : Nat) : rU (rBeg r ev u p v) c = rU r c := rfl
end RB
section RF
variable {r : zR} {ev d : Nat} {a s : Int32}
theorem rFin_N : rN (rFin r ev d a s) = rN r := rfl
theorem rFin_W (c : Nat) : rW (rFin r ev d a s) c = rW r c := by
  show va_up (r.2.2.2.1 0) d (r.2.2.2.1 0 d) c = r.2.2.2.1 0 c
  unfold va_up
  split
  · rename_i h; rw [h]
  · rfl
theorem rFin_P (c : Nat) : rP (rFin r ev d a s) c = rP r c := by
  show va_up (r.2.2.2.1 1) d (r.2.2.2.1 1 d) c = r.2.2.2.1 1 c
  unfold va_up
  split
  · rename_i h; rw [h]
  · rfl
theorem rFin_V (c : Nat) : rV (rFin r ev d a s) c = rV r c := by
  show (va_up (r.2.2.2.1 2) d (r.2.2.2.1 2 d) c).toNatClampNeg = (r.2.2.2.1 2 c).toNatClampNeg
  unfold va_up
  split
  · rename_i h; rw [h]
  · rfl
theorem rFin_A (c : Nat) : rA (rFin r ev d a s) c = if c = d then a else rA r c := rfl
theorem rFin_S (c : Nat) : rS (rFin r ev d a s) c = if c = d then s else rS r c := rfl
theorem rFin_F (c : Nat) : rF (rFin r ev d a s) c = rF r c := rfl
theorem rFin_U (c : Nat) : rU (rFin r ev d a s) c = if c = d then ev + 1 else rU r c := rfl
end RF
/-- the record at event ev -/
def rI (r : zR) (ev : Nat) : Prop := rWF r ∧ ∀ c, c < rN r → rF r c ≤ ev ∧ (rS r c ≠ 0 → rU r c ≤ ev)
theorem rI_beg {r : zR} {ev u v : Nat} {p : Int32} (h : rI r ev) (hn : rN r < 8) (hu : u < 3) (ho : rO r u = -1) (hv : p ≠ 0 → v < 16) : rI (rBeg r ev (nI u) p (nI v)) (ev + 1) := by
  obtain ⟨⟨h1, h2, h3, h4, h5⟩, h6⟩ := h
  have hno : ∀ c, c < rN r → ¬ (rW r c = nI u ∧ rS r c = 0) := by
    rcases rOp_spec r (nI u) (rN r) with ⟨-, g⟩ | ⟨c, g1, g2, -⟩
    · exact g
    · have g2 : rO r u = nI c := g2
      rw [ho] at g2
      exact absurd g2.symm (nI_m1 (by omega))
  refine ⟨⟨by rw [rBeg_N]; omega, h2, fun c hc => ?_, fun c d hcd hd => ?_, fun c d hcd hd hw => ?_⟩, fun c hc => ?_⟩
  · rw [rBeg_N] at hc
    rw [rBeg_W, rBeg_S, rBeg_F, rBeg_U, rBeg_P, rBeg_V]
    by_cases e : c = rN r
    · simp only [if_pos e]
      refine ⟨?_, by first | exact Or.inl rfl | exact Or.inl trivial, fun h => absurd h (by decide), fun h => ?_⟩
      · have : u = 0 ∨ u = 1 ∨ u = 2 := by omega
        rcases this with rfl | rfl | rfl
        · exact Or.inl rfl
        · exact Or.inr (Or.inl rfl)
        · exact Or.inr (Or.inr rfl)
      · have := hv h
        rw [nI_clamp (by omega)]
        exact this
    · simp only [if_neg e]
      exact h3 c (by omega)
  · rw [rBeg_N] at hd
    rw [rBeg_F, rBeg_F]
    have ec : ¬ c = rN r := by omega
    rw [if_neg ec]
    by_cases e : d = rN r
    · rw [if_pos e]
      have := (h6 c (by omega)).1
      omega
    · rw [if_neg e]
      exact h4 c d hcd (by omega)
  · rw [rBeg_N] at hd
    rw [rBeg_W, rBeg_W] at hw
    rw [rBeg_S, rBeg_U, rBeg_F]
    have ec : ¬ c = rN r := by omega
    rw [if_neg ec] at hw ⊢
    by_cases e : d = rN r
    · rw [if_pos e] at hw ⊢
      have hs : rS r c ≠ 0 := fun hs => hno c (by omega) ⟨hw, hs⟩
      have := (h6 c (by omega)).2 hs
      exact ⟨hs, by omega⟩
    · rw [if_neg e] at hw ⊢
      exact h5 c d hcd (by omega) hw
  · rw [rBeg_N] at hc
    rw [rBeg_F, rBeg_S, rBeg_U]
    by_cases e : c = rN r
    · simp only [if_pos e]
      exact ⟨Nat.le_refl _, fun h => absurd rfl h⟩
    · simp only [if_neg e]
      have := h6 c (by omega)
      exact ⟨by omega, fun h => by have := this.2 h; omega⟩
theorem rI_fin {r : zR} {ev d : Nat} {a s : Int32} (h : rI r ev) (hd : d < rN r) (ho : rS r d = 0) (hs : s = 1 ∨ s = 2) : rI (rFin r ev d a s) (ev + 1) := by
  obtain ⟨⟨h1, h2, h3, h4, h5⟩, h6⟩ := h
  have hs0 : s ≠ 0 := by rcases hs with rfl | rfl <;> decide
  refine ⟨⟨h1, h2, fun c hc => ?_, fun c e hce he => ?_, fun c e hce he hw => ?_⟩, fun c hc => ?_⟩
  · rw [rFin_N] at hc
    rw [rFin_W, rFin_S, rFin_F, rFin_U, rFin_P, rFin_V]
    by_cases e : c = d
    · simp only [if_pos e]
      have := h3 c hc
      have h7 := (h6 c hc).1
      exact ⟨this.1, Or.inr hs, fun _ => by omega, this.2.2.2⟩
    · simp only [if_neg e]
      exact h3 c hc
  · rw [rFin_F, rFin_F]
    exact h4 c e hce he
  · rw [rFin_W, rFin_W] at hw
    rw [rFin_S, rFin_U, rFin_F]
    have := h5 c e hce he hw
    by_cases ed : c = d
    · rw [ed] at this
      exact absurd ho this.1
    · rw [if_neg ed, if_neg ed]
      exact this
  · rw [rFin_N] at hc
    rw [rFin_F, rFin_S, rFin_U]
    have := h6 c hc
    by_cases e : c = d
    · simp only [if_pos e]
      exact ⟨by omega, fun _ => Nat.le_refl _⟩
    · simp only [if_neg e]
      exact ⟨by omega, fun h => by have := this.2 h; omega⟩
theorem rI_new {r : zR} {k : Int32} {n : Nat} (hn : 1 ≤ n ∧ n ≤ 8) : rI (rNew r k n) 0 := by
  refine ⟨⟨by show 0 ≤ 8; omega, hn, fun c hc => absurd hc (by show ¬ c < 0; omega), fun c d _ hd => absurd hd (by show ¬ d < 0; omega), fun c d _ hd => absurd hd (by show ¬ d < 0; omega)⟩, fun c hc => absurd hc (by show ¬ c < 0; omega)⟩
theorem rE_new {r : zR} {k : Int32} {n : Nat} : rE (rNew r k n) ≠ [] := by
  intro h
  have hv := rVM_fE (rNew r k n) 8 []
  have ha : rAll (rNew r k n) [] := fun d hd => absurd hd (by show ¬ d < 0; omega)
  have hn : rNote (rNew r k n) [] = [[]] := rif_t ha
  unfold rE at h
  rw [h, hn] at hv
  simp at hv
/-- the unfinished call of each worker, behind an event -/
theorem rOp_eq {r r' : zR} {u : Int32} : ∀ k, (∀ c, c < k → ((rW r' c = u ∧ rS r' c = 0) ↔ (rW r c = u ∧ rS r c = 0))) → rOp r' u k = rOp r u k := by
  intro k
  induction k with
  | zero => intro _; rfl
  | succ k ih =>
    intro h
    have e := ih (fun c hc => h c (by omega))
    show (if rW r' k = u ∧ rS r' k = 0 then nI k else rOp r' u k) = (if rW r k = u ∧ rS r k = 0 then nI k else rOp r u k)
    rw [e]
    by_cases g : rW r k = u ∧ rS r k = 0
    · rw [if_pos g, if_pos ((h k (by omega)).mpr g)]
    · rw [if_neg g, if_neg (fun g2 => g ((h k (by omega)).mp g2))]
theorem rO_beg {r : zR} {ev u w : Nat} {p v : Int32} (hu : u < 3) (hw : w < 3) : rO (rBeg r ev (nI u) p v) w = if w = u then nI (rN r) else rO r w := by
  show (if rW (rBeg r ev (nI u) p v) (rN r) = nI w ∧ rS (rBeg r ev (nI u) p v) (rN r) = 0 then nI (rN r) else rOp (rBeg r ev (nI u) p v) (nI w) (rN r)) = _
  rw [rBeg_W, rBeg_S, if_pos rfl, if_pos rfl]
  have e : rOp (rBeg r ev (nI u) p v) (nI w) (rN r) = rO r w := by
    refine rOp_eq _ (fun c hc => ?_)
    rw [rBeg_W, rBeg_S, if_neg (by omega), if_neg (by omega)]
  rw [e]
  by_cases h : w = u
  · rw [if_pos h, if_pos ⟨by rw [h], rfl⟩]
  · rw [if_neg h, if_neg (fun g => h ((nI_eq (by omega) (by omega)).mp g.1).symm)]
theorem rO_fin {r : zR} {ev d u w : Nat} {a s : Int32} (hwf : rWF r) (hd : d < rN r) (hu : u < 3) (hw : w < 3) (hdu : rO r u = nI d) (hs : s ≠ 0) : rO (rFin r ev d a s) w = if w = u then -1 else rO r w := by
  obtain ⟨g1, g2⟩ := rO_inv hwf hd hdu
  by_cases h : w = u
  · subst h
    rw [if_pos rfl]
    rcases rOp_spec (rFin r ev d a s) (nI w) (rN r) with ⟨k1, -⟩ | ⟨c, k1, k2, k3, k4⟩
    · exact k1
    · exfalso
      rw [rFin_W] at k3
      rw [rFin_S] at k4
      by_cases e : c = d
      · rw [if_pos e] at k4; exact hs k4
      · rw [if_neg e] at k4
        have := rO_of hwf k1 k3 k4
        have hN := hwf.1
        rw [hdu, nI_eq (by omega) (by omega)] at this
        exact e this.symm
  · rw [if_neg h]
    refine rOp_eq _ (fun c hc => ?_)
    rw [rFin_W, rFin_S]
    by_cases e : c = d
    · rw [if_pos e, e, g1]
      refine ⟨fun k => absurd k.2 hs, fun k => ?_⟩
      rw [nI_eq (by omega) (by omega)] at k
      exact absurd k.1.symm h
    · rw [if_neg e]
