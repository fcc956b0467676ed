/-! At most 680 explanations: a list is read off from its calls in the order of their beginnings; S: which workers have a call that isn't listed yet -/
def gArr : Nat → List Nat → List (List Nat)
  | 0, _ => [[]]
  | k + 1, xs => [] :: xs.flatMap (fun x => (gArr k (xs.erase x)).map (fun q => x :: q))
theorem gArr_mem : ∀ (q : List Nat) (k : Nat) (xs : List Nat), q.Nodup → (∀ x, x ∈ q → x ∈ xs) → q.length ≤ k → q ∈ gArr k xs := by
  intro q
  induction q with
  | nil =>
    intro k xs _ _ _
    cases k with
    | zero => exact List.mem_singleton.mpr rfl
    | succ k => exact List.mem_cons_self ..
  | cons x q ih =>
    intro k xs hn hs hl
    cases k with
    | zero => exact absurd hl (by simp)
    | succ k =>
      rw [List.nodup_cons] at hn
      refine List.mem_cons_of_mem _ (List.mem_flatMap.mpr ⟨x, hs x (List.mem_cons_self ..), List.mem_map.mpr ⟨q, ih k _ hn.2 (fun y hy => ?_) (by simpa using hl), rfl⟩⟩)
      have hne : y ≠ x := fun e => hn.1 (e ▸ hy)
      exact (List.mem_erase_of_ne hne).mpr (hs y (List.mem_cons_of_mem _ hy))
def gB (S u : Nat) : Bool := S / 2 ^ u % 2 == 1
def gM (f : Nat → Bool) : Nat := (if f 0 then 1 else 0) + (if f 1 then 2 else 0) + (if f 2 then 4 else 0)
theorem gM_bit (f : Nat → Bool) (u : Nat) (hu : u < 3) : gB (gM f) u = f u := by
  have h : u = 0 ∨ u = 1 ∨ u = 2 := by omega
  unfold gB gM
  rcases h with rfl | rfl | rfl <;> cases f 0 <;> cases f 1 <;> cases f 2 <;> rfl
theorem gM_lt (f : Nat → Bool) : gM f < 8 := by
  unfold gM
  cases f 0 <;> cases f 1 <;> cases f 2 <;> decide
def gL (S : Nat) : List Nat := [0, 1, 2].filter (fun u => gB S u)
theorem gL_mem {S u : Nat} (hu : u < 3) (h : gB S u = true) : u ∈ gL S := by
  refine List.mem_filter.mpr ⟨?_, h⟩
  have : u = 0 ∨ u = 1 ∨ u = 2 := by omega
  rcases this with rfl | rfl | rfl <;> decide
/-- S without u; S behind a call of u that began once q and u's earlier call are listed -/
def gD (S u : Nat) : Nat := gM (fun v => v != u && gB S v)
def gN (S u : Nat) (q : List Nat) : Nat := gM (fun v => v == u || (gB S v && !(q.contains v)))
def gGen (w : Nat → Nat) : List Nat → Nat → (Nat → Nat) → List (List Nat)
  | [], S, pd => (gArr 3 (gL S)).map (fun q => q.map pd)
  | c :: cs, S, pd => if gB S (w c) = true then (gArr 3 (gL (gD S (w c)))).flatMap (fun q => (gGen w cs (gN S (w c) q) (va_up pd (w c) c)).map (fun t => q.map pd ++ pd (w c) :: t)) else gGen w cs (gN S (w c) []) (va_up pd (w c) c)
def gF : List Nat → Nat → Nat
  | [], S => (gArr 3 (gL S)).length
  | u :: ws, S => if gB S u = true then ((gArr 3 (gL (gD S u))).map (fun q => gF ws (gN S u q))).sum else gF ws (gN S u [])
theorem gGen_len (w : Nat → Nat) : ∀ (cs : List Nat) (S : Nat) (pd : Nat → Nat), (gGen w cs S pd).length = gF (cs.map w) S := by
  intro cs
  induction cs with
  | nil => intro S pd; simp [gGen, gF]
  | cons c cs ih =>
    intro S pd
    rw [List.map_cons]
    unfold gGen gF
    by_cases h : gB S (w c) = true
    · rw [if_pos h, if_pos h, List.length_flatMap]
      congr 1
      refine List.map_congr_left (fun q _ => ?_)
      rw [List.length_map, ih]
    · rw [if_neg h, if_neg h, ih]
/-- what is left of a list -/
def gI (r : zR) (w : Nat → Nat) (cs : List Nat) (S : Nat) (pd : Nat → Nat) (T : List Nat) : Prop :=
  T.Nodup ∧ (∀ x, x ∈ T → (∃ u, u < 3 ∧ gB S u = true ∧ x = pd u) ∨ x ∈ cs) ∧ T.Pairwise (fun x y => ¬ (rS r y = 1 ∧ rU r y < rF r x))
  ∧ (∀ u, u < 3 → gB S u = true → w (pd u) = u ∧ pd u < rN r ∧ rS r (pd u) ≠ 2 ∧ (rS r (pd u) = 1 → pd u ∈ T) ∧ ∀ c, c ∈ cs → pd u < c)
  ∧ cs.Pairwise (fun x y => x < y) ∧ ∀ c, c ∈ cs → c < rN r ∧ rS r c ≠ 2 ∧ (rS r c = 1 → c ∈ T)
theorem gN_other {S u v : Nat} {q : List Nat} (hv : v < 3) (hne : v ≠ u) : gB (gN S u q) v = (gB S v && !(q.contains v)) := by
  unfold gN
  rw [gM_bit _ v hv]
  have : (v == u) = false := by simpa using hne
  rw [this, Bool.false_or]
theorem gN_self {S u : Nat} {q : List Nat} (hu : u < 3) : gB (gN S u q) u = true := by
  unfold gN
  rw [gM_bit _ u hu]
  simp
theorem gD_other {S u v : Nat} (hv : v < 3) (hne : v ≠ u) (h : gB S v = true) : gB (gD S u) v = true := by
  unfold gD
  rw [gM_bit _ v hv, h]
  simpa using hne
theorem gGen_mem {r : zR} (hwf : rWF r) {w : Nat → Nat} (hw : ∀ c, c < rN r → w c < 3) (hww : ∀ c d, c < rN r → d < rN r → w c = w d → rW r c = rW r d) :
    ∀ (cs : List Nat) (S : Nat) (pd : Nat → Nat) (T : List Nat), gI r w cs S pd T → T ∈ gGen w cs S pd := by
  obtain ⟨-, -, hst, hfr, hun⟩ := hwf
  have mapback : ∀ (S : Nat) (pd : Nat → Nat) (q : List Nat), (∀ x, x ∈ q → ∃ u, u < 3 ∧ gB S u = true ∧ x = pd u) → (∀ u, u < 3 → gB S u = true → w (pd u) = u) → (q.map w).map pd = q := by
    intro S pd q h1 h2
    rw [List.map_map]
    conv => rhs; rw [← List.map_id q]
    refine List.map_congr_left (fun x hx => ?_)
    obtain ⟨u, hu, hb, rfl⟩ := h1 x hx
    show pd (w (pd u)) = id (pd u)
    rw [h2 u hu hb]
    rfl
  have nodupback : ∀ (S : Nat) (pd : Nat → Nat) (q : List Nat), q.Nodup → (q.map w).map pd = q → (q.map w).Nodup := by
    intro S pd q hn he
    have h1 : ((q.map w).map pd).Pairwise (· ≠ ·) := by rw [he]; exact hn
    rw [List.pairwise_map] at h1
    exact h1.imp (fun h e => h (congrArg pd e))
  have short : ∀ l : List Nat, l.Nodup → (∀ x, x ∈ l → x < 3) → l.length ≤ 3 := by
    intro l hn hl
    have := List.Nodup.length_le_of_subset (l₂ := [0, 1, 2]) hn (fun x hx => by
      have := hl x hx
      have h : x = 0 ∨ x = 1 ∨ x = 2 := by omega
      rcases h with rfl | rfl | rfl <;> decide)
    simpa using this
  intro cs
  induction cs with
  | nil =>
    intro S pd T hI
    obtain ⟨hnd, hel, hpw, hpd, -, -⟩ := hI
    have hel : ∀ x, x ∈ T → ∃ u, u < 3 ∧ gB S u = true ∧ x = pd u := fun x hx => (hel x hx).elim id (fun h => absurd h (List.not_mem_nil))
    have he := mapback S pd T hel (fun u hu hb => (hpd u hu hb).1)
    have hn2 := nodupback S pd T hnd he
    have hin : ∀ x, x ∈ T.map w → x < 3 ∧ gB S x = true := by
      intro x hx
      obtain ⟨y, hy, rfl⟩ := List.mem_map.mp hx
      obtain ⟨u, hu, hb, rfl⟩ := hel y hy
      rw [(hpd u hu hb).1]
      exact ⟨hu, hb⟩
    exact List.mem_map.mpr ⟨T.map w, gArr_mem _ 3 _ hn2 (fun x hx => gL_mem (hin x hx).1 (hin x hx).2) (short _ hn2 (fun x hx => (hin x hx).1)), he⟩
  | cons c cs ih =>
    intro S pd T hI
    obtain ⟨hnd, hel, hpw, hpd, hcs, hcc⟩ := hI
    rw [List.pairwise_cons] at hcs
    have hc := hcc c (List.mem_cons_self ..)
    have hu : w c < 3 := hw c hc.1
    unfold gGen
    by_cases hb : gB S (w c) = true
    · rw [if_pos hb]
      obtain ⟨hd1, hd2, hd3, hd4, hd5⟩ := hpd (w c) hu hb
      have hdc : pd (w c) < c := hd5 c (List.mem_cons_self ..)
      obtain ⟨hne, hlt⟩ := hun (pd (w c)) c hdc hc.1 (hww _ _ hd2 hc.1 hd1)
      have hs1 : rS r (pd (w c)) = 1 := by
        rcases (hst _ hd2).2.1 with h | h | h
        · exact absurd h hne
        · exact h
        · exact absurd h hd3
      obtain ⟨q, t, hT⟩ := List.append_of_mem (hd4 hs1)
      subst hT
      rw [List.nodup_append, List.nodup_cons] at hnd
      obtain ⟨hnq, ⟨hdt, hnt⟩, hqt⟩ := hnd
      rw [List.pairwise_append, List.pairwise_cons] at hpw
      obtain ⟨hpq, ⟨hpdt, hpt⟩, hpqt⟩ := hpw
      have hq : ∀ x, x ∈ q → ∃ u, u < 3 ∧ gB S u = true ∧ x = pd u := by
        intro x hx
        rcases hel x (List.mem_append_left _ hx) with h | h
        · exact h
        · exfalso
          have hno := hpqt x hx (pd (w c)) (List.mem_cons_self ..)
          have hge : rF r c ≤ rF r x := by
            rcases List.mem_cons.mp h with h | h
            · rw [h]; exact Nat.le_refl _
            · exact Nat.le_of_lt (hfr c x (hcs.1 x h) (hcc x (List.mem_cons_of_mem _ h)).1)
          exact hno ⟨hs1, by omega⟩
      have he := mapback S pd q hq (fun u hu hb => (hpd u hu hb).1)
      have hn2 := nodupback S pd q hnq he
      have hin : ∀ x, x ∈ q.map w → x < 3 ∧ gB S x = true ∧ x ≠ w c ∧ pd x ∈ q := by
        intro x hx
        obtain ⟨y, hy, rfl⟩ := List.mem_map.mp hx
        obtain ⟨u, hu, hb, rfl⟩ := hq y hy
        rw [(hpd u hu hb).1]
        refine ⟨hu, hb, fun e => ?_, hy⟩
        exact hqt (pd u) hy (pd (w c)) (List.mem_cons_self ..) (by rw [e])
      refine List.mem_flatMap.mpr ⟨q.map w, gArr_mem _ 3 _ hn2 (fun x hx => gL_mem (hin x hx).1 (gD_other (hin x hx).1 (hin x hx).2.2.1 (hin x hx).2.1)) (short _ hn2 (fun x hx => (hin x hx).1)), List.mem_map.mpr ⟨t, ?_, by rw [he]⟩⟩
      refine ih _ _ _ ⟨hnt, ?_, hpt, ?_, hcs.2, fun d hd => ?_⟩
      · intro x hx
        rcases hel x (List.mem_append_right _ (List.mem_cons_of_mem _ hx)) with ⟨u, hu2, hb2, rfl⟩ | h
        · left
          have hne2 : u ≠ w c := fun e => hdt (by rw [← e]; exact hx)
          refine ⟨u, hu2, ?_, by rw [va_up_ne _ _ hne2]⟩
          rw [gN_other hu2 hne2, hb2]
          have : (q.map w).contains u = false := by
            rw [← Bool.not_eq_true, List.contains_iff_mem]
            intro hm
            exact hqt (pd u) (hin u hm).2.2.2 (pd u) (List.mem_cons_of_mem _ hx) rfl
          rw [this]
          rfl
        · rcases List.mem_cons.mp h with h | h
          · left
            exact ⟨w c, hu, gN_self hu, by rw [va_up_self]; exact h⟩
          · exact Or.inr h
      · intro v hv hbv
        by_cases hvc : v = w c
        · subst hvc
          rw [va_up_self]
          refine ⟨rfl, hc.1, hc.2.1, fun h => ?_, fun d hd => hcs.1 d hd⟩
          have hm := hc.2.2 h
          rcases List.mem_append.mp hm with hm | hm
          · exfalso
            obtain ⟨u, hu2, hb2, e⟩ := hq c hm
            have := (hpd u hu2 hb2).2.2.2.2 c (List.mem_cons_self ..)
            omega
          · rcases List.mem_cons.mp hm with hm | hm
            · omega
            · exact hm
        · rw [va_up_ne _ _ hvc]
          rw [gN_other hv hvc, Bool.and_eq_true] at hbv
          obtain ⟨g1, g2, g3, g4, g5⟩ := hpd v hv hbv.1
          refine ⟨g1, g2, g3, fun h => ?_, fun d hd => g5 d (List.mem_cons_of_mem _ hd)⟩
          rcases List.mem_append.mp (g4 h) with hm | hm
          · exfalso
            have : v ∈ q.map w := List.mem_map.mpr ⟨pd v, hm, g1⟩
            have hcn := hbv.2
            rw [Bool.not_eq_true', ← Bool.not_eq_true, List.contains_iff_mem] at hcn
            exact hcn this
          · rcases List.mem_cons.mp hm with hm | hm
            · exfalso
              apply hvc
              rw [← g1, hm, hd1]
            · exact hm
      · obtain ⟨g1, g2, g3⟩ := hcc d (List.mem_cons_of_mem _ hd)
        refine ⟨g1, g2, fun h => ?_⟩
        rcases List.mem_append.mp (g3 h) with hm | hm
        · exfalso
          obtain ⟨u, hu2, hb2, e⟩ := hq d hm
          have := (hpd u hu2 hb2).2.2.2.2 d (List.mem_cons_of_mem _ hd)
          omega
        · rcases List.mem_cons.mp hm with hm | hm
          · have := hcs.1 d hd
            omega
          · exact hm
    · rw [if_neg hb]
      refine ih _ _ _ ⟨hnd, ?_, hpw, ?_, hcs.2, fun d hd => hcc d (List.mem_cons_of_mem _ hd)⟩
      · intro x hx
        rcases hel x hx with ⟨u, hu2, hb2, rfl⟩ | h
        · left
          have hne2 : u ≠ w c := fun e => hb (by rw [← e]; exact hb2)
          refine ⟨u, hu2, ?_, by rw [va_up_ne _ _ hne2]⟩
          rw [gN_other hu2 hne2, hb2]
          rfl
        · rcases List.mem_cons.mp h with h | h
          · left
            exact ⟨w c, hu, gN_self hu, by rw [va_up_self]; exact h⟩
          · exact Or.inr h
      · intro v hv hbv
        by_cases hvc : v = w c
        · subst hvc
          rw [va_up_self]
          exact ⟨rfl, hc.1, hc.2.1, hc.2.2, fun d hd => hcs.1 d hd⟩
        · rw [va_up_ne _ _ hvc]
          rw [gN_other hv hvc, Bool.and_eq_true] at hbv
          obtain ⟨g1, g2, g3, g4, g5⟩ := hpd v hv hbv.1
          exact ⟨g1, g2, g3, g4, fun d hd => g5 d (List.mem_cons_of_mem _ hd)⟩
/-! the number -/
def gV (ws : List Nat) : List Nat := [gF ws 0, gF ws 1, gF ws 2, gF ws 3, gF ws 4, gF ws 5, gF ws 6, gF ws 7]
def gT (u : Nat) (v : List Nat) : List Nat := match u, v with
  | 0, [_, b, _, d, _, f, _, h] => [b, b, d, d + b, f, f + b, h, h + f + d + 2 * b]
  | 1, [_, _, c, d, _, _, g, h] => [c, d, c, d + c, g, h, g + c, h + g + d + 2 * c]
  | 2, [_, _, _, _, e, f, g, h] => [e, f, g, h, e, f + e, g + e, h + g + f + 2 * e]
  | _, v => v
theorem gV_cons (u : Nat) (hu : u < 3) (ws : List Nat) : gV (u :: ws) = gT u (gV ws) := by
  have h : u = 0 ∨ u = 1 ∨ u = 2 := by omega
  rcases h with rfl | rfl | rfl
  · have e0 : gF (0 :: ws) 0 = gF ws 1 := rfl
    have e1 : gF (0 :: ws) 1 = gF ws 1 + 0 := rfl
    have e2 : gF (0 :: ws) 2 = gF ws 3 := rfl
    have e3 : gF (0 :: ws) 3 = gF ws 3 + (gF ws 1 + 0) := rfl
    have e4 : gF (0 :: ws) 4 = gF ws 5 := rfl
    have e5 : gF (0 :: ws) 5 = gF ws 5 + (gF ws 1 + 0) := rfl
    have e6 : gF (0 :: ws) 6 = gF ws 7 := rfl
    have e7 : gF (0 :: ws) 7 = gF ws 7 + (gF ws 5 + (gF ws 1 + (gF ws 3 + (gF ws 1 + 0)))) := rfl
    unfold gV gT
    rw [e0, e1, e2, e3, e4, e5, e6, e7]
    simp
    omega
  · have e0 : gF (1 :: ws) 0 = gF ws 2 := rfl
    have e1 : gF (1 :: ws) 1 = gF ws 3 := rfl
    have e2 : gF (1 :: ws) 2 = gF ws 2 + 0 := rfl
    have e3 : gF (1 :: ws) 3 = gF ws 3 + (gF ws 2 + 0) := rfl
    have e4 : gF (1 :: ws) 4 = gF ws 6 := rfl
    have e5 : gF (1 :: ws) 5 = gF ws 7 := rfl
    have e6 : gF (1 :: ws) 6 = gF ws 6 + (gF ws 2 + 0) := rfl
    have e7 : gF (1 :: ws) 7 = gF ws 7 + (gF ws 6 + (gF ws 2 + (gF ws 3 + (gF ws 2 + 0)))) := rfl
    unfold gV gT
    rw [e0, e1, e2, e3, e4, e5, e6, e7]
    simp
    omega
  · have e0 : gF (2 :: ws) 0 = gF ws 4 := rfl
    have e1 : gF (2 :: ws) 1 = gF ws 5 := rfl
    have e2 : gF (2 :: ws) 2 = gF ws 6 := rfl
    have e3 : gF (2 :: ws) 3 = gF ws 7 := rfl
    have e4 : gF (2 :: ws) 4 = gF ws 4 + 0 := rfl
    have e5 : gF (2 :: ws) 5 = gF ws 5 + (gF ws 4 + 0) := rfl
    have e6 : gF (2 :: ws) 6 = gF ws 6 + (gF ws 4 + 0) := rfl
    have e7 : gF (2 :: ws) 7 = gF ws 7 + (gF ws 6 + (gF ws 4 + (gF ws 5 + (gF ws 4 + 0)))) := rfl
    unfold gV gT
    rw [e0, e1, e2, e3, e4, e5, e6, e7]
    simp
    omega
def gK : Nat → List Nat → Bool
  | 0, v => Nat.ble (v.headD 0) 680
  | k + 1, v => Nat.ble (v.headD 0) 680 && (gK k (gT 0 v) && (gK k (gT 1 v) && gK k (gT 2 v)))
theorem gK_8 : gK 8 [1, 2, 2, 5, 2, 5, 5, 16] = true := by decide +kernel
theorem gK_use : ∀ (ps : List Nat) (k : Nat) (ws : List Nat), (∀ u, u ∈ ps → u < 3) → ps.length ≤ k → gK k (gV ws) = true → gF (ps.reverse ++ ws) 0 ≤ 680 := by
  intro ps
  induction ps with
  | nil =>
    intro k ws _ _ h
    have h1 : Nat.ble ((gV ws).headD 0) 680 = true := by
      cases k with
      | zero => exact h
      | succ k => exact (Bool.and_eq_true _ _ ▸ h).1
    exact Nat.le_of_ble_eq_true h1
  | cons u ps ih =>
    intro k ws hu hk h
    cases k with
    | zero => simp at hk
    | succ k =>
      rw [List.reverse_cons, List.append_assoc, List.singleton_append]
      have hu0 := hu u (List.mem_cons_self ..)
      refine ih k (u :: ws) (fun v hv => hu v (List.mem_cons_of_mem _ hv)) (by simpa using hk) ?_
      rw [gV_cons u hu0]
      have h : (Nat.ble ((gV ws).headD 0) 680 && (gK k (gT 0 (gV ws)) && (gK k (gT 1 (gV ws)) && gK k (gT 2 (gV ws))))) = true := h
      rw [Bool.and_eq_true, Bool.and_eq_true, Bool.and_eq_true] at h
      have h3 : u = 0 ∨ u = 1 ∨ u = 2 := by omega
      rcases h3 with rfl | rfl | rfl
      · exact h.2.1
      · exact h.2.2.1
      · exact h.2.2.2
theorem gF_680 (ws : List Nat) (h : ∀ u, u ∈ ws → u < 3) (hl : ws.length ≤ 8) : gF ws 0 ≤ 680 := by
  have := gK_use ws.reverse 8 [] (fun u hu => h u (List.mem_reverse.mp hu)) (by simpa using hl) gK_8
  simpa using this
def rWn (r : zR) (c : Nat) : Nat := if rW r c = 0 then 0 else if rW r c = 1 then 1 else 2
theorem rE_680 {r : zR} (hwf : rWF r) : (rE r).length ≤ 680 := by
  have hw : ∀ c, c < rN r → rWn r c < 3 := by
    intro c _
    unfold rWn
    split
    · omega
    · split <;> omega
  have hww : ∀ c d, c < rN r → d < rN r → rWn r c = rWn r d → rW r c = rW r d := by
    intro c d hc hd e
    unfold rWn at e
    rcases (hwf.2.2.1 c hc).1 with h | h | h <;> rcases (hwf.2.2.1 d hd).1 with h2 | h2 | h2 <;> rw [h, h2] at e ⊢ <;> first | rfl | exact absurd e (by decide)
  have hcs : ((List.range (rN r)).filter (fun c => !(rS r c == 2))).Pairwise (fun x y => x < y) := List.Pairwise.filter _ List.pairwise_lt_range
  have hlen : ((List.range (rN r)).filter (fun c => !(rS r c == 2))).length ≤ 8 := Nat.le_trans (List.length_filter_le ..) (by rw [List.length_range]; exact hwf.1)
  have hmem : ∀ c, c ∈ (List.range (rN r)).filter (fun c => !(rS r c == 2)) ↔ c < rN r ∧ rS r c ≠ 2 := by
    intro c
    rw [List.mem_filter, List.mem_range]
    simp
  refine Nat.le_trans (List.Nodup.length_le_of_subset (l₂ := gGen (rWn r) ((List.range (rN r)).filter (fun c => !(rS r c == 2))) 0 (fun _ => 0)) (rVM_nodup 8 []) ?_) ?_
  · intro M hM
    obtain ⟨-, hall, hg⟩ := rVM_mem 8 [] M hM
    obtain ⟨g1, g2, g3⟩ := hg (rG_nil r)
    refine gGen_mem hwf hw hww _ _ _ _ ⟨g1, fun x hx => Or.inr ((hmem x).mpr (g2 x hx)), g3, ?_, hcs, fun c hc => ?_⟩
    · intro u hu hb
      exfalso
      have h3 : u = 0 ∨ u = 1 ∨ u = 2 := by omega
      rcases h3 with rfl | rfl | rfl <;> exact absurd hb (by decide)
    · have := (hmem c).mp hc
      exact ⟨this.1, this.2, fun h => hall c this.1 h⟩
  · rw [gGen_len]
    refine gF_680 _ (fun u hu => ?_) (by rw [List.length_map]; exact hlen)
    obtain ⟨c, hc, rfl⟩ := List.mem_map.mp hu
    exact hw c ((hmem c).mp hc).1
