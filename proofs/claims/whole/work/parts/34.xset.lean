/-! The program's set of rows: the different rows in the order in which they came, found by slots -/
def hS (x : Int64) : Nat := ((((x * (-7046029254386353131 : Int64)).toUInt64 >>> ((54 : Int32).toInt64.toUInt64 &&& Int64.toUInt64 63)).toInt64).toInt32).toNatClampNeg
theorem hS_ok (x : Int64) : (((x * (-7046029254386353131 : Int64)).toUInt64 >>> ((54 : Int32).toInt64.toUInt64 &&& Int64.toUInt64 63)).toInt64).toInt32 = nI (hS x) ∧ hS x < 1024 := by
  unfold hS
  obtain ⟨n, hn, hx⟩ := wb_of (x * (-7046029254386353131 : Int64))
  rw [hx, g_ushr (k := 54) (p := 18014398509481984) (by decide) (by omega) (by decide) hn, lN_i]
  have : n / 18014398509481984 < 1024 := by omega
  rw [nI_clamp (by omega)]
  exact ⟨rfl, this⟩
def dd (rs : List (List Nat)) (w : List Nat) : List (List Nat) := if w ∈ rs then rs else rs ++ [w]
def xSl (rs : List (List Nat)) (σ : zS) (sl : Nat → Nat) : Prop :=
  (∀ p, p < 1024 → σ.2.1 4 p = nI (sl p) ∧ sl p ≤ rs.length) ∧ (∀ p q, p < 1024 → q < 1024 → sl p ≠ 0 → sl p = sl q → p = q)
  ∧ ∀ i v, rs[i]? = some v → ∃ t, t < 1024 ∧ sl ((hS (eX v) + t) % 1024) = i + 1 ∧ ∀ t', t' < t → sl ((hS (eX v) + t') % 1024) ≠ 0
def xSet (rs : List (List Nat)) (σ : zS) : Prop :=
  rs.Nodup ∧ (∀ w, w ∈ rs → eOk w) ∧ rs.length ≤ 680 ∧ σ.1 8 = nI rs.length ∧ (∀ i v, rs[i]? = some v → σ.2.2 0 i = eX v) ∧ ∃ sl, xSl rs σ sl
def xFr (σ σ' : zS) : Prop := (∀ k, k ≠ 8 → σ'.1 k = σ.1 k) ∧ ∀ k, k ≠ 4 → σ'.2.1 k = σ.2.1 k
theorem slot_inj {h a b : Nat} (ha : a < 1024) (hb : b < 1024) (e : (h + a) % 1024 = (h + b) % 1024) : a = b := by omega
theorem slots_full {rs : List (List Nat)} {σ : zS} {sl : Nat → Nat} {h : Nat} (hs : xSl rs σ sl) (hl : rs.length ≤ 680) (hf : ∀ t, t < 1024 → sl ((h + t) % 1024) ≠ 0) : False := by
  have hn : ((List.range 1024).map (fun t => sl ((h + t) % 1024))).Nodup := by
    show List.Pairwise (· ≠ ·) _
    rw [List.pairwise_map]
    refine List.Pairwise.imp_of_mem ?_ (List.nodup_range (n := 1024))
    intro a b ha hb hab e
    have ha := List.mem_range.mp ha
    have hb := List.mem_range.mp hb
    exact hab (slot_inj ha hb (hs.2.1 _ _ (Nat.mod_lt _ (by omega)) (Nat.mod_lt _ (by omega)) (hf a ha) e))
  have hsub := List.Nodup.length_le_of_subset (l₂ := List.range 681) hn (by
    intro x hx
    obtain ⟨t, ht, rfl⟩ := List.mem_map.mp hx
    have := (hs.1 ((h + t) % 1024) (Nat.mod_lt _ (by omega))).2
    exact List.mem_range.mpr (by omega))
  simp at hsub
theorem xSet_new {rs : List (List Nat)} {σ σ' : zS} {sl : Nat → Nat} {w : List Nat} {t : Nat} (hS0 : xSet rs σ) (hs : xSl rs σ sl) (hw : eOk w) (hin : w ∉ rs) (hl : rs.length < 680) (ht : t < 1024) (h0 : sl ((hS (eX w) + t) % 1024) = 0) (hocc : ∀ t', t' < t → sl ((hS (eX w) + t') % 1024) ≠ 0)
    (e1 : σ'.1 8 = nI (rs.length + 1)) (e2 : ∀ i, σ'.2.2 0 i = vp_updL (σ.2.2 0) rs.length (eX w) i) (e3 : ∀ p, σ'.2.1 4 p = upd (σ.2.1 4) ((hS (eX w) + t) % 1024) (nI (rs.length + 1)) p) : xSet (rs ++ [w]) σ' := by
  obtain ⟨a1, a2, a3, a4, a5, -⟩ := hS0
  obtain ⟨b1, b2, b3⟩ := hs
  refine ⟨List.nodup_append.mpr ⟨a1, by simp, fun x hx y hy e => hin (by rw [← List.mem_singleton.mp hy, ← e]; exact hx)⟩, ?_, by simp; omega, by rw [e1]; simp, ?_, fun p => if p = (hS (eX w) + t) % 1024 then rs.length + 1 else sl p, ?_, ?_, ?_⟩
  · intro x hx
    rcases List.mem_append.mp hx with hx | hx
    · exact a2 x hx
    · rw [List.mem_singleton.mp hx]; exact hw
  · intro i v hv
    rw [e2]
    by_cases hi : i < rs.length
    · rw [List.getElem?_append_left hi] at hv
      rw [pk_uLn (by omega)]
      exact a5 i v hv
    · have hi2 : i = rs.length := by
        have := (List.getElem?_eq_some_iff.mp hv).1
        simp at this
        omega
      subst hi2
      rw [pk_uLs]
      simp at hv
      rw [hv]
  · intro p hp
    dsimp only
    rw [e3]
    by_cases hpp : p = (hS (eX w) + t) % 1024
    · rw [if_pos hpp, hpp, pk_us]
      exact ⟨rfl, by simp⟩
    · rw [if_neg hpp, pk_un hpp]
      have := b1 p hp
      exact ⟨this.1, by simp; omega⟩
  · intro p q hp hq
    dsimp only
    have bp := (b1 p hp).2
    have bq := (b1 q hq).2
    by_cases hpp : p = (hS (eX w) + t) % 1024
    · rw [if_pos hpp]
      by_cases hqq : q = (hS (eX w) + t) % 1024
      · intro _ _; rw [hpp, hqq]
      · rw [if_neg hqq]; intro _ e; omega
    · rw [if_neg hpp]
      by_cases hqq : q = (hS (eX w) + t) % 1024
      · rw [if_pos hqq]; intro _ e; omega
      · rw [if_neg hqq]; exact b2 p q hp hq
  · intro i v hv
    dsimp only
    by_cases hi : i < rs.length
    · rw [List.getElem?_append_left hi] at hv
      obtain ⟨t1, ht1, g1, g2⟩ := b3 i v hv
      refine ⟨t1, ht1, ?_, fun t' ht' => ?_⟩
      · rw [if_neg (fun e => by rw [e, h0] at g1; omega)]
        exact g1
      · by_cases e : (hS (eX v) + t') % 1024 = (hS (eX w) + t) % 1024
        · rw [if_pos e]; omega
        · rw [if_neg e]; exact g2 t' ht'
    · have hi2 : i = rs.length := by
        have := (List.getElem?_eq_some_iff.mp hv).1
        simp at this
        omega
      subst hi2
      have hv : w = v := by simpa using hv
      subst hv
      refine ⟨t, ht, by rw [if_pos rfl], fun t' ht' => ?_⟩
      by_cases e : (hS (eX w) + t') % 1024 = (hS (eX w) + t) % 1024
      · rw [if_pos e]; omega
      · rw [if_neg e]; exact hocc t' ht'
theorem s_add {rs : List (List Nat)} {w : List Nat} {σ : zS} {post : zS → Prop} (hS0 : xSet rs σ) (hw : eOk w) (hroom : w ∈ rs ∨ rs.length < 680) (hp : ∀ σ', xSet (dd rs w) σ' → xFr σ σ' → post σ') : j_X3_add (eX w) σ post := by
  obtain ⟨a1, a2, a3, a4, a5, sl, hsl⟩ := id hS0
  obtain ⟨b1, b2, b3⟩ := id hsl
  obtain ⟨hh, hlt⟩ := hS_ok (eX w)
  unfold j_X3_add
  refine znm_i ?_
  rw [hh]
  refine zLP_rule (fun q => ∃ t, t ≤ 1024 ∧ q = (nI ((hS (eX w) + t) % 1024), nI t, σ) ∧ ∀ t', t' < t → sl ((hS (eX w) + t') % 1024) ≠ 0 ∧ ∀ v, rs[sl ((hS (eX w) + t') % 1024) - 1]? = some v → v ≠ w) (fun q => 1024 - q.2.1.toNatClampNeg) ?_ _ ⟨0, by omega, by rw [Nat.add_zero, Nat.mod_eq_of_lt hlt]; rfl, fun t' h => absurd h (by omega)⟩
  rintro q ⟨t, ht, rfl, hocc⟩ R hR
  have hnext : ¬ t = 1024 → sl ((hS (eX w) + t) % 1024) ≠ 0 → (∀ v, rs[sl ((hS (eX w) + t) % 1024) - 1]? = some v → v ≠ w) → R ((nI ((hS (eX w) + t) % 1024) + (1 : Int32)) - (nI ((hS (eX w) + t) % 1024) + (1 : Int32)) / (1024 : Int32) * (1024 : Int32), nI t + 1, σ) := by
    intro hne g1 g2
    have em : (hS (eX w) + t) % 1024 < 1024 := Nat.mod_lt _ (by omega)
    have e1 : (nI ((hS (eX w) + t) % 1024) + (1 : Int32)) - (nI ((hS (eX w) + t) % 1024) + (1 : Int32)) / (1024 : Int32) * (1024 : Int32) = nI ((hS (eX w) + (t + 1)) % 1024) := by
      rw [nI_1]
      have := pk_rem (a := (hS (eX w) + t) % 1024 + 1) (d := 1024) (by omega) (by omega) (by omega)
      refine Eq.trans this ?_
      congr 1
      omega
    rw [e1, nI_1]
    refine hR _ ⟨t + 1, by omega, rfl, fun t' h => ?_⟩ ?_
    · by_cases e : t' = t
      · subst e; exact ⟨g1, g2⟩
      · exact hocc t' (by omega)
    · dsimp only
      rw [nI_clamp (by omega), nI_clamp (by omega)]
      omega
  dsimp only [b_X3_add_13]
  have hle : (1024 : Int32) ≤ nI t ↔ 1024 ≤ t := nI_leI (a := 1024) (by omega) (by omega)
  rw [hle]
  refine ⟨fun g => ?_, fun g => ?_⟩
  · exfalso
    have : t = 1024 := by omega
    subst this
    exact slots_full hsl a3 (fun t' h => (hocc t' h).1)
  · have hp0 : (hS (eX w) + t) % 1024 < 1024 := Nat.mod_lt _ (by omega)
    have hin := vp_in_nI hp0 (by omega)
    refine ⟨hin, znm_i ?_⟩
    rw [nI_clamp (by omega)]
    obtain ⟨c1, c2⟩ := b1 _ hp0
    rw [c1]
    have hz : nI (sl ((hS (eX w) + t) % 1024)) = 0 ↔ sl ((hS (eX w) + t) % 1024) = 0 := nI_eq (b := 0) (by omega) (by omega)
    rw [hz]
    refine ⟨fun g0 => ⟨fun _ => ?_, fun g1 => absurd g0 g1⟩, fun g0 => ?_⟩
    · have hnin : w ∉ rs := by
        intro hm
        obtain ⟨i, hi⟩ := List.getElem?_of_mem hm
        obtain ⟨t1, ht1, f1, f2⟩ := b3 i w hi
        rcases Nat.lt_trichotomy t1 t with h | h | h
        · refine (hocc t1 h).2 w ?_ rfl
          rw [f1]
          exact hi
        · rw [h, g0] at f1
          omega
        · exact f2 t h g0
      have hl : rs.length < 680 := hroom.elim (fun h => absurd h hnin) id
      have h6 : (680 : Int32) ≤ σ.1 8 ↔ 680 ≤ rs.length := by rw [a4]; exact nI_leI (a := 680) (by omega) (by omega)
      rw [h6]
      refine ⟨fun g1 => absurd g1 (by omega), fun _ => ?_⟩
      rw [a4]
      refine ⟨vp_in_nI hl (by omega), znm_i (znm_i ⟨hin, znm_i (hp _ ?_ ?_)⟩)⟩
      · unfold dd
        rw [if_neg hnin]
        refine xSet_new hS0 hsl hw hnin hl (by omega) g0 (fun t' h => (hocc t' h).1) ?_ ?_ ?_
        · simp [zA, zF, zI, zL, zG, va_up, a4, nI_1]
        · intro i
          simp [zA, zF, zI, zL, zG, va_up, nI_clamp (show rs.length < 2 ^ 31 by omega)]
        · intro p
          simp [zA, zF, zI, zL, zG, va_up, a4, nI_1, nI_clamp (show (hS (eX w) + t) % 1024 < 2 ^ 31 by omega)]
      · refine ⟨fun k hk => ?_, fun k hk => ?_⟩
        · simp [zA, zF, zI, zL, zG, va_up, hk]
        · simp [zA, zF, zI, zL, zG, va_up, hk]
    · have hpred : nI (sl ((hS (eX w) + t) % 1024)) - (1 : Int32) = nI (sl ((hS (eX w) + t) % 1024) - 1) := by
        have : sl ((hS (eX w) + t) % 1024) = (sl ((hS (eX w) + t) % 1024) - 1) + 1 := by omega
        rw [this]
        exact nI_pred _
      rw [hpred]
      refine ⟨vp_in_nI (by omega) (by omega), ?_⟩
      rw [nI_clamp (by omega)]
      obtain ⟨v, hv⟩ : ∃ v, rs[sl ((hS (eX w) + t) % 1024) - 1]? = some v := ⟨_, List.getElem?_eq_getElem (by omega)⟩
      rw [a5 _ v hv, lgc0]
      have hvok := a2 v (List.mem_of_getElem? hv)
      refine ⟨fun g1 => ?_, fun g1 => ⟨fun g2 => absurd g2 g0, fun _ => znm_i (hnext (by omega) g0 (fun v2 hv2 => ?_))⟩⟩
      · have hm : w ∈ rs := by
          rw [← eX_inj hvok hw g1]
          exact List.mem_of_getElem? hv
        refine hp σ ?_ ⟨fun _ _ => rfl, fun _ _ => rfl⟩
        unfold dd
        rw [if_pos hm]
        exact hS0
      · rw [hv] at hv2
        rw [← Option.some.inj hv2]
        intro e
        exact g1 (by rw [e])
