/-! The reference: noting an explanation -/
def yFnd (r : zR) (E : List (List Nat)) (τ : zS) : Prop := τ.2.2 2 0 = lN E.length ∧ τ.1 7 = nI (rRows r E).length ∧ (∀ i v, (rRows r E)[i]? = some v → τ.2.2 0 i = eM v) ∧ ∀ u, u < 3 → τ.2.2 1 u = lN (rCnt r u E) ∧ τ.2.1 11 u = rBit r u E
def yNt (τ τ' : zS) : Prop := (∀ k, k ≠ 7 → τ'.1 k = τ.1 k) ∧ ∀ k, k ≠ 11 → τ'.2.1 k = τ.2.1 k
theorem yNt.kp {τ τ' : zS} (h : yNt τ τ') : yKp τ τ' := ⟨fun k hk => h.1 k (by omega), fun k hk => h.2 k (by omega)⟩
theorem yNt.tr {a b c : zS} (h : yNt a b) (g : yNt b c) : yNt a c := ⟨fun k hk => (g.1 k hk).trans (h.1 k hk), fun k hk => (g.2 k hk).trans (h.2 k hk)⟩
theorem yNt.path {τ τ' : zS} {L : List Nat} (h : yNt τ τ') (hp : yPath L τ) : yPath L τ' := ⟨by rw [h.1 5 (by omega)]; exact hp.1, by rw [h.2 7 (by omega)]; exact hp.2⟩
theorem rO_of {r : zR} (hwf : rWF r) {c u : Nat} (hc : c < rN r) (hw : rW r c = nI u) (hs : rS r c = 0) : rO r u = nI c := by
  rcases rOp_spec r (nI u) (rN r) with ⟨-, h⟩ | ⟨d, h1, h2, h3, h4⟩
  · exact absurd ⟨hw, hs⟩ (h c hc)
  · have e : c = d := by
      rcases Nat.lt_trichotomy c d with h | h | h
      · exact absurd hs (hwf.2.2.2.2 c d h h1 (hw.trans h3.symm)).1
      · exact h
      · exact absurd h4 (hwf.2.2.2.2 d c h hc (h3.trans hw.symm)).1
    rw [e]
    exact h2
theorem rO_inv {r : zR} (hwf : rWF r) {c u : Nat} (hc : c < rN r) (h : rO r u = nI c) : rW r c = nI u ∧ rS r c = 0 := by
  have hN := hwf.1
  rcases rOp_spec r (nI u) (rN r) with ⟨h1, -⟩ | ⟨d, h1, h2, h3⟩
  · have h1 : rO r u = -1 := h1
    rw [h1] at h
    exact absurd h.symm (nI_m1 (by omega))
  · have h2 : rO r u = nI d := h2
    rw [h2, nI_eq (by omega) (by omega)] at h
    rw [← h]
    exact h3
theorem t_note_all {r : zR} {τ : zS} {L : List Nat} {post : zS → Prop} {K : Int32 → zS → Prop} (hwf : rWF r) (hr : yRec r τ) (hl : L.length ≤ 8) (hL : ∀ x, x ∈ L → x < rN r) (hpa : yPath L τ) (hK : rAll r L → ∀ y, K y τ) (h0 : ¬ rAll r L → post τ) : zLP (b_M_note_2 post K) ((0 : Int32), τ) := by
  have hN := hwf.1
  refine zLP_rule (fun q => ∃ c, c ≤ rN r ∧ q = (nI c, τ) ∧ ∀ d, d < c → rS r d = 1 → d ∈ L) (fun q => rN r - q.1.toNatClampNeg) ?_ _ ⟨0, by omega, rfl, fun d h => absurd h (by omega)⟩
  rintro q ⟨c, hc, rfl, hall⟩ R hR
  dsimp only [b_M_note_2]
  have hle : τ.1 4 ≤ nI c ↔ rN r ≤ c := by rw [hr.1.2.2]; exact nI_leI (by omega) (by omega)
  rw [hle]
  refine ⟨fun g => hK (fun d hd hs => hall d (by omega) hs) _, fun g => ?_⟩
  have hcn : c < rN r := by omega
  have next : (rS r c = 1 → c ∈ L) → R (nI c + 1, τ) := by
    intro hm
    rw [nI_1]
    refine hR _ ⟨c + 1, by omega, rfl, fun d hd hs => ?_⟩ (by dsimp only; rw [nI_clamp (by omega), nI_clamp (by omega)]; omega)
    by_cases e : d = c
    · subst e; exact hm hs
    · exact hall d (by omega) hs
  refine ⟨vp_in_nI (show c < 8 by omega) (by omega), ?_⟩
  rw [nI_clamp (by omega), (hr.2 c hcn).1.2.2.2]
  refine ⟨fun g1 => ?_, fun g1 => next (fun h => absurd h g1)⟩
  refine t_isListed hl (fun x hx => Nat.lt_of_lt_of_le (hL x hx) hN) (by omega) hpa (fun hm => ⟨fun h => absurd h (by decide), fun _ => next (fun _ => hm)⟩) (fun hm => ⟨fun _ => h0 (fun h => hm (h c hcn g1)), fun h => absurd rfl h⟩)
theorem t_code {τ : zS} {w : List Nat} {post : zS → Prop} {K : Int64 → Int32 → zS → Prop} (hok : eOk w) (hrow : yRow w τ) (hK : ∀ y, K (eM w) y τ) : zLP (b_M_note_53 post K) ((nI w.length).toInt64, (0 : Int32), τ) := by
  have h8 := hok.1
  refine zLP_rule (fun q => ∃ k, k ≤ w.length ∧ q = (lN (w.length + 16 * eN (w.take k)), nI k, τ)) (fun q => w.length - q.2.1.toNatClampNeg) ?_ _ ⟨0, by omega, by rw [nI_l (by omega)]; rfl⟩
  rintro q ⟨k, hk, rfl⟩ R hR
  dsimp only [b_M_note_53]
  have hle : τ.1 6 ≤ nI k ↔ w.length ≤ k := by rw [hrow.1]; exact nI_leI (by omega) (by omega)
  rw [hle]
  refine ⟨fun g => ?_, fun g => ⟨vp_in_nI (show k < 8 by omega) (by omega), znm_i ?_⟩⟩
  · rw [List.take_of_length_le g]
    exact hK _
  · obtain ⟨x, hx⟩ : ∃ x, w[k]? = some x := ⟨_, List.getElem?_eq_getElem (by omega)⟩
    have hx16 := hok.2 x (List.mem_of_getElem? hx)
    have htk : w.take (k + 1) = w.take k ++ [x] := by rw [List.take_succ, hx]; rfl
    have hlen : (w.take k).length = k := by rw [List.length_take]; omega
    have e4 : (4 : Int32) + nI (4 * k) = nI (4 + 4 * k) := nI_add 4 (4 * k)
    rw [nI_clamp (by omega), hrow.2 k x hx, mul4, e4, nI_l (by omega), wb_shl x (by omega), lN_add, nI_1]
    refine hR _ ⟨k + 1, by omega, ?_⟩ (by dsimp only; rw [nI_clamp (by omega), nI_clamp (by omega)]; omega)
    have : w.length + 16 * eN (w.take k) + x * 2 ^ (4 + 4 * k) = w.length + 16 * eN (w.take (k + 1)) := by
      rw [htk, eN_app, hlen, Nat.pow_add, p16]
      show _ = w.length + 16 * (eN (w.take k) + 16 ^ k * (x + 16 * 0))
      have h16 : (2 : Nat) ^ 4 = 16 := by decide
      rw [Nat.mul_zero, Nat.add_zero, Nat.mul_add, ← Nat.mul_assoc 16 (16 ^ k) x, Nat.mul_comm x, h16]
      omega
    rw [this]
theorem t_old {r : zR} {E : List (List Nat)} {τ : zS} {w : List Nat} {post : zS → Prop} {K : Int32 → Int32 → zS → Prop} (hok : eOk w) (hf2 : τ.1 7 = nI (rRows r E).length) (hf3 : ∀ i v, (rRows r E)[i]? = some v → τ.2.2 0 i = eM v) (hrok : ∀ v, v ∈ rRows r E → eOk v) (hlen : (rRows r E).length < 1400) (h1 : w ∈ rRows r E → ∀ y, K 1 y τ) (h0 : w ∉ rRows r E → ∀ y, K 0 y τ) : zLP (b_M_note_88 (eM w) post K) ((0 : Int32), (0 : Int32), τ) := by
  refine zLP_rule (fun q => ∃ i, i ≤ (rRows r E).length ∧ q.2.1 = nI i ∧ q.2.2 = τ ∧ ((q.1 = 1 ∧ w ∈ (rRows r E).take i) ∨ (q.1 = 0 ∧ w ∉ (rRows r E).take i))) (fun q => (rRows r E).length - q.2.1.toNatClampNeg) ?_ _ ⟨0, by omega, rfl, rfl, Or.inr ⟨rfl, by simp⟩⟩
  rintro ⟨y, z, τ1⟩ ⟨i, hi, hz, ht, hy⟩ R hR
  dsimp only at hz ht hy
  subst hz
  subst ht
  dsimp only [b_M_note_88]
  have hle : τ1.1 7 ≤ nI i ↔ (rRows r E).length ≤ i := by rw [hf2]; exact nI_leI (by omega) (by omega)
  rw [hle]
  refine ⟨fun g => ?_, fun g => ?_⟩
  · have e : (rRows r E).take i = rRows r E := List.take_of_length_le g
    rw [e] at hy
    rcases hy with ⟨rfl, hy⟩ | ⟨rfl, hy⟩
    · exact h1 hy _
    · exact h0 hy _
  · obtain ⟨v, hv⟩ : ∃ v, (rRows r E)[i]? = some v := ⟨_, List.getElem?_eq_getElem (by omega)⟩
    have htk : (rRows r E).take (i + 1) = (rRows r E).take i ++ [v] := by rw [List.take_succ, hv]; rfl
    have hvok := hrok v (List.mem_of_getElem? hv)
    have next : ∀ b, ((b = 1 ∧ w ∈ (rRows r E).take (i + 1)) ∨ (b = 0 ∧ w ∉ (rRows r E).take (i + 1))) → R (b, nI i + 1, τ1) := by
      intro b hb
      rw [nI_1]
      exact hR _ ⟨i + 1, by omega, rfl, rfl, hb⟩ (by dsimp only; rw [nI_clamp (by omega), nI_clamp (by omega)]; omega)
    rw [htk] at next
    rcases hy with ⟨rfl, hy⟩ | ⟨rfl, hy⟩
    · exact ⟨fun g2 => absurd g2 (by decide), fun _ => next 1 (Or.inl ⟨rfl, List.mem_append_left _ hy⟩)⟩
    · refine ⟨fun _ => ⟨vp_in_nI (show i < 1400 by omega) (by omega), ?_⟩, fun g2 => absurd rfl g2⟩
      rw [nI_clamp (by omega), hf3 i v hv, lgc0]
      refine ⟨fun e => next 1 (Or.inl ⟨rfl, List.mem_append_right _ (by rw [eM_inj hvok hok e]; exact List.mem_singleton.mpr rfl)⟩), fun e => next 0 (Or.inr ⟨rfl, fun h => ?_⟩)⟩
      rcases List.mem_append.mp h with h | h
      · exact hy h
      · exact e (by rw [List.mem_singleton.mp h])
theorem t_replies {r : zR} {E : List (List Nat)} {L : List Nat} {τ : zS} {post : zS → Prop} {K : Int32 → zS → Prop} (hwf : rWF r) (hr : yRec r τ) (hl : L.length ≤ 8) (hnd : L.Nodup) (hL : ∀ x, x ∈ L → x < rN r) (hpa : yPath L τ) (hgiv : ∀ c, c ∈ L → τ.2.1 8 c = (rRun r L).2 c) (hst : ∀ u, u < 3 → τ.2.2 1 u = lN (rCnt r u E) ∧ τ.2.1 11 u = rBit r u E)
    (hK : ∀ y τ', τ'.1 = τ.1 → (∀ k, k ≠ 11 → τ'.2.1 k = τ.2.1 k) → (∀ k, k ≠ 1 → τ'.2.2 k = τ.2.2 k) → (∀ u, u < 3 → τ'.2.2 1 u = lN (rCnt r u (E ++ [L])) ∧ τ'.2.1 11 u = rBit r u (E ++ [L])) → K y τ') : zLP (b_M_note_162 post K) ((0 : Int32), τ) := by
  have hN := hwf.1
  refine zLP_rule (fun q => ∃ k, k ≤ L.length ∧ q.1 = nI k ∧ q.2.1 = τ.1 ∧ (∀ j, j ≠ 11 → q.2.2.1 j = τ.2.1 j) ∧ (∀ j, j ≠ 1 → q.2.2.2 j = τ.2.2 j) ∧ ∀ u, u < 3 → q.2.2.2 1 u = lN (rif (rLst r u (L.take k)) (rCnt r u E + 1) (rCnt r u E)) ∧ q.2.2.1 11 u = rif (rLst r u (L.take k)) (rBit r u E ||| ((1 : Int32) <<< ((rRp r u L + 1) &&& 31))) (rBit r u E)) (fun q => L.length - q.1.toNatClampNeg) ?_ _ ⟨0, by omega, rfl, rfl, fun _ _ => rfl, fun _ _ => rfl, fun u hu => ?_⟩
  · rintro ⟨y, τ1⟩ ⟨k, hk, hy, hs1, ha1, hl1, hu1⟩ R hR
    dsimp only at hy hs1 ha1 hl1 hu1
    subst hy
    dsimp only [b_M_note_162]
    have hle : τ1.1 5 ≤ nI k ↔ L.length ≤ k := by rw [hs1, hpa.1]; exact nI_leI (by omega) (by omega)
    rw [hle]
    refine ⟨fun g => ?_, fun g => ?_⟩
    · refine hK _ τ1 hs1 ha1 hl1 (fun u hu => ?_)
      have := hu1 u hu
      rw [List.take_of_length_le g] at this
      rw [rCnt_snoc, rBit_snoc]
      exact this
    · obtain ⟨c, hc⟩ : ∃ c, L[k]? = some c := ⟨_, List.getElem?_eq_getElem (by omega)⟩
      have hcL := List.mem_of_getElem? hc
      have hcn := hL c hcL
      have htk : L.take (k + 1) = L.take k ++ [c] := by rw [List.take_succ, hc]; rfl
      have hnin : c ∉ L.take k := by
        have : (L.take k ++ [c]).Nodup := by rw [← htk]; exact hnd.sublist (List.take_sublist _ _)
        intro hm
        exact (List.nodup_append.mp this).2.2 c hm c (List.mem_singleton.mpr rfl) rfl
      obtain ⟨⟨w1, w2, w3, w4⟩, -⟩ := hr.2 c hcn
      have inc := vp_in_nI (show c < 8 by omega) (show 8 < 2 ^ 31 by omega)
      have same : ∀ u, u < 3 → rO r u ≠ nI c → (rLst r u (L.take (k + 1)) ↔ rLst r u (L.take k)) := by
        intro u hu hne
        rw [htk]
        constructor
        · rintro ⟨d, h1, h2, h3⟩
          rcases List.mem_append.mp h3 with h3 | h3
          · exact ⟨d, h1, h2, h3⟩
          · rw [List.mem_singleton.mp h3] at h2
            exact absurd h2 hne
        · rintro ⟨d, h1, h2, h3⟩
          exact ⟨d, h1, h2, List.mem_append_left _ h3⟩
      have keep : ∀ u, u < 3 → rO r u ≠ nI c → ∀ (α : Type) (a b : α), rif (rLst r u (L.take (k + 1))) a b = rif (rLst r u (L.take k)) a b := by
        intro u hu hne α a b
        by_cases h : rLst r u (L.take k)
        · rw [rif_t h, rif_t ((same u hu hne).mpr h)]
        · rw [rif_f h, rif_f (fun g => h ((same u hu hne).mp g))]
      refine ⟨vp_in_nI (show k < 8 by omega) (by omega), znm_i ?_⟩
      rw [nI_clamp (show k < 2 ^ 31 by omega), ha1 7 (by omega), hpa.2 k c hc, nI_clamp (show c < 2 ^ 31 by omega), ha1 6 (by omega), ha1 0 (by omega), w4, w1]
      refine ⟨inc, fun g1 => ?_, fun g1 => ?_⟩
      · obtain ⟨u, hu, hwu⟩ : ∃ u, u < 3 ∧ rW r c = nI u := by
          rcases (hwf.2.2.1 c hcn).1 with h | h | h
          · exact ⟨0, by omega, h⟩
          · exact ⟨1, by omega, h⟩
          · exact ⟨2, by omega, h⟩
        have hO := rO_of hwf hcn hwu g1
        have inu := vp_in_nI hu (show 3 < 2 ^ 31 by omega)
        rw [hwu, nI_clamp (show u < 2 ^ 31 by omega)]
        refine ⟨inc, inc, inu, inu, znm_i ⟨inc, inc, ?_⟩⟩
        have e0 : (zL τ1 1 u (τ1.2.2 1 u + (1 : Int64))).2.1 0 c = nI u := by
          show τ1.2.1 0 c = _
          rw [ha1 0 (by omega), w1, hwu]
        rw [e0, nI_clamp (show u < 2 ^ 31 by omega)]
        refine ⟨inu, inc, inu, znm_i ?_⟩
        have hnl : ¬ rLst r u (L.take k) := by
          rintro ⟨d, h1, h2, h3⟩
          rw [hO, nI_eq (by omega) (by omega)] at h2
          rw [← h2] at h3
          exact hnin h3
        have hyl : rLst r u (L.take (k + 1)) := by
          rw [htk]
          exact ⟨c, hcn, hO, List.mem_append_right _ (List.mem_singleton.mpr rfl)⟩
        obtain ⟨k1, k2⟩ := hu1 u hu
        rw [rif_f hnl] at k1 k2
        have e8 : τ1.2.1 8 c = rRp r u L := by
          rw [ha1 8 (by omega), hgiv c hcL]
          unfold rRp
          rw [hO, nI_clamp (by omega)]
        rw [nI_1]
        refine hR _ ⟨k + 1, by omega, rfl, hs1, fun j hj => ?_, fun j hj => ?_, fun v hv => ?_⟩ (by dsimp only; rw [nI_clamp (by omega), nI_clamp (by omega)]; omega)
        · have := ha1 j hj
          simp [zA, zF, zL, zG, va_up, hj, this]
        · have := hl1 j hj
          simp [zA, zF, zL, zG, va_up, hj, this]
        · by_cases e : v = u
          · subst e
            rw [rif_t hyl, rif_t hyl]
            simp [zA, zF, zL, zG, va_up, upd, vp_updL, k1, k2, e8, lN_1]
          · have hne : rO r v ≠ nI c := by
              intro h
              have := (rO_inv hwf hcn h).1
              rw [hwu, nI_eq (by omega) (by omega)] at this
              exact e this.symm
            rw [keep v hv hne, keep v hv hne]
            have := hu1 v hv
            simp [zA, zF, zL, zG, va_up, upd, vp_updL, e, this.1, this.2]
      · rw [nI_1]
        refine hR _ ⟨k + 1, by omega, rfl, hs1, ha1, hl1, fun v hv => ?_⟩ (by dsimp only; rw [nI_clamp (by omega), nI_clamp (by omega)]; omega)
        have hne : rO r v ≠ nI c := fun h => g1 (rO_inv hwf hcn h).2
        rw [keep v hv hne, keep v hv hne]
        exact hu1 v hv
  · have hn : ¬ rLst r u (L.take 0) := by
      rintro ⟨d, -, -, h3⟩
      simp at h3
    rw [rif_f hn, rif_f hn]
    exact hst u hu
theorem t_note {r : zR} {E : List (List Nat)} {L : List Nat} {τ : zS} {post : zS → Prop} (hwf : rWF r) (hr : yRec r τ) (hf : yFnd r E τ) (hl : L.length ≤ 8) (hnd : L.Nodup) (hL : ∀ x, x ∈ L → x < rN r) (hpa : yPath L τ) (hrow : yRow (rRun r L).1 τ) (hgiv : ∀ c, c ∈ L → τ.2.1 8 c = (rRun r L).2 c) (hrok : ∀ v, v ∈ rRows r E → eOk v) (hE : E.length < 1400)
    (hp : ∀ τ', yNt τ τ' → yFnd r (E ++ rNote r L) τ' → post τ') : j_M_note τ post := by
  have hok := rRun_ok hwf L hL
  have hlen := rRows_len r E
  unfold j_M_note
  refine t_note_all hwf hr hl hL hpa (fun hall _ => ?_) (fun hall => hp τ ⟨fun _ _ => rfl, fun _ _ => rfl⟩ ?_)
  · have hn : rNote r L = [L] := rif_t hall
    rw [hn] at hp
    obtain ⟨f1, f2, f3, f4⟩ := hf
    refine znm_i (znm_i ?_)
    have e6 : (zT τ (τ.2.2 2 0 + (1 : Int64))).1 6 = nI (rRun r L).1.length := hrow.1
    rw [e6]
    refine t_code hok ⟨hrow.1, hrow.2⟩ (fun _ => ?_)
    have fin : ∀ σ, σ.1 7 = nI (dd (rRows r E) (rRun r L).1).length → (∀ k, k ≠ 7 → σ.1 k = τ.1 k) → σ.2.1 = τ.2.1 → (∀ i v, (dd (rRows r E) (rRun r L).1)[i]? = some v → σ.2.2 0 i = eM v) → σ.2.2 1 = τ.2.2 1 → σ.2.2 2 0 = lN (E.length + 1) → zLP (b_M_note_162 post (fun _ σ34 => post σ34)) ((0 : Int32), σ) := by
      intro σ g1 g2 g3 g4 g5 g6
      refine t_replies (E := E) hwf (hr.kp ⟨fun k hk => g2 k (by omega), fun k _ => by rw [g3]⟩) hl hnd hL ⟨by rw [g2 5 (by omega)]; exact hpa.1, by rw [g3]; exact hpa.2⟩ (by rw [g3]; exact hgiv) (fun u hu => by rw [g5, g3]; exact f4 u hu) (fun _ τ' k1 k2 k3 k4 => hp τ' ⟨fun k hk => by rw [k1, g2 k hk], fun k hk => by rw [k2 k hk, g3]⟩ ⟨?_, ?_, ?_, k4⟩)
      · rw [k3 2 (by omega), g6]; simp
      · rw [k1, g1, rRows_snoc]
      · rw [k3 0 (by omega), rRows_snoc]; exact g4
    have hf2 : ∀ i v, (rRows r E)[i]? = some v → (zT τ (τ.2.2 2 0 + (1 : Int64))).2.2 0 i = eM v := fun i v hv => by have := f3 i v hv; simp [zT, zG, va_up, this]
    have h22 : (zT τ (τ.2.2 2 0 + (1 : Int64))).2.2 2 0 = lN (E.length + 1) := by simp [zT, zG, va_up, f1, lN_1]
    refine t_old (r := r) (E := E) hok f2 hf2 hrok (by omega) (fun hm _ => ?_) (fun hm _ => ?_)
    · refine ⟨fun h => absurd h (by decide), fun _ => fin _ ?_ (fun _ _ => rfl) rfl ?_ ?_ h22⟩
      · unfold dd; rw [if_pos hm]; exact f2
      · unfold dd; rw [if_pos hm]; exact hf2
      · simp [zT, zG, va_up]
    · have hlt : (1400 : Int32) ≤ (zT τ (τ.2.2 2 0 + (1 : Int64))).1 7 ↔ 1400 ≤ (rRows r E).length := by
        show (1400 : Int32) ≤ τ.1 7 ↔ _
        rw [f2]
        exact nI_leI (a := 1400) (by omega) (by omega)
      rw [hlt]
      refine ⟨fun _ => ⟨fun h => absurd h (by omega), fun _ => ?_⟩, fun h => absurd rfl h⟩
      have e7 : (zT τ (τ.2.2 2 0 + (1 : Int64))).1 7 = nI (rRows r E).length := f2
      rw [e7, nI_clamp (by omega)]
      refine ⟨vp_in_nI (show (rRows r E).length < 1400 by omega) (by omega), znm_i (znm_i (fin _ ?_ (fun k hk => ?_) rfl (fun i v hv => ?_) ?_ ?_))⟩
      · unfold dd; rw [if_neg hm]
        have e8 : (zL (zT τ (τ.2.2 2 0 + (1 : Int64))) 0 (rRows r E).length (eM (rRun r L).1)).1 7 = nI (rRows r E).length := f2
        rw [e8]
        simp [zI, va_up, nI_1]
      · simp [zI, zL, zT, zG, va_up, hk]
      · unfold dd at hv; rw [if_neg hm] at hv
        by_cases hi : i < (rRows r E).length
        · rw [List.getElem?_append_left hi] at hv
          have := f3 i v hv
          have hne : ¬ i = (rRows r E).length := by omega
          simp [zI, zL, zT, zG, va_up, vp_updL, hne, this]
        · have hi3 : i = (rRows r E).length := by
            have := (List.getElem?_eq_some_iff.mp hv).1
            simp at this
            omega
          subst hi3
          have hv : (rRun r L).1 = v := by simpa using hv
          simp [zI, zL, zT, zG, va_up, vp_updL, hv]
      · simp [zI, zL, zT, zG, va_up]
      · simp [zI, zL, zT, zG, va_up, f1, lN_1]
  · have hn : rNote r L = [] := rif_f hall
    rw [hn, List.append_nil]
    exact hf
