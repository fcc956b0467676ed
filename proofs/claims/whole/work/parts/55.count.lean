/-! How many answers an unfinished call can get: the bits of a number below 2^17, counted in both ways -/
theorem and_split (x y a b : Nat) (hx : x < 256) (ha : a < 256) : (x + 256 * y) &&& (a + 256 * b) = (x &&& a) + 256 * (y &&& b) := by
  have h1 : ((x + 256 * y) &&& (a + 256 * b)) % 2 ^ 8 = (x &&& a) := by
    rw [Nat.and_mod_two_pow]
    have e1 : (x + 256 * y) % 2 ^ 8 = x := by omega
    have e2 : (a + 256 * b) % 2 ^ 8 = a := by omega
    rw [e1, e2]
  have h2 : ((x + 256 * y) &&& (a + 256 * b)) / 2 ^ 8 = (y &&& b) := by
    rw [Nat.and_div_two_pow]
    have e1 : (x + 256 * y) / 2 ^ 8 = y := by omega
    have e2 : (a + 256 * b) / 2 ^ 8 = b := by omega
    rw [e1, e2]
  have h3 := Nat.div_add_mod ((x + 256 * y) &&& (a + 256 * b)) (2 ^ 8)
  omega
def p1 (x : Nat) : Nat := x - (x / 2 &&& 85)
def p2 (x : Nat) : Nat := (x &&& 51) + (x / 4 &&& 51)
def p3 (x : Nat) : Nat := (x + x / 16) &&& 15
def pB (n : Nat) : Nat → Nat
  | 0 => 0
  | k + 1 => pB n k + n / 2 ^ k % 2
theorem pF1 : ∀ x, x < 256 → ∀ e, e < 2 → (x / 2 + 128 * e) &&& 85 = (x / 2 &&& 85) := by decide +kernel
theorem pF1' : ∀ x, x < 256 → (x / 2 &&& 85) ≤ x := by decide +kernel
theorem pF2 : ∀ x, x < 256 → ∀ e, e < 4 → (x / 4 + 64 * e) &&& 51 = (x / 4 &&& 51) := by decide +kernel
theorem pF2' : ∀ x, x < 256 → p2 (p1 x) ≤ 68 ∧ p2 (p1 x) % 16 ≤ 4 := by decide +kernel
theorem pF3 : ∀ x, x < 69 → ∀ e, e < 5 → (x + x / 16 + 16 * e) &&& 15 = p3 x := by decide +kernel
theorem pF4 : ∀ x, x < 256 → p3 (p2 (p1 x)) = pB x 8 ∧ pB x 8 ≤ 8 := by decide +kernel
/-- three bytes -/
theorem st1 (l m h : Nat) (hl : l < 256) (hm : m < 256) (hh : h < 2) : (l + 256 * (m + 256 * h)) - ((l + 256 * (m + 256 * h)) / 2 &&& 1431655765) = p1 l + 256 * (p1 m + 256 * p1 h) := by
  have e1 : (l + 256 * (m + 256 * h)) / 2 = (l / 2 + 128 * (m % 2)) + 256 * ((m / 2 + 128 * (h % 2)) + 256 * (h / 2)) := by omega
  have em : 1431655765 = 85 + 256 * (85 + 256 * 21845) := by decide
  rw [e1, em, and_split _ _ _ _ (by omega) (by omega), and_split _ _ _ _ (by omega) (by omega), pF1 l hl _ (by omega), pF1 m hm _ (by omega)]
  have h0 : h / 2 = 0 := by omega
  rw [h0, Nat.zero_and]
  have a := pF1' l hl
  have b := pF1' m hm
  have c : p1 h = h := by unfold p1; rw [h0]; simp
  rw [c]
  unfold p1
  omega
theorem st2 (l m h : Nat) (hl : l < 256) (hm : m < 256) (hh : h < 2) : ((l + 256 * (m + 256 * h)) &&& 858993459) + ((l + 256 * (m + 256 * h)) / 4 &&& 858993459) = p2 l + 256 * (p2 m + 256 * p2 h) := by
  have e1 : (l + 256 * (m + 256 * h)) / 4 = (l / 4 + 64 * (m % 4)) + 256 * ((m / 4 + 64 * (h % 4)) + 256 * (h / 4)) := by omega
  have em : 858993459 = 51 + 256 * (51 + 256 * 13107) := by decide
  rw [e1, em, and_split _ _ _ _ (by omega) (by omega), and_split _ _ _ _ (by omega) (by omega), and_split _ _ _ _ (by omega) (by omega), and_split _ _ _ _ (by omega) (by omega), pF2 l hl _ (by omega), pF2 m hm _ (by omega)]
  have h3 : (h &&& 13107) + (h / 4 &&& 13107) = p2 h := by
    have : h = 0 ∨ h = 1 := by omega
    rcases this with rfl | rfl <;> decide
  unfold p2 at h3 ⊢
  omega
theorem st3 (l m h : Nat) (hl : l ≤ 68 ∧ l % 16 ≤ 4) (hm : m ≤ 68 ∧ m % 16 ≤ 4) (hh : h < 2) : ((l + 256 * (m + 256 * h)) + (l + 256 * (m + 256 * h)) / 16) &&& 252645135 = p3 l + 256 * (p3 m + 256 * p3 h) := by
  have e1 : (l + 256 * (m + 256 * h)) + (l + 256 * (m + 256 * h)) / 16 = (l + l / 16 + 16 * (m % 16)) + 256 * ((m + m / 16 + 16 * (h % 16)) + 256 * (h + h / 16)) := by omega
  have em : 252645135 = 15 + 256 * (15 + 256 * 3855) := by decide
  rw [e1, em, and_split _ _ _ _ (by omega) (by omega), and_split _ _ _ _ (by omega) (by omega), pF3 l (by omega) _ (by omega), pF3 m (by omega) _ (by omega)]
  have : (h + h / 16) &&& 3855 = p3 h := by
    have : h = 0 ∨ h = 1 := by omega
    rcases this with rfl | rfl <;> decide
  rw [this]
theorem pB_low (x y : Nat) : pB (x + 256 * y) 8 = pB x 8 := by
  show 0 + (x + 256 * y) / 2 ^ 0 % 2 + (x + 256 * y) / 2 ^ 1 % 2 + (x + 256 * y) / 2 ^ 2 % 2 + (x + 256 * y) / 2 ^ 3 % 2 + (x + 256 * y) / 2 ^ 4 % 2 + (x + 256 * y) / 2 ^ 5 % 2 + (x + 256 * y) / 2 ^ 6 % 2 + (x + 256 * y) / 2 ^ 7 % 2 = 0 + x / 2 ^ 0 % 2 + x / 2 ^ 1 % 2 + x / 2 ^ 2 % 2 + x / 2 ^ 3 % 2 + x / 2 ^ 4 % 2 + x / 2 ^ 5 % 2 + x / 2 ^ 6 % 2 + x / 2 ^ 7 % 2
  have a0 : (x + 256 * y) / 2 ^ 0 % 2 = x / 2 ^ 0 % 2 := by omega
  have a1 : (x + 256 * y) / 2 ^ 1 % 2 = x / 2 ^ 1 % 2 := by omega
  have a2 : (x + 256 * y) / 2 ^ 2 % 2 = x / 2 ^ 2 % 2 := by omega
  have a3 : (x + 256 * y) / 2 ^ 3 % 2 = x / 2 ^ 3 % 2 := by omega
  have a4 : (x + 256 * y) / 2 ^ 4 % 2 = x / 2 ^ 4 % 2 := by omega
  have a5 : (x + 256 * y) / 2 ^ 5 % 2 = x / 2 ^ 5 % 2 := by omega
  have a6 : (x + 256 * y) / 2 ^ 6 % 2 = x / 2 ^ 6 % 2 := by omega
  have a7 : (x + 256 * y) / 2 ^ 7 % 2 = x / 2 ^ 7 % 2 := by omega
  rw [a0, a1, a2, a3, a4, a5, a6, a7]
theorem pB_add (n : Nat) : ∀ j, pB n (8 + j) = pB n 8 + pB (n / 256) j := by
  intro j
  induction j with
  | zero => rfl
  | succ j ih =>
    show pB n (8 + j) + n / 2 ^ (8 + j) % 2 = pB n 8 + (pB (n / 256) j + n / 256 / 2 ^ j % 2)
    have e : n / 2 ^ (8 + j) = n / 256 / 2 ^ j := by
      rw [Nat.pow_add, ← Nat.div_div_eq_div_mul]
    rw [ih, e]
    omega
theorem pB_17 (l m h : Nat) (hl : l < 256) (hm : m < 256) (hh : h < 2) : pB (l + 256 * (m + 256 * h)) 17 = pB l 8 + (pB m 8 + h) := by
  have e1 := pB_add (l + 256 * (m + 256 * h)) 9
  have e2 := pB_add (m + 256 * h) 1
  have d1 : (l + 256 * (m + 256 * h)) / 256 = m + 256 * h := by omega
  have d2 : (m + 256 * h) / 256 = h := by omega
  rw [d1, pB_low] at e1
  rw [d2, pB_low] at e2
  have e3 : pB h 1 = h := by
    show 0 + h / 2 ^ 0 % 2 = h
    omega
  rw [e3] at e2
  show pB (l + 256 * (m + 256 * h)) (8 + 9) = _
  rw [e1]
  show pB l 8 + pB (m + 256 * h) (8 + 1) = _
  rw [e2]
theorem p_sum (cl cm h : Nat) (c1 : cl ≤ 8) (c2 : cm ≤ 8) (hh : h < 2) : (cl + 256 * (cm + 256 * h) + (cl + 256 * (cm + 256 * h)) / 256 + (cl + 256 * (cm + 256 * h) + (cl + 256 * (cm + 256 * h)) / 256) / 65536) % 2 ^ 6 = cl + (cm + h) := by
  have e1 : (cl + 256 * (cm + 256 * h)) / 256 = cm + 256 * h := by omega
  rw [e1]
  have e2 : (cl + 256 * (cm + 256 * h) + (cm + 256 * h)) / 65536 = h := by omega
  rw [e2]
  omega
/-! now on ints -/
theorem nx_or (a b : Nat) : nI a ||| nI b = nI (a ||| b) := by
  apply Int32.toBitVec_inj.1
  show BitVec.ofNat 32 a ||| BitVec.ofNat 32 b = BitVec.ofNat 32 (a ||| b)
  apply BitVec.eq_of_getLsbD_eq
  intro i hi
  simp [hi]
theorem s_bitCount {n : Nat} {post : Int32 → Prop} (hn : n < 131072) (hp : post (nI (pB n 17))) : j_JI_bitCount (nI n) post := by
  obtain ⟨l, m, h, hl, hm, hh, e⟩ : ∃ l m h, l < 256 ∧ m < 256 ∧ h < 2 ∧ n = l + 256 * (m + 256 * h) := ⟨n % 256, n / 256 % 256, n / 65536, by omega, by omega, by omega, by omega⟩
  have q1 := st1 l m h hl hm hh
  have ph : p1 h = h := by
    have : h = 0 ∨ h = 1 := by omega
    rcases this with rfl | rfl <;> decide
  have b1 : p1 l < 256 := by unfold p1; omega
  have b2 : p1 m < 256 := by unfold p1; omega
  have q2 := st2 (p1 l) (p1 m) h b1 b2 hh
  have ph2 : p2 h = h := by
    have : h = 0 ∨ h = 1 := by omega
    rcases this with rfl | rfl <;> decide
  have q3 := st3 (p2 (p1 l)) (p2 (p1 m)) h (pF2' l hl) (pF2' m hm) hh
  have ph3 : p3 h = h := by
    have : h = 0 ∨ h = 1 := by omega
    rcases this with rfl | rfl <;> decide
  rw [ph] at q1
  rw [ph2] at q2
  rw [ph3, (pF4 l hl).1, (pF4 m hm).1] at q3
  have c1 := (pF4 l hl).2
  have c2 := (pF4 m hm).2
  have d1 := (pF2' l hl).1
  have d2 := (pF2' m hm).1
  have q4 := pB_17 l m h hl hm hh
  rw [e, q4] at hp
  rw [e]
  generalize pB l 8 = cl at q3 c1 hp
  generalize pB m 8 = cm at q3 c2 hp
  generalize p2 (p1 l) = bl at q2 q3 d1
  generalize p2 (p1 m) = bm at q2 q3 d2
  generalize p1 l = al at q1 q2 b1
  generalize p1 m = am at q1 q2 b2
  have hand : (l + 256 * (m + 256 * h)) / 2 &&& 1431655765 ≤ (l + 256 * (m + 256 * h)) := Nat.le_trans Nat.and_le_left (Nat.div_le_self _ _)
  unfold j_JI_bitCount
  refine znm_i (znm_i (znm_i (znm_i (znm_i ?_))))
  have k1 : (1431655765 : Int32) = nI 1431655765 := rfl
  have k2 : (858993459 : Int32) = nI 858993459 := rfl
  have k3 : (252645135 : Int32) = nI 252645135 := rfl
  have k4 : (63 : Int32) = nI (2 ^ 6 - 1) := rfl
  have u1 : ∀ z, z < 2 ^ 32 → ((nI z).toUInt32 >>> ((1 : Int32).toUInt32 &&& Int32.toUInt32 31)).toInt32 = nI (z / 2) := fun z hz => pk_ushrN hz 1 1 (by decide)
  have u2 : ∀ z, z < 2 ^ 32 → ((nI z).toUInt32 >>> ((2 : Int32).toUInt32 &&& Int32.toUInt32 31)).toInt32 = nI (z / 4) := fun z hz => pk_ushrN hz 2 2 (by decide)
  have u4 : ∀ z, z < 2 ^ 32 → ((nI z).toUInt32 >>> ((4 : Int32).toUInt32 &&& Int32.toUInt32 31)).toInt32 = nI (z / 16) := fun z hz => pk_ushrN hz 4 4 (by decide)
  have u8 : ∀ z, z < 2 ^ 32 → ((nI z).toUInt32 >>> ((8 : Int32).toUInt32 &&& Int32.toUInt32 31)).toInt32 = nI (z / 256) := fun z hz => pk_ushrN hz 8 8 (by decide)
  have u16 : ∀ z, z < 2 ^ 32 → ((nI z).toUInt32 >>> ((16 : Int32).toUInt32 &&& Int32.toUInt32 31)).toInt32 = nI (z / 65536) := fun z hz => pk_ushrN hz 16 16 (by decide)
  rw [k1, k2, k3, u1 _ (by omega), nx_and, pk_sub hand, q1, u2 _ (by omega), nx_and, nx_and, nI_add, q2, u4 _ (by omega), nI_add, nx_and, q3, u8 _ (by omega), nI_add, u16 _ (by omega), nI_add, k4, nx_and, Nat.and_two_pow_sub_one_eq_mod]
  rw [p_sum cl cm h c1 c2 hh]
  exact hp
theorem t_bits {τ : zS} {u n : Nat} {post : Int32 → zS → Prop} {K : Int32 → Int32 → zS → Prop} (hu : u < 3) (hn : n < 131072) (h : τ.2.1 11 u = nI n) (hK : ∀ y, K (nI (pB n 17)) y τ) : zLP (b_M_answers_14 (nI u) post K) ((0 : Int32), (0 : Int32), τ) := by
  refine zLP_rule (fun q => ∃ k, k ≤ 17 ∧ q = (nI (pB n k), nI k, τ)) (fun q => 17 - q.2.1.toNatClampNeg) ?_ _ ⟨0, by omega, rfl⟩
  rintro q ⟨k, hk, rfl⟩ R hR
  dsimp only [b_M_answers_14]
  have hle : (17 : Int32) ≤ nI k ↔ 17 ≤ k := nI_leI (a := 17) (by omega) (by omega)
  rw [hle]
  refine ⟨fun g => ?_, fun g => ⟨vp_in_nI hu (by omega), znm_i ?_⟩⟩
  · have e : k = 17 := by omega
    subst e
    exact hK _
  · have e1 : (1 : Int32) = nI 1 := rfl
    rw [nI_clamp (by omega), h, pk_shrN (by omega) (nI k &&& 31) k (s_l k (by omega))]
    have e2 : nI (n / 2 ^ k) &&& (1 : Int32) = nI (n / 2 ^ k % 2) := by
      rw [e1, nx_and, Nat.and_one_is_mod]
    rw [e2, nI_add, nI_1]
    exact hR _ ⟨k + 1, by omega, rfl⟩ (by dsimp only; rw [nI_clamp (by omega), nI_clamp (by omega)]; omega)
theorem rRun_rep {r : zR} (hwf : rWF r) : ∀ (L : List Nat), (∀ c, c ∈ L → c < rN r) → ∀ c, ∃ k, k ≤ 16 ∧ (rRun r L).2 c + 1 = nI k := by
  have key : ∀ (L : List Nat) (s : List Nat × (Nat → Int32)), eOk s.1 → (∀ c, ∃ k, k ≤ 16 ∧ s.2 c + 1 = nI k) → (∀ c, c ∈ L → c < rN r) → ∀ c, ∃ k, k ≤ 16 ∧ (L.foldl (rAdd r) s).2 c + 1 = nI k := by
    intro L
    induction L with
    | nil => intro s _ h _; exact h
    | cons d t ih =>
      intro s hok h hc
      rw [List.foldl_cons]
      refine ih _ (rStep_ok hwf.2.1.2 (hwf.2.2.1 d (hc d (List.mem_cons_self ..))).2.2.2 hok) (fun c => ?_) (fun x hx => hc x (List.mem_cons_of_mem _ hx))
      by_cases e : c = d
      · have e2 : (rAdd r s d).2 c = (rStep r d s.1).1 := by rw [e]; exact va_up_self _ _ _
        rw [e2]
        have g16 : ∀ i, s.1.getD i 0 < 16 := by
          intro i
          by_cases hi : i < s.1.length
          · refine hok.2 _ ?_
            rw [List.getD, List.getElem?_eq_getElem hi]
            exact List.getElem_mem hi
          · rw [List.getD, List.getElem?_eq_none (by omega)]
            show 0 < 16
            omega
        unfold rStep
        split
        · split
          · exact ⟨0, by omega, rfl⟩
          · split
            · exact ⟨_, Nat.succ_le_of_lt (g16 _), nI_1 _⟩
            · exact ⟨_, Nat.succ_le_of_lt (g16 _), nI_1 _⟩
        · split
          · exact ⟨2, by omega, rfl⟩
          · exact ⟨1, by omega, rfl⟩
      · have e2 : (rAdd r s d).2 c = s.2 c := va_up_ne _ _ e
        rw [e2]
        exact h c
  intro L hL
  exact key L ([], fun _ => 0) ⟨by simp, fun x hx => absurd hx (List.not_mem_nil)⟩ (fun c => ⟨1, by omega, rfl⟩) hL
theorem rBit_n {r : zR} (hwf : rWF r) (u : Nat) : ∀ (E : List (List Nat)), (∀ L, L ∈ E → ∀ c, c ∈ L → c < rN r) → ∃ n, n < 131072 ∧ rBit r u E = nI n := by
  have key : ∀ (E : List (List Nat)) (b : Int32), (∃ n, n < 131072 ∧ b = nI n) → (∀ L, L ∈ E → ∀ c, c ∈ L → c < rN r) → ∃ n, n < 131072 ∧ E.foldl (fun b L => rif (rLst r u L) (b ||| ((1 : Int32) <<< ((rRp r u L + 1) &&& 31))) b) b = nI n := by
    intro E
    induction E with
    | nil => intro b h _; exact h
    | cons L t ih =>
      intro b h hE
      rw [List.foldl_cons]
      refine ih _ ?_ (fun M hM => hE M (List.mem_cons_of_mem _ hM))
      by_cases hl : rLst r u L
      · rw [rif_t hl]
        obtain ⟨n, hn, rfl⟩ := h
        obtain ⟨k, hk, e⟩ := rRun_rep hwf L (hE L (List.mem_cons_self ..)) (rO r u).toNatClampNeg
        have e : rRp r u L + 1 = nI k := e
        have e1 : (1 : Int32) <<< (nI k &&& 31) = nI (1 * 2 ^ k) := pk_shlN (n := 1) (nI k &&& 31) k (s_l k (by omega)) (by
          have : 2 ^ k ≤ 2 ^ 16 := Nat.pow_le_pow_right (by omega) hk
          omega)
        rw [e, e1, nx_or]
        refine ⟨_, ?_, rfl⟩
        have h17 : (131072 : Nat) = 2 ^ 17 := by decide
        rw [h17]
        refine Nat.or_lt_two_pow (by omega) ?_
        have : 2 ^ k ≤ 2 ^ 16 := Nat.pow_le_pow_right (by omega) hk
        omega
      · rw [rif_f hl]
        exact h
  intro E hE
  exact key E 0 ⟨0, by omega, rfl⟩ hE
theorem s_answers {r : zR} {E : List (List Nat)} {σ : zS} {x1 : Int32} {post : Int32 → zS → Prop} (hwf : rWF r) (hr : xRec r σ) (hf : xFnd r E σ) (hE : ∀ L, L ∈ E → ∀ c, c ∈ L → c < rN r) (h1 : ∀ u d n, cOpen r x1 u d → n < 131072 → rBit r u E = nI n → post (nI (pB n 17)) σ) (h0 : (¬ ∃ u d, cOpen r x1 u d) → post 0 σ) : j_X5_answers x1 σ post := by
  unfold j_X5_answers
  refine s_hasOpen hwf hr (fun u d hu hx hd hdu _ _ => ⟨fun h => absurd h (by decide), fun _ => ?_⟩) (fun g2 => ⟨fun _ => h0 (fun ⟨u, d, k⟩ => g2 ⟨u, d, k⟩), fun h => absurd rfl h⟩)
  subst hx
  obtain ⟨n, hn, e⟩ := rBit_n hwf u E hE
  refine ⟨vp_in_nI hu (by omega), ?_⟩
  rw [nI_clamp (by omega), (hf.2.2 u hu).2, e]
  exact s_bitCount hn (h1 u d n ⟨hu, rfl, hd, hdu⟩ hn e)
theorem t_answers {r : zR} {E : List (List Nat)} {τ : zS} {x1 : Int32} {post : Int32 → zS → Prop} (hwf : rWF r) (hr : yRec r τ) (hf : yFnd r E τ) (hE : ∀ L, L ∈ E → ∀ c, c ∈ L → c < rN r) (h1 : ∀ u d n, cOpen r x1 u d → n < 131072 → rBit r u E = nI n → post (nI (pB n 17)) τ) (h0 : (¬ ∃ u d, cOpen r x1 u d) → post 0 τ) : j_M_answers x1 τ post := by
  have hN := hwf.1
  unfold j_M_answers
  refine t_openC hwf hr (fun u d hc hO => ⟨fun _ => ?_, fun g => ?_⟩) (fun g => ⟨fun h => absurd h (by decide), fun _ => h0 g⟩)
  · obtain ⟨hu, hx, hd, hdu⟩ := id hc
    subst hx
    obtain ⟨n, hn, e⟩ := rBit_n hwf u E hE
    exact t_bits hu hn (by rw [(hf.2.2.2 u hu).2, e]) (fun _ => h1 u d n hc hn e)
  · have := hc.2.2.1
    exact absurd (nI_pos' (by omega)) g
