/-! Rows of values as numbers: the program's (eX) and the reference's (eM) -/
def eN : List Nat → Nat
  | [] => 0
  | x :: t => x + 16 * eN t
theorem eN_cons (x : Nat) (t : List Nat) : eN (x :: t) = x + 16 * eN t := rfl
theorem eN_one (x : Nat) : eN [x] = x := by show x + 16 * 0 = x; omega
def eOk (w : List Nat) : Prop := w.length ≤ 8 ∧ ∀ x, x ∈ w → x < 16
theorem eN_lt : ∀ (w : List Nat), (∀ x, x ∈ w → x < 16) → eN w < 16 ^ w.length := by
  intro w
  induction w with
  | nil => intro _; simp [eN]
  | cons x t ih =>
    intro h
    have h1 := h x (List.mem_cons_self ..)
    have h2 := ih (fun y hy => h y (List.mem_cons_of_mem _ hy))
    rw [List.length_cons, Nat.pow_succ, eN_cons]
    omega
theorem eN_8 {w : List Nat} (h : eOk w) : eN w < 4294967296 :=
  Nat.lt_of_lt_of_le (eN_lt w h.2) (Nat.le_trans (Nat.pow_le_pow_right (by omega) h.1) (by decide))
theorem eN_app (l m : List Nat) : eN (l ++ m) = eN l + 16 ^ l.length * eN m := by
  induction l with
  | nil => simp [eN]
  | cons x t ih =>
    rw [List.cons_append, List.length_cons, eN_cons, eN_cons, ih, Nat.pow_succ, Nat.mul_add, Nat.mul_comm (16 ^ t.length) 16, Nat.mul_assoc]
    omega
theorem eN_rep (n : Nat) : eN (List.replicate n 0) = 0 := by
  induction n with
  | zero => rfl
  | succ n ih => rw [List.replicate_succ, eN_cons]; omega
theorem eN_div : ∀ (i : Nat) (l : List Nat), (∀ x, x ∈ l → x < 16) → eN l / 16 ^ i = eN (l.drop i) := by
  intro i
  induction i with
  | zero => intro l _; simp
  | succ i ih =>
    intro l h
    cases l with
    | nil => simp [eN]
    | cons x t =>
      have h1 := h x (List.mem_cons_self ..)
      rw [List.drop_succ_cons, ← ih t (fun y hy => h y (List.mem_cons_of_mem _ hy)), Nat.pow_succ, Nat.mul_comm, ← Nat.div_div_eq_div_mul]
      congr 1
      rw [eN_cons]
      omega
theorem eN_mod {l : List Nat} (h : ∀ x, x ∈ l → x < 16) : eN l % 16 = l.getD 0 0 := by
  cases l with
  | nil => rfl
  | cons x t =>
    have h1 := h x (List.mem_cons_self ..)
    show (x + 16 * eN t) % 16 = x
    omega
theorem eN_get {l : List Nat} (h : ∀ x, x ∈ l → x < 16) (i : Nat) : eN l / 16 ^ i % 16 = l.getD i 0 := by
  rw [eN_div i l h, eN_mod (fun x hx => h x (List.mem_of_mem_drop hx))]
  simp [List.getD]
theorem eN_inj : ∀ (w v : List Nat), w.length = v.length → (∀ x, x ∈ w → x < 16) → (∀ x, x ∈ v → x < 16) → eN w = eN v → w = v := by
  intro w
  induction w with
  | nil =>
    intro v hl _ _ _
    exact (List.length_eq_zero_iff.mp hl.symm).symm
  | cons x t ih =>
    intro v hl h1 h2 he
    cases v with
    | nil => simp at hl
    | cons y u =>
      have a := h1 x (List.mem_cons_self ..)
      have b := h2 y (List.mem_cons_self ..)
      have he : x + 16 * eN t = y + 16 * eN u := he
      have e1 : x = y := by omega
      have e2 : eN t = eN u := by omega
      rw [e1, ih u (by simpa using hl) (fun z hz => h1 z (List.mem_cons_of_mem _ hz)) (fun z hz => h2 z (List.mem_cons_of_mem _ hz)) e2]
def eX (w : List Nat) : Int64 := lN (eN w + 4294967296 * w.length)
def eM (w : List Nat) : Int64 := lN (w.length + 16 * eN w)
theorem eX_inj {w v : List Nat} (hw : eOk w) (hv : eOk v) (h : eX w = eX v) : w = v := by
  have a := eN_8 hw
  have b := eN_8 hv
  have c := hw.1
  have d := hv.1
  have h := (pk_lEQ (by omega) (by omega)).mp h
  have e1 : w.length = v.length := by omega
  exact eN_inj w v e1 hw.2 hv.2 (by omega)
theorem eM_inj {w v : List Nat} (hw : eOk w) (hv : eOk v) (h : eM w = eM v) : w = v := by
  have a := eN_8 hw
  have b := eN_8 hv
  have c := hw.1
  have d := hv.1
  have h := (pk_lEQ (by omega) (by omega)).mp h
  have e1 : w.length = v.length := by omega
  exact eN_inj w v e1 hw.2 hv.2 (by omega)
theorem eX_pad {w : List Nat} (h : eOk w) : eN w + 4294967296 * w.length = eN (w ++ (List.replicate (8 - w.length) 0 ++ [w.length])) := by
  have h8 := h.1
  rw [eN_app, eN_app, eN_rep, List.length_replicate, Nat.zero_add, ← Nat.mul_assoc, ← Nat.pow_add]
  have : w.length + (8 - w.length) = 8 := by omega
  rw [this]
  show _ = eN w + 16 ^ 8 * (w.length + 16 * 0)
  omega
theorem eX_padd {w : List Nat} (h : eOk w) : ∀ x, x ∈ w ++ (List.replicate (8 - w.length) 0 ++ [w.length]) → x < 16 := by
  intro x hx
  rcases List.mem_append.mp hx with hx | hx
  · exact h.2 x hx
  · rcases List.mem_append.mp hx with hx | hx
    · have := List.eq_of_mem_replicate hx
      omega
    · have := List.mem_singleton.mp hx
      have := h.1
      omega
theorem nI_and15 (z : Nat) : nI z &&& 15 = nI (z % 16) := by
  rw [pk_and (nI z) 4 (by decide)]
  congr 1
  show (BitVec.ofNat 32 z).toNat % 2 ^ 4 = z % 16
  rw [BitVec.toNat_ofNat]
  omega
theorem p16 (i : Nat) : 2 ^ (4 * i) = 16 ^ i := by rw [Nat.pow_mul]
theorem eX_len {w : List Nat} (h : eOk w) : (((eX w).toUInt64 >>> ((32 : Int32).toInt64.toUInt64 &&& Int64.toUInt64 63)).toInt64).toInt32 = nI w.length := by
  have h1 := eN_8 h
  have h2 := h.1
  unfold eX
  rw [g_ushr (k := 32) (p := 4294967296) (by decide) (by omega) (by decide) (by omega), lN_i]
  congr 1
  omega
theorem mul4 (i : Nat) : (4 : Int32) * nI i = nI (4 * i) := pk_mul 4 i
theorem eX_at {w : List Nat} (h : eOk w) {i : Nat} (hi : i < w.length) : (((eX w).toUInt64 >>> (((4 : Int32) * nI i).toInt64.toUInt64 &&& Int64.toUInt64 63)).toInt64).toInt32 &&& (15 : Int32) = nI (w.getD i 0) := by
  have h1 := eN_8 h
  have h2 := h.1
  rw [mul4, wb_cu (4 * i) (by omega)]
  unfold eX
  rw [g_ushr (k := 4 * i) (p := 2 ^ (4 * i)) rfl (by omega) rfl (by omega), lN_i, nI_and15, eX_pad h, p16, eN_get (eX_padd h)]
  congr 1
  simp [List.getD, List.getElem?_append_left hi]
theorem eX_back {w : List Nat} (h : eOk w) (hl : w.length < 8) {v : Nat} (hv : v < 16) : (eX w ||| ((nI v).toInt64 <<< (((4 : Int32) * nI w.length).toInt64 &&& 63))) + (4294967296 : Int64) = eX (w ++ [v]) := by
  have h1 := eN_lt w h.2
  have h8 := eN_8 h
  have hp : v * 16 ^ w.length + eN w < 4294967296 := by
    have a : v * 16 ^ w.length + eN w < (v + 1) * 16 ^ w.length := by rw [Nat.add_mul, Nat.one_mul]; omega
    have b : (v + 1) * 16 ^ w.length ≤ 16 * 16 ^ 7 := Nat.mul_le_mul (by omega) (Nat.pow_le_pow_right (by omega) (by omega))
    have c : 16 * 16 ^ 7 = 4294967296 := by decide
    omega
  rw [mul4, nI_l (by omega), wb_shl v (by omega)]
  unfold eX
  rw [wb_or (by omega) (by rw [p16]; omega)]
  show lN _ + lN 4294967296 = lN _
  rw [lN_add]
  congr 1
  rw [eN_app, List.length_append, p16]
  have e1 : eN w + 4294967296 * w.length = 2 ^ 32 * w.length ||| eN w := by
    rw [← Nat.two_pow_add_eq_or_of_lt (by omega)]
    omega
  have e2 : eN w ||| v * 16 ^ w.length = v * 16 ^ w.length + eN w := by
    rw [Nat.or_comm, ← p16, Nat.mul_comm, ← Nat.two_pow_add_eq_or_of_lt (by rw [p16]; exact h1)]
  rw [e1, Nat.or_assoc, e2, ← Nat.two_pow_add_eq_or_of_lt (by omega)]
  show 2 ^ 32 * w.length + (v * 16 ^ w.length + eN w) + 4294967296 = eN w + 16 ^ w.length * eN [v] + 4294967296 * (w.length + 1)
  rw [eN_one, Nat.mul_comm (16 ^ w.length) v]
  omega
theorem lA_not (x y : Int64) : x &&& (y ^^^ (-1)) = x - (x &&& y) := by
  apply Int64.toBitVec_inj.1
  rw [Int64.toBitVec_and, Int64.toBitVec_xor, Int64.toBitVec_sub, Int64.toBitVec_and]
  generalize x.toBitVec = X
  generalize y.toBitVec = Y
  have e : Y ^^^ (-1 : Int64).toBitVec = ~~~ Y := by
    apply BitVec.eq_of_getLsbD_eq
    intro i hi
    have : (-1 : Int64).toBitVec = BitVec.allOnes 64 := by decide
    rw [this, BitVec.getLsbD_xor, BitVec.getLsbD_not, BitVec.getLsbD_allOnes]
    cases Y.getLsbD i <;> simp [hi]
  rw [e]
  have h0 : (X &&& Y) &&& (X &&& ~~~ Y) = 0#64 := by
    apply BitVec.eq_of_getLsbD_eq
    intro i hi
    rw [BitVec.getLsbD_and, BitVec.getLsbD_and, BitVec.getLsbD_and, BitVec.getLsbD_not, BitVec.getLsbD_zero]
    cases X.getLsbD i <;> cases Y.getLsbD i <;> simp
  have h1 : (X &&& Y) + (X &&& ~~~ Y) = X := by
    rw [BitVec.add_eq_or_of_and_eq_zero _ _ h0]
    apply BitVec.eq_of_getLsbD_eq
    intro i hi
    rw [BitVec.getLsbD_or, BitVec.getLsbD_and, BitVec.getLsbD_and, BitVec.getLsbD_not]
    cases X.getLsbD i <;> cases Y.getLsbD i <;> simp [hi]
  calc X &&& ~~~ Y = (X &&& Y) + (X &&& ~~~ Y) - (X &&& Y) := by rw [BitVec.add_comm, BitVec.add_sub_cancel]
    _ = X - (X &&& Y) := by rw [h1]
theorem and15 (a k : Nat) : a &&& 15 * 2 ^ k = a / 2 ^ k % 16 * 2 ^ k := by
  apply Nat.eq_of_testBit_eq
  intro i
  rw [Nat.testBit_and, Nat.testBit_mul_two_pow, Nat.testBit_mul_two_pow]
  by_cases h : k ≤ i
  · have e : (15 : Nat) = 2 ^ 4 - 1 := by decide
    have e2 : (16 : Nat) = 2 ^ 4 := by decide
    rw [e, e2, Nat.testBit_two_pow_sub_one, Nat.testBit_mod_two_pow, Nat.testBit_div_two_pow]
    have : i - k + k = i := by omega
    have h3 : k + (i - k) = i := by omega
    simp only [this, h3, ge_iff_le, h, decide_true, Bool.true_and]
    rw [Bool.and_comm]
  · simp [h]
theorem eX_dropB {w : List Nat} (h : eOk w) (hne : w ≠ []) : (eX w &&& ((((15 : Int64) <<< (((4 : Int32) * (nI w.length - (1 : Int32))).toInt64 &&& 63))) ^^^ (-1 : Int64))) - (4294967296 : Int64) = eX w.dropLast := by
  have h8 := eN_8 h
  have h2 := h.1
  obtain ⟨x, hx⟩ : ∃ x, w = w.dropLast ++ [x] := ⟨w.getLast hne, (List.dropLast_concat_getLast hne).symm⟩
  generalize w.dropLast = d at hx
  subst hx
  have hd : eOk d := ⟨by simp at h2; omega, fun y hy => h.2 y (List.mem_append_left _ hy)⟩
  have hx : x < 16 := h.2 x (List.mem_append_right _ (List.mem_singleton.mpr rfl))
  have h3 := eN_lt d hd.2
  have hl : (d ++ [x]).length = d.length + 1 := by simp
  rw [hl] at h2
  have e0 : nI (d ++ [x]).length - (1 : Int32) = nI d.length := by rw [hl]; exact nI_pred _
  rw [e0, mul4]
  have e1 : (15 : Int64) <<< ((nI (4 * d.length)).toInt64 &&& 63) = lN (15 * 2 ^ (4 * d.length)) := wb_shl 15 (by omega)
  have hb : 15 * 2 ^ (4 * d.length) < 4294967296 := by
    have b : 15 * 16 ^ d.length ≤ 15 * 16 ^ 7 := Nat.mul_le_mul (by omega) (Nat.pow_le_pow_right (by omega) (by omega))
    have c : 15 * 16 ^ 7 < 4294967296 := by decide
    rw [p16]
    omega
  rw [e1, lA_not]
  unfold eX
  rw [wb_and (by omega) (by omega), and15, p16]
  have e2 : (eN (d ++ [x]) + 4294967296 * (d ++ [x]).length) / 16 ^ d.length % 16 = x := by
    rw [eX_pad h, eN_get (eX_padd h)]
    simp [List.getD]
  rw [e2]
  have e3 : eN (d ++ [x]) = eN d + 16 ^ d.length * x := by
    rw [eN_app, eN_one]
  rw [e3, hl, Nat.mul_comm x]
  have e4 : (4294967296 : Int64) = lN 4294967296 := by decide
  rw [e4, lN_sub (by omega), lN_sub (by omega)]
  exact congrArg lN (by omega)
theorem eX_dropF {w : List Nat} (h : eOk w) (hne : w ≠ []) : ((eX w &&& (4294967295 : Int64)).toUInt64 >>> ((4 : Int32).toInt64.toUInt64 &&& Int64.toUInt64 63)).toInt64 ||| (((nI w.length - (1 : Int32)).toInt64) <<< ((32 : Int32).toInt64 &&& 63)) = eX w.tail := by
  cases w with
  | nil => exact absurd rfl hne
  | cons x t =>
    have h8 := eN_8 h
    have h2 : t.length + 1 ≤ 8 := h.1
    have hx : x < 16 := h.2 x (List.mem_cons_self ..)
    have ht : eOk t := ⟨by omega, fun y hy => h.2 y (List.mem_cons_of_mem _ hy)⟩
    have h9 := eN_8 ht
    have e0 : nI (x :: t).length - (1 : Int32) = nI t.length := nI_pred _
    have e1 : (nI t.length).toInt64 <<< ((32 : Int32).toInt64 &&& 63) = lN (t.length * 2 ^ 32) := by
      rw [nI_l (by omega)]
      exact wb_shl (k := 32) _ (by omega)
    have e2 : eX (x :: t) &&& (4294967295 : Int64) = lN (eN (x :: t)) := by
      have hm : (4294967295 : Int64) = lN (2 ^ 32 - 1) := by decide
      have hl : (x :: t).length = t.length + 1 := rfl
      unfold eX
      rw [hm, wb_mask (k := 32) (by rw [hl]; omega) (by omega)]
      exact congrArg lN (by omega)
    rw [e0, e1, e2, g_ushr (k := 4) (p := 16) (by decide) (by omega) (by decide) (by omega)]
    have e3 : eN (x :: t) / 16 = eN t := by
      show (x + 16 * eN t) / 16 = _
      omega
    rw [e3, g_or' (k := 32) (p := 2 ^ 32) rfl (by omega) (by omega)]
    show lN _ = lN (eN t + 4294967296 * t.length)
    congr 1
    omega
theorem eX_nil : eX [] = 0 := by decide
theorem eX_zero {w : List Nat} (h : eOk w) : eX w = 0 ↔ w = [] := by
  refine ⟨fun e => ?_, fun e => by rw [e, eX_nil]⟩
  exact eX_inj h ⟨by simp, fun x hx => absurd hx (List.not_mem_nil)⟩ (by rw [e, eX_nil])
