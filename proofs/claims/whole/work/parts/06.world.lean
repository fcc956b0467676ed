/-! States: ints by number, rows of ints by number, rows of longs by number. -/
abbrev zS : Type := (Nat → Int32) × (Nat → Nat → Int32) × (Nat → Nat → Int64)
def zI (σ : zS) (k : Nat) (v : Int32) : zS := (va_up σ.1 k v, σ.2)
def zF (σ : zS) (k : Nat) (f : Nat → Int32) : zS := (σ.1, va_up σ.2.1 k f, σ.2.2)
def zG (σ : zS) (k : Nat) (f : Nat → Int64) : zS := (σ.1, σ.2.1, va_up σ.2.2 k f)
def zA (σ : zS) (k i : Nat) (v : Int32) : zS := zF σ k (upd (σ.2.1 k) i v)
def zL (σ : zS) (k i : Nat) (v : Int64) : zS := zG σ k (vp_updL (σ.2.2 k) i v)
def zT (σ : zS) (v : Int64) : zS := zG σ 2 (fun _ => v)
/-- a row filled up to n -/
def zfl (f : Nat → Int32) (n : Nat) (v : Int32) : Nat → Int32 := fun j => if j < n then v else f j
/-- a named value -/
def znm {α : Type} (e : α) (P : α → Prop) : Prop := ∀ x, x = e → P x
theorem znm_i {α : Type} {e : α} {P : α → Prop} (h : P e) : znm e P := fun _ hx => hx ▸ h
/-- loops, by number of rounds -/
def zlp {α : Type} (B : (α → Prop) → α → Prop) : Nat → α → Prop
  | 0, _ => False
  | n + 1, s => B (zlp B n) s
def zLP {α : Type} (B : (α → Prop) → α → Prop) (s : α) : Prop := ∃ n, zlp B n s
theorem zLP_walk {α : Type} {B : (α → Prop) → α → Prop} {Wd : α → Prop} (hB : ∀ (R : α → Prop) (s : α), (∀ s', R s' → Wd s') → B R s → Wd s) : ∀ s, zLP B s → Wd s := by
  intro s h
  obtain ⟨n, h⟩ := h
  induction n generalizing s with
  | zero => exact h.elim
  | succ n ih => exact hB (zlp B n) s (fun s' h' => ih s' h') h
theorem zLP_rule {α : Type} {B : (α → Prop) → α → Prop} (I : α → Prop) (μ : α → Nat) (hB : ∀ s, I s → ∀ R : α → Prop, (∀ s', I s' → μ s' < μ s → R s') → B R s) : ∀ s, I s → zLP B s := by
  have key : ∀ n s, I s → μ s < n → zlp B n s := by
    intro n
    induction n with
    | zero => intro s _ h; omega
    | succ n ih => intro s hs h; exact hB s hs _ (fun s' hs' hlt => ih s' hs' (by omega))
  exact fun s hs => ⟨μ s + 1, key _ s hs (by omega)⟩
theorem zin {i : Int32} {n : Nat} (h : vp_in i n) : i.toNatClampNeg < n := Nat.lt_of_not_le (fun h2 => h (Or.inr h2))
abbrev zQi (w : zS → va_W) (post : Int32 → zS → Prop) : Int32 → va_W → Prop := fun r v => ∃ σ, v = w σ ∧ post r σ
abbrev zQl (w : zS → va_W) (post : Int64 → zS → Prop) : Int64 → va_W → Prop := fun r v => ∃ σ, v = w σ ∧ post r σ
abbrev zQv (w : zS → va_W) (post : zS → Prop) : va_W → Prop := fun v => ∃ σ, v = w σ ∧ post σ
abbrev mWl (l : Launch) (y : MethodName) (cc : ByteArray) (maxL : Nat) (rm : Room) (D : va_G) (tys : List (ClassId × FieldType)) (av : List Value) (w : va_W) (post : Int64 → va_W → Prop) : Prop := ∀ sz : Nat, Met l y (Cond.code y cc maxL (some .long) :: wA) rm (va_Pc av (mPW D tys w sz)) (va_Ql post (mQW D tys w sz) (va_A w sz)) 0 0 (va_A w sz)
section ZB
variable {p : Program} {l : Launch} {e : Env} {R : Room} {s : State} {m : MethodId} {args : Array Value} {below : List Frame} {meth : Method} {c : Code} {H : Heap} {locs : List Loc} {cells slots : Nat} {Q : State → Prop}
variable {cc : ByteArray} {pc : Nat} {ls : Array Slot} {rest st0 : List Value} {D : va_G} {tys : List (ClassId × FieldType)} {A : Nat → Prop} {H0 : Heap}
theorem mw_l {post : Int64 → va_W → Prop} {w w' : va_W} {v : Int64} (hexec : p.tables.exec = Jvm.exec) (hb : c.code = cc) (hr : meth.sig.returnType = some .long) (hlocks : meth.locks = false) (hp : post v w') (hP : va_P D nCl w' H) (hK : va_K D nCl tys s) (hD : va_D (va_A w s.heap.size) w') (hS : va_S (va_A w s.heap.size) s.heap H locs) (hdg : decode cc pc = .ok (.lreturn, 1)) : W p l e R s m args below meth c H locs cells slots (MQ below (va_Ql post (mQW D tys w s.heap.size) (va_A w s.heap.size)) args s cells slots (va_A w s.heap.size)) (F0 m pc ls [.long v]) :=
  W.lret hexec hb hr (fun t ht hW => ⟨⟨v, w', rfl, hp, by rw [ht]; exact hP, va_K.moved hW.alike hK, hD⟩, hS.F ht⟩) hS.2.2 hdg hlocks
theorem zfree {w : va_W} (hD : va_D A w) (hS : va_S A H0 H locs) (hA : ∀ q, H0.size ≤ q → A q) : ∀ q, va_A w H.size q → A q := by
  intro q h
  rcases h with ⟨k, e, h⟩ | h
  · exact hD.2 k (q, e) h
  · exact hA q (Nat.le_trans hS.1 h)
theorem zp_V {w : va_W} {b q0 ci : Nat} {q : vw_C} {fs : List Value} {As : List Value} (hP : va_P D nCl w H) (hD : va_D A w) (hK : va_K D nCl tys s) (hn : mN s) (hc : nCl[ci]? = some q) (he : w[q0]? = some (b, .inr (ci, fs))) : PreV s H q.1 b (va_Pc (.ref b :: As) (mPW D tys w H.size)) As :=
  ⟨mPW_blind, va_recv hK hP hc he, fun U hU hW => ⟨rfl, by rw [hU], by rw [hU]; exact hP, va_K.moved hW.alike hK, hD.weaken (fun _ _ _ _ => trivial), hn.warm hW⟩⟩
theorem znew {w : zS → va_W} {σ1 σ2 : zS} {v : va_W} (e : σ1 = σ2) (q : v = w σ2) (hP : va_P D nCl v H) (hD : va_D A v) : va_P D nCl (w σ1) H ∧ va_D A (w σ1) := by
  rw [e, ← q]
  exact ⟨hP, hD⟩
theorem zC_i {w : zS → va_W} {σ : zS} {post : Int32 → zS → Prop} {a : Array Value} (hr : va_Run p l e R s m args below meth c H locs cells slots 0 0 (F0 m pc ls st0) rest (va_Qi (zQi w post) (mQW D tys (w σ) H.size) (va_A (w σ) H.size) a) (va_A (w σ) H.size)) (hD : va_D A (w σ)) (hS : va_S A H0 H locs) (hA : ∀ q, H0.size ≤ q → A q)
    (kk : ∀ (r : Int32) (σ1 : zS) (H1 : Heap) (locs1 : List Loc), post r σ1 → va_P D nCl (w σ1) H1 → va_D A (w σ1) → va_S A H0 H1 locs1 → W p l e R s m args below meth c H1 locs1 cells slots Q (F0 m (pc + 3) ls (.int r :: rest))) : W p l e R s m args below meth c H locs cells slots Q (F0 m pc ls st0) := by
  have hF := zfree hD hS hA
  refine va_calli hr hS (fun q _ h => hF q h) hF (fun r w' t H1 locs1 ht hvm hp hB hz hk hS1 => ?_)
  obtain ⟨hP1, hK1, hD1⟩ := hB
  obtain ⟨σ1, rfl, hp⟩ := hp
  rw [ht] at hP1
  exact kk r σ1 H1 locs1 hp hP1 (hD1.weaken (fun _ q _ h => hF q.1 h)) hS1
theorem zC_l {w : zS → va_W} {σ : zS} {post : Int64 → zS → Prop} {a : Array Value} (hr : va_Run p l e R s m args below meth c H locs cells slots 0 0 (F0 m pc ls st0) rest (va_Ql (zQl w post) (mQW D tys (w σ) H.size) (va_A (w σ) H.size) a) (va_A (w σ) H.size)) (hD : va_D A (w σ)) (hS : va_S A H0 H locs) (hA : ∀ q, H0.size ≤ q → A q)
    (kk : ∀ (r : Int64) (σ1 : zS) (H1 : Heap) (locs1 : List Loc), post r σ1 → va_P D nCl (w σ1) H1 → va_D A (w σ1) → va_S A H0 H1 locs1 → W p l e R s m args below meth c H1 locs1 cells slots Q (F0 m (pc + 3) ls (.long r :: rest))) : W p l e R s m args below meth c H locs cells slots Q (F0 m pc ls st0) := by
  have hF := zfree hD hS hA
  refine va_calll hr hS (fun q _ h => hF q h) hF (fun r w' t H1 locs1 ht hvm hp hB hz hk hS1 => ?_)
  obtain ⟨hP1, hK1, hD1⟩ := hB
  obtain ⟨σ1, rfl, hp⟩ := hp
  rw [ht] at hP1
  exact kk r σ1 H1 locs1 hp hP1 (hD1.weaken (fun _ q _ h => hF q.1 h)) hS1
theorem zC_v {w : zS → va_W} {σ : zS} {post : zS → Prop} {a : Array Value} (hr : va_Run p l e R s m args below meth c H locs cells slots 0 0 (F0 m pc ls st0) rest (va_Qv (zQv w post) (mQW D tys (w σ) H.size) (va_A (w σ) H.size) a) (va_A (w σ) H.size)) (hD : va_D A (w σ)) (hS : va_S A H0 H locs) (hA : ∀ q, H0.size ≤ q → A q)
    (kk : ∀ (σ1 : zS) (H1 : Heap) (locs1 : List Loc), post σ1 → va_P D nCl (w σ1) H1 → va_D A (w σ1) → va_S A H0 H1 locs1 → W p l e R s m args below meth c H1 locs1 cells slots Q (F0 m (pc + 3) ls rest)) : W p l e R s m args below meth c H locs cells slots Q (F0 m pc ls st0) := by
  have hF := zfree hD hS hA
  refine va_callv hr hS (fun q _ h => hF q h) hF (fun w' t H1 locs1 ht hvm hp hB hz hk hS1 => ?_)
  obtain ⟨hP1, hK1, hD1⟩ := hB
  obtain ⟨σ1, rfl, hp⟩ := hp
  rw [ht] at hP1
  exact kk σ1 H1 locs1 hp hP1 (hD1.weaken (fun _ q _ h => hF q.1 h)) hS1
end ZB
abbrev ztX (tc : Nat → ClassId) : List (ClassId × FieldType) := [(tc 0, .object "HandOffRecorder$Call"), (tc 1, .int), (tc 2, .int), (tc 3, .long), (tc 4, .int), (tc 5, .int), (tc 6, .int)]
def zcf (σ : zS) : Nat → va_E := fun i => .inr (0, [.int (σ.2.1 5 i), .int (σ.2.1 6 i), .int (σ.2.1 7 i), .int (σ.2.1 8 i), .int (σ.2.1 9 i)])
def zX (a : Nat → Nat) (tc : Nat → ClassId) (σ : zS) : va_W := [(a 0, .inr (4, [.ref (a 1), .ref (a 2), .ref (a 3), .ref (a 4), .ref (a 5), .int (σ.1 2), .int (σ.1 3), .int (σ.1 4), .int (σ.1 5), .int (σ.1 6)])),
  (a 1, .inr (3, [.int (σ.1 0), .int (σ.1 1)])),
  (a 2, .inl (tc 0, 8, .inr (.inr (.inr (.inr (fun i => some (a (11 + i)))))))),
  (a 3, .inl (tc 1, 3, .inl (σ.2.1 0))),
  (a 4, .inl (tc 2, 8, .inl (σ.2.1 1))),
  (a 5, .inr (1, [.ref (a 6), .ref (a 9), .ref (a 10), .int (σ.1 7)])),
  (a 6, .inr (2, [.ref (a 7), .ref (a 8), .int (σ.1 8)])),
  (a 7, .inl (tc 3, 680, .inr (.inl (σ.2.2 0)))),
  (a 8, .inl (tc 4, 1024, .inl (σ.2.1 4))),
  (a 9, .inl (tc 5, 3, .inl (σ.2.1 2))),
  (a 10, .inl (tc 6, 3, .inl (σ.2.1 3)))] ++ rp 8 (fun i => a (11 + i)) (zcf σ)
section ZX
variable {a : Nat → Nat} {tc : Nat → ClassId} {σ : zS}
theorem xc_0 : (zX a tc σ)[0]? = some (a 0, .inr (4, [.ref (a 1), .ref (a 2), .ref (a 3), .ref (a 4), .ref (a 5), .int (σ.1 2), .int (σ.1 3), .int (σ.1 4), .int (σ.1 5), .int (σ.1 6)])) := rfl
theorem xc_1 : (zX a tc σ)[1]? = some (a 1, .inr (3, [.int (σ.1 0), .int (σ.1 1)])) := rfl
theorem xc_2 : (zX a tc σ)[2]? = some (a 2, .inl (tc 0, 8, .inr (.inr (.inr (.inr (fun i => some (a (11 + i)))))))) := rfl
theorem xc_3 : (zX a tc σ)[3]? = some (a 3, .inl (tc 1, 3, .inl (σ.2.1 0))) := rfl
theorem xc_4 : (zX a tc σ)[4]? = some (a 4, .inl (tc 2, 8, .inl (σ.2.1 1))) := rfl
theorem xc_5 : (zX a tc σ)[5]? = some (a 5, .inr (1, [.ref (a 6), .ref (a 9), .ref (a 10), .int (σ.1 7)])) := rfl
theorem xc_6 : (zX a tc σ)[6]? = some (a 6, .inr (2, [.ref (a 7), .ref (a 8), .int (σ.1 8)])) := rfl
theorem xc_7 : (zX a tc σ)[7]? = some (a 7, .inl (tc 3, 680, .inr (.inl (σ.2.2 0)))) := rfl
theorem xc_8 : (zX a tc σ)[8]? = some (a 8, .inl (tc 4, 1024, .inl (σ.2.1 4))) := rfl
theorem xc_9 : (zX a tc σ)[9]? = some (a 9, .inl (tc 5, 3, .inl (σ.2.1 2))) := rfl
theorem xc_10 : (zX a tc σ)[10]? = some (a 10, .inl (tc 6, 3, .inl (σ.2.1 3))) := rfl
theorem xp_0_5 {v : Int32} : (zX a tc σ).set 0 (a 0, .inr (4, [.ref (a 1), .ref (a 2), .ref (a 3), .ref (a 4), .ref (a 5), .int v, .int (σ.1 3), .int (σ.1 4), .int (σ.1 5), .int (σ.1 6)])) = zX a tc (zI σ 2 v) := rfl
theorem xp_0_6 {v : Int32} : (zX a tc σ).set 0 (a 0, .inr (4, [.ref (a 1), .ref (a 2), .ref (a 3), .ref (a 4), .ref (a 5), .int (σ.1 2), .int v, .int (σ.1 4), .int (σ.1 5), .int (σ.1 6)])) = zX a tc (zI σ 3 v) := rfl
theorem xp_0_7 {v : Int32} : (zX a tc σ).set 0 (a 0, .inr (4, [.ref (a 1), .ref (a 2), .ref (a 3), .ref (a 4), .ref (a 5), .int (σ.1 2), .int (σ.1 3), .int v, .int (σ.1 5), .int (σ.1 6)])) = zX a tc (zI σ 4 v) := rfl
theorem xp_0_8 {v : Int32} : (zX a tc σ).set 0 (a 0, .inr (4, [.ref (a 1), .ref (a 2), .ref (a 3), .ref (a 4), .ref (a 5), .int (σ.1 2), .int (σ.1 3), .int (σ.1 4), .int v, .int (σ.1 6)])) = zX a tc (zI σ 5 v) := rfl
theorem xp_0_9 {v : Int32} : (zX a tc σ).set 0 (a 0, .inr (4, [.ref (a 1), .ref (a 2), .ref (a 3), .ref (a 4), .ref (a 5), .int (σ.1 2), .int (σ.1 3), .int (σ.1 4), .int (σ.1 5), .int v])) = zX a tc (zI σ 6 v) := rfl
theorem xp_1_0 {v : Int32} : (zX a tc σ).set 1 (a 1, .inr (3, [.int v, .int (σ.1 1)])) = zX a tc (zI σ 0 v) := rfl
theorem xp_1_1 {v : Int32} : (zX a tc σ).set 1 (a 1, .inr (3, [.int (σ.1 0), .int v])) = zX a tc (zI σ 1 v) := rfl
theorem xa_3 {i : Nat} {v : Int32} : (zX a tc σ).set 3 (a 3, .inl (tc 1, 3, .inl (upd (σ.2.1 0) i v))) = zX a tc (zA σ 0 i v) := rfl
theorem xf_3 {f : Nat → Int32} : (zX a tc σ).set 3 (a 3, .inl (tc 1, 3, .inl (f))) = zX a tc (zF σ 0 f) := rfl
theorem xa_4 {i : Nat} {v : Int32} : (zX a tc σ).set 4 (a 4, .inl (tc 2, 8, .inl (upd (σ.2.1 1) i v))) = zX a tc (zA σ 1 i v) := rfl
theorem xf_4 {f : Nat → Int32} : (zX a tc σ).set 4 (a 4, .inl (tc 2, 8, .inl (f))) = zX a tc (zF σ 1 f) := rfl
theorem xp_5_3 {v : Int32} : (zX a tc σ).set 5 (a 5, .inr (1, [.ref (a 6), .ref (a 9), .ref (a 10), .int v])) = zX a tc (zI σ 7 v) := rfl
theorem xp_6_2 {v : Int32} : (zX a tc σ).set 6 (a 6, .inr (2, [.ref (a 7), .ref (a 8), .int v])) = zX a tc (zI σ 8 v) := rfl
theorem xa_7 {i : Nat} {v : Int64} : (zX a tc σ).set 7 (a 7, .inl (tc 3, 680, .inr (.inl (vp_updL (σ.2.2 0) i v)))) = zX a tc (zL σ 0 i v) := rfl
theorem xa_8 {i : Nat} {v : Int32} : (zX a tc σ).set 8 (a 8, .inl (tc 4, 1024, .inl (upd (σ.2.1 4) i v))) = zX a tc (zA σ 4 i v) := rfl
theorem xf_8 {f : Nat → Int32} : (zX a tc σ).set 8 (a 8, .inl (tc 4, 1024, .inl (f))) = zX a tc (zF σ 4 f) := rfl
theorem xa_9 {i : Nat} {v : Int32} : (zX a tc σ).set 9 (a 9, .inl (tc 5, 3, .inl (upd (σ.2.1 2) i v))) = zX a tc (zA σ 2 i v) := rfl
theorem xf_9 {f : Nat → Int32} : (zX a tc σ).set 9 (a 9, .inl (tc 5, 3, .inl (f))) = zX a tc (zF σ 2 f) := rfl
theorem xa_10 {i : Nat} {v : Int32} : (zX a tc σ).set 10 (a 10, .inl (tc 6, 3, .inl (upd (σ.2.1 3) i v))) = zX a tc (zA σ 3 i v) := rfl
theorem xf_10 {f : Nat → Int32} : (zX a tc σ).set 10 (a 10, .inl (tc 6, 3, .inl (f))) = zX a tc (zF σ 3 f) := rfl
theorem xcC {j : Nat} (hj : j < 8) : (zX a tc σ)[11 + j]? = some (a (11 + j), .inr (0, [.int (σ.2.1 5 j), .int (σ.2.1 6 j), .int (σ.2.1 7 j), .int (σ.2.1 8 j), .int (σ.2.1 9 j)])) := rp_get hj
theorem xpC_0 {j : Nat} (hj : j < 8) {v : Int32} : (zX a tc σ).set (11 + j) (a (11 + j), .inr (0, [.int v, .int (σ.2.1 6 j), .int (σ.2.1 7 j), .int (σ.2.1 8 j), .int (σ.2.1 9 j)])) = zX a tc (zA σ 5 j v) := by
  refine (rp_set (ca := fun i => a (11 + i)) (cf := zcf σ) hj).trans ?_
  have : va_up (zcf σ) j (.inr (0, [.int v, .int (σ.2.1 6 j), .int (σ.2.1 7 j), .int (σ.2.1 8 j), .int (σ.2.1 9 j)])) = zcf (zA σ 5 j v) := by
    funext i
    by_cases hi : i = j
    · subst hi; simp [va_up, zcf, zA, zF, upd]
    · simp [va_up, zcf, zA, zF, upd, hi]
  rw [this]
  rfl
theorem xpC_1 {j : Nat} (hj : j < 8) {v : Int32} : (zX a tc σ).set (11 + j) (a (11 + j), .inr (0, [.int (σ.2.1 5 j), .int v, .int (σ.2.1 7 j), .int (σ.2.1 8 j), .int (σ.2.1 9 j)])) = zX a tc (zA σ 6 j v) := by
  refine (rp_set (ca := fun i => a (11 + i)) (cf := zcf σ) hj).trans ?_
  have : va_up (zcf σ) j (.inr (0, [.int (σ.2.1 5 j), .int v, .int (σ.2.1 7 j), .int (σ.2.1 8 j), .int (σ.2.1 9 j)])) = zcf (zA σ 6 j v) := by
    funext i
    by_cases hi : i = j
    · subst hi; simp [va_up, zcf, zA, zF, upd]
    · simp [va_up, zcf, zA, zF, upd, hi]
  rw [this]
  rfl
theorem xpC_2 {j : Nat} (hj : j < 8) {v : Int32} : (zX a tc σ).set (11 + j) (a (11 + j), .inr (0, [.int (σ.2.1 5 j), .int (σ.2.1 6 j), .int v, .int (σ.2.1 8 j), .int (σ.2.1 9 j)])) = zX a tc (zA σ 7 j v) := by
  refine (rp_set (ca := fun i => a (11 + i)) (cf := zcf σ) hj).trans ?_
  have : va_up (zcf σ) j (.inr (0, [.int (σ.2.1 5 j), .int (σ.2.1 6 j), .int v, .int (σ.2.1 8 j), .int (σ.2.1 9 j)])) = zcf (zA σ 7 j v) := by
    funext i
    by_cases hi : i = j
    · subst hi; simp [va_up, zcf, zA, zF, upd]
    · simp [va_up, zcf, zA, zF, upd, hi]
  rw [this]
  rfl
theorem xpC_3 {j : Nat} (hj : j < 8) {v : Int32} : (zX a tc σ).set (11 + j) (a (11 + j), .inr (0, [.int (σ.2.1 5 j), .int (σ.2.1 6 j), .int (σ.2.1 7 j), .int v, .int (σ.2.1 9 j)])) = zX a tc (zA σ 8 j v) := by
  refine (rp_set (ca := fun i => a (11 + i)) (cf := zcf σ) hj).trans ?_
  have : va_up (zcf σ) j (.inr (0, [.int (σ.2.1 5 j), .int (σ.2.1 6 j), .int (σ.2.1 7 j), .int v, .int (σ.2.1 9 j)])) = zcf (zA σ 8 j v) := by
    funext i
    by_cases hi : i = j
    · subst hi; simp [va_up, zcf, zA, zF, upd]
    · simp [va_up, zcf, zA, zF, upd, hi]
  rw [this]
  rfl
theorem xpC_4 {j : Nat} (hj : j < 8) {v : Int32} : (zX a tc σ).set (11 + j) (a (11 + j), .inr (0, [.int (σ.2.1 5 j), .int (σ.2.1 6 j), .int (σ.2.1 7 j), .int (σ.2.1 8 j), .int v])) = zX a tc (zA σ 9 j v) := by
  refine (rp_set (ca := fun i => a (11 + i)) (cf := zcf σ) hj).trans ?_
  have : va_up (zcf σ) j (.inr (0, [.int (σ.2.1 5 j), .int (σ.2.1 6 j), .int (σ.2.1 7 j), .int (σ.2.1 8 j), .int v])) = zcf (zA σ 9 j v) := by
    funext i
    by_cases hi : i = j
    · subst hi; simp [va_up, zcf, zA, zF, upd]
    · simp [va_up, zcf, zA, zF, upd, hi]
  rw [this]
  rfl
end ZX
abbrev ztM (tc : Nat → ClassId) : List (ClassId × FieldType) := [(tc 0, .int), (tc 1, .boolean), (tc 2, .int), (tc 3, .int), (tc 4, .int), (tc 5, .int), (tc 6, .int), (tc 7, .int), (tc 8, .int), (tc 9, .int), (tc 10, .int), (tc 11, .long), (tc 12, .long), (tc 13, .int)]
def zM (a : Nat → Nat) (tc : Nat → ClassId) (σ : zS) : va_W := [(a 0, .inr (5, [.int (σ.1 0), .int (σ.1 1), .int (σ.1 2), .int (σ.1 3), .int (σ.1 4), .ref (a 1), .ref (a 2), .ref (a 3), .ref (a 4), .ref (a 5), .ref (a 6), .ref (a 7), .int (σ.1 5), .ref (a 8), .ref (a 9), .ref (a 10), .int (σ.1 6), .ref (a 11), .long (σ.2.2 2 0), .int (σ.1 7), .ref (a 12), .ref (a 13), .ref (a 14)])),
  (a 1, .inl (tc 0, 8, .inl (σ.2.1 0))),
  (a 2, .inl (tc 1, 8, .inl (σ.2.1 1))),
  (a 3, .inl (tc 2, 8, .inl (σ.2.1 2))),
  (a 4, .inl (tc 3, 8, .inl (σ.2.1 3))),
  (a 5, .inl (tc 4, 8, .inl (σ.2.1 4))),
  (a 6, .inl (tc 5, 8, .inl (σ.2.1 5))),
  (a 7, .inl (tc 6, 8, .inl (σ.2.1 6))),
  (a 8, .inl (tc 7, 8, .inl (σ.2.1 7))),
  (a 9, .inl (tc 8, 8, .inl (σ.2.1 8))),
  (a 10, .inl (tc 9, 9, .inl (σ.2.1 9))),
  (a 11, .inl (tc 10, 8, .inl (σ.2.1 10))),
  (a 12, .inl (tc 11, 1400, .inr (.inl (σ.2.2 0)))),
  (a 13, .inl (tc 12, 3, .inr (.inl (σ.2.2 1)))),
  (a 14, .inl (tc 13, 3, .inl (σ.2.1 11)))]
section ZM
variable {a : Nat → Nat} {tc : Nat → ClassId} {σ : zS}
theorem yc_0 : (zM a tc σ)[0]? = some (a 0, .inr (5, [.int (σ.1 0), .int (σ.1 1), .int (σ.1 2), .int (σ.1 3), .int (σ.1 4), .ref (a 1), .ref (a 2), .ref (a 3), .ref (a 4), .ref (a 5), .ref (a 6), .ref (a 7), .int (σ.1 5), .ref (a 8), .ref (a 9), .ref (a 10), .int (σ.1 6), .ref (a 11), .long (σ.2.2 2 0), .int (σ.1 7), .ref (a 12), .ref (a 13), .ref (a 14)])) := rfl
theorem yc_1 : (zM a tc σ)[1]? = some (a 1, .inl (tc 0, 8, .inl (σ.2.1 0))) := rfl
theorem yc_2 : (zM a tc σ)[2]? = some (a 2, .inl (tc 1, 8, .inl (σ.2.1 1))) := rfl
theorem yc_3 : (zM a tc σ)[3]? = some (a 3, .inl (tc 2, 8, .inl (σ.2.1 2))) := rfl
theorem yc_4 : (zM a tc σ)[4]? = some (a 4, .inl (tc 3, 8, .inl (σ.2.1 3))) := rfl
theorem yc_5 : (zM a tc σ)[5]? = some (a 5, .inl (tc 4, 8, .inl (σ.2.1 4))) := rfl
theorem yc_6 : (zM a tc σ)[6]? = some (a 6, .inl (tc 5, 8, .inl (σ.2.1 5))) := rfl
theorem yc_7 : (zM a tc σ)[7]? = some (a 7, .inl (tc 6, 8, .inl (σ.2.1 6))) := rfl
theorem yc_8 : (zM a tc σ)[8]? = some (a 8, .inl (tc 7, 8, .inl (σ.2.1 7))) := rfl
theorem yc_9 : (zM a tc σ)[9]? = some (a 9, .inl (tc 8, 8, .inl (σ.2.1 8))) := rfl
theorem yc_10 : (zM a tc σ)[10]? = some (a 10, .inl (tc 9, 9, .inl (σ.2.1 9))) := rfl
theorem yc_11 : (zM a tc σ)[11]? = some (a 11, .inl (tc 10, 8, .inl (σ.2.1 10))) := rfl
theorem yc_12 : (zM a tc σ)[12]? = some (a 12, .inl (tc 11, 1400, .inr (.inl (σ.2.2 0)))) := rfl
theorem yc_13 : (zM a tc σ)[13]? = some (a 13, .inl (tc 12, 3, .inr (.inl (σ.2.2 1)))) := rfl
theorem yc_14 : (zM a tc σ)[14]? = some (a 14, .inl (tc 13, 3, .inl (σ.2.1 11))) := rfl
theorem yp_0_0 {v : Int32} : (zM a tc σ).set 0 (a 0, .inr (5, [.int v, .int (σ.1 1), .int (σ.1 2), .int (σ.1 3), .int (σ.1 4), .ref (a 1), .ref (a 2), .ref (a 3), .ref (a 4), .ref (a 5), .ref (a 6), .ref (a 7), .int (σ.1 5), .ref (a 8), .ref (a 9), .ref (a 10), .int (σ.1 6), .ref (a 11), .long (σ.2.2 2 0), .int (σ.1 7), .ref (a 12), .ref (a 13), .ref (a 14)])) = zM a tc (zI σ 0 v) := rfl
theorem yp_0_1 {v : Int32} : (zM a tc σ).set 0 (a 0, .inr (5, [.int (σ.1 0), .int v, .int (σ.1 2), .int (σ.1 3), .int (σ.1 4), .ref (a 1), .ref (a 2), .ref (a 3), .ref (a 4), .ref (a 5), .ref (a 6), .ref (a 7), .int (σ.1 5), .ref (a 8), .ref (a 9), .ref (a 10), .int (σ.1 6), .ref (a 11), .long (σ.2.2 2 0), .int (σ.1 7), .ref (a 12), .ref (a 13), .ref (a 14)])) = zM a tc (zI σ 1 v) := rfl
theorem yp_0_2 {v : Int32} : (zM a tc σ).set 0 (a 0, .inr (5, [.int (σ.1 0), .int (σ.1 1), .int v, .int (σ.1 3), .int (σ.1 4), .ref (a 1), .ref (a 2), .ref (a 3), .ref (a 4), .ref (a 5), .ref (a 6), .ref (a 7), .int (σ.1 5), .ref (a 8), .ref (a 9), .ref (a 10), .int (σ.1 6), .ref (a 11), .long (σ.2.2 2 0), .int (σ.1 7), .ref (a 12), .ref (a 13), .ref (a 14)])) = zM a tc (zI σ 2 v) := rfl
theorem yp_0_3 {v : Int32} : (zM a tc σ).set 0 (a 0, .inr (5, [.int (σ.1 0), .int (σ.1 1), .int (σ.1 2), .int v, .int (σ.1 4), .ref (a 1), .ref (a 2), .ref (a 3), .ref (a 4), .ref (a 5), .ref (a 6), .ref (a 7), .int (σ.1 5), .ref (a 8), .ref (a 9), .ref (a 10), .int (σ.1 6), .ref (a 11), .long (σ.2.2 2 0), .int (σ.1 7), .ref (a 12), .ref (a 13), .ref (a 14)])) = zM a tc (zI σ 3 v) := rfl
theorem yp_0_4 {v : Int32} : (zM a tc σ).set 0 (a 0, .inr (5, [.int (σ.1 0), .int (σ.1 1), .int (σ.1 2), .int (σ.1 3), .int v, .ref (a 1), .ref (a 2), .ref (a 3), .ref (a 4), .ref (a 5), .ref (a 6), .ref (a 7), .int (σ.1 5), .ref (a 8), .ref (a 9), .ref (a 10), .int (σ.1 6), .ref (a 11), .long (σ.2.2 2 0), .int (σ.1 7), .ref (a 12), .ref (a 13), .ref (a 14)])) = zM a tc (zI σ 4 v) := rfl
theorem yp_0_12 {v : Int32} : (zM a tc σ).set 0 (a 0, .inr (5, [.int (σ.1 0), .int (σ.1 1), .int (σ.1 2), .int (σ.1 3), .int (σ.1 4), .ref (a 1), .ref (a 2), .ref (a 3), .ref (a 4), .ref (a 5), .ref (a 6), .ref (a 7), .int v, .ref (a 8), .ref (a 9), .ref (a 10), .int (σ.1 6), .ref (a 11), .long (σ.2.2 2 0), .int (σ.1 7), .ref (a 12), .ref (a 13), .ref (a 14)])) = zM a tc (zI σ 5 v) := rfl
theorem yp_0_16 {v : Int32} : (zM a tc σ).set 0 (a 0, .inr (5, [.int (σ.1 0), .int (σ.1 1), .int (σ.1 2), .int (σ.1 3), .int (σ.1 4), .ref (a 1), .ref (a 2), .ref (a 3), .ref (a 4), .ref (a 5), .ref (a 6), .ref (a 7), .int (σ.1 5), .ref (a 8), .ref (a 9), .ref (a 10), .int v, .ref (a 11), .long (σ.2.2 2 0), .int (σ.1 7), .ref (a 12), .ref (a 13), .ref (a 14)])) = zM a tc (zI σ 6 v) := rfl
theorem yp_0_18 {v : Int64} : (zM a tc σ).set 0 (a 0, .inr (5, [.int (σ.1 0), .int (σ.1 1), .int (σ.1 2), .int (σ.1 3), .int (σ.1 4), .ref (a 1), .ref (a 2), .ref (a 3), .ref (a 4), .ref (a 5), .ref (a 6), .ref (a 7), .int (σ.1 5), .ref (a 8), .ref (a 9), .ref (a 10), .int (σ.1 6), .ref (a 11), .long v, .int (σ.1 7), .ref (a 12), .ref (a 13), .ref (a 14)])) = zM a tc (zT σ v) := rfl
theorem yp_0_19 {v : Int32} : (zM a tc σ).set 0 (a 0, .inr (5, [.int (σ.1 0), .int (σ.1 1), .int (σ.1 2), .int (σ.1 3), .int (σ.1 4), .ref (a 1), .ref (a 2), .ref (a 3), .ref (a 4), .ref (a 5), .ref (a 6), .ref (a 7), .int (σ.1 5), .ref (a 8), .ref (a 9), .ref (a 10), .int (σ.1 6), .ref (a 11), .long (σ.2.2 2 0), .int v, .ref (a 12), .ref (a 13), .ref (a 14)])) = zM a tc (zI σ 7 v) := rfl
theorem ya_1 {i : Nat} {v : Int32} : (zM a tc σ).set 1 (a 1, .inl (tc 0, 8, .inl (upd (σ.2.1 0) i v))) = zM a tc (zA σ 0 i v) := rfl
theorem yf_1 {f : Nat → Int32} : (zM a tc σ).set 1 (a 1, .inl (tc 0, 8, .inl (f))) = zM a tc (zF σ 0 f) := rfl
theorem ya_2 {i : Nat} {v : Int32} : (zM a tc σ).set 2 (a 2, .inl (tc 1, 8, .inl (upd (σ.2.1 1) i v))) = zM a tc (zA σ 1 i v) := rfl
theorem yf_2 {f : Nat → Int32} : (zM a tc σ).set 2 (a 2, .inl (tc 1, 8, .inl (f))) = zM a tc (zF σ 1 f) := rfl
theorem ya_3 {i : Nat} {v : Int32} : (zM a tc σ).set 3 (a 3, .inl (tc 2, 8, .inl (upd (σ.2.1 2) i v))) = zM a tc (zA σ 2 i v) := rfl
theorem yf_3 {f : Nat → Int32} : (zM a tc σ).set 3 (a 3, .inl (tc 2, 8, .inl (f))) = zM a tc (zF σ 2 f) := rfl
theorem ya_4 {i : Nat} {v : Int32} : (zM a tc σ).set 4 (a 4, .inl (tc 3, 8, .inl (upd (σ.2.1 3) i v))) = zM a tc (zA σ 3 i v) := rfl
theorem yf_4 {f : Nat → Int32} : (zM a tc σ).set 4 (a 4, .inl (tc 3, 8, .inl (f))) = zM a tc (zF σ 3 f) := rfl
theorem ya_5 {i : Nat} {v : Int32} : (zM a tc σ).set 5 (a 5, .inl (tc 4, 8, .inl (upd (σ.2.1 4) i v))) = zM a tc (zA σ 4 i v) := rfl
theorem yf_5 {f : Nat → Int32} : (zM a tc σ).set 5 (a 5, .inl (tc 4, 8, .inl (f))) = zM a tc (zF σ 4 f) := rfl
theorem ya_6 {i : Nat} {v : Int32} : (zM a tc σ).set 6 (a 6, .inl (tc 5, 8, .inl (upd (σ.2.1 5) i v))) = zM a tc (zA σ 5 i v) := rfl
theorem yf_6 {f : Nat → Int32} : (zM a tc σ).set 6 (a 6, .inl (tc 5, 8, .inl (f))) = zM a tc (zF σ 5 f) := rfl
theorem ya_7 {i : Nat} {v : Int32} : (zM a tc σ).set 7 (a 7, .inl (tc 6, 8, .inl (upd (σ.2.1 6) i v))) = zM a tc (zA σ 6 i v) := rfl
theorem yf_7 {f : Nat → Int32} : (zM a tc σ).set 7 (a 7, .inl (tc 6, 8, .inl (f))) = zM a tc (zF σ 6 f) := rfl
theorem ya_8 {i : Nat} {v : Int32} : (zM a tc σ).set 8 (a 8, .inl (tc 7, 8, .inl (upd (σ.2.1 7) i v))) = zM a tc (zA σ 7 i v) := rfl
theorem yf_8 {f : Nat → Int32} : (zM a tc σ).set 8 (a 8, .inl (tc 7, 8, .inl (f))) = zM a tc (zF σ 7 f) := rfl
theorem ya_9 {i : Nat} {v : Int32} : (zM a tc σ).set 9 (a 9, .inl (tc 8, 8, .inl (upd (σ.2.1 8) i v))) = zM a tc (zA σ 8 i v) := rfl
theorem yf_9 {f : Nat → Int32} : (zM a tc σ).set 9 (a 9, .inl (tc 8, 8, .inl (f))) = zM a tc (zF σ 8 f) := rfl
theorem ya_10 {i : Nat} {v : Int32} : (zM a tc σ).set 10 (a 10, .inl (tc 9, 9, .inl (upd (σ.2.1 9) i v))) = zM a tc (zA σ 9 i v) := rfl
theorem yf_10 {f : Nat → Int32} : (zM a tc σ).set 10 (a 10, .inl (tc 9, 9, .inl (f))) = zM a tc (zF σ 9 f) := rfl
theorem ya_11 {i : Nat} {v : Int32} : (zM a tc σ).set 11 (a 11, .inl (tc 10, 8, .inl (upd (σ.2.1 10) i v))) = zM a tc (zA σ 10 i v) := rfl
theorem yf_11 {f : Nat → Int32} : (zM a tc σ).set 11 (a 11, .inl (tc 10, 8, .inl (f))) = zM a tc (zF σ 10 f) := rfl
theorem ya_12 {i : Nat} {v : Int64} : (zM a tc σ).set 12 (a 12, .inl (tc 11, 1400, .inr (.inl (vp_updL (σ.2.2 0) i v)))) = zM a tc (zL σ 0 i v) := rfl
theorem ya_13 {i : Nat} {v : Int64} : (zM a tc σ).set 13 (a 13, .inl (tc 12, 3, .inr (.inl (vp_updL (σ.2.2 1) i v)))) = zM a tc (zL σ 1 i v) := rfl
theorem ya_14 {i : Nat} {v : Int32} : (zM a tc σ).set 14 (a 14, .inl (tc 13, 3, .inl (upd (σ.2.1 11) i v))) = zM a tc (zA σ 11 i v) := rfl
theorem yf_14 {f : Nat → Int32} : (zM a tc σ).set 14 (a 14, .inl (tc 13, 3, .inl (f))) = zM a tc (zF σ 11 f) := rfl
end ZM
theorem nh_X5_init : nM_X5_init.cls ≠ "java/lang/invoke/MethodHandle" ∧ nM_X5_init.cls ≠ "java/lang/invoke/VarHandle" ∧ (parseMethodDescriptor nM_X5_init.desc).map (fun d => d.parameters.length) = some 2 := by decide +kernel
theorem nh_X4_init : nM_X4_init.cls ≠ "java/lang/invoke/MethodHandle" ∧ nM_X4_init.cls ≠ "java/lang/invoke/VarHandle" ∧ (parseMethodDescriptor nM_X4_init.desc).map (fun d => d.parameters.length) = some 0 := by decide +kernel
theorem nh_X1_init : nM_X1_init.cls ≠ "java/lang/invoke/MethodHandle" ∧ nM_X1_init.cls ≠ "java/lang/invoke/VarHandle" ∧ (parseMethodDescriptor nM_X1_init.desc).map (fun d => d.parameters.length) = some 0 := by decide +kernel
theorem nh_X3_init : nM_X3_init.cls ≠ "java/lang/invoke/MethodHandle" ∧ nM_X3_init.cls ≠ "java/lang/invoke/VarHandle" ∧ (parseMethodDescriptor nM_X3_init.desc).map (fun d => d.parameters.length) = some 0 := by decide +kernel
theorem nh_X0_init : nM_X0_init.cls ≠ "java/lang/invoke/MethodHandle" ∧ nM_X0_init.cls ≠ "java/lang/invoke/VarHandle" ∧ (parseMethodDescriptor nM_X0_init.desc).map (fun d => d.parameters.length) = some 0 := by decide +kernel
theorem nh_X5_startRecord : nM_X5_startRecord.cls ≠ "java/lang/invoke/MethodHandle" ∧ nM_X5_startRecord.cls ≠ "java/lang/invoke/VarHandle" ∧ (parseMethodDescriptor nM_X5_startRecord.desc).map (fun d => d.parameters.length) = some 2 := by decide +kernel
theorem nh_X4_setUp : nM_X4_setUp.cls ≠ "java/lang/invoke/MethodHandle" ∧ nM_X4_setUp.cls ≠ "java/lang/invoke/VarHandle" ∧ (parseMethodDescriptor nM_X4_setUp.desc).map (fun d => d.parameters.length) = some 2 := by decide +kernel
theorem nh_JA_fill : nM_JA_fill.cls ≠ "java/lang/invoke/MethodHandle" ∧ nM_JA_fill.cls ≠ "java/lang/invoke/VarHandle" ∧ (parseMethodDescriptor nM_JA_fill.desc).map (fun d => d.parameters.length) = some 2 := by decide +kernel
theorem nh_X5_review : nM_X5_review.cls ≠ "java/lang/invoke/MethodHandle" ∧ nM_X5_review.cls ≠ "java/lang/invoke/VarHandle" ∧ (parseMethodDescriptor nM_X5_review.desc).map (fun d => d.parameters.length) = some 0 := by decide +kernel
theorem nh_X1_clear : nM_X1_clear.cls ≠ "java/lang/invoke/MethodHandle" ∧ nM_X1_clear.cls ≠ "java/lang/invoke/VarHandle" ∧ (parseMethodDescriptor nM_X1_clear.desc).map (fun d => d.parameters.length) = some 0 := by decide +kernel
theorem nh_X3_clear : nM_X3_clear.cls ≠ "java/lang/invoke/MethodHandle" ∧ nM_X3_clear.cls ≠ "java/lang/invoke/VarHandle" ∧ (parseMethodDescriptor nM_X3_clear.desc).map (fun d => d.parameters.length) = some 0 := by decide +kernel
theorem nh_X5_lengthenList : nM_X5_lengthenList.cls ≠ "java/lang/invoke/MethodHandle" ∧ nM_X5_lengthenList.cls ≠ "java/lang/invoke/VarHandle" ∧ (parseMethodDescriptor nM_X5_lengthenList.desc).map (fun d => d.parameters.length) = some 3 := by decide +kernel
theorem nh_X5_noteExplanation : nM_X5_noteExplanation.cls ≠ "java/lang/invoke/MethodHandle" ∧ nM_X5_noteExplanation.cls ≠ "java/lang/invoke/VarHandle" ∧ (parseMethodDescriptor nM_X5_noteExplanation.desc).map (fun d => d.parameters.length) = some 2 := by decide +kernel
theorem nh_X1_addExplanation : nM_X1_addExplanation.cls ≠ "java/lang/invoke/MethodHandle" ∧ nM_X1_addExplanation.cls ≠ "java/lang/invoke/VarHandle" ∧ (parseMethodDescriptor nM_X1_addExplanation.desc).map (fun d => d.parameters.length) = some 1 := by decide +kernel
theorem nh_X3_add : nM_X3_add.cls ≠ "java/lang/invoke/MethodHandle" ∧ nM_X3_add.cls ≠ "java/lang/invoke/VarHandle" ∧ (parseMethodDescriptor nM_X3_add.desc).map (fun d => d.parameters.length) = some 1 := by decide +kernel
theorem nh_X5_isIn : nM_X5_isIn.cls ≠ "java/lang/invoke/MethodHandle" ∧ nM_X5_isIn.cls ≠ "java/lang/invoke/VarHandle" ∧ (parseMethodDescriptor nM_X5_isIn.desc).map (fun d => d.parameters.length) = some 2 := by decide +kernel
theorem nh_X1_addReply : nM_X1_addReply.cls ≠ "java/lang/invoke/MethodHandle" ∧ nM_X1_addReply.cls ≠ "java/lang/invoke/VarHandle" ∧ (parseMethodDescriptor nM_X1_addReply.desc).map (fun d => d.parameters.length) = some 2 := by decide +kernel
theorem nh_X5_mayStandNext : nM_X5_mayStandNext.cls ≠ "java/lang/invoke/MethodHandle" ∧ nM_X5_mayStandNext.cls ≠ "java/lang/invoke/VarHandle" ∧ (parseMethodDescriptor nM_X5_mayStandNext.desc).map (fun d => d.parameters.length) = some 2 := by decide +kernel
theorem nh_X5_carryOut : nM_X5_carryOut.cls ≠ "java/lang/invoke/MethodHandle" ∧ nM_X5_carryOut.cls ≠ "java/lang/invoke/VarHandle" ∧ (parseMethodDescriptor nM_X5_carryOut.desc).map (fun d => d.parameters.length) = some 4 := by decide +kernel
theorem nh_X4_replyTo : nM_X4_replyTo.cls ≠ "java/lang/invoke/MethodHandle" ∧ nM_X4_replyTo.cls ≠ "java/lang/invoke/VarHandle" ∧ (parseMethodDescriptor nM_X4_replyTo.desc).map (fun d => d.parameters.length) = some 2 := by decide +kernel
theorem nh_X4_hasRoom : nM_X4_hasRoom.cls ≠ "java/lang/invoke/MethodHandle" ∧ nM_X4_hasRoom.cls ≠ "java/lang/invoke/VarHandle" ∧ (parseMethodDescriptor nM_X4_hasRoom.desc).map (fun d => d.parameters.length) = some 1 := by decide +kernel
theorem nh_X2_length : nM_X2_length.cls ≠ "java/lang/invoke/MethodHandle" ∧ nM_X2_length.cls ≠ "java/lang/invoke/VarHandle" ∧ (parseMethodDescriptor nM_X2_length.desc).map (fun d => d.parameters.length) = some 1 := by decide +kernel
theorem nh_X4_takesBack : nM_X4_takesBack.cls ≠ "java/lang/invoke/MethodHandle" ∧ nM_X4_takesBack.cls ≠ "java/lang/invoke/VarHandle" ∧ (parseMethodDescriptor nM_X4_takesBack.desc).map (fun d => d.parameters.length) = some 1 := by decide +kernel
theorem nh_X2_valueAt : nM_X2_valueAt.cls ≠ "java/lang/invoke/MethodHandle" ∧ nM_X2_valueAt.cls ≠ "java/lang/invoke/VarHandle" ∧ (parseMethodDescriptor nM_X2_valueAt.desc).map (fun d => d.parameters.length) = some 2 := by decide +kernel
theorem nh_X4_rowAfter : nM_X4_rowAfter.cls ≠ "java/lang/invoke/MethodHandle" ∧ nM_X4_rowAfter.cls ≠ "java/lang/invoke/VarHandle" ∧ (parseMethodDescriptor nM_X4_rowAfter.desc).map (fun d => d.parameters.length) = some 2 := by decide +kernel
theorem nh_X2_withBack : nM_X2_withBack.cls ≠ "java/lang/invoke/MethodHandle" ∧ nM_X2_withBack.cls ≠ "java/lang/invoke/VarHandle" ∧ (parseMethodDescriptor nM_X2_withBack.desc).map (fun d => d.parameters.length) = some 2 := by decide +kernel
theorem nh_X2_withoutBack : nM_X2_withoutBack.cls ≠ "java/lang/invoke/MethodHandle" ∧ nM_X2_withoutBack.cls ≠ "java/lang/invoke/VarHandle" ∧ (parseMethodDescriptor nM_X2_withoutBack.desc).map (fun d => d.parameters.length) = some 1 := by decide +kernel
theorem nh_X2_withoutFront : nM_X2_withoutFront.cls ≠ "java/lang/invoke/MethodHandle" ∧ nM_X2_withoutFront.cls ≠ "java/lang/invoke/VarHandle" ∧ (parseMethodDescriptor nM_X2_withoutFront.desc).map (fun d => d.parameters.length) = some 1 := by decide +kernel
theorem nh_X5_fits : nM_X5_fits.cls ≠ "java/lang/invoke/MethodHandle" ∧ nM_X5_fits.cls ≠ "java/lang/invoke/VarHandle" ∧ (parseMethodDescriptor nM_X5_fits.desc).map (fun d => d.parameters.length) = some 0 := by decide +kernel
theorem nh_X5_renew : nM_X5_renew.cls ≠ "java/lang/invoke/MethodHandle" ∧ nM_X5_renew.cls ≠ "java/lang/invoke/VarHandle" ∧ (parseMethodDescriptor nM_X5_renew.desc).map (fun d => d.parameters.length) = some 2 := by decide +kernel
theorem nh_X5_beginPut : nM_X5_beginPut.cls ≠ "java/lang/invoke/MethodHandle" ∧ nM_X5_beginPut.cls ≠ "java/lang/invoke/VarHandle" ∧ (parseMethodDescriptor nM_X5_beginPut.desc).map (fun d => d.parameters.length) = some 2 := by decide +kernel
theorem nh_X5_mayBegin : nM_X5_mayBegin.cls ≠ "java/lang/invoke/MethodHandle" ∧ nM_X5_mayBegin.cls ≠ "java/lang/invoke/VarHandle" ∧ (parseMethodDescriptor nM_X5_mayBegin.desc).map (fun d => d.parameters.length) = some 1 := by decide +kernel
theorem nh_X5_isWorker : nM_X5_isWorker.cls ≠ "java/lang/invoke/MethodHandle" ∧ nM_X5_isWorker.cls ≠ "java/lang/invoke/VarHandle" ∧ (parseMethodDescriptor nM_X5_isWorker.desc).map (fun d => d.parameters.length) = some 1 := by decide +kernel
theorem nh_X5_isValue : nM_X5_isValue.cls ≠ "java/lang/invoke/MethodHandle" ∧ nM_X5_isValue.cls ≠ "java/lang/invoke/VarHandle" ∧ (parseMethodDescriptor nM_X5_isValue.desc).map (fun d => d.parameters.length) = some 1 := by decide +kernel
theorem nh_X4_letsPut : nM_X4_letsPut.cls ≠ "java/lang/invoke/MethodHandle" ∧ nM_X4_letsPut.cls ≠ "java/lang/invoke/VarHandle" ∧ (parseMethodDescriptor nM_X4_letsPut.desc).map (fun d => d.parameters.length) = some 1 := by decide +kernel
theorem nh_X0_startPut : nM_X0_startPut.cls ≠ "java/lang/invoke/MethodHandle" ∧ nM_X0_startPut.cls ≠ "java/lang/invoke/VarHandle" ∧ (parseMethodDescriptor nM_X0_startPut.desc).map (fun d => d.parameters.length) = some 3 := by decide +kernel
theorem nh_X5_openNextCall : nM_X5_openNextCall.cls ≠ "java/lang/invoke/MethodHandle" ∧ nM_X5_openNextCall.cls ≠ "java/lang/invoke/VarHandle" ∧ (parseMethodDescriptor nM_X5_openNextCall.desc).map (fun d => d.parameters.length) = some 1 := by decide +kernel
theorem nh_X5_beginTake : nM_X5_beginTake.cls ≠ "java/lang/invoke/MethodHandle" ∧ nM_X5_beginTake.cls ≠ "java/lang/invoke/VarHandle" ∧ (parseMethodDescriptor nM_X5_beginTake.desc).map (fun d => d.parameters.length) = some 1 := by decide +kernel
theorem nh_X0_startTake : nM_X0_startTake.cls ≠ "java/lang/invoke/MethodHandle" ∧ nM_X0_startTake.cls ≠ "java/lang/invoke/VarHandle" ∧ (parseMethodDescriptor nM_X0_startTake.desc).map (fun d => d.parameters.length) = some 2 := by decide +kernel
theorem nh_X5_endPut : nM_X5_endPut.cls ≠ "java/lang/invoke/MethodHandle" ∧ nM_X5_endPut.cls ≠ "java/lang/invoke/VarHandle" ∧ (parseMethodDescriptor nM_X5_endPut.desc).map (fun d => d.parameters.length) = some 2 := by decide +kernel
theorem nh_X5_hasOpenCall : nM_X5_hasOpenCall.cls ≠ "java/lang/invoke/MethodHandle" ∧ nM_X5_hasOpenCall.cls ≠ "java/lang/invoke/VarHandle" ∧ (parseMethodDescriptor nM_X5_hasOpenCall.desc).map (fun d => d.parameters.length) = some 1 := by decide +kernel
theorem nh_X5_endOpenCall : nM_X5_endOpenCall.cls ≠ "java/lang/invoke/MethodHandle" ∧ nM_X5_endOpenCall.cls ≠ "java/lang/invoke/VarHandle" ∧ (parseMethodDescriptor nM_X5_endOpenCall.desc).map (fun d => d.parameters.length) = some 2 := by decide +kernel
theorem nh_X5_closeOpenCall : nM_X5_closeOpenCall.cls ≠ "java/lang/invoke/MethodHandle" ∧ nM_X5_closeOpenCall.cls ≠ "java/lang/invoke/VarHandle" ∧ (parseMethodDescriptor nM_X5_closeOpenCall.desc).map (fun d => d.parameters.length) = some 1 := by decide +kernel
theorem nh_X5_endTake : nM_X5_endTake.cls ≠ "java/lang/invoke/MethodHandle" ∧ nM_X5_endTake.cls ≠ "java/lang/invoke/VarHandle" ∧ (parseMethodDescriptor nM_X5_endTake.desc).map (fun d => d.parameters.length) = some 2 := by decide +kernel
theorem nh_X5_giveUp : nM_X5_giveUp.cls ≠ "java/lang/invoke/MethodHandle" ∧ nM_X5_giveUp.cls ≠ "java/lang/invoke/VarHandle" ∧ (parseMethodDescriptor nM_X5_giveUp.desc).map (fun d => d.parameters.length) = some 1 := by decide +kernel
theorem nh_X5_events : nM_X5_events.cls ≠ "java/lang/invoke/MethodHandle" ∧ nM_X5_events.cls ≠ "java/lang/invoke/VarHandle" ∧ (parseMethodDescriptor nM_X5_events.desc).map (fun d => d.parameters.length) = some 0 := by decide +kernel
theorem nh_X5_begun : nM_X5_begun.cls ≠ "java/lang/invoke/MethodHandle" ∧ nM_X5_begun.cls ≠ "java/lang/invoke/VarHandle" ∧ (parseMethodDescriptor nM_X5_begun.desc).map (fun d => d.parameters.length) = some 0 := by decide +kernel
theorem nh_X5_brokenAt : nM_X5_brokenAt.cls ≠ "java/lang/invoke/MethodHandle" ∧ nM_X5_brokenAt.cls ≠ "java/lang/invoke/VarHandle" ∧ (parseMethodDescriptor nM_X5_brokenAt.desc).map (fun d => d.parameters.length) = some 0 := by decide +kernel
theorem nh_X5_explanations : nM_X5_explanations.cls ≠ "java/lang/invoke/MethodHandle" ∧ nM_X5_explanations.cls ≠ "java/lang/invoke/VarHandle" ∧ (parseMethodDescriptor nM_X5_explanations.desc).map (fun d => d.parameters.length) = some 0 := by decide +kernel
theorem nh_X5_outcomes : nM_X5_outcomes.cls ≠ "java/lang/invoke/MethodHandle" ∧ nM_X5_outcomes.cls ≠ "java/lang/invoke/VarHandle" ∧ (parseMethodDescriptor nM_X5_outcomes.desc).map (fun d => d.parameters.length) = some 0 := by decide +kernel
theorem nh_X5_fewest : nM_X5_fewest.cls ≠ "java/lang/invoke/MethodHandle" ∧ nM_X5_fewest.cls ≠ "java/lang/invoke/VarHandle" ∧ (parseMethodDescriptor nM_X5_fewest.desc).map (fun d => d.parameters.length) = some 0 := by decide +kernel
theorem nh_X3_shortest : nM_X3_shortest.cls ≠ "java/lang/invoke/MethodHandle" ∧ nM_X3_shortest.cls ≠ "java/lang/invoke/VarHandle" ∧ (parseMethodDescriptor nM_X3_shortest.desc).map (fun d => d.parameters.length) = some 0 := by decide +kernel
theorem nh_X5_most : nM_X5_most.cls ≠ "java/lang/invoke/MethodHandle" ∧ nM_X5_most.cls ≠ "java/lang/invoke/VarHandle" ∧ (parseMethodDescriptor nM_X5_most.desc).map (fun d => d.parameters.length) = some 0 := by decide +kernel
theorem nh_X3_longest : nM_X3_longest.cls ≠ "java/lang/invoke/MethodHandle" ∧ nM_X3_longest.cls ≠ "java/lang/invoke/VarHandle" ∧ (parseMethodDescriptor nM_X3_longest.desc).map (fun d => d.parameters.length) = some 0 := by decide +kernel
theorem nh_X5_mayHold : nM_X5_mayHold.cls ≠ "java/lang/invoke/MethodHandle" ∧ nM_X5_mayHold.cls ≠ "java/lang/invoke/VarHandle" ∧ (parseMethodDescriptor nM_X5_mayHold.desc).map (fun d => d.parameters.length) = some 2 := by decide +kernel
theorem nh_X3_anyHas : nM_X3_anyHas.cls ≠ "java/lang/invoke/MethodHandle" ∧ nM_X3_anyHas.cls ≠ "java/lang/invoke/VarHandle" ∧ (parseMethodDescriptor nM_X3_anyHas.desc).map (fun d => d.parameters.length) = some 2 := by decide +kernel
theorem nh_X5_certain : nM_X5_certain.cls ≠ "java/lang/invoke/MethodHandle" ∧ nM_X5_certain.cls ≠ "java/lang/invoke/VarHandle" ∧ (parseMethodDescriptor nM_X5_certain.desc).map (fun d => d.parameters.length) = some 1 := by decide +kernel
theorem nh_X5_answers : nM_X5_answers.cls ≠ "java/lang/invoke/MethodHandle" ∧ nM_X5_answers.cls ≠ "java/lang/invoke/VarHandle" ∧ (parseMethodDescriptor nM_X5_answers.desc).map (fun d => d.parameters.length) = some 1 := by decide +kernel
theorem nh_JI_bitCount : nM_JI_bitCount.cls ≠ "java/lang/invoke/MethodHandle" ∧ nM_JI_bitCount.cls ≠ "java/lang/invoke/VarHandle" ∧ (parseMethodDescriptor nM_JI_bitCount.desc).map (fun d => d.parameters.length) = some 1 := by decide +kernel
theorem nh_L_cell : nM_L_cell.cls ≠ "java/lang/invoke/MethodHandle" ∧ nM_L_cell.cls ≠ "java/lang/invoke/VarHandle" ∧ (parseMethodDescriptor nM_L_cell.desc).map (fun d => d.parameters.length) = some 2 := by decide +kernel
theorem nh_M_init : nM_M_init.cls ≠ "java/lang/invoke/MethodHandle" ∧ nM_M_init.cls ≠ "java/lang/invoke/VarHandle" ∧ (parseMethodDescriptor nM_M_init.desc).map (fun d => d.parameters.length) = some 2 := by decide +kernel
theorem nh_M_renew : nM_M_renew.cls ≠ "java/lang/invoke/MethodHandle" ∧ nM_M_renew.cls ≠ "java/lang/invoke/VarHandle" ∧ (parseMethodDescriptor nM_M_renew.desc).map (fun d => d.parameters.length) = some 2 := by decide +kernel
theorem nh_M_work : nM_M_work.cls ≠ "java/lang/invoke/MethodHandle" ∧ nM_M_work.cls ≠ "java/lang/invoke/VarHandle" ∧ (parseMethodDescriptor nM_M_work.desc).map (fun d => d.parameters.length) = some 0 := by decide +kernel
theorem nh_M_note : nM_M_note.cls ≠ "java/lang/invoke/MethodHandle" ∧ nM_M_note.cls ≠ "java/lang/invoke/VarHandle" ∧ (parseMethodDescriptor nM_M_note.desc).map (fun d => d.parameters.length) = some 0 := by decide +kernel
theorem nh_M_isListed : nM_M_isListed.cls ≠ "java/lang/invoke/MethodHandle" ∧ nM_M_isListed.cls ≠ "java/lang/invoke/VarHandle" ∧ (parseMethodDescriptor nM_M_isListed.desc).map (fun d => d.parameters.length) = some 1 := by decide +kernel
theorem nh_M_lengthen : nM_M_lengthen.cls ≠ "java/lang/invoke/MethodHandle" ∧ nM_M_lengthen.cls ≠ "java/lang/invoke/VarHandle" ∧ (parseMethodDescriptor nM_M_lengthen.desc).map (fun d => d.parameters.length) = some 1 := by decide +kernel
theorem nh_M_good : nM_M_good.cls ≠ "java/lang/invoke/MethodHandle" ∧ nM_M_good.cls ≠ "java/lang/invoke/VarHandle" ∧ (parseMethodDescriptor nM_M_good.desc).map (fun d => d.parameters.length) = some 0 := by decide +kernel
theorem nh_M_carryOut : nM_M_carryOut.cls ≠ "java/lang/invoke/MethodHandle" ∧ nM_M_carryOut.cls ≠ "java/lang/invoke/VarHandle" ∧ (parseMethodDescriptor nM_M_carryOut.desc).map (fun d => d.parameters.length) = some 1 := by decide +kernel
theorem nh_M_beginPut : nM_M_beginPut.cls ≠ "java/lang/invoke/MethodHandle" ∧ nM_M_beginPut.cls ≠ "java/lang/invoke/VarHandle" ∧ (parseMethodDescriptor nM_M_beginPut.desc).map (fun d => d.parameters.length) = some 2 := by decide +kernel
theorem nh_M_begin : nM_M_begin.cls ≠ "java/lang/invoke/MethodHandle" ∧ nM_M_begin.cls ≠ "java/lang/invoke/VarHandle" ∧ (parseMethodDescriptor nM_M_begin.desc).map (fun d => d.parameters.length) = some 3 := by decide +kernel
theorem nh_M_openOf : nM_M_openOf.cls ≠ "java/lang/invoke/MethodHandle" ∧ nM_M_openOf.cls ≠ "java/lang/invoke/VarHandle" ∧ (parseMethodDescriptor nM_M_openOf.desc).map (fun d => d.parameters.length) = some 1 := by decide +kernel
theorem nh_M_happened : nM_M_happened.cls ≠ "java/lang/invoke/MethodHandle" ∧ nM_M_happened.cls ≠ "java/lang/invoke/VarHandle" ∧ (parseMethodDescriptor nM_M_happened.desc).map (fun d => d.parameters.length) = some 0 := by decide +kernel
theorem nh_M_beginTake : nM_M_beginTake.cls ≠ "java/lang/invoke/MethodHandle" ∧ nM_M_beginTake.cls ≠ "java/lang/invoke/VarHandle" ∧ (parseMethodDescriptor nM_M_beginTake.desc).map (fun d => d.parameters.length) = some 1 := by decide +kernel
theorem nh_M_endPut : nM_M_endPut.cls ≠ "java/lang/invoke/MethodHandle" ∧ nM_M_endPut.cls ≠ "java/lang/invoke/VarHandle" ∧ (parseMethodDescriptor nM_M_endPut.desc).map (fun d => d.parameters.length) = some 2 := by decide +kernel
theorem nh_M_close : nM_M_close.cls ≠ "java/lang/invoke/MethodHandle" ∧ nM_M_close.cls ≠ "java/lang/invoke/VarHandle" ∧ (parseMethodDescriptor nM_M_close.desc).map (fun d => d.parameters.length) = some 3 := by decide +kernel
theorem nh_M_endTake : nM_M_endTake.cls ≠ "java/lang/invoke/MethodHandle" ∧ nM_M_endTake.cls ≠ "java/lang/invoke/VarHandle" ∧ (parseMethodDescriptor nM_M_endTake.desc).map (fun d => d.parameters.length) = some 2 := by decide +kernel
theorem nh_M_giveUp : nM_M_giveUp.cls ≠ "java/lang/invoke/MethodHandle" ∧ nM_M_giveUp.cls ≠ "java/lang/invoke/VarHandle" ∧ (parseMethodDescriptor nM_M_giveUp.desc).map (fun d => d.parameters.length) = some 1 := by decide +kernel
theorem nh_M_events : nM_M_events.cls ≠ "java/lang/invoke/MethodHandle" ∧ nM_M_events.cls ≠ "java/lang/invoke/VarHandle" ∧ (parseMethodDescriptor nM_M_events.desc).map (fun d => d.parameters.length) = some 0 := by decide +kernel
theorem nh_M_begun : nM_M_begun.cls ≠ "java/lang/invoke/MethodHandle" ∧ nM_M_begun.cls ≠ "java/lang/invoke/VarHandle" ∧ (parseMethodDescriptor nM_M_begun.desc).map (fun d => d.parameters.length) = some 0 := by decide +kernel
theorem nh_M_fits : nM_M_fits.cls ≠ "java/lang/invoke/MethodHandle" ∧ nM_M_fits.cls ≠ "java/lang/invoke/VarHandle" ∧ (parseMethodDescriptor nM_M_fits.desc).map (fun d => d.parameters.length) = some 0 := by decide +kernel
theorem nh_M_brokenAt : nM_M_brokenAt.cls ≠ "java/lang/invoke/MethodHandle" ∧ nM_M_brokenAt.cls ≠ "java/lang/invoke/VarHandle" ∧ (parseMethodDescriptor nM_M_brokenAt.desc).map (fun d => d.parameters.length) = some 0 := by decide +kernel
theorem nh_M_explanations : nM_M_explanations.cls ≠ "java/lang/invoke/MethodHandle" ∧ nM_M_explanations.cls ≠ "java/lang/invoke/VarHandle" ∧ (parseMethodDescriptor nM_M_explanations.desc).map (fun d => d.parameters.length) = some 0 := by decide +kernel
theorem nh_M_outcomes : nM_M_outcomes.cls ≠ "java/lang/invoke/MethodHandle" ∧ nM_M_outcomes.cls ≠ "java/lang/invoke/VarHandle" ∧ (parseMethodDescriptor nM_M_outcomes.desc).map (fun d => d.parameters.length) = some 0 := by decide +kernel
theorem nh_M_fewest : nM_M_fewest.cls ≠ "java/lang/invoke/MethodHandle" ∧ nM_M_fewest.cls ≠ "java/lang/invoke/VarHandle" ∧ (parseMethodDescriptor nM_M_fewest.desc).map (fun d => d.parameters.length) = some 0 := by decide +kernel
theorem nh_M_sizeOf : nM_M_sizeOf.cls ≠ "java/lang/invoke/MethodHandle" ∧ nM_M_sizeOf.cls ≠ "java/lang/invoke/VarHandle" ∧ (parseMethodDescriptor nM_M_sizeOf.desc).map (fun d => d.parameters.length) = some 1 := by decide +kernel
theorem nh_M_most : nM_M_most.cls ≠ "java/lang/invoke/MethodHandle" ∧ nM_M_most.cls ≠ "java/lang/invoke/VarHandle" ∧ (parseMethodDescriptor nM_M_most.desc).map (fun d => d.parameters.length) = some 0 := by decide +kernel
theorem nh_M_mayHold : nM_M_mayHold.cls ≠ "java/lang/invoke/MethodHandle" ∧ nM_M_mayHold.cls ≠ "java/lang/invoke/VarHandle" ∧ (parseMethodDescriptor nM_M_mayHold.desc).map (fun d => d.parameters.length) = some 2 := by decide +kernel
theorem nh_M_certain : nM_M_certain.cls ≠ "java/lang/invoke/MethodHandle" ∧ nM_M_certain.cls ≠ "java/lang/invoke/VarHandle" ∧ (parseMethodDescriptor nM_M_certain.desc).map (fun d => d.parameters.length) = some 1 := by decide +kernel
theorem nh_M_answers : nM_M_answers.cls ≠ "java/lang/invoke/MethodHandle" ∧ nM_M_answers.cls ≠ "java/lang/invoke/VarHandle" ∧ (parseMethodDescriptor nM_M_answers.desc).map (fun d => d.parameters.length) = some 1 := by decide +kernel
