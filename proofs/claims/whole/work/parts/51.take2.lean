/-! ===== the trees when arcs have been taken out ===== -/
def TakeT (A : Nat → Nat) (n F G s : Nat) (t t' : Nat → Nat) (k : Nat) : Prop :=
  (anyF (hit F G t) n 0 = false ∧ t' = t ∧ k = 0) ∨ (anyF (hit F G t) n 0 = true ∧ Dfs A n s 0 (root s) t' k)
theorem takeT_ex (A : Nat → Nat) (n F G s : Nat) (t : Nat → Nat) : ∃ t' k, TakeT A n F G s t t' k := by
  cases h : anyF (hit F G t) n 0
  · exact ⟨t, 0, Or.inl ⟨h, rfl, rfl⟩⟩
  · obtain ⟨t', j, d⟩ := dfs_ex (A := A) (n := n) (zc n (root s)) n s 0 (root s) (by omega) (Nat.le_refl _)
    exact ⟨t', j, Or.inr ⟨h, d⟩⟩
section E3
variable {n : Nat} {A : Nat → Nat} {F G : Nat} {T T' : Nat → Nat → Nat} {K : Nat → Nat}
theorem takeC38 {O : Nat → Int32} (hn : n ≤ 10) (hA : ∀ u, u < n → A u < 2 ^ n) (hO : ∀ u, u < n → O u = nI (A u)) (hF : F < 2 ^ n) (hG : G < 2 ^ n) (hb : ∀ s y, s < n → y < n → T s y < n + 2) (hP : ∀ s, s < n → TakeT A n F G s (T s) (T' s) (K s)) : ∀ (c i m : Nat) (wrk : Int32) (Mm Ab : Nat → Int32), i + c = n → c < m → (∀ s, i ≤ s → s < n → Mm s = nI (vm n (T s)) ∧ ∀ y, y < n → Ab (10 * s + y) = abC (T s y)) → ∃ Mm' Ab', f_X3_takeOut_38 1000 (nI F) (nI G) (nI n) O m (nI i) wrk Mm Ab = some (wrk + nI (sumF K c i), O, Mm', Ab') ∧ (∀ s, i ≤ s → s < n → Mm' s = nI (vm n (T' s)) ∧ ∀ y, y < n → Ab' (10 * s + y) = abC (T' s y)) ∧ ∀ s, s < i → Mm' s = Mm s ∧ ∀ y, y < n → Ab' (10 * s + y) = Ab (10 * s + y) := by
  intro c
  induction c with
  | zero =>
    intro i m wrk Mm Ab h1 h2 h3
    obtain ⟨m, rfl⟩ : ∃ k, m = k + 1 := ⟨m - 1, by omega⟩
    refine ⟨Mm, Ab, ?_, fun s a b => absurd b (by omega), fun s _ => ⟨rfl, fun _ _ => rfl⟩⟩
    rw [f_X3_takeOut_38, if_pos (nI_le (by omega) (by omega)), sumF, nI_0, Int32.add_zero]
  | succ c ih =>
    intro i m wrk Mm Ab h1 h2 h3
    obtain ⟨m, rfl⟩ : ∃ k, m = k + 1 := ⟨m - 1, by omega⟩
    have hi : i < n := by omega
    obtain ⟨m1, a1⟩ := h3 i (by omega) hi
    have q1 : ¬ nI n ≤ nI i := nI_ge (by omega) (by omega)
    have es := stoodC (s := i) hn hi hF hG (fun y hy => hb i y hi hy) a1 n 0 1000 (by omega) (by omega)
    rw [nI_0] at es
    have go : ∀ (Mm1 Ab1 : Nat → Int32) (w1 : Int32), (Mm1 i = nI (vm n (T' i)) ∧ ∀ y, y < n → Ab1 (10 * i + y) = abC (T' i y)) → (∀ s, s ≠ i → s < n → Mm1 s = Mm s ∧ ∀ y, y < n → Ab1 (10 * s + y) = Ab (10 * s + y)) → w1 = wrk + nI (K i) → ∃ Mm' Ab', f_X3_takeOut_38 1000 (nI F) (nI G) (nI n) O m (nI i + 1) w1 Mm1 Ab1 = some (wrk + nI (sumF K (c + 1) i), O, Mm', Ab') ∧ (∀ s, i ≤ s → s < n → Mm' s = nI (vm n (T' s)) ∧ ∀ y, y < n → Ab' (10 * s + y) = abC (T' s y)) ∧ ∀ s, s < i → Mm' s = Mm s ∧ ∀ y, y < n → Ab' (10 * s + y) = Ab (10 * s + y) := by
      intro Mm1 Ab1 w1 e1 e2 e3
      subst e3
      obtain ⟨Mm', Ab', e, f1, f2⟩ := ih (i + 1) m (wrk + nI (K i)) Mm1 Ab1 (by omega) (by omega) (fun s a b => by
        obtain ⟨d1, d2⟩ := e2 s (by omega) b
        obtain ⟨d3, d4⟩ := h3 s (by omega) b
        exact ⟨by rw [d1, d3], fun y hy => by rw [d2 y hy, d4 y hy]⟩)
      refine ⟨Mm', Ab', ?_, fun s a b => ?_, fun s a => ?_⟩
      · rw [nI_1, e, sumF, Int32.add_assoc, nI_add]
      · by_cases es : s = i
        · subst es
          obtain ⟨d1, d2⟩ := f2 s (by omega)
          exact ⟨by rw [d1]; exact e1.1, fun y hy => by rw [d2 y hy]; exact e1.2 y hy⟩
        · exact f1 s (by omega) b
      · obtain ⟨d1, d2⟩ := f2 s (by omega)
        obtain ⟨d3, d4⟩ := e2 s (by omega) (by omega)
        exact ⟨by rw [d1, d3], fun y hy => by rw [d2 y hy, d4 y hy]⟩
    rcases hP i hi with ⟨p1, p2, p3⟩ | ⟨p1, p2⟩
    · obtain ⟨Mm', Ab', e, f⟩ := go Mm Ab wrk ⟨by rw [p2, m1], fun y hy => by rw [p2, a1 y hy]⟩ (fun s _ _ => ⟨rfl, fun _ _ => rfl⟩) (by rw [p3, nI_0, Int32.add_zero])
      refine ⟨Mm', Ab', ?_, f⟩
      rw [f_X3_takeOut_38, if_neg q1, f_X3_stoodOn, es, p1, Option.bind_some, if_pos (by rfl)]
      exact e
    · have k1 := anewC (Mm := Mm) (Ab := Ab) hn hA hO hi p2 wrk
      obtain ⟨Mm', Ab', e, f⟩ := go (upd Mm i (nI (vm n (T' i)))) (rowC n i (T' i) Ab) (wrk + nI (K i)) ⟨pk_us, fun y hy => rowC_at hy⟩ (fun s a b => ⟨pk_un a, fun y hy => rowC_ne hn hy a⟩) rfl
      refine ⟨Mm', Ab', ?_, f⟩
      rw [f_X3_takeOut_38, if_neg q1, f_X3_stoodOn, es, p1, Option.bind_some, if_neg (by decide), k1, Option.bind_some]
      exact e
theorem takeM148 (hn : n ≤ 10) (hA : ∀ u, u < n → A u < 2 ^ n) (hF : F < 2 ^ n) (hG : G < 2 ^ n) (hb : ∀ s y, s < n → y < n → T s y < n + 2) (hP : ∀ s, s < n → TakeT A n F G s (T s) (T' s) (K s)) {x4 um : Int32} {pst : Nat → Int32} : ∀ (c i m : Nat) (st pil nxs : Nat → Int32), i + c = n → c < m → (∀ w, w < n → st w = nI (A w)) → (∀ s y, i ≤ s → s < n → y < n → st (10 + 10 * s + y) = nI (T s y)) → ∃ st' pil' nxs', f_X7_take_148 1000 (nI F) (nI G) x4 (nI n) um pst m (nI i) st pil nxs = ((f_X7_arcs 1000 (nI n) st').bind fun q16 => some (x4 - q16, um, st', pst, pil', nxs')) ∧ st' 110 = st 110 + nI (sumF K c i) ∧ (∀ w, w < n → st' w = nI (A w)) ∧ (∀ s y, i ≤ s → s < n → y < n → st' (10 + 10 * s + y) = nI (T' s y)) ∧ ∀ s y, s < i → y < n → st' (10 + 10 * s + y) = st (10 + 10 * s + y) := by
  intro c
  induction c with
  | zero =>
    intro i m st pil nxs h1 h2 hO h3
    obtain ⟨m, rfl⟩ : ∃ k, m = k + 1 := ⟨m - 1, by omega⟩
    refine ⟨st, pil, nxs, ?_, ?_, hO, fun s y a b => absurd b (by omega), fun s y _ _ => rfl⟩
    · rw [f_X7_take_148, if_pos (nI_le (by omega) (by omega))]
    · rw [sumF, nI_0, Int32.add_zero]
  | succ c ih =>
    intro i m st pil nxs h1 h2 hO h3
    obtain ⟨m, rfl⟩ : ∃ k, m = k + 1 := ⟨m - 1, by omega⟩
    have hi : i < n := by omega
    have q1 : ¬ nI n ≤ nI i := nI_ge (by omega) (by omega)
    have es := stoodM (s := i) (t := T i) hn hi hF hG (fun y hy => hb i y hi hy) (fun y hy => h3 i y (by omega) hi hy) n 0 1000 false (by omega) (by omega)
    rw [nI_0, Bool.false_or, show bI false = 0 from rfl] at es
    have go : ∀ (st1 pil nxs : Nat → Int32), st1 = rowM n i (T' i) (st 110 + nI (K i)) st → ∃ st' pil' nxs', f_X7_take_148 1000 (nI F) (nI G) x4 (nI n) um pst m (nI i + 1) st1 pil nxs = ((f_X7_arcs 1000 (nI n) st').bind fun q16 => some (x4 - q16, um, st', pst, pil', nxs')) ∧ st' 110 = st 110 + nI (sumF K (c + 1) i) ∧ (∀ w, w < n → st' w = nI (A w)) ∧ (∀ s y, i ≤ s → s < n → y < n → st' (10 + 10 * s + y) = nI (T' s y)) ∧ ∀ s y, s < i → y < n → st' (10 + 10 * s + y) = st (10 + 10 * s + y) := by
      intro st1 pil nxs ew
      subst ew
      obtain ⟨st', pil', nxs', e, f1, f2, f3, f4⟩ := ih (i + 1) m (rowM n i (T' i) (st 110 + nI (K i)) st) pil nxs (by omega) (by omega) (fun w hw => by rw [rowM_o (by omega), hO w hw]) (fun s y a b d => by rw [rowM_ne hn (by omega) d (by omega), h3 s y (by omega) b d])
      refine ⟨st', pil', nxs', by rw [nI_1, e], ?_, f2, fun s y a b d => ?_, fun s y a b => ?_⟩
      · rw [f1, rowM_w, Int32.add_assoc, nI_add]; rfl
      · by_cases es : s = i
        · subst es; rw [f4 s y (by omega) d, rowM_at (by omega) hn d]
        · exact f3 s y (by omega) b d
      · rw [f4 s y (by omega) b, rowM_ne hn (by omega) b (by omega)]
    rcases hP i hi with ⟨p1, p2, p3⟩ | ⟨p1, p2⟩
    · obtain ⟨st', pil', nxs', e, f⟩ := go st pil nxs (by rw [p2, p3, nI_0, Int32.add_zero, rowM_id (fun y hy => h3 i y (by omega) hi hy)])
      refine ⟨st', pil', nxs', ?_, f⟩
      rw [f_X7_take_148, if_neg q1, f_X7_stoodOn, es, p1, Option.bind_some, if_pos (by rfl)]
      exact e
    · obtain ⟨pil1, nxs1, k1⟩ := growM hn hA hO hi p2 pil nxs
      obtain ⟨st', pil', nxs', e, f⟩ := go _ pil1 nxs1 rfl
      refine ⟨st', pil', nxs', ?_, f⟩
      rw [f_X7_take_148, if_neg q1, f_X7_stoodOn, es, p1, Option.bind_some, if_neg (by decide), k1, Option.bind_some]
      exact e
end E3
/-- the arcs without those from F to G -/
def subA (A : Nat → Nat) (F G w : Nat) : Nat := if F.testBit w then dif (A w) G else A w
theorem subA_tb {A : Nat → Nat} {F G x y : Nat} : (subA A F G x).testBit y = ((A x).testBit y && !(F.testBit x && G.testBit y)) := by
  unfold subA
  cases F.testBit x
  · simp
  · rw [if_pos rfl, dif_tb, Bool.true_and]
theorem dif_and (a b : Nat) : dif a (a &&& b) = dif a b := by unfold dif; rw [← Nat.and_assoc, Nat.and_self]
theorem cntA_sub (A : Nat → Nat) (F G n : Nat) : cntA (subA A F G) n + cntB A F G n = cntA A n := by
  rw [cntA, cntB, cntA, ← sumN_add]
  refine sumN_congr n (fun w _ => ?_)
  unfold subA
  cases F.testBit w
  · simp
  · rw [if_pos rfl, if_pos rfl, ← dif_and, pc_dif (fun v hv => by rw [Nat.testBit_and, Bool.and_eq_true] at hv; exact hv.1)]
section E4
variable {n : Nat} {A M : Nat → Nat} {T : Nat → Nat → Nat} {P W : Int32} {O Mm Ab st : Nat → Int32} {F G : Nat}
theorem RK_root (hn : n ≤ 10) {s : Nat} (hs : s < n) : RK n (root s) (fun _ => 0) := by
  refine ⟨fun v hv h => ?_, fun v a hv h => ?_⟩
  · rw [← pc_cnt hn, vm_root hs]
    have := pcs (a := 0) (k := s) (by omega) (by omega) (Nat.zero_testBit s)
    rw [Nat.zero_or] at this
    show 0 < _
    omega
  · unfold root at h
    by_cases e : v = s
    · subst e; rw [vu_s] at h; omega
    · rw [vu_n e] at h; omega
theorem takeGood (g : Good n A M T) {T' : Nat → Nat → Nat} {K : Nat → Nat} (hP : ∀ s, s < n → TakeT (subA A F G) n F G s (T s) (T' s) (K s)) : Good n (subA A F G) (fun s => vm n (T' s)) T' := by
  have rs : ∀ s : Nat, root s s = 1 := fun s => vu_s
  have rn : ∀ {s y : Nat}, y ≠ s → root s y = 0 := fun h => vu_n h
  refine good_mk g.1 (fun w hw => ⟨?_, ?_⟩) (fun s hs => ?_) (fun s y hs hy hne => ?_) (fun s x y hs hx hy h1 h2 => ?_) (fun s hs => ?_) ?_
  · refine sub_lt (fun i hi => ?_) (g.2.1 w hw).1
    rw [subA_tb, Bool.and_eq_true] at hi; exact hi.1
  · rw [subA_tb, (g.2.1 w hw).2]; rfl
  · rcases hP s hs with ⟨p1, p2, p3⟩ | ⟨p1, p2⟩
    · rw [p2]; exact g.2.2.2.1 s hs
    · rw [p2.pres s (by rw [rs]; omega), rs]
  · rcases hP s hs with ⟨p1, p2, p3⟩ | ⟨p1, p2⟩
    · rw [p2]
      rcases g.2.2.2.2.1 s y hs hy hne with h0 | ⟨a, a1, a2, a3, a4⟩
      · exact Or.inl h0
      · refine Or.inr ⟨a, a1, a2, ?_, a4⟩
        rw [subA_tb, a3, Bool.true_and]
        cases hb : (F.testBit a && G.testBit y)
        · rfl
        · have : anyF (hit F G (T s)) n 0 = true := (anyF_iff _ _ _).mpr ⟨y, by omega, by omega, by
            rw [hit, a2, Nat.add_sub_cancel, hb]; simp⟩
          rw [p1] at this
          exact absurd this (by decide)
    · by_cases h0 : T' s y = 0
      · exact Or.inl h0
      · exact Or.inr (p2.par hs (by rw [rs]; omega) y (rn hne) h0)
  · rcases hP s hs with ⟨p1, p2, p3⟩ | ⟨p1, p2⟩
    · rw [p2] at h1 ⊢
      rw [subA_tb, Bool.and_eq_true] at h2
      exact g.2.2.2.2.2.1 s x y hs hx hy h1 h2.1
    · by_cases e : x = s
      · subst e; exact p2.clo.1 y (by omega) hy h2
      · exact p2.clo.2 x (rn e) h1 y hy h2
  · rcases hP s hs with ⟨p1, p2, p3⟩ | ⟨p1, p2⟩
    · rw [p2]; exact RK_good g hs
    · exact p2.rank hs (by rw [rs]; omega) _ (RK_root g.1.2 hs)
  · have h1 := cntA_sub A F G n
    have h2 : cntA A n ≤ 40 := g.2.2.2.2.2.2.2
    omega
theorem takeC2 (hn : n ≤ 10) (hF : F < 2 ^ n) {wrk : Int32} : ∀ (c i m : Nat) (O : Nat → Int32), i + c = n → c < m → (∀ w, i ≤ w → w < n → O w = nI (A w)) → ∃ O', f_X3_takeOut_2 1000 (nI F) (nI G) (nI n) wrk Mm Ab m (nI i) O = f_X3_takeOut_38 1000 (nI F) (nI G) (nI n) O' 1000 0 wrk Mm Ab ∧ (∀ w, i ≤ w → w < n → O' w = nI (subA A F G w)) ∧ ∀ w, w < i → O' w = O w := by
  intro c
  induction c with
  | zero =>
    intro i m O h1 h2 h3
    obtain ⟨m, rfl⟩ : ∃ k, m = k + 1 := ⟨m - 1, by omega⟩
    refine ⟨O, ?_, fun w a b => absurd b (by omega), fun _ _ => rfl⟩
    rw [f_X3_takeOut_2, if_pos (nI_le (by omega) (by omega))]
  | succ c ih =>
    intro i m O h1 h2 h3
    obtain ⟨m, rfl⟩ : ∃ k, m = k + 1 := ⟨m - 1, by omega⟩
    have hi : i < n := by omega
    have q2 : xin (nI i) 10 = true := xin_n (by omega) (by omega)
    have eF := hasC (pow10 hn hF) (show i < 10 by omega)
    cases hb : F.testBit i
    · obtain ⟨O', e, f1, f2⟩ := ih (i + 1) m O (by omega) (by omega) (fun w a b => h3 w (by omega) b)
      refine ⟨O', ?_, fun w a b => ?_, fun w a => f2 w (by omega)⟩
      · rw [f_X3_takeOut_2, if_neg (nI_ge hi (by omega)), eF, hb, if_pos (by rfl), nI_1, e]
      · by_cases ew : w = i
        · subst ew; rw [f2 w (by omega), h3 w a b, subA, hb]; rfl
        · exact f1 w (by omega) b
    · obtain ⟨O', e, f1, f2⟩ := ih (i + 1) m (upd O i (nI (dif (A i) G))) (by omega) (by omega) (fun w a b => by rw [pk_un (by omega)]; exact h3 w (by omega) b)
      refine ⟨O', ?_, fun w a b => ?_, fun w a => by rw [f2 w (by omega), pk_un (by omega)]⟩
      · rw [f_X3_takeOut_2, if_neg (nI_ge hi (by omega)), eF, hb, if_neg (by decide), if_pos q2, if_pos q2, nI_clamp (by omega), h3 i (by omega) hi, nx_dif, nI_1, e]
      · by_cases ew : w = i
        · subst ew; rw [f2 w (by omega), pk_us, subA, hb]; rfl
        · exact f1 w (by omega) b
theorem takeM102 (hn : n ≤ 10) (hA : ∀ w, w < n → A w < 2 ^ n) (hF : F < 2 ^ n) {x4 um : Int32} {pst pil nxs : Nat → Int32} : ∀ (c i m : Nat) (st : Nat → Int32), i + c = n → c < m → (∀ w, i ≤ w → w < n → st w = nI (A w)) → ∃ st', f_X7_take_102 1000 (nI F) (nI G) (nI (full n)) x4 (nI n) um pst pil nxs m (nI i) st = f_X7_take_148 1000 (nI F) (nI G) x4 (nI n) um pst 1000 0 st' pil nxs ∧ (∀ w, i ≤ w → w < n → st' w = nI (subA A F G w)) ∧ ∀ w, w < i ∨ n ≤ w → st' w = st w := by
  intro c
  induction c with
  | zero =>
    intro i m st h1 h2 h3
    obtain ⟨m, rfl⟩ : ∃ k, m = k + 1 := ⟨m - 1, by omega⟩
    refine ⟨st, ?_, fun w a b => absurd b (by omega), fun _ _ => rfl⟩
    rw [f_X7_take_102, if_pos (nI_le (by omega) (by omega))]
  | succ c ih =>
    intro i m st h1 h2 h3
    obtain ⟨m, rfl⟩ : ∃ k, m = k + 1 := ⟨m - 1, by omega⟩
    have hi : i < n := by omega
    have q2 : xin (nI i) 111 = true := xin_n (by omega) (by omega)
    have eF := hasM (pow10 hn hF) (show i < 10 by omega)
    obtain ⟨st', e, f1, f2⟩ := ih (i + 1) m (upd st i (nI (subA A F G i))) (by omega) (by omega) (fun w a b => by rw [pk_un (by omega)]; exact h3 w (by omega) b)
    refine ⟨st', ?_, fun w a b => ?_, fun w a => by rw [f2 w (by omega), pk_un (by omega)]⟩
    · rw [f_X7_take_102, if_neg (nI_ge hi (by omega)), ix0, if_pos q2, if_pos q2, if_pos q2, nI_clamp (by omega), eF, h3 i (by omega) hi, nx_dif, nx_and, and_full hn (hA i hi), nI_1, ← e]
      unfold subA
      cases F.testBit i
      · rfl
      · rfl
    · by_cases ew : w = i
      · subst ew; rw [f2 w (by omega), pk_us]
      · exact f1 w (by omega) b
theorem takeM40 (g : Good n A M T) (r : Rep n A M T P W O Mm Ab st) (hF : F < 2 ^ n) (hG : G < 2 ^ n) {x3 x4 um : Int32} {pst pil nxs : Nat → Int32} : ∀ (c i m x : Nat), i + c = n → c < m → f_X7_take_40 1000 (nI F) (nI G) x3 x4 (nI n) um st pst pil nxs m (nI x) (nI i) = (if nI (x + sumF (fun u => if F.testBit u then pc (A u &&& G) else 0) c i) = 0 then some ((-4), um, st, pst, pil, nxs) else (f_X7_note 1000 um st pst).bind fun q6 => f_X7_take_102 1000 (nI F) (nI G) x3 x4 (nI n) q6.1 q6.2 pil nxs 1000 0 st) := by
  have hn := g.1.2
  intro c
  induction c with
  | zero =>
    intro i m x h1 h2
    obtain ⟨m, rfl⟩ : ∃ k, m = k + 1 := ⟨m - 1, by omega⟩
    rw [f_X7_take_40, if_pos (nI_le (by omega) (by omega))]
    rfl
  | succ c ih =>
    intro i m x h1 h2
    obtain ⟨m, rfl⟩ : ∃ k, m = k + 1 := ⟨m - 1, by omega⟩
    have hi : i < n := by omega
    have q2 : xin (nI i) 111 = true := xin_n (by omega) (by omega)
    rw [f_X7_take_40, if_neg (nI_ge hi (by omega)), hasM (pow10 hn hF) (by omega), ix0, if_pos q2, nI_clamp (by omega), (r.2.2.1 i hi).2, nx_and, onesM (and_lt (pow10 hn (g.2.1 i hi).1)), Option.bind_some, Int32.add_zero, nI_add, nI_1, ih (i + 1) m x (by omega) (by omega), ih (i + 1) m _ (by omega) (by omega), sumF]
    cases F.testBit i
    · rw [if_pos (by rfl)]; simp
    · rw [if_neg (by decide)]; simp [Nat.add_assoc]
end E4
