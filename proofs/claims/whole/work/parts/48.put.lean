/-! ===== an arc put in ===== -/
/-- what becomes of a tree t when the arc from u to v is put in; A with that arc; k: how much is looked at -/
def PutT (A : Nat → Nat) (n u v : Nat) (t t' : Nat → Nat) (k : Nat) : Prop :=
  (t u = 0 ∧ t' = t ∧ k = 0) ∨ (t u ≠ 0 ∧ t v ≠ 0 ∧ t' = t ∧ k = 1) ∨ (t u ≠ 0 ∧ t v = 0 ∧ ∃ j, Dfs A n v 0 (va_up t v (u + 2)) t' j ∧ k = 1 + j)
theorem putT_ex (A : Nat → Nat) (n u v : Nat) (t : Nat → Nat) : ∃ t' k, PutT A n u v t t' k := by
  by_cases h1 : t u = 0
  · exact ⟨t, 0, Or.inl ⟨h1, rfl, rfl⟩⟩
  · by_cases h2 : t v = 0
    · obtain ⟨t', j, h⟩ := dfs_ex (A := A) (n := n) (zc n (va_up t v (u + 2))) n v 0 (va_up t v (u + 2)) (by omega) (Nat.le_refl _)
      exact ⟨t', 1 + j, Or.inr (Or.inr ⟨h1, h2, j, h, rfl⟩)⟩
    · exact ⟨t, 1, Or.inr (Or.inl ⟨h1, h2, rfl, rfl⟩)⟩
section D4
variable {n s : Nat} {t : Nat → Nat} {Ab st : Nat → Int32}
theorem upd_id {f : Nat → Int32} {s : Nat} {x : Int32} (h : f s = x) : upd f s x = f := by
  funext j
  by_cases e : j = s
  · subst e; rw [pk_us, h]
  · rw [pk_un e]
theorem rowC_id (h : ∀ v, v < n → Ab (10 * s + v) = abC (t v)) : rowC n s t Ab = Ab := by
  funext j
  unfold rowC
  by_cases e : 10 * s ≤ j ∧ j < 10 * s + n
  · rw [if_pos e, ← h (j - 10 * s) (by omega), show 10 * s + (j - 10 * s) = j by omega]
  · rw [if_neg e]
theorem rowC_ne {x v : Nat} (hn : n ≤ 10) (hv : v < n) (h : x ≠ s) : rowC n s t Ab (10 * x + v) = Ab (10 * x + v) := by
  rw [rowC, if_neg (by omega)]
theorem rowM_id (h : ∀ v, v < n → st (10 + 10 * s + v) = nI (t v)) : rowM n s t (st 110) st = st := by
  funext j
  unfold rowM
  by_cases e0 : j = 110
  · rw [if_pos e0, e0]
  · rw [if_neg e0]
    by_cases e : 10 + 10 * s ≤ j ∧ j < 10 + 10 * s + n
    · rw [if_pos e, ← h (j - (10 + 10 * s)) (by omega), show 10 + 10 * s + (j - (10 + 10 * s)) = j by omega]
    · rw [if_neg e]
theorem rowM_ne {x v : Nat} {w : Int32} (hn : n ≤ 10) (hx : x < 10) (hv : v < n) (h : x ≠ s) : rowM n s t w st (10 + 10 * x + v) = st (10 + 10 * x + v) := by
  rw [rowM, if_neg (by omega), if_neg (by omega)]
end D4
section D5
variable {n : Nat} {A : Nat → Nat} {u v : Nat} {T T' : Nat → Nat → Nat} {K : Nat → Nat}
theorem putC14 {O : Nat → Int32} (hn : n ≤ 10) (hA : ∀ u, u < n → A u < 2 ^ n) (hO : ∀ u, u < n → O u = nI (A u)) (hu : u < n) (hv : v < n) (hP : ∀ s, s < n → PutT A n u v (T s) (T' s) (K s)) : ∀ (c i m : Nat) (wrk : Int32) (Mm Ab : Nat → Int32), i + c = n → c < m → (∀ s, i ≤ s → s < n → Mm s = nI (vm n (T s)) ∧ ∀ y, y < n → Ab (10 * s + y) = abC (T s y)) → ∃ Mm' Ab', f_X3_putIn_14 1000 (nI u) (nI v) (nI n) O m (nI i) wrk Mm Ab = some (wrk + nI (sumF K c i), O, Mm', Ab') ∧ (∀ s, i ≤ s → s < n → Mm' s = nI (vm n (T' s)) ∧ ∀ y, y < n → Ab' (10 * s + y) = abC (T' s y)) ∧ ∀ s, s < i → Mm' s = Mm s ∧ ∀ y, y < n → Ab' (10 * s + y) = Ab (10 * s + y) := by
  intro c
  induction c with
  | zero =>
    intro i m wrk Mm Ab h1 h2 h3
    obtain ⟨m, rfl⟩ : ∃ k, m = k + 1 := ⟨m - 1, by omega⟩
    refine ⟨Mm, Ab, ?_, fun s a b => absurd b (by omega), fun s _ => ⟨rfl, fun _ _ => rfl⟩⟩
    rw [f_X3_putIn_14, if_pos (nI_le (by omega) (by omega)), sumF, nI_0, Int32.add_zero]
  | succ c ih =>
    intro i m wrk Mm Ab h1 h2 h3
    obtain ⟨m, rfl⟩ : ∃ k, m = k + 1 := ⟨m - 1, by omega⟩
    have hi : i < n := by omega
    obtain ⟨m1, a1⟩ := h3 i (by omega) hi
    have comes : ∀ y, y < n → f_X3_comesTo (nI i) (nI y) Mm = some (bI (decide (T i y ≠ 0))) := by
      intro y hy
      unfold f_X3_comesTo
      rw [if_pos (xin_n (by omega) (by omega)), nI_clamp (by omega), m1, hasC (pow10 hn vm_lt) (by omega), vm_tb hy]
    have q1 : ¬ nI n ≤ nI i := nI_ge (by omega) (by omega)
    have go : ∀ (Mm1 Ab1 : Nat → Int32) (w1 : Int32), (Mm1 i = nI (vm n (T' i)) ∧ ∀ y, y < n → Ab1 (10 * i + y) = abC (T' i y)) → (∀ s, s ≠ i → s < n → Mm1 s = Mm s ∧ ∀ y, y < n → Ab1 (10 * s + y) = Ab (10 * s + y)) → w1 = wrk + nI (K i) → ∃ Mm' Ab', f_X3_putIn_14 1000 (nI u) (nI v) (nI n) O m (nI i + 1) w1 Mm1 Ab1 = some (wrk + nI (sumF K (c + 1) i), O, Mm', Ab') ∧ (∀ s, i ≤ s → s < n → Mm' s = nI (vm n (T' s)) ∧ ∀ y, y < n → Ab' (10 * s + y) = abC (T' s y)) ∧ ∀ s, s < i → Mm' s = Mm s ∧ ∀ y, y < n → Ab' (10 * s + y) = Ab (10 * s + y) := by
      intro Mm1 Ab1 w1 e1 e2 e3
      subst e3
      obtain ⟨Mm', Ab', e, f1, f2⟩ := ih (i + 1) m (wrk + nI (K i)) Mm1 Ab1 (by omega) (by omega) (fun s a b => by
        obtain ⟨d1, d2⟩ := e2 s (by omega) b
        obtain ⟨d3, d4⟩ := h3 s (by omega) b
        exact ⟨by rw [d1, d3], fun y hy => by rw [d2 y hy, d4 y hy]⟩)
      refine ⟨Mm', Ab', ?_, fun s a b => ?_, fun s a => ?_⟩
      · rw [nI_1, e, sumF, Int32.add_assoc, nI_add]
      · by_cases es : s = i
        · subst es
          obtain ⟨d1, d2⟩ := f2 s (by omega)
          exact ⟨by rw [d1]; exact e1.1, fun y hy => by rw [d2 y hy]; exact e1.2 y hy⟩
        · exact f1 s (by omega) b
      · obtain ⟨d1, d2⟩ := f2 s (by omega)
        obtain ⟨d3, d4⟩ := e2 s (by omega) (by omega)
        exact ⟨by rw [d1, d3], fun y hy => by rw [d2 y hy, d4 y hy]⟩
    rcases hP i hi with ⟨p1, p2, p3⟩ | ⟨p1, p2, p3, p4⟩ | ⟨p1, p2, j, p3, p4⟩
    · obtain ⟨Mm', Ab', e, f⟩ := go Mm Ab wrk ⟨by rw [p2, m1], fun y hy => by rw [p2, a1 y hy]⟩ (fun s _ _ => ⟨rfl, fun _ _ => rfl⟩) (by rw [p3, nI_0, Int32.add_zero])
      refine ⟨Mm', Ab', ?_, f⟩
      rw [f_X3_putIn_14, if_neg q1, comes u hu, Option.bind_some, if_pos (by simp [p1, bI])]
      exact e
    · obtain ⟨Mm', Ab', e, f⟩ := go Mm Ab (wrk + 1) ⟨by rw [p3, m1], fun y hy => by rw [p3, a1 y hy]⟩ (fun s _ _ => ⟨rfl, fun _ _ => rfl⟩) (by rw [p4]; rfl)
      refine ⟨Mm', Ab', ?_, f⟩
      rw [f_X3_putIn_14, if_neg q1, comes u hu, Option.bind_some, if_neg (by simp [p1, bI]), comes v hv, Option.bind_some, if_neg (by simp [p2, bI])]
      exact e
    · have hz := zc_up hv p2 (show u + 2 ≠ 0 by omega)
      have hz2 := zc_cnt n (T i)
      have k1 := goC (Mm := Mm) (Ab := Ab) hn hA hO hi p3 hv (by omega) 11 1 1000 (wrk + 1) (by omega) (by omega) (by omega)
      rw [nI_0] at k1
      have q2 : xin (nI i) 10 = true := xin_n (by omega) (by omega)
      have q4 : xin (nI (10 * i + v)) 100 = true := xin_n (by omega) (by omega)
      have q3 : nI 1 ≤ 10 := by decide
      have ea : rowC n i (T i) Ab = Ab := rowC_id a1
      have eb : upd Ab (10 * i + v) (nI u) = rowC n i (va_up (T i) v (u + 2)) Ab := by
        rw [← abC2 u, ← rowC_up hv, ea]
      have hg : f_gr 1000 (11 + 1) (nI i) (nI v) (nI u) (nI 1) (nI n) (wrk + 1) O Mm Ab = some (wrk + 1 + nI j, upd Mm i (nI (vm n (T' i))), rowC n i (T' i) Ab) := by
        rw [f_gr]
        unfold f_X3_graft
        rw [if_pos q3, if_pos q2, if_pos q2, ixC, if_pos q4, nI_clamp (by omega), nI_clamp (by omega), m1, orC (show v < 10 by omega), vm_up hv (show u + 2 ≠ 0 by omega), eb]
        unfold f_X3_followArcs
        dsimp only
        rw [k1]
        rfl
      have hg' : f_gr 1000 12 (nI i) (nI v) (nI u) 1 (nI n) (wrk + 1) O Mm Ab = some (wrk + 1 + nI j, upd Mm i (nI (vm n (T' i))), rowC n i (T' i) Ab) := hg
      obtain ⟨Mm', Ab', e, f⟩ := go (upd Mm i (nI (vm n (T' i)))) (rowC n i (T' i) Ab) (wrk + 1 + nI j) ⟨pk_us, fun y hy => rowC_at hy⟩ (fun s a b => ⟨pk_un a, fun y hy => rowC_ne hn hy a⟩) (by rw [p4, Int32.add_assoc, ← nI_one, nI_add])
      refine ⟨Mm', Ab', ?_, f⟩
      rw [f_X3_putIn_14, if_neg q1, comes u hu, Option.bind_some, if_neg (by simp [p1, bI]), comes v hv, Option.bind_some, if_pos (by simp [p2, bI]), hg', Option.bind_some]
      exact e
theorem putM16 (hn : n ≤ 10) (hA : ∀ u, u < n → A u < 2 ^ n) (hu : u < n) (hv : v < n) (hb : ∀ s y, s < n → y < n → T s y < n + 2) (hP : ∀ s, s < n → PutT A n u v (T s) (T' s) (K s)) : ∀ (c i m : Nat) (st pil nxs : Nat → Int32), i + c = n → c < m → (∀ w, w < n → st w = nI (A w)) → (∀ s y, i ≤ s → s < n → y < n → st (10 + 10 * s + y) = nI (T s y)) → ∃ st' pil' nxs', f_X7_putIn_16 1000 (nI u) (nI v) (nI n) m (nI i) st pil nxs = some (st', pil', nxs') ∧ st' 110 = st 110 + nI (sumF K c i) ∧ (∀ w, w < n → st' w = nI (A w)) ∧ (∀ s y, i ≤ s → s < n → y < n → st' (10 + 10 * s + y) = nI (T' s y)) ∧ ∀ s y, s < i → y < n → st' (10 + 10 * s + y) = st (10 + 10 * s + y) := by
  intro c
  induction c with
  | zero =>
    intro i m st pil nxs h1 h2 hO h3
    obtain ⟨m, rfl⟩ : ∃ k, m = k + 1 := ⟨m - 1, by omega⟩
    refine ⟨st, pil, nxs, ?_, ?_, hO, fun s y a b => absurd b (by omega), fun s y _ _ => rfl⟩
    · rw [f_X7_putIn_16, if_pos (nI_le (by omega) (by omega))]
    · rw [sumF, nI_0, Int32.add_zero]
  | succ c ih =>
    intro i m st pil nxs h1 h2 hO h3
    obtain ⟨m, rfl⟩ : ∃ k, m = k + 1 := ⟨m - 1, by omega⟩
    have hi : i < n := by omega
    have q1 : ¬ nI n ≤ nI i := nI_ge (by omega) (by omega)
    have er : rowM n i (T i) (st 110) st = st := rowM_id (fun y hy => h3 i y (by omega) hi hy)
    have isin : ∀ (w : Int32) y, y < n → f_X7_isIn (nI i) (nI y) (rowM n i (T i) w st) = some (bI (decide (T i y ≠ 0))) := fun w y hy => isInR hn hi (fun y hy => hb i y hi hy) hy
    have go : ∀ (w1 : Int32) (pil nxs : Nat → Int32), w1 = st 110 + nI (K i) → ∃ st' pil' nxs', f_X7_putIn_16 1000 (nI u) (nI v) (nI n) m (nI i + 1) (rowM n i (T' i) w1 st) pil nxs = some (st', pil', nxs') ∧ st' 110 = st 110 + nI (sumF K (c + 1) i) ∧ (∀ w, w < n → st' w = nI (A w)) ∧ (∀ s y, i ≤ s → s < n → y < n → st' (10 + 10 * s + y) = nI (T' s y)) ∧ ∀ s y, s < i → y < n → st' (10 + 10 * s + y) = st (10 + 10 * s + y) := by
      intro w1 pil nxs ew
      obtain ⟨st', pil', nxs', e, f1, f2, f3, f4⟩ := ih (i + 1) m (rowM n i (T' i) w1 st) pil nxs (by omega) (by omega) (fun w hw => by rw [rowM_o (by omega), hO w hw]) (fun s y a b d => by rw [rowM_ne hn (by omega) d (by omega), h3 s y (by omega) b d])
      refine ⟨st', pil', nxs', by rw [nI_1, e], ?_, f2, fun s y a b d => ?_, fun s y a b => ?_⟩
      · rw [f1, rowM_w, ew, Int32.add_assoc, nI_add]; rfl
      · by_cases es : s = i
        · subst es; rw [f4 s y (by omega) d, rowM_at (by omega) hn d]
        · exact f3 s y (by omega) b d
      · rw [f4 s y (by omega) b, rowM_ne hn (by omega) b (by omega)]
    rcases hP i hi with ⟨p1, p2, p3⟩ | ⟨p1, p2, p3, p4⟩ | ⟨p1, p2, j, p3, p4⟩
    · obtain ⟨st', pil', nxs', e, f⟩ := go (st 110) pil nxs (by rw [p3, nI_0, Int32.add_zero])
      refine ⟨st', pil', nxs', ?_, f⟩
      rw [p2] at e
      have key : f_X7_putIn_16 1000 (nI u) (nI v) (nI n) (m + 1) (nI i) (rowM n i (T i) (st 110) st) pil nxs = some (st', pil', nxs') := by
        rw [f_X7_putIn_16, if_neg q1, isin _ u hu, Option.bind_some, if_pos (by simp [p1, bI])]
        exact e
      rw [er] at key
      exact key
    · obtain ⟨st', pil', nxs', e, f⟩ := go (st 110 + 1) pil nxs (by rw [p4]; rfl)
      refine ⟨st', pil', nxs', ?_, f⟩
      rw [p3] at e
      have key : f_X7_putIn_16 1000 (nI u) (nI v) (nI n) (m + 1) (nI i) (rowM n i (T i) (st 110) st) pil nxs = some (st', pil', nxs') := by
        rw [f_X7_putIn_16, if_neg q1, isin _ u hu, Option.bind_some, if_neg (by simp [p1, bI]), c110, rowM_w, rowM_w2, isin _ v hv, Option.bind_some, if_neg (by simp [p2, bI])]
        exact e
      rw [er] at key
      exact key
    · have hbd : ∀ y, y < n → va_up (T i) v (u + 2) y < n + 2 := by
        intro y hy
        by_cases e : y = v
        · subst e; rw [vu_s]; omega
        · rw [vu_n e]; exact hb i y hi hy
      obtain ⟨pil1, nxs1, eg⟩ := goOnM (st := st) hn hA hO hi p3 hv hbd (st 110 + 1) pil nxs
      have q4 : xin (nI (10 + 10 * i + v)) 111 = true := xin_n (by omega) (by omega)
      obtain ⟨st', pil', nxs', e, f⟩ := go (st 110 + 1 + nI j) pil1 nxs1 (by rw [p4, Int32.add_assoc, ← nI_one, nI_add])
      refine ⟨st', pil', nxs', ?_, f⟩
      have key : f_X7_putIn_16 1000 (nI u) (nI v) (nI n) (m + 1) (nI i) (rowM n i (T i) (st 110) st) pil nxs = some (st', pil', nxs') := by
        rw [f_X7_putIn_16, if_neg q1, isin _ u hu, Option.bind_some, if_neg (by simp [p1, bI]), c110, rowM_w, rowM_w2, isin _ v hv, Option.bind_some, if_pos (by simp [p2, bI]), ixM, if_pos q4, nI_clamp (by omega), show nI u + 2 = nI (u + 2) from nI_add u 2, rowM_up (by omega) hn hv, eg, Option.bind_some]
        exact e
      rw [er] at key
      exact key
end D5
