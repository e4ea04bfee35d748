/-! ===== way; fold ===== -/
theorem nIm1 {a : Nat} (ha : a < 1000) : ¬ nI a = -1 := by
  intro h
  have := congrArg Int32.toInt h
  rw [nI_toInt (by omega), show (-1 : Int32).toInt = -1 from by decide] at this
  omega
/-- up the tree of s from v -/
def upT (T : Nat → Nat → Nat) (s v : Nat) : Nat → Nat
  | 0 => v
  | k + 1 => T s (upT T s v k) - 2
theorem upT_sh (T : Nat → Nat → Nat) (s v : Nat) : ∀ k, upT T s v (k + 1) = upT T s (T s v - 2) k := by
  intro k
  induction k with
  | zero => rfl
  | succ k ih => rw [upT, ih, upT]
theorem pcn_le (a : Nat) : ∀ k, pcn k a ≤ k := by
  intro k
  induction k with
  | zero => exact Nat.le_refl 0
  | succ k ih => rw [pcn]; split <;> omega
section S5
variable {n : Nat} {A M : Nat → Nat} {T : Nat → Nat → Nat} {P W : Int32} {O Mm Ab st : Nat → Int32}
theorem up_ex (g : Good n A M T) {s v : Nat} (hs : s < n) (hv : v < n) (ht : T s v ≠ 0) : ∃ d, d ≤ 9 ∧ upT T s v d = s ∧ ∀ i, i < d → upT T s v i < n ∧ upT T s v i ≠ s ∧ T s (upT T s v i) = upT T s v (i + 1) + 2 := by
  obtain ⟨r, r1, r2⟩ := g.2.2.2.2.2.2.1 s hs
  have key : ∀ k v, v < n → T s v ≠ 0 → r v = k → ∃ d, d ≤ k ∧ upT T s v d = s ∧ ∀ i, i < d → upT T s v i < n ∧ upT T s v i ≠ s ∧ T s (upT T s v i) = upT T s v (i + 1) + 2 := by
    intro k
    induction k with
    | zero =>
      intro v hv ht hr
      by_cases h : v = s
      · exact ⟨0, by omega, h, fun i hi => absurd hi (by omega)⟩
      · rcases g.2.2.2.2.1 s v hs hv h with h0 | ⟨a, ha, h1, h2, h3⟩
        · exact absurd h0 ht
        · have := r2 v a hv h1
          omega
    | succ k ih =>
      intro v hv ht hr
      by_cases h : v = s
      · exact ⟨0, by omega, h, fun i hi => absurd hi (by omega)⟩
      · rcases g.2.2.2.2.1 s v hs hv h with h0 | ⟨a, ha, h1, h2, h3⟩
        · exact absurd h0 ht
        · have hra := r2 v a hv h1
          obtain ⟨d, hd, e1, e2⟩ := ih a ha h3 (by omega)
          have ea : T s v - 2 = a := by omega
          refine ⟨d + 1, by omega, ?_, fun i hi => ?_⟩
          · rw [upT_sh, ea]; exact e1
          · cases i with
            | zero => exact ⟨hv, h, by show T s v = T s v - 2 + 2; omega⟩
            | succ i => rw [upT_sh, upT_sh T s v (i + 1), ea]; exact e2 i (by omega)
  have hr := r1 v hv ht
  have hp : pc (M s) ≤ 10 := pcn_le _ _
  obtain ⟨d, hd, e⟩ := key (r v) v hv ht rfl
  exact ⟨d, by omega, e⟩
theorem depth_loop (g : Good n A M T) (r : Rep n A M T P W O Mm Ab st) {s v d : Nat} (hs : s < n) (hd : d ≤ 9) (e1 : upT T s v d = s) (e2 : ∀ i, i < d → upT T s v i < n ∧ upT T s v i ≠ s ∧ T s (upT T s v i) = upT T s v (i + 1) + 2) : ∀ (c i m : Nat), i + c = d → c < m → f_X3_depthOf_5 (nI s) Ab m (nI i) (nI (upT T s v i)) = some (nI d) := by
  have hn := g.1.2
  intro c
  induction c with
  | zero =>
    intro i m h1 h2
    obtain ⟨m, rfl⟩ : ∃ k, m = k + 1 := ⟨m - 1, by omega⟩
    obtain rfl : i = d := by omega
    rw [f_X3_depthOf_5, if_pos (by rw [e1])]
  | succ c ih =>
    intro i m h1 h2
    obtain ⟨m, rfl⟩ : ∃ k, m = k + 1 := ⟨m - 1, by omega⟩
    obtain ⟨a1, a2, a3⟩ := e2 i (by omega)
    rw [f_X3_depthOf_5, if_neg (fun h => a2 ((nI_eq (by omega) (by omega)).mp h)), if_neg (nIm1 (by omega)), if_neg (show ¬ (10 : Int32) ≤ nI i from nI_ge (b := 10) (by omega) (by omega)), aboveOfC g r hs a1, Option.bind_some, a3, abC, if_neg (by omega), Nat.add_sub_cancel, nI_1]
    exact ih (i + 1) m (by omega) (by omega)
theorem way43 (g : Good n A M T) (r : Rep n A M T P W O Mm Ab st) {s v d : Nat} {x2 x3 : Int32} (hs : s < n) (hd : d ≤ 9) (e1 : upT T s v d = s) (e2 : ∀ i, i < d → upT T s v i < n ∧ upT T s v i ≠ s ∧ T s (upT T s v i) = upT T s v (i + 1) + 2) : ∀ (c i m : Nat), i + c = d → c < m → f_X7_way_43 1000 (nI s) x2 x3 st m (nI i) (nI (upT T s v i)) = if x3 ≤ nI d then f_X7_way_79 (nI s) x3 st 1000 x2 (nI d) else some (-1) := by
  have hn := g.1.2
  intro c
  induction c with
  | zero =>
    intro i m h1 h2
    obtain ⟨m, rfl⟩ : ∃ k, m = k + 1 := ⟨m - 1, by omega⟩
    obtain rfl : i = d := by omega
    rw [f_X7_way_43, if_pos (by rw [e1])]
  | succ c ih =>
    intro i m h1 h2
    obtain ⟨m, rfl⟩ : ∃ k, m = k + 1 := ⟨m - 1, by omega⟩
    obtain ⟨a1, a2, a3⟩ := e2 i (by omega)
    rw [f_X7_way_43, if_neg (fun h => a2 ((nI_eq (by omega) (by omega)).mp h)), aboveOfM g r hs a1, Option.bind_some, a3, abC, if_neg (by omega), Nat.add_sub_cancel, nI_1]
    exact ih (i + 1) m (by omega) (by omega)
theorem climb_loop (g : Good n A M T) (r : Rep n A M T P W O Mm Ab st) {s v d k : Nat} (hs : s < n) (hd : d ≤ 9) (hk : k ≤ d) (e2 : ∀ i, i < d → upT T s v i < n ∧ upT T s v i ≠ s ∧ T s (upT T s v i) = upT T s v (i + 1) + 2) : ∀ (c i m : Nat), i + c = k → c < m → f_X3_climb_6 (nI s) (nI k) Ab m (nI (upT T s v i)) (nI i) = some (nI (upT T s v k)) := by
  have hn := g.1.2
  intro c
  induction c with
  | zero =>
    intro i m h1 h2
    obtain ⟨m, rfl⟩ : ∃ k, m = k + 1 := ⟨m - 1, by omega⟩
    obtain rfl : i = k := by omega
    rw [f_X3_climb_6, if_pos (nI_le (by omega) (by omega))]
  | succ c ih =>
    intro i m h1 h2
    obtain ⟨m, rfl⟩ : ∃ k, m = k + 1 := ⟨m - 1, by omega⟩
    obtain ⟨a1, a2, a3⟩ := e2 i (by omega)
    rw [f_X3_climb_6, if_neg (nI_ge (by omega) (by omega)), if_neg (nIm1 (by omega)), aboveOfC g r hs a1, Option.bind_some, a3, abC, if_neg (by omega), Nat.add_sub_cancel, nI_1]
    exact ih (i + 1) m (by omega) (by omega)
theorem way79 (g : Good n A M T) (r : Rep n A M T P W O Mm Ab st) {s v d j : Nat} (hs : s < n) (hd : d ≤ 9) (hj : j ≤ d) (e2 : ∀ i, i < d → upT T s v i < n ∧ upT T s v i ≠ s ∧ T s (upT T s v i) = upT T s v (i + 1) + 2) : ∀ (c i m : Nat), i + c = d - j → c < m → f_X7_way_79 (nI s) (nI j) st m (nI (upT T s v i)) (nI (d - i)) = some (nI (upT T s v (d - j))) := by
  have hn := g.1.2
  intro c
  induction c with
  | zero =>
    intro i m h1 h2
    obtain ⟨m, rfl⟩ : ∃ k, m = k + 1 := ⟨m - 1, by omega⟩
    obtain rfl : i = d - j := by omega
    rw [f_X7_way_79, if_pos (nI_le (by omega) (by omega))]
  | succ c ih =>
    intro i m h1 h2
    obtain ⟨m, rfl⟩ : ∃ k, m = k + 1 := ⟨m - 1, by omega⟩
    obtain ⟨a1, a2, a3⟩ := e2 i (by omega)
    rw [f_X7_way_79, if_neg (nI_ge (by omega) (by omega)), aboveOfM g r hs a1, Option.bind_some, a3, abC, if_neg (by omega), Nat.add_sub_cancel, show d - i = (d - (i + 1)) + 1 by omega, pk_m1]
    exact ih (i + 1) m (by omega) (by omega)
theorem s_way (h : Sim n P W O Mm Ab st) (x1 x2 x3 : Int32) : ∃ r, f_X6_way 1000 x1 x2 x3 P Mm Ab = some r ∧ f_X7_way 1000 x1 x2 x3 (nI n) st = some r := by
  obtain ⟨A, M, T, g, r⟩ := h
  obtain ⟨⟨hn2, hn⟩, -⟩ := id g
  obtain rfl := r.1
  unfold f_X6_way f_X7_way
  rcases pt0 (by omega) hn x1 with ⟨s, hs, rfl⟩ | ⟨a, b⟩
  · rcases pt0 (by omega) hn x2 with ⟨v, hv, rfl⟩ | ⟨a, b⟩
    · by_cases h3 : 0 ≤ x3
      · by_cases ht : T s v = 0
        · simp only [ptC1 hs hn, ptM1 hs hn, ptC1 hv hn, ptM1 hv hn, i10, h3, ↓reduceIte, comesToC g r hs hv, isInM g r hs hv, Option.bind_some, ht]
          exact ⟨_, rfl, rfl⟩
        · obtain ⟨d, hd, e1, e2⟩ := up_ex g hs hv ht
          have k1 := depth_loop g r hs hd e1 e2 d 0 1000 (by omega) (by omega)
          have k2 := way43 g r (x2 := nI v) (x3 := x3) hs hd e1 e2 d 0 1000 (by omega) (by omega)
          rw [nI_0] at k1 k2
          have hb : bI (decide (T s v ≠ 0)) = 1 := by simp [ht, bI]
          have k1' : f_X3_depthOf 1000 (nI s) (nI v) Ab = some (nI d) := k1
          have k2' : f_X7_way_43 1000 (nI s) (nI v) x3 st 1000 0 (nI v) = _ := k2
          simp only [ptC1 hs hn, ptM1 hs hn, ptC1 hv hn, ptM1 hv hn, i10, h3, ↓reduceIte, comesToC g r hs hv, isInM g r hs hv, Option.bind_some, hb, k1', k2']
          by_cases h4 : x3 ≤ nI d
          · obtain ⟨j, hj, rfl⟩ : ∃ j, j ≤ d ∧ x3 = nI j := nI_of2 (M := nI d) (nI_toInt (by omega)) (fun h => by
              have a1 := Int32.lt_iff_toInt_lt.mp h
              have a2 := Int32.le_iff_toInt_le.mp h3
              omega) h4
            have k3 := climb_loop g r (k := d - j) hs hd (by omega) e2 (d - j) 0 1000 (by omega) (by omega)
            have k4 := way79 g r hs hd hj e2 (d - j) 0 1000 (by omega) (by omega)
            rw [nI_0] at k3
            have k3' : f_X3_climb 1000 (nI s) (nI v) (nI (d - j)) Ab = some (nI (upT T s v (d - j))) := k3
            have k4' : f_X7_way_79 (nI s) (nI j) st 1000 (nI v) (nI d) = some (nI (upT T s v (d - j))) := k4
            simp only [h4, ↓reduceIte, pk_sub hj, k3', k4', Option.bind_some]
            exact ⟨_, rfl, rfl⟩
          · simp only [h4, ↓reduceIte]
            exact ⟨_, rfl, rfl⟩
      · simp only [ptC1 hs hn, ptM1 hs hn, ptC1 hv hn, ptM1 hv hn, i10, h3, ↓reduceIte]
        exact ⟨_, rfl, rfl⟩
    · simp only [ptC1 hs hn, ptM1 hs hn, a, b, i10, ↓reduceIte]
      exact ⟨_, rfl, rfl⟩
  · simp only [a, b, ↓reduceIte]
    exact ⟨_, rfl, rfl⟩
/-! fold -/
/-- what one pair does to the value -/
def fstep (x1 x : Int32) (u v : Nat) (b : Bool) : Int32 :=
  if x1 = 3 then (if b then (2 * x + 1) - ((2 * x + 1) / 1000) * 1000 else (2 * x) - ((2 * x) / 1000) * 1000)
  else if b then (if x1 = 0 then x + 1 else if x1 = 1 then (x + nI u) + nI v else if (10 * nI u + nI v) ≤ x then x else 10 * nI u + nI v) else x
theorem foldPairC (g : Good n A M T) (r : Rep n A M T P W O Mm Ab st) {u v : Nat} (hu : u < n) (hv : v < n) (x1 x : Int32) : f_X6_foldPair x1 x (nI u) (nI v) Mm = some (fstep x1 x u v (decide (T u v ≠ 0))) := by
  unfold f_X6_foldPair fstep
  rw [comesToC g r hu hv, Option.bind_some]
  by_cases h3 : x1 = 3
  · rw [if_pos h3, if_pos h3]
    cases decide (T u v ≠ 0)
    · rw [if_pos (by rfl), Int32.add_zero]; rfl
    · rw [if_neg (by decide)]; rfl
  · rw [if_neg h3, if_neg h3]
    cases decide (T u v ≠ 0)
    · rw [if_pos (by rfl)]; rfl
    · rw [if_neg (by decide), if_pos rfl]
      by_cases h0 : x1 = 0
      · rw [if_pos h0, if_pos h0]
      · rw [if_neg h0, if_neg h0]
        by_cases h1 : x1 = 1
        · rw [if_pos h1, if_pos h1]
        · rw [if_neg h1, if_neg h1]
          unfold f_X6_tell
          by_cases h5 : 10 * nI u + nI v ≤ x
          · rw [if_neg (Int32.not_lt.mpr h5), if_pos h5]
          · rw [if_pos (Int32.not_le.mp h5), if_neg h5]
theorem fold147 (k : Int32 → Int32 → Option Int32) (x1 x x4 t0 : Int32) (u v : Nat) (b : Bool) (h : fstep x1 x u v true = t0) : f_X7_fold_147 k x1 x x4 (bI b) t0 = k (fstep x1 x u v b) (x4 + 1) := by
  unfold f_X7_fold_147
  cases b
  · rw [if_pos (by rfl)]
    unfold fstep
    by_cases h3 : x1 = 3
    · rw [if_pos h3, if_pos h3]; rfl
    · rw [if_neg h3, if_neg h3]; rfl
  · rw [if_neg (by decide), h]
theorem fold_step (g : Good n A M T) (r : Rep n A M T P W O Mm Ab st) {u v : Nat} (hu : u < n) (hv : v < n) (x1 x : Int32) (hx : x1 ≠ 0 → x1 ≠ 1 → x1 ≠ 2 → x1 = 3) (m : Nat) : f_X7_fold_32 x1 (nI n) st (m + 1) x (nI (n * u + v)) = f_X7_fold_32 x1 (nI n) st m (if u = v then x else fstep x1 x u v (decide (T u v ≠ 0))) (nI (n * u + v + 1)) := by
  have hn := g.1.2
  have hnn : n * u + v < n * n := by
    have h1 : n * u + n ≤ n * n := by
      have := Nat.mul_le_mul_left n (show u + 1 ≤ n by omega)
      rw [Nat.mul_add, Nat.mul_one] at this
      exact this
    omega
  have h100 : n * n ≤ 100 := Nat.mul_le_mul hn hn
  have e1 : (n * u + v) / n = u := by rw [Nat.mul_add_div (by omega), Nat.div_eq_of_lt hv, Nat.add_zero]
  have e2 : (n * u + v) % n = v := by rw [Nat.mul_add_mod, Nat.mod_eq_of_lt hv]
  have q1 : nI (n * u + v) / nI n = nI u := by rw [pk_div (by omega) (by omega) (by omega), e1]
  have q2 : nI (n * u + v) - nI u * nI n = nI v := by
    have := pk_rem (a := n * u + v) (d := n) (by omega) (by omega) (by omega)
    rw [q1, e2] at this
    exact this
  have q3 : (!decide (nI n = 0)) = true := by
    rw [decide_eq_false (nI_ne0 (by omega) (by omega))]; rfl
  rw [f_X7_fold_32, pk_mul, if_neg (nI_ge hnn (by omega)), if_pos q3, if_pos q3, q1, q2, isInM g r hu hv, Option.bind_some]
  by_cases h : u = v
  · rw [if_pos (by rw [h]), if_pos h, nI_1]
  · rw [if_neg (fun e => h ((nI_eq (by omega) (by omega)).mp e)), if_neg h, ← nI_1]
    by_cases h0 : x1 = 0
    · rw [if_pos h0, fold147 _ x1 x _ _ u v _ (by subst h0; rfl)]
    · rw [if_neg h0]
      by_cases h1 : x1 = 1
      · rw [if_pos h1, fold147 _ x1 x _ _ u v _ (by subst h1; rfl)]
      · rw [if_neg h1]
        by_cases h2 : x1 = 2
        · rw [if_pos h2]
          by_cases h5 : 10 * nI u + nI v ≤ x
          · rw [if_pos h5, fold147 _ x1 x _ _ u v _ (by subst h2; unfold fstep; rw [if_neg (by decide), if_pos rfl, if_neg (by decide), if_neg (by decide), if_pos h5])]
          · rw [if_neg h5, fold147 _ x1 x _ _ u v _ (by subst h2; unfold fstep; rw [if_neg (by decide), if_pos rfl, if_neg (by decide), if_neg (by decide), if_neg h5])]
        · have h3 := hx h0 h1 h2
          rw [if_neg h2, fold147 _ x1 x _ _ u v _ (by subst h3; rfl)]
theorem fold_row (g : Good n A M T) (r : Rep n A M T P W O Mm Ab st) {u : Nat} (hu : u < n) (x1 : Int32) (hx : x1 ≠ 0 → x1 ≠ 1 → x1 ≠ 2 → x1 = 3) (k28 : Int32 → Int32 → Option Int32) (m2 : Nat) : ∀ (c j m : Nat) (x : Int32), j + c = n → c < m → ∃ X, f_X6_fold_43 k28 x1 (nI u) (nI n) Mm m x (nI j) = k28 X (nI (u + 1)) ∧ f_X7_fold_32 x1 (nI n) st (m2 + c) x (nI (n * u + j)) = f_X7_fold_32 x1 (nI n) st m2 X (nI (n * (u + 1))) := by
  have hn := g.1.2
  intro c
  induction c with
  | zero =>
    intro j m x h1 h2
    obtain ⟨m, rfl⟩ : ∃ k, m = k + 1 := ⟨m - 1, by omega⟩
    obtain rfl : j = n := by omega
    refine ⟨x, ?_, ?_⟩
    · rw [f_X6_fold_43, if_pos (nI_le (by omega) (by omega)), nI_1]
    · rw [Nat.add_zero, Nat.mul_add, Nat.mul_one]
  | succ c ih =>
    intro j m x h1 h2
    obtain ⟨m, rfl⟩ : ∃ k, m = k + 1 := ⟨m - 1, by omega⟩
    obtain ⟨X, k1, k2⟩ := ih (j + 1) m (if u = j then x else fstep x1 x u j (decide (T u j ≠ 0))) (by omega) (by omega)
    refine ⟨X, ?_, ?_⟩
    · rw [f_X6_fold_43, if_neg (nI_ge (by omega) (by omega)), ← k1]
      by_cases h : u = j
      · rw [if_pos (by rw [h]), if_pos h, nI_1]
      · rw [if_neg (fun e => h ((nI_eq (by omega) (by omega)).mp e)), if_neg h, foldPairC g r hu (by omega), Option.bind_some, nI_1]
    · rw [← Nat.add_assoc, fold_step g r hu (by omega) x1 x hx, ← k2, Nat.add_assoc]
theorem fold_rows (g : Good n A M T) (r : Rep n A M T P W O Mm Ab st) (x1 : Int32) (hx : x1 ≠ 0 → x1 ≠ 1 → x1 ≠ 2 → x1 = 3) (m2 : Nat) : ∀ (c u m : Nat) (x : Int32), u + c = n → c < m → ∃ y, f_X6_fold_28 1000 x1 (nI n) Mm m x (nI u) = some y ∧ f_X7_fold_32 x1 (nI n) st (m2 + 1 + n * c) x (nI (n * u)) = some y := by
  have hn := g.1.2
  intro c
  induction c with
  | zero =>
    intro u m x h1 h2
    obtain ⟨m, rfl⟩ : ∃ k, m = k + 1 := ⟨m - 1, by omega⟩
    obtain rfl : u = n := by omega
    have h100 : u * u ≤ 100 := Nat.mul_le_mul hn hn
    refine ⟨x, ?_, ?_⟩
    · rw [f_X6_fold_28, if_pos (nI_le (by omega) (by omega))]
    · rw [Nat.mul_zero, Nat.add_zero, f_X7_fold_32, pk_mul, if_pos (nI_le (by omega) (by omega))]
  | succ c ih =>
    intro u m x h1 h2
    obtain ⟨m, rfl⟩ : ∃ k, m = k + 1 := ⟨m - 1, by omega⟩
    obtain ⟨X, k1, k2⟩ := fold_row g r (show u < n by omega) x1 hx (fun x3 x4 => f_X6_fold_28 1000 x1 (nI n) Mm m x3 x4) (m2 + 1 + n * c) n 0 1000 x (by omega) (by omega)
    rw [nI_0] at k1
    obtain ⟨y, l1, l2⟩ := ih (u + 1) m X (by omega) (by omega)
    refine ⟨y, ?_, ?_⟩
    · rw [f_X6_fold_28, if_neg (nI_ge (by omega) (by omega)), k1]
      exact l1
    · rw [Nat.mul_add, Nat.mul_one, ← Nat.add_assoc]
      exact Eq.trans k2 l2
theorem s_fold (h : Sim n P W O Mm Ab st) (x1 x2 : Int32) : ∃ r, f_X6_fold 1000 x1 x2 P Mm = some r ∧ f_X7_fold 1000 x1 x2 (nI n) st = some r := by
  obtain ⟨A, M, T, g, r⟩ := h
  obtain ⟨⟨hn2, hn⟩, -⟩ := id g
  obtain rfl := r.1
  have T3 : (3 : Int32).toInt = 3 := by decide
  have T999 : (1000 : Int32).toInt = 1000 := by decide
  have L3 : (3 : Int64).toInt = 3 := by decide
  have L999 : (999 : Int64).toInt = 999 := by decide
  have L0 : (0 : Int64).toInt = 0 := by decide
  have T0 : (0 : Int32).toInt = 0 := by decide
  unfold f_X6_fold f_X7_fold
  by_cases a1 : x1 < 0
  · have b1 := Int32.lt_iff_toInt_lt.mp a1
    rw [if_pos a1, if_pos (inM0 (by rw [Int32.toInt_toInt64]; omega))]
    exact ⟨_, rfl, rfl⟩
  · have b1 : ¬ x1.toInt < 0 := fun e => a1 (Int32.lt_iff_toInt_lt.mpr e)
    rw [if_neg a1]
    by_cases a2 : 3 < x1
    · have b2 := Int32.lt_iff_toInt_lt.mp a2
      rw [if_pos a2, if_pos (inM0 (by rw [Int32.toInt_toInt64]; omega))]
      exact ⟨_, rfl, rfl⟩
    · have b2 : ¬ 3 < x1.toInt := fun e => a2 (Int32.lt_iff_toInt_lt.mpr (by rw [T3]; exact e))
      have hx : x1 ≠ 0 → x1 ≠ 1 → x1 ≠ 2 → x1 = 3 := by
        intro h0 h1 h2
        have e0 : x1.toInt ≠ 0 := fun h => h0 (Int32.toInt_inj.mp h)
        have e1 : x1.toInt ≠ 1 := fun h => h1 (Int32.toInt_inj.mp h)
        have e2 : x1.toInt ≠ 2 := fun h => h2 (Int32.toInt_inj.mp h)
        exact Int32.toInt_inj.mp (by rw [T3]; omega)
      have i1 : f_X7_in x1.toInt64 0 3 = 1 := inM1 (by rw [Int32.toInt_toInt64]; omega) (by rw [Int32.toInt_toInt64]; omega)
      rw [if_neg a2, i1, if_neg (show ¬ (1 : Int32) = 0 by decide)]
      by_cases a3 : x2 < 0
      · have b3 := Int32.lt_iff_toInt_lt.mp a3
        rw [if_pos a3, if_pos (inM0 (by rw [Int32.toInt_toInt64]; omega))]
        exact ⟨_, rfl, rfl⟩
      · have b3 : ¬ x2.toInt < 0 := fun e => a3 (Int32.lt_iff_toInt_lt.mpr e)
        rw [if_neg a3]
        by_cases a4 : x2 < 1000
        · have b4 := Int32.lt_iff_toInt_lt.mp a4
          have i2 : f_X7_in x2.toInt64 0 999 = 1 := inM1 (by rw [Int32.toInt_toInt64]; omega) (by rw [Int32.toInt_toInt64]; omega)
          rw [if_pos a4, i2, if_neg (show ¬ (1 : Int32) = 0 by decide)]
          have h100 : n * n ≤ 100 := Nat.mul_le_mul hn hn
          have k := fold_rows g r x1 hx (999 - n * n) n 0 1000 x2 (by omega) (by omega)
          rw [show 999 - n * n + 1 + n * n = 1000 by omega, Nat.mul_zero, nI_0] at k
          exact k
        · have b4 : ¬ x2.toInt < 1000 := fun e => a4 (Int32.lt_iff_toInt_lt.mpr (by rw [T999]; exact e))
          rw [if_neg a4, if_pos (inM0 (by rw [Int32.toInt_toInt64]; omega))]
          exact ⟨_, rfl, rfl⟩
end S5
theorem op_way : Op_way Inv0 := by
  intro kps len txt ncl tso tst ten knd nbs pts wrk out mem abv nxt psz nP nW nO nM nA eP eW eO eM eA usd usi cam cM cS cV cB mn um len2 plc srt frm num wrg cm mpt st pst kep isk pil nxs txt2 cls asd opn byy twc szs sos ths hI x1 x2 x3
  obtain ⟨n, rfl, hS, hH, hK, hX, hC⟩ := hI
  obtain ⟨r, h1, h2⟩ := s_way hS x1 x2 x3
  exact ⟨r, r, ⟨1000, h1⟩, ⟨1000, h2⟩, rfl, n, rfl, hS, hH, hK, hX, hC⟩
theorem op_fold : Op_fold Inv0 := by
  intro kps len txt ncl tso tst ten knd nbs pts wrk out mem abv nxt psz nP nW nO nM nA eP eW eO eM eA usd usi cam cM cS cV cB mn um len2 plc srt frm num wrg cm mpt st pst kep isk pil nxs txt2 cls asd opn byy twc szs sos ths hI x1 x2
  obtain ⟨n, rfl, hS, hH, hK, hX, hC⟩ := hI
  obtain ⟨r, h1, h2⟩ := s_fold hS x1 x2
  exact ⟨r, r, ⟨1000, h1⟩, ⟨1000, h2⟩, rfl, n, rfl, hS, hH, hK, hX, hC⟩
