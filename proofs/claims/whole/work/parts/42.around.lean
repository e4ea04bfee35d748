/-! ===== sets told bit by bit; around; pairs; rings ===== -/
/-- the set of those below k that p takes -/
def msk (p : Nat → Bool) : Nat → Nat
  | 0 => 0
  | k + 1 => msk p k ||| (if p k then 2 ^ k else 0)
theorem msk_tb (p : Nat → Bool) : ∀ (k i : Nat), (msk p k).testBit i = (decide (i < k) && p i) := by
  intro k
  induction k with
  | zero => intro i; simp [msk]
  | succ k ih =>
    intro i
    rw [msk, Nat.testBit_or, ih i]
    by_cases h : i = k
    · subst h
      cases hp : p i
      · simp
      · simp [Nat.testBit_two_pow_self]
    · by_cases h2 : i < k
      · have h3 : i < k + 1 := by omega
        cases hp : p k
        · simp [h2, h3]
        · simp [h2, h3, Nat.testBit_two_pow_of_ne (show k ≠ i by omega)]
      · have h3 : ¬ i < k + 1 := by omega
        cases hp : p k
        · simp [h2, h3]
        · simp [h2, h3, Nat.testBit_two_pow_of_ne (show k ≠ i by omega)]
theorem msk_lt (p : Nat → Bool) (k : Nat) : msk p k < 2 ^ k := by
  apply Nat.lt_pow_two_of_testBit
  intro i hi
  rw [msk_tb]; simp; omega
theorem eq_tb {n a b : Nat} (ha : a < 2 ^ n) (hb : b < 2 ^ n) (h : ∀ i, i < n → a.testBit i = b.testBit i) : a = b := by
  apply Nat.eq_of_testBit_eq
  intro i
  by_cases hi : i < n
  · exact h i hi
  · rw [Nat.testBit_lt_two_pow (Nat.lt_of_lt_of_le ha (Nat.pow_le_pow_right (by omega) (by omega))), Nat.testBit_lt_two_pow (Nat.lt_of_lt_of_le hb (Nat.pow_le_pow_right (by omega) (by omega)))]
theorem msk_eq {n a : Nat} {p : Nat → Bool} (ha : a < 2 ^ n) (h : ∀ i, i < n → a.testBit i = p i) : msk p n = a :=
  eq_tb (msk_lt p n) ha (fun i hi => by rw [msk_tb, h i hi]; simp [hi])
theorem bitC {k : Nat} (hk : k < 10) : ((1 : Int32) <<< (nI k &&& 31)) = nI (2 ^ k) := by
  have h : (List.range 10).all (fun k => decide (((1 : Int32) <<< (nI k &&& 31)) = nI (2 ^ k))) = true := by decide +kernel
  exact of_decide_eq_true (al2 h k hk)
theorem orC {a k : Nat} (hk : k < 10) : nI a ||| ((1 : Int32) <<< (nI k &&& 31)) = nI (a ||| 2 ^ k) := by rw [bitC hk, nx_or]
theorem or0 (a : Nat) : nI a ||| 0 = nI a := by rw [show (0 : Int32) = nI 0 from rfl, nx_or, Nat.or_zero]
section S4
variable {n : Nat} {A M : Nat → Nat} {T : Nat → Nat → Nat} {P W : Int32} {O Mm Ab st : Nat → Int32}
/-- who comes to v -/
def comers (T : Nat → Nat → Nat) (n v : Nat) : Nat := msk (fun s => decide (T s v ≠ 0)) n
theorem tree_loop (g : Good n A M T) (r : Rep n A M T P W O Mm Ab st) {s : Nat} (hs : s < n) : ∀ (c i m : Nat), i + c = n → c < m → f_X7_treeOf_4 (nI s) (nI n) st m (nI (msk (fun v => decide (T s v ≠ 0)) i)) (nI i) = some (nI (msk (fun v => decide (T s v ≠ 0)) n)) := by
  have hn := g.1.2
  intro c
  induction c with
  | zero =>
    intro i m h1 h2
    obtain ⟨m, rfl⟩ : ∃ k, m = k + 1 := ⟨m - 1, by omega⟩
    obtain rfl : i = n := by omega
    rw [f_X7_treeOf_4, if_pos (nI_le (by omega) (by omega))]
  | succ c ih =>
    intro i m h1 h2
    obtain ⟨m, rfl⟩ : ∃ k, m = k + 1 := ⟨m - 1, by omega⟩
    have q1 : ¬ nI n ≤ nI i := nI_ge (by omega) (by omega)
    rw [f_X7_treeOf_4, if_neg q1, isInM g r hs (by omega), Option.bind_some, ← ih (i + 1) m (by omega) (by omega), msk]
    cases hb : decide (T s i ≠ 0)
    · simp only [bI, Bool.false_eq_true, ↓reduceIte, or0, nI_1, Nat.or_zero]
    · simp only [bI, i10, ↓reduceIte, orC (show i < 10 by omega), nI_1]
theorem treeM (g : Good n A M T) (r : Rep n A M T P W O Mm Ab st) {s : Nat} (hs : s < n) : f_X7_treeOf 1000 (nI s) (nI n) st = some (nI (M s)) := by
  have hn := g.1.2
  have h := tree_loop g r hs n 0 1000 (by omega) (by omega)
  rw [msk_eq (g.2.2.1 s hs).1 (g.2.2.1 s hs).2] at h
  exact h
theorem coming_loop (g : Good n A M T) (r : Rep n A M T P W O Mm Ab st) {v : Nat} (hv : v < n) : ∀ (c i m : Nat), i + c = n → c < m → f_X7_comingTo_4 (nI v) (nI n) st m (nI (comers T i v)) (nI i) = some (nI (comers T n v)) := by
  have hn := g.1.2
  intro c
  induction c with
  | zero =>
    intro i m h1 h2
    obtain ⟨m, rfl⟩ : ∃ k, m = k + 1 := ⟨m - 1, by omega⟩
    obtain rfl : i = n := by omega
    rw [f_X7_comingTo_4, if_pos (nI_le (by omega) (by omega))]
  | succ c ih =>
    intro i m h1 h2
    obtain ⟨m, rfl⟩ : ∃ k, m = k + 1 := ⟨m - 1, by omega⟩
    have q1 : ¬ nI n ≤ nI i := nI_ge (by omega) (by omega)
    rw [f_X7_comingTo_4, if_neg q1, isInM g r (by omega) hv, Option.bind_some, ← ih (i + 1) m (by omega) (by omega)]
    unfold comers
    rw [msk]
    cases hb : decide (T i v ≠ 0)
    · simp only [bI, Bool.false_eq_true, ↓reduceIte, or0, nI_1, Nat.or_zero]
    · simp only [bI, i10, ↓reduceIte, orC (show i < 10 by omega), nI_1]
theorem comingM (g : Good n A M T) (r : Rep n A M T P W O Mm Ab st) {v : Nat} (hv : v < n) : f_X7_comingTo 1000 (nI v) (nI n) st = some (nI (comers T n v)) := by
  have hn := g.1.2
  exact coming_loop g r hv n 0 1000 (by omega) (by omega)
theorem comers_loop (g : Good n A M T) (r : Rep n A M T P W O Mm Ab st) {v : Nat} (hv : v < n) : ∀ (c i m : Nat), i + c = n → c < m → f_X3_comersTo_4 (nI v) (nI n) Mm m (nI (comers T i v)) (nI i) = some (nI (comers T n v)) := by
  have hn := g.1.2
  intro c
  induction c with
  | zero =>
    intro i m h1 h2
    obtain ⟨m, rfl⟩ : ∃ k, m = k + 1 := ⟨m - 1, by omega⟩
    obtain rfl : i = n := by omega
    rw [f_X3_comersTo_4, if_pos (nI_le (by omega) (by omega))]
  | succ c ih =>
    intro i m h1 h2
    obtain ⟨m, rfl⟩ : ∃ k, m = k + 1 := ⟨m - 1, by omega⟩
    have q1 : ¬ nI n ≤ nI i := nI_ge (by omega) (by omega)
    rw [f_X3_comersTo_4, if_neg q1, comesToC g r (by omega) hv, Option.bind_some, ← ih (i + 1) m (by omega) (by omega)]
    unfold comers
    rw [msk]
    cases hb : decide (T i v ≠ 0)
    · simp only [bI, Bool.false_eq_true, ↓reduceIte, nI_1, Nat.or_zero]
    · simp only [bI, i10, ↓reduceIte, orC (show i < 10 by omega), nI_1]
theorem comersC (g : Good n A M T) (r : Rep n A M T P W O Mm Ab st) {v : Nat} (hv : v < n) : f_X3_comersTo 1000 (nI v) (nI n) Mm = some (nI (comers T n v)) := by
  have hn := g.1.2
  exact comers_loop g r hv n 0 1000 (by omega) (by omega)
theorem ringC (g : Good n A M T) (r : Rep n A M T P W O Mm Ab st) {s : Nat} (hs : s < n) : f_X3_ringOf 1000 (nI s) (nI n) Mm = some (nI (M s &&& comers T n s)) := by
  have hn := g.1.2
  unfold f_X3_ringOf
  rw [if_pos (xin_n (by omega) (by omega)), comersC g r hs, Option.bind_some, nI_clamp (by omega), r.2.2.2.1 s hs, nx_and]
theorem ringM (g : Good n A M T) (r : Rep n A M T P W O Mm Ab st) {s : Nat} (hs : s < n) : f_X7_ringOf 1000 (nI s) (nI n) st = some (nI (M s &&& comers T n s)) := by
  unfold f_X7_ringOf
  rw [treeM g r hs, comingM g r hs, Option.bind_some, Option.bind_some, nx_and]
theorem s_around (h : Sim n P W O Mm Ab st) (x1 x2 : Int32) : ∃ r, f_X6_around 1000 x1 x2 P Mm = some r ∧ f_X7_around 1000 x1 x2 (nI n) st = some r := by
  obtain ⟨A, M, T, g, r⟩ := h
  obtain ⟨⟨hn2, hn⟩, -⟩ := id g
  obtain rfl := r.1
  unfold f_X6_around f_X7_around
  rcases pt0 (by omega) hn x1 with ⟨u, hu, rfl⟩ | ⟨a, b⟩
  · have hx := xin_n (show u < 10 by omega) (show 10 < 2 ^ 31 by omega)
    by_cases h0 : x2 = 0
    · subst h0
      have d : ¬ (Int32.toInt 0 < 0 ∨ 2 < Int32.toInt 0) := by decide
      simp only [ptC1 hu hn, ptM1 hu hn, i10, d, ↓reduceIte, hx, nI_clamp (show u < 2 ^ 31 by omega), r.2.2.2.1 u hu, treeM g r hu]
      exact ⟨_, rfl, rfl⟩
    · by_cases h1 : x2 = 1
      · subst h1
        have d : ¬ (Int32.toInt 1 < 0 ∨ 2 < Int32.toInt 1) := by decide
        simp only [ptC1 hu hn, ptM1 hu hn, i10, d, ↓reduceIte, comersC g r hu, comingM g r hu]
        exact ⟨_, rfl, rfl⟩
      · by_cases h2 : x2 = 2
        · subst h2
          have d : ¬ (Int32.toInt 2 < 0 ∨ 2 < Int32.toInt 2) := by decide
          have d0 : ¬ (2 : Int32) = 0 := by decide
          have d1 : ¬ (2 : Int32) = 1 := by decide
          simp only [ptC1 hu hn, ptM1 hu hn, i10, d, d0, d1, ↓reduceIte, ringC g r hu, ringM g r hu]
          exact ⟨_, rfl, rfl⟩
        · have d : x2.toInt < 0 ∨ 2 < x2.toInt := by
            have e0 : x2.toInt ≠ 0 := fun h => h0 (Int32.toInt_inj.mp h)
            have e1 : x2.toInt ≠ 1 := fun h => h1 (Int32.toInt_inj.mp h)
            have e2 : x2.toInt ≠ 2 := fun h => h2 (Int32.toInt_inj.mp h)
            omega
          simp only [ptC1 hu hn, ptM1 hu hn, i10, d, h0, h1, h2, ↓reduceIte]
          exact ⟨_, rfl, rfl⟩
  · simp only [a, b, ↓reduceIte]
    exact ⟨_, rfl, rfl⟩
/-! pairs -/
theorem pcn_sum (a : Nat) : ∀ k, pcn k a = sumN (fun v => if a.testBit v then 1 else 0) k := by
  intro k
  induction k with
  | zero => rfl
  | succ k ih => rw [pcn, sumN, ih]
theorem sumN_up (f : Nat → Nat) {n : Nat} : ∀ c, (∀ v, n ≤ v → f v = 0) → sumN f (n + c) = sumN f n := by
  intro c
  induction c with
  | zero => intro _; rfl
  | succ c ih =>
    intro h
    rw [← Nat.add_assoc, sumN, ih h, h (n + c) (by omega), Nat.add_zero]
theorem pc_sum {n a : Nat} (hn : n ≤ 10) (ha : a < 2 ^ n) : pc a = sumN (fun v => if a.testBit v then 1 else 0) n := by
  rw [pc, pcn_sum, show 10 = n + (10 - n) by omega]
  refine sumN_up _ _ (fun v hv => ?_)
  rw [Nat.testBit_lt_two_pow (Nat.lt_of_lt_of_le ha (Nat.pow_le_pow_right (by omega) hv))]
  rfl
theorem sumN_add (f g : Nat → Nat) : ∀ n, sumN (fun v => f v + g v) n = sumN f n + sumN g n := by
  intro n
  induction n with
  | zero => rfl
  | succ n ih => simp only [sumN, ih]; omega
theorem sumN_one {s : Nat} : ∀ n, s < n → sumN (fun v => if v = s then 1 else 0) n = 1 := by
  intro n
  induction n with
  | zero => intro h; omega
  | succ n ih =>
    intro h
    rw [sumN]
    by_cases e : n = s
    · subst e
      rw [if_pos rfl, show sumN (fun v => if v = n then 1 else 0) n = 0 from ?_]
      have : ∀ k, k ≤ n → sumN (fun v => if v = n then 1 else 0) k = 0 := by
        intro k
        induction k with
        | zero => intro _; rfl
        | succ k ih2 => intro hk; rw [sumN, ih2 (by omega), if_neg (by omega)]
      exact this n (by omega)
    · rw [ih (by omega), if_neg e]
/-- pairs of s -/
def prs (T : Nat → Nat → Nat) (s : Nat) (n : Nat) : Nat := sumN (fun v => if s = v then 0 else if T s v ≠ 0 then 1 else 0) n
theorem prs_pc (g : Good n A M T) {s : Nat} (hs : s < n) : prs T s n + 1 = pc (M s) := by
  have hn := g.1.2
  rw [pc_sum hn (g.2.2.1 s hs).1, show prs T s n + 1 = prs T s n + sumN (fun v => if v = s then 1 else 0) n by rw [sumN_one n hs], prs, ← sumN_add]
  refine sumN_congr n (fun v hv => ?_)
  rw [(g.2.2.1 s hs).2 v hv]
  by_cases h : s = v
  · subst h; rw [g.2.2.2.1 s hs]; simp
  · have h' : ¬ v = s := fun e => h e.symm
    simp [h, h']
theorem pairsC_loop (g : Good n A M T) (r : Rep n A M T P W O Mm Ab st) : ∀ (c i m x : Nat), i + c = n → c < m → f_X3_pairs_4 (nI n) Mm m (nI x) (nI i) = some (nI (x + sumF (fun s => prs T s n) c i)) := by
  have hn := g.1.2
  intro c
  induction c with
  | zero =>
    intro i m x h1 h2
    obtain ⟨m, rfl⟩ : ∃ k, m = k + 1 := ⟨m - 1, by omega⟩
    rw [f_X3_pairs_4, if_pos (nI_le (by omega) (by omega))]
    rfl
  | succ c ih =>
    intro i m x h1 h2
    obtain ⟨m, rfl⟩ : ∃ k, m = k + 1 := ⟨m - 1, by omega⟩
    have q1 : ¬ nI n ≤ nI i := nI_ge (by omega) (by omega)
    have q2 : xin (nI i) 10 = true := xin_n (by omega) (by omega)
    have hM := pow10 hn (g.2.2.1 i (by omega)).1
    rw [f_X3_pairs_4]
    simp only [q1, q2, ↓reduceIte, nI_clamp (show i < 2 ^ 31 by omega), r.2.2.2.1 i (by omega), bcC hM, ← prs_pc g (show i < n by omega), nI_pred, nI_add, nI_1]
    rw [ih (i + 1) m _ (by omega) (by omega)]
    simp [sumF, Nat.add_assoc]
theorem pairs14 (g : Good n A M T) (r : Rep n A M T P W O Mm Ab st) {s : Nat} (hs : s < n) (k4 : Int32 → Int32 → Option Int32) : ∀ (c i m x : Nat), i + c = n → c < m → f_X7_pairs_14 k4 (nI s) (nI n) st m (nI x) (nI i) = k4 (nI (x + sumF (fun v => if s = v then 0 else if T s v ≠ 0 then 1 else 0) c i)) (nI (s + 1)) := by
  have hn := g.1.2
  intro c
  induction c with
  | zero =>
    intro i m x h1 h2
    obtain ⟨m, rfl⟩ : ∃ k, m = k + 1 := ⟨m - 1, by omega⟩
    rw [f_X7_pairs_14, if_pos (nI_le (by omega) (by omega)), nI_1]
    rfl
  | succ c ih =>
    intro i m x h1 h2
    obtain ⟨m, rfl⟩ : ∃ k, m = k + 1 := ⟨m - 1, by omega⟩
    have q1 : ¬ nI n ≤ nI i := nI_ge (by omega) (by omega)
    rw [f_X7_pairs_14, if_neg q1]
    by_cases h : s = i
    · rw [if_pos (by rw [h]), Int32.add_zero, nI_1, ih (i + 1) m x (by omega) (by omega)]
      simp [sumF, h]
    · rw [if_neg (fun e => h ((nI_eq (by omega) (by omega)).mp e)), isInM g r hs (by omega), Option.bind_some]
      by_cases ht : T s i = 0
      · rw [if_pos (by simp [ht, bI]), Int32.add_zero, nI_1, ih (i + 1) m x (by omega) (by omega)]
        simp [sumF, h, ht]
      · rw [if_neg (by simp [ht, bI]), nI_1, nI_1, ih (i + 1) m (x + 1) (by omega) (by omega)]
        simp [sumF, h, ht, Nat.add_assoc]
theorem pairsM_loop (g : Good n A M T) (r : Rep n A M T P W O Mm Ab st) : ∀ (c i m x : Nat), i + c = n → c < m → f_X7_pairs_4 1000 (nI n) st m (nI x) (nI i) = some (nI (x + sumF (fun s => prs T s n) c i)) := by
  have hn := g.1.2
  intro c
  induction c with
  | zero =>
    intro i m x h1 h2
    obtain ⟨m, rfl⟩ : ∃ k, m = k + 1 := ⟨m - 1, by omega⟩
    rw [f_X7_pairs_4, if_pos (nI_le (by omega) (by omega))]
    rfl
  | succ c ih =>
    intro i m x h1 h2
    obtain ⟨m, rfl⟩ : ∃ k, m = k + 1 := ⟨m - 1, by omega⟩
    have q1 : ¬ nI n ≤ nI i := nI_ge (by omega) (by omega)
    rw [f_X7_pairs_4, if_neg q1]
    have h := pairs14 g r (show i < n by omega) (fun x1 x2 => f_X7_pairs_4 1000 (nI n) st m x1 x2) n 0 1000 x (by omega) (by omega)
    rw [nI_0] at h
    rw [h, ih (i + 1) m _ (by omega) (by omega)]
    have := sumF_N (fun v => if i = v then 0 else if T i v ≠ 0 then 1 else 0) n 0
    simp only [sumN, Nat.zero_add] at this
    rw [this]
    simp [sumF, prs, Nat.add_assoc]
theorem s_pairs (h : Sim n P W O Mm Ab st) : ∃ r, f_X3_pairs 1000 P Mm = some r ∧ f_X7_pairs 1000 (nI n) st = some r := by
  obtain ⟨A, M, T, g, r⟩ := h
  have hn := g.1.2
  obtain rfl := r.1
  have h1 := pairsC_loop g r n 0 1000 0 (by omega) (by omega)
  have h2 := pairsM_loop g r n 0 1000 0 (by omega) (by omega)
  exact ⟨_, h1, h2⟩
/-! rings -/
set_option maxRecDepth 100000 in
theorem low0 : (List.range 1024).all (fun a => (List.range 10).all (fun k => !a.testBit k || decide ((f_X6_lowest (nI a) = nI k) ↔ (nI a &&& (((1 : Int32) <<< (nI k &&& 31)) - 1) = 0)))) = true := by decide +kernel
theorem low1 {a k : Nat} (ha : a < 1024) (hk : k < 10) (h : a.testBit k = true) : (f_X6_lowest (nI a) = nI k) ↔ (nI a &&& (((1 : Int32) <<< (nI k &&& 31)) - 1) = 0) := by
  have := al2 (al2 low0 a ha) k hk
  rw [h, Bool.not_true, Bool.false_or] at this
  exact of_decide_eq_true this
theorem rings_loop (g : Good n A M T) (r : Rep n A M T P W O Mm Ab st) : ∀ (c i m : Nat) (x : Int32), i + c = n → c < m → ∃ y, f_X3_rings_4 1000 (nI n) Mm m x (nI i) = some y ∧ f_X7_rings_4 1000 (nI n) st m x (nI i) = some y := by
  have hn := g.1.2
  intro c
  induction c with
  | zero =>
    intro i m x h1 h2
    obtain ⟨m, rfl⟩ : ∃ k, m = k + 1 := ⟨m - 1, by omega⟩
    rw [f_X3_rings_4, f_X7_rings_4, if_pos (nI_le (by omega) (by omega)), if_pos (nI_le (by omega) (by omega))]
    exact ⟨_, rfl, rfl⟩
  | succ c ih =>
    intro i m x h1 h2
    obtain ⟨m, rfl⟩ : ∃ k, m = k + 1 := ⟨m - 1, by omega⟩
    have q1 : ¬ nI n ≤ nI i := nI_ge (by omega) (by omega)
    have hM := pow10 hn (g.2.2.1 i (by omega)).1
    have hb : (M i &&& comers T n i).testBit i = true := by
      rw [Nat.testBit_and, (g.2.2.1 i (by omega)).2 i (by omega), comers, msk_tb, g.2.2.2.1 i (by omega)]
      simp; omega
    have hl := low1 (and_lt hM) (show i < 10 by omega) hb
    rw [f_X3_rings_4, f_X7_rings_4, if_neg q1, if_neg q1, ringC g r (by omega), ringM g r (by omega), Option.bind_some, Option.bind_some, Int32.add_zero, nI_1]
    by_cases h : f_X6_lowest (nI (M i &&& comers T n i)) = nI i
    · rw [if_pos h, if_pos (hl.mp h)]
      exact ih (i + 1) m _ (by omega) (by omega)
    · rw [if_neg h, if_neg (fun e => h (hl.mpr e))]
      exact ih (i + 1) m _ (by omega) (by omega)
theorem s_rings (h : Sim n P W O Mm Ab st) : ∃ r, f_X3_rings 1000 P Mm = some r ∧ f_X7_rings 1000 (nI n) st = some r := by
  obtain ⟨A, M, T, g, r⟩ := h
  have hn := g.1.2
  obtain rfl := r.1
  exact rings_loop g r n 0 1000 0 (by omega) (by omega)
end S4
theorem op_around : Op_around Inv0 := by
  intro kps len txt ncl tso tst ten knd nbs pts wrk out mem abv nxt psz nP nW nO nM nA eP eW eO eM eA usd usi cam cM cS cV cB mn um len2 plc srt frm num wrg cm mpt st pst kep isk pil nxs txt2 cls asd opn byy twc szs sos ths hI x1 x2
  obtain ⟨n, rfl, hS, hH, hK, hX, hC⟩ := hI
  obtain ⟨r, h1, h2⟩ := s_around hS x1 x2
  exact ⟨r, r, ⟨1000, h1⟩, ⟨1000, h2⟩, rfl, n, rfl, hS, hH, hK, hX, hC⟩
