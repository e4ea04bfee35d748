section G2
variable {n : Nat} {A M : Nat → Nat} {T : Nat → Nat → Nat} {P W : Int32} {O Mm Ab st : Nat → Int32}
theorem Rep_st {st' : Nat → Int32} (r : Rep n A M T P W O Mm Ab st) (hn : n ≤ 10) (h : ∀ t, t < 111 → st' t = st t) : Rep n A M T P W O Mm Ab st' := by
  obtain ⟨r1, r2, r3, r4, r5⟩ := r
  refine ⟨r1, by rw [h 110 (by omega)]; exact r2, fun u hu => ?_, r4, fun s v hs hv => ?_⟩
  · rw [h u (by omega)]; exact r3 u hu
  · rw [h _ (by omega)]; exact r5 s v hs hv
theorem pairsG14 (hn : n ≤ 10) (hi : ∀ s v, s < n → v < n → f_X7_isIn (nI s) (nI v) st = some (bI (decide (T s v ≠ 0)))) {s : Nat} (hs : s < n) (k4 : Int32 → Int32 → Option Int32) : ∀ (c i m x : Nat), i + c = n → c < m → f_X7_pairs_14 k4 (nI s) (nI n) st m (nI x) (nI i) = k4 (nI (x + sumF (fun v => if s = v then 0 else if T s v ≠ 0 then 1 else 0) c i)) (nI (s + 1)) := by
  intro c
  induction c with
  | zero =>
    intro i m x h1 h2
    obtain ⟨m, rfl⟩ : ∃ k, m = k + 1 := ⟨m - 1, by omega⟩
    rw [f_X7_pairs_14, if_pos (nI_le (by omega) (by omega)), nI_1]
    rfl
  | succ c ih =>
    intro i m x h1 h2
    obtain ⟨m, rfl⟩ : ∃ k, m = k + 1 := ⟨m - 1, by omega⟩
    have q1 : ¬ nI n ≤ nI i := nI_ge (by omega) (by omega)
    rw [f_X7_pairs_14, if_neg q1]
    by_cases h : s = i
    · rw [if_pos (by rw [h]), Int32.add_zero, nI_1, ih (i + 1) m x (by omega) (by omega)]
      simp [sumF, h]
    · rw [if_neg (fun e => h ((nI_eq (by omega) (by omega)).mp e)), hi s i hs (by omega), Option.bind_some]
      by_cases ht : T s i = 0
      · rw [if_pos (by simp [ht, bI]), Int32.add_zero, nI_1, ih (i + 1) m x (by omega) (by omega)]
        simp [sumF, h, ht]
      · rw [if_neg (by simp [ht, bI]), nI_1, nI_1, ih (i + 1) m (x + 1) (by omega) (by omega)]
        simp [sumF, h, ht, Nat.add_assoc]
theorem pairsG4 (hn : n ≤ 10) (hi : ∀ s v, s < n → v < n → f_X7_isIn (nI s) (nI v) st = some (bI (decide (T s v ≠ 0)))) : ∀ (c i m x : Nat), i + c = n → c < m → f_X7_pairs_4 1000 (nI n) st m (nI x) (nI i) = some (nI (x + sumF (fun s => prs T s n) c i)) := by
  intro c
  induction c with
  | zero =>
    intro i m x h1 h2
    obtain ⟨m, rfl⟩ : ∃ k, m = k + 1 := ⟨m - 1, by omega⟩
    rw [f_X7_pairs_4, if_pos (nI_le (by omega) (by omega))]
    rfl
  | succ c ih =>
    intro i m x h1 h2
    obtain ⟨m, rfl⟩ : ∃ k, m = k + 1 := ⟨m - 1, by omega⟩
    have q1 : ¬ nI n ≤ nI i := nI_ge (by omega) (by omega)
    rw [f_X7_pairs_4, if_neg q1]
    have h := pairsG14 hn hi (show i < n by omega) (fun x1 x2 => f_X7_pairs_4 1000 (nI n) st m x1 x2) n 0 1000 x (by omega) (by omega)
    rw [nI_0] at h
    rw [h, ih (i + 1) m _ (by omega) (by omega), sumF_all]
    simp [sumF, prs, Nat.add_assoc]
theorem pairsG (hn : n ≤ 10) (hi : ∀ s v, s < n → v < n → f_X7_isIn (nI s) (nI v) st = some (bI (decide (T s v ≠ 0)))) : f_X7_pairs 1000 (nI n) st = some (nI (sumN (fun s => prs T s n) n)) := by
  have h := pairsG4 hn hi n 0 1000 0 (by omega) (by omega)
  rw [sumF_all, Nat.zero_add] at h
  exact h
theorem PutT.bd {A' : Nat → Nat} {u v : Nat} {t t' : Nat → Nat} {k : Nat} (h : PutT A' n u v t t' k) (hu : u < n) (hv : v < n) (hb : ∀ y, y < n → t y < n + 2) : ∀ y, y < n → t' y < n + 2 := by
  rcases h with ⟨-, e, -⟩ | ⟨-, -, e, -⟩ | ⟨-, h2, j, d, -⟩
  · rw [e]; exact hb
  · rw [e]; exact hb
  · refine d.bd hv (fun y hy => ?_)
    by_cases e : y = v
    · subst e; rw [vu_s]; omega
    · rw [vu_n e]; exact hb y hy
/-- how many pairs, how much work more -/
def gainP (M : Nat → Nat) (T : Nat → Nat → Nat) (n u v : Nat) : Nat := sumN (fun s => pc (nw M T u v s)) n
def gainW (A M : Nat → Nat) (T : Nat → Nat → Nat) (n u v : Nat) : Nat := sumN (fun s => if T s u = 0 then 0 else 1 + cntB A (nw M T u v s) (full n) n) n
theorem newC (g : Good n A M T) (r : Rep n A M T P W O Mm Ab st) {u v s : Nat} (hu : u < n) (hv : v < n) (hs : s < n) : f_X3_newMembers (nI s) (nI u) (nI v) Mm = some (nI (nw M T u v s)) := by
  have hn := g.1.2
  unfold f_X3_newMembers
  rw [comesToC g r hs hu, Option.bind_some]
  unfold nw
  by_cases h : T s u = 0
  · rw [if_pos h, if_pos (by simp [h, bI])]; rfl
  · rw [if_neg h, if_neg (by simp [h, bI]), if_pos (xin_n (by omega) (by omega)), if_pos (xin_n (by omega) (by omega)), nI_clamp (by omega), nI_clamp (by omega), r.2.2.2.1 v hv, r.2.2.2.1 s hs, nx_dif]
theorem pgC5 (g : Good n A M T) (r : Rep n A M T P W O Mm Ab st) {u v : Nat} (hu : u < n) (hv : v < n) : ∀ (c i m x : Nat), i + c = n → c < m → f_X3_pairsGained_5 (nI u) (nI v) (nI n) Mm m (nI x) (nI i) = some (nI (x + sumF (fun s => pc (nw M T u v s)) c i)) := by
  have hn := g.1.2
  intro c
  induction c with
  | zero =>
    intro i m x h1 h2
    obtain ⟨m, rfl⟩ : ∃ k, m = k + 1 := ⟨m - 1, by omega⟩
    rw [f_X3_pairsGained_5, if_pos (nI_le (by omega) (by omega))]
    rfl
  | succ c ih =>
    intro i m x h1 h2
    obtain ⟨m, rfl⟩ : ∃ k, m = k + 1 := ⟨m - 1, by omega⟩
    rw [f_X3_pairsGained_5, if_neg (nI_ge (by omega) (by omega)), newC g r hu hv (show i < n by omega), Option.bind_some, bcC (pow10 hn (nw_lt g hv)), nI_add, nI_1, ih (i + 1) m _ (by omega) (by omega), sumF, Nat.add_assoc]
theorem pgC (g : Good n A M T) (r : Rep n A M T P W O Mm Ab st) {u v : Nat} (hu : u < n) (hv : v < n) : f_X3_pairsGained 1000 (nI u) (nI v) (nI n) Mm = some (nI (gainP M T n u v)) := by
  have hn := g.1.2
  have h := pgC5 g r hu hv n 0 1000 0 (by omega) (by omega)
  rw [sumF_all, Nat.zero_add] at h
  exact h
theorem wgC5 (g : Good n A M T) (r : Rep n A M T P W O Mm Ab st) {u v : Nat} (hu : u < n) (hv : v < n) : ∀ (c i m x : Nat), i + c = n → c < m → f_X3_workGained_5 1000 (nI u) (nI v) (nI n) O Mm m (nI x) (nI i) = some (nI (x + sumF (fun s => if T s u = 0 then 0 else 1 + cntB A (nw M T u v s) (full n) n) c i)) := by
  have hn := g.1.2
  intro c
  induction c with
  | zero =>
    intro i m x h1 h2
    obtain ⟨m, rfl⟩ : ∃ k, m = k + 1 := ⟨m - 1, by omega⟩
    rw [f_X3_workGained_5, if_pos (nI_le (by omega) (by omega))]
    rfl
  | succ c ih =>
    intro i m x h1 h2
    obtain ⟨m, rfl⟩ : ∃ k, m = k + 1 := ⟨m - 1, by omega⟩
    rw [f_X3_workGained_5, if_neg (nI_ge (by omega) (by omega)), comesToC g r (show i < n by omega) hu, Option.bind_some, sumF]
    by_cases h : T i u = 0
    · rw [if_pos (by simp [h, bI]), nI_1, ih (i + 1) m _ (by omega) (by omega), if_pos h, Nat.zero_add]
    · rw [if_neg (by simp [h, bI]), newC g r hu hv (show i < n by omega), Option.bind_some, allP hn, betwC g r (pow10 hn (nw_lt g hv)) (full_lt hn), Option.bind_some, ← nI_one, nI_add, nI_add, nI_add, ih (i + 1) m _ (by omega) (by omega), if_neg h, Nat.add_assoc]
theorem wgC (g : Good n A M T) (r : Rep n A M T P W O Mm Ab st) {u v : Nat} (hu : u < n) (hv : v < n) : f_X3_workGained 1000 (nI u) (nI v) (nI n) O Mm = some (nI (gainW A M T n u v)) := by
  have hn := g.1.2
  have h := wgC5 g r hu hv n 0 1000 0 (by omega) (by omega)
  rw [sumF_all, Nat.zero_add] at h
  exact h
theorem g82 {x5 : Int32} {pil nxs asd : Nat → Int32} : ∀ (c i m : Nat) (st : Nat → Int32), i + c = 111 → c < m → ∃ Q, f_X7_gainOf_82 x5 pil nxs asd m (nI i) st = some (x5, Q, pil, nxs, asd) ∧ ∀ t, t < 111 → Q t = if i ≤ t then asd t else st t := by
  intro c
  induction c with
  | zero =>
    intro i m st h1 h2
    obtain ⟨m, rfl⟩ : ∃ k, m = k + 1 := ⟨m - 1, by omega⟩
    obtain rfl : i = 111 := by omega
    have q : (111 : Int32) ≤ nI 111 := by decide
    refine ⟨st, by rw [f_X7_gainOf_82, if_pos q], fun t ht => ?_⟩
    rw [if_neg (by omega)]
  | succ c ih =>
    intro i m st h1 h2
    obtain ⟨m, rfl⟩ : ∃ k, m = k + 1 := ⟨m - 1, by omega⟩
    have q1 : ¬ (111 : Int32) ≤ nI i := nI_ge (b := 111) (by omega) (by omega)
    have q2 : xin (nI i) 111 = true := xin_n (by omega) (by omega)
    obtain ⟨Q, e, hQ⟩ := ih (i + 1) m (upd st i (asd i)) (by omega) (by omega)
    refine ⟨Q, ?_, fun t ht => ?_⟩
    · rw [f_X7_gainOf_82, if_neg q1, if_pos q2, if_pos q2, nI_clamp (by omega), nI_1, e]
    · rw [hQ t ht]
      by_cases h : t = i
      · rw [if_neg (by omega), if_pos (by omega), h, pk_us]
      · rw [pk_un h]
        by_cases h3 : i + 1 ≤ t
        · rw [if_pos h3, if_pos (by omega)]
        · rw [if_neg h3, if_neg (by omega)]
theorem g3 {x1 x2 x3 mn : Int32} {st pil nxs : Nat → Int32} : ∀ (c i m : Nat) (asd : Nat → Int32), i + c = 111 → c < m → ∃ Q, f_X7_gainOf_3 1000 x1 x2 x3 mn st pil nxs m (nI i) asd = (if x3 = 0 then (f_X7_pairs 1000 mn st).bind fun q3 => f_X7_gainOf_48 1000 x1 x2 x3 q3 mn st pil nxs Q else f_X7_gainOf_48 1000 x1 x2 x3 (st 110) mn st pil nxs Q) ∧ ∀ t, t < 111 → Q t = if i ≤ t then st t else asd t := by
  intro c
  induction c with
  | zero =>
    intro i m asd h1 h2
    obtain ⟨m, rfl⟩ : ∃ k, m = k + 1 := ⟨m - 1, by omega⟩
    obtain rfl : i = 111 := by omega
    have q : (111 : Int32) ≤ nI 111 := by decide
    refine ⟨asd, by rw [f_X7_gainOf_3, if_pos q, c110], fun t ht => ?_⟩
    rw [if_neg (by omega)]
  | succ c ih =>
    intro i m asd h1 h2
    obtain ⟨m, rfl⟩ : ∃ k, m = k + 1 := ⟨m - 1, by omega⟩
    have q1 : ¬ (111 : Int32) ≤ nI i := nI_ge (b := 111) (by omega) (by omega)
    have q2 : xin (nI i) 111 = true := xin_n (by omega) (by omega)
    obtain ⟨Q, e, hQ⟩ := ih (i + 1) m (upd asd i (st i)) (by omega) (by omega)
    refine ⟨Q, ?_, fun t ht => ?_⟩
    · rw [f_X7_gainOf_3, if_neg q1, if_pos q2, if_pos q2, nI_clamp (by omega), nI_1, e]
    · rw [hQ t ht]
      by_cases h : t = i
      · rw [if_neg (by omega), if_pos (by omega), h, pk_us]
      · rw [pk_un h]
        by_cases h3 : i + 1 ≤ t
        · rw [if_pos h3, if_pos (by omega)]
        · rw [if_neg h3, if_neg (by omega)]
theorem gainM (g : Good n A M T) (r : Rep n A M T P W O Mm Ab st) {u v : Nat} (hu : u < n) (hv : v < n) (huv : u ≠ v) (x3 : Int32) (pil nxs asd : Nat → Int32) : ∃ st' pil' nxs' asd', f_X7_gainOf 1000 (nI u) (nI v) x3 (nI n) st pil nxs asd = some (nI (if x3 = 0 then gainP M T n u v else gainW A M T n u v), st', pil', nxs', asd') ∧ ∀ t, t < 111 → st' t = st t := by
  have hn := g.1.2
  obtain ⟨T', K, Mm', Ab', hP, -, hM⟩ := putBoth g r hu hv
  obtain ⟨st1, pil1, nxs1, e1, r1⟩ := hM pil nxs
  obtain ⟨Q, e2, hQ⟩ := g3 (x1 := nI u) (x2 := nI v) (x3 := x3) (mn := nI n) (st := st) (pil := pil) (nxs := nxs) 111 0 1000 asd (by omega) (by omega)
  rw [nI_0] at e2
  have hbd : ∀ s y, s < n → y < n → T' s y < n + 2 := fun s y hs hy => (hP s hs).bd hu hv (fun y hy => Tsm g hs hy) y hy
  have hisin : ∀ s y, s < n → y < n → f_X7_isIn (nI s) (nI y) st1 = some (bI (decide (T' s y ≠ 0))) := by
    intro s y hs hy
    have h1 := isInR (st := st1) hn hs (t := T' s) (fun y hy => hbd s y hs hy) hy (w := st1 110)
    rw [rowM_id (fun y hy => (r1.2.2.2.2 s y hs hy).2)] at h1
    exact h1
  have ep := pairsG hn hisin
  have ep0 := pairsMv g r
  have es : sumN (fun s => prs T' s n) n = sumN (fun s => prs T s n) n + gainP M T n u v := by
    rw [gainP, ← sumN_add]
    exact sumN_congr n (fun s hs => (hP s hs).prs_nw g hu hv hs)
  have ew : sumN K n = gainW A M T n u v := sumN_congr n (fun s hs => (hP s hs).wk g hu hv huv hs)
  have w1 : st1 110 = st 110 + nI (gainW A M T n u v) := by rw [← r1.2.1, r.2.1, ew]
  by_cases h3 : x3 = 0
  · obtain ⟨Q2, e3, hQ2⟩ := g82 (x5 := nI (gainP M T n u v)) (pil := pil1) (nxs := nxs1) (asd := Q) 111 0 1000 st1 (by omega) (by omega)
    rw [nI_0] at e3
    refine ⟨Q2, pil1, nxs1, Q, ?_, fun t ht => by rw [hQ2 t ht, if_pos (by omega), hQ t ht, if_pos (by omega)]⟩
    unfold f_X7_gainOf
    rw [e2, if_pos h3, ep0, Option.bind_some]
    unfold f_X7_gainOf_48
    rw [e1, Option.bind_some, if_pos h3, ep, Option.bind_some, es, pk_sub (by omega), Nat.add_sub_cancel_left, e3, if_pos h3]
  · obtain ⟨Q2, e3, hQ2⟩ := g82 (x5 := nI (gainW A M T n u v)) (pil := pil1) (nxs := nxs1) (asd := Q) 111 0 1000 st1 (by omega) (by omega)
    rw [nI_0] at e3
    refine ⟨Q2, pil1, nxs1, Q, ?_, fun t ht => by rw [hQ2 t ht, if_pos (by omega), hQ t ht, if_pos (by omega)]⟩
    unfold f_X7_gainOf
    rw [e2, if_neg h3]
    unfold f_X7_gainOf_48
    rw [e1, Option.bind_some, if_neg h3, c110]
    dsimp only
    rw [w1, Int32.add_comm (st 110), Int32.add_sub_cancel, e3, if_neg h3]
theorem gainP_le (g : Good n A M T) (u v : Nat) : gainP M T n u v ≤ 100 := by
  have hn := g.1.2
  have := sumN_b (f := fun s => pc (nw M T u v s)) (b := 10) n (fun s _ => pcn_le _ 10)
  unfold gainP
  omega
theorem be20 (g : Good n A M T) {u : Nat} (hu : u < n) (kC : Int32 → Int32 → Int32 → Option Int32) (kM : Int32 → Int32 → Int32 → (Nat → Int32) → (Nat → Int32) → (Nat → Int32) → (Nat → Int32) → Option (Int32 × (Nat → Int32) × (Nat → Int32) × (Nat → Int32) × (Nat → Int32))) : ∀ (c i m : Nat) (x y : Int32) (st pil nxs asd : Nat → Int32), i + c = n → c < m → -1 ≤ y → Rep n A M T P W O Mm Ab st → ∃ x' y' st' pil' nxs' asd', f_X6_best_20 kC 1000 (nI u) (nI n) O Mm m x y (nI i) = kC x' y' (nI (u + 1)) ∧ f_X7_best_17 kM 1000 (nI u) (nI n) m x y (nI i) st pil nxs asd = kM x' y' (nI (u + 1)) st' pil' nxs' asd' ∧ -1 ≤ y' ∧ ∀ t, t < 111 → st' t = st t := by
  have hn := g.1.2
  intro c
  induction c with
  | zero =>
    intro i m x y st pil nxs asd h1 h2 hy r
    obtain ⟨m, rfl⟩ : ∃ k, m = k + 1 := ⟨m - 1, by omega⟩
    have q : nI n ≤ nI i := nI_le (by omega) (by omega)
    rw [f_X6_best_20, f_X7_best_17, if_pos q, if_pos q, nI_1]
    exact ⟨x, y, st, pil, nxs, asd, rfl, rfl, hy, fun _ _ => rfl⟩
  | succ c ih =>
    intro i m x y st pil nxs asd h1 h2 hy r
    obtain ⟨m, rfl⟩ : ∃ k, m = k + 1 := ⟨m - 1, by omega⟩
    have hi : i < n := by omega
    have q : ¬ nI n ≤ nI i := nI_ge (by omega) (by omega)
    rw [f_X6_best_20, f_X7_best_17, if_neg q, if_neg q]
    by_cases e : u = i
    · subst e
      rw [if_pos rfl, if_pos rfl, if_pos hy]
      unfold f_X7_best_73
      rw [if_pos hy, nI_1]
      exact ih (u + 1) m x y st pil nxs asd (by omega) (by omega) hy r
    · have ne : ¬ nI u = nI i := fun h => e ((nI_eq (by omega) (by omega)).mp h)
      rw [if_neg ne, if_neg ne, hasArcC g r hu hi, isArcM g r hu hi e, Option.bind_some, Option.bind_some]
      cases (A u).testBit i
      · obtain ⟨st1, pil1, nxs1, asd1, e1, hst⟩ := gainM g r hu hi e 0 pil nxs asd
        rw [if_pos rfl] at e1
        have hg := gainP_le g u i
        have hge := nI_ge1 (k := gainP M T n u i) (by omega)
        rw [if_pos (by rfl), if_pos (by rfl), pgC g r hu hi, e1, Option.bind_some, Option.bind_some]
        unfold f_X7_best_73
        by_cases h : nI (gainP M T n u i) ≤ y
        · simp only [h, ↓reduceIte, nI_1]
          obtain ⟨x', y', st', pil', nxs', asd', k1, k2, k3, k4⟩ := ih (i + 1) m x y st1 pil1 nxs1 asd1 (by omega) (by omega) hy (Rep_st r hn hst)
          exact ⟨x', y', st', pil', nxs', asd', k1, k2, k3, fun t ht => by rw [k4 t ht, hst t ht]⟩
        · simp only [h, ↓reduceIte, nI_1]
          obtain ⟨x', y', st', pil', nxs', asd', k1, k2, k3, k4⟩ := ih (i + 1) m (10 * nI u + nI i) (nI (gainP M T n u i)) st1 pil1 nxs1 asd1 (by omega) (by omega) hge (Rep_st r hn hst)
          exact ⟨x', y', st', pil', nxs', asd', k1, k2, k3, fun t ht => by rw [k4 t ht, hst t ht]⟩
      · rw [if_neg (by decide), if_neg (by decide), if_pos hy]
        unfold f_X7_best_73
        rw [if_pos hy, nI_1]
        exact ih (i + 1) m x y st pil nxs asd (by omega) (by omega) hy r
theorem be6 (g : Good n A M T) : ∀ (c i m : Nat) (x y : Int32) (st pil nxs asd : Nat → Int32), i + c = n → c < m → -1 ≤ y → Rep n A M T P W O Mm Ab st → ∃ z st' pil' nxs' asd', f_X6_best_6 1000 (nI n) O Mm m x y (nI i) = some z ∧ f_X7_best_6 1000 (nI n) m x y (nI i) st pil nxs asd = some (z, st', pil', nxs', asd') ∧ ∀ t, t < 111 → st' t = st t := by
  have hn := g.1.2
  intro c
  induction c with
  | zero =>
    intro i m x y st pil nxs asd h1 h2 hy r
    obtain ⟨m, rfl⟩ : ∃ k, m = k + 1 := ⟨m - 1, by omega⟩
    have q : nI n ≤ nI i := nI_le (by omega) (by omega)
    rw [f_X6_best_6, f_X7_best_6, if_pos q, if_pos q]
    exact ⟨_, _, _, _, _, rfl, rfl, fun _ _ => rfl⟩
  | succ c ih =>
    intro i m x y st pil nxs asd h1 h2 hy r
    obtain ⟨m, rfl⟩ : ∃ k, m = k + 1 := ⟨m - 1, by omega⟩
    have q : ¬ nI n ≤ nI i := nI_ge (by omega) (by omega)
    obtain ⟨x', y', st1, pil1, nxs1, asd1, k1, k2, k3, k4⟩ := be20 g (show i < n by omega) (fun x1 x2 x3 => f_X6_best_6 1000 (nI n) O Mm m x1 x2 x3) (fun x1 x2 x3 st pil nxs asd => f_X7_best_6 1000 (nI n) m x1 x2 x3 st pil nxs asd) n 0 1000 x y st pil nxs asd (by omega) (by omega) hy r
    rw [nI_0] at k1 k2
    rw [f_X6_best_6, f_X7_best_6, if_neg q, if_neg q, k1, k2]
    obtain ⟨z, st', pil', nxs', asd', d1, d2, d3⟩ := ih (i + 1) m x' y' st1 pil1 nxs1 asd1 (by omega) (by omega) k3 (Rep_st r hn k4)
    exact ⟨z, st', pil', nxs', asd', d1, d2, fun t ht => by rw [d3 t ht, k4 t ht]⟩
end G2
theorem op_best : Op_best Inv0 := by
  intro kps len txt ncl tso tst ten knd nbs pts wrk out mem abv nxt psz nP nW nO nM nA eP eW eO eM eA usd usi cam cM cS cV cB mn um len2 plc srt frm num wrg cm mpt st pst kep isk pil nxs txt2 cls asd opn byy twc szs sos ths hI
  obtain ⟨n, rfl, hS, hH, hK, hX, hC⟩ := hI
  obtain ⟨A, M, T, g, r⟩ := id hS
  obtain ⟨⟨hn2, hn⟩, -⟩ := id g
  obtain rfl := r.1
  obtain ⟨z, st', pil', nxs', asd', d1, d2, d3⟩ := be6 g n 0 1000 (-1) (-1) st pil nxs asd (by omega) (by omega) (by decide) r
  exact ⟨z, (z, st', pil', nxs', asd'), ⟨1000, d1⟩, ⟨1000, d2⟩, rfl, n, rfl, ⟨A, M, T, g, Rep_st r hn d3⟩, hH, hK, hX, hC⟩
theorem op_gain : Op_gain Inv0 := by
  intro kps len txt ncl tso tst ten knd nbs pts wrk out mem abv nxt psz nP nW nO nM nA eP eW eO eM eA usd usi cam cM cS cV cB mn um len2 plc srt frm num wrg cm mpt st pst kep isk pil nxs txt2 cls asd opn byy twc szs sos ths hI x1 x2 x3
  obtain ⟨n, rfl, hS, hH, hK, hX, hC⟩ := hI
  obtain ⟨A, M, T, g, r⟩ := id hS
  obtain ⟨⟨hn2, hn⟩, -⟩ := id g
  obtain rfl := r.1
  rcases tw0 (by omega) hn x1 x2 with ⟨u, v, hu, hv, huv, rfl, rfl⟩ | ⟨a, b⟩
  · rcases in01 x3 with ⟨e, h⟩ | ⟨e, w, hw, rfl⟩
    · refine ⟨-3, (-3, st, pil, nxs, asd), ⟨1000, ?_⟩, ⟨1000, ?_⟩, rfl, n, rfl, hS, hH, hK, hX, hC⟩
      · unfold f_X6_gain
        rw [twC1 hu hv huv hn, if_neg (by decide)]
        by_cases h0 : x3 < 0
        · rw [if_pos h0]
        · rw [if_neg h0, if_neg]
          intro h1
          have h2 := h.resolve_left h0
          apply h2
          have h3 := Int32.le_iff_toInt_le.mp h1
          rw [Int32.lt_iff_toInt_lt]
          have e1 : (1 : Int32).toInt = 1 := by decide
          have e2 : (2 : Int32).toInt = 2 := by decide
          omega
      · unfold f_X7_gain
        rw [twM1 hu hv huv hn, if_neg (by decide), e, if_pos rfl]
    · have q1 : ¬ nI w < 0 := nI_pos (by omega)
      have q2 : nI w ≤ 1 := nI_le (b := 1) (by omega) (by omega)
      cases hb : (A u).testBit v
      · obtain ⟨st1, pil1, nxs1, asd1, e1, hst⟩ := gainM g r hu hv huv (nI w) pil nxs asd
        refine ⟨nI (if nI w = 0 then gainP M T n u v else gainW A M T n u v), (nI (if nI w = 0 then gainP M T n u v else gainW A M T n u v), st1, pil1, nxs1, asd1), ⟨1000, ?_⟩, ⟨1000, ?_⟩, rfl, n, rfl, ⟨A, M, T, g, Rep_st r hn hst⟩, hH, hK, hX, hC⟩
        · unfold f_X6_gain
          rw [twC1 hu hv huv hn, if_neg (by decide), if_neg q1, if_pos q2, hasArcC g r hu hv, hb, Option.bind_some, if_pos (by rfl), pgC g r hu hv, wgC g r hu hv, Option.bind_some, Option.bind_some]
          by_cases hz : nI w = 0
          · rw [if_pos hz, if_pos hz]
          · rw [if_neg hz, if_neg hz]
        · unfold f_X7_gain
          rw [twM1 hu hv huv hn, if_neg (by decide), e, if_neg (by decide), isArcM g r hu hv huv, hb, Option.bind_some, if_pos (by rfl), e1]
          rfl
      · refine ⟨-4, (-4, st, pil, nxs, asd), ⟨1000, ?_⟩, ⟨1000, ?_⟩, rfl, n, rfl, hS, hH, hK, hX, hC⟩
        · unfold f_X6_gain
          rw [twC1 hu hv huv hn, if_neg (by decide), if_neg q1, if_pos q2, hasArcC g r hu hv, hb, Option.bind_some, if_neg (by decide)]
        · unfold f_X7_gain
          rw [twM1 hu hv huv hn, if_neg (by decide), e, if_neg (by decide), isArcM g r hu hv huv, hb, Option.bind_some, if_neg (by decide)]
  · refine ⟨-2, (-2, st, pil, nxs, asd), ⟨1000, ?_⟩, ⟨1000, ?_⟩, rfl, n, rfl, hS, hH, hK, hX, hC⟩
    · unfold f_X6_gain; rw [a, if_pos rfl]
    · unfold f_X7_gain; rw [b, if_pos rfl]
