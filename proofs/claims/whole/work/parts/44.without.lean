/-! ===== what can be come to by given arcs: closures ===== -/
/-- what is in a and not in b -/
def dif (a b : Nat) : Nat := a ^^^ (a &&& b)
theorem dif_tb (a b i : Nat) : (dif a b).testBit i = (a.testBit i && !b.testBit i) := by
  rw [dif, Nat.testBit_xor, Nat.testBit_and]
  cases a.testBit i <;> cases b.testBit i <;> rfl
theorem nx_dif (a b : Nat) : nI a &&& (nI b ^^^ (-1)) = nI (dif a b) := by
  apply Int32.toBitVec_inj.1
  show BitVec.ofNat 32 a &&& (BitVec.ofNat 32 b ^^^ BitVec.allOnes 32) = BitVec.ofNat 32 (dif a b)
  apply BitVec.eq_of_getLsbD_eq
  intro i hi
  simp only [BitVec.getLsbD_and, BitVec.getLsbD_xor, BitVec.getLsbD_allOnes, BitVec.getLsbD_ofNat, dif_tb]
  simp [hi]
theorem sub_lt {a b n : Nat} (h : ∀ i, a.testBit i = true → b.testBit i = true) (hb : b < 2 ^ n) : a < 2 ^ n := by
  apply Nat.lt_pow_two_of_testBit
  intro i hi
  have hb2 : b.testBit i = false := Nat.testBit_lt_two_pow (Nat.lt_of_lt_of_le hb (Nat.pow_le_pow_right (by omega) hi))
  cases ha : a.testBit i
  · rfl
  · rw [h i ha] at hb2; exact hb2
theorem dif_lt {a b n : Nat} (ha : a < 2 ^ n) : dif a b < 2 ^ n := sub_lt (fun i h => by rw [dif_tb, Bool.and_eq_true] at h; exact h.1) ha
theorem or_lt {a b n : Nat} (ha : a < 2 ^ n) (hb : b < 2 ^ n) : a ||| b < 2 ^ n := Nat.or_lt_two_pow ha hb
theorem tb_n {a n v : Nat} (ha : a < 2 ^ n) (h : a.testBit v = true) : v < n := by
  by_cases hv : v < n
  · exact hv
  · rw [Nat.testBit_lt_two_pow (Nat.lt_of_lt_of_le ha (Nat.pow_le_pow_right (by omega) (by omega)))] at h
    exact absurd h (by decide)
theorem tb2 (k v : Nat) : (2 ^ k).testBit v = decide (v = k) := by
  by_cases h : v = k
  · subst h; rw [Nat.testBit_two_pow_self]; simp
  · rw [Nat.testBit_two_pow_of_ne (fun e => h e.symm)]; simp [h]
theorem two_lt {k n : Nat} (h : k < n) : 2 ^ k < 2 ^ n := Nat.pow_lt_pow_right (by omega) h
set_option maxRecDepth 100000 in
theorem lowx0 : (List.range 1024).all (fun a => decide (a = 0) || (List.range 10).any (fun k => a.testBit k && decide (f_X6_lowest (nI a) = nI k))) = true := by decide +kernel
theorem lowx {a : Nat} (ha : a < 1024) (h0 : a ≠ 0) : ∃ k, k < 10 ∧ a.testBit k = true ∧ f_X6_lowest (nI a) = nI k := by
  have h := al2 lowx0 a ha
  rw [decide_eq_false h0, Bool.false_or] at h
  obtain ⟨k, hk, h2⟩ := List.any_eq_true.mp h
  rw [Bool.and_eq_true] at h2
  exact ⟨k, List.mem_range.mp hk, h2.1, of_decide_eq_true h2.2⟩
set_option maxRecDepth 100000 in
theorem pcs0 : (List.range 1024).all (fun a => (List.range 10).all (fun k => a.testBit k || decide (pc (a ||| 2 ^ k) = pc a + 1))) = true := by decide +kernel
theorem pcs {a k : Nat} (ha : a < 1024) (hk : k < 10) (h : a.testBit k = false) : pc (a ||| 2 ^ k) = pc a + 1 := by
  have := al2 (al2 pcs0 a ha) k hk
  rw [h, Bool.false_or] at this
  exact of_decide_eq_true this
set_option maxRecDepth 100000 in
theorem pc100 : (List.range 1024).all (fun a => decide (pc a ≠ 10) || decide (a = 1023)) = true := by decide +kernel
theorem pc10 {a k : Nat} (ha : a < 1024) (h : pc a = 10) (hk : k < 10) : a.testBit k = true := by
  have := al2 pc100 a ha
  rw [h] at this
  have e : a = 1023 := by simpa using this
  subst e
  have h : (List.range 10).all (fun k => (1023).testBit k) = true := by decide +kernel
  exact al2 h k hk
theorem pcn_mono {X Y : Nat} (h : ∀ v, X.testBit v = true → Y.testBit v = true) : ∀ k, pcn k X ≤ pcn k Y ∧ ∀ v, v < k → X.testBit v = false → Y.testBit v = true → pcn k X < pcn k Y := by
  intro k
  induction k with
  | zero => exact ⟨Nat.le_refl _, fun v hv => absurd hv (by omega)⟩
  | succ k ih =>
    have hs : (if X.testBit k = true then 1 else 0) ≤ (if Y.testBit k = true then 1 else 0) := by
      cases hx : X.testBit k
      · simp
      · simp [h k hx]
    refine ⟨by simp only [pcn]; omega, fun v hv h1 h2 => ?_⟩
    simp only [pcn]
    by_cases e : v = k
    · subst e
      simp only [h1, h2, ↓reduceIte, Bool.false_eq_true]
      omega
    · have := ih.2 v (by omega) h1 h2
      omega
theorem pc_strict {X Y n : Nat} (hn : n ≤ 10) (hX : X < 2 ^ n) (hY : Y < 2 ^ n) (h : ∀ v, X.testBit v = true → Y.testBit v = true) (hne : X ≠ Y) : pc X < pc Y := by
  apply Classical.byContradiction
  intro hc
  refine hne (eq_tb hX hY (fun i hi => ?_))
  cases hx : X.testBit i
  · cases hy : Y.testBit i
    · rfl
    · exact absurd ((pcn_mono h 10).2 i (by omega) hx hy) hc
  · rw [h i hx]
/-- X: all that can be come to from s by the arcs B -/
def Clos (n : Nat) (B : Nat → Nat) (s X : Nat) : Prop :=
  X < 2 ^ n ∧ X.testBit s = true ∧ (∀ u v, X.testBit u = true → (B u).testBit v = true → X.testBit v = true) ∧
  ∀ Q : Nat → Prop, Q s → (∀ u v, X.testBit u = true → Q u → (B u).testBit v = true → Q v) → ∀ v, X.testBit v = true → Q v
theorem Clos_eq {n : Nat} {B : Nat → Nat} {s X Y : Nat} (h1 : Clos n B s X) (h2 : Clos n B s Y) : X = Y := by
  refine eq_tb h1.1 h2.1 (fun i hi => ?_)
  have a1 : X.testBit i = true → Y.testBit i = true := h1.2.2.2 (fun v => Y.testBit v = true) h2.2.1 (fun u v _ hu hv => h2.2.2.1 u v hu hv) i
  have a2 : Y.testBit i = true → X.testBit i = true := h2.2.2.2 (fun v => X.testBit v = true) h1.2.1 (fun u v _ hu hv => h1.2.2.1 u v hu hv) i
  cases hx : X.testBit i
  · cases hy : Y.testBit i
    · rfl
    · rw [a2 hy] at hx; exact absurd hx (by decide)
  · rw [a1 hx]
/-- the arcs without the one from a to b -/
def cutA (A : Nat → Nat) (a b u : Nat) : Nat := if u = a then dif (A u) (2 ^ b) else A u
section S6
variable {n : Nat} {A M : Nat → Nat} {T : Nat → Nat → Nat} {P W : Int32} {O Mm Ab st : Nat → Int32}
theorem cut_lt (g : Good n A M T) {a b u : Nat} (hu : u < n) : cutA A a b u < 2 ^ n := by
  unfold cutA
  split
  · exact dif_lt (g.2.1 u hu).1
  · exact (g.2.1 u hu).1
theorem mw_bool : ∀ (d q x b e : Bool), x = (d || q) → (d && q) = false → (e = true → q = true) → (x || b) = ((d || e) || ((q && !e) || (b && !x))) ∧ ((d || e) && ((q && !e) || (b && !x))) = false := by decide
theorem mw_loop (g : Good n A M T) (r : Rep n A M T P W O Mm Ab st) {a b s : Nat} (ha : a < n) (hb : b < n) : ∀ (c i m X Q D : Nat), i + c = 10 → c < m → X < 2 ^ n → Q < 2 ^ n → D < 2 ^ n → (∀ v, X.testBit v = (D.testBit v || Q.testBit v)) → (∀ v, (D.testBit v && Q.testBit v) = false) → pc D = i → X.testBit s = true → (∀ u v, D.testBit u = true → (cutA A a b u).testBit v = true → X.testBit v = true) → (∀ R : Nat → Prop, R s → (∀ u v, u < n → R u → (cutA A a b u).testBit v = true → R v) → ∀ v, X.testBit v = true → R v) → ∃ Y, f_X3_membersWithout_12 (nI a) (nI b) O m (nI X) (nI Q) (nI i) = some (nI Y) ∧ Y < 2 ^ n ∧ Y.testBit s = true ∧ (∀ u v, Y.testBit u = true → (cutA A a b u).testBit v = true → Y.testBit v = true) ∧ (∀ R : Nat → Prop, R s → (∀ u v, u < n → R u → (cutA A a b u).testBit v = true → R v) → ∀ v, Y.testBit v = true → R v) := by
  have hn := g.1.2
  intro c
  induction c with
  | zero =>
    intro i m X Q D h1 h2 hX hQ hD k1 k2 k3 k4 k5 k6
    obtain ⟨m, rfl⟩ : ∃ k, m = k + 1 := ⟨m - 1, by omega⟩
    obtain rfl : i = 10 := by omega
    refine ⟨X, ?_, hX, k4, fun u v hu hv => ?_, k6⟩
    · rw [f_X3_membersWithout_12, if_pos (show (10 : Int32) ≤ nI 10 by decide)]
    · have hun := tb_n hX hu
      exact k5 u v (pc10 (pow10 hn hD) k3 (by omega)) hv
  | succ c ih =>
    intro i m X Q D h1 h2 hX hQ hD k1 k2 k3 k4 k5 k6
    obtain ⟨m, rfl⟩ : ∃ k, m = k + 1 := ⟨m - 1, by omega⟩
    rw [f_X3_membersWithout_12, if_neg (show ¬ (10 : Int32) ≤ nI i from nI_ge (b := 10) (by omega) (by omega))]
    by_cases hQ0 : Q = 0
    · subst hQ0
      rw [if_pos nI_0]
      refine ⟨X, rfl, hX, k4, fun u v hu hv => ?_, k6⟩
      refine k5 u v ?_ hv
      have := k1 u
      rw [hu, Nat.zero_testBit, Bool.or_false] at this
      exact this.symm
    · obtain ⟨k, hk10, hQk, hlow⟩ := lowx (pow10 hn hQ) hQ0
      have hkn := tb_n hQ hQk
      have hDk : D.testBit k = false := by have := k2 k; rw [hQk, Bool.and_true] at this; exact this
      have hXk : X.testBit k = true := by rw [k1 k, hQk, Bool.or_true]
      have e : (if nI k = nI a then (O k &&& ((1 <<< (nI b &&& 31)) ^^^ (-1))) else O k) = nI (cutA A a b k) := by
        unfold cutA
        rw [(r.2.2.1 k hkn).1, bitC (show b < 10 by omega), nx_dif]
        by_cases h : k = a
        · rw [if_pos (by rw [h]), if_pos h]
        · rw [if_neg (fun e => h ((nI_eq (by omega) (by omega)).mp e)), if_neg h]
      have hB : cutA A a b k < 2 ^ n := cut_lt g hkn
      obtain ⟨Y, hY, hrest⟩ := ih (i + 1) m (X ||| cutA A a b k) (dif Q (2 ^ k) ||| dif (cutA A a b k) X) (D ||| 2 ^ k) (by omega) (by omega) (or_lt hX hB) (or_lt (dif_lt hQ) (dif_lt hB)) (or_lt hD (two_lt hkn))
        (fun v => by
          simp only [Nat.testBit_or, dif_tb, tb2]
          exact (mw_bool _ _ _ _ _ (k1 v) (k2 v) (fun h => by rw [of_decide_eq_true h]; exact hQk)).1)
        (fun v => by
          simp only [Nat.testBit_or, dif_tb, tb2]
          exact (mw_bool _ _ _ _ _ (k1 v) (k2 v) (fun h => by rw [of_decide_eq_true h]; exact hQk)).2)
        (by rw [pcs (pow10 hn hD) hk10 hDk, k3])
        (by rw [Nat.testBit_or, k4, Bool.true_or])
        (fun u v hu hv => by
          rw [Nat.testBit_or, tb2, Bool.or_eq_true] at hu
          rw [Nat.testBit_or, Bool.or_eq_true]
          rcases hu with hu | hu
          · exact Or.inl (k5 u v hu hv)
          · have := of_decide_eq_true hu
            subst this
            exact Or.inr hv)
        (fun R hR hc v hv => by
          rw [Nat.testBit_or, Bool.or_eq_true] at hv
          rcases hv with hv | hv
          · exact k6 R hR hc v hv
          · exact hc k v hkn (k6 R hR hc k hXk) hv)
      refine ⟨Y, ?_, hrest⟩
      rw [if_neg (nI_ne0 (by omega) (by have := pow10 hn hQ; omega)), hlow, if_pos (xin_n hk10 (by omega)), if_pos (xin_n hk10 (by omega)), nI_clamp (by omega)]
      rw [← hY]
      by_cases h : nI k = nI a
      · rw [if_pos h] at e ⊢
        rw [e]
        unfold f_X3_membersWithout_60
        rw [bitC hk10, nx_dif, nx_dif, nx_or, nx_or, nI_1]
      · rw [if_neg h] at e ⊢
        rw [e]
        unfold f_X3_membersWithout_60
        rw [bitC hk10, nx_dif, nx_dif, nx_or, nx_or, nI_1]
theorem withC (g : Good n A M T) (r : Rep n A M T P W O Mm Ab st) {a b s : Nat} (ha : a < n) (hb : b < n) (hs : s < n) : ∃ Y, f_X3_membersWithout 1000 (nI s) (nI a) (nI b) O = some (nI Y) ∧ Clos n (cutA A a b) s Y := by
  have hn := g.1.2
  obtain ⟨Y, h1, h2, h3, h4, h5⟩ := mw_loop g r ha hb (s := s) 10 0 1000 (2 ^ s) (2 ^ s) 0 (by omega) (by omega) (two_lt hs) (two_lt hs) (Nat.two_pow_pos n) (fun v => by rw [Nat.zero_testBit, Bool.false_or]) (fun v => by rw [Nat.zero_testBit, Bool.false_and]) (by decide) (by rw [tb2]; simp) (fun u v hu => by rw [Nat.zero_testBit] at hu; exact absurd hu (by decide)) (fun R hR _ v hv => by rw [tb2] at hv; rw [of_decide_eq_true hv]; exact hR)
  refine ⟨Y, ?_, h2, h3, h4, fun Q q1 q2 => ?_⟩
  · unfold f_X3_membersWithout
    rw [bitC (show s < 10 by omega)]
    exact h1
  · intro v hv
    have := h5 (fun v => Y.testBit v = true ∧ Q v) ⟨h3, q1⟩ (fun u v hu hq hv => ⟨h4 u v hq.1 hv, q2 u v hq.1 hq.2 hv⟩) v hv
    exact this.2
theorem w22 (g : Good n A M T) (r : Rep n A M T P W O Mm Ab st) {a b : Nat} (ha : a < n) (hb : b < n) (k8 : Int32 → Int32 → Option Int32) (x5 : Int32) : ∀ (c i m X : Nat), i + c = n → c < m → X < 2 ^ n → ∃ Y, f_X7_without_22 k8 (nI a) (nI b) x5 (nI n) st m (nI X) (nI i) = k8 (nI Y) x5 ∧ Y < 2 ^ n ∧ (∀ v, X.testBit v = true → Y.testBit v = true) ∧ (∀ u v, i ≤ u → u < n → X.testBit u = true → (cutA A a b u).testBit v = true → Y.testBit v = true) ∧ (∀ R : Nat → Prop, (∀ v, X.testBit v = true → R v) → (∀ u v, u < n → R u → (cutA A a b u).testBit v = true → R v) → ∀ v, Y.testBit v = true → R v) := by
  have hn := g.1.2
  intro c
  induction c with
  | zero =>
    intro i m X h1 h2 hX
    obtain ⟨m, rfl⟩ : ∃ k, m = k + 1 := ⟨m - 1, by omega⟩
    obtain rfl : i = n := by omega
    refine ⟨X, ?_, hX, fun v h => h, fun u v h h' => absurd h (by omega), fun R h _ => h⟩
    rw [f_X7_without_22, if_pos (nI_le (by omega) (by omega))]
  | succ c ih =>
    intro i m X h1 h2 hX
    obtain ⟨m, rfl⟩ : ∃ k, m = k + 1 := ⟨m - 1, by omega⟩
    have hi : i < n := by omega
    have hB : cutA A a b i < 2 ^ n := cut_lt g hi
    have q1 : ¬ nI n ≤ nI i := nI_ge (by omega) (by omega)
    have q2 : xin (nI i) 111 = true := xin_n (by omega) (by omega)
    have q3 := nI_clamp (show i < 2 ^ 31 by omega)
    have e : (if nI i = nI a then (st i &&& ((1 <<< (nI b &&& 31)) ^^^ (-1))) else st i) = nI (cutA A a b i) := by
      unfold cutA
      rw [(r.2.2.1 i hi).2, bitC (show b < 10 by omega), nx_dif]
      by_cases h : i = a
      · rw [if_pos (by rw [h]), if_pos h]
      · rw [if_neg (fun e => h ((nI_eq (by omega) (by omega)).mp e)), if_neg h]
    have e2 : f_X7_without_22 k8 (nI a) (nI b) x5 (nI n) st (m + 1) (nI X) (nI i) = f_X7_without_22 k8 (nI a) (nI b) x5 (nI n) st m (nI (if X.testBit i then X ||| cutA A a b i else X)) (nI (i + 1)) := by
      have e3 : f_X7_without_64 (fun x4 x6 => f_X7_without_22 k8 (nI a) (nI b) x5 (nI n) st m x4 x6) (nI X) (nI i) (nI (cutA A a b i)) = f_X7_without_22 k8 (nI a) (nI b) x5 (nI n) st m (nI (if X.testBit i then X ||| cutA A a b i else X)) (nI (i + 1)) := by
        unfold f_X7_without_64
        rw [hasM (pow10 hn hX) (show i < 10 by omega)]
        cases X.testBit i
        · rw [if_pos (by rfl), or0, nI_1]; rfl
        · rw [if_neg (by decide), nx_or, nI_1]; rfl
      rw [f_X7_without_22, if_neg q1, ix0, if_pos q2, if_pos q2, q3, ← e3]
      by_cases h : nI i = nI a
      · rw [if_pos h] at e ⊢
        rw [e]
      · rw [if_neg h] at e ⊢
        rw [e]
    cases hb : X.testBit i
    · obtain ⟨Y, y1, y2, y3, y4, y5⟩ := ih (i + 1) m X (by omega) (by omega) hX
      refine ⟨Y, ?_, y2, y3, fun u v h h' hu hv => ?_, y5⟩
      · rw [e2, hb]; exact y1
      · by_cases hui : u = i
        · rw [hui, hb] at hu; exact absurd hu (by decide)
        · exact y4 u v (by omega) h' hu hv
    · obtain ⟨Y, y1, y2, y3, y4, y5⟩ := ih (i + 1) m (X ||| cutA A a b i) (by omega) (by omega) (or_lt hX hB)
      refine ⟨Y, ?_, y2, fun v hv => y3 v (by rw [Nat.testBit_or, hv, Bool.true_or]), fun u v h h' hu hv => ?_, fun R h1 h2 => y5 R (fun v hv => ?_) h2⟩
      · rw [e2, hb]; exact y1
      · by_cases hui : u = i
        · subst hui; exact y3 v (by rw [Nat.testBit_or, hv, Bool.or_true])
        · exact y4 u v (by omega) h' (by rw [Nat.testBit_or, hu, Bool.true_or]) hv
      · rw [Nat.testBit_or, Bool.or_eq_true] at hv
        rcases hv with hv | hv
        · exact h1 v hv
        · exact h2 i v hi (h1 i hb) hv
theorem w8 (g : Good n A M T) (r : Rep n A M T P W O Mm Ab st) {a b s : Nat} (ha : a < n) (hb : b < n) : ∀ (c m X Z : Nat), 11 ≤ pc X + c → c < m → X < 2 ^ n → Z < 2 ^ n → X.testBit s = true → (∀ u v, u < n → Z.testBit u = true → (cutA A a b u).testBit v = true → X.testBit v = true) → (∀ R : Nat → Prop, R s → (∀ u v, u < n → R u → (cutA A a b u).testBit v = true → R v) → ∀ v, X.testBit v = true → R v) → ∃ Y, f_X7_without_8 1000 (nI a) (nI b) (nI n) st m (nI X) (nI Z) = some (nI Y) ∧ Y < 2 ^ n ∧ Y.testBit s = true ∧ (∀ u v, Y.testBit u = true → (cutA A a b u).testBit v = true → Y.testBit v = true) ∧ (∀ R : Nat → Prop, R s → (∀ u v, u < n → R u → (cutA A a b u).testBit v = true → R v) → ∀ v, Y.testBit v = true → R v) := by
  have hn := g.1.2
  intro c
  induction c with
  | zero =>
    intro m X Z h1 h2 hX
    have : pc X ≤ 10 := pcn_le _ _
    omega
  | succ c ih =>
    intro m X Z h1 h2 hX hZ k1 k2 k3
    obtain ⟨m, rfl⟩ : ∃ k, m = k + 1 := ⟨m - 1, by omega⟩
    have l1 := pow10 hn hX
    have l2 := pow10 hn hZ
    rw [f_X7_without_8]
    by_cases h : X = Z
    · subst h
      rw [if_pos rfl]
      exact ⟨X, rfl, hX, k1, fun u v hu hv => k2 u v (tb_n hX hu) hu hv, k3⟩
    · rw [if_neg (fun e => h ((nI_eq (by omega) (by omega)).mp e))]
      obtain ⟨Y, y1, y2, y3, y4, y5⟩ := w22 g r ha hb (fun x4 x5 => f_X7_without_8 1000 (nI a) (nI b) (nI n) st m x4 x5) (nI X) n 0 1000 X (by omega) (by omega) hX
      rw [nI_0] at y1
      rw [y1]
      have l3 := pow10 hn y2
      by_cases hXY : Y = X
      · subst hXY
        obtain ⟨m, rfl⟩ : ∃ k, m = k + 1 := ⟨m - 1, by omega⟩
        rw [f_X7_without_8, if_pos rfl]
        exact ⟨Y, rfl, hX, k1, fun u v hu hv => y4 u v (by omega) (tb_n hX hu) hu hv, k3⟩
      · have hp := pc_strict hn hX y2 y3 (fun e => hXY e.symm)
        exact ih m Y X (by omega) (by omega) y2 hX (y3 s k1) (fun u v hu h hv => y4 u v (by omega) hu h hv) (fun R h1 h2 => y5 R (k3 R h1 h2) h2)
theorem withM (g : Good n A M T) (r : Rep n A M T P W O Mm Ab st) {a b s : Nat} (ha : a < n) (hb : b < n) (hs : s < n) : ∃ Y, f_X7_without 1000 (nI s) (nI a) (nI b) (nI n) st = some (nI Y) ∧ Clos n (cutA A a b) s Y := by
  have hn := g.1.2
  obtain ⟨Y, h1, h2, h3, h4, h5⟩ := w8 g r ha hb (s := s) 11 1000 (2 ^ s) 0 (by omega) (by omega) (two_lt hs) (Nat.two_pow_pos n) (by rw [tb2]; simp) (fun u v _ hu => by rw [Nat.zero_testBit] at hu; exact absurd hu (by decide)) (fun R hR _ v hv => by rw [tb2] at hv; rw [of_decide_eq_true hv]; exact hR)
  refine ⟨Y, ?_, h2, h3, h4, fun Q q1 q2 => ?_⟩
  · unfold f_X7_without
    rw [bitC (show s < 10 by omega)]
    exact h1
  · intro v hv
    have := h5 (fun v => Y.testBit v = true ∧ Q v) ⟨h3, q1⟩ (fun u v hu hq hv => ⟨h4 u v hq.1 hv, q2 u v hq.1 hq.2 hv⟩) v hv
    exact this.2
/-- both find the same set without the arc -/
theorem withB (g : Good n A M T) (r : Rep n A M T P W O Mm Ab st) {a b s : Nat} (ha : a < n) (hb : b < n) (hs : s < n) : ∃ Y, f_X3_membersWithout 1000 (nI s) (nI a) (nI b) O = some (nI Y) ∧ f_X7_without 1000 (nI s) (nI a) (nI b) (nI n) st = some (nI Y) ∧ Clos n (cutA A a b) s Y := by
  obtain ⟨Y, h1, h2⟩ := withC g r ha hb hs
  obtain ⟨Z, h3, h4⟩ := withM g r ha hb hs
  obtain rfl := Clos_eq h2 h4
  exact ⟨Y, h1, h3, h2⟩
theorem needlessB (g : Good n A M T) (r : Rep n A M T P W O Mm Ab st) {a b : Nat} (ha : a < n) (hb : b < n) : ∃ y, f_X3_isNeedless 1000 (nI a) (nI b) O = some (bI y) ∧ f_X7_isNeedless 1000 (nI a) (nI b) (nI n) st = some (bI y) := by
  have hn := g.1.2
  obtain ⟨Y, h1, h2, h3⟩ := withB g r ha hb ha
  have hY := pow10 hn h3.1
  refine ⟨Y.testBit b, ?_, ?_⟩
  · unfold f_X3_isNeedless
    rw [h1, Option.bind_some, hasC hY (by omega)]
  · unfold f_X7_isNeedless
    rw [h2, Option.bind_some, hasM hY (by omega)]
theorem arcC (g : Good n A M T) (r : Rep n A M T P W O Mm Ab st) (x1 x2 : Int32) : (∃ u v, u < n ∧ v < n ∧ u ≠ v ∧ x1 = nI u ∧ x2 = nI v ∧ (A u).testBit v = true ∧ f_X6_isArcThere x1 x2 (nI n) O = some 1 ∧ f_X7_isArc x1 x2 (nI n) st = some 1) ∨ (f_X6_isArcThere x1 x2 (nI n) O = some 0 ∧ f_X7_isArc x1 x2 (nI n) st = some 0) := by
  obtain ⟨hn2, hn⟩ := g.1
  rcases tw0 (by omega) hn x1 x2 with ⟨u, v, hu, hv, huv, rfl, rfl⟩ | ⟨a, b⟩
  · rw [isArcM g r hu hv huv]
    unfold f_X6_isArcThere
    rw [twC1 hu hv huv hn, if_neg (by decide), hasArcC g r hu hv, Option.bind_some]
    cases hb : (A u).testBit v
    · right
      exact ⟨by rw [if_pos (by rfl)], rfl⟩
    · left
      exact ⟨u, v, hu, hv, huv, rfl, rfl, hb, by rw [if_neg (by decide)], rfl⟩
  · right
    unfold f_X6_isArcThere f_X7_isArc
    rw [a, b, if_pos rfl, if_pos rfl]
    exact ⟨rfl, rfl⟩
theorem isArcM2 (g : Good n A M T) (r : Rep n A M T P W O Mm Ab st) {u v : Nat} (hu : u < n) (hv : v < n) : f_X7_isArc (nI u) (nI v) (nI n) st = some (bI ((A u).testBit v)) := by
  have hn := g.1.2
  by_cases h : u = v
  · subst h
    rw [(g.2.1 u hu).2]
    unfold f_X7_isArc f_X7_areTwo
    rw [ptM1 hu hn]
    simp [i10, bI]
  · exact isArcM g r hu hv h
theorem s_needless (h : Sim n P W O Mm Ab st) (x1 x2 : Int32) : ∃ r, f_X6_needless 1000 x1 x2 P O = some r ∧ f_X7_needless 1000 x1 x2 (nI n) st = some r := by
  obtain ⟨A, M, T, g, r⟩ := h
  obtain rfl := r.1
  unfold f_X6_needless f_X7_needless
  rcases arcC g r x1 x2 with ⟨u, v, hu, hv, huv, rfl, rfl, hb, e1, e2⟩ | ⟨e1, e2⟩
  · obtain ⟨y, k1, k2⟩ := needlessB g r hu hv
    simp only [e1, e2, k1, k2, Option.bind_some, i10, ↓reduceIte]
    cases y
    · exact ⟨_, rfl, rfl⟩
    · exact ⟨_, rfl, rfl⟩
  · simp only [e1, e2, Option.bind_some, ↓reduceIte]
    exact ⟨_, rfl, rfl⟩
theorem nl14 (g : Good n A M T) (r : Rep n A M T P W O Mm Ab st) {u : Nat} (hu : u < n) (kC kM : Int32 → Int32 → Option Int32) : ∀ (c i m : Nat) (x : Int32), i + c = n → c < m → ∃ y, f_X3_needlessArcs_14 kC 1000 (nI u) (nI n) O m x (nI i) = kC y (nI (u + 1)) ∧ f_X7_needlessMany_14 kM 1000 (nI u) (nI n) st m x (nI i) = kM y (nI (u + 1)) := by
  have hn := g.1.2
  intro c
  induction c with
  | zero =>
    intro i m x h1 h2
    obtain ⟨m, rfl⟩ : ∃ k, m = k + 1 := ⟨m - 1, by omega⟩
    have q : nI n ≤ nI i := nI_le (by omega) (by omega)
    rw [f_X3_needlessArcs_14, f_X7_needlessMany_14, if_pos q, if_pos q, nI_1]
    exact ⟨_, rfl, rfl⟩
  | succ c ih =>
    intro i m x h1 h2
    obtain ⟨m, rfl⟩ : ∃ k, m = k + 1 := ⟨m - 1, by omega⟩
    have q : ¬ nI n ≤ nI i := nI_ge (by omega) (by omega)
    obtain ⟨y, k1, k2⟩ := needlessB g r hu (show i < n by omega)
    rw [f_X3_needlessArcs_14, f_X7_needlessMany_14, if_neg q, if_neg q, hasArcC g r hu (by omega), isArcM2 g r hu (by omega), Option.bind_some, Option.bind_some, nI_1, Int32.add_zero]
    cases (A u).testBit i
    · rw [if_pos (by rfl), if_pos (by rfl)]
      exact ih (i + 1) m x (by omega) (by omega)
    · rw [if_neg (by decide), if_neg (by decide), k1, k2, Option.bind_some, Option.bind_some]
      cases y
      · rw [if_pos (by rfl), if_pos (by rfl)]
        exact ih (i + 1) m x (by omega) (by omega)
      · rw [if_neg (by decide), if_neg (by decide)]
        exact ih (i + 1) m _ (by omega) (by omega)
theorem nl4 (g : Good n A M T) (r : Rep n A M T P W O Mm Ab st) : ∀ (c i m : Nat) (x : Int32), i + c = n → c < m → ∃ y, f_X3_needlessArcs_4 1000 (nI n) O m x (nI i) = some y ∧ f_X7_needlessMany_4 1000 (nI n) st m x (nI i) = some y := by
  have hn := g.1.2
  intro c
  induction c with
  | zero =>
    intro i m x h1 h2
    obtain ⟨m, rfl⟩ : ∃ k, m = k + 1 := ⟨m - 1, by omega⟩
    have q : nI n ≤ nI i := nI_le (by omega) (by omega)
    rw [f_X3_needlessArcs_4, f_X7_needlessMany_4, if_pos q, if_pos q]
    exact ⟨_, rfl, rfl⟩
  | succ c ih =>
    intro i m x h1 h2
    obtain ⟨m, rfl⟩ : ∃ k, m = k + 1 := ⟨m - 1, by omega⟩
    have q : ¬ nI n ≤ nI i := nI_ge (by omega) (by omega)
    obtain ⟨y, k1, k2⟩ := nl14 g r (show i < n by omega) (fun x1 x2 => f_X3_needlessArcs_4 1000 (nI n) O m x1 x2) (fun x1 x2 => f_X7_needlessMany_4 1000 (nI n) st m x1 x2) n 0 1000 x (by omega) (by omega)
    rw [nI_0] at k1 k2
    rw [f_X3_needlessArcs_4, f_X7_needlessMany_4, if_neg q, if_neg q, k1, k2]
    exact ih (i + 1) m y (by omega) (by omega)
theorem s_nl (h : Sim n P W O Mm Ab st) : ∃ r, f_X3_needlessArcs 1000 P O = some r ∧ f_X7_needlessMany 1000 (nI n) st = some r := by
  obtain ⟨A, M, T, g, r⟩ := h
  have hn := g.1.2
  obtain rfl := r.1
  exact nl4 g r n 0 1000 0 (by omega) (by omega)
end S6
theorem op_needless : Op_needless Inv0 := by
  intro kps len txt ncl tso tst ten knd nbs pts wrk out mem abv nxt psz nP nW nO nM nA eP eW eO eM eA usd usi cam cM cS cV cB mn um len2 plc srt frm num wrg cm mpt st pst kep isk pil nxs txt2 cls asd opn byy twc szs sos ths hI x1 x2
  obtain ⟨n, rfl, hS, hH, hK, hX, hC⟩ := hI
  obtain ⟨r, h1, h2⟩ := s_needless hS x1 x2
  exact ⟨r, r, ⟨1000, h1⟩, ⟨1000, h2⟩, rfl, n, rfl, hS, hH, hK, hX, hC⟩
theorem op_reduced : Op_reduced Inv0 := by
  intro kps len txt ncl tso tst ten knd nbs pts wrk out mem abv nxt psz nP nW nO nM nA eP eW eO eM eA usd usi cam cM cS cV cB mn um len2 plc srt frm num wrg cm mpt st pst kep isk pil nxs txt2 cls asd opn byy twc szs sos ths hI
  obtain ⟨n, rfl, hS, hH, hK, hX, hC⟩ := hI
  obtain ⟨r1, a1, a2⟩ := s_rings hS
  obtain ⟨r2, b1, b2⟩ := s_arcs hS
  obtain ⟨r3, c1, c2⟩ := s_nl hS
  have hp : pts = nI n := by obtain ⟨A, M, T, g, r⟩ := hS; exact r.1
  by_cases h : nI n ≤ r1
  · refine ⟨r2 - r3, r2 - r3, ⟨1000, ?_⟩, ⟨1000, ?_⟩, rfl, n, rfl, hS, hH, hK, hX, hC⟩
    · unfold f_X6_reduced
      rw [a1, Option.bind_some, if_pos (by rw [hp]; exact h), b1, c1]; rfl
    · unfold f_X7_reduced
      rw [a2, Option.bind_some, if_pos h, b2, c2]; rfl
  · refine ⟨-4, -4, ⟨1000, ?_⟩, ⟨1000, ?_⟩, rfl, n, rfl, hS, hH, hK, hX, hC⟩
    · unfold f_X6_reduced
      rw [a1, Option.bind_some, if_neg (by rw [hp]; exact h)]
    · unfold f_X7_reduced
      rw [a2, Option.bind_some, if_neg h]
theorem things3 {n : Nat} {cM cS : Nat → Int32} {cV cB : Nat → Nat → Int32} {szs sos ths : Nat → Int32} (hC : InvC n cM cS cV cB szs sos ths) : ∀ (c i m : Nat) (x : Int32), i + c = 3 → c < m → ∃ y, f_X6_thingsOfChains_4 cS m x (nI i) = some y ∧ f_X7_allThings_4 szs m x (nI i) = some y := by
  intro c
  induction c with
  | zero =>
    intro i m x h1 h2
    obtain ⟨m, rfl⟩ : ∃ k, m = k + 1 := ⟨m - 1, by omega⟩
    obtain rfl : i = 3 := by omega
    have q : (3 : Int32) ≤ nI 3 := by decide
    rw [f_X6_thingsOfChains_4, f_X7_allThings_4, if_pos q, if_pos q]
    exact ⟨_, rfl, rfl⟩
  | succ c ih =>
    intro i m x h1 h2
    obtain ⟨m, rfl⟩ : ∃ k, m = k + 1 := ⟨m - 1, by omega⟩
    have q : ¬ (3 : Int32) ≤ nI i := nI_ge (b := 3) (by omega) (by omega)
    have q2 : xin (nI i) 3 = true := xin_n (by omega) (by omega)
    rw [f_X6_thingsOfChains_4, f_X7_allThings_4, if_neg q, if_neg q, if_pos q2, if_pos q2, if_pos q2, nI_clamp (by omega), nI_1, Int32.add_zero]
    rcases hC i (by omega) with ⟨c1, c2, c3⟩ | ⟨c1, z, hz, c2, c3, c4⟩
    · rw [c2, c3, if_pos (by decide), Int32.add_zero]
      exact ih (i + 1) m x (by omega) (by omega)
    · rw [c2, c3]
      by_cases h0 : z = 0
      · subst h0
        rw [if_pos (by decide), nI_0, Int32.add_zero]
        exact ih (i + 1) m x (by omega) (by omega)
      · rw [if_neg (nI_nle (by omega) (by omega))]
        exact ih (i + 1) m _ (by omega) (by omega)
theorem op_count : Op_count Inv0 := by
  intro kps len txt ncl tso tst ten knd nbs pts wrk out mem abv nxt psz nP nW nO nM nA eP eW eO eM eA usd usi cam cM cS cV cB mn um len2 plc srt frm num wrg cm mpt st pst kep isk pil nxs txt2 cls asd opn byy twc szs sos ths hI x1
  obtain ⟨n, rfl, hS, hH, hK, hX, hC⟩ := hI
  obtain ⟨r1, a1, a2⟩ := s_arcs hS
  obtain ⟨r2, b1, b2⟩ := s_pairs hS
  obtain ⟨r3, c1, c2⟩ := s_rings hS
  obtain ⟨r4, d1, d2⟩ := s_nl hS
  obtain ⟨r5, e1, e2⟩ := things3 hC 3 0 1000 0 (by omega) (by omega)
  rw [nI_0] at e1 e2
  have e1' : f_X6_thingsOfChains 1000 cS = some r5 := e1
  have e2' : f_X7_allThings 1000 szs = some r5 := e2
  have hp : pts = nI n := by obtain ⟨A, M, T, g, r⟩ := hS; exact r.1
  have hw : wrk = st 110 := by obtain ⟨A, M, T, g, r⟩ := hS; exact r.2.1
  have hu : psz = um := by obtain ⟨u, nx, _, _, h1, h2, _⟩ := hH; rw [h1, h2]
  have hl : len2 = len := by obtain ⟨ln, _, h1, h2, _⟩ := hX; rw [h1, h2]
  have key : ∃ y, f_X6_count 1000 x1 pts wrk out mem cS psz len = some y ∧ f_X7_count 1000 x1 (nI n) um len2 st szs = some y := by
    unfold f_X6_count f_X7_count
    rw [a1, a2, b1, b2, c1, c2, d1, d2, e1', e2', hu, hl, hp, hw, c110]
    simp only [Option.bind_some]
    repeat' (split; exact ⟨_, rfl, rfl⟩)
    exact ⟨_, rfl, rfl⟩
  obtain ⟨y, k1, k2⟩ := key
  exact ⟨y, y, ⟨1000, k1⟩, ⟨1000, k2⟩, rfl, n, rfl, hS, hH, hK, hX, hC⟩
