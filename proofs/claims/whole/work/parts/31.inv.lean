/-! ===== what holds between the calls ===== -/
/-- a sum over the first k -/
def sumN (f : Nat → Nat) : Nat → Nat
  | 0 => 0
  | k + 1 => sumN f k + f k
/-- n points; A u: where arcs lead to from u; M s: who is in the tree of s; T s v: 0 v isn't in it, 1 it is its root, a + 2 it stands under a -/
def Good (n : Nat) (A M : Nat → Nat) (T : Nat → Nat → Nat) : Prop :=
  (2 ≤ n ∧ n ≤ 10) ∧
  (∀ u, u < n → A u < 2 ^ n ∧ (A u).testBit u = false) ∧
  (∀ s, s < n → M s < 2 ^ n ∧ ∀ v, v < n → (M s).testBit v = decide (T s v ≠ 0)) ∧
  (∀ s, s < n → T s s = 1) ∧
  (∀ s v, s < n → v < n → v ≠ s → T s v = 0 ∨ ∃ a, a < n ∧ T s v = a + 2 ∧ (A a).testBit v = true ∧ T s a ≠ 0) ∧
  (∀ s u v, s < n → u < n → v < n → T s u ≠ 0 → (A u).testBit v = true → T s v ≠ 0) ∧
  (∀ s, s < n → ∃ r : Nat → Nat, (∀ v, v < n → T s v ≠ 0 → r v < pc (M s)) ∧ ∀ v a, v < n → T s v = a + 2 → r v = r a + 1) ∧
  sumN (fun u => pc (A u)) n ≤ 40
/-- how a place in a tree is told by the class -/
def abC (t : Nat) : Int32 := if t < 2 then -1 else nI (t - 2)
/-- a net of the class and a row of the reference that hold the same -/
def Rep (n : Nat) (A M : Nat → Nat) (T : Nat → Nat → Nat) (P W : Int32) (O Mm Ab st : Nat → Int32) : Prop :=
  P = nI n ∧ W = st 110 ∧ (∀ u, u < n → O u = nI (A u) ∧ st u = nI (A u)) ∧ (∀ s, s < n → Mm s = nI (M s)) ∧
  ∀ s v, s < n → v < n → Ab (10 * s + v) = abC (T s v) ∧ st (10 + 10 * s + v) = nI (T s v)
def Sim (n : Nat) (P W : Int32) (O Mm Ab st : Nat → Int32) : Prop := ∃ A M T, Good n A M T ∧ Rep n A M T P W O Mm Ab st
/-- where the j-th of u notes lies in the round -/
def slot (nx u j : Nat) : Nat := (nx + 8 - u + j) % 8
def InvH (n : Nat) (nxt psz : Int32) (nP nW : Nat → Int32) (nO nM nA : Nat → Nat → Int32) (um : Int32) (pst : Nat → Int32) : Prop :=
  ∃ u nx, u ≤ 8 ∧ nx < 8 ∧ psz = nI u ∧ um = nI u ∧ nxt = nI nx ∧ ∀ j, j < u → Sim n (nP (slot nx u j)) (nW (slot nx u j)) (nO (slot nx u j)) (nM (slot nx u j)) (nA (slot nx u j)) (fun k => pst (111 * j + k))
def InvK (n : Nat) (kps : Int32) (eP eW : Nat → Int32) (eO eM eA : Nat → Nat → Int32) (kep isk : Nat → Int32) : Prop :=
  ∃ kb, kb < 4 ∧ kps = nI kb ∧ ∀ k, k < 2 → isk k = bI (kb.testBit k) ∧ (kb.testBit k = true → Sim n (eP k) (eW k) (eO k) (eM k) (eA k) (fun i => kep (111 * k + i)))
def InvX (len : Int32) (txt : Nat → Int32) (len2 : Int32) (txt2 : Nat → Int32) : Prop :=
  ∃ ln, ln ≤ 200 ∧ len = nI ln ∧ len2 = nI ln ∧ ∀ i, i < ln → txt2 i = txt i ∧ ∃ z, z < 256 ∧ txt i = nI z
/-- a thing of a chain: a number, or an arc as it is told -/
def thing (n : Nat) (so th : Int32) : Prop := (so = 0 ∧ (-9999) ≤ th ∧ th ≤ 9999) ∨ (so = 1 ∧ ∃ u v, u < n ∧ v < n ∧ u ≠ v ∧ th = nI (10 * u + v))
def InvC (n : Nat) (cM cS : Nat → Int32) (cV cB : Nat → Nat → Int32) (szs sos ths : Nat → Int32) : Prop :=
  ∀ k, k < 3 → (cM k = 1 ∧ cS k = 0 ∧ szs k = -1) ∨ (cM k = 0 ∧ ∃ z, z ≤ 8 ∧ cS k = nI z ∧ szs k = nI z ∧ ∀ i, i < z → ths (8 * k + i) = cV k i ∧ sos (8 * k + i) = cB k i ∧ thing n (cB k i) (cV k i))
def Inv0 (kps : Int32) (len : Int32) (txt : (Nat → Int32)) (pts : Int32) (wrk : Int32) (out : (Nat → Int32)) (mem : (Nat → Int32)) (abv : (Nat → Int32)) (nxt : Int32) (psz : Int32) (nP : (Nat → Int32)) (nW : (Nat → Int32)) (nO : (Nat → Nat → Int32)) (nM : (Nat → Nat → Int32)) (nA : (Nat → Nat → Int32)) (eP : (Nat → Int32)) (eW : (Nat → Int32)) (eO : (Nat → Nat → Int32)) (eM : (Nat → Nat → Int32)) (eA : (Nat → Nat → Int32)) (cM : (Nat → Int32)) (cS : (Nat → Int32)) (cV : (Nat → Nat → Int32)) (cB : (Nat → Nat → Int32)) (mn : Int32) (um : Int32) (len2 : Int32) (st : (Nat → Int32)) (pst : (Nat → Int32)) (kep : (Nat → Int32)) (isk : (Nat → Int32)) (txt2 : (Nat → Int32)) (szs : (Nat → Int32)) (sos : (Nat → Int32)) (ths : (Nat → Int32)) : Prop :=
  ∃ n, mn = nI n ∧ Sim n pts wrk out mem abv st ∧ InvH n nxt psz nP nW nO nM nA um pst ∧ InvK n kps eP eW eO eM eA kep isk ∧ InvX len txt len2 txt2 ∧ InvC n cM cS cV cB szs sos ths
/-! ===== points and pairs ===== -/
theorem lgneg {x y : Int64} : lg_cmp x y < 0 ↔ x.toInt < y.toInt := by
  unfold lg_cmp
  by_cases h1 : x > y
  · rw [if_pos h1]
    have h3 := Int64.lt_iff_toInt_lt.mp h1
    exact ⟨fun h => absurd h (by decide), fun h => by omega⟩
  · rw [if_neg h1]
    by_cases h2 : x = y
    · rw [if_pos h2]; subst h2
      exact ⟨fun h => absurd h (by decide), fun h => by omega⟩
    · rw [if_neg h2]
      have a1 : ¬ y.toInt < x.toInt := fun h => h1 (Int64.lt_iff_toInt_lt.mpr h)
      have a2 : ¬ x.toInt = y.toInt := fun h => h2 (Int64.toInt_inj.mp h)
      exact ⟨fun _ => by omega, fun _ => by decide⟩
theorem lgpos {x y : Int64} : 0 < lg_cmp x y ↔ y.toInt < x.toInt := by
  unfold lg_cmp
  by_cases h1 : x > y
  · rw [if_pos h1]
    exact ⟨fun _ => Int64.lt_iff_toInt_lt.mp h1, fun _ => by decide⟩
  · rw [if_neg h1]
    have a1 : ¬ y.toInt < x.toInt := fun h => h1 (Int64.lt_iff_toInt_lt.mpr h)
    by_cases h2 : x = y
    · rw [if_pos h2]
      exact ⟨fun h => absurd h (by decide), fun h => absurd h a1⟩
    · rw [if_neg h2]
      exact ⟨fun h => absurd h (by decide), fun h => absurd h a1⟩
theorem inM1 {a lo hi : Int64} (h1 : lo.toInt ≤ a.toInt) (h2 : a.toInt ≤ hi.toInt) : f_X7_in a lo hi = 1 := by
  unfold f_X7_in
  rw [if_neg (fun h => by have := lgneg.mp h; omega), if_neg (fun h => by have := lgpos.mp h; omega)]
theorem inM0 {a lo hi : Int64} (h : a.toInt < lo.toInt ∨ hi.toInt < a.toInt) : f_X7_in a lo hi = 0 := by
  unfold f_X7_in
  by_cases h1 : lg_cmp a lo < 0
  · rw [if_pos h1]
  · rw [if_neg h1, if_pos (lgpos.mpr (h.elim (fun h => absurd (lgneg.mpr h) h1) id))]
theorem n1T {n : Nat} (h1 : 1 ≤ n) (hn : n ≤ 10) : ((nI n - 1).toInt64).toInt = (n : Int) - 1 := by
  rw [Int32.toInt_toInt64, show (1 : Int32) = nI 1 from rfl, pk_sub_toInt (by omega) (by omega)]; rfl
theorem ptC1 {n k : Nat} (hk : k < n) (hn : n ≤ 10) : f_X6_isPoint (nI k) (nI n) = 1 := by
  unfold f_X6_isPoint
  rw [if_neg (nI_pos (by omega)), if_neg (nI_ge hk (by omega))]
theorem ptM1 {n k : Nat} (hk : k < n) (hn : n ≤ 10) : f_X7_isPoint (nI k) (nI n) = 1 := by
  unfold f_X7_isPoint
  refine inM1 ?_ ?_
  · rw [Int32.toInt_toInt64, nI_toInt (by omega)]; show (0 : Int) ≤ _; omega
  · rw [n1T (by omega) hn, Int32.toInt_toInt64, nI_toInt (by omega)]; omega
theorem pt0 {n : Nat} (h1 : 1 ≤ n) (hn : n ≤ 10) (x : Int32) : (∃ k, k < n ∧ x = nI k) ∨ (f_X6_isPoint x (nI n) = 0 ∧ f_X7_isPoint x (nI n) = 0) := by
  rcases pk_ix x (n := n) (by omega) with h | h | h
  · right
    refine ⟨by unfold f_X6_isPoint; rw [if_pos h], inM0 (Or.inl ?_)⟩
    rw [Int32.toInt_toInt64]
    have := Int32.lt_iff_toInt_lt.mp h
    exact this
  · right
    have h' := Int32.le_iff_toInt_le.mp h
    rw [nI_toInt (by omega)] at h'
    refine ⟨?_, inM0 (Or.inr ?_)⟩
    · unfold f_X6_isPoint
      by_cases hx : x < 0
      · rw [if_pos hx]
      · rw [if_neg hx, if_pos h]
    · rw [n1T h1 hn, Int32.toInt_toInt64]; omega
  · exact Or.inl h
theorem twC1 {n u v : Nat} (hu : u < n) (hv : v < n) (huv : u ≠ v) (hn : n ≤ 10) : f_X6_arePair (nI u) (nI v) (nI n) = 1 := by
  unfold f_X6_arePair
  rw [ptC1 hu hn, ptC1 hv hn, if_neg (by decide), if_neg (by decide), if_neg (fun h => huv ((nI_eq (by omega) (by omega)).mp h))]
theorem twM1 {n u v : Nat} (hu : u < n) (hv : v < n) (huv : u ≠ v) (hn : n ≤ 10) : f_X7_areTwo (nI u) (nI v) (nI n) = 1 := by
  unfold f_X7_areTwo
  rw [ptM1 hu hn, ptM1 hv hn, if_neg (by decide), if_neg (by decide), if_neg (fun h => huv ((nI_eq (by omega) (by omega)).mp h))]
theorem tw0 {n : Nat} (h1 : 1 ≤ n) (hn : n ≤ 10) (x y : Int32) : (∃ u v, u < n ∧ v < n ∧ u ≠ v ∧ x = nI u ∧ y = nI v) ∨ (f_X6_arePair x y (nI n) = 0 ∧ f_X7_areTwo x y (nI n) = 0) := by
  rcases pt0 h1 hn x with ⟨u, hu, rfl⟩ | ⟨a, b⟩
  · rcases pt0 h1 hn y with ⟨v, hv, rfl⟩ | ⟨a, b⟩
    · by_cases huv : u = v
      · subst huv
        right
        refine ⟨?_, ?_⟩
        · unfold f_X6_arePair
          rw [ptC1 hu hn, if_neg (by decide), if_neg (by decide), if_pos rfl]
        · unfold f_X7_areTwo
          rw [ptM1 hu hn, if_neg (by decide), if_neg (by decide), if_pos rfl]
      · exact Or.inl ⟨u, v, hu, hv, huv, rfl, rfl⟩
    · right
      refine ⟨?_, ?_⟩
      · unfold f_X6_arePair
        rw [ptC1 hu hn, a, if_neg (by decide), if_pos rfl]
      · unfold f_X7_areTwo
        rw [ptM1 hu hn, b, if_neg (by decide), if_pos rfl]
  · right
    refine ⟨?_, ?_⟩
    · unfold f_X6_arePair
      rw [a, if_pos rfl]
    · unfold f_X7_areTwo
      rw [b, if_pos rfl]
/-! ===== places ===== -/
theorem xin_n {k m : Nat} (h : k < m) (hm : m < 2 ^ 31) : xin (nI k) m = true := vp_xin (vp_in_nI h hm)
theorem ixM (s v : Nat) : ((10 : Int32) + 10 * nI s) + nI v = nI (10 + 10 * s + v) := by
  rw [show (10 : Int32) = nI 10 from rfl, pk_mul, nI_add, nI_add]
theorem ixC (s v : Nat) : (nI s * 10) + nI v = nI (10 * s + v) := by
  rw [show (10 : Int32) = nI 10 from rfl, pk_mul, nI_add, Nat.mul_comm]
theorem ix0 (u : Nat) : (0 : Int32) + nI u = nI u := by
  rw [show (0 : Int32) = nI 0 from rfl, nI_add, Nat.zero_add]
theorem pow10 {n a : Nat} (hn : n ≤ 10) (h : a < 2 ^ n) : a < 1024 := Nat.lt_of_lt_of_le h (Nat.pow_le_pow_right (by omega) hn)
theorem bI_0 {b : Bool} : bI b = 0 ↔ b = false := by cases b <;> decide
/-! ===== one arc, one place of a tree ===== -/
section S1
variable {n : Nat} {A M : Nat → Nat} {T : Nat → Nat → Nat} {P W : Int32} {O Mm Ab st : Nat → Int32}
theorem hasArcC (g : Good n A M T) (r : Rep n A M T P W O Mm Ab st) {u v : Nat} (hu : u < n) (hv : v < n) : f_X3_hasArc (nI u) (nI v) O = some (bI ((A u).testBit v)) := by
  have hn := g.1.2
  unfold f_X3_hasArc
  rw [if_pos (xin_n (by omega) (by omega)), nI_clamp (by omega), (r.2.2.1 u hu).1, hasC (pow10 hn (g.2.1 u hu).1) (by omega)]
theorem comesToC (g : Good n A M T) (r : Rep n A M T P W O Mm Ab st) {s v : Nat} (hs : s < n) (hv : v < n) : f_X3_comesTo (nI s) (nI v) Mm = some (bI (decide (T s v ≠ 0))) := by
  have hn := g.1.2
  unfold f_X3_comesTo
  rw [if_pos (xin_n (by omega) (by omega)), nI_clamp (by omega), r.2.2.2.1 s hs, hasC (pow10 hn (g.2.2.1 s hs).1) (by omega), (g.2.2.1 s hs).2 v hv]
theorem isArcM (g : Good n A M T) (r : Rep n A M T P W O Mm Ab st) {u v : Nat} (hu : u < n) (hv : v < n) (huv : u ≠ v) : f_X7_isArc (nI u) (nI v) (nI n) st = some (bI ((A u).testBit v)) := by
  have hn := g.1.2
  unfold f_X7_isArc
  rw [twM1 hu hv huv hn, if_neg (by decide), ix0, if_pos (xin_n (by omega) (by omega)), nI_clamp (by omega), (r.2.2.1 u hu).2, hasM (pow10 hn (g.2.1 u hu).1) (by omega)]
  cases (A u).testBit v
  · rw [if_pos (by decide)]; rfl
  · rw [if_neg (by decide)]; rfl
theorem isInM (g : Good n A M T) (r : Rep n A M T P W O Mm Ab st) {s v : Nat} (hs : s < n) (hv : v < n) : f_X7_isIn (nI s) (nI v) st = some (bI (decide (T s v ≠ 0))) := by
  have hn := g.1.2
  have ht : T s v < 2 ^ 31 := by
    by_cases h : v = s
    · subst h; rw [g.2.2.2.1 v hs]; omega
    · rcases g.2.2.2.2.1 s v hs hv h with h | ⟨a, ha, h, -⟩
      · omega
      · omega
  unfold f_X7_isIn
  rw [ixM, if_pos (xin_n (by omega) (by omega)), nI_clamp (by omega), (r.2.2.2.2 s v hs hv).2]
  by_cases h : T s v = 0
  · rw [h, if_pos (by decide)]; rfl
  · rw [if_neg (nI_nle (by omega) ht)]; simp [bI, h]
theorem s_arc (h : Sim n P W O Mm Ab st) (x1 x2 : Int32) : ∃ r, f_X6_arc x1 x2 P O = some r ∧ f_X7_arc x1 x2 (nI n) st = some r := by
  obtain ⟨A, M, T, g, r⟩ := h
  obtain ⟨⟨hn2, hn⟩, -⟩ := id g
  obtain rfl := r.1
  unfold f_X6_arc f_X7_arc
  rcases tw0 (by omega) hn x1 x2 with ⟨u, v, hu, hv, huv, rfl, rfl⟩ | ⟨a, b⟩
  · rw [twC1 hu hv huv hn, twM1 hu hv huv hn, if_neg (by decide), if_neg (by decide), hasArcC g r hu hv, isArcM g r hu hv huv]
    cases (A u).testBit v <;> exact ⟨_, rfl, rfl⟩
  · rw [a, b, if_pos rfl, if_pos rfl]
    exact ⟨_, rfl, rfl⟩
end S1
