/-! ===== the text: a clause, all clauses ===== -/
/-- how many numbers a clause that isn't of the net wants -/
def wdN (k : Nat) : Nat := if k = 1 then 2 else 3
/-- clause j, as both keep it: n1 points before it, n2 behind it -/
def Cl (knd nbs cls : Nat → Int32) (j n1 n2 : Nat) : Prop :=
  ∃ (k : Nat) (a : Nat → Nat), k < 5 ∧ knd j = nI k ∧ cls (4 * j) = nI k ∧
    ((k = 0 ∧ 2 ≤ n2 ∧ n2 ≤ 10 ∧ nbs (3 * j) = nI n2 ∧ cls (4 * j + 1) = nI n2) ∨
     (1 ≤ k ∧ n2 = n1 ∧ (∀ i, i < wdN k → nbs (3 * j + i) = nI (a i) ∧ cls (4 * j + 1 + i) = nI (a i) ∧ a i < n1) ∧ ∀ i l, i < wdN k → l < wdN k → i ≠ l → a i ≠ a l))
/-- c clauses: n0 points before, n behind -/
def Cls (knd nbs cls : Nat → Int32) (n0 c n : Nat) : Prop := ∃ ν : Nat → Nat, ν 0 = n0 ∧ ν c = n ∧ ∀ j, j < c → Cl knd nbs cls j (ν j) (ν (j + 1))
theorem Cl.congr {knd nbs cls knd' nbs' cls' : Nat → Int32} {j n1 n2 : Nat} (h : Cl knd nbs cls j n1 n2) (h1 : knd' j = knd j) (h2 : ∀ i, i < 3 → nbs' (3 * j + i) = nbs (3 * j + i)) (h3 : ∀ i, i < 4 → cls' (4 * j + i) = cls (4 * j + i)) : Cl knd' nbs' cls' j n1 n2 := by
  obtain ⟨k, a, k1, k2, k3, k4⟩ := h
  refine ⟨k, a, k1, by rw [h1]; exact k2, by have := h3 0 (by omega); rw [Nat.add_zero] at this; rw [this]; exact k3, ?_⟩
  rcases k4 with ⟨e0, e1, e2, e3, e4⟩ | ⟨e0, e1, e2, e3⟩
  · refine Or.inl ⟨e0, e1, e2, ?_, ?_⟩
    · have := h2 0 (by omega); rw [Nat.add_zero] at this; rw [this]; exact e3
    · rw [h3 1 (by omega)]; exact e4
  · refine Or.inr ⟨e0, e1, fun i hi => ?_, e3⟩
    have hw : wdN k ≤ 3 := by unfold wdN; split <;> omega
    rw [h2 i (by omega), show 4 * j + 1 + i = 4 * j + (1 + i) by omega, h3 (1 + i) (by omega), show 4 * j + (1 + i) = 4 * j + 1 + i by omega]
    exact e2 i hi
theorem Cls.snoc {knd nbs cls knd' nbs' cls' : Nat → Int32} {n0 c n1 n2 : Nat} (h : Cls knd nbs cls n0 c n1) (hl : Cl knd' nbs' cls' c n1 n2) (h1 : ∀ t, t < c → knd' t = knd t) (h2 : ∀ t, t < 3 * c → nbs' t = nbs t) (h3 : ∀ t, t < 4 * c → cls' t = cls t) : Cls knd' nbs' cls' n0 (c + 1) n2 := by
  obtain ⟨ν, v0, v1, v2⟩ := h
  refine ⟨fun i => if i ≤ c then ν i else n2, ?_, ?_, fun j hj => ?_⟩
  · show (if 0 ≤ c then ν 0 else n2) = n0
    rw [if_pos (by omega)]; exact v0
  · show (if c + 1 ≤ c then ν (c + 1) else n2) = n2
    rw [if_neg (by omega)]
  · show Cl knd' nbs' cls' j (if j ≤ c then ν j else n2) (if j + 1 ≤ c then ν (j + 1) else n2)
    by_cases e : j = c
    · subst e
      rw [if_pos (by omega), if_neg (by omega), v1]; exact hl
    · rw [if_pos (by omega), if_pos (by omega)]
      exact (v2 j (by omega)).congr (h1 j (by omega)) (fun i hi => h2 _ (by omega)) (fun i hi => h3 _ (by omega))
theorem n10 : ¬ (1 : Int32) = 0 := by decide
section R4
variable {ln : Nat} {z : Nat → Nat} {txt txt2 : Nat → Int32}
/-- a fault, the same place told by both -/
def rcBad (knd : Nat → Int32) (x : Option (Int32 × Int32 × Int32 × Int32 × (Nat → Int32) × (Nat → Int32))) (y : Option (Int32 × Int32 × Int32 × Int32 × Int32 × Int32 × Int32 × Int32 × (Nat → Int32))) : Prop :=
  ∃ (s : Nat) (so e : Int32) (nbs' : Nat → Int32) (plc srt frm num cm mp : Int32) (cls' : Nat → Int32), s ≤ 200 ∧ x = some (0, so, nI s, e, knd, nbs') ∧ y = some (0, plc, srt, frm, num, nI s, cm, mp, cls')
theorem wdI {k : Nat} (hk : k < 5) : (k = 1 → wdN k = 2) ∧ (k ≠ 1 → wdN k = 3) := ⟨fun h => if_pos h, fun h => if_neg h⟩
theorem rcLoop (h : TX ln z txt) (h' : TX ln z txt2) {k c n : Nat} (hk1 : 1 ≤ k) (hk : k < 5) (hc : c < 24) (hn : 2 ≤ n ∧ n ≤ 10) {knd : Nat → Int32} :
    ∀ (d i m m' p : Nat) (nbs cls : Nat → Int32) (a : Nat → Nat) (tso tst wrg : Int32), i + d = wdN k → d < m → d < m' → p ≤ ln →
      (∀ j, j < i → nbs (3 * c + j) = nI (a j) ∧ cls (4 * c + 1 + j) = nI (a j) ∧ a j < n) → (∀ j l, j < i → l < i → j ≠ l → a j ≠ a l) →
      rcBad knd (f_X5_readClause_34 1000 (nI n) (nI k) (nI (wdN k)) (nI c) knd (nI ln) txt m (nI i) tso tst (nI p) nbs) (f_X7_readClause_69 1000 (nI k) (nI (4 * c)) (nI ln) (nI c) (nI n) txt2 m' (nI (i + 1)) (nI p) wrg cls) ∨
      ∃ (tso' tst' : Int32) (p' : Nat) (nbs' cls' : Nat → Int32) (a' : Nat → Nat) (so s e : Nat) (num wrg' : Int32), p' ≤ ln ∧
        f_X5_readClause_34 1000 (nI n) (nI k) (nI (wdN k)) (nI c) knd (nI ln) txt m (nI i) tso tst (nI p) nbs = some (1, tso', tst', nI p', knd, nbs') ∧
        TOK ln z txt txt2 p' so s e num ∧
        f_X7_readClause_69 1000 (nI k) (nI (4 * c)) (nI ln) (nI c) (nI n) txt2 m' (nI (i + 1)) (nI p) wrg cls = some (1, nI e, srM so (z s), nI s, num, wrg', nI (c + 1), nI n, cls') ∧
        (∀ j, j < wdN k → nbs' (3 * c + j) = nI (a' j) ∧ cls' (4 * c + 1 + j) = nI (a' j) ∧ a' j < n) ∧ (∀ j l, j < wdN k → l < wdN k → j ≠ l → a' j ≠ a' l) ∧
        (∀ t, t < 3 * c → nbs' t = nbs t) ∧ ∀ t, t < 4 * c + 1 → cls' t = cls t := by
  have h0 := h.1
  have hw : wdN k ≤ 3 := by unfold wdN; split <;> omega
  have r80 : ∀ (m' i p : Nat) (wrg : Int32) (cls : Nat → Int32), f_X7_readClause_69 1000 (nI k) (nI (4 * c)) (nI ln) (nI c) (nI n) txt2 (m' + 1) (nI (i + 1)) (nI p) wrg cls = f_X7_readClause_80 (fun x3 plc wrg cls => f_X7_readClause_69 1000 (nI k) (nI (4 * c)) (nI ln) (nI c) (nI n) txt2 m' x3 plc wrg cls) 1000 (nI (4 * c)) (nI (i + 1)) (nI (wdN k)) (nI (i + 1)) (nI ln) (nI p) wrg (nI c) (nI n) txt2 cls := by
    intro m' i p wrg cls
    rw [f_X7_readClause_69]
    by_cases e : k = 1
    · subst e; rw [if_pos (show nI 1 = 1 from rfl)]; rfl
    · rw [if_neg (show ¬ nI k = 1 from fun q => e ((nI_eq (b := 1) (by omega) (by omega)).mp q)), (wdI hk).2 e]; rfl
  intro d
  induction d with
  | zero =>
    intro i m m' p nbs cls a tso tst wrg h1 h2 h3 hp ha hd
    obtain ⟨m, rfl⟩ : ∃ k, m = k + 1 := ⟨m - 1, by omega⟩
    obtain ⟨m', rfl⟩ : ∃ k, m' = k + 1 := ⟨m' - 1, by omega⟩
    right
    obtain ⟨so, s, e, num, ht⟩ := tok h h' hp
    obtain rfl : i = wdN k := by omega
    refine ⟨tso, tst, p, nbs, cls, a, so, s, e, num, wrg, hp, ?_, ht, ?_, ha, hd, fun _ _ => rfl, fun _ _ => rfl⟩
    · rw [f_X5_readClause_34, if_pos (nI_le (by omega) (by omega))]
    · rw [r80, f_X7_readClause_80, if_pos (nI_lt (by omega) (by omega)), ht.2.2.1, Option.bind_some, nI_1]
  | succ d ih =>
    intro i m m' p nbs cls a tso tst wrg h1 h2 h3 hp ha hd
    obtain ⟨m, rfl⟩ : ∃ k, m = k + 1 := ⟨m - 1, by omega⟩
    obtain ⟨m', rfl⟩ : ∃ k, m' = k + 1 := ⟨m' - 1, by omega⟩
    obtain ⟨so, s, e, num, ht⟩ := tok h h' hp
    obtain ⟨p1, p2, p3, -⟩ := ht.1
    rw [f_X5_readClause_34, if_neg (nI_ge (by omega) (by omega)), ht.2.1, Option.bind_some, r80, f_X7_readClause_80, if_neg (nI_nlt (by omega) (by omega))]
    dsimp only
    rcases numPt h ht hk1 hk (i := i) (by omega) hc hn ha (wrg := wrg) with ⟨v, v1, v2, v3, v4⟩ | ⟨v3, num', v4⟩
    · rw [v3, v4, Option.bind_some, Option.bind_some, if_neg n10, if_neg n10, nI_1, nI_1]
      have B1 : ∀ j, j < i + 1 → upd nbs (3 * c + i) (nI v) (3 * c + j) = nI (va_up a i v j) ∧ upd cls (4 * c + 1 + i) (nI v) (4 * c + 1 + j) = nI (va_up a i v j) ∧ va_up a i v j < n := by
        intro j hj
        by_cases ej : j = i
        · subst ej; rw [pk_us, pk_us, vu_s]; exact ⟨rfl, rfl, v1⟩
        · rw [pk_un (by omega), pk_un (by omega), vu_n ej]; exact ha j (by omega)
      have B2 : ∀ j l, j < i + 1 → l < i + 1 → j ≠ l → va_up a i v j ≠ va_up a i v l := by
        intro j l hj hl hjl
        by_cases ej : j = i
        · subst ej
          rw [vu_s, vu_n (fun q => hjl q.symm)]
          exact fun q => v2 l (by omega) q.symm
        · rw [vu_n ej]
          by_cases el : l = i
          · subst el; rw [vu_s]; exact v2 j (by omega)
          · rw [vu_n el]; exact hd j l (by omega) (by omega) hjl
      rcases ih (i + 1) m m' e (upd nbs (3 * c + i) (nI v)) (upd cls (4 * c + 1 + i) (nI v)) (va_up a i v) (nI so) (nI s) wrg (by omega) (by omega) (by omega) p3 B1 B2 with hb | ⟨tso', tst', p', nbs', cls', a', so2, s2, e2, num2, wrg', g1, g2, g3, g4, g5, g6, g7, g8⟩
      · exact Or.inl hb
      · refine Or.inr ⟨tso', tst', p', nbs', cls', a', so2, s2, e2, num2, wrg', g1, g2, g3, g4, g5, g6, fun t ht => ?_, fun t ht => ?_⟩
        · rw [g7 t ht, pk_un (by omega)]
        · rw [g8 t ht, pk_un (by omega)]
    · left
      rw [v3, v4, Option.bind_some, Option.bind_some, if_pos rfl, if_pos rfl]
      exact ⟨s, _, _, _, _, _, _, _, _, _, _, by omega, rfl, rfl⟩
/-- both read a clause -/
theorem rClause (h : TX ln z txt) (h' : TX ln z txt2) {p so s e c n : Nat} {num wrg : Int32} {knd nbs cls : Nat → Int32} (ht : TOK ln z txt txt2 p so s e num) (hc : c < 24) (hn : 2 ≤ n ∧ n ≤ 10) :
    (∃ knd', rcBad knd' (f_X5_readClause 1000 (nI n) (nI c) (nI p) knd nbs (nI ln) txt) (f_X7_readClause 1000 (nI ln) (nI e) (srM so (z s)) (nI s) num wrg (nI c) (nI n) txt2 cls)) ∨
    ∃ (tso' tst' : Int32) (p' n2 : Nat) (knd' nbs' cls' : Nat → Int32) (so2 s2 e2 : Nat) (num2 wrg' : Int32), p' ≤ ln ∧ (2 ≤ n2 ∧ n2 ≤ 10) ∧
      f_X5_readClause 1000 (nI n) (nI c) (nI p) knd nbs (nI ln) txt = some (1, tso', tst', nI p', knd', nbs') ∧
      TOK ln z txt txt2 p' so2 s2 e2 num2 ∧
      f_X7_readClause 1000 (nI ln) (nI e) (srM so (z s)) (nI s) num wrg (nI c) (nI n) txt2 cls = some (1, nI e2, srM so2 (z s2), nI s2, num2, wrg', nI (c + 1), nI n2, cls') ∧
      Cl knd' nbs' cls' c n n2 ∧ (∀ t, t < c → knd' t = knd t) ∧ (∀ t, t < 3 * c → nbs' t = nbs t) ∧ ∀ t, t < 4 * c → cls' t = cls t := by
  have h0 := h.1
  obtain ⟨p1, p2, p3, -⟩ := ht.1
  obtain ⟨q, hq1, hq2, hq3⟩ := kindBoth h h' ht
  rw [f_X5_readClause, f_X7_readClause, ht.2.1, Option.bind_some, hq1, hq2, Option.bind_some, Option.bind_some, ix4]
  rcases hq3 with rfl | ⟨k, hk, rfl⟩
  · left
    rw [if_pos rfl, if_neg (by decide)]
    exact ⟨knd, s, _, _, _, _, _, _, _, _, _, _, by omega, rfl, rfl⟩
  · have qk : ¬ nI k = -1 := fun q => by
      have h1 : ¬ nI k < 0 := nI_pos (by omega)
      rw [q] at h1; exact h1 (by decide)
    rw [if_neg qk, if_pos (xin_n hc (by omega)), if_pos (nI_pos' (by omega)), if_pos (xin_n (by omega) (by omega)), nI_clamp (by omega), nI_clamp (by omega)]
    by_cases k0 : k = 0
    · subst k0
      obtain ⟨so1, s1, e1, num1, ht1⟩ := tok h h' p3
      obtain ⟨r1, r2, r3, -⟩ := ht1.1
      have z0 : (0 : Int32) = nI 0 := rfl
      have en : f_X5_numbersOf (nI 0) = nI 1 := by decide
      have ef : f_X5_readClause_34 1000 (nI n) (nI 0) (nI 1) (nI c) (upd knd c (nI 0)) (nI ln) txt 1000 0 (nI so) (nI s) (nI e) nbs = f_X5_readClause_34 1000 (nI n) (nI 0) (nI 1) (nI c) (upd knd c (nI 0)) (nI ln) txt (998 + 1 + 1) (nI 0) (nI so) (nI s) (nI e) nbs := rfl
      rw [if_pos nI_0, en, ef, f_X5_readClause_34, if_neg (nI_ge (by omega) (by omega)), ht1.2.1, Option.bind_some]
      dsimp only
      rcases numNet h ht1 hc hn (nbs := nbs) (wrg := wrg) with ⟨v, v1, v2, v3, v4⟩ | ⟨v3, v4⟩
      · right
        obtain ⟨so2, s2, e2, num2, ht2⟩ := tok h h' r3
        rw [v3, v4, Option.bind_some, Option.bind_some, if_neg n10, if_neg n10, nI_1, nI_1, f_X5_readClause_34, if_pos (nI_le (by omega) (by omega)), if_pos (xin_n (by omega) (by omega)), nI_clamp (by omega)]
        dsimp only
        rw [ht2.2.2.1, Option.bind_some, nI_1]
        refine ⟨_, _, e1, v, _, _, _, so2, s2, e2, num2, _, r3, ⟨v1, v2⟩, rfl, ht2, rfl, ⟨0, fun _ => 0, by omega, pk_us, ?_, Or.inl ⟨rfl, v1, v2, pk_us, pk_us⟩⟩, fun t ht => pk_un (by omega), fun t ht => pk_un (by omega), fun t ht => ?_⟩
        · rw [pk_un (by omega), pk_us]
        · rw [pk_un (by omega), pk_un (by omega)]
      · left
        rw [v3, v4, Option.bind_some, Option.bind_some, if_pos rfl, if_pos rfl]
        exact ⟨_, s1, _, _, _, _, _, _, _, _, _, _, by omega, rfl, rfl⟩
    · have en : f_X5_numbersOf (nI k) = nI (wdN k) := by
        have hx : (List.range 5).all (fun k => decide (k = 0 ∨ f_X5_numbersOf (nI k) = nI (wdN k))) = true := by decide +kernel
        exact (of_decide_eq_true (al2 hx k hk)).resolve_left k0
      have z0 : (0 : Int32) = nI 0 := rfl
      have z1 : (1 : Int32) = nI (0 + 1) := rfl
      have hw : wdN k ≤ 3 := by unfold wdN; split <;> omega
      rw [if_neg (nI_ne0 (by omega) (by omega)), en]
      have hL := rcLoop h h' (k := k) (c := c) (n := n) (by omega) hk hc hn (knd := upd knd c (nI k)) (wdN k) 0 1000 1000 e nbs (upd cls (4 * c) (nI k)) (fun _ => 0) (nI so) (nI s) wrg (by omega) (by omega) (by omega) p3 (fun j hj => absurd hj (by omega)) (fun j l hj => absurd hj (by omega))
      rcases hL with hb | ⟨tso', tst', p', nbs', cls', a', so2, s2, e2, num2, wrg', g1, g2, g3, g4, g5, g6, g7, g8⟩
      · exact Or.inl ⟨_, hb⟩
      · refine Or.inr ⟨tso', tst', p', n, upd knd c (nI k), nbs', cls', so2, s2, e2, num2, wrg', g1, hn, g2, g3, g4, ⟨k, a', hk, pk_us, ?_, Or.inr ⟨by omega, rfl, g5, g6⟩⟩, fun t ht => pk_un (by omega), g7, fun t ht => ?_⟩
        · rw [g8 _ (by omega), pk_us]
        · rw [g8 t (by omega), pk_un (by omega)]
end R4
