/-! ===== the reference's ways ===== -/
def rM (Op Tw : Nat → Nat) (x y : Nat) : Nat := b2 ((Op x).testBit y) + b2 ((Tw x).testBit y)
def IM (n : Nat) (Op Tw : Nat → Nat) : Prop := (∀ x, x < n → Op x < 2 ^ n ∧ Tw x < 2 ^ n) ∧ ∀ x y, x < n → y < n → (Tw x).testBit y = true → (Op x).testBit y = true
theorem rM_1 {n : Nat} {Op Tw : Nat → Nat} (h : IM n Op Tw) {x y : Nat} (hx : x < n) (hy : y < n) : 1 ≤ rM Op Tw x y ↔ (Op x).testBit y = true := by
  unfold rM
  cases ho : (Op x).testBit y <;> cases ht : (Tw x).testBit y
  · simp [b2]
  · have := h.2 x y hx hy ht; rw [ho] at this; exact absurd this (by decide)
  · simp [b2]
  · simp [b2]
theorem va_id {g : Nat → Nat} {q z : Nat} (h : g q = z) : va_up g q z = g := by
  funext x
  by_cases e : x = q
  · subst e; rw [vu_s, h]
  · rw [vu_n e]
section F3
variable {n : Nat} {Op Tw : Nat → Nat} {opn twc : Nat → Int32} {p q : Nat}
theorem go36 (hn : n ≤ 10) (hI : IM n Op Tw) (hR : RepU n opn twc Op Tw) (hp : p < n) (hq : q < n) (hpq : p ≠ q) {Z : Nat} {t0 t1 : Int32} (hz : t1 &&& t0 = nI Z) : f_X7_goAlong_36 (nI p) (nI q) t0 t1 (nI p) opn twc = some (upd (upd opn p (nI Z)) q (nI (Op q ||| 2 ^ p)), upd (upd twc p (nI (dif (Tw p) (2 ^ q)))) q (nI (if (Op q).testBit p = true then Tw q ||| 2 ^ p else Tw q))) := by
  have qp : xin (nI p) 10 = true := xin_n (by omega) (by omega)
  have qq : xin (nI q) 10 = true := xin_n (by omega) (by omega)
  have hqp : q ≠ p := fun e => hpq e.symm
  unfold f_X7_goAlong_36
  rw [if_pos qp, if_pos qp, if_pos qp, if_pos qq, if_pos qq, nI_clamp (show p < 2 ^ 31 by omega), nI_clamp (show q < 2 ^ 31 by omega), hz, pk_un hqp, pk_un hqp, (hR q hq).1, (hR q hq).2, (hR p hp).2, hasM (pow10 hn (hI.1 q hq).1) (by omega), if_pos qq, if_pos qq, if_pos qq, if_pos qq, if_pos qq, if_pos qq, bitC (by omega), bitC (by omega), nx_dif, nx_or, nx_or, or0]
  cases (Op q).testBit p
  · rw [if_pos (by rfl)]; rfl
  · rw [if_neg (by decide)]; rfl
theorem stepM (hn : n ≤ 10) (hI : IM n Op Tw) (hR : RepU n opn twc Op Tw) (hp : p < n) (hq : q < n) (hpq : p ≠ q) (h1 : 1 ≤ rM Op Tw p q) (h2 : rM Op Tw p q + rM Op Tw q p ≤ 2) : ∃ opn' twc' Op' Tw', f_X7_goAlong (nI p) (nI q) opn twc = some (opn', twc') ∧ RepU n opn' twc' Op' Tw' ∧ IM n Op' Tw' ∧ Push n (rM Op Tw) (rM Op' Tw') p q := by
  have qp : xin (nI p) 10 = true := xin_n (by omega) (by omega)
  have hqp : q ≠ p := fun e => hpq e.symm
  have l1 : ∀ x, x < n → Op x < 2 ^ n := fun x hx => (hI.1 x hx).1
  have l2 : ∀ x, x < n → Tw x < 2 ^ n := fun x hx => (hI.1 x hx).2
  have r1 : ∀ x, x < n → opn x = nI (Op x) := fun x hx => (hR x hx).1
  have r2 : ∀ x, x < n → twc x = nI (Tw x) := fun x hx => (hR x hx).2
  have ho : (Op p).testBit q = true := (rM_1 hI hp hq).mp h1
  have fin : ∀ (Z : Nat) (Op' Tw' : Nat → Nat), Z < 2 ^ n → Op' = va_up (va_up Op p Z) q (Op q ||| 2 ^ p) → Tw' = va_up (va_up Tw p (dif (Tw p) (2 ^ q))) q (if (Op q).testBit p = true then Tw q ||| 2 ^ p else Tw q) → f_X7_goAlong (nI p) (nI q) opn twc = some (upd (upd opn p (nI Z)) q (nI (Op q ||| 2 ^ p)), upd (upd twc p (nI (dif (Tw p) (2 ^ q)))) q (nI (if (Op q).testBit p = true then Tw q ||| 2 ^ p else Tw q))) → (∀ x y, x < n → y < n → (Tw' x).testBit y = true → (Op' x).testBit y = true) → Push n (rM Op Tw) (rM Op' Tw') p q → ∃ opn' twc' Op' Tw', f_X7_goAlong (nI p) (nI q) opn twc = some (opn', twc') ∧ RepU n opn' twc' Op' Tw' ∧ IM n Op' Tw' ∧ Push n (rM Op Tw) (rM Op' Tw') p q := by
    intro Z Op' Tw' hZ e1 e2 e3 e4 e5
    refine ⟨_, _, Op', Tw', e3, fun x hx => ?_, ⟨fun x hx => ?_, e4⟩, e5⟩
    · rw [e1, e2]
      exact ⟨rep_up (rep_up r1) x hx, rep_up (rep_up r2) x hx⟩
    · rw [e1, e2]
      refine ⟨lt_up (lt_up l1 hZ) (or_lt (l1 q hq) (two_lt hp)) x hx, lt_up (lt_up l2 (dif_lt (l2 p hp))) ?_ x hx⟩
      split
      · exact or_lt (l2 q hq) (two_lt hp)
      · exact l2 q hq
  have far : ∀ x y : Nat, ¬ (x = p ∧ y = q) → (decide (x = p) && decide (y = q)) = false := fun x y h => by
    cases hc : (decide (x = p) && decide (y = q))
    · rfl
    · rw [Bool.and_eq_true] at hc; exact absurd ⟨of_decide_eq_true hc.1, of_decide_eq_true hc.2⟩ h
  have far2 : ∀ x y : Nat, ¬ (x = q ∧ y = p) → (decide (x = q) && decide (y = p)) = false := fun x y h => by
    cases hc : (decide (x = q) && decide (y = p))
    · rfl
    · rw [Bool.and_eq_true] at hc; exact absurd ⟨of_decide_eq_true hc.1, of_decide_eq_true hc.2⟩ h
  cases ht : (Tw p).testBit q
  · have hgo : f_X7_goAlong (nI p) (nI q) opn twc = f_X7_goAlong_36 (nI p) (nI q) ((1 <<< (nI q &&& 31)) ^^^ (-1)) (opn p) (nI p) opn twc := by
      unfold f_X7_goAlong
      rw [if_pos qp, if_pos qp, nI_clamp (by omega), r2 p hp, hasM (pow10 hn (l2 p hp)) (by omega), ht, if_pos (by rfl)]
    have hz : opn p &&& (((1 : Int32) <<< (nI q &&& 31)) ^^^ (-1)) = nI (dif (Op p) (2 ^ q)) := by rw [r1 p hp, bitC (by omega), nx_dif]
    have eT : va_up Tw p (dif (Tw p) (2 ^ q)) = va_up Tw p (dif (Tw p) (2 ^ q)) := rfl
    have q1 : (va_up Op p (dif (Op p) (2 ^ q))) q = Op q := vu_n hqp
    have q2 : (va_up Tw p (dif (Tw p) (2 ^ q))) q = Tw q := vu_n hqp
    cases hq' : (Op q).testBit p
    · have htq : (Tw q).testBit p = false := by
        cases h : (Tw q).testBit p
        · rfl
        · have := hI.2 q p hq hp h; rw [hq'] at this; exact absurd this (by decide)
      refine fin (dif (Op p) (2 ^ q)) (va_up (va_up Op p (dif (Op p) (2 ^ q))) q ((va_up Op p (dif (Op p) (2 ^ q))) q ||| 2 ^ p)) (va_up Tw p (dif (Tw p) (2 ^ q))) (dif_lt (l1 p hp)) (by rw [q1]) (by rw [hq', if_neg (by decide), va_id q2]) (by rw [hgo, go36 hn hI hR hp hq hpq hz]) (fun x y hx hy h => ?_) (fun x y hx hy => ?_)
      · rw [tb_clr, Bool.and_eq_true] at h
        rw [tb_set, tb_clr, hI.2 x y hx hy h.1, Bool.true_and, h.2, Bool.true_or]
      · simp only [rM, tb_set, tb_clr]
        by_cases e1 : x = p ∧ y = q
        · obtain ⟨rfl, rfl⟩ := e1
          simp [hpq, hqp, ho, ht, b2]
        · by_cases e2 : x = q ∧ y = p
          · obtain ⟨rfl, rfl⟩ := e2
            simp [hpq, hqp, hq', htq, b2]
          · rw [far x y e1, far2 x y e2, if_neg e1, if_neg e2, Bool.not_false, Bool.and_true, Bool.and_true, Bool.or_false]
    · have htq : (Tw q).testBit p = false := by
        cases h : (Tw q).testBit p
        · rfl
        · unfold rM at h2; rw [ho, ht, hq', h] at h2; exact absurd h2 (by decide)
      refine fin (dif (Op p) (2 ^ q)) (va_up (va_up Op p (dif (Op p) (2 ^ q))) q ((va_up Op p (dif (Op p) (2 ^ q))) q ||| 2 ^ p)) (va_up (va_up Tw p (dif (Tw p) (2 ^ q))) q ((va_up Tw p (dif (Tw p) (2 ^ q))) q ||| 2 ^ p)) (dif_lt (l1 p hp)) (by rw [q1]) (by rw [hq', if_pos rfl, q2]) (by rw [hgo, go36 hn hI hR hp hq hpq hz]) (fun x y hx hy h => ?_) (fun x y hx hy => ?_)
      · rw [tb_set, tb_clr, Bool.or_eq_true, Bool.and_eq_true] at h
        rw [tb_set, tb_clr]
        rcases h with h | h
        · rw [hI.2 x y hx hy h.1, Bool.true_and, h.2, Bool.true_or]
        · rw [h, Bool.or_true]
      · simp only [rM, tb_set, tb_clr]
        by_cases e1 : x = p ∧ y = q
        · obtain ⟨rfl, rfl⟩ := e1
          simp [hpq, hqp, ho, ht, b2]
        · by_cases e2 : x = q ∧ y = p
          · obtain ⟨rfl, rfl⟩ := e2
            simp [hpq, hqp, hq', htq, b2]
          · rw [far x y e1, far2 x y e2, if_neg e1, if_neg e2, Bool.not_false, Bool.and_true, Bool.and_true, Bool.or_false, Bool.or_false]
  · have hq' : (Op q).testBit p = false := by
      cases h : (Op q).testBit p
      · rfl
      · unfold rM at h2
        rw [ho, ht, h] at h2
        have : b2 true = 1 := rfl
        omega
    have htq : (Tw q).testBit p = false := by
      cases h : (Tw q).testBit p
      · rfl
      · have := hI.2 q p hq hp h; rw [hq'] at this; exact absurd this (by decide)
    have hgo : f_X7_goAlong (nI p) (nI q) opn twc = f_X7_goAlong_36 (nI p) (nI q) (opn p) (opn p) (nI p) opn twc := by
      unfold f_X7_goAlong
      rw [if_pos qp, if_pos qp, nI_clamp (by omega), r2 p hp, hasM (pow10 hn (l2 p hp)) (by omega), ht, if_neg (by decide), if_pos qp]
    have hz : opn p &&& opn p = nI (Op p) := by rw [r1 p hp, nx_and, Nat.and_self]
    have q2 : (va_up Tw p (dif (Tw p) (2 ^ q))) q = Tw q := vu_n hqp
    refine fin (Op p) (va_up Op q (Op q ||| 2 ^ p)) (va_up Tw p (dif (Tw p) (2 ^ q))) (l1 p hp) (by rw [va_id (g := Op) (q := p) rfl]) (by rw [hq', if_neg (by decide), va_id q2]) (by rw [hgo, go36 hn hI hR hp hq hpq hz]) (fun x y hx hy h => ?_) (fun x y hx hy => ?_)
    · rw [tb_clr, Bool.and_eq_true] at h
      rw [tb_set, hI.2 x y hx hy h.1, Bool.true_or]
    · simp only [rM, tb_set, tb_clr]
      by_cases e1 : x = p ∧ y = q
      · obtain ⟨rfl, rfl⟩ := e1
        simp [hpq, hqp, ho, ht, b2]
      · by_cases e2 : x = q ∧ y = p
        · obtain ⟨rfl, rfl⟩ := e2
          simp [hpq, hqp, hq', htq, b2]
        · rw [far x y e1, far2 x y e2, if_neg e1, if_neg e2, Bool.not_false, Bool.and_true, Bool.or_false]
end F3
/-- who has been come to: X; by whom: byy -/
def BY (n u X : Nat) (byy : Nat → Int32) (rk : Nat → Nat) (r : Nat → Nat → Nat) : Prop :=
  X < 2 ^ n ∧ X.testBit u = true ∧ (∀ y, y < n → X.testBit y = false → byy y = -1) ∧ (∀ y, y < n → X.testBit y = true → ∃ p, p < n ∧ byy y = nI p) ∧ Came n u X byy r rk ∧ ∀ y, X.testBit y = true → rk y < pc X
section F4
variable {n u v : Nat} {Op Tw : Nat → Nat} {opn : Nat → Int32}
theorem BY_add (hn : n ≤ 10) {X : Nat} {byy : Nat → Int32} {rk : Nat → Nat} {r : Nat → Nat → Nat} (h : BY n u X byy rk r) {p j : Nat} (hp : p < n) (hj : j < n) (hX : X.testBit p = true) (hXj : X.testBit j = false) (hr : 1 ≤ r p j) : BY n u (X ||| 2 ^ j) (upd byy j (nI p)) (va_up rk j (pc X)) r ∧ pc (X ||| 2 ^ j) = pc X + 1 := by
  obtain ⟨b1, b2, b3, b4, b5, b6⟩ := h
  have hpc := pcs (pow10 hn b1) (show j < 10 by omega) hXj
  have tb : ∀ y, (X ||| 2 ^ j).testBit y = (X.testBit y || decide (y = j)) := fun y => by rw [Nat.testBit_or, tb2]
  refine ⟨⟨or_lt b1 (two_lt hj), by rw [tb, b2, Bool.true_or], fun y hy h => ?_, fun y hy h => ?_, fun y hy h e => ?_, fun y h => ?_⟩, hpc⟩
  · rw [tb, Bool.or_eq_false_iff] at h
    have hne : y ≠ j := of_decide_eq_false h.2
    rw [pk_un hne]; exact b3 y hy h.1
  · by_cases ey : y = j
    · subst ey; exact ⟨p, hp, pk_us⟩
    · rw [tb, decide_eq_false ey, Bool.or_false] at h
      rw [pk_un ey]; exact b4 y hy h
  · by_cases ey : y = j
    · subst ey
      have hne : p ≠ y := fun e => by rw [e, hXj] at hX; exact absurd hX (by decide)
      refine ⟨p, hp, pk_us, by rw [tb, hX, Bool.true_or], hr, ?_⟩
      rw [vu_s, vu_n hne]; exact b6 p hX
    · rw [tb, decide_eq_false ey, Bool.or_false] at h
      obtain ⟨a, a1, a2, a3, a4, a5⟩ := b5 y hy h e
      have hne : a ≠ j := fun e => by rw [e, hXj] at a3; exact absurd a3 (by decide)
      refine ⟨a, a1, by rw [pk_un ey]; exact a2, by rw [tb, a3, Bool.true_or], a4, ?_⟩
      rw [vu_n ey, vu_n hne]; exact a5
  · by_cases ey : y = j
    · subst ey; rw [vu_s]; omega
    · rw [tb, decide_eq_false ey, Bool.or_false] at h
      rw [vu_n ey]; have := b6 y h; omega
theorem m1lt : (-1 : Int32) < 0 := by decide
theorem bcase (b : Bool) : b = false ∨ b = true := by cases b <;> simp
theorem fs64 (hn : n ≤ 10) (hI : IM n Op Tw) (hR : ∀ x, x < n → opn x = nI (Op x)) {p : Nat} (hp : p < n) (k52 : Int32 → Int32 → (Nat → Int32) → Option (Int32 × (Nat → Int32))) : ∀ (c j m X : Nat) (byy : Nat → Int32) (rk : Nat → Nat) (f : Bool), j + c = n → c < m → BY n u X byy rk (rM Op Tw) → ∃ Y byy' rk' f', f_X7_findsWay_64 k52 (nI p) (nI n) opn m (bI f) (nI j) byy = k52 (bI f') (nI (p + 1)) byy' ∧ BY n u Y byy' rk' (rM Op Tw) ∧ ((f' = f ∧ Y = X ∧ (X.testBit p = true → ∀ y, j ≤ y → y < n → (Op p).testBit y = true → X.testBit y = true)) ∨ (f' = true ∧ pc X < pc Y)) := by
  intro c
  induction c with
  | zero =>
    intro j m X byy rk f h1 h2 hB
    obtain ⟨m, rfl⟩ : ∃ k, m = k + 1 := ⟨m - 1, by omega⟩
    refine ⟨X, byy, rk, f, ?_, hB, Or.inl ⟨rfl, rfl, fun _ y a b => absurd b (by omega)⟩⟩
    rw [f_X7_findsWay_64, if_pos (nI_le (by omega) (by omega)), nI_1]
  | succ c ih =>
    intro j m X byy rk f h1 h2 hB
    obtain ⟨m, rfl⟩ : ∃ k, m = k + 1 := ⟨m - 1, by omega⟩
    have hj : j < n := by omega
    have qp : xin (nI p) 10 = true := xin_n (by omega) (by omega)
    have qj : xin (nI j) 10 = true := xin_n (by omega) (by omega)
    have skip : (X.testBit p = true → (Op p).testBit j = true → X.testBit j = true) → f_X7_findsWay_64 k52 (nI p) (nI n) opn (m + 1) (bI f) (nI j) byy = f_X7_findsWay_64 k52 (nI p) (nI n) opn m (bI f) (nI j + 1) byy → ∃ Y byy' rk' f', f_X7_findsWay_64 k52 (nI p) (nI n) opn (m + 1) (bI f) (nI j) byy = k52 (bI f') (nI (p + 1)) byy' ∧ BY n u Y byy' rk' (rM Op Tw) ∧ ((f' = f ∧ Y = X ∧ (X.testBit p = true → ∀ y, j ≤ y → y < n → (Op p).testBit y = true → X.testBit y = true)) ∨ (f' = true ∧ pc X < pc Y)) := by
      intro hc he
      obtain ⟨Y, byy', rk', f', e1, e2, e3⟩ := ih (j + 1) m X byy rk f (by omega) (by omega) hB
      refine ⟨Y, byy', rk', f', by rw [he, nI_1, e1], e2, ?_⟩
      rcases e3 with ⟨a, b, d⟩ | e3
      · refine Or.inl ⟨a, b, fun hX y h1 h2 h3 => ?_⟩
        by_cases ey : y = j
        · subst ey; exact hc hX h3
        · exact d hX y (by omega) h2 h3
      · exact Or.inr e3
    rcases bcase (X.testBit p) with hXp | hXp
    · refine skip (fun h => by rw [hXp] at h; exact absurd h (by decide)) ?_
      rw [f_X7_findsWay_64, if_neg (nI_ge hj (by omega)), if_pos qp, nI_clamp (show p < 2 ^ 31 by omega), hB.2.2.1 p hp hXp, if_pos m1lt]
    · obtain ⟨a, a1, a2⟩ := hB.2.2.2.1 p hp hXp
      rcases bcase (X.testBit j) with hXj | hXj
      · have hOb := hasM (pow10 hn (hI.1 p hp).1) (show j < 10 by omega)
        rcases bcase ((Op p).testBit j) with ho | ho
        · rw [ho] at hOb
          refine skip (fun _ h => by rw [ho] at h; exact absurd h (by decide)) ?_
          rw [f_X7_findsWay_64, if_neg (nI_ge hj (by omega)), if_pos qp, nI_clamp (show p < 2 ^ 31 by omega), a2, if_neg (nI_pos (by omega)), if_pos qj, nI_clamp (show j < 2 ^ 31 by omega), hB.2.2.1 j hj hXj, if_neg (show ¬ (0 : Int32) ≤ -1 by decide), if_pos qp, hR p hp, hOb, if_pos (by rfl)]
        · rw [ho] at hOb
          obtain ⟨hB', hpc⟩ := BY_add hn hB hp hj hXp hXj ((rM_1 hI hp hj).mpr ho)
          obtain ⟨Y, byy', rk', f', e1, e2, e3⟩ := ih (j + 1) m (X ||| 2 ^ j) (upd byy j (nI p)) (va_up rk j (pc X)) true (by omega) (by omega) hB'
          refine ⟨Y, byy', rk', f', ?_, e2, Or.inr ?_⟩
          · rw [f_X7_findsWay_64, if_neg (nI_ge hj (by omega)), if_pos qp, nI_clamp (show p < 2 ^ 31 by omega), a2, if_neg (nI_pos (by omega)), if_pos qj, nI_clamp (show j < 2 ^ 31 by omega), hB.2.2.1 j hj hXj, if_neg (show ¬ (0 : Int32) ≤ -1 by decide), if_pos qp, hR p hp, hOb, if_neg (by decide), if_pos qj, nI_1]
            exact e1
          · rcases e3 with ⟨a, b, -⟩ | ⟨a, b⟩
            · exact ⟨a, by rw [b]; omega⟩
            · exact ⟨a, by omega⟩
      · obtain ⟨d, d1, d2⟩ := hB.2.2.2.1 j hj hXj
        refine skip (fun _ _ => hXj) ?_
        rw [f_X7_findsWay_64, if_neg (nI_ge hj (by omega)), if_pos qp, nI_clamp (show p < 2 ^ 31 by omega), a2, if_neg (nI_pos (by omega)), if_pos qj, nI_clamp (show j < 2 ^ 31 by omega), d2, if_pos (nI_pos' (by omega))]
theorem fs52 (hn : n ≤ 10) (hI : IM n Op Tw) (hR : ∀ x, x < n → opn x = nI (Op x)) (k34 : Int32 → (Nat → Int32) → Option (Int32 × (Nat → Int32))) : ∀ (c i m X : Nat) (byy : Nat → Int32) (rk : Nat → Nat) (f : Bool), i + c = n → c < m → BY n u X byy rk (rM Op Tw) → ∃ Y byy' rk' f', f_X7_findsWay_52 k34 1000 (nI n) opn m (bI f) (nI i) byy = k34 (bI f') byy' ∧ BY n u Y byy' rk' (rM Op Tw) ∧ ((f' = f ∧ Y = X ∧ ∀ p y, i ≤ p → p < n → y < n → X.testBit p = true → (Op p).testBit y = true → X.testBit y = true) ∨ (f' = true ∧ pc X < pc Y)) := by
  intro c
  induction c with
  | zero =>
    intro i m X byy rk f h1 h2 hB
    obtain ⟨m, rfl⟩ : ∃ k, m = k + 1 := ⟨m - 1, by omega⟩
    refine ⟨X, byy, rk, f, ?_, hB, Or.inl ⟨rfl, rfl, fun p y a b => absurd b (by omega)⟩⟩
    rw [f_X7_findsWay_52, if_pos (nI_le (by omega) (by omega))]
  | succ c ih =>
    intro i m X byy rk f h1 h2 hB
    obtain ⟨m, rfl⟩ : ∃ k, m = k + 1 := ⟨m - 1, by omega⟩
    obtain ⟨X1, byy1, rk1, f1, e1, e2, e3⟩ := fs64 (u := u) hn hI hR (show i < n by omega) (fun x3 x4 byy => f_X7_findsWay_52 k34 1000 (nI n) opn m x3 x4 byy) n 0 1000 X byy rk f (by omega) (by omega) hB
    rw [nI_0] at e1
    obtain ⟨Y, byy', rk', f', g1, g2, g3⟩ := ih (i + 1) m X1 byy1 rk1 f1 (by omega) (by omega) e2
    refine ⟨Y, byy', rk', f', ?_, g2, ?_⟩
    · rw [f_X7_findsWay_52, if_neg (nI_ge (by omega) (by omega)), e1]
      exact g1
    · rcases e3 with ⟨a, b, d⟩ | ⟨a, b⟩
      · subst b
        rcases g3 with ⟨a', b', d'⟩ | ⟨a', b'⟩
        · refine Or.inl ⟨a'.trans a, b', fun p y h3 h4 h5 h6 h7 => ?_⟩
          by_cases ep : p = i
          · subst ep; exact d h6 y (by omega) h5 h7
          · exact d' p y (by omega) h4 h5 h6 h7
        · exact Or.inr ⟨a', b'⟩
      · rcases g3 with ⟨a', b', -⟩ | ⟨a', b'⟩
        · exact Or.inr ⟨a'.trans a, by rw [b']; exact b⟩
        · exact Or.inr ⟨a', by omega⟩
theorem fs34 (hn : n ≤ 10) (hv : v < n) (hI : IM n Op Tw) (hR : ∀ x, x < n → opn x = nI (Op x)) : ∀ (c m X : Nat) (byy : Nat → Int32) (rk : Nat → Nat), 11 ≤ pc X + c → c < m → BY n u X byy rk (rM Op Tw) → ∃ Y byy' rk', f_X7_findsWay_34 1000 (nI v) (nI n) opn m 1 byy = some (bI (Y.testBit v), byy') ∧ BY n u Y byy' rk' (rM Op Tw) ∧ (Y.testBit v = false → Shut n (rM Op Tw) u v (fun x => Y.testBit x)) := by
  intro c
  induction c with
  | zero =>
    intro m X byy rk h1 h2 hB
    have := pcn_le X 10
    have : pc X = pcn 10 X := rfl
    omega
  | succ c ih =>
    intro m X byy rk h1 h2 hB
    obtain ⟨m, rfl⟩ : ∃ k, m = k + 1 := ⟨m - 1, by omega⟩
    have qv : xin (nI v) 10 = true := xin_n (by omega) (by omega)
    rw [f_X7_findsWay_34, if_neg (by decide), if_pos qv, nI_clamp (by omega)]
    cases hXv : X.testBit v
    · obtain ⟨Y, byy', rk', f', e1, e2, e3⟩ := fs52 (u := u) hn hI hR (fun x3 byy => f_X7_findsWay_34 1000 (nI v) (nI n) opn m x3 byy) n 0 1000 X byy rk false (by omega) (by omega) hB
      rw [nI_0, show bI false = 0 from rfl] at e1
      rw [hB.2.2.1 v hv hXv, if_neg (show ¬ (0 : Int32) ≤ -1 by decide), e1]
      rcases e3 with ⟨a, b, d⟩ | ⟨a, b⟩
      · subst a b
        obtain ⟨m, rfl⟩ : ∃ k, m = k + 1 := ⟨m - 1, by omega⟩
        refine ⟨Y, byy', rk', ?_, e2, fun _ => ⟨e2.2.1, hXv, fun x y hx hy h3 h4 => ?_⟩⟩
        · rw [f_X7_findsWay_34, if_pos (by rfl), if_pos qv, nI_clamp (by omega), e2.2.2.1 v hv hXv, if_pos m1lt, hXv]
          rfl
        · have h3' : Y.testBit x = true := h3
          have h4' : Y.testBit y = false := h4
          by_cases h5 : 1 ≤ rM Op Tw x y
          · have h6 := d x y (by omega) hx hy h3' ((rM_1 hI hx hy).mp h5)
            rw [h4'] at h6; exact absurd h6 (by decide)
          · omega
      · subst a
        exact ih m Y byy' rk' (by omega) (by omega) e2
    · obtain ⟨d, d1, d2⟩ := hB.2.2.2.1 v hv hXv
      rw [d2, if_pos (nI_pos' (by omega)), if_pos qv, if_neg (nI_pos (by omega))]
      exact ⟨X, byy, rk, by rw [hXv]; rfl, hB, fun h => by rw [hXv] at h; exact absurd h (by decide)⟩
theorem fs2 (hn : n ≤ 10) (hu : u < n) {x2 : Int32} : ∀ (c i m : Nat) (byy : Nat → Int32), i + c = n → c < m → ∃ Q, f_X7_findsWay_2 1000 (nI u) x2 (nI n) opn m (nI i) byy = f_X7_findsWay_34 1000 x2 (nI n) opn 1000 1 Q ∧ ∀ y, y < n → Q y = if i ≤ y then (if y = u then nI u else -1) else byy y := by
  intro c
  induction c with
  | zero =>
    intro i m byy h1 h2
    obtain ⟨m, rfl⟩ : ∃ k, m = k + 1 := ⟨m - 1, by omega⟩
    refine ⟨byy, by rw [f_X7_findsWay_2, if_pos (nI_le (by omega) (by omega))], fun y hy => ?_⟩
    rw [if_neg (by omega)]
  | succ c ih =>
    intro i m byy h1 h2
    obtain ⟨m, rfl⟩ : ∃ k, m = k + 1 := ⟨m - 1, by omega⟩
    have qi : xin (nI i) 10 = true := xin_n (by omega) (by omega)
    obtain ⟨Q, e, hQ⟩ := ih (i + 1) m (upd byy i (if i = u then nI u else -1)) (by omega) (by omega)
    refine ⟨Q, ?_, fun y hy => ?_⟩
    · rw [f_X7_findsWay_2, if_neg (nI_ge (by omega) (by omega)), if_pos qi, if_pos qi, nI_clamp (by omega), nI_1, ← e]
      by_cases ei : i = u
      · rw [if_pos (by rw [ei]), if_pos ei]
      · rw [if_neg (fun h => ei ((nI_eq (by omega) (by omega)).mp h)), if_neg ei]
    · rw [hQ y hy]
      by_cases h : y = i
      · rw [if_neg (show ¬ i + 1 ≤ y by omega), if_pos (show i ≤ y by omega), h, pk_us]
      · rw [pk_un h]
        by_cases h3 : i + 1 ≤ y
        · rw [if_pos h3, if_pos (show i ≤ y by omega)]
        · rw [if_neg h3, if_neg (show ¬ i ≤ y by omega)]
theorem findsM (hn : n ≤ 10) (hu : u < n) (hv : v < n) (hI : IM n Op Tw) (hR : ∀ x, x < n → opn x = nI (Op x)) (byy : Nat → Int32) : ∃ Y byy' rk', f_X7_findsWay 1000 (nI u) (nI v) (nI n) opn byy = some (bI (Y.testBit v), byy') ∧ BY n u Y byy' rk' (rM Op Tw) ∧ (Y.testBit v = false → Shut n (rM Op Tw) u v (fun x => Y.testBit x)) := by
  obtain ⟨Q, e, hQ⟩ := fs2 (opn := opn) hn hu (x2 := nI v) n 0 1000 byy (by omega) (by omega)
  have tu : ∀ y, (2 ^ u).testBit y = decide (y = u) := fun y => tb2 u y
  have hp1 : pc (2 ^ u) = 1 := by
    have := pcs (a := 0) (k := u) (by omega) (by omega) (Nat.zero_testBit u)
    rw [Nat.zero_or] at this
    rw [this]; rfl
  have hB : BY n u (2 ^ u) Q (fun _ => 0) (rM Op Tw) := by
    refine ⟨two_lt hu, by rw [tu]; simp, fun y hy h => ?_, fun y hy h => ?_, fun y hy h e => ?_, fun y h => by rw [hp1]; exact Nat.one_pos⟩
    · rw [tu] at h
      rw [hQ y hy, if_pos (by omega), if_neg (of_decide_eq_false h)]
    · rw [tu] at h
      exact ⟨u, hu, by rw [hQ y hy, if_pos (by omega), if_pos (of_decide_eq_true h)]⟩
    · rw [tu] at h; exact absurd (of_decide_eq_true h) e
  obtain ⟨Y, byy', rk', e1, e2⟩ := fs34 (u := u) hn hv hI hR 10 1000 (2 ^ u) Q (fun _ => 0) (by rw [hp1]; omega) (by omega) hB
  refine ⟨Y, byy', rk', ?_, e2⟩
  unfold f_X7_findsWay
  rw [nI_0] at e
  rw [e, e1]
end F4
