/-! ===== the text: the numbers of a clause ===== -/
theorem ix3 (c j : Nat) : nI c * 3 + nI j = nI (3 * c + j) := by
  rw [show (3 : Int32) = nI 3 from rfl, pk_mul, nI_add, Nat.mul_comm]
theorem ix4 (c : Nat) : (4 : Int32) * nI c = nI (4 * c) := by
  rw [show (4 : Int32) = nI 4 from rfl, pk_mul]
theorem inLH {v lo hi : Nat} (h1 : v < 1000) (h2 : lo < 1000) (h3 : hi < 1000) : f_X7_in (Int32.toInt64 (nI v)) (Int32.toInt64 (nI lo)) (Int32.toInt64 (nI hi)) = bI (decide (lo ≤ v ∧ v ≤ hi)) := by
  by_cases h : lo ≤ v ∧ v ≤ hi
  · rw [decide_eq_true h]
    refine inM1 ?_ ?_
    · rw [Int32.toInt_toInt64, Int32.toInt_toInt64, nI_toInt (by omega), nI_toInt (by omega)]; omega
    · rw [Int32.toInt_toInt64, Int32.toInt_toInt64, nI_toInt (by omega), nI_toInt (by omega)]; omega
  · rw [decide_eq_false h]
    refine inM0 ?_
    rw [Int32.toInt_toInt64, Int32.toInt_toInt64, Int32.toInt_toInt64, nI_toInt (by omega), nI_toInt (by omega), nI_toInt (by omega)]
    omega
/-- none of a j .. a (j + d - 1) is v -/
def fresh (a : Nat → Nat) (v : Nat) : Nat → Nat → Bool
  | 0, _ => true
  | d + 1, j => if a j = v then false else fresh a v d (j + 1)
theorem fresh_ne {a : Nat → Nat} {v : Nat} : ∀ d j, fresh a v d j = true → ∀ t, j ≤ t → t < j + d → a t ≠ v := by
  intro d
  induction d with
  | zero => intro j _ t h1 h2; omega
  | succ d ih =>
    intro j h t h1 h2
    rw [fresh] at h
    by_cases e : a j = v
    · rw [if_pos e] at h; exact absurd h (by decide)
    · rw [if_neg e] at h
      by_cases ej : t = j
      · subst ej; exact e
      · exact ih (j + 1) h t (by omega) (by omega)
def loK (k : Nat) : Nat := if k = 0 then 2 else 0
def hiK (k n : Nat) : Nat := if k = 0 then 10 else n - 1
section R3
variable {ln : Nat} {z : Nat → Nat} {txt txt2 : Nat → Int32} {p so s e : Nat} {num : Int32}
theorem t73 {i v c : Nat} {a : Nat → Nat} {nbs : Nat → Int32} (hc : c < 24) (hi : i ≤ 2) (hv : v < 1000) (ha : ∀ j, j < i → nbs (3 * c + j) = nI (a j) ∧ a j < 1000) : ∀ (d j m : Nat), j + d = i → d < m → f_X5_takeNumber_73 (nI i) (nI v) (nI c) nbs m (nI j) = if fresh a v d j = true then some (1, upd nbs (3 * c + i) (nI v)) else some (0, nbs) := by
  intro d
  induction d with
  | zero =>
    intro j m h1 h2
    obtain ⟨m, rfl⟩ : ∃ k, m = k + 1 := ⟨m - 1, by omega⟩
    rw [f_X5_takeNumber_73, if_pos (nI_le (by omega) (by omega)), ix3, if_pos (xin_n (by omega) (by omega)), nI_clamp (by omega), fresh, if_pos rfl]
  | succ d ih =>
    intro j m h1 h2
    obtain ⟨m, rfl⟩ : ∃ k, m = k + 1 := ⟨m - 1, by omega⟩
    obtain ⟨a1, a2⟩ := ha j (by omega)
    rw [f_X5_takeNumber_73, if_neg (nI_ge (by omega) (by omega)), f_X5_numberOf, ix3, if_pos (xin_n (by omega) (by omega)), nI_clamp (by omega), Option.bind_some, a1, nI_1, fresh]
    by_cases e : a j = v
    · rw [if_pos (by rw [e]), if_pos e, if_neg (by decide)]
    · rw [if_neg (fun q => e ((nI_eq (by omega) (by omega)).mp q)), if_neg e]
      exact ih (j + 1) m (by omega) (by omega)
theorem t18 {i v c : Nat} {a : Nat → Nat} {cls : Nat → Int32} {plc srt frm wrg : Int32} (hc : c < 24) (hi : i ≤ 2) (hv : v < 1000) (ha : ∀ j, j < i → cls (4 * c + 1 + j) = nI (a j) ∧ a j < 1000) : ∀ (d j m : Nat), j + d = i → d < m → f_X7_takesPoint_18 (nI (i + 1)) (nI (4 * c)) plc srt frm (nI v) wrg cls m (nI (j + 1)) = if fresh a v d j = true then some (1, plc, srt, frm, nI v, wrg, upd cls (4 * c + 1 + i) (nI v)) else some (0, plc, srt, frm, nI v, frm, cls) := by
  intro d
  induction d with
  | zero =>
    intro j m h1 h2
    obtain ⟨m, rfl⟩ : ∃ k, m = k + 1 := ⟨m - 1, by omega⟩
    rw [f_X7_takesPoint_18, if_pos (nI_le (by omega) (by omega)), nI_add, if_pos (xin_n (by omega) (by omega)), nI_clamp (by omega), fresh, if_pos rfl, show 4 * c + (i + 1) = 4 * c + 1 + i by omega]
  | succ d ih =>
    intro j m h1 h2
    obtain ⟨m, rfl⟩ : ∃ k, m = k + 1 := ⟨m - 1, by omega⟩
    obtain ⟨a1, a2⟩ := ha j (by omega)
    rw [f_X7_takesPoint_18, if_neg (nI_ge (by omega) (by omega)), nI_add, if_pos (xin_n (by omega) (by omega)), nI_clamp (by omega), show 4 * c + (j + 1) = 4 * c + 1 + j by omega, a1, nI_1, fresh]
    by_cases e : a j = v
    · rw [if_pos (by rw [e]), if_pos e, if_neg (by decide)]
      rfl
    · rw [if_neg (fun q => e ((nI_eq (by omega) (by omega)).mp q)), if_neg e]
      exact ih (j + 1) m (by omega) (by omega)
theorem TOK.so_lt (ht : TOK ln z txt txt2 p so s e num) : so < 4 := by
  obtain ⟨⟨p1, p2, p3, p4⟩, -⟩ := ht
  rcases p4 with p4 | p4
  · omega
  · have := sN_cases (z s); omega
theorem TOK.sr2 (h : TX ln z txt) (ht : TOK ln z txt txt2 p so s e num) : srM so (z s) = 2 ↔ so = 2 := by
  have h4 := ht.so_lt
  obtain ⟨⟨p1, p2, p3, p4⟩, -⟩ := ht
  unfold srM
  by_cases e3 : so = 3
  · rw [if_pos e3]
    rcases p4 with p4 | p4
    · omega
    · exact ⟨fun q => absurd q (srM_3 (h.2 s (by omega)).1).2.2.1, fun q => by omega⟩
  · rw [if_neg e3]
    exact nI_eq (b := 2) (by omega) (by omega)
/-- a number between lo and hi, or none: the reference -/
theorem numM (h : TX ln z txt) (ht : TOK ln z txt txt2 p so s e num) {lo hi : Nat} (hlo : lo < 1000) (hhi : hi < 1000) {wrg : Int32} :
    (∃ v, v < 100 ∧ lo ≤ v ∧ v ≤ hi ∧ so = 2 ∧ e - s ≤ 2 ∧ f_X5_tokenNumber 1000 (nI s) (nI e) txt = some (nI v) ∧ f_X7_takesNumber 1000 (nI lo) (nI hi) (nI ln) (nI p) wrg txt2 = some (1, nI e, srM so (z s), nI s, nI v, wrg)) ∨
    (f_X7_takesNumber 1000 (nI lo) (nI hi) (nI ln) (nI p) wrg txt2 = some (0, nI e, srM so (z s), nI s, num, nI s) ∧ (so ≠ 2 ∨ 2 < e - s ∨ (so = 2 ∧ e - s ≤ 2 ∧ ∃ v, v < 100 ∧ f_X5_tokenNumber 1000 (nI s) (nI e) txt = some (nI v) ∧ ¬ (lo ≤ v ∧ v ≤ hi)))) := by
  have h2 := ht.sr2 h
  have h0 := h.1
  obtain ⟨⟨p1, p2, p3, p4⟩, -, hM, hN⟩ := ht
  rw [f_X7_takesNumber, hM, Option.bind_some]
  simp only [f_X7_faults, ↓reduceIte]
  by_cases e2 : so = 2
  · rw [if_pos (h2.mpr e2), pk_sub p2]
    by_cases e3 : e - s ≤ 2
    · obtain ⟨v, v1, rfl, v3⟩ := hN e2 e3
      rw [if_neg (show ¬ (3 : Int32) ≤ nI (e - s) from nI_ge (b := 3) (by omega) (by omega)), inLH (by omega) hlo hhi]
      by_cases e4 : lo ≤ v ∧ v ≤ hi
      · left
        refine ⟨v, v1, e4.1, e4.2, e2, e3, v3, ?_⟩
        rw [if_neg (by simp [e4, bI])]
      · right
        refine ⟨?_, Or.inr (Or.inr ⟨e2, e3, v, v1, v3, e4⟩)⟩
        rw [if_pos (by simp [e4, bI])]
    · right
      refine ⟨?_, Or.inr (Or.inl (by omega))⟩
      rw [if_pos (show (3 : Int32) ≤ nI (e - s) from nI_le (a := 3) (by omega) (by omega))]
  · right
    refine ⟨?_, Or.inl e2⟩
    rw [if_neg (fun q => e2 (h2.mp q))]
/-- the class takes a number -/
theorem numC (h : TX ln z txt) (ht : TOK ln z txt txt2 p so s e num) {k i n c v : Nat} (hk : k < 5) (hn : 2 ≤ n ∧ n ≤ 10) {nbs : Nat → Int32} (e2 : so = 2) (e3 : e - s ≤ 2) (hv : v < 100) (hN : f_X5_tokenNumber 1000 (nI s) (nI e) txt = some (nI v)) : f_X5_takeNumber 1000 (nI k) (nI i) (nI n) (nI c) (nI so) (nI s) (nI e) nbs txt = if loK k ≤ v ∧ v ≤ hiK k n then f_X5_takeNumber_73 (nI i) (nI v) (nI c) nbs 1000 0 else some (0, nbs) := by
  have h0 := h.1
  obtain ⟨⟨p1, p2, p3, p4⟩, -⟩ := ht
  subst e2
  have n1 : nI n - 1 = nI (n - 1) := pk_sub (b := 1) (by omega)
  rw [f_X5_takeNumber, if_pos (show nI 2 = 2 from rfl), pk_sub p2, if_pos (show nI (e - s) ≤ 2 from nI_le (b := 2) e3 (by omega)), hN, Option.bind_some, f_X5_takeNumber_38, f_X5_takeNumber_38, n1]
  by_cases k0 : k = 0
  · subst k0
    rw [if_pos nI_0, if_pos nI_0, show loK 0 = 2 from rfl, show hiK 0 n = 10 from rfl]
    by_cases q1 : v < 2
    · rw [if_pos (show nI v < 2 from nI_lt (b := 2) q1 (by omega)), if_neg (by omega)]
    · rw [if_neg (show ¬ nI v < 2 from nI_nlt (b := 2) (by omega) (by omega))]
      by_cases q2 : v ≤ 10
      · rw [if_pos (show nI v ≤ 10 from nI_le (b := 10) q2 (by omega)), if_pos (by omega)]
      · rw [if_neg (show ¬ nI v ≤ 10 from fun q => q2 ((nI_leI (b := 10) (by omega) (by omega)).mp q)), if_neg (by omega)]
  · have k1 : ¬ nI k = 0 := nI_ne0 (by omega) (by omega)
    rw [if_neg k1, if_neg k1, show loK k = 0 from if_neg k0, show hiK k n = n - 1 from if_neg k0, if_neg (nI_pos (by omega))]
    by_cases q2 : v ≤ n - 1
    · rw [if_pos (nI_le q2 (by omega)), if_pos (by omega)]
    · rw [if_neg (fun q => q2 ((nI_leI (by omega) (by omega)).mp q)), if_neg (by omega)]
theorem numC0 (h : TX ln z txt) (ht : TOK ln z txt txt2 p so s e num) {k i n c : Nat} {nbs : Nat → Int32} (hh : so ≠ 2 ∨ 2 < e - s) : f_X5_takeNumber 1000 (nI k) (nI i) (nI n) (nI c) (nI so) (nI s) (nI e) nbs txt = some (0, nbs) := by
  have h0 := h.1
  have h4 := ht.so_lt
  obtain ⟨⟨p1, p2, p3, p4⟩, -⟩ := ht
  rw [f_X5_takeNumber]
  by_cases e2 : so = 2
  · subst e2
    rw [if_pos (show nI 2 = 2 from rfl), pk_sub p2, if_neg (show ¬ nI (e - s) ≤ 2 from nI_ge (b := e - s) (a := 2) (by omega) (by omega))]
  · rw [if_neg (show ¬ nI so = 2 from fun q => e2 ((nI_eq (b := 2) (by omega) (by omega)).mp q))]
/-- one number of a clause that isn't of the net -/
theorem numPt (h : TX ln z txt) (ht : TOK ln z txt txt2 p so s e num) {k i n c : Nat} (hk1 : 1 ≤ k) (hk : k < 5) (hi : i ≤ 2) (hc : c < 24) (hn : 2 ≤ n ∧ n ≤ 10) {a : Nat → Nat} {nbs cls : Nat → Int32} {wrg : Int32} (ha : ∀ j, j < i → nbs (3 * c + j) = nI (a j) ∧ cls (4 * c + 1 + j) = nI (a j) ∧ a j < n) :
    (∃ v, v < n ∧ (∀ j, j < i → a j ≠ v) ∧ f_X5_takeNumber 1000 (nI k) (nI i) (nI n) (nI c) (nI so) (nI s) (nI e) nbs txt = some (1, upd nbs (3 * c + i) (nI v)) ∧ f_X7_takesPoint 1000 (nI (i + 1)) (nI (4 * c)) (nI ln) (nI p) wrg (nI n) txt2 cls = some (1, nI e, srM so (z s), nI s, nI v, wrg, upd cls (4 * c + 1 + i) (nI v))) ∨
    (f_X5_takeNumber 1000 (nI k) (nI i) (nI n) (nI c) (nI so) (nI s) (nI e) nbs txt = some (0, nbs) ∧ ∃ num', f_X7_takesPoint 1000 (nI (i + 1)) (nI (4 * c)) (nI ln) (nI p) wrg (nI n) txt2 cls = some (0, nI e, srM so (z s), nI s, num', nI s, cls)) := by
  have n1 : nI n - 1 = nI (n - 1) := pk_sub (b := 1) (by omega)
  have l0 : loK k = 0 := if_neg (by omega)
  have l1 : hiK k n = n - 1 := if_neg (by omega)
  have z0 : (0 : Int32) = nI 0 := rfl
  rw [f_X7_takesPoint, n1]
  rcases numM h ht (lo := 0) (hi := n - 1) (by omega) (by omega) (wrg := wrg) with ⟨v, v1, -, v2, e2, e3, v3, v4⟩ | ⟨v4, hh⟩
  · rw [numC h ht hk hn e2 e3 v1 v3, l0, l1, if_pos ⟨by omega, v2⟩, z0, v4, Option.bind_some, if_neg (show ¬ (1 : Int32) = nI 0 by decide), t73 (a := a) hc hi (by omega) (fun j hj => ⟨(ha j hj).1, by have := (ha j hj).2.2; omega⟩) i 0 1000 (by omega) (by omega)]
    have e18 := t18 (plc := nI e) (srt := srM so (z s)) (frm := nI s) (wrg := wrg) (a := a) (v := v) (cls := cls) hc hi (by omega) (fun j hj => ⟨(ha j hj).2.1, by have := (ha j hj).2.2; omega⟩) i 0 1000 (by omega) (by omega)
    cases hf : fresh a v i 0
    · right
      rw [hf] at e18
      refine ⟨rfl, nI v, ?_⟩
      exact e18
    · left
      rw [hf] at e18
      refine ⟨v, by omega, fun j hj => fresh_ne i 0 hf j (by omega) (by omega), rfl, ?_⟩
      exact e18
  · right
    have e1 : f_X7_takesNumber 1000 0 (nI (n - 1)) (nI ln) (nI p) wrg txt2 = _ := v4
    rw [e1, Option.bind_some, if_pos rfl]
    refine ⟨?_, num, rfl⟩
    rcases hh with hh | hh | ⟨e2, e3, v, v1, v3, v5⟩
    · exact numC0 h ht (Or.inl hh)
    · exact numC0 h ht (Or.inr hh)
    · rw [numC h ht hk hn e2 e3 v1 v3, l0, l1, if_neg v5]
/-- the number of a clause of the net -/
theorem numNet (h : TX ln z txt) (ht : TOK ln z txt txt2 p so s e num) {n c : Nat} (hc : c < 24) (hn : 2 ≤ n ∧ n ≤ 10) {nbs : Nat → Int32} {wrg : Int32} :
    (∃ v, 2 ≤ v ∧ v ≤ 10 ∧ f_X5_takeNumber 1000 (nI 0) (nI 0) (nI n) (nI c) (nI so) (nI s) (nI e) nbs txt = some (1, upd nbs (3 * c + 0) (nI v)) ∧ f_X7_takesNumber 1000 2 10 (nI ln) (nI p) wrg txt2 = some (1, nI e, srM so (z s), nI s, nI v, wrg)) ∨
    (f_X5_takeNumber 1000 (nI 0) (nI 0) (nI n) (nI c) (nI so) (nI s) (nI e) nbs txt = some (0, nbs) ∧ f_X7_takesNumber 1000 2 10 (nI ln) (nI p) wrg txt2 = some (0, nI e, srM so (z s), nI s, num, nI s)) := by
  rcases numM h ht (lo := 2) (hi := 10) (by omega) (by omega) (wrg := wrg) with ⟨v, v1, v0, v2, e2, e3, v3, v4⟩ | ⟨v4, hh⟩
  · left
    refine ⟨v, v0, v2, ?_, v4⟩
    have e73 := t73 (a := fun _ => 0) (nbs := nbs) (v := v) hc (show 0 ≤ 2 by omega) (by omega) (fun j hj => absurd hj (by omega)) 0 0 1000 (by omega) (by omega)
    rw [numC h ht (by omega) hn e2 e3 v1 v3, if_pos ⟨v0, v2⟩]
    exact e73
  · right
    refine ⟨?_, v4⟩
    rcases hh with hh | hh | ⟨e2, e3, v, v1, v3, v5⟩
    · exact numC0 h ht (Or.inl hh)
    · exact numC0 h ht (Or.inr hh)
    · rw [numC h ht (by omega) hn e2 e3 v1 v3, if_neg (show ¬ (loK 0 ≤ v ∧ v ≤ hiK 0 n) from v5)]
end R3
