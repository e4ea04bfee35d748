/-! ===== the text: one token, read by both ===== -/
/-- the sort of a letter: 1 of a word, 2 of a number, 3 else -/
def sN (a : Nat) : Nat := if 97 ≤ a ∧ a ≤ 122 then 1 else if 48 ≤ a ∧ a ≤ 57 then 2 else 3
theorem sN_cases (a : Nat) : sN a = 1 ∨ sN a = 2 ∨ sN a = 3 := by
  unfold sN; split
  · exact Or.inl rfl
  · split
    · exact Or.inr (Or.inl rfl)
    · exact Or.inr (Or.inr rfl)
theorem sN_dig {a : Nat} (h : sN a = 2) : 48 ≤ a ∧ a ≤ 57 := by
  unfold sN at h
  by_cases h1 : 97 ≤ a ∧ a ≤ 122
  · rw [if_pos h1] at h; omega
  · rw [if_neg h1] at h
    by_cases h2 : 48 ≤ a ∧ a ≤ 57
    · exact h2
    · rw [if_neg h2] at h; omega
theorem sortC0 : (List.range 256).all (fun a => decide (f_X5_sortOf (nI a) = nI (sN a))) = true := by decide +kernel
theorem sortC {a : Nat} (h : a < 256) : f_X5_sortOf (nI a) = nI (sN a) := of_decide_eq_true (al2 sortC0 a h)
theorem inW0 : (List.range 256).all (fun a => decide (f_X7_in (Int32.toInt64 (nI a)) 97 122 = bI (decide (sN a = 1)))) = true := by decide +kernel
theorem inW {a : Nat} (h : a < 256) : f_X7_in (Int32.toInt64 (nI a)) 97 122 = bI (decide (sN a = 1)) := of_decide_eq_true (al2 inW0 a h)
theorem inD0 : (List.range 256).all (fun a => decide (f_X7_in (Int32.toInt64 (nI a)) 48 57 = bI (decide (sN a = 2)))) = true := by decide +kernel
theorem inD {a : Nat} (h : a < 256) : f_X7_in (Int32.toInt64 (nI a)) 48 57 = bI (decide (sN a = 2)) := of_decide_eq_true (al2 inD0 a h)
theorem inWm : f_X7_in (Int32.toInt64 (-1)) 97 122 = 0 := by decide +kernel
theorem inDm : f_X7_in (Int32.toInt64 (-1)) 48 57 = 0 := by decide +kernel
/-- how the reference tells a sort -/
def srM (so a : Nat) : Int32 := if so = 3 then nI a - 1000 else nI so
theorem srM3 : (List.range 256).all (fun a => decide (¬ (nI a - 1000 : Int32) = 0 ∧ ¬ (nI a - 1000 : Int32) = 1 ∧ ¬ (nI a - 1000 : Int32) = 2 ∧ ((nI a - 1000 : Int32) = -941 ↔ a = 59))) = true := by decide +kernel
theorem srM_3 {a : Nat} (h : a < 256) : ¬ (nI a - 1000 : Int32) = 0 ∧ ¬ (nI a - 1000 : Int32) = 1 ∧ ¬ (nI a - 1000 : Int32) = 2 ∧ ((nI a - 1000 : Int32) = -941 ↔ a = 59) := of_decide_eq_true (al2 srM3 a h)
/-- as far as f holds, from i on, at most c -/
def spn (f : Nat → Bool) : Nat → Nat → Nat
  | 0, i => i
  | c + 1, i => if f i then spn f c (i + 1) else i
theorem spn_ge (f : Nat → Bool) : ∀ c i, i ≤ spn f c i := by
  intro c
  induction c with
  | zero => intro i; exact Nat.le_refl _
  | succ c ih =>
    intro i
    rw [spn]
    split
    · have := ih (i + 1); omega
    · omega
theorem spn_le (f : Nat → Bool) : ∀ c i, spn f c i ≤ i + c := by
  intro c
  induction c with
  | zero => intro i; exact Nat.le_refl _
  | succ c ih =>
    intro i
    rw [spn]
    split
    · have := ih (i + 1); omega
    · omega
theorem spn_in (f : Nat → Bool) : ∀ c i j, i ≤ j → j < spn f c i → f j = true := by
  intro c
  induction c with
  | zero => intro i j h1 h2; rw [spn] at h2; omega
  | succ c ih =>
    intro i j h1 h2
    rw [spn] at h2
    by_cases h : f i = true
    · rw [if_pos h] at h2
      by_cases e : j = i
      · subst e; exact h
      · exact ih (i + 1) j (by omega) h2
    · rw [if_neg h] at h2; omega
theorem spn_out (f : Nat → Bool) : ∀ c i, spn f c i < i + c → f (spn f c i) = false := by
  intro c
  induction c with
  | zero => intro i h; rw [spn] at h; omega
  | succ c ih =>
    intro i h
    rw [spn] at h ⊢
    by_cases e : f i = true
    · rw [if_pos e] at h ⊢
      exact ih (i + 1) (by omega)
    · rw [if_neg e]
      exact Bool.eq_false_iff.mpr e
/-- the reference's number, from i on -/
def nmM (z : Nat → Nat) (f : Nat → Bool) : Nat → Nat → Int32 → Int32
  | 0, _, x => x
  | c + 1, i, x => if f i then nmM z f c (i + 1) (if 1000 ≤ x then x else 10 * x + nI (z i) - 48) else x
theorem nmM_end {z : Nat → Nat} {f : Nat → Bool} {c i : Nat} {x : Int32} (h : spn f c i = i) : nmM z f c i x = x := by
  cases c with
  | zero => rfl
  | succ c =>
    rw [spn] at h
    rw [nmM]
    by_cases e : f i = true
    · rw [if_pos e] at h
      have := spn_ge f c (i + 1)
      omega
    · rw [if_neg e]
theorem nmM_go {z : Nat → Nat} {f : Nat → Bool} {c i e : Nat} {x : Int32} (h : spn f c i = e) (he : i < e) : ∃ c', c = c' + 1 ∧ spn f c' (i + 1) = e ∧ nmM z f c i x = nmM z f c' (i + 1) (if 1000 ≤ x then x else 10 * x + nI (z i) - 48) := by
  cases c with
  | zero => rw [spn] at h; omega
  | succ c =>
    rw [spn] at h
    by_cases e : f i = true
    · rw [if_pos e] at h
      exact ⟨c, rfl, h, by rw [nmM, if_pos e]⟩
    · rw [if_neg e] at h; omega
theorem dgt {a d : Nat} (hd : 48 ≤ d) : 10 * nI a + nI d - 48 = nI (10 * a + (d - 48)) := by
  rw [show (10 : Int32) = nI 10 from rfl, show (48 : Int32) = nI 48 from rfl, pk_mul, nI_add, pk_sub (by omega)]
  congr 1; omega
/-- a text of ln letters -/
def TX (ln : Nat) (z : Nat → Nat) (txt : Nat → Int32) : Prop := ln ≤ 200 ∧ ∀ i, i < ln → z i < 256 ∧ txt i = nI (z i)
/-- a blank; of one sort -/
def isB (z : Nat → Nat) (j : Nat) : Bool := decide (z j = 32)
def isS (z : Nat → Nat) (so j : Nat) : Bool := decide (sN (z j) = so)
theorem blk {a : Nat} (h : a < 256) : (nI a = 32) = (a = 32) := propext (nI_eq (b := 32) (by omega) (by omega))
section R1
variable {ln : Nat} {z : Nat → Nat} {txt : Nat → Int32}
theorem nT5 (h : TX ln z txt) : ∀ (c i m : Nat), i + c = ln → c < m → f_X5_nextToken_5 1000 (nI ln) txt m (nI i) = f_X5_nextToken_36 1000 (nI (spn (isB z) c i)) (nI ln) txt := by
  obtain ⟨h0, h1⟩ := h
  intro c
  induction c with
  | zero =>
    intro i m h2 h3
    obtain ⟨m, rfl⟩ : ∃ k, m = k + 1 := ⟨m - 1, by omega⟩
    rw [f_X5_nextToken_5, if_pos (nI_le (by omega) (by omega)), spn]
  | succ c ih =>
    intro i m h2 h3
    obtain ⟨m, rfl⟩ : ∃ k, m = k + 1 := ⟨m - 1, by omega⟩
    rw [f_X5_nextToken_5, if_neg (nI_ge (by omega) (by omega)), if_pos (xin_n (by omega) (by omega)), nI_clamp (by omega), (h1 i (by omega)).2, nI_1, spn, isB]
    by_cases e : z i = 32
    · rw [if_pos ((blk (h1 i (by omega)).1).mpr e), if_pos (decide_eq_true e)]
      exact ih (i + 1) m (by omega) (by omega)
    · rw [if_neg (fun q => e ((blk (h1 i (by omega)).1).mp q)), if_neg (by simp [e])]
theorem nT82 (h : TX ln z txt) {so : Nat} (hso : so = 1 ∨ so = 2) {tst : Int32} : ∀ (c i m : Nat), i + c = ln → c < m → f_X5_nextToken_82 (nI so) tst (nI ln) txt m (nI i) = some (nI so, tst, nI (spn (isS z so) c i)) := by
  obtain ⟨h0, h1⟩ := h
  have q0 : ¬ nI so = 3 := by rcases hso with rfl | rfl <;> decide
  intro c
  induction c with
  | zero =>
    intro i m h2 h3
    obtain ⟨m, rfl⟩ : ∃ k, m = k + 1 := ⟨m - 1, by omega⟩
    rw [f_X5_nextToken_82, if_neg q0, if_pos (nI_le (by omega) (by omega)), spn]
  | succ c ih =>
    intro i m h2 h3
    obtain ⟨m, rfl⟩ : ∃ k, m = k + 1 := ⟨m - 1, by omega⟩
    have hs := sN_cases (z i)
    rw [f_X5_nextToken_82, if_neg q0, if_neg (nI_ge (by omega) (by omega)), if_pos (xin_n (by omega) (by omega)), nI_clamp (by omega), (h1 i (by omega)).2, sortC (h1 i (by omega)).1, nI_1, spn, isS]
    by_cases e : sN (z i) = so
    · rw [if_pos (by rw [e]), if_pos (decide_eq_true e)]
      exact ih (i + 1) m (by omega) (by omega)
    · rw [if_neg (fun q => e ((nI_eq (by omega) (by omega)).mp q)), if_neg (by simp [e])]
theorem ltr1 (h : TX ln z txt) {i : Nat} (hi : i < ln) : f_X7_letter (nI ln) (nI i) txt = some (nI (z i)) := by
  obtain ⟨h0, h1⟩ := h
  rw [f_X7_letter, if_neg (nI_ge hi (by omega)), if_pos (xin_n (by omega) (by omega)), nI_clamp (by omega), (h1 i hi).2]
theorem ltr0 (h : TX ln z txt) {i : Nat} (hi : ln ≤ i) (h2 : i < 1000) : f_X7_letter (nI ln) (nI i) txt = some (-1) := by
  rw [f_X7_letter, if_pos (nI_le hi (by omega))]
theorem nM128 (h : TX ln z txt) {so : Nat} (hso : so = 1 ∨ so = 2) {frm : Int32} : ∀ (c i m : Nat) (num : Int32), i + c = ln → c < m → f_X7_next_128 (nI ln) (nI so) frm txt m (nI i) num = some (nI (spn (isS z so) c i), nI so, frm, nmM z (isS z so) c i num) := by
  have h0 := h.1
  have h1 := h.2
  intro c
  induction c with
  | zero =>
    intro i m num h2 h3
    obtain ⟨m, rfl⟩ : ∃ k, m = k + 1 := ⟨m - 1, by omega⟩
    rw [f_X7_next_128, ltr0 h (by omega) (by omega), Option.bind_some, Option.bind_some, inWm, inDm, if_pos rfl, spn, nmM]
    split <;> rfl
  | succ c ih =>
    intro i m num h2 h3
    obtain ⟨m, rfl⟩ : ∃ k, m = k + 1 := ⟨m - 1, by omega⟩
    have hi := h1 i (by omega)
    rw [f_X7_next_128, ltr1 h (by omega), Option.bind_some, Option.bind_some, inW hi.1, inD hi.1, spn, nmM]
    have hgo : ∀ (e : sN (z i) = so), f_X7_next_173 (fun plc num => f_X7_next_128 (nI ln) (nI so) frm txt m plc num) (nI ln) (nI i) num txt = some (nI (if isS z so i = true then spn (isS z so) c (i + 1) else i), nI so, frm, if isS z so i = true then nmM z (isS z so) c (i + 1) (if 1000 ≤ num then num else 10 * num + nI (z i) - 48) else num) := by
      intro e
      have es : isS z so i = true := decide_eq_true e
      rw [f_X7_next_173, if_pos es, if_pos es, ltr1 h (by omega), Option.bind_some, nI_1]
      by_cases hn : (1000 : Int32) ≤ num
      · rw [if_pos hn, if_pos hn]
        exact ih (i + 1) m num (by omega) (by omega)
      · rw [if_neg hn, if_neg hn]
        exact ih (i + 1) m _ (by omega) (by omega)
    have hst : ∀ (e : ¬ sN (z i) = so), some (nI i, nI so, frm, num) = some (nI (if isS z so i = true then spn (isS z so) c (i + 1) else i), nI so, frm, if isS z so i = true then nmM z (isS z so) c (i + 1) (if 1000 ≤ num then num else 10 * num + nI (z i) - 48) else num) := by
      intro e
      have es : ¬ isS z so i = true := by unfold isS; simp [e]
      rw [if_neg es, if_neg es]
    rcases hso with rfl | rfl
    · rw [if_pos (show nI 1 = 1 from rfl)]
      by_cases e : sN (z i) = 1
      · rw [if_neg (by simp [e, bI])]; exact hgo e
      · rw [if_pos (by simp [e, bI])]; exact hst e
    · rw [if_neg (show ¬ nI 2 = 1 by decide)]
      by_cases e : sN (z i) = 2
      · rw [if_neg (by simp [e, bI])]; exact hgo e
      · rw [if_pos (by simp [e, bI])]; exact hst e
/-- what the reference does behind the blanks -/
def tlM (len : Int32) (txt : Nat → Int32) (plc : Int32) : Option (Int32 × Int32 × Int32 × Int32) :=
  (f_X7_letter len plc txt).bind fun q12 =>
     if 0 ≤ q12 then
      if (f_X7_in (Int32.toInt64 q12) 97 122) = 0 then
       if (f_X7_in (Int32.toInt64 q12) 48 57) = 0 then
        f_X7_next_85 1000 q12 (q12 - 1000) len plc plc txt
       else
        f_X7_next_85 1000 q12 2 len plc plc txt
      else
       f_X7_next_85 1000 q12 1 len plc plc txt
     else
      f_X7_next_85 1000 q12 0 len plc plc txt
theorem nM0 (h : TX ln z txt) : ∀ (c i m : Nat), i + c = ln → c < m → f_X7_next_0 1000 (nI ln) txt m (nI i) = tlM (nI ln) txt (nI (spn (isB z) c i)) := by
  have h0 := h.1
  have h1 := h.2
  intro c
  induction c with
  | zero =>
    intro i m h2 h3
    obtain ⟨m, rfl⟩ : ∃ k, m = k + 1 := ⟨m - 1, by omega⟩
    have e : f_X7_next_0 1000 (nI ln) txt (m + 1) (nI i) = (f_X7_letter (nI ln) (nI i) txt).bind (fun q10 => if q10 = 32 then f_X7_next_0 1000 (nI ln) txt m (nI i + 1) else tlM (nI ln) txt (nI i)) := rfl
    rw [e, ltr0 h (by omega) (by omega), Option.bind_some, if_neg (by decide), spn]
  | succ c ih =>
    intro i m h2 h3
    obtain ⟨m, rfl⟩ : ∃ k, m = k + 1 := ⟨m - 1, by omega⟩
    have e : f_X7_next_0 1000 (nI ln) txt (m + 1) (nI i) = (f_X7_letter (nI ln) (nI i) txt).bind (fun q10 => if q10 = 32 then f_X7_next_0 1000 (nI ln) txt m (nI i + 1) else tlM (nI ln) txt (nI i)) := rfl
    have hi := h1 i (by omega)
    rw [e, ltr1 h (by omega), Option.bind_some, nI_1, spn, isB]
    by_cases e : z i = 32
    · rw [if_pos ((blk hi.1).mpr e), if_pos (decide_eq_true e)]
      exact ih (i + 1) m (by omega) (by omega)
    · rw [if_neg (fun q => e ((blk hi.1).mp q)), if_neg (by simp [e])]
theorem nMx (h : TX ln z txt) {p : Nat} (hp : p ≤ ln) : f_X7_next 1000 (nI ln) (nI p) txt = tlM (nI ln) txt (nI (spn (isB z) (ln - p) p)) := by
  have e : f_X7_next 1000 (nI ln) (nI p) txt = f_X7_next_0 1000 (nI ln) txt (1000 + 1) (nI p) := rfl
  have h0 := h.1
  rw [e, nM0 h (ln - p) p _ (by omega) (by omega)]
theorem nCx (h : TX ln z txt) {p : Nat} (hp : p ≤ ln) : f_X5_nextToken 1000 (nI p) (nI ln) txt = f_X5_nextToken_36 1000 (nI (spn (isB z) (ln - p) p)) (nI ln) txt := by
  have h0 := h.1
  rw [f_X5_nextToken, nT5 h (ln - p) p _ (by omega) (by omega)]
end R1
/-- a token at p: its sort, where it begins and ends -/
def TK (ln : Nat) (z : Nat → Nat) (p so s e : Nat) : Prop := p ≤ s ∧ s ≤ e ∧ e ≤ ln ∧ ((so = 0 ∧ s = ln ∧ e = ln) ∨ (s < e ∧ so = sN (z s)))
/-- both read the same token at p -/
def TOK (ln : Nat) (z : Nat → Nat) (txt txt2 : Nat → Int32) (p so s e : Nat) (num : Int32) : Prop := TK ln z p so s e ∧ f_X5_nextToken 1000 (nI p) (nI ln) txt = some (nI so, nI s, nI e) ∧ f_X7_next 1000 (nI ln) (nI p) txt2 = some (nI e, srM so (z s), nI s, num) ∧ (so = 2 → e - s ≤ 2 → ∃ v, v < 100 ∧ num = nI v ∧ f_X5_tokenNumber 1000 (nI s) (nI e) txt = some (nI v))
theorem tkn {ln : Nat} {z : Nat → Nat} {txt : Nat → Int32} (h : TX ln z txt) {s e : Nat} (h1 : s < e) (h2 : e ≤ ln) (h3 : e - s ≤ 2) (hd : ∀ j, s ≤ j → j < e → sN (z j) = 2) {c : Nat} (hsp : spn (isS z 2) c s = e) : ∃ v, v < 100 ∧ nmM z (isS z 2) c s 0 = nI v ∧ f_X5_tokenNumber 1000 (nI s) (nI e) txt = some (nI v) := by
  have h0 := h.1
  have d0 := sN_dig (hd s (by omega) h1)
  have go : ∀ (m x i : Nat), i < e → s ≤ i → f_X5_tokenNumber_7 (nI e) txt (m + 1) (nI x) (nI i) = f_X5_tokenNumber_7 (nI e) txt m (nI (10 * x + (z i - 48))) (nI (i + 1)) := by
    intro m x i hi hsi
    rw [f_X5_tokenNumber_7, if_neg (nI_ge hi (by omega)), if_pos (xin_n (by omega) (by omega)), nI_clamp (by omega), (h.2 i (by omega)).2, dgt (sN_dig (hd i hsi hi)).1, nI_1]
  have fin : ∀ (m x : Nat), f_X5_tokenNumber_7 (nI e) txt (m + 1) (nI x) (nI e) = some (nI x) := by
    intro m x
    rw [f_X5_tokenNumber_7, if_pos (nI_le (by omega) (by omega))]
  obtain ⟨c1, rfl, hs1, hn1⟩ := nmM_go (z := z) (x := 0) hsp h1
  have z0 : ∀ k, k < 100 → ¬ (1000 : Int32) ≤ nI k := fun k hk => nI_ge (b := 1000) (by omega) (by omega)
  rw [if_neg (by decide), ← nI_0, dgt d0.1] at hn1
  have e0 : f_X5_tokenNumber 1000 (nI s) (nI e) txt = f_X5_tokenNumber_7 (nI e) txt (997 + 1 + 1 + 1) (nI 0) (nI s) := rfl
  by_cases h4 : e = s + 1
  · subst h4
    refine ⟨10 * 0 + (z s - 48), by omega, ?_, ?_⟩
    · rw [← nI_0, hn1, nmM_end hs1]
    · rw [e0, go _ _ _ (by omega) (by omega), fin]
  · obtain rfl : e = s + 2 := by omega
    have d1 := sN_dig (hd (s + 1) (by omega) (by omega))
    obtain ⟨c2, rfl, hs2, hn2⟩ := nmM_go (z := z) (x := nI (10 * 0 + (z s - 48))) hs1 (by omega)
    rw [if_neg (z0 _ (by omega)), dgt d1.1] at hn2
    refine ⟨10 * (10 * 0 + (z s - 48)) + (z (s + 1) - 48), by omega, ?_, ?_⟩
    · rw [← nI_0, hn1, hn2, nmM_end hs2]
    · rw [e0, go _ _ _ (by omega) (by omega), go _ _ _ (by omega) (by omega), fin]
theorem tok {ln : Nat} {z : Nat → Nat} {txt txt2 : Nat → Int32} (h : TX ln z txt) (h' : TX ln z txt2) {p : Nat} (hp : p ≤ ln) : ∃ so s e num, TOK ln z txt txt2 p so s e num := by
  have h0 := h.1
  have g1 := spn_ge (isB z) (ln - p) p
  have g2 := spn_le (isB z) (ln - p) p
  have eC := nCx h hp
  have eM := nMx h' hp
  generalize spn (isB z) (ln - p) p = s at g1 g2 eC eM
  by_cases hs : s < ln
  · have hzs := h.2 s hs
    have hzs' := h'.2 s hs
    have c1 : f_X5_nextToken_36 1000 (nI s) (nI ln) txt = f_X5_nextToken_82 (nI (sN (z s))) (nI s) (nI ln) txt 1000 (nI (s + 1)) := by
      rw [f_X5_nextToken_36, if_pos (nI_lt hs (by omega)), if_pos (xin_n (by omega) (by omega)), nI_clamp (by omega), hzs.2, sortC hzs.1, nI_1]
    rw [c1] at eC
    unfold tlM at eM
    rw [ltr1 h' hs, Option.bind_some, if_pos (nI_pos' (by omega)), inW hzs.1, inD hzs.1] at eM
    have two : ∀ so, so = 1 ∨ so = 2 → sN (z s) = so → f_X7_next 1000 (nI ln) (nI p) txt2 = f_X7_next_128 (nI ln) (nI so) (nI s) txt2 1000 (nI s) 0 → ∃ so s e num, TOK ln z txt txt2 p so s e num := by
      intro so hso es eM2
      have ef : isS z so s = true := decide_eq_true es
      have g3 := spn_ge (isS z so) (ln - (s + 1)) (s + 1)
      have g4 := spn_le (isS z so) (ln - (s + 1)) (s + 1)
      have e5 : spn (isS z so) (ln - s) s = spn (isS z so) (ln - (s + 1)) (s + 1) := by
        rw [show ln - s = (ln - (s + 1)) + 1 by omega, spn, if_pos ef]
      have g5 := spn_in (isS z so) (ln - s) s
      rw [es, nT82 h hso (ln - (s + 1)) (s + 1) _ (by omega) (by omega)] at eC
      rw [nM128 h' hso (ln - s) s _ _ (by omega) (by omega)] at eM2
      have h6 : so = 2 → spn (isS z so) (ln - s) s - s ≤ 2 → ∃ v, v < 100 ∧ nmM z (isS z so) (ln - s) s 0 = nI v ∧ f_X5_tokenNumber 1000 (nI s) (nI (spn (isS z so) (ln - s) s)) txt = some (nI v) := by
        intro e2 hle
        subst e2
        exact tkn h (by omega) (by omega) hle (fun j h1 h2 => of_decide_eq_true (g5 j h1 h2)) rfl
      refine ⟨so, s, spn (isS z so) (ln - s) s, nmM z (isS z so) (ln - s) s 0, ⟨g1, by omega, by omega, Or.inr ⟨by omega, es.symm⟩⟩, ?_, ?_, h6⟩
      · rw [e5]; exact eC
      · rw [eM2, srM, if_neg (by omega)]
    rcases sN_cases (z s) with es | es | es
    · refine two 1 (Or.inl rfl) es ?_
      rw [eM, if_neg (by simp [es, bI]), f_X7_next_85, if_pos rfl]
      rfl
    · refine two 2 (Or.inr rfl) es ?_
      rw [eM, if_pos (by simp [es, bI]), if_neg (by simp [es, bI]), f_X7_next_85, if_neg (by decide), if_pos rfl]
      rfl
    · obtain ⟨k0, k1, k2, -⟩ := srM_3 hzs.1
      refine ⟨3, s, s + 1, 0, ⟨g1, by omega, by omega, Or.inr ⟨by omega, es.symm⟩⟩, ?_, ?_, fun h => absurd h (by omega)⟩
      · rw [eC, es, show (1000 : Nat) = 999 + 1 from rfl, f_X5_nextToken_82, if_pos (show nI 3 = 3 from rfl)]
      · rw [eM, if_pos (by simp [es, bI]), if_pos (by simp [es, bI]), f_X7_next_85, if_neg k1, if_neg k2, if_pos (nI_pos' (by omega)), nI_1, srM, if_pos rfl]
  · obtain rfl : s = ln := by omega
    refine ⟨0, s, s, 0, ⟨g1, by omega, by omega, Or.inl ⟨rfl, rfl, rfl⟩⟩, ?_, ?_, fun h => absurd h (by omega)⟩
    · rw [eC, f_X5_nextToken_36, if_neg (nI_nlt (by omega) (by omega))]; rfl
    · unfold tlM at eM
      rw [ltr0 h' (by omega) (by omega), Option.bind_some, if_neg (by decide), f_X7_next_85, if_neg (by decide), if_neg (by decide), if_neg (by decide), Int32.add_zero] at eM
      rw [eM, srM, if_neg (by omega)]; rfl
