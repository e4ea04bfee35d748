/-! ===== arcs taken out ===== -/
theorem nI_ex (x : Int32) : ∃ m, m < 2 ^ 32 ∧ x = nI m := ⟨x.toBitVec.toNat, x.toBitVec.isLt, by
  apply Int32.toBitVec_inj.1
  show x.toBitVec = BitVec.ofNat 32 x.toBitVec.toNat
  simp⟩
theorem mask_in {n : Nat} (hn : n ≤ 10) {x : Int32} (h : x &&& (f_X3_allPoints (nI n) ^^^ (-1)) = 0) : ∃ F, F < 2 ^ n ∧ x = nI F := by
  obtain ⟨m, hm, rfl⟩ := nI_ex x
  rw [allP hn, nx_dif] at h
  have hd : dif m (full n) = 0 := by
    have h1 : dif m (full n) < 2 ^ 32 := dif_lt hm
    have h2 : (nI (dif m (full n))).toBitVec.toNat = (0 : Int32).toBitVec.toNat := by rw [h]
    rw [pk_tn h1] at h2
    exact h2
  refine ⟨m, sub_lt (b := full n) (fun i hi => ?_) ?_, rfl⟩
  · have h3 := dif_tb m (full n) i
    rw [hd, hi, Nat.zero_testBit] at h3
    cases hf : (full n).testBit i
    · rw [hf] at h3; exact absurd h3 (by decide)
    · rfl
  · have := Nat.two_pow_pos n
    unfold full
    omega
/-- whether one of them is so, from i on -/
def anyF (f : Nat → Bool) : Nat → Nat → Bool
  | 0, _ => false
  | c + 1, i => f i || anyF f c (i + 1)
theorem anyF_iff (f : Nat → Bool) : ∀ c i, anyF f c i = true ↔ ∃ j, i ≤ j ∧ j < i + c ∧ f j = true := by
  intro c
  induction c with
  | zero => intro i; exact ⟨fun h => absurd h (by simp [anyF]), fun ⟨j, h1, h2, _⟩ => absurd h2 (by omega)⟩
  | succ c ih =>
    intro i
    rw [anyF, Bool.or_eq_true, ih (i + 1)]
    refine ⟨fun h => ?_, fun ⟨j, h1, h2, h3⟩ => ?_⟩
    · rcases h with h | ⟨j, h1, h2, h3⟩
      · exact ⟨i, by omega, by omega, h⟩
      · exact ⟨j, by omega, by omega, h3⟩
    · by_cases e : j = i
      · subst e; exact Or.inl h3
      · exact Or.inr ⟨j, by omega, by omega, h3⟩
/-- p stands in tree t by an arc from F to G -/
def hit (F G : Nat) (t : Nat → Nat) (p : Nat) : Bool := decide (2 ≤ t p) && (F.testBit (t p - 2) && G.testBit p)
section E1
variable {n s F G : Nat} {t : Nat → Nat} {Ab st : Nat → Int32}
theorem stoodC (hn : n ≤ 10) (hs : s < n) (hF : F < 2 ^ n) (hG : G < 2 ^ n) (hb : ∀ y, y < n → t y < n + 2) (ha : ∀ y, y < n → Ab (10 * s + y) = abC (t y)) : ∀ (c i m : Nat), i + c = n → c < m → f_X3_stoodOn_3 (nI s) (nI F) (nI G) (nI n) Ab m (nI i) = some (bI (anyF (hit F G t) c i)) := by
  intro c
  induction c with
  | zero =>
    intro i m h1 h2
    obtain ⟨m, rfl⟩ : ∃ k, m = k + 1 := ⟨m - 1, by omega⟩
    rw [f_X3_stoodOn_3, if_pos (nI_le (by omega) (by omega))]
    rfl
  | succ c ih =>
    intro i m h1 h2
    obtain ⟨m, rfl⟩ : ∃ k, m = k + 1 := ⟨m - 1, by omega⟩
    have hi : i < n := by omega
    have hti := hb i hi
    have ea : f_X3_aboveOf (nI s) (nI i) Ab = some (abC (t i)) := by
      unfold f_X3_aboveOf
      rw [ixC, if_pos (xin_n (by omega) (by omega)), nI_clamp (by omega), ha i hi]
    rw [f_X3_stoodOn_3, if_neg (nI_ge hi (by omega)), ea, Option.bind_some, nI_1, ih (i + 1) m (by omega) (by omega), anyF]
    by_cases h2t : 2 ≤ t i
    · have eA : abC (t i) = nI (t i - 2) := if_neg (by omega)
      rw [eA, if_neg (nIm1 (by omega)), hasC (pow10 hn hF) (by omega), hasC (pow10 hn hG) (by omega), hit, decide_eq_true h2t]
      cases F.testBit (t i - 2)
      · rw [if_pos (by rfl)]; rfl
      · rw [if_neg (by decide)]
        cases G.testBit i
        · rw [if_pos (by rfl)]; rfl
        · rw [if_neg (by decide)]; rfl
    · have eA : abC (t i) = -1 := if_pos (by omega)
      rw [eA, if_pos rfl, hit, decide_eq_false h2t]
      rfl
theorem stoodM (hn : n ≤ 10) (hs : s < n) (hF : F < 2 ^ n) (hG : G < 2 ^ n) (hb : ∀ y, y < n → t y < n + 2) (ha : ∀ y, y < n → st (10 + 10 * s + y) = nI (t y)) : ∀ (c i m : Nat) (b : Bool), i + c = n → c < m → f_X7_stoodOn_6 (nI s) (nI F) (nI G) (nI n) st m (bI b) (nI i) = some (bI (b || anyF (hit F G t) c i)) := by
  intro c
  induction c with
  | zero =>
    intro i m b h1 h2
    obtain ⟨m, rfl⟩ : ∃ k, m = k + 1 := ⟨m - 1, by omega⟩
    rw [f_X7_stoodOn_6, if_pos (nI_le (by omega) (by omega))]
    cases b <;> rfl
  | succ c ih =>
    intro i m b h1 h2
    obtain ⟨m, rfl⟩ : ∃ k, m = k + 1 := ⟨m - 1, by omega⟩
    have hi : i < n := by omega
    have hti := hb i hi
    have i0 := ih (i + 1) m false (by omega) (by omega)
    have i1 := ih (i + 1) m true (by omega) (by omega)
    have z0 : bI false = 0 := rfl
    have z1 : bI true = 1 := rfl
    rw [z0] at i0
    rw [z1] at i1
    rw [f_X7_stoodOn_6, if_neg (nI_ge hi (by omega)), ixM, if_pos (xin_n (by omega) (by omega)), nI_clamp (by omega), ha i hi, nI_1, i0, i1, anyF]
    cases b
    · rw [if_pos (by rfl)]
      by_cases h2t : 2 ≤ t i
      · rw [show nI (t i) - 2 = nI (t i - 2) from pk_sub (b := 2) h2t, if_neg (nI_pos (by omega)), hasM (pow10 hn hG) (by omega), hasM (pow10 hn hF) (by omega), hit, decide_eq_true h2t]
        cases G.testBit i
        · rw [if_pos (by rfl), Bool.and_false]; rfl
        · rw [if_neg (by decide)]
          cases F.testBit (t i - 2)
          · rw [if_pos (by rfl)]; rfl
          · rw [if_neg (by decide)]; rfl
      · rw [if_pos (show nI (t i) - 2 < 0 from pk_sneg (b := 2) (by omega) (by omega)), hit, decide_eq_false h2t]
        rfl
    · rw [if_neg (by decide)]
      simp
end E1
/-- a tree of its root alone -/
def root (s : Nat) : Nat → Nat := va_up (fun _ => 0) s 1
section E2
variable {n s : Nat} {A : Nat → Nat} {O Mm Ab st : Nat → Int32}
theorem vm_root (hs : s < n) : vm n (root s) = 2 ^ s := by
  refine eq_tb vm_lt (two_lt hs) (fun v hv => ?_)
  rw [vm_tb hv, tb2, root]
  by_cases e : v = s
  · subst e; rw [vu_s]; simp
  · rw [vu_n e]; simp [e]
theorem abC_root (v : Nat) : abC (root s v) = -1 := by
  unfold root
  by_cases e : v = s
  · subst e; rw [vu_s]; rfl
  · rw [vu_n e]; rfl
theorem anewC11 (hn : n ≤ 10) (hs : s < n) {wrk : Int32} : ∀ (c i m : Nat) (Ab : Nat → Int32), i + c = n → c < m → ∃ Q, f_X3_makeAnew_11 1000 (nI s) (nI n) wrk O Mm m (nI i) Ab = ((f_fa 1000 12 (nI s) (nI s) 0 (nI n) wrk O Mm Q).bind fun q3 => some (q3.1, q3.2.1, q3.2.2)) ∧ ∀ j, Q j = if 10 * s + i ≤ j ∧ j < 10 * s + n then -1 else Ab j := by
  intro c
  induction c with
  | zero =>
    intro i m Ab h1 h2
    obtain ⟨m, rfl⟩ : ∃ k, m = k + 1 := ⟨m - 1, by omega⟩
    refine ⟨Ab, by rw [f_X3_makeAnew_11, if_pos (nI_le (by omega) (by omega))], fun j => ?_⟩
    rw [if_neg (by omega)]
  | succ c ih =>
    intro i m Ab h1 h2
    obtain ⟨m, rfl⟩ : ∃ k, m = k + 1 := ⟨m - 1, by omega⟩
    obtain ⟨Q, e, hQ⟩ := ih (i + 1) m (upd Ab (10 * s + i) (-1)) (by omega) (by omega)
    refine ⟨Q, ?_, fun j => ?_⟩
    · rw [f_X3_makeAnew_11, if_neg (nI_ge (by omega) (by omega)), ixC, if_pos (xin_n (by omega) (by omega)), nI_clamp (by omega), nI_1, e]
    · rw [hQ j]
      by_cases e2 : j = 10 * s + i
      · rw [if_neg (by omega), if_pos (by omega), e2, pk_us]
      · rw [pk_un e2]
        by_cases h3 : 10 * s + (i + 1) ≤ j ∧ j < 10 * s + n
        · rw [if_pos h3, if_pos (by omega)]
        · rw [if_neg h3, if_neg (by omega)]
theorem anewC (hn : n ≤ 10) (hA : ∀ u, u < n → A u < 2 ^ n) (hO : ∀ u, u < n → O u = nI (A u)) (hs : s < n) {t' : Nat → Nat} {k : Nat} (h : Dfs A n s 0 (root s) t' k) (wrk : Int32) : f_X3_makeAnew 1000 (nI s) (nI n) wrk O Mm Ab = some (wrk + nI k, upd Mm s (nI (vm n t')), rowC n s t' Ab) := by
  obtain ⟨Q, e, hQ⟩ := anewC11 (O := O) (Mm := upd Mm s (nI (2 ^ s))) hn hs (wrk := wrk) n 0 1000 Ab (by omega) (by omega)
  have hq : Q = rowC n s (root s) Ab := by
    funext j
    rw [hQ j, rowC, abC_root, Nat.add_zero]
  have hz2 := zc_cnt n (root s)
  have k1 := goC (Mm := Mm) (Ab := Ab) hn hA hO hs h hs (by omega) 12 0 1000 wrk (by omega) (by omega) (by omega)
  rw [nI_0] at e k1
  unfold f_X3_makeAnew
  rw [if_pos (xin_n (by omega) (by omega)), nI_clamp (by omega), bitC (by omega), e, hq, ← vm_root hs]
  unfold f_fa f_X3_followArcs
  rw [k1]
  rfl
theorem growM2 (hn : n ≤ 10) (hs : s < n) {pil nxs : Nat → Int32} : ∀ (c i m : Nat) (st : Nat → Int32), i + c = n → c < m → ∃ Q, f_X7_grow_2 1000 (nI s) (nI n) pil nxs m (nI i) st = ((f_X7_goOn 1000 (nI s) (nI s) (nI n) Q pil nxs).bind fun q2 => some (q2.1, q2.2.1, q2.2.2)) ∧ ∀ j, Q j = if 10 + 10 * s + i ≤ j ∧ j < 10 + 10 * s + n then nI (root s (j - (10 + 10 * s))) else st j := by
  intro c
  induction c with
  | zero =>
    intro i m st h1 h2
    obtain ⟨m, rfl⟩ : ∃ k, m = k + 1 := ⟨m - 1, by omega⟩
    refine ⟨st, by rw [f_X7_grow_2, if_pos (nI_le (by omega) (by omega))], fun j => ?_⟩
    rw [if_neg (by omega)]
  | succ c ih =>
    intro i m st h1 h2
    obtain ⟨m, rfl⟩ : ∃ k, m = k + 1 := ⟨m - 1, by omega⟩
    obtain ⟨Q, e, hQ⟩ := ih (i + 1) m (upd st (10 + 10 * s + i) (nI (root s i))) (by omega) (by omega)
    refine ⟨Q, ?_, fun j => ?_⟩
    · rw [f_X7_grow_2, if_neg (nI_ge (by omega) (by omega)), ixM, if_pos (xin_n (by omega) (by omega)), if_pos (xin_n (by omega) (by omega)), nI_clamp (by omega), nI_1]
      by_cases ei : i = s
      · subst ei
        rw [if_pos rfl, ← e, root, vu_s]
        rfl
      · rw [if_neg (fun h => ei ((nI_eq (by omega) (by omega)).mp h)), ← e, root, vu_n ei]
        rfl
    · rw [hQ j]
      by_cases e2 : j = 10 + 10 * s + i
      · rw [if_neg (by omega), if_pos (by omega), e2, pk_us, Nat.add_sub_cancel_left]
      · rw [pk_un e2]
        by_cases h3 : 10 + 10 * s + (i + 1) ≤ j ∧ j < 10 + 10 * s + n
        · rw [if_pos h3, if_pos (by omega)]
        · rw [if_neg h3, if_neg (by omega)]
theorem growM (hn : n ≤ 10) (hA : ∀ u, u < n → A u < 2 ^ n) (hO : ∀ u, u < n → st u = nI (A u)) (hs : s < n) {t' : Nat → Nat} {k : Nat} (h : Dfs A n s 0 (root s) t' k) (pil nxs : Nat → Int32) : ∃ pil' nxs', f_X7_grow 1000 (nI s) (nI n) st pil nxs = some (rowM n s t' (st 110 + nI k) st, pil', nxs') := by
  obtain ⟨Q, e, hQ⟩ := growM2 hn hs (pil := pil) (nxs := nxs) n 0 1000 st (by omega) (by omega)
  have hq : Q = rowM n s (root s) (st 110) st := by
    funext j
    rw [hQ j, rowM, Nat.add_zero]
    by_cases e0 : j = 110
    · rw [if_pos e0, if_neg (by omega), e0]
    · rw [if_neg e0]
  have hbd : ∀ y, y < n → root s y < n + 2 := by
    intro y hy
    unfold root
    by_cases e : y = s
    · subst e; rw [vu_s]; omega
    · rw [vu_n e]; omega
  obtain ⟨pil', nxs', eg⟩ := goOnM (st := st) hn hA hO hs h hs hbd (st 110) pil nxs
  refine ⟨pil', nxs', ?_⟩
  rw [nI_0] at e
  unfold f_X7_grow
  rw [e, hq, eg]
  rfl
end E2
