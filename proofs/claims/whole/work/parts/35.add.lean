/-! ===== putting a thing into a chain ===== -/
theorem nb01 {b : Int32} (h : b = 0 ∨ b = 1) : vp_nar .boolean b = b := by rcases h with rfl | rfl <;> decide
theorem i3p {c d : Prop} {_ : Decidable c} {_ : Decidable d} {α : Type} {v a b : α} (h : c) : (if c then v else if d then a else b) = v := if_pos h
theorem i3c {c d : Prop} {_ : Decidable c} {_ : Decidable d} {α : Type} {v a b : α} (h : ¬ c) (k : d) : (if c then v else if d then a else b) = a := by rw [if_neg h, if_pos k]
theorem i3n {c d : Prop} {_ : Decidable c} {_ : Decidable d} {α : Type} {v a b : α} (h : ¬ c) (k : ¬ d) : (if c then v else if d then a else b) = b := by rw [if_neg h, if_neg k]
theorem insC {p : Nat} {v b s : Int32} : ∀ (d x m : Nat) (val isa : Nat → Int32), x = p + d → x ≤ 7 → d < m → (∀ t, t < x → isa t = 0 ∨ isa t = 1) → ∃ g h, f_X0_insert_6 (nI p) v b s m (nI x) val isa = some (s + 1, g, h) ∧ ∀ t, g t = (if t = p then v else if p < t ∧ t ≤ x then val (t - 1) else val t) ∧ h t = (if t = p then vp_nar .boolean b else if p < t ∧ t ≤ x then isa (t - 1) else isa t) := by
  intro d
  induction d with
  | zero =>
    intro x m val isa hx h7 hm hb
    obtain ⟨m, rfl⟩ : ∃ k, m = k + 1 := ⟨m - 1, by omega⟩
    obtain rfl : p = x := by omega
    have q1 : nI p ≤ nI p := nI_le (by omega) (by omega)
    have q2 : xin (nI p) 8 = true := xin_n (by omega) (by omega)
    rw [f_X0_insert_6]
    simp only [q1, q2, ↓reduceIte, nI_clamp (show p < 2 ^ 31 by omega)]
    refine ⟨_, _, rfl, fun t => ?_⟩
    by_cases ht : t = p
    · rw [i3p ht, i3p ht, ht, pk_us, pk_us]; exact ⟨rfl, rfl⟩
    · have hn : ¬ (p < t ∧ t ≤ p) := by omega
      rw [i3n ht hn, i3n ht hn, pk_un ht, pk_un ht]; exact ⟨rfl, rfl⟩
  | succ d ih =>
    intro x m val isa hx h7 hm hb
    obtain ⟨m, rfl⟩ : ∃ k, m = k + 1 := ⟨m - 1, by omega⟩
    obtain ⟨y, rfl⟩ : ∃ y, x = y + 1 := ⟨x - 1, by omega⟩
    have q1 : ¬ nI (y + 1) ≤ nI p := nI_ge (by omega) (by omega)
    have q2 : xin (nI (y + 1)) 8 = true := xin_n (by omega) (by omega)
    have q3 : xin (nI y) 8 = true := xin_n (by omega) (by omega)
    rw [f_X0_insert_6]
    simp only [q1, q2, q3, nI_pred, pk_m1, ↓reduceIte, nI_clamp (show y < 2 ^ 31 by omega), nI_clamp (show y + 1 < 2 ^ 31 by omega), nb01 (hb y (by omega))]
    obtain ⟨g, h, e, hg⟩ := ih y m (upd val (y + 1) (val y)) (upd isa (y + 1) (isa y)) (by omega) (by omega) (by omega) (fun t ht => by rw [pk_un (by omega)]; exact hb t (by omega))
    refine ⟨g, h, e, fun t => ?_⟩
    rw [(hg t).1, (hg t).2]
    by_cases h1 : t = p
    · rw [i3p h1, i3p h1, i3p h1, i3p h1]; exact ⟨rfl, rfl⟩
    · by_cases h2 : t = y + 1
      · subst h2
        have a1 : ¬ (p < y + 1 ∧ y + 1 ≤ y) := by omega
        have a2 : p < y + 1 ∧ y + 1 ≤ y + 1 := by omega
        rw [i3n h1 a1, i3n h1 a1, i3c h1 a2, i3c h1 a2, pk_us, pk_us]; exact ⟨rfl, rfl⟩
      · by_cases h3 : p < t ∧ t ≤ y
        · have a2 : p < t ∧ t ≤ y + 1 := by omega
          rw [i3c h1 h3, i3c h1 h3, i3c h1 a2, i3c h1 a2, pk_un (show t - 1 ≠ y + 1 by omega), pk_un (show t - 1 ≠ y + 1 by omega)]; exact ⟨rfl, rfl⟩
        · have a2 : ¬ (p < t ∧ t ≤ y + 1) := by omega
          rw [i3n h1 h3, i3n h1 h3, i3n h1 a2, i3n h1 a2, pk_un h2, pk_un h2]; exact ⟨rfl, rfl⟩
theorem insM {k p : Nat} (hk : k < 3) {so v : Int32} {szs : Nat → Int32} : ∀ (d x m : Nat) (sos ths : Nat → Int32), x = p + d → x ≤ 7 → d < m → ∃ g h, f_X7_add_132 (nI k) so v (nI (8 * k)) (nI p) szs m (nI x) sos ths = some (szs k + 1, upd szs k (szs k + 1), g, h) ∧ ∀ t, g t = (if t = 8 * k + p then so else if 8 * k + p < t ∧ t ≤ 8 * k + x then sos (t - 1) else sos t) ∧ h t = (if t = 8 * k + p then v else if 8 * k + p < t ∧ t ≤ 8 * k + x then ths (t - 1) else ths t) := by
  have hxi : xin (nI k) 3 = true := xin_n hk (by omega)
  have qk := nI_clamp (show k < 2 ^ 31 by omega)
  intro d
  induction d with
  | zero =>
    intro x m sos ths hx h7 hm
    obtain ⟨m, rfl⟩ : ∃ k, m = k + 1 := ⟨m - 1, by omega⟩
    obtain rfl : p = x := by omega
    have q1 : nI p ≤ nI p := nI_le (by omega) (by omega)
    have q2 : xin (nI (8 * k + p)) 24 = true := xin_n (by omega) (by omega)
    rw [f_X7_add_132]
    simp only [q1, q2, hxi, nI_add, ↓reduceIte, qk, nI_clamp (show 8 * k + p < 2 ^ 31 by omega), pk_us]
    refine ⟨_, _, rfl, fun t => ?_⟩
    by_cases ht : t = 8 * k + p
    · rw [i3p ht, i3p ht, ht, pk_us, pk_us]; exact ⟨rfl, rfl⟩
    · have hn : ¬ (8 * k + p < t ∧ t ≤ 8 * k + p) := by omega
      rw [i3n ht hn, i3n ht hn, pk_un ht, pk_un ht]; exact ⟨rfl, rfl⟩
  | succ d ih =>
    intro x m sos ths hx h7 hm
    obtain ⟨m, rfl⟩ : ∃ k, m = k + 1 := ⟨m - 1, by omega⟩
    obtain ⟨y, rfl⟩ : ∃ y, x = y + 1 := ⟨x - 1, by omega⟩
    have q1 : ¬ nI (y + 1) ≤ nI p := nI_ge (by omega) (by omega)
    have q2 : xin (nI (8 * k + (y + 1))) 24 = true := xin_n (by omega) (by omega)
    have q3 : xin (nI (8 * k + y)) 24 = true := xin_n (by omega) (by omega)
    have q4 : nI (8 * k + (y + 1)) - 1 = nI (8 * k + y) := by rw [← Nat.add_assoc, nI_pred]
    rw [f_X7_add_132]
    simp only [q1, nI_add, q4, q2, q3, pk_m1, ↓reduceIte, nI_clamp (show 8 * k + y < 2 ^ 31 by omega), nI_clamp (show 8 * k + (y + 1) < 2 ^ 31 by omega)]
    obtain ⟨g, h, e, hg⟩ := ih y m (upd sos (8 * k + (y + 1)) (sos (8 * k + y))) (upd ths (8 * k + (y + 1)) (ths (8 * k + y))) (by omega) (by omega) (by omega)
    refine ⟨g, h, e, fun t => ?_⟩
    rw [(hg t).1, (hg t).2]
    by_cases h1 : t = 8 * k + p
    · rw [i3p h1, i3p h1, i3p h1, i3p h1]; exact ⟨rfl, rfl⟩
    · by_cases h2 : t = 8 * k + (y + 1)
      · subst h2
        have a1 : ¬ (8 * k + p < 8 * k + (y + 1) ∧ 8 * k + (y + 1) ≤ 8 * k + y) := by omega
        have a2 : 8 * k + p < 8 * k + (y + 1) ∧ 8 * k + (y + 1) ≤ 8 * k + (y + 1) := by omega
        have a3 : 8 * k + (y + 1) - 1 = 8 * k + y := by omega
        rw [i3n h1 a1, i3n h1 a1, i3c h1 a2, i3c h1 a2, pk_us, pk_us, a3]; exact ⟨rfl, rfl⟩
      · by_cases h3 : 8 * k + p < t ∧ t ≤ 8 * k + y
        · have a2 : 8 * k + p < t ∧ t ≤ 8 * k + (y + 1) := by omega
          rw [i3c h1 h3, i3c h1 h3, i3c h1 a2, i3c h1 a2, pk_un (show t - 1 ≠ 8 * k + (y + 1) by omega), pk_un (show t - 1 ≠ 8 * k + (y + 1) by omega)]; exact ⟨rfl, rfl⟩
        · have a2 : ¬ (8 * k + p < t ∧ t ≤ 8 * k + (y + 1)) := by omega
          rw [i3n h1 h3, i3n h1 h3, i3n h1 a2, i3n h1 a2, pk_un h2, pk_un h2]; exact ⟨rfl, rfl⟩
theorem thing01 {n : Nat} {so th : Int32} (h : thing n so th) : so = 0 ∨ so = 1 := h.elim (fun h => Or.inl h.1) (fun h => Or.inr h.1)
/-- a thing comes in at place p of chain k: the invariant goes on -/
theorem InvC_ins {n : Nat} {cM cS : Nat → Int32} {cV cB : Nat → Nat → Int32} {szs sos ths : Nat → Int32} (hC : InvC n cM cS cV cB szs sos ths) {k z p : Nat} (hk : k < 3) (hz : z < 8) (hp : p ≤ z) (c1 : cM k = 0) (c4 : ∀ i, i < z → ths (8 * k + i) = cV k i ∧ sos (8 * k + i) = cB k i ∧ thing n (cB k i) (cV k i)) {so v : Int32} (ht : thing n so v) {g h g2 h2 : Nat → Int32}
    (hg : ∀ t, g t = (if t = p then v else if p < t ∧ t ≤ z then cV k (t - 1) else cV k t) ∧ h t = (if t = p then so else if p < t ∧ t ≤ z then cB k (t - 1) else cB k t))
    (hg2 : ∀ t, g2 t = (if t = 8 * k + p then so else if 8 * k + p < t ∧ t ≤ 8 * k + z then sos (t - 1) else sos t) ∧ h2 t = (if t = 8 * k + p then v else if 8 * k + p < t ∧ t ≤ 8 * k + z then ths (t - 1) else ths t)) : InvC n cM (va_up cS k (nI (z + 1))) (va_up cV k g) (va_up cB k h) (upd szs k (nI (z + 1))) g2 h2 := by
  refine InvC_set hC hk (fun j hj hjk => ⟨rfl, vu_n hjk, vu_n hjk, vu_n hjk, pk_un hjk, fun i hi => ?_⟩) (Or.inr ⟨c1, z + 1, by omega, vu_s, pk_us, fun i hi => ?_⟩)
  · have a1 : ¬ 8 * j + i = 8 * k + p := by omega
    have a2 : ¬ (8 * k + p < 8 * j + i ∧ 8 * j + i ≤ 8 * k + z) := by omega
    rw [(hg2 _).1, (hg2 _).2]
    rw [i3n a1 a2, i3n a1 a2]; exact ⟨rfl, rfl⟩
  · rw [vu_s, vu_s, (hg i).1, (hg i).2, (hg2 _).1, (hg2 _).2]
    by_cases h1 : i = p
    · subst h1
      rw [i3p rfl, i3p rfl, i3p rfl, i3p rfl]; exact ⟨rfl, rfl, ht⟩
    · have a1 : ¬ 8 * k + i = 8 * k + p := by omega
      by_cases h3 : p < i ∧ i ≤ z
      · have a2 : 8 * k + p < 8 * k + i ∧ 8 * k + i ≤ 8 * k + z := by omega
        obtain ⟨d1, d2, d3⟩ := c4 (i - 1) (by omega)
        rw [show 8 * k + (i - 1) = 8 * k + i - 1 by omega] at d1 d2
        rw [i3c h1 h3, i3c h1 h3, i3c a1 a2, i3c a1 a2]; exact ⟨d1, d2, d3⟩
      · have a2 : ¬ (8 * k + p < 8 * k + i ∧ 8 * k + i ≤ 8 * k + z) := by omega
        obtain ⟨d1, d2, d3⟩ := c4 i (by omega)
        rw [i3n h1 h3, i3n h1 h3, i3n a1 a2, i3n a1 a2]; exact ⟨d1, d2, d3⟩
