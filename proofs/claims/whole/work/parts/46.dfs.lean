/-! ===== a tree grown by going on from its points ===== -/
/-- u's arcs from i on are gone through; t becomes t'; k arcs are looked at -/
def DfsC (A : Nat → Nat) (n : Nat) (R : Nat → Nat → (Nat → Nat) → (Nat → Nat) → Nat → Prop) : Prop :=
  (∀ u i t, n ≤ i → R u i t t 0) ∧
  (∀ u i t t' k, i < n → (A u).testBit i = false → R u (i + 1) t t' k → R u i t t' k) ∧
  (∀ u i t t' k, i < n → (A u).testBit i = true → t i ≠ 0 → R u (i + 1) t t' k → R u i t t' (k + 1)) ∧
  (∀ u i t t1 t' k1 k2, i < n → (A u).testBit i = true → t i = 0 → R i 0 (va_up t i (u + 2)) t1 k1 → R u (i + 1) t1 t' k2 → R u i t t' (k1 + k2 + 1))
def Dfs (A : Nat → Nat) (n : Nat) (u i : Nat) (t t' : Nat → Nat) (k : Nat) : Prop := ∀ R, DfsC A n R → R u i t t' k
theorem Dfs.done {A : Nat → Nat} {n u i : Nat} {t : Nat → Nat} (h : n ≤ i) : Dfs A n u i t t 0 := fun _ hR => hR.1 u i t h
theorem Dfs.skip {A : Nat → Nat} {n u i : Nat} {t t' : Nat → Nat} {k : Nat} (h1 : i < n) (h2 : (A u).testBit i = false) (h3 : Dfs A n u (i + 1) t t' k) : Dfs A n u i t t' k := fun R hR => hR.2.1 u i t t' k h1 h2 (h3 R hR)
theorem Dfs.old {A : Nat → Nat} {n u i : Nat} {t t' : Nat → Nat} {k : Nat} (h1 : i < n) (h2 : (A u).testBit i = true) (h0 : t i ≠ 0) (h3 : Dfs A n u (i + 1) t t' k) : Dfs A n u i t t' (k + 1) := fun R hR => hR.2.2.1 u i t t' k h1 h2 h0 (h3 R hR)
theorem Dfs.new {A : Nat → Nat} {n u i : Nat} {t t1 t' : Nat → Nat} {k1 k2 : Nat} (h1 : i < n) (h2 : (A u).testBit i = true) (h0 : t i = 0) (h3 : Dfs A n i 0 (va_up t i (u + 2)) t1 k1) (h4 : Dfs A n u (i + 1) t1 t' k2) : Dfs A n u i t t' (k1 + k2 + 1) := fun R hR => hR.2.2.2 u i t t1 t' k1 k2 h1 h2 h0 (h3 R hR) (h4 R hR)
theorem Dfs.ind {A : Nat → Nat} {n : Nat} {motive : (u i : Nat) → (t t' : Nat → Nat) → (k : Nat) → Dfs A n u i t t' k → Prop}
    (done : ∀ {u i : Nat} {t : Nat → Nat} (h : n ≤ i), motive u i t t 0 (.done h))
    (skip : ∀ {u i : Nat} {t t' : Nat → Nat} {k : Nat} (h1 : i < n) (h2 : (A u).testBit i = false) (h3 : Dfs A n u (i + 1) t t' k), motive u (i + 1) t t' k h3 → motive u i t t' k (.skip h1 h2 h3))
    (old : ∀ {u i : Nat} {t t' : Nat → Nat} {k : Nat} (h1 : i < n) (h2 : (A u).testBit i = true) (h0 : t i ≠ 0) (h3 : Dfs A n u (i + 1) t t' k), motive u (i + 1) t t' k h3 → motive u i t t' (k + 1) (.old h1 h2 h0 h3))
    (new : ∀ {u i : Nat} {t t1 t' : Nat → Nat} {k1 k2 : Nat} (h1 : i < n) (h2 : (A u).testBit i = true) (h0 : t i = 0) (h3 : Dfs A n i 0 (va_up t i (u + 2)) t1 k1) (h4 : Dfs A n u (i + 1) t1 t' k2), motive i 0 (va_up t i (u + 2)) t1 k1 h3 → motive u (i + 1) t1 t' k2 h4 → motive u i t t' (k1 + k2 + 1) (.new h1 h2 h0 h3 h4))
    {u i : Nat} {t t' : Nat → Nat} {k : Nat} (h : Dfs A n u i t t' k) : motive u i t t' k h := by
  have key := h (fun u i t t' k => ∃ h : Dfs A n u i t t' k, motive u i t t' k h) ⟨fun u i t h => ⟨.done h, done h⟩, fun u i t t' k h1 h2 h3 => ⟨.skip h1 h2 h3.1, skip h1 h2 h3.1 h3.2⟩, fun u i t t' k h1 h2 h0 h3 => ⟨.old h1 h2 h0 h3.1, old h1 h2 h0 h3.1 h3.2⟩, fun u i t t1 t' k1 k2 h1 h2 h0 h3 h4 => ⟨.new h1 h2 h0 h3.1 h4.1, new h1 h2 h0 h3.1 h4.1 h3.2 h4.2⟩⟩
  exact key.2
/-- how many are not in the tree; how many are -/
def zc (n : Nat) (t : Nat → Nat) : Nat := sumN (fun v => if t v = 0 then 1 else 0) n
def cnt (n : Nat) (t : Nat → Nat) : Nat := sumN (fun v => if t v = 0 then 0 else 1) n
theorem sumN_le {f g : Nat → Nat} : ∀ n, (∀ u, u < n → f u ≤ g u) → sumN f n ≤ sumN g n := by
  intro n
  induction n with
  | zero => intro _; exact Nat.le_refl _
  | succ n ih =>
    intro h
    simp only [sumN]
    have := ih (fun u hu => h u (by omega))
    have := h n (by omega)
    omega
theorem zc_cnt (n : Nat) (t : Nat → Nat) : zc n t + cnt n t = n := by
  unfold zc cnt
  rw [← sumN_add]
  refine Eq.trans (sumN_congr n (fun u _ => ?_)) (sumN_c1 n)
  split <;> rfl
theorem zc_up {n : Nat} {t : Nat → Nat} {i x : Nat} (hi : i < n) (h : t i = 0) (hx : x ≠ 0) : zc n (va_up t i x) + 1 = zc n t := by
  have e := sumN_one n hi
  have : zc n t = zc n (va_up t i x) + sumN (fun v => if v = i then 1 else 0) n := by
    unfold zc
    rw [← sumN_add]
    refine sumN_congr n (fun v _ => ?_)
    by_cases hv : v = i
    · subst hv; rw [vu_s]; simp [h, hx]
    · rw [vu_n hv]; simp [hv]
  rw [e] at this
  omega
theorem zc_mono {n : Nat} {t t' : Nat → Nat} (h : ∀ v, t v ≠ 0 → t' v ≠ 0) : zc n t' ≤ zc n t := by
  refine sumN_le n (fun v _ => ?_)
  by_cases h1 : t v = 0
  · simp only [h1, ↓reduceIte]; split <;> omega
  · simp [h v h1]
section D1
variable {A : Nat → Nat} {n : Nat}
theorem Dfs.pres {u i : Nat} {t t' : Nat → Nat} {k : Nat} (h : Dfs A n u i t t' k) : ∀ v, t v ≠ 0 → t' v = t v := by
  induction h using Dfs.ind with
  | done _ => intro v _; rfl
  | skip _ _ _ ih => exact ih
  | old _ _ _ _ ih => exact ih
  | @new u i t t1 t' k1 k2 hi hb h0 _ _ ih1 ih2 =>
    intro v hv
    have hvi : v ≠ i := fun e => hv (by rw [e]; exact h0)
    have e1 : t1 v = t v := by
      rw [ih1 v (by rw [vu_n hvi]; exact hv), vu_n hvi]
    rw [ih2 v (by rw [e1]; exact hv), e1]
theorem Dfs.zc {u i : Nat} {t t' : Nat → Nat} {k : Nat} (h : Dfs A n u i t t' k) : zc n t' ≤ zc n t := zc_mono (fun v hv => by rw [h.pres v hv]; exact hv)
theorem dfs_ex : ∀ k c u i (t : Nat → Nat), i + c = n → zc n t ≤ k → ∃ t' m, Dfs A n u i t t' m := by
  intro k
  induction k with
  | zero =>
    intro c
    induction c with
    | zero => intro u i t h1 h2; exact ⟨t, 0, .done (by omega)⟩
    | succ c ih =>
      intro u i t h1 h2
      obtain ⟨t', m, h⟩ := ih u (i + 1) t (by omega) h2
      cases hb : (A u).testBit i
      · exact ⟨t', m, .skip (by omega) hb h⟩
      · by_cases h0 : t i = 0
        · have := zc_up (show i < n by omega) h0 (show u + 2 ≠ 0 by omega)
          omega
        · exact ⟨t', m + 1, .old (by omega) hb h0 h⟩
  | succ k ihk =>
    intro c
    induction c with
    | zero => intro u i t h1 h2; exact ⟨t, 0, .done (by omega)⟩
    | succ c ih =>
      intro u i t h1 h2
      cases hb : (A u).testBit i
      · obtain ⟨t', m, h⟩ := ih u (i + 1) t (by omega) h2
        exact ⟨t', m, .skip (by omega) hb h⟩
      · by_cases h0 : t i = 0
        · have hz := zc_up (show i < n by omega) h0 (show u + 2 ≠ 0 by omega)
          obtain ⟨t1, m1, h3⟩ := ihk n i 0 (va_up t i (u + 2)) (by omega) (by omega)
          have hz1 := h3.zc
          obtain ⟨t', m2, h4⟩ := ih u (i + 1) t1 (by omega) (by omega)
          exact ⟨t', m1 + m2 + 1, .new (by omega) hb h0 h3 h4⟩
        · obtain ⟨t', m, h⟩ := ih u (i + 1) t (by omega) h2
          exact ⟨t', m + 1, .old (by omega) hb h0 h⟩
theorem Dfs.par {u i : Nat} {t t' : Nat → Nat} {k : Nat} (h : Dfs A n u i t t' k) : u < n → t u ≠ 0 → ∀ v, t v = 0 → t' v ≠ 0 → ∃ a, a < n ∧ t' v = a + 2 ∧ (A a).testBit v = true ∧ t' a ≠ 0 := by
  induction h using Dfs.ind with
  | done _ => intro _ _ v h1 h2; exact absurd h1 h2
  | skip _ _ _ ih => exact ih
  | old _ _ _ _ ih => exact ih
  | @new u i t t1 t' k1 k2 hi hb h0 d1 d2 ih1 ih2 =>
    intro hu htu v h1 h2
    have hui : u ≠ i := fun e => htu (by rw [e]; exact h0)
    have e1 : t1 i = u + 2 := by rw [d1.pres i (by rw [vu_s]; omega), vu_s]
    have e2 : t1 u = t u := by rw [d1.pres u (by rw [vu_n hui]; exact htu), vu_n hui]
    have e3 : t' u ≠ 0 := by rw [d2.pres u (by rw [e2]; exact htu), e2]; exact htu
    by_cases hvi : v = i
    · subst hvi
      exact ⟨u, hu, by rw [d2.pres v (by omega), e1], hb, e3⟩
    · by_cases h3 : t1 v = 0
      · exact ih2 hu (by rw [e2]; exact htu) v h3 h2
      · obtain ⟨a, a1, a2, a3, a4⟩ := ih1 hi (by rw [vu_s]; omega) v (by rw [vu_n hvi]; exact h1) h3
        exact ⟨a, a1, by rw [d2.pres v h3, a2], a3, by rw [d2.pres a a4]; exact a4⟩
theorem Dfs.clo {u i : Nat} {t t' : Nat → Nat} {k : Nat} (h : Dfs A n u i t t' k) : (∀ j, i ≤ j → j < n → (A u).testBit j = true → t' j ≠ 0) ∧ ∀ x, t x = 0 → t' x ≠ 0 → ∀ j, j < n → (A x).testBit j = true → t' j ≠ 0 := by
  induction h using Dfs.ind with
  | done h => exact ⟨fun j h1 h2 => absurd h2 (by omega), fun x h1 h2 => absurd h1 h2⟩
  | @skip u i t t' k hi hb d ih =>
    refine ⟨fun j h1 h2 h3 => ?_, ih.2⟩
    by_cases e : j = i
    · rw [e, hb] at h3; exact absurd h3 (by decide)
    · exact ih.1 j (by omega) h2 h3
  | @old u i t t' k hi hb h0 d ih =>
    refine ⟨fun j h1 h2 h3 => ?_, ih.2⟩
    by_cases e : j = i
    · rw [e, d.pres i h0]; exact h0
    · exact ih.1 j (by omega) h2 h3
  | @new u i t t1 t' k1 k2 hi hb h0 d1 d2 ih1 ih2 =>
    have e1 : t1 i ≠ 0 := by rw [d1.pres i (by rw [vu_s]; omega), vu_s]; omega
    have up : ∀ j, t1 j ≠ 0 → t' j ≠ 0 := fun j hj => by rw [d2.pres j hj]; exact hj
    refine ⟨fun j h1 h2 h3 => ?_, fun x h1 h2 j h3 h4 => ?_⟩
    · by_cases e : j = i
      · rw [e]; exact up i e1
      · exact ih2.1 j (by omega) h2 h3
    · by_cases hx : x = i
      · subst hx; exact up j (ih1.1 j (by omega) h3 h4)
      · by_cases h5 : t1 x = 0
        · exact ih2.2 x h5 h2 j h3 h4
        · exact up j (ih1.2 x (by rw [vu_n hx]; exact h1) h5 j h3 h4)
theorem Dfs.min {u i : Nat} {t t' : Nat → Nat} {k : Nat} (h : Dfs A n u i t t' k) (Q : Nat → Prop) (hQ : ∀ x y, x < n → y < n → Q x → (A x).testBit y = true → Q y) : u < n → Q u → ∀ v, t v = 0 → t' v ≠ 0 → Q v := by
  induction h using Dfs.ind with
  | done _ => intro _ _ v h1 h2; exact absurd h1 h2
  | skip _ _ _ ih => exact ih
  | old _ _ _ _ ih => exact ih
  | @new u i t t1 t' k1 k2 hi hb h0 d1 d2 ih1 ih2 =>
    intro hu hq v h1 h2
    have hqi := hQ u i hu hi hq hb
    by_cases hvi : v = i
    · rw [hvi]; exact hqi
    · by_cases h3 : t1 v = 0
      · exact ih2 hu hq v h3 h2
      · exact ih1 hi hqi v (by rw [vu_n hvi]; exact h1) h3
/-- a rank of a tree -/
def RK (n : Nat) (t r : Nat → Nat) : Prop := (∀ v, v < n → t v ≠ 0 → r v < cnt n t) ∧ ∀ v a, v < n → t v = a + 2 → t a ≠ 0 ∧ r v = r a + 1
theorem RK_up {t r : Nat → Nat} {u i : Nat} (h : RK n t r) (hi : i < n) (h0 : t i = 0) (hu : u < n) (htu : t u ≠ 0) : RK n (va_up t i (u + 2)) (va_up r i (r u + 1)) := by
  have hc : cnt n (va_up t i (u + 2)) = cnt n t + 1 := by
    have := zc_up hi h0 (show u + 2 ≠ 0 by omega)
    have := zc_cnt n t
    have := zc_cnt n (va_up t i (u + 2))
    omega
  have hui : u ≠ i := fun e => htu (by rw [e]; exact h0)
  refine ⟨fun v hv h1 => ?_, fun v a hv h1 => ?_⟩
  · rw [hc]
    by_cases e : v = i
    · subst e; rw [vu_s]; have := h.1 u hu htu; omega
    · rw [vu_n e] at h1 ⊢; have := h.1 v hv h1; omega
  · by_cases e : v = i
    · subst e
      rw [vu_s] at h1
      obtain rfl : a = u := by omega
      rw [vu_s, vu_n hui, vu_n hui]
      exact ⟨htu, rfl⟩
    · rw [vu_n e] at h1
      obtain ⟨k1, k2⟩ := h.2 v a hv h1
      have ha : a ≠ i := fun e => k1 (by rw [e]; exact h0)
      rw [vu_n e, vu_n ha, vu_n ha]
      exact ⟨k1, k2⟩
theorem Dfs.rank {u i : Nat} {t t' : Nat → Nat} {k : Nat} (h : Dfs A n u i t t' k) : u < n → t u ≠ 0 → ∀ r, RK n t r → ∃ r', RK n t' r' := by
  induction h using Dfs.ind with
  | done _ => intro _ _ r h; exact ⟨r, h⟩
  | skip _ _ _ ih => exact ih
  | old _ _ _ _ ih => exact ih
  | @new u i t t1 t' k1 k2 hi hb h0 d1 d2 ih1 ih2 =>
    intro hu htu r h
    have hui : u ≠ i := fun e => htu (by rw [e]; exact h0)
    obtain ⟨r1, h1⟩ := ih1 hi (by rw [vu_s]; omega) _ (RK_up h hi h0 hu htu)
    exact ih2 hu (by rw [d1.pres u (by rw [vu_n hui]; exact htu), vu_n hui]; exact htu) r1 h1
/-- how many of n are in a set -/
def pcN (n a : Nat) : Nat := sumN (fun v => if a.testBit v then 1 else 0) n
theorem sumF_all (f : Nat → Nat) (n : Nat) : sumF f n 0 = sumN f n := by
  have := sumF_N f n 0
  simp only [sumN, Nat.zero_add] at this
  exact this
theorem Dfs.work {u i : Nat} {t t' : Nat → Nat} {k : Nat} (h : Dfs A n u i t t' k) : k = sumF (fun j => if (A u).testBit j then 1 else 0) (n - i) i + sumN (fun x => if t x = 0 ∧ t' x ≠ 0 then pcN n (A x) else 0) n := by
  have z0 : ∀ t : Nat → Nat, sumN (fun x => if t x = 0 ∧ t x ≠ 0 then pcN n (A x) else 0) n = 0 := by
    intro t
    have : ∀ m, sumN (fun x => if t x = 0 ∧ t x ≠ 0 then pcN n (A x) else 0) m = 0 := by
      intro m
      induction m with
      | zero => rfl
      | succ m ih => rw [sumN, ih, if_neg (fun h => h.2 h.1)]
    exact this n
  induction h using Dfs.ind with
  | done h => rw [z0, show n - _ = 0 by omega]; rfl
  | @skip u i t t' k hi hb d ih =>
    rw [show n - i = (n - (i + 1)) + 1 by omega, sumF, hb]
    simp only [Bool.false_eq_true, ↓reduceIte, Nat.zero_add]
    exact ih
  | @old u i t t' k hi hb h0 d ih =>
    rw [show n - i = (n - (i + 1)) + 1 by omega, sumF, hb]
    simp only [↓reduceIte]
    omega
  | @new u i t t1 t' k1 k2 hi hb h0 d1 d2 ih1 ih2 =>
    rw [show n - i = (n - (i + 1)) + 1 by omega, sumF, hb]
    simp only [↓reduceIte]
    rw [Nat.sub_zero, sumF_all] at ih1
    have e1 : t1 i ≠ 0 := by rw [d1.pres i (by rw [vu_s]; omega), vu_s]; omega
    have e2 : t' i ≠ 0 := by rw [d2.pres i e1]; exact e1
    have hone : sumN (fun x => if x = i then pcN n (A i) else 0) n = pcN n (A i) := by
      have : ∀ m, sumN (fun x => if x = i then pcN n (A i) else 0) m = if i < m then pcN n (A i) else 0 := by
        intro m
        induction m with
        | zero => rfl
        | succ m ih =>
          rw [sumN, ih]
          by_cases h1 : i < m
          · rw [if_pos h1, if_neg (by omega), if_pos (by omega), Nat.add_zero]
          · by_cases h2 : m = i
            · rw [if_neg h1, if_pos h2, if_pos (by omega), Nat.zero_add]
            · rw [if_neg h1, if_neg h2, if_neg (by omega)]
      rw [this n, if_pos hi]
    have hs : sumN (fun x => if t x = 0 ∧ t' x ≠ 0 then pcN n (A x) else 0) n = sumN (fun x => if (va_up t i (u + 2)) x = 0 ∧ t1 x ≠ 0 then pcN n (A x) else 0) n + sumN (fun x => if t1 x = 0 ∧ t' x ≠ 0 then pcN n (A x) else 0) n + pcN n (A i) := by
      rw [← hone, ← sumN_add, ← sumN_add]
      refine sumN_congr n (fun x hx => ?_)
      by_cases e : x = i
      · subst e
        rw [vu_s, if_pos ⟨h0, e2⟩, if_neg (fun h => absurd h.1 (by omega)), if_neg (fun h => e1 h.1), if_pos rfl]
        omega
      · rw [vu_n e, if_neg e, Nat.add_zero]
        by_cases a1 : t x = 0
        · by_cases a2 : t1 x = 0
          · rw [if_neg (c := t x = 0 ∧ t1 x ≠ 0) (fun h => h.2 a2), Nat.zero_add]
            simp only [a1, a2]
          · have a3 : t' x ≠ 0 := by rw [d2.pres x a2]; exact a2
            rw [if_pos ⟨a1, a3⟩, if_pos ⟨a1, a2⟩, if_neg (fun h => a2 h.1), Nat.add_zero]
        · have a2 : t1 x ≠ 0 := by rw [d1.pres x (by rw [vu_n e]; exact a1), vu_n e]; exact a1
          rw [if_neg (fun h => a1 h.1), if_neg (fun h => a1 h.1), if_neg (fun h => a2 h.1)]
    rw [hs]
    have : pcN n (A i) = sumN (fun j => if (A i).testBit j = true then 1 else 0) n := rfl
    omega
end D1
