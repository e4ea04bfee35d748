/-! ===== what an arc would bring ===== -/
theorem sumN_at {i : Nat} (c : Nat) : ∀ n, sumN (fun x => if x = i then c else 0) n = if i < n then c else 0 := by
  intro n
  induction n with
  | zero => rfl
  | succ m ih =>
    rw [sumN, ih]
    by_cases h1 : i < m
    · rw [if_pos h1, if_neg (by omega), if_pos (by omega), Nat.add_zero]
    · by_cases h2 : m = i
      · rw [if_neg h1, if_pos h2, if_pos (by omega), Nat.zero_add]
      · rw [if_neg h1, if_neg h2, if_neg (by omega)]
theorem sumN_b {f : Nat → Nat} {b : Nat} : ∀ n, (∀ u, u < n → f u ≤ b) → sumN f n ≤ b * n := by
  intro n
  induction n with
  | zero => intro _; exact Nat.zero_le _
  | succ m ih =>
    intro h
    have h1 := ih (fun u hu => h u (by omega))
    have h2 := h m (by omega)
    rw [sumN, Nat.mul_succ]
    omega
theorem nI_ge1 {k : Nat} (h : k < 2 ^ 31) : (-1 : Int32) ≤ nI k := by
  rw [Int32.le_iff_toInt_le, nI_toInt h]
  have : (-1 : Int32).toInt = -1 := by decide
  omega
section G1
variable {n : Nat} {A M : Nat → Nat} {T : Nat → Nat → Nat} {P W : Int32} {O Mm Ab st : Nat → Int32}
theorem tree_ind (g : Good n A M T) {s : Nat} (hs : s < n) {Q : Nat → Prop} (h0 : Q s) (hc : ∀ a y, a < n → y < n → Q a → (A a).testBit y = true → Q y) : ∀ y, y < n → T s y ≠ 0 → Q y := by
  obtain ⟨r, -, r2⟩ := g.2.2.2.2.2.2.1 s hs
  have key : ∀ k y, r y ≤ k → y < n → T s y ≠ 0 → Q y := by
    intro k
    induction k with
    | zero =>
      intro y hr hy ht
      by_cases e : y = s
      · rw [e]; exact h0
      · rcases g.2.2.2.2.1 s y hs hy e with h | ⟨a, a1, a2, a3, a4⟩
        · exact absurd h ht
        · have := r2 y a hy a2; omega
    | succ k ih =>
      intro y hr hy ht
      by_cases e : y = s
      · rw [e]; exact h0
      · rcases g.2.2.2.2.1 s y hs hy e with h | ⟨a, a1, a2, a3, a4⟩
        · exact absurd h ht
        · have := r2 y a hy a2
          exact hc a y a1 hy (ih a (by omega) a1 a4) a3
  exact fun y hy ht => key (r y) y (Nat.le_refl _) hy ht
theorem PutT.new (g : Good n A M T) {u v s : Nat} (hu : u < n) (hv : v < n) (hs : s < n) {t' : Nat → Nat} {k : Nat} (h : PutT (addA A u v) n u v (T s) t' k) {x : Nat} (hx : x < n) : (T s x = 0 ∧ t' x ≠ 0) ↔ (T s u ≠ 0 ∧ T v x ≠ 0 ∧ T s x = 0) := by
  have hclo := fun {x y : Nat} (hx : x < n) (hy : y < n) (h1 : t' x ≠ 0) (h2 : (addA A u v x).testBit y = true) => h.clo (fun x y hx hy h3 h4 => g.2.2.2.2.2.1 s x y hs hx hy h3 h4) hx hy h1 h2
  have hsub : T s v ≠ 0 → T v x ≠ 0 → T s x ≠ 0 := fun a b => tree_ind g hv (Q := fun y => T s y ≠ 0) a (fun a y ha hy h1 h2 => g.2.2.2.2.2.1 s a y hs ha hy h1 h2) x hx b
  refine ⟨fun ⟨a1, a2⟩ => ?_, fun ⟨a1, a2, a3⟩ => ⟨a3, ?_⟩⟩
  · rcases h with ⟨-, e, -⟩ | ⟨-, -, e, -⟩ | ⟨p1, p2, j, d, -⟩
    · rw [e] at a2; exact absurd a1 a2
    · rw [e] at a2; exact absurd a1 a2
    · refine ⟨p1, ?_, a1⟩
      have hvv := g.2.2.2.1 v hv
      by_cases ex : x = v
      · subst ex; rw [hvv]; omega
      · have hq := d.min (fun y => T v y ≠ 0 ∨ T s y ≠ 0) (fun x y hx hy hq hb => by
          rcases addA_tb hb with h3 | ⟨rfl, rfl⟩
          · rcases hq with h4 | h4
            · exact Or.inl (g.2.2.2.2.2.1 v x y hv hx hy h4 h3)
            · exact Or.inr (g.2.2.2.2.2.1 s x y hs hx hy h4 h3)
          · exact Or.inl (by rw [hvv]; omega)) hv (Or.inl (by rw [hvv]; omega)) x (by rw [vu_n ex]; exact a1) a2
        exact hq.resolve_right (fun h => h a1)
  · rcases id h with ⟨p1, -, -⟩ | ⟨p1, p2, -, -⟩ | ⟨p1, p2, j, d, -⟩
    · exact absurd p1 a1
    · exact absurd a3 (hsub p2 a2)
    · have ev : t' v ≠ 0 := by rw [d.pres v (by rw [vu_s]; omega), vu_s]; omega
      exact tree_ind g hv (Q := fun y => t' y ≠ 0) ev (fun a y ha hy h1 h2 => hclo ha hy h1 (addA_old h2)) x hx a2
/-- what tree s would get -/
def nw (M : Nat → Nat) (T : Nat → Nat → Nat) (u v s : Nat) : Nat := if T s u = 0 then 0 else dif (M v) (M s)
theorem nw_lt (g : Good n A M T) {u v s : Nat} (hv : v < n) : nw M T u v s < 2 ^ n := by
  unfold nw
  split
  · exact Nat.two_pow_pos n
  · exact dif_lt (g.2.2.1 v hv).1
theorem nw_tb (g : Good n A M T) {u v s : Nat} (hv : v < n) (hs : s < n) {x : Nat} (hx : x < n) : (nw M T u v s).testBit x = decide (T s u ≠ 0 ∧ T v x ≠ 0 ∧ T s x = 0) := by
  unfold nw
  by_cases h : T s u = 0
  · rw [if_pos h, Nat.zero_testBit]; simp [h]
  · rw [if_neg h, dif_tb, (g.2.2.1 v hv).2 x hx, (g.2.2.1 s hs).2 x hx]
    by_cases h1 : T v x = 0
    · simp [h1]
    · by_cases h2 : T s x = 0
      · simp [h, h1, h2]
      · simp [h1, h2]
theorem PutT.prs_nw (g : Good n A M T) {u v s : Nat} (hu : u < n) (hv : v < n) (hs : s < n) {T' : Nat → Nat → Nat} {k : Nat} (h : PutT (addA A u v) n u v (T s) (T' s) k) : prs T' s n = prs T s n + pc (nw M T u v s) := by
  have hn := g.1.2
  have ht : T' s s ≠ 0 := by have := g.2.2.2.1 s hs; rw [h.pres (by omega)]; omega
  have e1 : prs T' s n + 1 = pc (vm n (T' s)) := by
    rw [pc_sum hn vm_lt, show prs T' s n + 1 = prs T' s n + sumN (fun v => if v = s then 1 else 0) n by rw [sumN_one n hs], prs, ← sumN_add]
    refine sumN_congr n (fun v hv => ?_)
    rw [vm_tb hv]
    by_cases h : s = v
    · subst h; simp [ht]
    · have h' : ¬ v = s := fun e => h e.symm
      simp [h, h']
  have e2 := prs_pc g hs
  have e3 : dif (vm n (T' s)) (M s) = nw M T u v s := by
    refine eq_tb (dif_lt vm_lt) (nw_lt g hv) (fun x hx => ?_)
    rw [dif_tb, vm_tb hx, (g.2.2.1 s hs).2 x hx, nw_tb g hv hs hx]
    have := h.new g hu hv hs hx
    by_cases h1 : T s x = 0
    · by_cases h2 : T' s x = 0
      · have h3 : ¬ (T s u ≠ 0 ∧ T v x ≠ 0 ∧ T s x = 0) := fun h => (this.mpr h).2 h2
        simp only [decide_eq_false h3]; simp [h2]
      · have h3 := this.mp ⟨h1, h2⟩
        simp only [decide_eq_true h3]; simp [h1, h2]
    · have h3 : ¬ (T s u ≠ 0 ∧ T v x ≠ 0 ∧ T s x = 0) := fun h => h1 h.2.2
      simp only [decide_eq_false h3]; simp [h1]
  have e4 := pc_dif (a := M s) (b := vm n (T' s)) (fun x hx => by
    have hxn := tb_n (g.2.2.1 s hs).1 hx
    rw [(g.2.2.1 s hs).2 x hxn] at hx
    have h1 : T s x ≠ 0 := of_decide_eq_true hx
    rw [vm_tb hxn, h.pres h1]
    exact decide_eq_true h1)
  rw [e3] at e4
  omega
theorem PutT.wk (g : Good n A M T) {u v s : Nat} (hu : u < n) (hv : v < n) (huv : u ≠ v) (hs : s < n) {t' : Nat → Nat} {k : Nat} (h : PutT (addA A u v) n u v (T s) t' k) : k = if T s u = 0 then 0 else 1 + cntB A (nw M T u v s) (full n) n := by
  have hn := g.1.2
  have hnew := fun {x : Nat} (hx : x < n) => h.new g hu hv hs hx
  have nb : ∀ x, x < n → ((nw M T u v s).testBit x = true ↔ (T s x = 0 ∧ t' x ≠ 0)) := by
    intro x hx
    rw [nw_tb g hv hs hx, hnew hx, decide_eq_true_eq]
  rcases h with ⟨p1, -, e⟩ | ⟨p1, p2, e1, e⟩ | ⟨p1, p2, j, d, e⟩
  · rw [if_pos p1, e]
  · rw [if_neg p1, e]
    have : cntB A (nw M T u v s) (full n) n = sumN (fun _ => 0) n := sumN_congr n (fun x hx => by
      rw [if_neg]
      intro h1
      have h2 := (nb x hx).mp h1
      rw [e1] at h2
      exact h2.2 h2.1)
    have hz : ∀ m, sumN (fun _ => 0) m = 0 := by
      intro m
      induction m with
      | zero => rfl
      | succ m ih => rw [sumN, ih]
    rw [this, hz]
  · rw [if_neg p1, e]
    have hw := d.work
    rw [Nat.sub_zero, sumF_all] at hw
    have ev : t' v ≠ 0 := by rw [d.pres v (by rw [vu_s]; omega), vu_s]; omega
    have hpc : ∀ x, x < n → x ≠ u → pcN n (addA A u v x) = pc (A x &&& full n) := by
      intro x hx hxu
      rw [addA, if_neg hxu, and_full hn (g.2.1 x hx).1, pc_sum hn (g.2.1 x hx).1]
      rfl
    have h1 : cntB A (nw M T u v s) (full n) n = sumN (fun x => if (va_up (T s) v (u + 2)) x = 0 ∧ t' x ≠ 0 then pcN n (addA A u v x) else 0) n + sumN (fun x => if x = v then pcN n (addA A u v v) else 0) n := by
      rw [← sumN_add]
      refine sumN_congr n (fun x hx => ?_)
      by_cases ex : x = v
      · subst ex
        rw [if_pos ((nb x hx).mpr ⟨p2, ev⟩), vu_s, if_neg (fun h => absurd h.1 (by omega)), if_pos rfl, Nat.zero_add, hpc x hx (fun h => huv h.symm)]
      · rw [vu_n ex, if_neg ex, Nat.add_zero]
        by_cases hb : (nw M T u v s).testBit x = true
        · have h2 := (nb x hx).mp hb
          have hxu : x ≠ u := fun e => p1 (by rw [← e]; exact h2.1)
          rw [if_pos hb, if_pos h2, hpc x hx hxu]
        · rw [if_neg hb, if_neg (fun h => hb ((nb x hx).mpr h))]
    have h2 := sumN_at (i := v) (pcN n (addA A u v v)) n
    rw [if_pos hv] at h2
    have h3 : pcN n (addA A u v v) = sumN (fun j => if (addA A u v v).testBit j = true then 1 else 0) n := rfl
    rw [h1, h2]
    omega
end G1
