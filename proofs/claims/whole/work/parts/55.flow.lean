/-! ===== ways that share no arc ===== -/
def b2 (b : Bool) : Nat := if b then 1 else 0
def dsum (n : Nat) (f : Nat → Nat → Nat) : Nat := sumN (fun x => sumN (f x) n) n
theorem dsum_congr {n : Nat} {f g : Nat → Nat → Nat} (h : ∀ x y, x < n → y < n → f x y = g x y) : dsum n f = dsum n g :=
  sumN_congr n (fun x hx => sumN_congr n (fun y hy => h x y hx hy))
theorem dsum_add (n : Nat) (f g : Nat → Nat → Nat) : dsum n (fun x y => f x y + g x y) = dsum n f + dsum n g := by
  unfold dsum
  rw [← sumN_add]
  exact sumN_congr n (fun x _ => sumN_add (f x) (g x) n)
theorem sumN_z : ∀ n, sumN (fun _ => 0) n = 0 := by
  intro n
  induction n with
  | zero => rfl
  | succ n ih => rw [sumN, ih]
theorem dsum_at {n p q : Nat} (hp : p < n) (hq : q < n) (c : Nat) : dsum n (fun x y => if x = p ∧ y = q then c else 0) = c := by
  have h1 : dsum n (fun x y => if x = p ∧ y = q then c else 0) = sumN (fun x => if x = p then c else 0) n := by
    refine sumN_congr n (fun x _ => ?_)
    by_cases e : x = p
    · rw [if_pos e]
      refine Eq.trans (sumN_congr n (g := fun y => if y = q then c else 0) (fun y _ => by simp [e])) ?_
      rw [sumN_at, if_pos hq]
    · rw [if_neg e]
      exact Eq.trans (sumN_congr n (g := fun _ => 0) (fun y _ => by simp [e])) (sumN_z n)
  rw [h1, sumN_at, if_pos hp]
/-- how much leads out of S -/
def cutS (n : Nat) (r : Nat → Nat → Nat) (S : Nat → Bool) : Nat := dsum n (fun x y => if S x = true ∧ S y = false then r x y else 0)
/-- r' is r, one more gone along from p to q -/
def Push (n : Nat) (r r' : Nat → Nat → Nat) (p q : Nat) : Prop := ∀ x y, x < n → y < n → r' x y + (if x = p ∧ y = q then 1 else 0) = r x y + (if x = q ∧ y = p then 1 else 0)
theorem Push.cut {n : Nat} {r r' : Nat → Nat → Nat} {p q : Nat} (h : Push n r r' p q) (hp : p < n) (hq : q < n) (S : Nat → Bool) : cutS n r' S + b2 (S p) = cutS n r S + b2 (S q) := by
  have h1 : dsum n (fun x y => (if S x = true ∧ S y = false then r' x y else 0) + (if x = p ∧ y = q then (if S p = true ∧ S q = false then 1 else 0) else 0)) = dsum n (fun x y => (if S x = true ∧ S y = false then r x y else 0) + (if x = q ∧ y = p then (if S q = true ∧ S p = false then 1 else 0) else 0)) := by
    refine dsum_congr (fun x y hx hy => ?_)
    have h2 := h x y hx hy
    by_cases hc : S x = true ∧ S y = false
    · rw [if_pos hc, if_pos hc]
      have e1 : (if x = p ∧ y = q then (if S p = true ∧ S q = false then 1 else 0) else 0) = (if x = p ∧ y = q then 1 else 0) := by
        by_cases e : x = p ∧ y = q
        · rw [if_pos e, if_pos e, if_pos (by rw [← e.1, ← e.2]; exact hc)]
        · rw [if_neg e, if_neg e]
      have e2 : (if x = q ∧ y = p then (if S q = true ∧ S p = false then 1 else 0) else 0) = (if x = q ∧ y = p then 1 else 0) := by
        by_cases e : x = q ∧ y = p
        · rw [if_pos e, if_pos e, if_pos (by rw [← e.1, ← e.2]; exact hc)]
        · rw [if_neg e, if_neg e]
      rw [e1, e2]; exact h2
    · rw [if_neg hc, if_neg hc]
      have e1 : (if x = p ∧ y = q then (if S p = true ∧ S q = false then 1 else 0) else 0) = 0 := by
        by_cases e : x = p ∧ y = q
        · rw [if_pos e, if_neg (by rw [← e.1, ← e.2]; exact hc)]
        · rw [if_neg e]
      have e2 : (if x = q ∧ y = p then (if S q = true ∧ S p = false then 1 else 0) else 0) = 0 := by
        by_cases e : x = q ∧ y = p
        · rw [if_pos e, if_neg (by rw [← e.1, ← e.2]; exact hc)]
        · rw [if_neg e]
      rw [e1, e2]
  rw [dsum_add, dsum_add, dsum_at hp hq, dsum_at hq hp] at h1
  unfold cutS
  cases hp' : S p <;> cases hq' : S q <;> simp [hp', hq', b2] at h1 ⊢ <;> omega
theorem Push.sum {n : Nat} {r r' : Nat → Nat → Nat} {p q : Nat} (h : Push n r r' p q) {x y : Nat} (hx : x < n) (hy : y < n) : r' x y + r' y x = r x y + r y x := by
  have h1 := h x y hx hy
  have h2 := h y x hy hx
  by_cases e1 : x = p ∧ y = q
  · have e1' : y = q ∧ x = p := ⟨e1.2, e1.1⟩
    by_cases e2 : x = q ∧ y = p
    · have e2' : y = p ∧ x = q := ⟨e2.2, e2.1⟩
      rw [if_pos e1, if_pos e2] at h1
      rw [if_pos e1', if_pos e2'] at h2
      omega
    · have e2' : ¬ (y = p ∧ x = q) := fun h => e2 ⟨h.2, h.1⟩
      rw [if_pos e1, if_neg e2] at h1
      rw [if_pos e1', if_neg e2'] at h2
      omega
  · have e1' : ¬ (y = q ∧ x = p) := fun h => e1 ⟨h.2, h.1⟩
    by_cases e2 : x = q ∧ y = p
    · have e2' : y = p ∧ x = q := ⟨e2.2, e2.1⟩
      rw [if_neg e1, if_pos e2] at h1
      rw [if_neg e1', if_pos e2'] at h2
      omega
    · have e2' : ¬ (y = p ∧ x = q) := fun h => e2 ⟨h.2, h.1⟩
      rw [if_neg e1, if_neg e2] at h1
      rw [if_neg e1', if_neg e2'] at h2
      omega
theorem Push.far {n : Nat} {r r' : Nat → Nat → Nat} {p q : Nat} (h : Push n r r' p q) {x y : Nat} (hx : x < n) (hy : y < n) (h1 : x ≠ p) (h2 : x ≠ q) : r' x y = r x y ∧ r' y x = r y x := by
  have h3 := h x y hx hy
  have h4 := h y x hy hx
  rw [if_neg (fun e => h1 e.1), if_neg (fun e => h2 e.1)] at h3
  rw [if_neg (fun e => h2 e.2), if_neg (fun e => h1 e.2)] at h4
  exact ⟨h3, h4⟩
/-- k ways have been gone along; r: what is left -/
def Flow (n : Nat) (a r : Nat → Nat → Nat) (u v k : Nat) : Prop :=
  (∀ x y, x < n → y < n → r x y + r y x = a x y + a y x) ∧ ∀ S : Nat → Bool, S u = true → S v = false → cutS n r S + k = cutS n a S
/-- S parts u from v: nothing is left that leads out of it -/
def Shut (n : Nat) (r : Nat → Nat → Nat) (u v : Nat) (S : Nat → Bool) : Prop :=
  S u = true ∧ S v = false ∧ ∀ x y, x < n → y < n → S x = true → S y = false → r x y = 0
theorem Shut.cut0 {n : Nat} {r : Nat → Nat → Nat} {u v : Nat} {S : Nat → Bool} (h : Shut n r u v S) : cutS n r S = 0 := by
  have : cutS n r S = dsum n (fun _ _ => 0) := dsum_congr (fun x y hx hy => by
    by_cases e : S x = true ∧ S y = false
    · rw [if_pos e]; exact h.2.2 x y hx hy e.1 e.2
    · rw [if_neg e])
  rw [this]
  unfold dsum
  rw [sumN_congr n (g := fun _ => 0) (fun x _ => sumN_z n), sumN_z]
/-- as few as may be -/
def Least (n : Nat) (a : Nat → Nat → Nat) (u v k : Nat) : Prop :=
  (∃ S : Nat → Bool, S u = true ∧ S v = false ∧ cutS n a S = k) ∧ ∀ S : Nat → Bool, S u = true → S v = false → k ≤ cutS n a S
theorem Flow.least {n : Nat} {a r : Nat → Nat → Nat} {u v k : Nat} (h : Flow n a r u v k) {S : Nat → Bool} (hS : Shut n r u v S) : Least n a u v k := by
  refine ⟨⟨S, hS.1, hS.2.1, ?_⟩, fun S' h1 h2 => ?_⟩
  · have := h.2 S hS.1 hS.2.1
    rw [hS.cut0] at this
    omega
  · have := h.2 S' h1 h2
    omega
theorem Least.eq {n : Nat} {a : Nat → Nat → Nat} {u v k j : Nat} (h1 : Least n a u v k) (h2 : Least n a u v j) : k = j := by
  obtain ⟨⟨S, a1, a2, a3⟩, a4⟩ := h1
  obtain ⟨⟨S', b1, b2, b3⟩, b4⟩ := h2
  have := a4 S' b1 b2
  have := b4 S a1 a2
  omega
theorem Flow.le9 {n : Nat} {a r : Nat → Nat → Nat} {u v k : Nat} (hn : n ≤ 10) (hu : u < n) (huv : u ≠ v) (ha : ∀ x y, x < n → y < n → a x y ≤ 1) (h : Flow n a r u v k) : k ≤ 9 := by
  have h1 := h.2 (fun x => decide (x = u)) (by simp) (decide_eq_false (fun e : v = u => huv e.symm))
  have h2 : cutS n a (fun x => decide (x = u)) + 1 ≤ n := by
    have e : cutS n a (fun x => decide (x = u)) = sumN (fun y => if y = u then 0 else a u y) n := by
      have h3 := sumN_at (i := u) (sumN (fun y => if y = u then 0 else a u y) n) n
      rw [if_pos hu] at h3
      rw [← h3]
      refine sumN_congr n (fun x _ => ?_)
      by_cases ex : x = u
      · rw [if_pos ex]
        refine sumN_congr n (fun y _ => ?_)
        by_cases ey : y = u
        · simp [ey]
        · simp [ex, ey]
      · rw [if_neg ex]
        exact Eq.trans (sumN_congr n (g := fun _ => 0) (fun y _ => by simp [ex])) (sumN_z n)
    have e1 := sumN_one n hu
    have e2 := sumN_c1 n
    have h4 : sumN (fun y => (if y = u then 0 else a u y) + (if y = u then 1 else 0)) n ≤ sumN (fun _ => 1) n := sumN_le n (fun y hy => by
      by_cases ey : y = u
      · simp [ey]
      · have := ha u y hu hy
        simp [ey]; exact this)
    rw [sumN_add, e1, e2] at h4
    omega
  omega
/-- who came from whom: b; r: by what -/
def Came (n u : Nat) (X : Nat) (b : Nat → Int32) (r : Nat → Nat → Nat) (rk : Nat → Nat) : Prop :=
  ∀ y, y < n → X.testBit y = true → y ≠ u → ∃ p, p < n ∧ b y = nI p ∧ X.testBit p = true ∧ 1 ≤ r p y ∧ rk p < rk y
/-- the way is gone back from v to q -/
def Gone (n : Nat) (r0 r : Nat → Nat → Nat) (rk : Nat → Nat) (v q : Nat) : Prop :=
  (∀ x y, x < n → y < n → rk x < rk q → r x y = r0 x y ∧ r y x = r0 y x) ∧ (∀ x y, x < n → y < n → r x y + r y x = r0 x y + r0 y x) ∧ ∀ S : Nat → Bool, cutS n r S + b2 (S q) = cutS n r0 S + b2 (S v)
theorem Gone.start (n : Nat) (r0 : Nat → Nat → Nat) (rk : Nat → Nat) (v : Nat) : Gone n r0 r0 rk v v := ⟨fun _ _ _ _ _ => ⟨rfl, rfl⟩, fun _ _ _ _ => rfl, fun _ => rfl⟩
theorem Gone.step {n : Nat} {r0 r r' : Nat → Nat → Nat} {rk : Nat → Nat} {v p q : Nat} (h : Gone n r0 r rk v q) (hp : p < n) (hq : q < n) (hr : rk p < rk q) (hP : Push n r r' p q) : Gone n r0 r' rk v p := by
  refine ⟨fun x y hx hy hlt => ?_, fun x y hx hy => ?_, fun S => ?_⟩
  · obtain ⟨e1, e2⟩ := hP.far hx hy (fun e => by rw [e] at hlt; omega) (fun e => by rw [e] at hlt; omega)
    obtain ⟨e3, e4⟩ := h.1 x y hx hy (by omega)
    exact ⟨by rw [e1, e3], by rw [e2, e4]⟩
  · rw [hP.sum hx hy, h.2.1 x y hx hy]
  · have h1 := hP.cut hp hq S
    have h2 := h.2.2 S
    omega
theorem Gone.flow {n : Nat} {a r0 r : Nat → Nat → Nat} {rk : Nat → Nat} {u v k : Nat} (h : Gone n r0 r rk v u) (hf : Flow n a r0 u v k) : Flow n a r u v (k + 1) := by
  refine ⟨fun x y hx hy => by rw [h.2.1 x y hx hy, hf.1 x y hx hy], fun S h1 h2 => ?_⟩
  have h3 := h.2.2 S
  have h4 := hf.2 S h1 h2
  rw [h1, h2] at h3
  have e1 : b2 true = 1 := rfl
  have e2 : b2 false = 0 := rfl
  omega
