/-! ===== sets of points: more bits; how many arcs (nx_and, nx_xor began as rows of kit/laws/BITS.to-paste) ===== -/
theorem nx_and (a b : Nat) : nI a &&& nI b = nI (a &&& b) := by
  apply Int32.toBitVec_inj.1
  show BitVec.ofNat 32 a &&& BitVec.ofNat 32 b = BitVec.ofNat 32 (a &&& b)
  apply BitVec.eq_of_getLsbD_eq
  intro i hi
  simp [hi]
theorem nx_or (a b : Nat) : nI a ||| nI b = nI (a ||| b) := by
  apply Int32.toBitVec_inj.1
  show BitVec.ofNat 32 a ||| BitVec.ofNat 32 b = BitVec.ofNat 32 (a ||| b)
  apply BitVec.eq_of_getLsbD_eq
  intro i hi
  simp [hi]
theorem nx_xor (a b : Nat) : nI a ^^^ nI b = nI (a ^^^ b) := by
  apply Int32.toBitVec_inj.1
  show BitVec.ofNat 32 a ^^^ BitVec.ofNat 32 b = BitVec.ofNat 32 (a ^^^ b)
  apply BitVec.eq_of_getLsbD_eq
  intro i hi
  simp [hi]
/-- all of n points -/
def full (n : Nat) : Nat := 2 ^ n - 1
theorem allP {n : Nat} (hn : n ≤ 10) : f_X3_allPoints (nI n) = nI (full n) := by
  have h : (List.range 11).all (fun n => decide (f_X3_allPoints (nI n) = nI (full n))) = true := by decide +kernel
  exact of_decide_eq_true (al2 h n (by omega))
theorem full_tb {n u : Nat} (hn : n ≤ 10) (hu : u < 10) : (full n).testBit u = decide (u < n) := by
  have h : (List.range 11).all (fun n => (List.range 10).all (fun u => decide ((full n).testBit u = decide (u < n)))) = true := by decide +kernel
  exact of_decide_eq_true (al2 (al2 h n (by omega)) u hu)
theorem full_lt {n : Nat} (hn : n ≤ 10) : full n < 1024 := by
  have h : (List.range 11).all (fun n => decide (full n < 1024)) = true := by decide +kernel
  exact of_decide_eq_true (al2 h n (by omega))
theorem and_lt {a b : Nat} (ha : a < 1024) : a &&& b < 1024 := Nat.lt_of_le_of_lt Nat.and_le_left ha
theorem and_full {n a : Nat} (hn : n ≤ 10) (ha : a < 2 ^ n) : a &&& full n = a := by
  unfold full
  rw [Nat.and_two_pow_sub_one_eq_mod, Nat.mod_eq_of_lt ha]
/-- arcs from a set to a set -/
def cntB (A : Nat → Nat) (F G : Nat) (n : Nat) : Nat := sumN (fun u => if F.testBit u then pc (A u &&& G) else 0) n
theorem sumN_congr {f g : Nat → Nat} : ∀ n, (∀ u, u < n → f u = g u) → sumN f n = sumN g n := by
  intro n
  induction n with
  | zero => intro _; rfl
  | succ n ih =>
    intro h
    simp only [sumN]
    rw [ih (fun u hu => h u (by omega)), h n (by omega)]
/-- a sum from i on -/
def sumF (f : Nat → Nat) : Nat → Nat → Nat
  | 0, _ => 0
  | c + 1, i => f i + sumF f c (i + 1)
theorem sumF_N (f : Nat → Nat) : ∀ c i, sumN f i + sumF f c i = sumN f (i + c) := by
  intro c
  induction c with
  | zero => intro i; rfl
  | succ c ih =>
    intro i
    simp only [sumF]
    rw [← Nat.add_assoc, show sumN f i + f i = sumN f (i + 1) from rfl, ih (i + 1), show i + 1 + c = i + (c + 1) by omega]
section S3
variable {n : Nat} {A M : Nat → Nat} {T : Nat → Nat → Nat} {P W : Int32} {O Mm Ab st : Nat → Int32}
theorem betw_loop (g : Good n A M T) (r : Rep n A M T P W O Mm Ab st) {F G : Nat} (hF : F < 1024) (hG : G < 1024) : ∀ (c i m x : Nat), i + c = n → c < m → f_X3_arcsBetween_5 (nI F) (nI G) (nI n) O m (nI x) (nI i) = some (nI (x + sumF (fun u => if F.testBit u then pc (A u &&& G) else 0) c i)) := by
  have hn := g.1.2
  intro c
  induction c with
  | zero =>
    intro i m x h1 h2
    obtain ⟨m, rfl⟩ : ∃ k, m = k + 1 := ⟨m - 1, by omega⟩
    rw [f_X3_arcsBetween_5, if_pos (nI_le (by omega) (by omega))]
    rfl
  | succ c ih =>
    intro i m x h1 h2
    obtain ⟨m, rfl⟩ : ∃ k, m = k + 1 := ⟨m - 1, by omega⟩
    have q1 : ¬ nI n ≤ nI i := nI_ge (by omega) (by omega)
    have q2 : xin (nI i) 10 = true := xin_n (by omega) (by omega)
    have hA := pow10 hn (g.2.1 i (by omega)).1
    rw [f_X3_arcsBetween_5]
    simp only [q1, q2, ↓reduceIte, nI_clamp (show i < 2 ^ 31 by omega), hasC hF (show i < 10 by omega), (r.2.2.1 i (by omega)).1, nx_and, bcC (and_lt hA), nI_add, nI_1]
    cases hb : F.testBit i
    · simp only [bI, ↓reduceIte, Bool.false_eq_true]
      rw [ih (i + 1) m x (by omega) (by omega)]
      simp [sumF, hb]
    · simp only [bI, ↓reduceIte, i10]
      rw [ih (i + 1) m _ (by omega) (by omega)]
      simp [sumF, hb, Nat.add_assoc]
theorem betwC (g : Good n A M T) (r : Rep n A M T P W O Mm Ab st) {F G : Nat} (hF : F < 1024) (hG : G < 1024) : f_X3_arcsBetween 1000 (nI F) (nI G) (nI n) O = some (nI (cntB A F G n)) := by
  have hn := g.1.2
  unfold f_X3_arcsBetween
  have h := betw_loop g r hF hG n 0 1000 0 (by omega) (by omega)
  rw [nI_0] at h
  rw [h]
  have := sumF_N (fun u => if F.testBit u then pc (A u &&& G) else 0) n 0
  simp only [sumN, Nat.zero_add] at this
  rw [Nat.zero_add, this]
  rfl
/-- how many arcs there are -/
def cntA (A : Nat → Nat) (n : Nat) : Nat := sumN (fun u => pc (A u)) n
theorem arcsC (g : Good n A M T) (r : Rep n A M T P W O Mm Ab st) : f_X3_arcs 1000 (nI n) O = some (nI (cntA A n)) := by
  have hn := g.1.2
  unfold f_X3_arcs
  rw [allP hn, betwC g r (full_lt hn) (full_lt hn), Option.bind_some]
  congr 2
  refine sumN_congr n (fun u hu => ?_)
  rw [full_tb hn (by omega), and_full hn (g.2.1 u hu).1]
  simp [hu]
set_option maxRecDepth 100000 in
theorem onesM1 : (List.range 1024).all (fun a => decide (f_X7_ones 1000 (nI a) = some (nI (pc a)))) = true := by decide +kernel
theorem onesM {a : Nat} (ha : a < 1024) : f_X7_ones 1000 (nI a) = some (nI (pc a)) := of_decide_eq_true (al2 onesM1 a ha)
theorem arcsM_loop (g : Good n A M T) (r : Rep n A M T P W O Mm Ab st) : ∀ (c i m x : Nat), i + c = n → c < m → f_X7_arcs_4 1000 (nI n) st m (nI x) (nI i) = some (nI (x + sumF (fun u => pc (A u)) c i)) := by
  have hn := g.1.2
  intro c
  induction c with
  | zero =>
    intro i m x h1 h2
    obtain ⟨m, rfl⟩ : ∃ k, m = k + 1 := ⟨m - 1, by omega⟩
    rw [f_X7_arcs_4, if_pos (nI_le (by omega) (by omega))]
    rfl
  | succ c ih =>
    intro i m x h1 h2
    obtain ⟨m, rfl⟩ : ∃ k, m = k + 1 := ⟨m - 1, by omega⟩
    have q1 : ¬ nI n ≤ nI i := nI_ge (by omega) (by omega)
    have q2 : xin (nI i) 111 = true := xin_n (by omega) (by omega)
    have hA := pow10 hn (g.2.1 i (by omega)).1
    rw [f_X7_arcs_4]
    simp only [q1, ix0, q2, ↓reduceIte, nI_clamp (show i < 2 ^ 31 by omega), (r.2.2.1 i (by omega)).2, onesM hA, Option.bind_some, nI_add, nI_1]
    rw [ih (i + 1) m _ (by omega) (by omega)]
    simp [sumF, Nat.add_assoc]
theorem arcsM (g : Good n A M T) (r : Rep n A M T P W O Mm Ab st) : f_X7_arcs 1000 (nI n) st = some (nI (cntA A n)) := by
  have hn := g.1.2
  unfold f_X7_arcs
  have h := arcsM_loop g r n 0 1000 0 (by omega) (by omega)
  rw [nI_0] at h
  rw [h]
  have := sumF_N (fun u => pc (A u)) n 0
  simp only [sumN, Nat.zero_add] at this
  rw [Nat.zero_add, this]
  rfl
/-- a net is told by these places alone -/
theorem Sim_congr {P' W' : Int32} {O' Mm' Ab' st' : Nat → Int32} (h : Sim n P W O Mm Ab st) (e1 : P' = P) (e2 : W' = W) (e3 : ∀ u, u < 10 → O' u = O u) (e4 : ∀ u, u < 10 → Mm' u = Mm u) (e5 : ∀ i, i < 100 → Ab' i = Ab i) (e6 : ∀ k, k < 111 → st' k = st k) : Sim n P' W' O' Mm' Ab' st' := by
  obtain ⟨A, M, T, g, r1, r2, r3, r4, r5⟩ := h
  have hn := g.1.2
  refine ⟨A, M, T, g, by rw [e1]; exact r1, by rw [e2, e6 110 (by omega)]; exact r2, fun u hu => ?_, fun s hs => ?_, fun s v hs hv => ?_⟩
  · rw [e3 u (by omega), e6 u (by omega)]; exact r3 u hu
  · rw [e4 s (by omega)]; exact r4 s hs
  · rw [e5 _ (by omega), e6 _ (by omega)]; exact r5 s v hs hv
end S3
theorem cpy0 {f g : Nat → Int32} {m j : Nat} (h : j < m) : va_cpy f g 0 0 m j = f j := by
  rw [pk_cpy_in (by omega) (by omega)]; congr 1; omega
/-- a net copied is the net -/
theorem Sim_copy {n : Nat} {P W : Int32} {O Mm Ab st st' o1 o2 o3 : Nat → Int32} (h : Sim n P W O Mm Ab st) (e : ∀ k, k < 111 → st' k = st k) : Sim n (f_X3_copyFrom o1 o2 o3 P W O Mm Ab).1 (f_X3_copyFrom o1 o2 o3 P W O Mm Ab).2.1 (f_X3_copyFrom o1 o2 o3 P W O Mm Ab).2.2.1 (f_X3_copyFrom o1 o2 o3 P W O Mm Ab).2.2.2.1 (f_X3_copyFrom o1 o2 o3 P W O Mm Ab).2.2.2.2 st' := by
  refine Sim_congr h rfl rfl (fun u hu => ?_) (fun u hu => ?_) (fun i hi => ?_) e
  · exact cpy0 (f := O) (m := 10) hu
  · exact cpy0 (f := Mm) (m := 10) hu
  · exact cpy0 (f := Ab) (m := 100) hi
