/-! ===== loss, worst ===== -/
theorem pcn_dif {a b : Nat} (h : ∀ v, a.testBit v = true → b.testBit v = true) : ∀ k, pcn k (dif b a) + pcn k a = pcn k b := by
  intro k
  induction k with
  | zero => rfl
  | succ k ih =>
    have hs : (if (dif b a).testBit k = true then 1 else 0) + (if a.testBit k = true then 1 else 0) = (if b.testBit k = true then 1 else 0) := by
      rw [dif_tb]
      cases ha : a.testBit k
      · cases b.testBit k <;> rfl
      · rw [h k ha]; rfl
    simp only [pcn]
    omega
theorem pc_dif {a b : Nat} (h : ∀ v, a.testBit v = true → b.testBit v = true) : pc (dif b a) + pc a = pc b := pcn_dif h 10
theorem dif_self (a : Nat) : dif a a = 0 := by rw [dif, Nat.and_self, Nat.xor_self]
theorem sumN_c1 : ∀ n, sumN (fun _ => 1) n = n := by
  intro n
  induction n with
  | zero => rfl
  | succ n ih => rw [sumN, ih]
section S7
variable {n : Nat} {A M : Nat → Nat} {T : Nat → Nat → Nat} {P W : Int32} {O Mm Ab st : Nat → Int32}
theorem pairsMv (g : Good n A M T) (r : Rep n A M T P W O Mm Ab st) : f_X7_pairs 1000 (nI n) st = some (nI (sumN (fun s => prs T s n) n)) := by
  have hn := g.1.2
  have h2 := pairsM_loop g r n 0 1000 0 (by omega) (by omega)
  have := sumF_N (fun s => prs T s n) n 0
  simp only [sumN, Nat.zero_add] at this
  rw [Nat.zero_add, this] at h2
  exact h2
theorem cut_sub {a b u v : Nat} (h : (cutA A a b u).testBit v = true) : (A u).testBit v = true := by
  unfold cutA at h
  split at h
  · rw [dif_tb, Bool.and_eq_true] at h; exact h.1
  · exact h
theorem clos_sub (g : Good n A M T) {a b s Y : Nat} (hs : s < n) (h : Clos n (cutA A a b) s Y) (v : Nat) (hv : Y.testBit v = true) : (M s).testBit v = true := by
  refine h.2.2.2 (fun v => (M s).testBit v = true) ?_ (fun u v hu hq hv => ?_) v hv
  · rw [(g.2.2.1 s hs).2 s hs, g.2.2.2.1 s hs]; rfl
  · have hun := tb_n h.1 hu
    have hA := cut_sub hv
    have hvn := tb_n (g.2.1 u hun).1 hA
    rw [(g.2.2.1 s hs).2 v hvn]
    refine decide_eq_true (g.2.2.2.2.2.1 s u v hs hun hvn ?_ hA)
    rw [(g.2.2.1 s hs).2 u hun] at hq
    exact of_decide_eq_true hq
theorem clos_all (g : Good n A M T) {a b s Y : Nat} (hs : s < n) (h : Clos n (cutA A a b) s Y) (hT : T s b ≠ a + 2) : Y = M s := by
  obtain ⟨r, r1, r2⟩ := g.2.2.2.2.2.2.1 s hs
  have key : ∀ k v, v < n → T s v ≠ 0 → r v = k → Y.testBit v = true := by
    intro k
    induction k with
    | zero =>
      intro v hv ht hr
      by_cases h0 : v = s
      · rw [h0]; exact h.2.1
      · rcases g.2.2.2.2.1 s v hs hv h0 with h0 | ⟨a', ha, h1, h2, h3⟩
        · exact absurd h0 ht
        · have := r2 v a' hv h1
          omega
    | succ k ih =>
      intro v hv ht hr
      by_cases h0 : v = s
      · rw [h0]; exact h.2.1
      · rcases g.2.2.2.2.1 s v hs hv h0 with h0 | ⟨a', ha, h1, h2, h3⟩
        · exact absurd h0 ht
        · have hra := r2 v a' hv h1
          refine h.2.2.1 a' v (ih a' ha h3 (by omega)) ?_
          unfold cutA
          by_cases e : a' = a
          · rw [if_pos e, dif_tb, h2, tb2]
            have : ¬ v = b := fun e2 => hT (by rw [← e2, h1, e])
            simp [this]
          · rw [if_neg e]; exact h2
  refine eq_tb h.1 (g.2.2.1 s hs).1 (fun i hi => ?_)
  cases hm : (M s).testBit i
  · cases hy : Y.testBit i
    · rfl
    · rw [clos_sub g hs h i hy] at hm; exact absurd hm (by decide)
  · rw [(g.2.2.1 s hs).2 i hi] at hm
    exact key (r i) i hi (of_decide_eq_true hm) rfl
theorem lossB (g : Good n A M T) (r : Rep n A M T P W O Mm Ab st) {a b : Nat} (ha : a < n) (hb : b < n) : ∃ y, f_X3_pairsLost 1000 (nI a) (nI b) (nI n) O Mm Ab = some y ∧ f_X7_lossOf 1000 (nI a) (nI b) (nI n) st = some y ∧ -1 ≤ y := by
  have hn := g.1.2
  have hex : ∃ Wf : Nat → Nat, ∀ s, s < n → f_X3_membersWithout 1000 (nI s) (nI a) (nI b) O = some (nI (Wf s)) ∧ f_X7_without 1000 (nI s) (nI a) (nI b) (nI n) st = some (nI (Wf s)) ∧ Clos n (cutA A a b) s (Wf s) := by
    refine ⟨fun s => if h : s < n then Classical.choose (withB g r ha hb h) else 0, fun s hs => ?_⟩
    simp only [dif_pos hs]
    exact Classical.choose_spec (withB g r ha hb hs)
  obtain ⟨Wf, hW⟩ := hex
  have cl : ∀ (c i m x : Nat), i + c = n → c < m → f_X3_pairsLost_5 1000 (nI a) (nI b) (nI n) O Mm Ab m (nI x) (nI i) = some (nI (x + sumF (fun s => pc (dif (M s) (Wf s))) c i)) := by
    intro c
    induction c with
    | zero =>
      intro i m x h1 h2
      obtain ⟨m, rfl⟩ : ∃ k, m = k + 1 := ⟨m - 1, by omega⟩
      rw [f_X3_pairsLost_5, if_pos (nI_le (by omega) (by omega))]
      rfl
    | succ c ih =>
      intro i m x h1 h2
      obtain ⟨m, rfl⟩ : ∃ k, m = k + 1 := ⟨m - 1, by omega⟩
      have hi : i < n := by omega
      have q1 : ¬ nI n ≤ nI i := nI_ge (by omega) (by omega)
      have q2 : xin (nI i) 10 = true := xin_n (by omega) (by omega)
      obtain ⟨w1, w2, w3⟩ := hW i hi
      have hts := Tsm g hi hb
      rw [f_X3_pairsLost_5, if_neg q1, aboveOfC g r hi hb, Option.bind_some, w1, Option.bind_some, if_pos q2, nI_clamp (by omega), r.2.2.2.1 i hi, nx_dif, bcC (pow10 hn (dif_lt (g.2.2.1 i hi).1)), nI_add, nI_1]
      by_cases hT : T i b = a + 2
      · rw [if_pos (by rw [hT, abC, if_neg (by omega), Nat.add_sub_cancel]), ih (i + 1) m _ (by omega) (by omega)]
        simp [sumF, Nat.add_assoc]
      · have hne : ¬ abC (T i b) = nI a := by
          unfold abC
          split
          · exact fun h => nIm1 (a := a) (by omega) h.symm
          · exact fun h => hT (by have := (nI_eq (by omega) (by omega)).mp h; omega)
        rw [if_neg hne, ih (i + 1) m _ (by omega) (by omega), sumF, clos_all g hi w3 hT, dif_self, show pc 0 = 0 from by decide, Nat.zero_add]
  have ml : ∀ (c i m x : Nat), i + c = n → c < m → f_X7_lossOf_9 1000 (nI a) (nI b) (nI n) st m (-(nI n) + nI x) (nI i) = some (nI (sumN (fun s => prs T s n) n) - (-(nI n) + nI (x + sumF (fun s => pc (Wf s)) c i))) := by
    intro c
    induction c with
    | zero =>
      intro i m x h1 h2
      obtain ⟨m, rfl⟩ : ∃ k, m = k + 1 := ⟨m - 1, by omega⟩
      rw [f_X7_lossOf_9, if_pos (nI_le (by omega) (by omega)), pairsMv g r]
      rfl
    | succ c ih =>
      intro i m x h1 h2
      obtain ⟨m, rfl⟩ : ∃ k, m = k + 1 := ⟨m - 1, by omega⟩
      have hi : i < n := by omega
      have q1 : ¬ nI n ≤ nI i := nI_ge (by omega) (by omega)
      obtain ⟨w1, w2, w3⟩ := hW i hi
      rw [f_X7_lossOf_9, if_neg q1, w2, Option.bind_some, onesM (pow10 hn w3.1), Option.bind_some, Int32.add_assoc, nI_add, nI_1, ih (i + 1) m _ (by omega) (by omega)]
      simp only [sumF, Nat.add_assoc]
  have k1 := cl n 0 1000 0 (by omega) (by omega)
  have k2 := ml n 0 1000 0 (by omega) (by omega)
  have z1 := sumF_N (fun s => pc (dif (M s) (Wf s))) n 0
  have z2 := sumF_N (fun s => pc (Wf s)) n 0
  simp only [sumN, Nat.zero_add] at z1 z2
  rw [Nat.zero_add, z1, nI_0] at k1
  rw [Nat.zero_add, z2, nI_0, Int32.add_zero] at k2
  have s1 : sumN (fun s => pc (dif (M s) (Wf s))) n + sumN (fun s => pc (Wf s)) n = sumN (fun s => prs T s n) n + n := by
    rw [← sumN_add]
    have e := sumN_add (fun s => prs T s n) (fun _ => 1) n
    rw [sumN_c1] at e
    rw [← e]
    refine sumN_congr n (fun s hs => ?_)
    rw [pc_dif (clos_sub g hs (hW s hs).2.2), prs_pc g hs]
  have hbound : sumN (fun s => pc (dif (M s) (Wf s))) n < 2 ^ 31 := by
    have : ∀ k, sumN (fun s => pc (dif (M s) (Wf s))) k ≤ 10 * k := by
      intro k
      induction k with
      | zero => exact Nat.le_refl _
      | succ k ih =>
        rw [sumN]
        have : pc (dif (M k) (Wf k)) ≤ 10 := pcn_le _ _
        omega
    have := this n
    omega
  refine ⟨nI (sumN (fun s => pc (dif (M s) (Wf s))) n), k1, ?_, ?_⟩
  · unfold f_X7_lossOf
    rw [k2]
    congr 1
    rw [show nI (sumN (fun s => prs T s n) n) - (-(nI n) + nI (sumN (fun s => pc (Wf s)) n)) = nI (sumN (fun s => prs T s n) n) + nI n - nI (sumN (fun s => pc (Wf s)) n) from by
      rw [Int32.sub_eq_add_neg, Int32.neg_add, Int32.neg_neg, Int32.sub_eq_add_neg, Int32.sub_eq_add_neg, Int32.add_assoc], nI_add, ← s1, pk_sub (by omega), Nat.add_sub_cancel]
  · rw [Int32.le_iff_toInt_le, nI_toInt hbound, show (-1 : Int32).toInt = -1 from by decide]
    omega
theorem s_loss (h : Sim n P W O Mm Ab st) (x1 x2 : Int32) : ∃ r, f_X6_loss 1000 x1 x2 P O Mm Ab = some r ∧ f_X7_loss 1000 x1 x2 (nI n) st = some r := by
  obtain ⟨A, M, T, g, r⟩ := h
  obtain rfl := r.1
  unfold f_X6_loss f_X7_loss
  rcases arcC g r x1 x2 with ⟨u, v, hu, hv, huv, rfl, rfl, hb, e1, e2⟩ | ⟨e1, e2⟩
  · obtain ⟨y, k1, k2, k3⟩ := lossB g r hu hv
    simp only [e1, e2, k1, k2, Option.bind_some, i10, ↓reduceIte]
    exact ⟨_, rfl, rfl⟩
  · simp only [e1, e2, Option.bind_some, ↓reduceIte]
    exact ⟨_, rfl, rfl⟩
theorem wo20 (g : Good n A M T) (r : Rep n A M T P W O Mm Ab st) {u : Nat} (hu : u < n) (kC kM : Int32 → Int32 → Int32 → Option Int32) : ∀ (c i m : Nat) (x y : Int32), i + c = n → c < m → -1 ≤ y → ∃ x' y', f_X6_worst_20 kC 1000 (nI u) (nI n) O Mm Ab m x y (nI i) = kC x' y' (nI (u + 1)) ∧ f_X7_worst_17 kM 1000 (nI u) (nI n) st m x y (nI i) = kM x' y' (nI (u + 1)) ∧ -1 ≤ y' := by
  have hn := g.1.2
  intro c
  induction c with
  | zero =>
    intro i m x y h1 h2 hy
    obtain ⟨m, rfl⟩ : ∃ k, m = k + 1 := ⟨m - 1, by omega⟩
    have q : nI n ≤ nI i := nI_le (by omega) (by omega)
    rw [f_X6_worst_20, f_X7_worst_17, if_pos q, if_pos q, nI_1]
    exact ⟨x, y, rfl, rfl, hy⟩
  | succ c ih =>
    intro i m x y h1 h2 hy
    obtain ⟨m, rfl⟩ : ∃ k, m = k + 1 := ⟨m - 1, by omega⟩
    have q : ¬ nI n ≤ nI i := nI_ge (by omega) (by omega)
    obtain ⟨z, k1, k2, k3⟩ := lossB g r hu (show i < n by omega)
    rw [f_X6_worst_20, f_X7_worst_17, if_neg q, if_neg q, hasArcC g r hu (by omega), isArcM2 g r hu (by omega), Option.bind_some, Option.bind_some, nI_1]
    cases (A u).testBit i
    · rw [if_pos (by rfl), if_pos (by rfl), if_pos hy]
      unfold f_X7_worst_66
      rw [if_pos hy, nI_1]
      exact ih (i + 1) m x y (by omega) (by omega) hy
    · rw [if_neg (by decide), if_neg (by decide), k1, k2, Option.bind_some, Option.bind_some]
      unfold f_X7_worst_66
      by_cases h : z ≤ y
      · simp only [h, ↓reduceIte, nI_1]
        exact ih (i + 1) m x y (by omega) (by omega) hy
      · simp only [h, ↓reduceIte, nI_1]
        exact ih (i + 1) m _ z (by omega) (by omega) k3
theorem wo6 (g : Good n A M T) (r : Rep n A M T P W O Mm Ab st) : ∀ (c i m : Nat) (x y : Int32), i + c = n → c < m → -1 ≤ y → ∃ z, f_X6_worst_6 1000 (nI n) O Mm Ab m x y (nI i) = some z ∧ f_X7_worst_6 1000 (nI n) st m x y (nI i) = some z := by
  have hn := g.1.2
  intro c
  induction c with
  | zero =>
    intro i m x y h1 h2 hy
    obtain ⟨m, rfl⟩ : ∃ k, m = k + 1 := ⟨m - 1, by omega⟩
    have q : nI n ≤ nI i := nI_le (by omega) (by omega)
    rw [f_X6_worst_6, f_X7_worst_6, if_pos q, if_pos q]
    exact ⟨_, rfl, rfl⟩
  | succ c ih =>
    intro i m x y h1 h2 hy
    obtain ⟨m, rfl⟩ : ∃ k, m = k + 1 := ⟨m - 1, by omega⟩
    have q : ¬ nI n ≤ nI i := nI_ge (by omega) (by omega)
    obtain ⟨x', y', k1, k2, k3⟩ := wo20 g r (show i < n by omega) (fun x1 x2 x3 => f_X6_worst_6 1000 (nI n) O Mm Ab m x1 x2 x3) (fun x1 x2 x3 => f_X7_worst_6 1000 (nI n) st m x1 x2 x3) n 0 1000 x y (by omega) (by omega) hy
    rw [nI_0] at k1 k2
    rw [f_X6_worst_6, f_X7_worst_6, if_neg q, if_neg q, k1, k2]
    exact ih (i + 1) m x' y' (by omega) (by omega) k3
theorem s_worst (h : Sim n P W O Mm Ab st) : ∃ r, f_X6_worst 1000 P O Mm Ab = some r ∧ f_X7_worst 1000 (nI n) st = some r := by
  obtain ⟨A, M, T, g, r⟩ := h
  have hn := g.1.2
  obtain rfl := r.1
  exact wo6 g r n 0 1000 (-1) (-1) (by omega) (by omega) (by decide)
end S7
theorem op_loss : Op_loss Inv0 := by
  intro kps len txt ncl tso tst ten knd nbs pts wrk out mem abv nxt psz nP nW nO nM nA eP eW eO eM eA usd usi cam cM cS cV cB mn um len2 plc srt frm num wrg cm mpt st pst kep isk pil nxs txt2 cls asd opn byy twc szs sos ths hI x1 x2
  obtain ⟨n, rfl, hS, hH, hK, hX, hC⟩ := hI
  obtain ⟨r, h1, h2⟩ := s_loss hS x1 x2
  exact ⟨r, r, ⟨1000, h1⟩, ⟨1000, h2⟩, rfl, n, rfl, hS, hH, hK, hX, hC⟩
theorem op_worst : Op_worst Inv0 := by
  intro kps len txt ncl tso tst ten knd nbs pts wrk out mem abv nxt psz nP nW nO nM nA eP eW eO eM eA usd usi cam cM cS cV cB mn um len2 plc srt frm num wrg cm mpt st pst kep isk pil nxs txt2 cls asd opn byy twc szs sos ths hI
  obtain ⟨n, rfl, hS, hH, hK, hX, hC⟩ := hI
  obtain ⟨r, h1, h2⟩ := s_worst hS
  exact ⟨r, r, ⟨1000, h1⟩, ⟨1000, h2⟩, rfl, n, rfl, hS, hH, hK, hX, hC⟩
