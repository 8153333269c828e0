/-- the order: digits of those that are fresh in a week -/
def pw_oi (q : Nat → Bool) : Nat → Int32 → Int32
  | 0, x => x
  | k + 1, x => if q k then ((10 * pw_oi q k x) + nI k) + 1 else pw_oi q k x
def pw_oo (q : Nat → Nat → Bool) (n : Nat) : Nat → Int32
  | 0 => 0
  | i + 1 => pw_oi (q i) n (pw_oo q n i)
/-- fresh in week i -/
def pw_fr (p : Nat → Nat → Bool) (i k : Nat) : Bool := decide (pw_wN (p k) i = 0) && p k i
theorem pw_tb (p : Nat → Bool) (n j : Nat) : (pw_bn p n).testBit j = (decide (j < n) && p j) := by
  by_cases h : j < n
  · rw [Nat.testBit_eq_decide_div_mod_eq, pw_bn_at p n h]
    cases p j <;> simp [h]
  · have h1 : pw_bn p n < 2 ^ j := Nat.lt_of_lt_of_le (pw_bn_lt p n) (Nat.pow_le_pow_right (by decide) (by omega))
    rw [Nat.testBit_lt_two_pow h1]
    simp [h]
theorem pw_bo (p q : Nat → Bool) (n : Nat) : pw_bn p n ||| pw_bn q n = pw_bn (fun k => p k || q k) n := by
  apply Nat.eq_of_testBit_eq
  intro i
  rw [Nat.testBit_or, pw_tb, pw_tb, pw_tb]
  cases decide (i < n) <;> simp
theorem pw_x1 : ∀ a, a < 64 → ∀ b, b < 64 → nI b ||| (nI a &&& (nI b ^^^ (-1))) = nI (b ||| a) := by decide +kernel
theorem pw_x2 : ∀ a, a < 64 → ∀ b, b < 64 → nI a &&& (nI b ^^^ (-1)) = nI (a &&& (63 - b)) := by decide +kernel
theorem pw_x3 : ∀ b, b < 64 → ∀ j, j < 6 → (63 - b).testBit j = !b.testBit j := by decide +kernel
theorem pw_x4 {a b j : Nat} (ha : a < 64) (hb : b < 64) (hj : j < 6) : (((nI a &&& (nI b ^^^ (-1))) >>> (nI j &&& 31)) &&& 1 = 1) ↔ (a.testBit j = true ∧ b.testBit j = false) := by
  have h1 : a &&& (63 - b) < 64 := Nat.lt_of_le_of_lt Nat.and_le_left ha
  rw [pw_x2 a ha b hb, pw_sh j hj _ h1]
  have h2 : (a &&& (63 - b)).testBit j = (a.testBit j && !b.testBit j) := by rw [Nat.testBit_and, pw_x3 b hb j hj]
  have h3 : (a &&& (63 - b)) / 2 ^ j % 2 = 0 ∨ (a &&& (63 - b)) / 2 ^ j % 2 = 1 := by omega
  rw [Nat.testBit_eq_decide_div_mod_eq] at h2
  rcases h3 with h3 | h3
  · rw [h3] at h2 ⊢
    constructor
    · intro z; exact absurd z (by decide)
    · rintro ⟨z1, z2⟩; rw [z1, z2] at h2; simp at h2
  · rw [h3] at h2 ⊢
    constructor
    · intro _
      cases z1 : a.testBit j <;> cases z2 : b.testBit j <;> rw [z1, z2] at h2 <;> simp at h2 ⊢
    · intro _; rfl
theorem pw_o2L {n a b : Nat} {q : Nat → Bool} (hn : n ≤ 6) (ha : a < 64) (hb : b < 64) (hq : ∀ k, k < n → (q k = true ↔ (a.testBit k = true ∧ b.testBit k = false))) (kk : Int32 → Int32 → Option (Int32 × (Nat → Int32) × Int32)) (x : Int32) : ∀ (j f k : Nat), n = k + j → j < f → mX1_closingOrder_L2 (nI n) (nI b) (nI a) kk f (nI k) (pw_oi q k x) = kk (nI n) (pw_oi q n x)
  | 0, 0, k, _, h2 => absurd h2 (Nat.not_lt_zero 0)
  | j + 1, 0, k, _, h2 => absurd h2 (Nat.not_lt_zero _)
  | 0, f + 1, k, h1, h2 => by
    have e : k = n := by omega
    subst e
    rw [mX1_closingOrder_L2, mX0_size, pw_bs, if_pos (nI_le (Nat.le_refl _) (by omega))]
  | j + 1, f + 1, k, h1, h2 => by
    have ih := pw_o2L hn ha hb hq kk x j f (k + 1) (by omega) (by omega)
    rw [mX1_closingOrder_L2, mX0_size, pw_bs, if_neg (nI_ge (by omega) (by omega)), nI_1, ← ih, pw_oi]
    by_cases e : q k = true
    · rw [if_pos ((pw_x4 ha hb (by omega)).mpr ((hq k (by omega)).mp e)), if_pos e]
    · rw [if_neg (fun z => e ((hq k (by omega)).mpr ((pw_x4 ha hb (by omega)).mp z))), if_neg e]
theorem pw_o7L {n i : Nat} {Z : Nat → Int32} {q : Nat → Bool} (hn : n ≤ 6) (hq : ∀ k, k < n → (q k = true ↔ Z k = nI i)) (kk : Int32 → Int32 → Option (Int32 × (Nat → Int32) × (Nat → Int32))) (x : Int32) : ∀ (j f k : Nat), n = k + j → j < f → mX7_orderOf_L2 (nI n) Z (nI i) kk f (nI k) (pw_oi q k x) = kk (nI n) (pw_oi q n x)
  | 0, 0, k, _, h2 => absurd h2 (Nat.not_lt_zero 0)
  | j + 1, 0, k, _, h2 => absurd h2 (Nat.not_lt_zero _)
  | 0, f + 1, k, h1, h2 => by
    have e : k = n := by omega
    subst e
    rw [mX7_orderOf_L2, if_pos (nI_le (Nat.le_refl _) (by omega))]
  | j + 1, f + 1, k, h1, h2 => by
    have ih := pw_o7L hn hq kk x j f (k + 1) (by omega) (by omega)
    rw [mX7_orderOf_L2, if_neg (nI_ge (by omega) (by omega)), pw_rd (by omega) (by omega), pw_bs, nI_1, ← ih, pw_oi]
    by_cases e : q k = true
    · rw [if_pos ((hq k (by omega)).mp e), if_pos e]
    · rw [if_neg (fun z => e ((hq k (by omega)).mpr z)), if_neg e]
theorem pw_o1L {n w nx : Nat} {K D L T : Nat → Int32} {kd d ln m rn : Nat → Nat} (h : pw_W n K D L kd d ln) (hR : pw_R w T rn) (hnx : nx < 5000) : ∀ (j f i : Nat) (Y : Nat → Int32), 41 = i + j → j < f → pw_M n 99 Y (pw_i kd d ln w rn nx m i) → ∃ Y' x, mX1_closingOrder_L1 (nI n) K D L (nI w) T (fun _ _ x1 y z => some (x1, y, z)) f (nI i) (nI (pw_bn (fun k => decide (¬ pw_wN (pw_ci kd d ln w rn nx m k) i = 0)) n)) (pw_oo (pw_fr (pw_ci kd d ln w rn nx m)) n i) Y (nI (nx + i)) = some (pw_oo (pw_fr (pw_ci kd d ln w rn nx m)) n 41, Y', x)
  | 0, 0, i, Y, _, h2, _ => absurd h2 (Nat.not_lt_zero 0)
  | j + 1, 0, i, Y, _, h2, _ => absurd h2 (Nat.not_lt_zero _)
  | 0, f + 1, i, Y, h1, h2, hY => by
    have e : i = 41 := by omega
    subst e
    refine ⟨Y, nI (nx + 41), ?_⟩
    rw [mX1_closingOrder_L1, if_pos ((pw_40 (by decide)).mpr (by decide))]
  | j + 1, f + 1, i, Y, h1, h2, hY => by
    obtain ⟨V, g1, g2⟩ := pw_go h hY hR (show nx + i < 2 ^ 30 by omega)
    obtain ⟨Y', x, f1⟩ := pw_o1L h hR hnx j f (i + 1) V (by omega) (by omega) g2
    refine ⟨Y', x, ?_⟩
    have hn := h.1
    have h64 := pw_p6 hn
    have ha : pw_bn (pw_c d (pw_i kd d ln w rn nx m i)) n < 64 := Nat.lt_of_lt_of_le (pw_bn_lt _ _) h64
    have hb : pw_bn (fun k => decide (¬ pw_wN (pw_ci kd d ln w rn nx m k) i = 0)) n < 64 := Nat.lt_of_lt_of_le (pw_bn_lt _ _) h64
    have hq : ∀ k, k < n → (pw_fr (pw_ci kd d ln w rn nx m) i k = true ↔ ((pw_bn (pw_c d (pw_i kd d ln w rn nx m i)) n).testBit k = true ∧ (pw_bn (fun k => decide (¬ pw_wN (pw_ci kd d ln w rn nx m k) i = 0)) n).testBit k = false)) := by
      intro k hk
      rw [pw_tb, pw_tb]
      unfold pw_fr pw_ci
      simp [hk, and_comm]
    rw [mX1_closingOrder_L1, if_neg (fun z => absurd ((pw_40 (by omega)).mp z) (by omega)), pw_B0 h hY (by decide), pw_bs]
    refine Eq.trans (pw_o2L hn ha hb hq _ (pw_oo (pw_fr (pw_ci kd d ln w rn nx m)) n i) n 300 0 (by omega) (by omega)) ?_
    rw [g1, pw_n2, pw_x1 _ ha _ hb, pw_bo, nI_1]
    rw [show (fun k => decide (¬ pw_wN (pw_ci kd d ln w rn nx m k) i = 0) || pw_c d (pw_i kd d ln w rn nx m i) k) = (fun k => decide (¬ pw_wN (pw_ci kd d ln w rn nx m k) (i + 1) = 0)) from by
      funext k
      rw [pw_wN]
      by_cases q : pw_wN (pw_ci kd d ln w rn nx m k) i = 0
      · rw [if_pos q]
        by_cases q2 : pw_c d (pw_i kd d ln w rn nx m i) k = true
        · rw [if_pos (show pw_ci kd d ln w rn nx m k i = true from q2)]; simp [q, q2]
        · rw [if_neg (show ¬ pw_ci kd d ln w rn nx m k i = true from q2)]; simp [q]; simpa using q2
      · rw [if_neg q]; simp [q]]
    exact f1
theorem pw_CO {n w nx : Nat} {K D L M T : Nat → Int32} {kd d ln m rn : Nat → Nat} (h : pw_W n K D L kd d ln) (hM : pw_M n 99 M m) (hR : pw_R w T rn) (hnx : nx < 5000) : ∃ Y x, mX1_closingOrder (nI n) K D L M (nI w) (nI nx) T = some (pw_oo (pw_fr (pw_ci kd d ln w rn nx m)) n 41, Y, x) := by
  unfold mX1_closingOrder
  have h0 : pw_bn (fun k => decide (¬ pw_wN (pw_ci kd d ln w rn nx m k) 0 = 0)) n = 0 := by
    have key : ∀ q, pw_bn (fun k => decide (¬ pw_wN (pw_ci kd d ln w rn nx m k) 0 = 0)) q = 0 := by
      intro q
      induction q with
      | zero => rfl
      | succ q ih => rw [pw_bn, ih]; simp [pw_wN]
    exact key n
  have h1 := pw_o1L (m := m) h hR hnx 41 300 0 M rfl (by decide) hM
  rw [h0] at h1
  exact h1
theorem pw_or1L {n : Nat} {Z U : Nat → Int32} {p : Nat → Nat → Bool} (hn : n ≤ 6) (hZ : ∀ k, k < n → Z k = pw_l (pw_wN (p k) 41)) : ∀ (j f i : Nat), 41 = i + j → j < f → mX7_orderOf_L1 (nI n) Z (fun _ x => some (x, U, Z)) f (nI i) (pw_oo (pw_fr p) n i) = some (pw_oo (pw_fr p) n 41, U, Z)
  | 0, 0, i, _, h2 => absurd h2 (Nat.not_lt_zero 0)
  | j + 1, 0, i, _, h2 => absurd h2 (Nat.not_lt_zero _)
  | 0, f + 1, i, h1, h2 => by
    have e : i = 41 := by omega
    subst e
    rw [mX7_orderOf_L1, if_pos ((pw_41 (by decide)).mpr (by decide))]
  | j + 1, f + 1, i, h1, h2 => by
    have ih := pw_or1L (U := U) hn hZ j f (i + 1) (by omega) (by omega)
    have hq : ∀ k, k < n → (pw_fr p i k = true ↔ Z k = nI i) := by
      intro k hk
      rw [hZ k hk]
      unfold pw_fr
      have h3 := pw_wN_iff (p := p k) (i := i) (n := 41) (by omega)
      rw [Bool.and_eq_true, decide_eq_true_eq, ← h3]
      have hl := pw_wN_le (p k) 41
      cases e : pw_wN (p k) 41 with
      | zero =>
        constructor
        · intro z; omega
        · intro z; exact absurd z.symm (pw_l_ne (by omega))
      | succ x =>
        rw [show pw_l (x + 1) = nI x from rfl, nI_eq (by omega) (by omega)]
        omega
    rw [mX7_orderOf_L1, if_neg (fun z => absurd ((pw_41 (by omega)).mp z) (by omega))]
    refine Eq.trans (pw_o7L hn hq _ (pw_oo (pw_fr p) n i) n 300 0 (by omega) (by omega)) ?_
    rw [nI_1]
    exact ih
theorem pw_OO {n w nx : Nat} {K D L M T U V : Nat → Int32} {kd d ln m rn : Nat → Nat} (h : pw_W n K D L kd d ln) (hM : pw_M n 99 M m) (hR : pw_R w T rn) (hnx : nx < 5000) : ∃ Y Z, mX7_orderOf (nI n) (nI w) (nI nx) K D L M T U V = some (pw_oo (pw_fr (pw_ci kd d ln w rn nx m)) n 41, Y, Z) := by
  obtain ⟨Y, Z, h1, h2⟩ := pw_LW (U := U) (V := V) h hM hR hnx
  refine ⟨Y, Z, ?_⟩
  unfold mX7_orderOf
  rw [h1, pw_n2]
  exact pw_or1L h.1 h2 41 300 0 rfl (by decide)
