/-- the first i at which p, and 1 more; 0 for none below n -/
def pw_wN (p : Nat → Bool) : Nat → Nat
  | 0 => 0
  | i + 1 => if pw_wN p i = 0 then (if p i then i + 1 else 0) else pw_wN p i
theorem pw_wN_le (p : Nat → Bool) : ∀ i, pw_wN p i ≤ i
  | 0 => Nat.le_refl 0
  | i + 1 => by
    have ih := pw_wN_le p i
    rw [pw_wN]
    split
    · split <;> omega
    · omega
theorem pw_wN_st {p : Nat → Bool} {i : Nat} (h : ¬ pw_wN p i = 0) : ∀ j, pw_wN p (i + j) = pw_wN p i
  | 0 => rfl
  | j + 1 => by
    have ih := pw_wN_st h j
    rw [← Nat.add_assoc, pw_wN, ih, if_neg h]
theorem pw_wN_yes {p : Nat → Bool} {i n : Nat} (h0 : pw_wN p i = 0) (hp : p i = true) (hn : i < n) : pw_wN p n = i + 1 := by
  have e : pw_wN p (i + 1) = i + 1 := by rw [pw_wN, if_pos h0, if_pos hp]
  have h2 := pw_wN_st (p := p) (i := i + 1) (by rw [e]; omega) (n - (i + 1))
  rw [show i + 1 + (n - (i + 1)) = n by omega, e] at h2
  exact h2
theorem pw_wN_no {p : Nat → Bool} {i : Nat} (h0 : pw_wN p i = 0) (hp : ¬ p i = true) : pw_wN p (i + 1) = 0 := by rw [pw_wN, if_pos h0, if_neg hp]
theorem pw_wN_iff {p : Nat → Bool} {i n : Nat} (hn : i < n) : pw_wN p n = i + 1 ↔ (pw_wN p i = 0 ∧ p i = true) := by
  refine ⟨fun h => ?_, fun h => pw_wN_yes h.1 h.2 hn⟩
  have h1 : pw_wN p i = 0 := by
    by_cases q : pw_wN p i = 0
    · exact q
    · have h2 := pw_wN_st q (n - i)
      rw [show i + (n - i) = n by omega, h] at h2
      have := pw_wN_le p i
      omega
  refine ⟨h1, ?_⟩
  by_cases q : p i = true
  · exact q
  · have h3 := pw_wN_no h1 q
    by_cases q4 : pw_wN p n = 0
    · omega
    · -- the first is at i, but p i is false
      exfalso
      have key : ∀ j, pw_wN p (i + 1 + j) ≠ i + 1 := by
        intro j
        induction j with
        | zero => rw [Nat.add_zero, h3]; omega
        | succ j ih =>
          rw [← Nat.add_assoc, pw_wN]
          split
          · split <;> omega
          · exact ih
      exact key (n - (i + 1)) (by rw [show i + 1 + (n - (i + 1)) = n by omega]; exact h)
theorem pw_40 {i : Nat} (h : i < 2 ^ 30) : ((40 : Int32) < nI i) ↔ 40 < i := nI_ltI (by decide) (by omega)
theorem pw_41 {i : Nat} (h : i < 2 ^ 30) : ((41 : Int32) ≤ nI i) ↔ 41 ≤ i := nI_leI (by decide) (by omega)
/-- closed behind i weeks -/
def pw_ci (kd d ln : Nat → Nat) (w : Nat) (rn : Nat → Nat) (nx : Nat) (m : Nat → Nat) (k : Nat) : Nat → Bool := fun i => pw_c d (pw_i kd d ln w rn nx m i) k
theorem pw_wCL {n w nx k : Nat} {K D L T : Nat → Int32} {kd d ln m rn : Nat → Nat} (h : pw_W n K D L kd d ln) (hR : pw_R w T rn) (hnx : nx < 5000) (hk : k < n) : ∀ (j f i : Nat) (Y : Nat → Int32), 41 = i + j → j < f → pw_wN (pw_ci kd d ln w rn nx m k) i = 0 → pw_M n 99 Y (pw_i kd d ln w rn nx m i) → ∃ Y' x, mX1_whenClosed_L1 (nI n) K D L (nI w) T (nI k) (fun _ y z => some (-1, y, z)) f (nI i) Y (nI (nx + i)) = some (pw_l (pw_wN (pw_ci kd d ln w rn nx m k) 41), Y', x)
  | 0, 0, i, Y, _, h2, _, _ => absurd h2 (Nat.not_lt_zero 0)
  | j + 1, 0, i, Y, _, h2, _, _ => absurd h2 (Nat.not_lt_zero _)
  | 0, f + 1, i, Y, h1, h2, h0, hY => by
    have e : i = 41 := by omega
    subst e
    refine ⟨Y, nI (nx + 41), ?_⟩
    rw [mX1_whenClosed_L1, if_pos ((pw_40 (by decide)).mpr (by decide)), h0]
    rfl
  | j + 1, f + 1, i, Y, h1, h2, h0, hY => by
    rw [mX1_whenClosed_L1, if_neg (fun z => absurd ((pw_40 (by omega)).mp z) (by omega)), pw_C0 h hY (by decide) hk, pw_bs]
    by_cases q : pw_c d (pw_i kd d ln w rn nx m i) k = true
    · refine ⟨Y, nI (nx + i), ?_⟩
      rw [q, pw_zt, if_neg pw_10, pw_wN_yes (n := 41) h0 q (by omega)]
      rfl
    · have q' : pw_c d (pw_i kd d ln w rn nx m i) k = false := by simpa using q
      obtain ⟨Z, g1, g2⟩ := pw_go h hY hR (show nx + i < 2 ^ 30 by omega)
      obtain ⟨Y', x, e1⟩ := pw_wCL h hR hnx hk j f (i + 1) Z (by omega) (by omega) (pw_wN_no h0 q) g2
      refine ⟨Y', x, ?_⟩
      rw [q', pw_zf, if_pos rfl, g1, mw_b2, pw_bs, nI_1]
      exact e1
theorem pw_WC {n w nx k : Nat} {K D L M T : Nat → Int32} {kd d ln m rn : Nat → Nat} (h : pw_W n K D L kd d ln) (hM : pw_M n 99 M m) (hR : pw_R w T rn) (hnx : nx < 5000) (hk : k < n) : ∃ Y x, mX1_whenClosed (nI n) K D L M (nI w) (nI nx) T (nI k) = some (pw_l (pw_wN (pw_ci kd d ln w rn nx m k) 41), Y, x) := by
  unfold mX1_whenClosed
  exact pw_wCL h hR hnx hk 41 300 0 M rfl (by decide) rfl hM
/-- the reference's row of weeks -/
theorem pw_l1L {n : Nat} (hn : n ≤ 6) (kk : Int32 → (Nat → Int32) → Option ((Nat → Int32) × (Nat → Int32))) : ∀ (j f i : Nat) (Y : Nat → Int32), n = i + j → j < f → (∀ k, k < i → Y k = -1) → ∃ Y', mX7_layWhen_L1 (nI n) kk f (nI i) Y = kk (nI n) Y' ∧ ∀ k, k < n → Y' k = -1
  | 0, 0, i, Y, _, h2, _ => absurd h2 (Nat.not_lt_zero 0)
  | j + 1, 0, i, Y, _, h2, _ => absurd h2 (Nat.not_lt_zero _)
  | 0, f + 1, i, Y, h1, h2, hY => by
    have e : i = n := by omega
    subst e
    exact ⟨Y, by rw [mX7_layWhen_L1, if_pos (nI_le (Nat.le_refl _) (by omega))], hY⟩
  | j + 1, f + 1, i, Y, h1, h2, hY => by
    obtain ⟨Y', e1, e2⟩ := pw_l1L hn kk j f (i + 1) (upd Y i (-1)) (by omega) (by omega) (fun k hk => by
      by_cases q : k = i
      · subst q; exact pw_up
      · rw [pw_un q]; exact hY k (by omega))
    refine ⟨Y', ?_, e2⟩
    rw [mX7_layWhen_L1, if_neg (nI_ge (by omega) (by omega)), pw_wr (by omega) (by omega), pw_bs, nI_1]
    exact e1
theorem pw_lm1 {x : Nat} (h : x < 2 ^ 30) : pw_l x = -1 ↔ x = 0 := by
  cases x with
  | zero => exact ⟨fun _ => rfl, fun _ => rfl⟩
  | succ x => exact ⟨fun q => absurd q (pw_l_ne (by omega)), fun q => by omega⟩
theorem pw_l3L {n i : Nat} {D M : Nat → Int32} {d m : Nat → Nat} (hn : n ≤ 6) (hi : i < 100) (hc : ∀ k, k < n → mX7_isClosed D 6 M (nI k) = some (pw_z (pw_c d m k))) {p : Nat → Nat → Bool} (hp : ∀ k, k < n → p k i = pw_c d m k) (kk : Int32 → (Nat → Int32) → Option ((Nat → Int32) × (Nat → Int32))) : ∀ (j f k : Nat) (Y : Nat → Int32), n = k + j → j < f → (∀ q, q < n → Y q = pw_l (if q < k then pw_wN (p q) (i + 1) else pw_wN (p q) i)) → ∃ Y', mX7_layWhen_L3 (nI n) D (nI i) M kk f (nI k) Y = kk (nI n) Y' ∧ ∀ q, q < n → Y' q = pw_l (pw_wN (p q) (i + 1))
  | 0, 0, k, Y, _, h2, _ => absurd h2 (Nat.not_lt_zero 0)
  | j + 1, 0, k, Y, _, h2, _ => absurd h2 (Nat.not_lt_zero _)
  | 0, f + 1, k, Y, h1, h2, hY => by
    have e : k = n := by omega
    subst e
    exact ⟨Y, by rw [mX7_layWhen_L3, if_pos (nI_le (Nat.le_refl _) (by omega))], fun q hq => by rw [hY q hq, if_pos hq]⟩
  | j + 1, f + 1, k, Y, h1, h2, hY => by
    have hk : k < n := by omega
    have hYk : Y k = pw_l (pw_wN (p k) i) := by rw [hY k hk, if_neg (Nat.lt_irrefl k)]
    have hle := pw_wN_le (p k) i
    have go : ∀ v : Int32, v = pw_l (pw_wN (p k) (i + 1)) → ∃ Y', mX7_layWhen_L3 (nI n) D (nI i) M kk f (nI k + 1) (upd Y k v) = kk (nI n) Y' ∧ ∀ q, q < n → Y' q = pw_l (pw_wN (p q) (i + 1)) := by
      intro v hv
      rw [nI_1]
      refine pw_l3L hn hi hc hp kk j f (k + 1) _ (by omega) (by omega) (fun q hq => ?_)
      by_cases e : q = k
      · subst e; rw [pw_up, hv, if_pos (by omega)]
      · rw [pw_un e, hY q hq]
        by_cases e2 : q < k
        · rw [if_pos e2, if_pos (by omega)]
        · rw [if_neg e2, if_neg (by omega)]
    rw [mX7_layWhen_L3, if_neg (nI_ge (by omega) (by omega)), pw_rd (by omega) (by omega), pw_bs, hYk, hc k hk]
    by_cases q : pw_wN (p k) i = 0
    · rw [if_pos ((pw_lm1 (by omega)).mpr q), pw_bs]
      by_cases q2 : pw_c d m k = true
      · rw [q2, pw_zt, if_neg pw_10, pw_wr (by omega) (by omega), pw_bs]
        refine go _ ?_
        rw [pw_wN, if_pos q, if_pos (by rw [hp k hk]; exact q2)]
        rfl
      · have q2' : pw_c d m k = false := by simpa using q2
        rw [q2', pw_zf, if_pos rfl, pw_bs, pw_wr (by omega) (by omega), pw_bs]
        refine go _ ?_
        rw [pw_wN_no q (by rw [hp k hk]; exact q2), q]
    · rw [if_neg (fun z => q ((pw_lm1 (by omega)).mp z)), pw_bs, pw_wr (by omega) (by omega), pw_bs]
      refine go _ ?_
      rw [show pw_wN (p k) (i + 1) = pw_wN (p k) i from pw_wN_st q 1]
theorem pw_l2L {n w nx : Nat} {K D L T : Nat → Int32} {kd d ln m rn : Nat → Nat} (h : pw_W n K D L kd d ln) (hR : pw_R w T rn) (hnx : nx < 5000) : ∀ (j f i : Nat) (Y Z : Nat → Int32), 41 = i + j → j < f → pw_M n 99 Y (pw_i kd d ln w rn nx m i) → (∀ k, k < n → Z k = pw_l (pw_wN (pw_ci kd d ln w rn nx m k) i)) → ∃ Y' Z', mX7_layWhen_L2 (nI n) (nI w) (nI nx) K D L T (fun _ y z => some (y, z)) f (nI i) Y Z = some (Y', Z') ∧ ∀ k, k < n → Z' k = pw_l (pw_wN (pw_ci kd d ln w rn nx m k) 41)
  | 0, 0, i, Y, Z, _, h2, _, _ => absurd h2 (Nat.not_lt_zero 0)
  | j + 1, 0, i, Y, Z, _, h2, _, _ => absurd h2 (Nat.not_lt_zero _)
  | 0, f + 1, i, Y, Z, h1, h2, hY, hZ => by
    have e : i = 41 := by omega
    subst e
    exact ⟨Y, Z, by rw [mX7_layWhen_L2, if_pos ((pw_41 (by decide)).mpr (by decide))], hZ⟩
  | j + 1, f + 1, i, Y, Z, h1, h2, hY, hZ => by
    obtain ⟨V, g1, g2⟩ := pw_G7 h hY (by decide) (hR.lt (i := nx + i))
    obtain ⟨Z2, e1, e2⟩ := pw_l3L (i := i) (p := pw_ci kd d ln w rn nx m) h.1 (by omega) (fun k hk => pw_C7 h hY (by decide) hk) (fun k hk => rfl) (fun _ z => (mX7_rainOf (nI w) T (nI nx + nI i)).bind fun r15 => (mX7_grow (nI n) K D L 6 Y r15).bind fun u16 => mX7_layWhen_L2 (nI n) (nI w) (nI nx) K D L T (fun _ y z => some (y, z)) f (nI i + 1) u16 z) n 300 0 Z (by omega) (by have := h.1; omega) (fun q hq => by rw [if_neg (Nat.not_lt_zero q)]; exact hZ q hq)
    obtain ⟨Y', Z', f1, f2⟩ := pw_l2L h hR hnx j f (i + 1) V Z2 (by omega) (by omega) g2 e2
    refine ⟨Y', Z', ?_, f2⟩
    rw [mX7_layWhen_L2, if_neg (fun z => absurd ((pw_41 (by omega)).mp z) (by omega))]
    refine Eq.trans e1 ?_
    rw [pw_ad, pw_r7 hR (by omega), pw_bs, g1, pw_bs, nI_1]
    exact f1
theorem pw_LW {n w nx : Nat} {K D L M T U V : Nat → Int32} {kd d ln m rn : Nat → Nat} (h : pw_W n K D L kd d ln) (hM : pw_M n 99 M m) (hR : pw_R w T rn) (hnx : nx < 5000) : ∃ Y Z, mX7_layWhen (nI n) (nI w) (nI nx) K D L M T U V = some (Y, Z) ∧ ∀ k, k < n → Z k = pw_l (pw_wN (pw_ci kd d ln w rn nx m k) 41) := by
  obtain ⟨Y1, a1, a2⟩ := pw_cp (n := 6) M U (by decide)
  obtain ⟨V1, b1, b2⟩ := pw_l1L h.1 (fun _ v => mX7_layWhen_L2 (nI n) (nI w) (nI nx) K D L T (fun _ y z => some (y, z)) 300 0 Y1 v) n 300 0 V (by omega) (by have := h.1; omega) (fun k hk => absurd hk (Nat.not_lt_zero k))
  obtain ⟨Y, Z, c1, c2⟩ := pw_l2L h hR hnx 41 300 0 Y1 V1 rfl (by decide) (hM.to h.1 a2) (fun k hk => by rw [b2 k hk]; rfl)
  refine ⟨Y, Z, ?_, c2⟩
  unfold mX7_layWhen
  rw [a1, pw_bs]
  exact b1.trans c1
theorem pw_WO {n w nx k : Nat} {K D L M T U V : Nat → Int32} {kd d ln m rn : Nat → Nat} (h : pw_W n K D L kd d ln) (hM : pw_M n 99 M m) (hR : pw_R w T rn) (hnx : nx < 5000) (hk : k < n) : ∃ Y Z, mX7_whenOf (nI n) (nI w) (nI nx) K D L M T U V (nI k) = some (pw_l (pw_wN (pw_ci kd d ln w rn nx m k) 41), Y, Z) := by
  obtain ⟨Y, Z, h1, h2⟩ := pw_LW (U := U) (V := V) h hM hR hnx
  have hn := h.1
  refine ⟨Y, Z, ?_⟩
  unfold mX7_whenOf
  rw [h1, pw_n2, pw_rd (by omega) (by omega), pw_bs, h2 k hk]
