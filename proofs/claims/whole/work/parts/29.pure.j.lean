/-- what is wanting -/
def pw_lk (d m : Nat → Nat) (k : Nat) : Nat := d k - m k
theorem pw_z1 : ∀ a, a < 10 → ∀ b, b < 100 → mw_mx (nI a - nI b) 0 = nI (a - b) := by decide +kernel
theorem pw_lk0 {n : Nat} {K D L M : Nat → Int32} {kd d ln m : Nat → Nat} (h : pw_W n K D L kd d ln) (hM : pw_M n 99 M m) {k : Nat} (hk : k < n) : mX0_lacking (nI n) D M (nI k) = some (nI (pw_lk d m k)) := by
  have hn := h.1
  have h1 := (h.2.2.2.2.2.1 k hk).2
  have h2 := hM.2 k hk
  unfold mX0_lacking
  rw [pw_has hk (by omega), pw_bs, if_neg pw_10, pw_rd (by omega) (by omega), pw_bs, pw_rd (by omega) (by omega), pw_bs, h.2.2.1 k hk, hM.1 k hk, pw_z1 _ (by omega) _ (by omega)]
  rfl
theorem pw_lk7 {n : Nat} {K D L M : Nat → Int32} {kd d ln m : Nat → Nat} (h : pw_W n K D L kd d ln) (hM : pw_M n 99 M m) {k : Nat} (hk : k < n) : mX7_left D M (nI k) = some (nI (pw_lk d m k)) := by
  have hn := h.1
  have h1 := (h.2.2.2.2.2.1 k hk).2
  have h2 := hM.2 k hk
  unfold mX7_left pw_lk
  rw [pw_rd (by omega) (by omega), pw_bs, pw_rd (by omega) (by omega), pw_bs, h.2.2.1 k hk, hM.1 k hk]
  by_cases q : d k ≤ m k
  · rw [if_pos (nI_le q (by omega)), show d k - m k = 0 by omega]; rfl
  · rw [if_neg (nI_ge (by omega) (by omega)), pw_bs, pw_bs, pk_sub (by omega)]
theorem pw_lk_lt {n : Nat} {K D L : Nat → Int32} {kd d ln m : Nat → Nat} (h : pw_W n K D L kd d ln) {k : Nat} (hk : k < n) : pw_lk d m k < 10 := by
  have h1 := (h.2.2.2.2.2.1 k hk).2
  unfold pw_lk; omega
/-- the worth of all -/
def pw_xr (g : Nat → Nat) : Nat → Nat
  | 0 => 0
  | k + 1 => pw_xr g k ^^^ (g k % 3)
theorem pw_xl : ∀ a, a < 4 → ∀ b, b < 3 → a ^^^ b < 4 := by decide +kernel
theorem pw_xr_lt (g : Nat → Nat) : ∀ k, pw_xr g k < 4
  | 0 => Nat.succ_pos 3
  | k + 1 => pw_xl _ (pw_xr_lt g k) _ (Nat.mod_lt _ (by decide))
theorem pw_x5 : ∀ a, a < 4 → ∀ l, l < 10 → nI a ^^^ (mw_re (nI l) 3) = nI (a ^^^ (l % 3)) := by decide +kernel
theorem pw_x6 : ∀ s, s < 4 → ∀ l, l < 10 → ∀ t, t < 3 → t ≤ l → ((mw_re (nI l - nI t) 3 = (nI s ^^^ (mw_re (nI l) 3))) ↔ (l - t) % 3 = s ^^^ (l % 3)) := by decide +kernel
theorem pw_x7 : ∀ s, s < 4 → ∀ l, l < 10 → ∀ t, t < 3 → t ≤ l → ((((nI s ^^^ (mw_re (nI l) 3)) ^^^ (mw_re (nI l - nI t) 3)) = 0) ↔ (l - t) % 3 = s ^^^ (l % 3)) := by decide +kernel
theorem pw_w0L {n : Nat} {K D L M : Nat → Int32} {kd d ln m : Nat → Nat} (h : pw_W n K D L kd d ln) (hM : pw_M n 99 M m) (kk : Int32 → Int32 → Option Int32) : ∀ (j f k : Nat), n = k + j → j < f → mX0_winningTurn_L1 (nI n) D M kk f (nI k) (nI (pw_xr (pw_lk d m) k)) = kk (nI n) (nI (pw_xr (pw_lk d m) n))
  | 0, 0, k, _, h2 => absurd h2 (Nat.not_lt_zero 0)
  | j + 1, 0, k, _, h2 => absurd h2 (Nat.not_lt_zero _)
  | 0, f + 1, k, h1, h2 => by
    have hn := h.1
    have e : k = n := by omega
    subst e
    rw [mX0_winningTurn_L1, if_pos (nI_le (Nat.le_refl _) (by omega))]
  | j + 1, f + 1, k, h1, h2 => by
    have hn := h.1
    have ih := pw_w0L h hM kk j f (k + 1) (by omega) (by omega)
    rw [mX0_winningTurn_L1, if_neg (nI_ge (by omega) (by omega)), pw_lk0 h hM (by omega), pw_bs, pw_x5 _ (pw_xr_lt _ _) _ (pw_lk_lt h (by omega)), nI_1]
    exact ih
theorem pw_w7L {n : Nat} {K D L M : Nat → Int32} {kd d ln m : Nat → Nat} (h : pw_W n K D L kd d ln) (hM : pw_M n 99 M m) (kk : Int32 → Int32 → Option Int32) : ∀ (j f k : Nat), n = k + j → j < f → mX7_raceOf_L1 (nI n) D M kk f (nI k) (nI (pw_xr (pw_lk d m) k)) = kk (nI n) (nI (pw_xr (pw_lk d m) n))
  | 0, 0, k, _, h2 => absurd h2 (Nat.not_lt_zero 0)
  | j + 1, 0, k, _, h2 => absurd h2 (Nat.not_lt_zero _)
  | 0, f + 1, k, h1, h2 => by
    have hn := h.1
    have e : k = n := by omega
    subst e
    rw [mX7_raceOf_L1, if_pos (nI_le (Nat.le_refl _) (by omega))]
  | j + 1, f + 1, k, h1, h2 => by
    have hn := h.1
    have ih := pw_w7L h hM kk j f (k + 1) (by omega) (by omega)
    rw [mX7_raceOf_L1, if_neg (nI_ge (by omega) (by omega)), pw_lk7 h hM (by omega), pw_bs, pw_x5 _ (pw_xr_lt _ _) _ (pw_lk_lt h (by omega)), nI_1]
    exact ih
/-- how often to breathe on one, or 0 -/
def pw_qk (s l : Nat) : Nat := if 1 ≤ l ∧ (l - 1) % 3 = s ^^^ (l % 3) then 1 else if 2 ≤ l ∧ (l - 2) % 3 = s ^^^ (l % 3) then 2 else 0
def pw_qs (s : Nat) (g : Nat → Nat) : Nat → Nat → Nat
  | 0, _ => 0
  | j + 1, k => if pw_qk s (g k) = 0 then pw_qs s g j (k + 1) else 10 * k + pw_qk s (g k)
theorem pw_qk0 {s l : Nat} (h1 : l < 1 ∨ ¬ (l - 1) % 3 = s ^^^ (l % 3)) (h2 : l < 2 ∨ ¬ (l - 2) % 3 = s ^^^ (l % 3)) : pw_qk s l = 0 := by
  unfold pw_qk
  rw [if_neg (fun z => by rcases h1 with h | h; exact absurd z.1 (by omega); exact h z.2), if_neg (fun z => by rcases h2 with h | h; exact absurd z.1 (by omega); exact h z.2)]
theorem pw_qk1 {s l : Nat} (h0 : ¬ l < 1) (h1 : (l - 1) % 3 = s ^^^ (l % 3)) : pw_qk s l = 1 := by
  unfold pw_qk
  rw [if_pos ⟨by omega, h1⟩]
theorem pw_qk2 {s l : Nat} (h1 : ¬ (l - 1) % 3 = s ^^^ (l % 3)) (h3 : ¬ l < 2) (h2 : (l - 2) % 3 = s ^^^ (l % 3)) : pw_qk s l = 2 := by
  unfold pw_qk
  rw [if_neg (fun z => h1 z.2), if_pos ⟨by omega, h2⟩]
theorem pw_mv (k t : Nat) : (10 * nI k) + nI t = nI (10 * k + t) := by rw [show (10 : Int32) = nI 10 from rfl, pk_mul, pw_ad]
theorem pw_q0 {s k l : Nat} (hs : s < 4) (hl : l < 10) (z : Option Int32) (f : Nat) : mX0_winningTurn_L3 (nI s) (nI k) (nI l) (fun _ => z) (f + 3) 1 = if pw_qk s l = 0 then z else some (nI (10 * k + pw_qk s l)) := by
  have c1 := pw_x6 s hs l hl 1 (by decide)
  have c2 := pw_x6 s hs l hl 2 (by decide)
  rw [show (1 : Int32) = nI 1 from rfl, mX0_winningTurn_L3, if_neg (show ¬ (2 : Int32) < nI 1 by decide), nI_1, mX0_winningTurn_L3, if_neg (show ¬ (2 : Int32) < nI (1 + 1) by decide), nI_1, mX0_winningTurn_L3, if_pos (show (2 : Int32) < nI (1 + 1 + 1) by decide), pw_mv, pw_mv]
  by_cases q1 : l < 1
  · rw [if_pos (nI_lt q1 (by decide)), pw_qk0 (Or.inl q1) (Or.inl (by omega)), if_pos rfl]
  · rw [if_neg (nI_nlt (by omega) (by omega))]
    by_cases q2 : (l - 1) % 3 = s ^^^ (l % 3)
    · rw [if_pos ((c1 (by omega)).mpr q2), pw_qk1 q1 q2, if_neg (by decide)]
    · rw [if_neg (fun z => q2 ((c1 (by omega)).mp z))]
      by_cases q3 : l < 2
      · rw [if_pos (nI_lt q3 (by decide)), pw_qk0 (Or.inr q2) (Or.inl q3), if_pos rfl]
      · rw [if_neg (show ¬ nI l < nI (1 + 1) from nI_nlt (by omega) (by omega))]
        by_cases q4 : (l - 2) % 3 = s ^^^ (l % 3)
        · rw [if_pos ((c2 (by omega)).mpr q4), pw_qk2 q2 q3 q4, if_neg (by decide)]
        · rw [if_neg (fun z => q4 ((c2 (by omega)).mp z)), pw_qk0 (Or.inr q2) (Or.inr q4), if_pos rfl]
theorem pw_q7 {n s k : Nat} {K D L M : Nat → Int32} {kd d ln m : Nat → Nat} (h : pw_W n K D L kd d ln) (hM : pw_M n 99 M m) (hk : k < n) (hs : s < 4) (what : Int32) (z : Option Int32) (f : Nat) : mX7_raceOf_L3 D M what (nI s) (nI k) (fun _ => z) (f + 3) 1 = if pw_qk s (pw_lk d m k) = 0 then z else some (if what = 0 then 1 else nI (10 * k + pw_qk s (pw_lk d m k))) := by
  have hl := pw_lk_lt (m := m) h hk
  have e := pw_lk7 h hM hk
  generalize pw_lk d m k = l at hl e ⊢
  have c1 := pw_x7 s hs l hl 1 (by decide)
  have c2 := pw_x7 s hs l hl 2 (by decide)
  rw [show (1 : Int32) = nI 1 from rfl, mX7_raceOf_L3, if_neg (show ¬ (3 : Int32) ≤ nI 1 by decide), nI_1, mX7_raceOf_L3, if_neg (show ¬ (3 : Int32) ≤ nI (1 + 1) by decide), nI_1, mX7_raceOf_L3, if_pos (show (3 : Int32) ≤ nI (1 + 1 + 1) by decide), pw_mv, pw_mv, e]
  simp only [pw_bs]
  by_cases q1 : l < 1
  · rw [if_pos (nI_lt q1 (by decide)), if_pos (show nI l < nI (1 + 1) from nI_lt (by omega) (by decide)), pw_qk0 (Or.inl q1) (Or.inl (by omega)), if_pos rfl]
  · rw [if_neg (show ¬ nI l < nI 1 from nI_nlt (by omega) (by omega))]
    by_cases q2 : (l - 1) % 3 = s ^^^ (l % 3)
    · rw [if_pos ((c1 (by omega)).mpr q2), pw_qk1 q1 q2, if_neg (show ¬ (1 : Nat) = 0 by decide)]
      by_cases qw : what = 0
      · rw [if_pos qw, if_pos qw]; rfl
      · rw [if_neg qw, if_neg qw]
    · rw [if_neg (fun z => q2 ((c1 (by omega)).mp z))]
      by_cases q3 : l < 2
      · rw [if_pos (nI_lt q3 (by decide)), pw_qk0 (Or.inr q2) (Or.inl q3), if_pos rfl]
      · rw [if_neg (show ¬ nI l < nI (1 + 1) from nI_nlt (by omega) (by omega))]
        by_cases q4 : (l - 2) % 3 = s ^^^ (l % 3)
        · rw [if_pos ((c2 (by omega)).mpr q4), pw_qk2 q2 q3 q4, if_neg (show ¬ (2 : Nat) = 0 by decide)]
          by_cases qw : what = 0
          · rw [if_pos qw, if_pos qw]; rfl
          · rw [if_neg qw, if_neg qw]
        · rw [if_neg (fun z => q4 ((c2 (by omega)).mp z)), pw_qk0 (Or.inr q2) (Or.inr q4), if_pos rfl]
theorem pw_v0L {n s : Nat} {K D L M : Nat → Int32} {kd d ln m : Nat → Nat} (h : pw_W n K D L kd d ln) (hM : pw_M n 99 M m) (hs : s < 4) : ∀ (j f k : Nat), n = k + j → j < f → mX0_winningTurn_L2 (nI n) D M (nI s) (fun _ => some (-1)) f (nI k) = some (if pw_qs s (pw_lk d m) j k = 0 then -1 else nI (pw_qs s (pw_lk d m) j k))
  | 0, 0, k, _, h2 => absurd h2 (Nat.not_lt_zero 0)
  | j + 1, 0, k, _, h2 => absurd h2 (Nat.not_lt_zero _)
  | 0, f + 1, k, h1, h2 => by
    have hn := h.1
    have e : k = n := by omega
    subst e
    rw [mX0_winningTurn_L2, if_pos (nI_le (Nat.le_refl _) (by omega)), pw_qs, if_pos rfl]
  | j + 1, f + 1, k, h1, h2 => by
    have hn := h.1
    have ih := pw_v0L h hM hs j f (k + 1) (by omega) (by omega)
    rw [mX0_winningTurn_L2, if_neg (nI_ge (by omega) (by omega)), pw_lk0 h hM (by omega), pw_bs, nI_1, ih]
    refine Eq.trans (pw_q0 hs (pw_lk_lt h (by omega)) _ 297) ?_
    rw [pw_qs]
    by_cases q : pw_qk s (pw_lk d m k) = 0
    · rw [if_pos q, if_pos q]
    · rw [if_neg q, if_neg q, if_neg (by omega)]
theorem pw_v7L {n s : Nat} {K D L M : Nat → Int32} {kd d ln m : Nat → Nat} (h : pw_W n K D L kd d ln) (hM : pw_M n 99 M m) (hs : s < 4) (what : Int32) : ∀ (j f k : Nat), n = k + j → j < f → mX7_raceOf_L2 (nI n) D M what (nI s) (fun _ => some (-1)) f (nI k) = some (if pw_qs s (pw_lk d m) j k = 0 then -1 else if what = 0 then 1 else nI (pw_qs s (pw_lk d m) j k))
  | 0, 0, k, _, h2 => absurd h2 (Nat.not_lt_zero 0)
  | j + 1, 0, k, _, h2 => absurd h2 (Nat.not_lt_zero _)
  | 0, f + 1, k, h1, h2 => by
    have hn := h.1
    have e : k = n := by omega
    subst e
    rw [mX7_raceOf_L2, if_pos (nI_le (Nat.le_refl _) (by omega)), pw_qs, if_pos rfl]
  | j + 1, f + 1, k, h1, h2 => by
    have hn := h.1
    have ih := pw_v7L h hM hs what j f (k + 1) (by omega) (by omega)
    rw [mX7_raceOf_L2, if_neg (nI_ge (by omega) (by omega)), nI_1, ih]
    refine Eq.trans (pw_q7 h hM (by omega) hs what _ 297) ?_
    rw [pw_qs]
    by_cases q : pw_qk s (pw_lk d m k) = 0
    · rw [if_pos q, if_pos q]
    · rw [if_neg q, if_neg q, if_neg (show ¬ 10 * k + pw_qk s (pw_lk d m k) = 0 by omega)]
/-- who can, does -/
theorem pw_xb (g : Nat → Nat) (i : Nat) : ∀ n, (pw_xr g n).testBit i = true → ∃ k, k < n ∧ (g k % 3).testBit i = true
  | 0, h => by rw [pw_xr] at h; simp at h
  | n + 1, h => by
    rw [pw_xr, Nat.testBit_xor] at h
    by_cases q : (g n % 3).testBit i = true
    · exact ⟨n, by omega, q⟩
    · have q' : (g n % 3).testBit i = false := by simpa using q
      rw [q'] at h
      obtain ⟨k, h1, h2⟩ := pw_xb g i n (by simpa using h)
      exact ⟨k, by omega, h2⟩
theorem pw_qn : ∀ s, s < 4 → ∀ l, l < 10 → s ^^^ (l % 3) < l % 3 → ¬ pw_qk s l = 0 := by decide +kernel
theorem pw_qm : ∀ s, s < 4 → ∀ r, r < 3 → (s = 1 → r.testBit 0 = true → s ^^^ r < r) ∧ (2 ≤ s → r.testBit 1 = true → s ^^^ r < r) := by decide +kernel
theorem pw_tb1 : ∀ s, s < 4 → (s = 1 → s.testBit 0 = true) ∧ (2 ≤ s → s.testBit 1 = true) := by decide +kernel
theorem pw_qe {g : Nat → Nat} {n s : Nat} (hg : ∀ k, k < n → g k < 10) (hs : s = pw_xr g n) (h0 : ¬ s = 0) : ∃ k, k < n ∧ ¬ pw_qk s (g k) = 0 := by
  have hl : s < 4 := by rw [hs]; exact pw_xr_lt g n
  by_cases q : s = 1
  · obtain ⟨k, h1, h2⟩ := pw_xb g 0 n (by rw [← hs]; exact (pw_tb1 s hl).1 q)
    exact ⟨k, h1, pw_qn s hl _ (hg k h1) ((pw_qm s hl _ (Nat.mod_lt _ (by decide))).1 q h2)⟩
  · obtain ⟨k, h1, h2⟩ := pw_xb g 1 n (by rw [← hs]; exact (pw_tb1 s hl).2 (by omega))
    exact ⟨k, h1, pw_qn s hl _ (hg k h1) ((pw_qm s hl _ (Nat.mod_lt _ (by decide))).2 (by omega) h2)⟩
theorem pw_qsn {s : Nat} {g : Nat → Nat} : ∀ (j k : Nat), (∃ i, k ≤ i ∧ i < k + j ∧ ¬ pw_qk s (g i) = 0) → ¬ pw_qs s g j k = 0
  | 0, k, h => by obtain ⟨i, h1, h2, -⟩ := h; omega
  | j + 1, k, h => by
    rw [pw_qs]
    by_cases q : pw_qk s (g k) = 0
    · rw [if_pos q]
      obtain ⟨i, h1, h2, h3⟩ := h
      refine pw_qsn j (k + 1) ⟨i, ?_, by omega, h3⟩
      by_cases e : i = k
      · subst e; exact absurd q h3
      · omega
    · rw [if_neg q]; omega
/-- the turn that wins, 0 for none -/
def pw_tn (n : Nat) (d m : Nat → Nat) : Nat := if pw_xr (pw_lk d m) n = 0 then 0 else pw_qs (pw_xr (pw_lk d m) n) (pw_lk d m) n 0
theorem pw_eq0 {a : Nat} (h : a < 2 ^ 30) : (nI a = 0) ↔ a = 0 := nI_eq (b := 0) (by omega) (by decide)
theorem pw_WT {n : Nat} {K D L M : Nat → Int32} {kd d ln m : Nat → Nat} (h : pw_W n K D L kd d ln) (hM : pw_M n 99 M m) : mX0_winningTurn (nI n) D M = some (if pw_tn n d m = 0 then -1 else nI (pw_tn n d m)) := by
  have hn := h.1
  have hl := pw_xr_lt (pw_lk d m) n
  unfold mX0_winningTurn
  refine Eq.trans (pw_w0L h hM _ n 300 0 (by omega) (by omega)) ?_
  unfold pw_tn
  by_cases q : pw_xr (pw_lk d m) n = 0
  · rw [if_pos ((pw_eq0 (by omega)).mpr q), if_pos q, if_pos rfl]
  · rw [if_neg (fun z => q ((pw_eq0 (by omega)).mp z)), if_neg q]
    exact pw_v0L h hM hl n 300 0 (by omega) (by omega)
theorem pw_RO {n : Nat} {K D L M : Nat → Int32} {kd d ln m : Nat → Nat} (h : pw_W n K D L kd d ln) (hM : pw_M n 99 M m) (what : Int32) : mX7_raceOf (nI n) D M what = some (if pw_tn n d m = 0 then (if what = 0 then 0 else -1) else if what = 0 then 1 else nI (pw_tn n d m)) := by
  have hn := h.1
  have hl := pw_xr_lt (pw_lk d m) n
  unfold mX7_raceOf
  refine Eq.trans (pw_w7L h hM _ n 300 0 (by omega) (by omega)) ?_
  unfold pw_tn
  by_cases q : pw_xr (pw_lk d m) n = 0
  · rw [if_pos ((pw_eq0 (by omega)).mpr q), if_pos q, if_pos rfl]
    split <;> rfl
  · have hne : ¬ pw_qs (pw_xr (pw_lk d m) n) (pw_lk d m) n 0 = 0 := by
      obtain ⟨k, h1, h2⟩ := pw_qe (g := pw_lk d m) (n := n) (fun k hk => pw_lk_lt h hk) rfl q
      exact pw_qsn n 0 ⟨k, by omega, by omega, h2⟩
    rw [if_neg (fun z => q ((pw_eq0 (by omega)).mp z)), if_neg q, if_neg hne]
    refine Eq.trans (pw_v7L h hM hl what n 300 0 (by omega) (by omega)) ?_
    rw [if_neg hne]
