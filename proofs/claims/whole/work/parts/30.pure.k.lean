/-- the moss behind j weeks of the rain that a number tells -/
def pw_wy (kd d ln m : Nat → Nat) (y : Nat) : Nat → Nat → Nat
  | 0 => m
  | j + 1 => pw_s kd d ln (pw_wy kd d ln m y j) (y / 4 ^ j % 4)
def pw_wc (kd d ln m : Nat → Nat) (k c : Nat) : Nat → Nat
  | 0 => 0
  | y + 1 => pw_wc kd d ln m k c y + if pw_c d (pw_wy kd d ln m y c) k then 1 else 0
theorem pw_wc_le (kd d ln m : Nat → Nat) (k c : Nat) : ∀ y, pw_wc kd d ln m k c y ≤ y
  | 0 => Nat.le_refl 0
  | y + 1 => by
    have ih := pw_wc_le kd d ln m k c y
    rw [pw_wc]
    split <;> omega
theorem pw_o1 : ∀ j, j < 4 → ∀ y, y < 256 → (nI y >>> ((2 * nI j) &&& 31)) &&& 3 = nI (y / 4 ^ j % 4) := by decide +kernel
theorem pw_o2 : ∀ c, c < 5 → (1 : Int32) <<< ((2 * nI c) &&& 31) = nI (4 ^ c) := by decide +kernel
theorem pw_o3 : ∀ c, c < 5 → 4 ^ c ≤ 256 := by decide
theorem pw_a2L {n c y : Nat} {K D L : Nat → Int32} {kd d ln m : Nat → Nat} (h : pw_W n K D L kd d ln) (hc : c < 5) (hy : y < 256) (kk : Int32 → (Nat → Int32) → Option (Int32 × (Nat → Int32))) : ∀ (j f i : Nat) (Y : Nat → Int32), c = i + j → j < f → pw_M n 99 Y (pw_wy kd d ln m y i) → ∃ Y', mX1_waysClosed_L2 (nI n) K D L (nI c) (nI y) kk f (nI i) Y = kk (nI c) Y' ∧ pw_M n 99 Y' (pw_wy kd d ln m y c)
  | 0, 0, i, Y, _, h2, _ => absurd h2 (Nat.not_lt_zero 0)
  | j + 1, 0, i, Y, _, h2, _ => absurd h2 (Nat.not_lt_zero _)
  | 0, f + 1, i, Y, h1, h2, hY => by
    have e : i = c := by omega
    subst e
    exact ⟨Y, by rw [mX1_waysClosed_L2, if_pos (nI_le (Nat.le_refl _) (by omega))], hY⟩
  | j + 1, f + 1, i, Y, h1, h2, hY => by
    obtain ⟨Z, g1, g2⟩ := pw_G0 h hY (Nat.mod_lt (y / 4 ^ i) (show 4 > 0 by decide))
    obtain ⟨Y', e1, e2⟩ := pw_a2L (m := m) h hc hy kk j f (i + 1) Z (by omega) (by omega) g2
    refine ⟨Y', ?_, e2⟩
    rw [mX1_waysClosed_L2, if_neg (nI_ge (by omega) (by omega)), pw_o1 i (by omega) y hy, g1, pw_bs, nI_1]
    exact e1
theorem pw_a7L {n c y : Nat} {K D L : Nat → Int32} {kd d ln m : Nat → Nat} (h : pw_W n K D L kd d ln) (hc : c < 5) (hy : y < 256) (kk : Int32 → (Nat → Int32) → Option (Int32 × (Nat → Int32))) : ∀ (j f i : Nat) (Y : Nat → Int32), c = i + j → j < f → pw_M n 99 Y (pw_wy kd d ln m y i) → ∃ Y', mX7_oddsOf_L2 (nI n) K D L (nI c) (nI y) kk f (nI i) Y = kk (nI c) Y' ∧ pw_M n 99 Y' (pw_wy kd d ln m y c)
  | 0, 0, i, Y, _, h2, _ => absurd h2 (Nat.not_lt_zero 0)
  | j + 1, 0, i, Y, _, h2, _ => absurd h2 (Nat.not_lt_zero _)
  | 0, f + 1, i, Y, h1, h2, hY => by
    have e : i = c := by omega
    subst e
    exact ⟨Y, by rw [mX7_oddsOf_L2, if_pos (nI_le (Nat.le_refl _) (by omega))], hY⟩
  | j + 1, f + 1, i, Y, h1, h2, hY => by
    obtain ⟨Z, g1, g2⟩ := pw_G7 h hY (by decide) (Nat.mod_lt (y / 4 ^ i) (show 4 > 0 by decide))
    obtain ⟨Y', e1, e2⟩ := pw_a7L (m := m) h hc hy kk j f (i + 1) Z (by omega) (by omega) g2
    refine ⟨Y', ?_, e2⟩
    rw [mX7_oddsOf_L2, if_neg (nI_ge (by omega) (by omega)), pw_o1 i (by omega) y hy, g1, pw_bs, nI_1]
    exact e1
theorem pw_M.cp {n B : Nat} {M U : Nat → Int32} {m : Nat → Nat} (h : pw_M n B M m) (hn : n ≤ 6) : pw_M n B (va_cpy M U 0 0 6) m := h.to hn (fun k hk => pw_cpy hk)
theorem pw_a1L {n c k : Nat} {K D L M : Nat → Int32} {kd d ln m : Nat → Nat} (h : pw_W n K D L kd d ln) (hM : pw_M n 99 M m) (hc : c < 5) (hk : k < n) (kk : Int32 → Int32 → (Nat → Int32) → Option (Int32 × (Nat → Int32))) : ∀ (j f y : Nat) (Y : Nat → Int32), 4 ^ c = y + j → j < f → ∃ Y', mX1_waysClosed_L1 M (nI n) K D L (nI k) (nI c) kk f (nI y) (nI (pw_wc kd d ln m k c y)) Y = kk (nI (4 ^ c)) (nI (pw_wc kd d ln m k c (4 ^ c))) Y'
  | 0, 0, y, Y, _, h2 => absurd h2 (Nat.not_lt_zero 0)
  | j + 1, 0, y, Y, _, h2 => absurd h2 (Nat.not_lt_zero _)
  | 0, f + 1, y, Y, h1, h2 => by
    have h4 := pw_o3 c hc
    have e : y = 4 ^ c := by omega
    subst e
    exact ⟨Y, by rw [mX1_waysClosed_L1, pw_o2 c hc, if_pos (nI_le (Nat.le_refl _) (by omega))]⟩
  | j + 1, f + 1, y, Y, h1, h2 => by
    have h4 := pw_o3 c hc
    obtain ⟨Z, g1, g2⟩ := pw_a2L (m := m) (y := y) h hc (by omega) (fun _ y2 => (mX0_isClosed (nI n) D y2 (nI k)).bind fun r5 => (if r5 = 0 then mX1_waysClosed_L1 M (nI n) K D L (nI k) (nI c) kk f (nI y + 1) (nI (pw_wc kd d ln m k c y)) y2 else mX1_waysClosed_L1 M (nI n) K D L (nI k) (nI c) kk f (nI y + 1) (nI (pw_wc kd d ln m k c y) + 1) y2)) c 300 0 (va_cpy M Y 0 0 6) (by omega) (by omega) (hM.cp h.1)
    obtain ⟨Y', e1⟩ := pw_a1L h hM hc hk kk j f (y + 1) Z (by omega) (by omega)
    refine ⟨Y', ?_⟩
    rw [mX1_waysClosed_L1, pw_o2 c hc, if_neg (nI_ge (by omega) (by omega)), mX0_copyMoss, pw_bs]
    refine Eq.trans g1 ?_
    rw [pw_C0 h g2 (by decide) hk, pw_bs, nI_1, nI_1]
    rw [pw_wc] at e1
    by_cases q : pw_c d (pw_wy kd d ln m y c) k = true
    · rw [q, pw_zt, if_neg pw_10]
      rw [if_pos q] at e1
      exact e1
    · have q' : pw_c d (pw_wy kd d ln m y c) k = false := by simpa using q
      rw [q', pw_zf, if_pos rfl]
      rw [if_neg q] at e1
      exact e1
theorem pw_WY {n c k : Nat} {K D L M U : Nat → Int32} {kd d ln m : Nat → Nat} (h : pw_W n K D L kd d ln) (hM : pw_M n 99 M m) (hc : c < 5) (hk : k < n) : ∃ Y, mX1_waysClosed M (nI n) K D L U (nI k) (nI c) = some (nI (pw_wc kd d ln m k c (4 ^ c)), Y) := by
  have h4 := pw_o3 c hc
  unfold mX1_waysClosed
  exact pw_a1L h hM hc hk (fun _ x y => some (x, y)) (4 ^ c) 300 0 U (by omega) (by omega)
theorem pw_s1L {n c k : Nat} {K D L M : Nat → Int32} {kd d ln m : Nat → Nat} (h : pw_W n K D L kd d ln) (hM : pw_M n 99 M m) (hc : c < 5) (hk : k < n) (kk : Int32 → Int32 → (Nat → Int32) → Option (Int32 × (Nat → Int32))) : ∀ (j f y : Nat) (Y : Nat → Int32), 4 ^ c = y + j → j < f → ∃ Y', mX7_oddsOf_L1 (nI n) K D L M (nI k) (nI c) kk f (nI y) (nI (pw_wc kd d ln m k c y)) Y = kk (nI (4 ^ c)) (nI (pw_wc kd d ln m k c (4 ^ c))) Y'
  | 0, 0, y, Y, _, h2 => absurd h2 (Nat.not_lt_zero 0)
  | j + 1, 0, y, Y, _, h2 => absurd h2 (Nat.not_lt_zero _)
  | 0, f + 1, y, Y, h1, h2 => by
    have h4 := pw_o3 c hc
    have e : y = 4 ^ c := by omega
    subst e
    exact ⟨Y, by rw [mX7_oddsOf_L1, pw_o2 c hc, if_pos (nI_le (Nat.le_refl _) (by omega))]⟩
  | j + 1, f + 1, y, Y, h1, h2 => by
    have h4 := pw_o3 c hc
    obtain ⟨Y0, a1, a2⟩ := pw_cp (n := 6) M Y (by decide)
    obtain ⟨Z, g1, g2⟩ := pw_a7L (m := m) (y := y) h hc (by omega) (fun _ y2 => (mX7_isClosed D 6 y2 (nI k)).bind fun r5 => (if r5 = 0 then mX7_oddsOf_L1 (nI n) K D L M (nI k) (nI c) kk f (nI y + 1) (nI (pw_wc kd d ln m k c y) + 0) y2 else mX7_oddsOf_L1 (nI n) K D L M (nI k) (nI c) kk f (nI y + 1) (nI (pw_wc kd d ln m k c y) + 1) y2)) c 300 0 Y0 (by omega) (by omega) (hM.to h.1 a2)
    obtain ⟨Y', e1⟩ := pw_s1L h hM hc hk kk j f (y + 1) Z (by omega) (by omega)
    refine ⟨Y', ?_⟩
    rw [mX7_oddsOf_L1, pw_o2 c hc, if_neg (nI_ge (by omega) (by omega)), a1, pw_bs]
    refine Eq.trans g1 ?_
    rw [pw_C7 h g2 (by decide) hk, pw_bs, nI_1, nI_1, show nI (pw_wc kd d ln m k c y) + 0 = nI (pw_wc kd d ln m k c y) from nI_add _ 0]
    rw [pw_wc] at e1
    by_cases q : pw_c d (pw_wy kd d ln m y c) k = true
    · rw [q, pw_zt, if_neg pw_10]
      rw [if_pos q] at e1
      exact e1
    · have q' : pw_c d (pw_wy kd d ln m y c) k = false := by simpa using q
      rw [q', pw_zf, if_pos rfl]
      rw [if_neg q] at e1
      exact e1
/-- the greatest that goes into both -/
def pw_gc : Nat → Nat → Nat → Nat
  | 0, _, x => x
  | f + 1, y, x => if y = 0 then x else pw_gc f (x % y) y
theorem pw_g3L (kk : Int32 → Int32 → Option (Int32 × (Nat → Int32))) (g : Nat) : ∀ (f y x : Nat), y < f → y < 2 ^ 30 → x < 2 ^ 30 → ∃ z, mX7_oddsOf_L3 kk (f + g) (nI y) (nI x) = kk z (nI (pw_gc f y x))
  | 0, y, x, h1, _, _ => absurd h1 (Nat.not_lt_zero _)
  | f + 1, y, x, h1, h2, h3 => by
    rw [show f + 1 + g = (f + g) + 1 by omega, mX7_oddsOf_L3, pw_gc]
    by_cases q : y = 0
    · rw [if_pos ((pw_le0 h2).mpr q), if_pos q]; exact ⟨_, rfl⟩
    · have hm : x % y < y := Nat.mod_lt _ (by omega)
      rw [if_neg (fun z => q ((pw_le0 h2).mp z)), if_neg q, pw_rm (by omega) (by omega) (by omega), pw_bs]
      exact pw_g3L kk g f (x % y) y (by omega) (by omega) h2
/-- halves, as long as both are even -/
def pw_hv (c : Nat) : Nat → Nat → Nat → Nat → Nat × Nat
  | 0, _, a, b => (a, b)
  | f + 1, i, a, b => if 2 * c ≤ i then (a, b) else if a % 2 = 0 then pw_hv c f (i + 1) (a / 2) (b / 2) else (a, b)
/-- both give the same: in lowest terms -/
def pw_hk (c a : Nat) : Bool := decide (c = 0) || (decide (4 ^ c < a) || (decide (pw_hv c 9 0 a (4 ^ c) = (a / pw_gc 300 a (4 ^ c), 4 ^ c / pw_gc 300 a (4 ^ c))) && (decide (0 < pw_gc 300 a (4 ^ c)) && decide (pw_gc 300 a (4 ^ c) < 1000))))
theorem pw_hk_all : ∀ c, c < 5 → ∀ a, a < 257 → pw_hk c a = true := by decide +kernel
theorem pw_hg {c a : Nat} (h1 : c < 5) (h2 : 1 ≤ c) (h3 : a ≤ 4 ^ c) : pw_hv c 9 0 a (4 ^ c) = (a / pw_gc 300 a (4 ^ c), 4 ^ c / pw_gc 300 a (4 ^ c)) ∧ 0 < pw_gc 300 a (4 ^ c) ∧ pw_gc 300 a (4 ^ c) < 1000 := by
  have h4 := pw_o3 c h1
  have h := pw_hk_all c h1 a (by omega)
  unfold pw_hk at h
  rw [Bool.or_eq_true, Bool.or_eq_true, Bool.and_eq_true, Bool.and_eq_true] at h
  simp only [decide_eq_true_eq] at h
  rcases h with h | h | h
  · omega
  · omega
  · exact h
theorem pw_re2 {x : Nat} (h : x < 2 ^ 30) : mw_re (nI x) 2 = nI (x % 2) := pk_rem (d := 2) (by omega) (by decide) (by decide)
theorem pw_dv2 {x : Nat} (h : x < 2 ^ 30) : nI x / 2 = nI (x / 2) := pk_div (d := 2) (by omega) (by decide) (by decide)
theorem pw_m2 (c : Nat) : 2 * nI c = nI (2 * c) := pk_mul 2 c
theorem pw_dvN {a b : Nat} (ha : a < 2 ^ 31) (h0 : 0 < b) (hb : b < 2 ^ 31) : mw_dv (nI a) (nI b) = some (nI (a / b)) := by
  unfold mw_dv
  rw [if_neg (nI_ne0 h0 hb), pk_div ha h0 hb]
/-- the odds: above, below -/
def pw_od (kd d ln m : Nat → Nat) (k c : Nat) : Nat × Nat := (pw_wc kd d ln m k c (4 ^ c) / pw_gc 300 (pw_wc kd d ln m k c (4 ^ c)) (4 ^ c), 4 ^ c / pw_gc 300 (pw_wc kd d ln m k c (4 ^ c)) (4 ^ c))
theorem pw_OD {n c k : Nat} {K D L M U : Nat → Int32} {kd d ln m : Nat → Nat} (h : pw_W n K D L kd d ln) (hM : pw_M n 99 M m) (hc : c < 5) (hc1 : 1 ≤ c) (hk : k < n) (what : Int32) : ∃ Y, mX7_oddsOf (nI n) K D L M U (nI k) (nI c) what = some (if what = 0 then nI (pw_od kd d ln m k c).1 else nI (pw_od kd d ln m k c).2, Y) := by
  have h4 := pw_o3 c hc
  have hw := pw_wc_le kd d ln m k c (4 ^ c)
  obtain ⟨g1, g2, g3⟩ := pw_hg hc hc1 hw
  unfold mX7_oddsOf pw_od
  obtain ⟨Y, e⟩ := pw_s1L h hM hc hk (fun _ x5 y => mX7_oddsOf_L3 (fun _ x6 => (if what = 0 then (mw_dv x5 x6).bind fun e11 => some (e11, y) else (mw_dv (1 <<< ((2 * nI c) &&& 31)) x6).bind fun e10 => some (e10, y))) 300 x5 (1 <<< ((2 * nI c) &&& 31))) (4 ^ c) 300 0 U (by omega) (by omega)
  refine ⟨Y, ?_⟩
  refine Eq.trans e ?_
  dsimp only
  rw [pw_o2 c hc]
  obtain ⟨z, e2⟩ := pw_g3L (fun _ x6 => (if what = 0 then (mw_dv (nI (pw_wc kd d ln m k c (4 ^ c))) x6).bind fun e11 => some (e11, Y) else (mw_dv (nI (4 ^ c)) x6).bind fun e10 => some (e10, Y))) 0 300 (pw_wc kd d ln m k c (4 ^ c)) (4 ^ c) (by omega) (by omega) (by omega)
  refine Eq.trans e2 ?_
  by_cases q : what = 0
  · rw [if_pos q, if_pos q, pw_dvN (by omega) g2 (by omega), pw_bs]
  · rw [if_neg q, if_neg q, pw_dvN (by omega) g2 (by omega), pw_bs]
