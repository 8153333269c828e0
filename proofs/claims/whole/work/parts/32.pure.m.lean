theorem pw_andL (a b : Nat) : lN a &&& lN b = lN (a &&& b) := by
  apply Int64.toBitVec_inj.1
  show BitVec.ofNat 64 a &&& BitVec.ofNat 64 b = BitVec.ofNat 64 (a &&& b)
  apply BitVec.eq_of_getLsbD_eq
  intro i hi
  simp [hi]
/-- the next seed -/
def pw_sn (s : Nat) : Nat := (1103515245 * s + 12345) % 2147483648
theorem pw_sn_lt (s : Nat) : pw_sn s < 2147483648 := Nat.mod_lt _ (by decide)
theorem pw_lin {s : Nat} (hs : s < 2147483648) : (1103515245 * (Int32.toInt64 (nI s))) + 12345 = lN (1103515245 * s + 12345) := by
  rw [nI_l (by omega), show (1103515245 : Int64) = lN 1103515245 from rfl, show (12345 : Int64) = lN 12345 from rfl, lN_mul, lN_add]
theorem pw_sn1 {s : Nat} (hs : s < 2147483648) : Int64.toInt32 (mw_rl ((1103515245 * (Int32.toInt64 (nI s))) + 12345) 2147483648) = nI (pw_sn s) := by
  rw [pw_lin hs, show (2147483648 : Int64) = lN 2147483648 from rfl]
  unfold mw_rl
  rw [pk_lRem (by omega) (by decide) (by decide), lN_i]
  rfl
theorem pw_sn7 {s : Nat} (hs : s < 2147483648) : Int64.toInt32 (((1103515245 * (Int32.toInt64 (nI s))) + 12345) &&& 2147483647) = nI (pw_sn s) := by
  rw [pw_lin hs, show (2147483647 : Int64) = lN 2147483647 from rfl, pw_andL, lN_i, show (2147483647 : Nat) = 2 ^ 31 - 1 from rfl, Nat.and_two_pow_sub_one_eq_mod]
  rfl
theorem pw_rn {s : Nat} (hs : s < 2147483648) : mw_re (nI s / 65536) 4 = nI (s / 65536 % 4) := by
  rw [show nI s / 65536 = nI (s / 65536) from pk_div (d := 65536) (by omega) (by decide) (by decide)]
  exact pk_rem (d := 4) (by omega) (by decide) (by decide)
def pw_sd (s : Nat) : Nat → Nat
  | 0 => s
  | i + 1 => pw_sn (pw_sd s i)
theorem pw_sd_lt {s : Nat} (hs : s < 2147483648) : ∀ i, pw_sd s i < 2147483648
  | 0 => hs
  | i + 1 => pw_sn_lt _
def pw_dm (kd d ln m : Nat → Nat) (s : Nat) : Nat → Nat → Nat
  | 0 => m
  | i + 1 => pw_s kd d ln (pw_dm kd d ln m s i) (pw_sd s (i + 1) / 65536 % 4)
def pw_dc (n : Nat) (kd d ln m : Nat → Nat) (s : Nat) : Nat → Nat
  | 0 => 0
  | i + 1 => pw_dc n kd d ln m s i + if pw_bn (pw_c d (pw_dm kd d ln m s (i + 1))) n = 2 ^ n - 1 then 1 else 0
theorem pw_ac : ∀ n, n < 7 → ∀ b, b < 64 → ((nI b = ((1 <<< (nI n &&& 31)) - 1)) ↔ b = 2 ^ n - 1) := by decide +kernel
def pw_pc (b : Nat) : Nat := b % 2 + b / 2 % 2 + b / 4 % 2 + b / 8 % 2 + b / 16 % 2 + b / 32 % 2
theorem pw_on : ∀ b, b < 64 → mX7_ones (nI b) = some (nI (pw_pc b)) := by decide +kernel
theorem pw_pn : ∀ n, n < 7 → ∀ b, b < 64 → b < 2 ^ n → (pw_pc b = n ↔ b = 2 ^ n - 1) := by decide +kernel
theorem pw_pl : ∀ b, b < 64 → pw_pc b < 7 := by decide +kernel
theorem pw_AC {n : Nat} {K D L M : Nat → Int32} {kd d ln m : Nat → Nat} (h : pw_W n K D L kd d ln) (hM : pw_M n 99 M m) : mX0_allClosed (nI n) D M = some (pw_z (decide (pw_bn (pw_c d m) n = 2 ^ n - 1))) := by
  have hn := h.1
  have hb : pw_bn (pw_c d m) n < 64 := Nat.lt_of_lt_of_le (pw_bn_lt _ _) (pw_p6 hn)
  unfold mX0_allClosed
  rw [pw_B0 h hM (by decide), pw_bs]
  by_cases q : pw_bn (pw_c d m) n = 2 ^ n - 1
  · rw [if_pos ((pw_ac n (by omega) _ hb).mpr q), decide_eq_true q]; rfl
  · rw [if_neg (fun z => q ((pw_ac n (by omega) _ hb).mp z)), decide_eq_false q]; rfl
theorem pw_d1L {n c s : Nat} {K D L : Nat → Int32} {kd d ln m : Nat → Nat} (h : pw_W n K D L kd d ln) (hs : s < 2147483648) (hc : c < 200) (kk : Int32 → Int32 → Int32 → (Nat → Int32) → Option (Int32 × Int32 × (Nat → Int32))) : ∀ (j f i : Nat) (Y : Nat → Int32), c = i + j → j < f → pw_M n 99 Y (pw_dm kd d ln m s i) → ∃ Y', mX1_draw_L1 (nI n) K D L (nI c) kk f (nI i) (nI (pw_dc n kd d ln m s i)) (nI (pw_sd s i)) Y = kk (nI c) (nI (pw_dc n kd d ln m s c)) (nI (pw_sd s c)) Y' ∧ pw_M n 99 Y' (pw_dm kd d ln m s c)
  | 0, 0, i, Y, _, h2, _ => absurd h2 (Nat.not_lt_zero 0)
  | j + 1, 0, i, Y, _, h2, _ => absurd h2 (Nat.not_lt_zero _)
  | 0, f + 1, i, Y, h1, h2, hY => by
    have e : i = c := by omega
    subst e
    exact ⟨Y, by rw [mX1_draw_L1, if_pos (nI_le (Nat.le_refl _) (by omega))], hY⟩
  | j + 1, f + 1, i, Y, h1, h2, hY => by
    have hl := pw_sd_lt hs i
    obtain ⟨Z, g1, g2⟩ := pw_G0 h hY (Nat.mod_lt (pw_sd s (i + 1) / 65536) (show 4 > 0 by decide))
    obtain ⟨Y', e1, e2⟩ := pw_d1L (m := m) h hs hc kk j f (i + 1) Z (by omega) (by omega) g2
    refine ⟨Y', ?_, e2⟩
    rw [mX1_draw_L1, if_neg (nI_ge (by omega) (by omega)), pw_sn1 hl, show pw_sn (pw_sd s i) = pw_sd s (i + 1) from rfl, pw_rn (pw_sd_lt hs (i + 1)), g1, pw_bs, pw_AC h g2, pw_bs, nI_1, nI_1]
    rw [pw_dc] at e1
    by_cases q : pw_bn (pw_c d (pw_dm kd d ln m s (i + 1))) n = 2 ^ n - 1
    · rw [if_pos q] at e1
      rw [show decide (pw_bn (pw_c d (pw_s kd d ln (pw_dm kd d ln m s i) (pw_sd s (i + 1) / 65536 % 4))) n = 2 ^ n - 1) = true from decide_eq_true q, pw_zt, if_neg pw_10]
      exact e1
    · rw [if_neg q] at e1
      rw [show decide (pw_bn (pw_c d (pw_s kd d ln (pw_dm kd d ln m s i) (pw_sd s (i + 1) / 65536 % 4))) n = 2 ^ n - 1) = false from decide_eq_false q, pw_zf, if_pos rfl]
      exact e1
theorem pw_DR {n c s : Nat} {K D L M : Nat → Int32} {kd d ln m : Nat → Nat} (h : pw_W n K D L kd d ln) (hM : pw_M n 99 M m) (hs : s < 2147483648) (hc : c < 200) (x y : Int32) : ∃ Y, mX1_draw x y (nI n) K D L M (nI c) (nI s) = some (nI (pw_dc n kd d ln m s c), nI (pw_sd s c), Y) ∧ pw_M n 99 Y (pw_dm kd d ln m s c) := by
  unfold mX1_draw
  exact pw_d1L (m := m) (s := s) h hs hc (fun _ a b y => some (a, b, y)) c 300 0 M (by omega) (by omega) hM
theorem pw_d7L {n c s : Nat} {K D L : Nat → Int32} {kd d ln m : Nat → Nat} (h : pw_W n K D L kd d ln) (hs : s < 2147483648) (hc : c < 200) (kk : Int32 → Int32 → Int32 → (Nat → Int32) → Option (Int32 × Int32 × (Nat → Int32))) : ∀ (j f i : Nat) (Y : Nat → Int32), c = i + j → j < f → pw_M n 99 Y (pw_dm kd d ln m s i) → ∃ Y', mX7_drawn_L1 (nI n) K D L (nI c) kk f (nI i) (nI (pw_dc n kd d ln m s i)) (nI (pw_sd s i)) Y = kk (nI c) (nI (pw_dc n kd d ln m s c)) (nI (pw_sd s c)) Y' ∧ pw_M n 99 Y' (pw_dm kd d ln m s c)
  | 0, 0, i, Y, _, h2, _ => absurd h2 (Nat.not_lt_zero 0)
  | j + 1, 0, i, Y, _, h2, _ => absurd h2 (Nat.not_lt_zero _)
  | 0, f + 1, i, Y, h1, h2, hY => by
    have e : i = c := by omega
    subst e
    exact ⟨Y, by rw [mX7_drawn_L1, if_pos (nI_le (Nat.le_refl _) (by omega))], hY⟩
  | j + 1, f + 1, i, Y, h1, h2, hY => by
    have hn := h.1
    have hl := pw_sd_lt hs i
    obtain ⟨Z, g1, g2⟩ := pw_G7 h hY (by decide) (Nat.mod_lt (pw_sd s (i + 1) / 65536) (show 4 > 0 by decide))
    obtain ⟨Y', e1, e2⟩ := pw_d7L (m := m) h hs hc kk j f (i + 1) Z (by omega) (by omega) g2
    refine ⟨Y', ?_, e2⟩
    have hd : mX7_draw (nI (pw_sd s i)) 4 = some (nI (pw_sd s (i + 1) / 65536 % 4), nI (pw_sd s (i + 1))) := by
      unfold mX7_draw
      rw [pw_sn7 hl, show pw_sn (pw_sd s i) = pw_sd s (i + 1) from rfl]
      have hl2 := pw_sd_lt hs (i + 1)
      rw [show nI (pw_sd s (i + 1)) / 65536 = nI (pw_sd s (i + 1) / 65536) from pk_div (d := 65536) (by omega) (by decide) (by decide), show (4 : Int32) = nI 4 from rfl, pw_rm (by omega) (by decide) (by decide), pw_bs]
    have hb : pw_bn (pw_c d (pw_s kd d ln (pw_dm kd d ln m s i) (pw_sd s (i + 1) / 65536 % 4))) n < 2 ^ n := pw_bn_lt _ _
    have hb6 : pw_bn (pw_c d (pw_s kd d ln (pw_dm kd d ln m s i) (pw_sd s (i + 1) / 65536 % 4))) n < 64 := Nat.lt_of_lt_of_le hb (pw_p6 hn)
    have hpl := pw_pl _ hb6
    rw [mX7_drawn_L1, if_neg (nI_ge (by omega) (by omega)), hd, pw_n2, g1, pw_bs, pw_B7 h g2 (by decide), pw_bs, pw_on _ hb6, pw_bs, nI_1, nI_1]
    rw [pw_dc] at e1
    by_cases q : pw_bn (pw_c d (pw_dm kd d ln m s (i + 1))) n = 2 ^ n - 1
    · rw [if_pos q] at e1
      rw [if_pos ((pw_eqN (by omega) (by omega)).mpr ((pw_pn n (by omega) _ hb6 hb).mpr q))]
      exact e1
    · rw [if_neg q] at e1
      rw [if_neg (fun z => q ((pw_pn n (by omega) _ hb6 hb).mp ((pw_eqN (by omega) (by omega)).mp z))), show nI (pw_dc n kd d ln m s i) + 0 = nI (pw_dc n kd d ln m s i) from nI_add _ 0]
      exact e1
/-- the moss of all -/
def pw_sm (m : Nat → Nat) : Nat → Nat
  | 0 => 0
  | k + 1 => pw_sm m k + m k
theorem pw_sm0L {n B : Nat} {M : Nat → Int32} {m : Nat → Nat} (hn : n ≤ 6) (hM : pw_M n B M m) (kk : Int32 → Int32 → Option Int32) : ∀ (j f k : Nat), n = k + j → j < f → mX0_mossOfAll_L1 (nI n) M kk f (nI k) (nI (pw_sm m k)) = kk (nI n) (nI (pw_sm m n))
  | 0, 0, k, _, h2 => absurd h2 (Nat.not_lt_zero 0)
  | j + 1, 0, k, _, h2 => absurd h2 (Nat.not_lt_zero _)
  | 0, f + 1, k, h1, h2 => by
    have e : k = n := by omega
    subst e
    rw [mX0_mossOfAll_L1, if_pos (nI_le (Nat.le_refl _) (by omega))]
  | j + 1, f + 1, k, h1, h2 => by
    have ih := pw_sm0L hn hM kk j f (k + 1) (by omega) (by omega)
    rw [mX0_mossOfAll_L1, if_neg (nI_ge (by omega) (by omega)), mX0_mossOn, pw_has (by omega) (by omega), pw_bs, if_neg pw_10, pw_rd (by omega) (by omega), pw_bs, pw_bs, hM.1 k (by omega), pw_ad, nI_1]
    exact ih
theorem pw_SM0 {n B : Nat} {M : Nat → Int32} {m : Nat → Nat} (hn : n ≤ 6) (hM : pw_M n B M m) : mX0_mossOfAll (nI n) M = some (nI (pw_sm m n)) := by
  unfold mX0_mossOfAll
  exact pw_sm0L hn hM _ n 300 0 (by omega) (by omega)
theorem pw_sm7L {n B : Nat} {M : Nat → Int32} {m : Nat → Nat} (hn : n ≤ 6) (hM : pw_M n B M m) (kk : Int32 → Int32 → Option Int32) : ∀ (j f k : Nat), n = k + j → j < f → mX7_together_L1 6 M (nI n) kk f (nI k) (nI (pw_sm m k)) = kk (nI n) (nI (pw_sm m n))
  | 0, 0, k, _, h2 => absurd h2 (Nat.not_lt_zero 0)
  | j + 1, 0, k, _, h2 => absurd h2 (Nat.not_lt_zero _)
  | 0, f + 1, k, h1, h2 => by
    have e : k = n := by omega
    subst e
    rw [mX7_together_L1, if_pos (nI_le (Nat.le_refl _) (by omega))]
  | j + 1, f + 1, k, h1, h2 => by
    have ih := pw_sm7L hn hM kk j f (k + 1) (by omega) (by omega)
    rw [mX7_together_L1, if_neg (nI_ge (by omega) (by omega)), pw_rd (by omega) (by omega), pw_bs, hM.1 k (by omega), pw_ad, nI_1]
    exact ih
theorem pw_SM7 {n B : Nat} {M : Nat → Int32} {m : Nat → Nat} (hn : n ≤ 6) (hM : pw_M n B M m) : mX7_together 6 M (nI n) = some (nI (pw_sm m n)) := by
  unfold mX7_together
  exact pw_sm7L hn hM _ n 300 0 (by omega) (by omega)
theorem pw_bc : ∀ b, b < 64 → mJ6_bitCount_0f7a4 (nI b) = some (nI (pw_pc b)) := by decide +kernel
