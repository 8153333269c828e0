/-- digits that are of clauses and do not go down -/
def pw_rw (n : Nat) : Nat → Nat → Nat → Bool
  | 0, _, _ => true
  | f + 1, x, l => if x = 0 then true else if 1 ≤ x % 10 ∧ x % 10 ≤ n ∧ x % 10 ≤ l then pw_rw n f (x / 10) (x % 10) else false
theorem pw_le0 {x : Nat} (h : x < 2 ^ 30) : (nI x ≤ 0) ↔ x = 0 := by
  rw [show (0 : Int32) = nI 0 from rfl, nI_leI (by omega) (by decide)]; omega
theorem pw_re10 {x : Nat} (h : x < 2 ^ 30) : mw_re (nI x) 10 = nI (x % 10) := pk_rem (d := 10) (by omega) (by decide) (by decide)
theorem pw_dv10 {x : Nat} (h : x < 2 ^ 30) : nI x / 10 = nI (x / 10) := pk_div (d := 10) (by omega) (by decide) (by decide)
theorem pw_cmp1 (x y : Int64) : lg_cmp x y < 0 ↔ x < y := by
  unfold lg_cmp
  have h3 : x < y ∨ x = y ∨ y < x := by
    rcases Int.lt_trichotomy x.toInt y.toInt with h | h | h
    · exact Or.inl (Int64.lt_iff_toInt_lt.mpr h)
    · exact Or.inr (Or.inl (Int64.toInt_inj.mp h))
    · exact Or.inr (Or.inr (Int64.lt_iff_toInt_lt.mpr h))
  have hirr : ∀ z : Int64, ¬ z < z := fun z h => Int.lt_irrefl _ (Int64.lt_iff_toInt_lt.mp h)
  have hass : ∀ a b : Int64, a < b → ¬ b < a := fun a b h1 h2 => by
    have g1 := Int64.lt_iff_toInt_lt.mp h1
    have g2 := Int64.lt_iff_toInt_lt.mp h2
    omega
  rcases h3 with h | h | h
  · rw [if_neg (hass _ _ h), if_neg (fun e => hirr y (by rw [e] at h; exact h))]; simp [h]
  · subst h; rw [if_neg (hirr x), if_pos rfl]; simp [hirr x]
  · rw [if_pos h]; simp [hass _ _ h]
theorem pw_cmp2 (x y : Int64) : 0 < lg_cmp x y ↔ y < x := by
  unfold lg_cmp
  have hirr : ∀ z : Int64, ¬ z < z := fun z h => Int.lt_irrefl _ (Int64.lt_iff_toInt_lt.mp h)
  by_cases h : y < x
  · rw [if_pos h]; simp [h]
  · rw [if_neg h]
    by_cases e : x = y
    · rw [if_pos e]; simp [h]
    · rw [if_neg e]; simp [h]
/-- the reference's in(), of ints -/
theorem pw_in (v lo hi : Int32) : mX7_in (Int32.toInt64 v) (Int32.toInt64 lo) (Int32.toInt64 hi) = some (pw_z (decide (lo ≤ v ∧ v ≤ hi))) := by
  have e : ∀ a b : Int32, a.toInt64 < b.toInt64 ↔ a < b := fun a b => by
    rw [Int64.lt_iff_toInt_lt, Int32.toInt_toInt64, Int32.toInt_toInt64, Int32.lt_iff_toInt_lt]
  unfold mX7_in
  by_cases h1 : v < lo
  · rw [if_pos ((pw_cmp1 _ _).mpr ((e _ _).mpr h1))]
    have : ¬ lo ≤ v := fun h => Int32.not_lt.mpr h h1
    simp [pw_z, this]
  · rw [if_neg (fun z => h1 ((e _ _).mp ((pw_cmp1 _ _).mp z)))]
    by_cases h2 : hi < v
    · rw [if_pos ((pw_cmp2 _ _).mpr ((e _ _).mpr h2))]
      have : ¬ v ≤ hi := fun h => Int32.not_lt.mpr h h2
      simp [pw_z, this]
    · rw [if_neg (fun z => h2 ((e _ _).mp ((pw_cmp2 _ _).mp z)))]
      simp [pw_z, Int32.not_lt.mp h1, Int32.not_lt.mp h2]
theorem pw_inN (v a b : Nat) (hv : v < 2 ^ 31) (ha : a < 2 ^ 31) (hb : b < 2 ^ 31) : mX7_in (Int32.toInt64 (nI v)) (Int32.toInt64 (nI a)) (Int32.toInt64 (nI b)) = some (pw_z (decide (a ≤ v ∧ v ≤ b))) := by
  rw [pw_in, show (decide (nI a ≤ nI v ∧ nI v ≤ nI b)) = decide (a ≤ v ∧ v ≤ b) from by rw [decide_eq_decide, nI_leI ha hv, nI_leI hv hb]]
theorem pw_row {n : Nat} (hn : n ≤ 6) (g : Nat) : ∀ (f x l : Nat), x < 10 ^ f → x < 2 ^ 30 → l < 100 → mX7_isRow_L1 (nI n) (fun _ _ => some 1) (f + 1 + g) (nI x) (nI l) = some (pw_z (pw_rw n f x l))
  | 0, x, l, h1, h2, h3 => by
    have e : x = 0 := by simpa using h1
    subst e
    rw [show 0 + 1 + g = g + 1 by omega, mX7_isRow_L1, if_pos ((pw_le0 (by decide)).mpr rfl)]
    rfl
  | f + 1, x, l, h1, h2, h3 => by
    have h4 : x / 10 < 10 ^ f := by rw [Nat.pow_succ] at h1; omega
    have hm : x % 10 < 10 := Nat.mod_lt _ (by decide)
    have ih := pw_row hn g f (x / 10) (x % 10) h4 (by omega) (by omega)
    rw [show f + 1 + 1 + g = (f + 1 + g) + 1 by omega, mX7_isRow_L1, pw_rw]
    by_cases q : x = 0
    · rw [if_pos ((pw_le0 h2).mpr q), if_pos q]
      rfl
    · rw [if_neg (fun z => q ((pw_le0 h2).mp z)), if_neg q, pw_re10 h2, pw_dv10 h2, ih]
      rw [show (1 : Int64) = Int32.toInt64 (nI 1) from rfl, pw_inN _ _ _ (by omega) (by decide) (by omega), pw_bs]
      by_cases q2 : 1 ≤ x % 10 ∧ x % 10 ≤ n
      · rw [show decide (1 ≤ x % 10 ∧ x % 10 ≤ n) = true from decide_eq_true q2, pw_zt, if_neg pw_10]
        by_cases q3 : x % 10 ≤ l
        · rw [if_pos (nI_le q3 (by omega)), if_pos ⟨q2.1, q2.2, q3⟩]
        · rw [if_neg (nI_ge (by omega) (by omega)), if_neg (fun z => q3 z.2.2)]; rfl
      · rw [show decide (1 ≤ x % 10 ∧ x % 10 ≤ n) = false from decide_eq_false q2, pw_zf, if_pos rfl, if_neg (fun z => q2 ⟨z.1, z.2.1⟩)]; rfl
theorem pw_ROW {n x : Nat} (hn : n ≤ 6) (hx : x < 10000) : mX7_isRow (nI n) (nI x) = some (pw_z (pw_rw n 4 x 10)) := by
  unfold mX7_isRow
  exact pw_row hn 295 4 x 10 (by simpa using hx) (by omega) (by decide)
/-- the moss with breaths, as the reference has it -/
def pw_br : Nat → Nat → (Nat → Nat) → Nat → Nat
  | 0, _, m => m
  | f + 1, x, m => if x = 0 then m else pw_br f (x / 10) (fun k => if k = x % 10 - 1 then m k + 1 else m k)
theorem pw_br_le : ∀ (f x : Nat) (m : Nat → Nat) (k : Nat), pw_br f x m k ≤ m k + f
  | 0, x, m, k => Nat.le_refl _
  | f + 1, x, m, k => by
    rw [pw_br]
    split
    · omega
    · have ih := pw_br_le f (x / 10) (fun k => if k = x % 10 - 1 then m k + 1 else m k) k
      refine Nat.le_trans ih ?_
      split <;> omega
theorem pw_e7 {n : Nat} (hn : n ≤ 6) (kk : Int32 → (Nat → Int32) → Option (Int32 × (Nat → Int32))) (g : Nat) : ∀ (f x l : Nat) (Y : Nat → Int32) (b : Nat → Nat), x < 10 ^ f → x < 2 ^ 30 → pw_rw n f x l = true → pw_E n Y b → ∃ Y', mX7_isEnough_L1 kk (f + 1 + g) (nI x) Y = kk 0 Y' ∧ pw_E n Y' (pw_br f x b)
  | 0, x, l, Y, b, h1, h2, hr, hY => by
    have e : x = 0 := by simpa using h1
    subst e
    exact ⟨Y, by rw [show 0 + 1 + g = g + 1 by omega, mX7_isEnough_L1, if_pos ((pw_le0 (by decide)).mpr rfl)]; rfl, hY⟩
  | f + 1, x, l, Y, b, h1, h2, hr, hY => by
    have h4 : x / 10 < 10 ^ f := by rw [Nat.pow_succ] at h1; omega
    rw [pw_rw] at hr
    by_cases q : x = 0
    · refine ⟨Y, ?_, by rw [pw_br, if_pos q]; exact hY⟩
      rw [show f + 1 + 1 + g = (f + 1 + g) + 1 by omega, mX7_isEnough_L1, if_pos ((pw_le0 h2).mpr q), q]; rfl
    · rw [if_neg q] at hr
      by_cases q2 : 1 ≤ x % 10 ∧ x % 10 ≤ n ∧ x % 10 ≤ l
      · rw [if_pos q2] at hr
        obtain ⟨y, hy⟩ : ∃ y, x % 10 = y + 1 := ⟨x % 10 - 1, by omega⟩
        obtain ⟨Y', e1, e2⟩ := pw_e7 hn kk g f (x / 10) (x % 10) (upd Y y (Y y + 1)) (fun k => if k = x % 10 - 1 then b k + 1 else b k) h4 (by omega) hr (fun k hk => by
          dsimp only
          by_cases e : k = y
          · subst e; rw [pw_up, if_pos (by omega), hY k hk, nI_1]
          · rw [pw_un e, if_neg (by omega), hY k hk])
        refine ⟨Y', ?_, by rw [pw_br, if_neg q]; exact e2⟩
        rw [show f + 1 + 1 + g = (f + 1 + g) + 1 by omega, mX7_isEnough_L1, if_neg (fun z => q ((pw_le0 h2).mp z)), pw_re10 h2, pw_dv10 h2, hy, nI_pred, pw_rd (by omega) (by omega), pw_bs, pw_wr (by omega) (by omega), pw_bs]
        exact e1
      · rw [if_neg q2] at hr; exact absurd hr (by decide)
theorem pw_e0 {n : Nat} (hn : n ≤ 6) (kk : Int32 → (Nat → Int32) → Option (Int32 × (Nat → Int32))) (g : Nat) : ∀ (f x l : Nat) (Y : Nat → Int32) (b : Nat → Nat), x < 10 ^ f → x < 2 ^ 30 → pw_rw n f x l = true → pw_E n Y (fun k => min 99 (b k)) → ∃ Y', mX1_closesInTime_L1 (nI n) kk (f + 1 + g) (nI x) Y = kk 0 Y' ∧ pw_E n Y' (fun k => min 99 (pw_br f x b k))
  | 0, x, l, Y, b, h1, h2, hr, hY => by
    have e : x = 0 := by simpa using h1
    subst e
    exact ⟨Y, by rw [show 0 + 1 + g = g + 1 by omega, mX1_closesInTime_L1, if_pos ((pw_le0 (by decide)).mpr rfl)]; rfl, hY⟩
  | f + 1, x, l, Y, b, h1, h2, hr, hY => by
    have h4 : x / 10 < 10 ^ f := by rw [Nat.pow_succ] at h1; omega
    rw [pw_rw] at hr
    by_cases q : x = 0
    · refine ⟨Y, ?_, by rw [pw_br, if_pos q]; exact hY⟩
      rw [show f + 1 + 1 + g = (f + 1 + g) + 1 by omega, mX1_closesInTime_L1, if_pos ((pw_le0 h2).mpr q), q]; rfl
    · rw [if_neg q] at hr
      by_cases q2 : 1 ≤ x % 10 ∧ x % 10 ≤ n ∧ x % 10 ≤ l
      · rw [if_pos q2] at hr
        obtain ⟨y, hy⟩ : ∃ y, x % 10 = y + 1 := ⟨x % 10 - 1, by omega⟩
        have hyn : y < n := by omega
        have hYy : Y y = nI (min 99 (b y)) := hY y hyn
        obtain ⟨Y', e1, e2⟩ := pw_e0 hn kk g f (x / 10) (x % 10) (upd Y y (nI (min (min 99 (b y) + 1) 99))) (fun k => if k = x % 10 - 1 then b k + 1 else b k) h4 (by omega) hr (fun k hk => by
          dsimp only
          by_cases e : k = y
          · subst e; rw [pw_up, if_pos (by omega)]; congr 1; omega
          · rw [pw_un e, if_neg (by omega)]; exact hY k hk)
        refine ⟨Y', ?_, by rw [pw_br, if_neg q]; exact e2⟩
        rw [show f + 1 + 1 + g = (f + 1 + g) + 1 by omega, mX1_closesInTime_L1, if_neg (fun z => q ((pw_le0 h2).mp z)), pw_re10 h2, pw_dv10 h2, hy, nI_pred, show (1 : Int32) = nI 1 from rfl, pw_am hn hyn hYy (by omega), pw_bs]
        exact e1
      · rw [if_neg q2] at hr; exact absurd hr (by decide)
/-- more moss than 99 is none -/
theorem pw_s_99 {n r : Nat} {kd d ln a b : Nat → Nat} (hd : ∀ k, k < n → d k ≤ 9) (hln : ∀ k, k < n → ln k ≤ k) (hab : ∀ k, k < n → a k = min 99 (b k)) : ∀ k, k < n → pw_s kd d ln a r k = pw_s kd d ln b r k := by
  intro k hk
  have h1 := hln k hk
  unfold pw_s
  rw [hab k hk]
  by_cases q : ln k = 0
  · rw [if_pos (Or.inl q), if_pos (Or.inl q)]; omega
  · have h2 := hab (ln k - 1) (by omega)
    have h3 := hd (ln k - 1) (by omega)
    by_cases q2 : d (ln k - 1) ≤ b (ln k - 1)
    · rw [if_pos (Or.inr q2), if_pos (Or.inr (by omega))]; omega
    · rw [if_neg (show ¬ (ln k = 0 ∨ d (ln k - 1) ≤ a (ln k - 1)) by omega), if_neg (show ¬ (ln k = 0 ∨ d (ln k - 1) ≤ b (ln k - 1)) by omega)]; omega
theorem pw_i_99 {n w nx : Nat} {kd d ln rn a b : Nat → Nat} (hd : ∀ k, k < n → d k ≤ 9) (hln : ∀ k, k < n → ln k ≤ k) (hab : ∀ k, k < n → a k = min 99 (b k)) : ∀ c k, k < n → pw_i kd d ln w rn nx a c k = min 99 (pw_i kd d ln w rn nx b c k)
  | 0, k, hk => hab k hk
  | c + 1, k, hk => by
    have ih := pw_i_99 (w := w) (nx := nx) (rn := rn) (kd := kd) hd hln hab c
    rw [pw_i, pw_i, pw_s_99 hd hln ih k hk]
    have := pw_s_le kd d ln (pw_i kd d ln w rn nx b c) (rn ((nx + c) % w)) k
    omega
/-- whether breaths are enough -/
def pw_ok (n : Nat) (kd d ln : Nat → Nat) (w : Nat) (rn : Nat → Nat) (nx : Nat) (m : Nat → Nat) (u c x : Nat) : Bool := decide (pw_bn (pw_c d (pw_i kd d ln w rn nx (pw_br 4 x m) c)) n &&& u = u)
theorem pw_y1 : ∀ u, u < 64 → ∀ b, b < 64 → (nI u &&& (nI b ^^^ (-1)) = 0 ↔ b &&& u = u) := by decide +kernel
theorem pw_y2 : ∀ u, u < 64 → ∀ b, b < 64 → (nI b &&& nI u = nI u ↔ b &&& u = u) := by decide +kernel
theorem pw_EN {n w nx u c x : Nat} {K D L M T U : Nat → Int32} {kd d ln m rn : Nat → Nat} (h : pw_W n K D L kd d ln) (hM : pw_M n 99 M m) (hR : pw_R w T rn) (hnx : nx < 5000) (hc : c < 200) (hu : u < 64) (hx : x < 10000) (hr : pw_rw n 4 x 10 = true) : ∃ Y, mX7_isEnough (nI n) (nI w) (nI nx) K D L M T U (nI x) (nI u) (nI c) = some (pw_z (pw_ok n kd d ln w rn nx m u c x), Y) := by
  obtain ⟨Y1, a1, a2⟩ := pw_cp (n := 6) M U (by decide)
  obtain ⟨Y2, b1, b2⟩ := pw_e7 h.1 (fun _ y => (mX7_goOn (nI n) (nI w) (nI nx) K D L T y (nI c)).bind fun u5 => (mX7_closedBits (nI n) D 6 u5).bind fun r6 => (if (r6 &&& nI u) = nI u then some (1, u5) else some (0, u5))) 295 4 x 10 Y1 m (by simpa using hx) (by omega) hr (hM.to h.1 a2).1
  obtain ⟨Y3, c1, c2⟩ := pw_G h (B := 103) ⟨b2, fun k hk => by have g1 := pw_br_le 4 x m k; have g2 := hM.2 k hk; omega⟩ (by decide) hR hnx hc
  refine ⟨Y3, ?_⟩
  unfold mX7_isEnough
  rw [a1, pw_bs]
  refine Eq.trans b1 ?_
  have hb : pw_bn (pw_c d (pw_i kd d ln w rn nx (pw_br 4 x m) c)) n < 64 := Nat.lt_of_lt_of_le (pw_bn_lt _ _) (pw_p6 h.1)
  rw [c1, pw_bs, pw_B7 h c2 (by decide), pw_bs]
  unfold pw_ok
  by_cases q : pw_bn (pw_c d (pw_i kd d ln w rn nx (pw_br 4 x m) c)) n &&& u = u
  · rw [if_pos ((pw_y2 u hu _ hb).mpr q), decide_eq_true q]; rfl
  · rw [if_neg (fun z => q ((pw_y2 u hu _ hb).mp z)), decide_eq_false q]; rfl
theorem pw_t2L {n w nx c : Nat} {K D L T : Nat → Int32} {kd d ln m rn : Nat → Nat} (h : pw_W n K D L kd d ln) (hR : pw_R w T rn) (hnx : nx < 5000) (hc : c < 200) (kk : Int32 → (Nat → Int32) → Option (Int32 × (Nat → Int32))) : ∀ (j f i : Nat) (Y : Nat → Int32), c = i + j → j < f → pw_M n 99 Y (pw_i kd d ln w rn nx m i) → ∃ Y', mX1_closesInTime_L2 (nI n) K D L (nI w) T (nI c) (nI nx) kk f (nI i) Y = kk (nI c) Y' ∧ pw_M n 99 Y' (pw_i kd d ln w rn nx m c)
  | 0, 0, i, Y, _, h2, _ => absurd h2 (Nat.not_lt_zero 0)
  | j + 1, 0, i, Y, _, h2, _ => absurd h2 (Nat.not_lt_zero _)
  | 0, f + 1, i, Y, h1, h2, hY => by
    have e : i = c := by omega
    subst e
    exact ⟨Y, by rw [mX1_closesInTime_L2, if_pos (nI_le (Nat.le_refl _) (by omega))], hY⟩
  | j + 1, f + 1, i, Y, h1, h2, hY => by
    obtain ⟨Z, g1, g2⟩ := pw_G0 h hY (hR.lt (i := nx + i))
    obtain ⟨Y', e1, e2⟩ := pw_t2L h hR hnx hc kk j f (i + 1) Z (by omega) (by omega) g2
    refine ⟨Y', ?_, e2⟩
    rw [mX1_closesInTime_L2, if_neg (nI_ge (by omega) (by omega)), pw_ad, pw_r5 hR (by omega), pw_bs, g1, pw_bs, nI_1]
    exact e1
theorem pw_cpy {F G : Nat → Int32} {k n : Nat} (hk : k < n) : va_cpy F G 0 0 n k = F k := by
  rw [pk_cpy_in (by omega) (by omega)]; congr 1; omega
theorem pw_CT {n w nx u c x : Nat} {K D L M T U : Nat → Int32} {kd d ln m rn : Nat → Nat} (h : pw_W n K D L kd d ln) (hM : pw_M n 99 M m) (hR : pw_R w T rn) (hnx : nx < 5000) (hc : c < 200) (hu : u < 64) (hx : x < 10000) (hr : pw_rw n 4 x 10 = true) : ∃ Y, mX1_closesInTime M (nI n) K D L U (nI w) (nI nx) T (nI x) (nI u) (nI c) = some (pw_z (pw_ok n kd d ln w rn nx m u c x), Y) := by
  have hd : ∀ k, k < n → d k ≤ 9 := fun k hk => (h.2.2.2.2.2.1 k hk).2
  obtain ⟨Y2, b1, b2⟩ := pw_e0 h.1 (fun _ y => (mX5_next (nI nx)).bind fun r4 => mX1_closesInTime_L2 (nI n) K D L (nI w) T (nI c) r4 (fun _ y2 => (mX0_closedBits (nI n) D y2).bind fun r8 => (if (nI u &&& (r8 ^^^ (-1))) = 0 then some (1, y2) else some (0, y2))) 300 0 y) 295 4 x 10 (va_cpy M U 0 0 6) m (by simpa using hx) (by omega) hr (fun k hk => by
    have hn := h.1
    have h2 := hM.2 k hk
    rw [pw_cpy (by omega), hM.1 k hk]; dsimp only; congr 1; omega)
  obtain ⟨Y3, c1, c2⟩ := pw_t2L (m := fun k => min 99 (pw_br 4 x m k)) h hR hnx hc (fun _ y2 => (mX0_closedBits (nI n) D y2).bind fun r8 => (if (nI u &&& (r8 ^^^ (-1))) = 0 then some (1, y2) else some (0, y2))) c 300 0 Y2 (by omega) (by omega) ⟨b2, fun k hk => by show min 99 _ ≤ 99; omega⟩
  refine ⟨Y3, ?_⟩
  unfold mX1_closesInTime mX0_copyMoss
  rw [pw_bs]
  refine Eq.trans b1 ?_
  rw [mX5_next, pw_bs]
  refine Eq.trans c1 ?_
  have ec : pw_bn (pw_c d (pw_i kd d ln w rn nx (fun k => min 99 (pw_br 4 x m k)) c)) n = pw_bn (pw_c d (pw_i kd d ln w rn nx (pw_br 4 x m) c)) n := by
    apply pw_bn_cong
    intro k hk
    have g1 := pw_i_99 (w := w) (nx := nx) (rn := rn) (kd := kd) hd h.2.2.2.2.2.2 (fun k _ => (rfl : min 99 (pw_br 4 x m k) = min 99 (pw_br 4 x m k))) c k hk
    have g2 := hd k hk
    unfold pw_c
    rw [decide_eq_decide, g1]
    omega
  have hb : pw_bn (pw_c d (pw_i kd d ln w rn nx (pw_br 4 x m) c)) n < 64 := Nat.lt_of_lt_of_le (pw_bn_lt _ _) (pw_p6 h.1)
  rw [pw_B0 h c2 (by decide), pw_bs, ec]
  unfold pw_ok
  by_cases q : pw_bn (pw_c d (pw_i kd d ln w rn nx (pw_br 4 x m) c)) n &&& u = u
  · rw [if_pos ((pw_y1 u hu _ hb).mpr q), decide_eq_true q]; rfl
  · rw [if_neg (fun z => q ((pw_y1 u hu _ hb).mp z)), decide_eq_false q]; rfl
