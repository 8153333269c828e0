abbrev pw_O14 : Type := Int32 × Int32 × (Nat → Int32) × (Nat → Int32) × (Nat → Int32) × (Nat → Int32) × Int32 × (Nat → Int32) × (Nat → Int32) × (Nat → Int32) × (Nat → Int32) × Int32 × Int32 × (Nat → Int32)
theorem pw_h6 {c : Nat} (hc : c < 5) (kk : Int32 → Int32 → Int32 → Option pw_O14) (g : Nat) : ∀ (f i a b : Nat), 2 * c ≤ i + f → i < 1000 → a < 2 ^ 30 → b < 2 ^ 30 → ∃ z, mX6_odds_L1 (nI c) kk (f + 1 + g) (nI i) (nI a) (nI b) = kk z (nI (pw_hv c f i a b).1) (nI (pw_hv c f i a b).2)
  | 0, i, a, b, h1, h0, h2, h3 => by
    rw [show 0 + 1 + g = g + 1 by omega, mX6_odds_L1, pw_m2, if_pos (nI_le (by omega) (by omega)), pw_hv]
    exact ⟨_, rfl⟩
  | f + 1, i, a, b, h1, h0, h2, h3 => by
    rw [show f + 1 + 1 + g = (f + 1 + g) + 1 by omega, mX6_odds_L1, pw_m2, pw_hv]
    by_cases q : 2 * c ≤ i
    · rw [if_pos (nI_le q (by omega)), if_pos q]
      exact ⟨_, rfl⟩
    · rw [if_neg (nI_ge (by omega) (by omega)), if_neg q, pw_re2 h2]
      by_cases q2 : a % 2 = 0
      · rw [if_pos ((pw_eq0 (by omega)).mpr q2), if_pos q2, nI_1, pw_dv2 h2, pw_dv2 h3]
        exact pw_h6 hc kk g f (i + 1) (a / 2) (b / 2) (by omega) (by omega) (by omega) (by omega)
      · rw [if_neg (fun z => q2 ((pw_eq0 (by omega)).mp z)), if_neg q2]
        exact ⟨_, rfl⟩
/-! what is seen -/
def pw_S (q : Nat) (A R G S : Nat → Int32) (a r g : Nat → Nat) : Prop := q ≤ 6 ∧ (∀ i, i < q → A i = nI (a i) ∧ R i = nI (r i) ∧ G i = nI (g i) ∧ S (3 * i) = nI (a i) ∧ S (3 * i + 1) = nI (r i) ∧ S (3 * i + 2) = nI (g i) ∧ a i < 6 ∧ r i < 4 ∧ g i < 7)
/-- can be of a kind, by the first i sights -/
def pw_cb (a r g : Nat → Nat) (k kd : Nat) : Nat → Bool
  | 0 => true
  | i + 1 => pw_cb a r g k kd i && (decide (¬ a i = k) || decide (pw_g kd (r i) = g i))
theorem pw_eqN {a b : Nat} (ha : a < 2 ^ 30) (hb : b < 2 ^ 30) : (nI a = nI b) ↔ a = b := nI_eq (by omega) (by omega)
theorem pw_cbf {a r g : Nat → Nat} {k kd i : Nat} (h : pw_cb a r g k kd i = false) : ∀ j, pw_cb a r g k kd (i + j) = false
  | 0 => h
  | j + 1 => by rw [← Nat.add_assoc, pw_cb, pw_cbf h j]; rfl
theorem pw_cb3L {q k kd : Nat} {A R G S : Nat → Int32} {a r g : Nat → Nat} (h : pw_S q A R G S a r g) (hk : k < 6) (hkd : kd < 5) : ∀ (j f i : Nat), q = i + j → j < f → pw_cb a r g k kd i = true → mX3_canBe_L1 (nI q) A R G (nI k) (nI kd) (fun _ => some 1) f (nI i) = some (pw_z (pw_cb a r g k kd q))
  | 0, 0, i, _, h2, _ => absurd h2 (Nat.not_lt_zero 0)
  | j + 1, 0, i, _, h2, _ => absurd h2 (Nat.not_lt_zero _)
  | 0, f + 1, i, h1, h2, h3 => by
    have hq := h.1
    have e : i = q := by omega
    subst e
    rw [mX3_canBe_L1, if_pos (nI_le (Nat.le_refl _) (by omega)), h3]
    rfl
  | j + 1, f + 1, i, h1, h2, h3 => by
    have hq := h.1
    obtain ⟨a1, a2, a3, -, -, -, b1, b2, b3⟩ := h.2 i (by omega)
    have hgl := pw_gle kd hkd (r i) b2
    rw [mX3_canBe_L1, if_neg (nI_ge (by omega) (by omega)), pw_rd (by omega) (by omega), pw_bs, a1, nI_1]
    by_cases e : a i = k
    · rw [if_pos ((pw_eqN (by omega) (by omega)).mpr e), pw_rd (by omega) (by omega), pw_bs, a2, pw_g6 kd hkd _ b2, pw_bs, pw_rd (by omega) (by omega), pw_bs, a3]
      by_cases e2 : pw_g kd (r i) = g i
      · rw [if_pos ((pw_eqN (by omega) (by omega)).mpr e2)]
        exact pw_cb3L h hk hkd j f (i + 1) (by omega) (by omega) (by rw [pw_cb, h3]; simp [e2])
      · rw [if_neg (fun z => e2 ((pw_eqN (by omega) (by omega)).mp z))]
        have h4 : pw_cb a r g k kd (i + 1) = false := by rw [pw_cb, h3]; simp [e, e2]
        have h5 := pw_cbf h4 j
        rw [show i + 1 + j = q by omega] at h5
        rw [h5]
        rfl
    · rw [if_neg (fun z => e ((pw_eqN (by omega) (by omega)).mp z))]
      exact pw_cb3L h hk hkd j f (i + 1) (by omega) (by omega) (by rw [pw_cb, h3]; simp [e])
theorem pw_CB3 {q k kd : Nat} {A R G S : Nat → Int32} {a r g : Nat → Nat} (h : pw_S q A R G S a r g) (hk : k < 6) (hkd : kd < 5) : mX3_canBe (nI q) A R G (nI k) (nI kd) = some (pw_z (pw_cb a r g k kd q)) := by
  have hq := h.1
  unfold mX3_canBe
  exact pw_cb3L h hk hkd q 300 0 (by omega) (by omega) rfl
theorem pw_le5 {i : Nat} (h : i < 2 ^ 30) : ((5 : Int32) ≤ nI i) ↔ 5 ≤ i := nI_leI (by decide) (by omega)
theorem pw_so3L {q k : Nat} {A R G S : Nat → Int32} {a r g : Nat → Nat} (h : pw_S q A R G S a r g) (hk : k < 6) (kk : Int32 → Int32 → Option Int32) : ∀ (j f i : Nat), 5 = i + j → j < f → mX3_sortsOf_L1 (nI q) A R G (nI k) kk f (nI i) (nI (pw_bn (fun kd => pw_cb a r g k kd q) i)) = kk (nI 5) (nI (pw_bn (fun kd => pw_cb a r g k kd q) 5))
  | 0, 0, i, _, h2 => absurd h2 (Nat.not_lt_zero 0)
  | j + 1, 0, i, _, h2 => absurd h2 (Nat.not_lt_zero _)
  | 0, f + 1, i, h1, h2 => by
    have e : i = 5 := by omega
    subst e
    rw [mX3_sortsOf_L1, if_pos ((pw_le5 (by decide)).mpr (by decide))]
  | j + 1, f + 1, i, h1, h2 => by
    have ih := pw_so3L h hk kk j f (i + 1) (by omega) (by omega)
    rw [mX3_sortsOf_L1, if_neg (fun z => absurd ((pw_le5 (by omega)).mp z) (by omega)), pw_CB3 h hk (by omega), pw_bs, nI_1, ← ih, pw_bn]
    by_cases e : pw_cb a r g k i q = true
    · rw [e, pw_zt, if_neg pw_10, if_pos rfl, pw_or i (by omega) _ (pw_bn_lt _ _)]
    · have e' : pw_cb a r g k i q = false := by simpa using e
      rw [e', pw_zf, if_pos rfl, if_neg (show ¬ false = true by decide)]
      rfl
theorem pw_SO3 {q k : Nat} {A R G S : Nat → Int32} {a r g : Nat → Nat} (h : pw_S q A R G S a r g) (hk : k < 6) : mX3_sortsOf (nI q) A R G (nI k) = some (nI (pw_bn (fun kd => pw_cb a r g k kd q) 5)) := by
  unfold mX3_sortsOf
  exact pw_so3L h hk _ 5 300 0 rfl (by decide)
theorem pw_m3 (q : Nat) : 3 * nI q = nI (3 * q) := pk_mul 3 q
theorem pw_i2 {q k kd : Nat} {A R G S : Nat → Int32} {a r g : Nat → Nat} (h : pw_S q A R G S a r g) (hk : k < 6) (hkd : kd < 5) (kk : Int32 → Int32 → Option Int32) : ∀ (j f i : Nat), q = i + j → j < f → mX7_sortsOf_L2 (nI q) S (nI k) (nI kd) kk f (nI (3 * i)) (pw_z (pw_cb a r g k kd i)) = kk (nI (3 * q)) (pw_z (pw_cb a r g k kd q))
  | 0, 0, i, _, h2 => absurd h2 (Nat.not_lt_zero 0)
  | j + 1, 0, i, _, h2 => absurd h2 (Nat.not_lt_zero _)
  | 0, f + 1, i, h1, h2 => by
    have hq := h.1
    have e : i = q := by omega
    subst e
    rw [mX7_sortsOf_L2, pw_m3, if_pos (nI_le (Nat.le_refl _) (by omega))]
  | j + 1, f + 1, i, h1, h2 => by
    have hq := h.1
    have ih := pw_i2 h hk hkd kk j f (i + 1) (by omega) (by omega)
    obtain ⟨-, -, -, a1, a2, a3, b1, b2, b3⟩ := h.2 i (by omega)
    have hgl := pw_gle kd hkd (r i) b2
    have s3 : nI (3 * i) + 3 = nI (3 * (i + 1)) := nI_add (3 * i) 3
    rw [mX7_sortsOf_L2, pw_m3, if_neg (nI_ge (by omega) (by omega)), s3, ← ih, pw_cb]
    by_cases e0 : pw_cb a r g k kd i = true
    · rw [e0, pw_zt, if_neg pw_10, pw_rd (by omega) (by omega), pw_bs, a1]
      by_cases e : a i = k
      · rw [if_pos ((pw_eqN (by omega) (by omega)).mpr e), nI_1, pw_rd (by omega) (by omega), pw_bs, a2, pw_g7 kd hkd _ b2, pw_bs, show nI (3 * i) + 2 = nI (3 * i + 2) from nI_add (3 * i) 2, pw_rd (by omega) (by omega), pw_bs, a3]
        by_cases e2 : pw_g kd (r i) = g i
        · rw [if_pos ((pw_eqN (by omega) (by omega)).mpr e2)]; simp [e2, pw_z]
        · rw [if_neg (fun z => e2 ((pw_eqN (by omega) (by omega)).mp z))]; simp [e, e2, pw_z]
      · rw [if_neg (fun z => e ((pw_eqN (by omega) (by omega)).mp z))]; simp [e, pw_z]
    · have e' : pw_cb a r g k kd i = false := by simpa using e0
      rw [e', pw_zf, if_pos rfl]; simp [pw_z]
theorem pw_so7L {q k : Nat} {A R G S : Nat → Int32} {a r g : Nat → Nat} (h : pw_S q A R G S a r g) (hk : k < 6) (kk : Int32 → Int32 → Option Int32) : ∀ (j f i : Nat), 5 = i + j → j < f → mX7_sortsOf_L1 (nI q) S (nI k) kk f (nI i) (nI (pw_bn (fun kd => pw_cb a r g k kd q) i)) = kk (nI 5) (nI (pw_bn (fun kd => pw_cb a r g k kd q) 5))
  | 0, 0, i, _, h2 => absurd h2 (Nat.not_lt_zero 0)
  | j + 1, 0, i, _, h2 => absurd h2 (Nat.not_lt_zero _)
  | 0, f + 1, i, h1, h2 => by
    have e : i = 5 := by omega
    subst e
    rw [mX7_sortsOf_L1, if_pos ((pw_le5 (by decide)).mpr (by decide))]
  | j + 1, f + 1, i, h1, h2 => by
    have hq := h.1
    have ih := pw_so7L h hk kk j f (i + 1) (by omega) (by omega)
    rw [mX7_sortsOf_L1, if_neg (fun z => absurd ((pw_le5 (by omega)).mp z) (by omega))]
    refine Eq.trans (pw_i2 h hk (show i < 5 by omega) _ q 300 0 (by omega) (by omega)) ?_
    rw [nI_1, ← ih, pw_bn]
    by_cases e : pw_cb a r g k i q = true
    · rw [e, pw_zt, if_neg pw_10, if_pos rfl, pw_or i (by omega) _ (pw_bn_lt _ _)]
    · have e' : pw_cb a r g k i q = false := by simpa using e
      rw [e', pw_zf, if_pos rfl, if_neg (show ¬ false = true by decide), pw_or0]
      rfl
theorem pw_SO7 {q k : Nat} {A R G S : Nat → Int32} {a r g : Nat → Nat} (h : pw_S q A R G S a r g) (hk : k < 6) : mX7_sortsOf (nI q) S (nI k) = some (nI (pw_bn (fun kd => pw_cb a r g k kd q) 5)) := by
  unfold mX7_sortsOf
  exact pw_so7L h hk _ 5 300 0 rfl (by decide)
def pw_ty (b : Nat) : Int32 := (mX7_tryOf_L1 (nI b) (fun _ _ x => some x) 300 0 6 (-1)).getD 0
theorem pw_ty7 : ∀ b, b < 32 → mX7_tryOf_L1 (nI b) (fun _ _ x => some x) 300 0 6 (-1) = some (pw_ty b) := by decide +kernel
theorem pw_ty3 : ∀ b, b < 32 → (if nI b = 0 then some (-1) else mX3_rainToTry_L1 (nI b) (fun _ x => some x) 300 1 0) = some (pw_ty b) := by decide +kernel
theorem pw_TY3 {q k : Nat} {A R G S : Nat → Int32} {a r g : Nat → Nat} (h : pw_S q A R G S a r g) (hk : k < 6) : mX3_rainToTry (nI q) A R G (nI k) = some (pw_ty (pw_bn (fun kd => pw_cb a r g k kd q) 5)) := by
  unfold mX3_rainToTry
  rw [pw_SO3 h hk, pw_bs]
  exact pw_ty3 _ (pw_bn_lt _ 5)
theorem pw_TY7 {q k : Nat} {A R G S : Nat → Int32} {a r g : Nat → Nat} (h : pw_S q A R G S a r g) (hk : k < 6) : mX7_tryOf (nI q) S (nI k) = some (pw_ty (pw_bn (fun kd => pw_cb a r g k kd q) 5)) := by
  unfold mX7_tryOf
  rw [pw_SO7 h hk, pw_bs]
  exact pw_ty7 _ (pw_bn_lt _ 5)
