/-- the page is a wall -/
def pw_isw (p : Nat) (c : Nat → Nat) : Prop := pw_rp c p 0 < p ∧ pw_fp c (pw_rp c p 0) p 0 = p
def pw_kd (c : Nat → Nat) (k : Nat) : Nat := pw_ko (c (4 * k))
def pw_de (c : Nat → Nat) (k : Nat) : Nat := c (4 * k + 1) - 48
def pw_le (c : Nat → Nat) (k : Nat) : Nat := if c (4 * k + 2) = 45 then 0 else c (4 * k + 2) - 47
def pw_ra (c : Nat → Nat) (r j : Nat) : Nat := c (r + j) - 48
theorem pw_ew {p : Nat} {c : Nat → Nat} (h : pw_isw p c) : c (pw_rp c p 0 - 1) = 59 ∧ pw_rp c p 0 % 4 = 0 ∧ 4 ≤ pw_rp c p 0 ∧ pw_rp c p 0 ≤ 24 ∧ p ≤ pw_rp c p 0 + 8 := by
  obtain ⟨h1, h2⟩ := h
  have hl := pw_rp_le c p 0
  have hall := pw_fp_all p 0 (by omega : pw_fp c (pw_rp c p 0) p 0 = 0 + p)
  have hy : c (pw_rp c p 0 - 1) = 59 ∧ 0 < pw_rp c p 0 := by
    rcases pw_rp_yes c p 0 with hy | hy
    · omega
    · exact ⟨hy.2, hy.1⟩
  have g1 := hall (pw_rp c p 0 - 1) (by omega) (by omega)
  unfold pw_ft at g1
  rw [if_pos (by omega), hy.1] at g1
  have g24 : pw_rp c p 0 - 1 < 24 := by
    unfold pw_fc2 at g1
    rw [Bool.and_eq_true, decide_eq_true_eq] at g1
    exact g1.1
  have g2 := pw_fc59 _ g24 g1
  have g3 := hall (p - 1) (by omega) (by omega)
  unfold pw_ft at g3
  rw [if_neg (by omega)] at g3
  unfold pw_fr2 at g3
  rw [Bool.and_eq_true, decide_eq_true_eq] at g3
  refine ⟨hy.1, by omega, by omega, by omega, by omega⟩
theorem pw_ec {p k : Nat} {c : Nat → Nat} (h : pw_isw p c) (hk : k < pw_rp c p 0 / 4) : pw_ko (c (4 * k)) < 5 ∧ 49 ≤ c (4 * k + 1) ∧ c (4 * k + 1) ≤ 57 ∧ (c (4 * k + 2) = 45 ∨ (48 ≤ c (4 * k + 2) ∧ c (4 * k + 2) < 48 + k)) := by
  obtain ⟨-, e2, e3, e4, -⟩ := pw_ew h
  obtain ⟨h1, h2⟩ := h
  have hall := pw_fp_all p 0 (by omega : pw_fp c (pw_rp c p 0) p 0 = 0 + p)
  have a0 := hall (4 * k) (by omega) (by omega)
  have a1 := hall (4 * k + 1) (by omega) (by omega)
  have a2 := hall (4 * k + 2) (by omega) (by omega)
  unfold pw_ft pw_fc2 at a0 a1 a2
  rw [if_pos (by omega), Bool.and_eq_true, if_pos (by omega)] at a0
  rw [if_pos (by omega), Bool.and_eq_true, if_neg (by omega), if_pos (by omega)] at a1
  rw [if_pos (by omega), Bool.and_eq_true, if_neg (by omega), if_neg (by omega), if_pos (by omega)] at a2
  have b0 := a0.2
  have b1 := a1.2
  have b2 := a2.2
  simp only [Bool.and_eq_true, Bool.or_eq_true, decide_eq_true_eq] at b0 b1 b2
  refine ⟨b0, b1.1, b1.2, ?_⟩
  rcases b2 with b2 | b2
  · exact Or.inl b2
  · exact Or.inr ⟨b2.1, by have := b2.2; omega⟩
theorem pw_er {p j : Nat} {c : Nat → Nat} (h : pw_isw p c) (hj : j < p - pw_rp c p 0) : 48 ≤ c (pw_rp c p 0 + j) ∧ c (pw_rp c p 0 + j) ≤ 51 := by
  obtain ⟨h1, h2⟩ := h
  have hall := pw_fp_all p 0 (by omega : pw_fp c (pw_rp c p 0) p 0 = 0 + p)
  have a0 := hall (pw_rp c p 0 + j) (by omega) (by omega)
  unfold pw_ft pw_fr2 at a0
  rw [if_neg (by omega)] at a0
  simp only [Bool.and_eq_true, decide_eq_true_eq] at a0
  exact a0.2
theorem pw_cd {p i : Nat} {C : Nat → Int32} {c : Nat → Nat} (h : pw_P p C c) (hi : i < p) : mX2_codeAt (nI p) C (nI i) = some (nI (c i)) := by
  have hp := h.1
  unfold mX2_codeAt
  rw [if_neg (nI_pos (by omega)), if_neg (nI_ge hi (by omega)), pw_rd (by omega) (by omega), pw_bs, h.2.1 i hi]
theorem pw_add {k : Nat} {K D L M : Nat → Int32} {x y z : Int32} (hk : k < 6) : mX0_add (nI k) K D L M x y z = some (nI (k + 1), upd K k x, upd D k y, upd L k z, upd M k 0) := by
  unfold mX0_add
  rw [if_neg (show ¬ (6 : Int32) ≤ nI k from nI_ge (b := 6) hk (by decide)), pw_wr (by omega) (by omega), pw_bs, pw_wr (by omega) (by omega), pw_bs, pw_wr (by omega) (by omega), pw_bs, pw_wr (by omega) (by omega), pw_bs, nI_1]
/-- the first k clauses are laid -/
def pw_ly (c : Nat → Nat) (k : Nat) (K D L M : Nat → Int32) : Prop := ∀ i, i < k → K i = nI (pw_kd c i) ∧ D i = nI (pw_de c i) ∧ L i = pw_l (pw_le c i) ∧ M i = nI 0
theorem pw_ly_s {c : Nat → Nat} {k : Nat} {K D L M : Nat → Int32} {x y z u : Int32} (h : pw_ly c k K D L M) (hx : x = nI (pw_kd c k)) (hy : y = nI (pw_de c k)) (hz : z = pw_l (pw_le c k)) (hu : u = nI 0) : pw_ly c (k + 1) (upd K k x) (upd D k y) (upd L k z) (upd M k u) := by
  intro i hi
  by_cases e : i = k
  · subst e; rw [pw_up, pw_up, pw_up, pw_up]; exact ⟨hx, hy, hz, hu⟩
  · rw [pw_un e, pw_un e, pw_un e, pw_un e]; exact h i (by omega)
theorem pw_48 {a : Nat} (h : 48 ≤ a) : nI a - 48 = nI (a - 48) := pk_sub (b := 48) h
theorem pw_e45 {a : Nat} (h : a < 2 ^ 30) : (nI a = 45) ↔ a = 45 := nI_eq (b := 45) (by omega) (by decide)
theorem pw_c1L {p : Nat} {C : Nat → Int32} {c : Nat → Nat} (h : pw_P p C c) (hw : pw_isw p c) (kk : Int32 → Int32 → (Nat → Int32) → (Nat → Int32) → (Nat → Int32) → (Nat → Int32) → Option (Int32 × (Nat → Int32) × (Nat → Int32) × (Nat → Int32) × (Nat → Int32))) : ∀ (j f k : Nat) (K D L M : Nat → Int32), pw_rp c p 0 / 4 = k + j → j < f → pw_ly c k K D L M → ∃ z K' D' L' M', mX2_copyClauses_L1 (nI p) C (nI (pw_rp c p 0)) kk f (nI (4 * k)) (nI k) K D L M = kk z (nI (pw_rp c p 0 / 4)) K' D' L' M' ∧ pw_ly c (pw_rp c p 0 / 4) K' D' L' M'
  | 0, 0, k, K, D, L, M, _, h2, _ => absurd h2 (Nat.not_lt_zero 0)
  | j + 1, 0, k, K, D, L, M, _, h2, _ => absurd h2 (Nat.not_lt_zero _)
  | 0, f + 1, k, K, D, L, M, h1, h2, hY => by
    obtain ⟨-, e2, e3, e4, -⟩ := pw_ew hw
    have e : k = pw_rp c p 0 / 4 := by omega
    rw [← e]
    rw [mX2_copyClauses_L1, show nI (4 * k) + 4 = nI (4 * k + 4) from nI_add _ 4, if_pos (nI_lt (by omega) (by omega))]
    exact ⟨_, K, D, L, M, rfl, hY⟩
  | j + 1, f + 1, k, K, D, L, M, h1, h2, hY => by
    obtain ⟨-, e2, e3, e4, -⟩ := pw_ew hw
    have hp := h.1
    have hlt := hw.1
    have hk : k < pw_rp c p 0 / 4 := by omega
    obtain ⟨a0, a1, a2, a3⟩ := pw_ec hw hk
    have b0 := h.2.2 (4 * k) (by omega)
    have b1 := h.2.2 (4 * k + 1) (by omega)
    have b2 := h.2.2 (4 * k + 2) (by omega)
    rw [mX2_copyClauses_L1, show nI (4 * k) + 4 = nI (4 * (k + 1)) from nI_add _ 4, if_neg (nI_nlt (by omega) (by omega)), pw_cd h (by omega), pw_bs, pw_ix _ b0, pw_bs, if_pos a0, show nI (4 * k) + 2 = nI (4 * k + 2) from nI_add _ 2, pw_cd h (by omega), pw_bs, nI_1, pw_cd h (by omega), pw_bs, pw_bs, pw_bs, pw_48 (by omega), pw_add (by omega), pw_n5]
    by_cases q : c (4 * k + 2) = 45
    · rw [if_pos ((pw_e45 (by omega)).mpr q)]
      exact pw_c1L h hw kk j f (k + 1) _ _ _ _ (by omega) (by omega) (pw_ly_s hY rfl rfl (by unfold pw_le; rw [if_pos q]; rfl) rfl)
    · rw [if_neg (fun z => q ((pw_e45 (by omega)).mp z)), pw_48 (by omega), pw_add (by omega), pw_n5]
      refine pw_c1L h hw kk j f (k + 1) _ _ _ _ (by omega) (by omega) (pw_ly_s hY rfl rfl ?_ rfl)
      unfold pw_le
      rw [if_neg q, show c (4 * k + 2) - 47 = (c (4 * k + 2) - 48) + 1 by omega]
      rfl
theorem pw_CC {p : Nat} {C K D L M : Nat → Int32} {c : Nat → Nat} (h : pw_P p C c) (hw : pw_isw p c) : ∃ K' D' L' M', mX2_copyClauses (nI p) C 0 K D L M = some (nI (pw_rp c p 0 / 4), K', D', L', M') ∧ pw_ly c (pw_rp c p 0 / 4) K' D' L' M' := by
  obtain ⟨-, e2, e3, e4, -⟩ := pw_ew hw
  obtain ⟨z, K', D', L', M', g1, g2⟩ := pw_c1L h hw (fun _ s k d l m => some (s, k, d, l, m)) (pw_rp c p 0 / 4) 300 0 K D L M (by omega) (by omega) (fun i hi => absurd hi (Nat.not_lt_zero i))
  refine ⟨K', D', L', M', ?_, g2⟩
  unfold mX2_copyClauses
  rw [pw_RP h, pw_bs]
  exact g1
theorem pw_ad5 {k : Nat} {T : Nat → Int32} {x : Int32} (hk : k < 8) : mX5_add (nI k) T x = some (nI (k + 1), upd T k x) := by
  unfold mX5_add
  rw [if_neg (show ¬ (8 : Int32) ≤ nI k from nI_ge (b := 8) hk (by decide)), pw_wr (by omega) (by omega), pw_bs, nI_1]
def pw_lr (c : Nat → Nat) (r k : Nat) (T : Nat → Int32) : Prop := ∀ i, i < k → T i = nI (pw_ra c r i)
theorem pw_lr_s {c : Nat → Nat} {r k : Nat} {T : Nat → Int32} {x : Int32} (h : pw_lr c r k T) (hx : x = nI (pw_ra c r k)) : pw_lr c r (k + 1) (upd T k x) := by
  intro i hi
  by_cases e : i = k
  · subst e; rw [pw_up]; exact hx
  · rw [pw_un e]; exact h i (by omega)
theorem pw_cr1L {p : Nat} {C : Nat → Int32} {c : Nat → Nat} (h : pw_P p C c) (hw : pw_isw p c) (kk : Int32 → Int32 → (Nat → Int32) → Option (Int32 × (Nat → Int32))) : ∀ (j f k : Nat) (T : Nat → Int32), p - pw_rp c p 0 = k + j → j < f → pw_lr c (pw_rp c p 0) k T → ∃ z T', mX2_copyRain_L1 (nI p) C kk f (nI (pw_rp c p 0 + k)) (nI k) T = kk z (nI (p - pw_rp c p 0)) T' ∧ pw_lr c (pw_rp c p 0) (p - pw_rp c p 0) T'
  | 0, 0, k, T, _, h2, _ => absurd h2 (Nat.not_lt_zero 0)
  | j + 1, 0, k, T, _, h2, _ => absurd h2 (Nat.not_lt_zero _)
  | 0, f + 1, k, T, h1, h2, hY => by
    have hp := h.1
    have hlt := hw.1
    have e : k = p - pw_rp c p 0 := by omega
    rw [← e, mX2_copyRain_L1, if_pos (nI_le (by omega) (by omega))]
    exact ⟨_, T, rfl, hY⟩
  | j + 1, f + 1, k, T, h1, h2, hY => by
    obtain ⟨-, e2, e3, e4, e5⟩ := pw_ew hw
    have hp := h.1
    have hlt := hw.1
    have a := pw_er hw (show k < p - pw_rp c p 0 by omega)
    rw [mX2_copyRain_L1, if_neg (nI_ge (by omega) (by omega)), pw_cd h (by omega), pw_bs, pw_48 a.1, pw_ad5 (by omega), pw_n2, nI_1]
    exact pw_cr1L h hw kk j f (k + 1) _ (by omega) (by omega) (pw_lr_s hY rfl)
theorem pw_CR {p : Nat} {C T : Nat → Int32} {c : Nat → Nat} (h : pw_P p C c) (hw : pw_isw p c) : ∃ T', mX2_copyRain (nI p) C 0 T = some (nI (p - pw_rp c p 0), T') ∧ pw_lr c (pw_rp c p 0) (p - pw_rp c p 0) T' := by
  have hp := h.1
  have hlt := hw.1
  obtain ⟨z, T', g1, g2⟩ := pw_cr1L h hw (fun _ s t => some (s, t)) (p - pw_rp c p 0) 300 0 T (by omega) (by omega) (fun i hi => absurd hi (Nat.not_lt_zero i))
  refine ⟨T', ?_, g2⟩
  unfold mX2_copyRain
  rw [pw_RP h, pw_bs]
  exact g1
theorem pw_IW {p : Nat} {C : Nat → Int32} {c : Nat → Nat} (h : pw_P p C c) : ∃ b : Bool, mX2_isWall (nI p) C = some (pw_z b) ∧ (b = true ↔ pw_isw p c) := by
  have hp := h.1
  have hl := pw_rp_le c p 0
  have hf := pw_fp_le c (pw_rp c p 0) p 0
  unfold mX2_isWall pw_isw
  rw [pw_RP h, pw_bs, pw_FP h, pw_bs]
  by_cases q : p ≤ pw_rp c p 0
  · rw [if_pos (nI_le q (by omega))]
    exact ⟨false, rfl, by simp; omega⟩
  · rw [if_neg (nI_ge (by omega) (by omega))]
    by_cases q2 : pw_fp c (pw_rp c p 0) p 0 = p
    · rw [if_pos ((pw_eqN (by omega) (by omega)).mpr q2)]
      exact ⟨true, rfl, by simp; exact ⟨by omega, q2⟩⟩
    · rw [if_neg (fun z => q2 ((pw_eqN (by omega) (by omega)).mp z))]
      exact ⟨false, rfl, by simp; intro _; exact q2⟩
/-- a wall as read -/
theorem pw_lyW {p : Nat} {c : Nat → Nat} {K D L M : Nat → Int32} (hw : pw_isw p c) (h : pw_ly c (pw_rp c p 0 / 4) K D L M) : pw_W (pw_rp c p 0 / 4) K D L (pw_kd c) (pw_de c) (pw_le c) ∧ pw_M (pw_rp c p 0 / 4) 99 M (fun _ => 0) := by
  obtain ⟨-, e2, e3, e4, e5⟩ := pw_ew hw
  refine ⟨⟨by omega, fun k hk => (h k hk).1, fun k hk => (h k hk).2.1, fun k hk => (h k hk).2.2.1, fun k hk => (pw_ec hw hk).1, fun k hk => ?_, fun k hk => ?_⟩, fun k hk => (h k hk).2.2.2, fun k hk => by show 0 ≤ 99; omega⟩
  · obtain ⟨a0, a1, a2, a3⟩ := pw_ec hw hk
    unfold pw_de; omega
  · obtain ⟨a0, a1, a2, a3⟩ := pw_ec hw hk
    unfold pw_le
    by_cases q : c (4 * k + 2) = 45
    · rw [if_pos q]; omega
    · rw [if_neg q]; omega
theorem pw_lrR {p : Nat} {c : Nat → Nat} {T : Nat → Int32} (hw : pw_isw p c) (h : pw_lr c (pw_rp c p 0) (p - pw_rp c p 0) T) : pw_R (p - pw_rp c p 0) T (pw_ra c (pw_rp c p 0)) := by
  obtain ⟨-, e2, e3, e4, e5⟩ := pw_ew hw
  have hlt := hw.1
  refine ⟨by omega, by omega, h, fun k hk => ?_⟩
  have a := pw_er hw hk
  unfold pw_ra; omega
