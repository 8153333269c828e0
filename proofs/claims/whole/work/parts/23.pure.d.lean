/-- a wall's clauses, in both -/
def pw_W (n : Nat) (K D L : Nat → Int32) (kd d ln : Nat → Nat) : Prop := n ≤ 6 ∧ pw_E n K kd ∧ pw_E n D d ∧ pw_L n L ln ∧ (∀ k, k < n → kd k < 5) ∧ (∀ k, k < n → 1 ≤ d k ∧ d k ≤ 9) ∧ ∀ k, k < n → ln k ≤ k
/-- the moss: at most B -/
def pw_M (n B : Nat) (M : Nat → Int32) (m : Nat → Nat) : Prop := pw_E n M m ∧ ∀ k, k < n → m k ≤ B
/-- the rain -/
def pw_R (w : Nat) (T : Nat → Int32) (rn : Nat → Nat) : Prop := 1 ≤ w ∧ w ≤ 8 ∧ pw_E w T rn ∧ ∀ k, k < w → rn k < 4
theorem pw_W.d {n : Nat} {K D L : Nat → Int32} {kd d ln : Nat → Nat} (h : pw_W n K D L kd d ln) : ∀ k, k < n → d k < 1000 := fun k hk => by have := h.2.2.2.2.2.1 k hk; omega
theorem pw_M.m {n B : Nat} {M : Nat → Int32} {m : Nat → Nat} (h : pw_M n B M m) (hB : B < 900) : ∀ k, k < n → m k < 900 := fun k hk => by have := h.2 k hk; omega
theorem pw_M.k {n B : Nat} {M : Nat → Int32} {m : Nat → Nat} (h : pw_M n B M m) (hB : B < 900) : ∀ k, k < n → m k < 1000 := fun k hk => by have := h.2 k hk; omega
theorem pw_C0 {n B : Nat} {K D L M : Nat → Int32} {kd d ln m : Nat → Nat} (h : pw_W n K D L kd d ln) (hM : pw_M n B M m) (hB : B < 900) {k : Nat} (hk : k < n) : mX0_isClosed (nI n) D M (nI k) = some (pw_z (pw_c d m k)) := pw_c0 h.1 h.2.2.1 hM.1 h.d (hM.k hB) hk
theorem pw_C7 {n B : Nat} {K D L M : Nat → Int32} {kd d ln m : Nat → Nat} (h : pw_W n K D L kd d ln) (hM : pw_M n B M m) (hB : B < 900) {k : Nat} (hk : k < n) : mX7_isClosed D 6 M (nI k) = some (pw_z (pw_c d m k)) := pw_c7 h.1 h.2.2.1 hM.1 h.d (hM.k hB) hk
theorem pw_B0 {n B : Nat} {K D L M : Nat → Int32} {kd d ln m : Nat → Nat} (h : pw_W n K D L kd d ln) (hM : pw_M n B M m) (hB : B < 900) : mX0_closedBits (nI n) D M = some (nI (pw_bn (pw_c d m) n)) := pw_cb0 h.1 h.2.2.1 hM.1 h.d (hM.k hB)
theorem pw_B7 {n B : Nat} {K D L M : Nat → Int32} {kd d ln m : Nat → Nat} (h : pw_W n K D L kd d ln) (hM : pw_M n B M m) (hB : B < 900) : mX7_closedBits (nI n) D 6 M = some (nI (pw_bn (pw_c d m) n)) := pw_cb7 h.1 h.2.2.1 hM.1 h.d (hM.k hB)
theorem pw_F0 {n B : Nat} {K D L M : Nat → Int32} {kd d ln m : Nat → Nat} (h : pw_W n K D L kd d ln) (hM : pw_M n B M m) (hB : B < 900) : mX0_forceBits (nI n) K D L M = some (nI (pw_fn kd d ln m n)) := pw_fb0 h.1 h.2.1 h.2.2.1 h.2.2.2.1 hM.1 h.2.2.2.2.1 h.d h.2.2.2.2.2.2 (hM.k hB)
theorem pw_F7 {n B : Nat} {K D L M : Nat → Int32} {kd d ln m : Nat → Nat} (h : pw_W n K D L kd d ln) (hM : pw_M n B M m) (hB : B < 900) : mX7_forceBits (nI n) K D L 6 M = some (nI (pw_fn kd d ln m n)) := pw_fb7 h.1 h.2.1 h.2.2.1 h.2.2.2.1 hM.1 h.2.2.2.2.1 h.d h.2.2.2.2.2.2 (hM.k hB)
theorem pw_G0 {n r : Nat} {K D L M : Nat → Int32} {kd d ln m : Nat → Nat} (h : pw_W n K D L kd d ln) (hM : pw_M n 99 M m) (hr : r < 4) : ∃ Y, mX0_grow (nI n) K D L M (nI r) = some Y ∧ pw_M n 99 Y (pw_s kd d ln m r) := by
  obtain ⟨Y, h1, h2⟩ := pw_gr0 h.1 h.2.1 h.2.2.1 h.2.2.2.1 hM.1 h.2.2.2.2.1 h.d h.2.2.2.2.2.2 hM.2 hr
  exact ⟨Y, h1, h2, fun k _ => pw_s_le _ _ _ _ _ k⟩
theorem pw_G7 {n r B : Nat} {K D L M : Nat → Int32} {kd d ln m : Nat → Nat} (h : pw_W n K D L kd d ln) (hM : pw_M n B M m) (hB : B < 900) (hr : r < 4) : ∃ Y, mX7_grow (nI n) K D L 6 M (nI r) = some Y ∧ pw_M n 99 Y (pw_s kd d ln m r) := by
  obtain ⟨Y, h1, h2⟩ := pw_gr7 h.1 h.2.1 h.2.2.1 h.2.2.2.1 hM.1 h.2.2.2.2.1 h.d h.2.2.2.2.2.2 (hM.m hB) hr
  exact ⟨Y, h1, h2, fun k _ => pw_s_le _ _ _ _ _ k⟩
theorem pw_rm {a b : Nat} (ha : a < 2 ^ 31) (h0 : 0 < b) (hb : b < 2 ^ 31) : mw_rm (nI a) (nI b) = some (nI (a % b)) := by
  unfold mw_rm
  rw [if_neg (nI_ne0 h0 hb), pk_rem ha h0 hb]
theorem pw_r5 {w i : Nat} {T : Nat → Int32} {rn : Nat → Nat} (h : pw_R w T rn) (hi : i < 2 ^ 31) : mX5_rainOf (nI w) T (nI i) = some (nI (rn (i % w))) := by
  obtain ⟨h1, h2, h3, h4⟩ := h
  have hl : i % w < w := Nat.mod_lt _ (by omega)
  unfold mX5_rainOf
  rw [if_neg (nI_nle (by omega) (by omega)), if_neg (nI_pos hi), pw_rm hi (by omega) (by omega), pw_bs, pw_rd (by omega) (by omega), pw_bs, h3 _ hl]
theorem pw_r7 {w i : Nat} {T : Nat → Int32} {rn : Nat → Nat} (h : pw_R w T rn) (hi : i < 2 ^ 31) : mX7_rainOf (nI w) T (nI i) = some (nI (rn (i % w))) := by
  obtain ⟨h1, h2, h3, h4⟩ := h
  have hl : i % w < w := Nat.mod_lt _ (by omega)
  unfold mX7_rainOf
  rw [pw_rm hi (by omega) (by omega), pw_bs, pw_rd (by omega) (by omega), pw_bs, h3 _ hl]
theorem pw_R.lt {w i : Nat} {T : Nat → Int32} {rn : Nat → Nat} (h : pw_R w T rn) : rn (i % w) < 4 := h.2.2.2 _ (Nat.mod_lt _ h.1)
/-- the moss behind i weeks from week nx on -/
def pw_i (kd d ln : Nat → Nat) (w : Nat) (rn : Nat → Nat) (nx : Nat) (m : Nat → Nat) : Nat → Nat → Nat
  | 0 => m
  | i + 1 => pw_s kd d ln (pw_i kd d ln w rn nx m i) (rn ((nx + i) % w))
theorem pw_go {n w i : Nat} {K D L M T : Nat → Int32} {kd d ln m rn : Nat → Nat} (h : pw_W n K D L kd d ln) (hM : pw_M n 99 M m) (hR : pw_R w T rn) (hi : i < 2 ^ 30) : ∃ Y, mX1_goOn (nI n) K D L M (nI w) (nI i) T = some (Y, nI (i + 1)) ∧ pw_M n 99 Y (pw_s kd d ln m (rn (i % w))) := by
  obtain ⟨Y, h1, h2⟩ := pw_G0 h hM (hR.lt (i := i))
  refine ⟨Y, ?_, h2⟩
  unfold mX1_goOn mX5_next mX5_goOn
  rw [pw_bs, pw_r5 hR (by omega), pw_bs, h1, pw_bs, pw_bs, nI_1]
/-- force behind c weeks, in the class -/
theorem pw_fB {n w nx c : Nat} {K D L T : Nat → Int32} {kd d ln m rn : Nat → Nat} (h : pw_W n K D L kd d ln) (hR : pw_R w T rn) (hnx : nx < 5000) (hc : c < 200) (kk : Int32 → (Nat → Int32) → Int32 → Option (Int32 × (Nat → Int32) × Int32)) : ∀ (j f i : Nat) (Y : Nat → Int32), c = i + j → j < f → pw_M n 99 Y (pw_i kd d ln w rn nx m i) → ∃ Y', mX1_forceBehind_L1 (nI n) K D L (nI w) T (nI c) kk f (nI i) Y (nI (nx + i)) = kk (nI c) Y' (nI (nx + c)) ∧ pw_M n 99 Y' (pw_i kd d ln w rn nx m c)
  | 0, 0, i, Y, _, h2, _ => absurd h2 (Nat.not_lt_zero 0)
  | j + 1, 0, i, Y, _, h2, _ => absurd h2 (Nat.not_lt_zero _)
  | 0, f + 1, i, Y, h1, h2, hY => by
    have e : i = c := by omega
    subst e
    exact ⟨Y, by rw [mX1_forceBehind_L1, if_pos (nI_le (Nat.le_refl _) (by omega))], hY⟩
  | j + 1, f + 1, i, Y, h1, h2, hY => by
    obtain ⟨Z, g1, g2⟩ := pw_go h hY hR (show nx + i < 2 ^ 30 by omega)
    obtain ⟨Y', e1, e2⟩ := pw_fB h hR hnx hc kk j f (i + 1) Z (by omega) (by omega) g2
    refine ⟨Y', ?_, e2⟩
    rw [mX1_forceBehind_L1, if_neg (nI_ge (by omega) (by omega)), g1, mw_b2, pw_bs, nI_1]
    exact e1
theorem pw_FB {n w nx c : Nat} {K D L M T : Nat → Int32} {kd d ln m rn : Nat → Nat} (h : pw_W n K D L kd d ln) (hM : pw_M n 99 M m) (hR : pw_R w T rn) (hnx : nx < 5000) (hc : c < 200) : ∃ Y x, mX1_forceBehind (nI n) K D L M (nI w) (nI nx) T (nI c) = some (nI (pw_fn kd d ln (pw_i kd d ln w rn nx m c) n), Y, x) := by
  unfold mX1_forceBehind
  obtain ⟨Y, h1, h2⟩ := pw_fB h hR hnx hc _ c 300 0 M (by omega) (by omega) hM
  refine ⟨Y, nI (nx + c), ?_⟩
  refine Eq.trans h1 ?_
  rw [pw_F0 h h2 (by decide), pw_bs]
/-- weeks gone by, in the reference -/
theorem pw_gL {n w nx c : Nat} {K D L T : Nat → Int32} {kd d ln m rn : Nat → Nat} (h : pw_W n K D L kd d ln) (hR : pw_R w T rn) (hnx : nx < 5000) (hc : c < 200) (kk : Int32 → (Nat → Int32) → Option (Nat → Int32)) : ∀ (j f i B : Nat) (Y : Nat → Int32), c = i + j → j < f → B < 900 → pw_M n B Y (pw_i kd d ln w rn nx m i) → ∃ Y', mX7_goOn_L1 (nI n) (nI w) (nI nx) K D L T (nI c) kk f (nI i) Y = kk (nI c) Y' ∧ pw_M n (max B 99) Y' (pw_i kd d ln w rn nx m c)
  | 0, 0, i, B, Y, _, h2, _, _ => absurd h2 (Nat.not_lt_zero 0)
  | j + 1, 0, i, B, Y, _, h2, _, _ => absurd h2 (Nat.not_lt_zero _)
  | 0, f + 1, i, B, Y, h1, h2, hB, hY => by
    have e : i = c := by omega
    subst e
    exact ⟨Y, by rw [mX7_goOn_L1, if_pos (nI_le (Nat.le_refl _) (by omega))], hY.1, fun k hk => by have := hY.2 k hk; omega⟩
  | j + 1, f + 1, i, B, Y, h1, h2, hB, hY => by
    obtain ⟨Z, g1, g2⟩ := pw_G7 h hY hB (hR.lt (i := nx + i))
    obtain ⟨Y', e1, e2⟩ := pw_gL h hR hnx hc kk j f (i + 1) 99 Z (by omega) (by omega) (by decide) g2
    refine ⟨Y', ?_, e2.1, fun k hk => by have := e2.2 k hk; omega⟩
    rw [mX7_goOn_L1, if_neg (nI_ge (by omega) (by omega)), pw_ad, pw_r7 hR (by omega), pw_bs, g1, pw_bs, nI_1]
    exact e1
theorem pw_G {n w nx c B : Nat} {K D L M T : Nat → Int32} {kd d ln m rn : Nat → Nat} (h : pw_W n K D L kd d ln) (hM : pw_M n B M m) (hB : B < 900) (hR : pw_R w T rn) (hnx : nx < 5000) (hc : c < 200) : ∃ Y, mX7_goOn (nI n) (nI w) (nI nx) K D L T M (nI c) = some Y ∧ pw_M n (max B 99) Y (pw_i kd d ln w rn nx m c) := by
  unfold mX7_goOn
  exact pw_gL h hR hnx hc (fun _ y => some y) c 300 0 B M (by omega) (by omega) hB hM
/-- the reference's copy -/
theorem pw_cpL {n : Nat} {F : Nat → Int32} (hn : n < 100) (kk : Int32 → (Nat → Int32) → Option (Nat → Int32)) : ∀ (j f i : Nat) (Y : Nat → Int32), n = i + j → j < f → (∀ k, k < i → Y k = F k) → ∃ Y', mX7_copy_L1 n F n kk f (nI i) Y = kk (nI n) Y' ∧ ∀ k, k < n → Y' k = F k
  | 0, 0, i, Y, _, h2, _ => absurd h2 (Nat.not_lt_zero 0)
  | j + 1, 0, i, Y, _, h2, _ => absurd h2 (Nat.not_lt_zero _)
  | 0, f + 1, i, Y, h1, h2, hY => by
    have e : i = n := by omega
    subst e
    exact ⟨Y, by rw [mX7_copy_L1, if_pos (show Int32.ofNat i ≤ nI i from nI_le (Nat.le_refl _) (by omega))], hY⟩
  | j + 1, f + 1, i, Y, h1, h2, hY => by
    obtain ⟨Y', e1, e2⟩ := pw_cpL (F := F) hn kk j f (i + 1) (upd Y i (F i)) (by omega) (by omega) (fun k hk => by
      by_cases q : k = i
      · subst q; exact pw_up
      · rw [pw_un q]; exact hY k (by omega))
    refine ⟨Y', ?_, e2⟩
    rw [mX7_copy_L1, if_neg (show ¬ Int32.ofNat n ≤ nI i from nI_ge (by omega) (by omega)), pw_rd (by omega) (by omega), pw_bs, pw_wr (by omega) (by omega), pw_bs, nI_1]
    exact e1
theorem pw_cp {n : Nat} (F Y : Nat → Int32) (hn : n < 100) : ∃ Y', mX7_copy n F n Y = some Y' ∧ ∀ k, k < n → Y' k = F k := by
  unfold mX7_copy
  exact pw_cpL hn (fun _ y => some y) n 300 0 Y (by omega) (by omega) (fun k hk => absurd hk (Nat.not_lt_zero k))
theorem pw_M.to {n B : Nat} {M Y : Nat → Int32} {m : Nat → Nat} (h : pw_M n B M m) (hn : n ≤ 6) (e : ∀ k, k < 6 → Y k = M k) : pw_M n B Y m := ⟨fun k hk => by rw [e k (by omega), h.1 k hk], h.2⟩
theorem pw_FO {n w nx c : Nat} {K D L M T Y : Nat → Int32} {kd d ln m rn : Nat → Nat} (h : pw_W n K D L kd d ln) (hM : pw_M n 99 M m) (hR : pw_R w T rn) (hnx : nx < 5000) (hc : c < 200) : ∃ Z, mX7_forceOf (nI n) (nI w) (nI nx) K D L M T Y (nI c) = some (nI (pw_fn kd d ln (pw_i kd d ln w rn nx m c) n), Z) := by
  obtain ⟨Y1, h1, h2⟩ := pw_cp (n := 6) M Y (by decide)
  obtain ⟨Y2, h3, h4⟩ := pw_G h (hM.to h.1 h2) (by decide) hR hnx hc
  refine ⟨Y2, ?_⟩
  unfold mX7_forceOf mX7_begin
  rw [h1, pw_bs, h3, pw_bs, pw_bs, pw_F7 h h4 (by decide), pw_bs]
