theorem pw_mn99 (a : Nat) (h : a < 2 ^ 30) : mw_mx (mw_mn (nI a) 99) 0 = nI (min a 99) := by
  have e : (99 : Int32) = nI 99 := rfl
  have e0 : (0 : Int32) = nI 0 := rfl
  unfold mw_mx mw_mn
  rw [e, e0]
  by_cases q : 99 < a
  · rw [if_pos (nI_lt q (by omega)), if_neg (nI_nlt (by omega) (by omega))]
    congr 1; omega
  · rw [if_neg (nI_nlt (by omega) (by omega)), if_neg (nI_nlt (by omega) (by omega))]
    congr 1; omega
theorem pw_am {n k g y : Nat} {Y : Nat → Int32} (hn : n ≤ 6) (hk : k < n) (hY : Y k = nI y) (hg : y + g < 2 ^ 30) : mX0_addMoss (nI n) Y (nI k) (nI g) = some (upd Y k (nI (min (y + g) 99))) := by
  unfold mX0_addMoss
  rw [pw_has hk (by omega), pw_bs, if_neg pw_10, pw_rd (by omega) (by omega), pw_bs, hY, pw_wr (by omega) (by omega), pw_bs, pw_ad, pw_mn99 _ hg]
/-- a week's growth -/
def pw_s (kd d ln m : Nat → Nat) (r : Nat) : Nat → Nat := fun k => min 99 (m k + if ln k = 0 ∨ d (ln k - 1) ≤ m (ln k - 1) then pw_g (kd k) r else 0)
theorem pw_s_le (kd d ln m : Nat → Nat) (r k : Nat) : pw_s kd d ln m r k ≤ 99 := by unfold pw_s; omega
theorem pw_l_ne {j : Nat} (h : j < 2 ^ 30) : ¬ nI j = -1 := by
  intro q
  have q2 := congrArg Int32.toInt q
  rw [nI_toInt (by omega)] at q2
  have : ((-1 : Int32)).toInt = -1 := by decide
  omega
theorem pw_l_dec : ∀ j, pw_l (j + 1) + (-1) = pw_l j
  | 0 => by decide
  | j + 1 => pk_m1 j
theorem pw_l_neg : pw_l 0 < 0 := by decide
theorem pw_l_sub {n : Nat} : nI n - 1 = pw_l n := by
  cases n with
  | zero => decide
  | succ n => exact nI_pred n
theorem pw_gr0L {n r : Nat} {K D L : Nat → Int32} {kd d ln m : Nat → Nat} (hn : n ≤ 6) (hK : pw_E n K kd) (hD : pw_E n D d) (hL : pw_L n L ln) (hkd : ∀ k, k < n → kd k < 5) (hd : ∀ k, k < n → d k < 1000) (hln : ∀ k, k < n → ln k ≤ k) (hm : ∀ k, k < n → m k ≤ 99) (hr : r < 4) (kk : Int32 → (Nat → Int32) → Option (Nat → Int32)) : ∀ (j f : Nat) (Y : Nat → Int32), j ≤ n → j < f → pw_E n Y (fun k => if k < j then m k else pw_s kd d ln m r k) → ∃ Y', mX0_grow_L1 (nI n) K D L (nI r) kk f (pw_l j) Y = kk (-1) Y' ∧ pw_E n Y' (pw_s kd d ln m r)
  | 0, 0, Y, _, h2, _ => absurd h2 (Nat.not_lt_zero 0)
  | j + 1, 0, Y, _, h2, _ => absurd h2 (Nat.not_lt_zero _)
  | 0, f + 1, Y, h1, h2, hY => by
    refine ⟨Y, ?_, fun k hk => (hY k hk).trans (by dsimp only; rw [if_neg (Nat.not_lt_zero k)])⟩
    rw [mX0_grow_L1, if_pos pw_l_neg]
    rfl
  | j + 1, f + 1, Y, h1, h2, hY => by
    have hj : j < n := by omega
    have hYj : Y j = nI (m j) := (hY j hj).trans (by dsimp only; rw [if_pos (by omega)])
    have hmj := hm j hj
    have hgl := pw_gle (kd j) (hkd j hj) r hr
    have hlj := hln j hj
    -- both ways on, with the moss as it then is
    have go : ∀ Y2 : Nat → Int32, (∀ k, k ≠ j → Y2 k = Y k) → Y2 j = nI (pw_s kd d ln m r j) → ∃ Y', mX0_grow_L1 (nI n) K D L (nI r) kk f (pw_l (j + 1) + (-1)) Y2 = kk (-1) Y' ∧ pw_E n Y' (pw_s kd d ln m r) := by
      intro Y2 ho hj2
      rw [pw_l_dec]
      refine pw_gr0L hn hK hD hL hkd hd hln hm hr kk j f Y2 (by omega) (by omega) (fun k hk => ?_)
      by_cases q : k = j
      · subst q
        rw [hj2]; dsimp only; rw [if_neg (Nat.lt_irrefl k)]
      · rw [ho k q, hY k hk]
        dsimp only
        by_cases q2 : k < j
        · rw [if_pos q2, if_pos (by omega)]
        · rw [if_neg q2, if_neg (by omega)]
    rw [mX0_grow_L1, if_neg (show ¬ pw_l (j + 1) < 0 from nI_pos (by omega))]
    show ∃ Y', (mw_rd L 6 (nI j)).bind _ = _ ∧ _
    rw [pw_rd (by omega) (by omega), pw_bs, hL j hj]
    by_cases q : ln j = 0
    · rw [q]
      rw [if_pos (show pw_l 0 = -1 from rfl), show pw_l (j + 1) = nI j from rfl, pw_rd (by omega) (by omega), pw_bs, hK j hj, pw_g6 _ (hkd j hj) _ hr, pw_bs, pw_am hn hj hYj (by omega), pw_bs]
      refine go _ (fun k hk => pw_un hk) ?_
      rw [pw_up]
      unfold pw_s
      rw [if_pos (Or.inl q)]
      congr 1; omega
    · obtain ⟨i, hi⟩ : ∃ i, ln j = i + 1 := ⟨ln j - 1, by omega⟩
      have hE : pw_E n Y (fun k => if k < j + 1 then m k else pw_s kd d ln m r k) := hY
      rw [hi]
      rw [if_neg (show ¬ pw_l (i + 1) = -1 from pw_l_ne (by omega)), show pw_l (i + 1) = nI i from rfl, pw_c0 hn hD hE hd (fun k hk => by
        have h3 := hm k hk
        have h4 := pw_s_le kd d ln m r k
        split <;> omega) (by omega), pw_bs]
      rw [show pw_c d (fun k => if k < j + 1 then m k else pw_s kd d ln m r k) i = pw_c d m i by unfold pw_c; simp [show i < j + 1 by omega]]
      unfold pw_c
      by_cases q2 : d i ≤ m i
      · rw [show decide (d i ≤ m i) = true from decide_eq_true q2, pw_zt, if_neg pw_10, show pw_l (j + 1) = nI j from rfl, pw_rd (by omega) (by omega), pw_bs, hK j hj, pw_g6 _ (hkd j hj) _ hr, pw_bs, pw_am hn hj hYj (by omega), pw_bs]
        refine go _ (fun k hk => pw_un hk) ?_
        rw [pw_up]
        unfold pw_s
        rw [if_pos (Or.inr (by rw [hi]; exact q2))]
        congr 1; omega
      · rw [show decide (d i ≤ m i) = false from decide_eq_false q2, pw_zf, if_pos rfl]
        refine go _ (fun k hk => rfl) ?_
        rw [hYj]
        unfold pw_s
        rw [if_neg (by rw [hi]; intro z; rcases z with z | z; exact absurd z (by omega); exact q2 z)]
        congr 1; omega
theorem pw_gr0 {n r : Nat} {K D L M : Nat → Int32} {kd d ln m : Nat → Nat} (hn : n ≤ 6) (hK : pw_E n K kd) (hD : pw_E n D d) (hL : pw_L n L ln) (hM : pw_E n M m) (hkd : ∀ k, k < n → kd k < 5) (hd : ∀ k, k < n → d k < 1000) (hln : ∀ k, k < n → ln k ≤ k) (hm : ∀ k, k < n → m k ≤ 99) (hr : r < 4) : ∃ Y, mX0_grow (nI n) K D L M (nI r) = some Y ∧ pw_E n Y (pw_s kd d ln m r) := by
  unfold mX0_grow
  rw [pw_l_sub]
  obtain ⟨Y, h1, h2⟩ := pw_gr0L hn hK hD hL hkd hd hln hm hr (fun _ y => some y) n 300 M (Nat.le_refl n) (by omega) (fun k hk => by rw [hM k hk]; dsimp only; rw [if_pos hk])
  exact ⟨Y, h1, h2⟩
theorem pw_le99 {a : Nat} (h : a < 2 ^ 30) : (nI a ≤ 99) ↔ a ≤ 99 := nI_leI (by omega) (by decide)
theorem pw_gr7L {n r : Nat} {K L : Nat → Int32} {kd d ln m : Nat → Nat} (hn : n ≤ 6) (hK : pw_E n K kd) (hL : pw_L n L ln) (hkd : ∀ k, k < n → kd k < 5) (hln : ∀ k, k < n → ln k ≤ k) (hm : ∀ k, k < n → m k < 900) (hr : r < 4) (kk : Int32 → (Nat → Int32) → Option (Nat → Int32)) : ∀ (j f k : Nat) (Y : Nat → Int32), n = k + j → j < f → pw_E n Y (fun i => if i < k then pw_s kd d ln m r i else m i) → ∃ Y', mX7_grow_L1 (nI n) K L 6 (nI r) (nI (pw_bn (pw_c d m) n)) kk f (nI k) Y = kk (nI n) Y' ∧ pw_E n Y' (pw_s kd d ln m r)
  | 0, 0, k, Y, _, h2, _ => absurd h2 (Nat.not_lt_zero 0)
  | j + 1, 0, k, Y, _, h2, _ => absurd h2 (Nat.not_lt_zero _)
  | 0, f + 1, k, Y, h1, h2, hY => by
    have e : k = n := by omega
    subst e
    refine ⟨Y, ?_, fun i hi => (hY i hi).trans (by dsimp only; rw [if_pos hi])⟩
    rw [mX7_grow_L1, if_pos (nI_le (Nat.le_refl _) (by omega))]
  | j + 1, f + 1, k, Y, h1, h2, hY => by
    have hk : k < n := by omega
    have hYk : Y k = nI (m k) := (hY k hk).trans (by dsimp only; rw [if_neg (Nat.lt_irrefl k)])
    have hmk := hm k hk
    have hgl := pw_gle (kd k) (hkd k hk) r hr
    have hlk := hln k hk
    have go : ∀ v : Nat, v = pw_s kd d ln m r k → ∃ Y', mX7_grow_L1 (nI n) K L 6 (nI r) (nI (pw_bn (pw_c d m) n)) kk f (nI k + 1) (upd Y k (nI v)) = kk (nI n) Y' ∧ pw_E n Y' (pw_s kd d ln m r) := by
      intro v hv
      rw [nI_1]
      refine pw_gr7L hn hK hL hkd hln hm hr kk j f (k + 1) _ (by omega) (by omega) (fun i hi => ?_)
      by_cases q : i = k
      · subst q
        rw [pw_up, hv]; dsimp only; rw [if_pos (by omega)]
      · rw [pw_un q, hY i hi]
        dsimp only
        by_cases q2 : i < k
        · rw [if_pos q2, if_pos (by omega)]
        · rw [if_neg q2, if_neg (by omega)]
    -- a sum, cut off at 99
    have cut : ∀ a : Nat, a < 1000 → min 99 a = pw_s kd d ln m r k → ∃ Y', (if nI a ≤ 99 then (mw_wr Y 6 (nI k) (nI a)).bind fun z => mX7_grow_L1 (nI n) K L 6 (nI r) (nI (pw_bn (pw_c d m) n)) kk f (nI k + 1) z else (mw_wr Y 6 (nI k) 99).bind fun z => mX7_grow_L1 (nI n) K L 6 (nI r) (nI (pw_bn (pw_c d m) n)) kk f (nI k + 1) z) = kk (nI n) Y' ∧ pw_E n Y' (pw_s kd d ln m r) := by
      intro a ha hs
      by_cases q : a ≤ 99
      · rw [if_pos ((pw_le99 (by omega)).mpr q), pw_wr (by omega) (by omega), pw_bs]
        exact go a (by omega)
      · rw [if_neg (fun z => q ((pw_le99 (by omega)).mp z)), pw_wr (by omega) (by omega), pw_bs]
        exact go 99 (by omega)
    rw [mX7_grow_L1, if_neg (nI_ge (by omega) (by omega)), pw_rd (by omega) (by omega), pw_bs, hL k hk]
    by_cases q : ln k = 0
    · rw [q, if_pos (show pw_l 0 = -1 from rfl), pw_rd (by omega) (by omega), pw_bs, pw_rd (by omega) (by omega), pw_bs, hK k hk, hYk, pw_g7 _ (hkd k hk) _ hr, pw_bs, pw_ad]
      refine cut _ (by omega) ?_
      unfold pw_s
      rw [if_pos (Or.inl q)]
    · obtain ⟨i, hi⟩ : ∃ i, ln k = i + 1 := ⟨ln k - 1, by omega⟩
      rw [hi, if_neg (show ¬ pw_l (i + 1) = -1 from pw_l_ne (by omega)), pw_bs, show pw_l (i + 1) = nI i from rfl]
      have hb : pw_bn (pw_c d m) n < 64 := Nat.lt_of_lt_of_le (pw_bn_lt _ _) (pw_p6 hn)
      rw [pw_sh i (by omega) _ hb, pw_bn_at _ n (by omega)]
      unfold pw_c
      by_cases q2 : d i ≤ m i
      · rw [if_pos (show decide (d i ≤ m i) = true from decide_eq_true q2), if_pos (show nI 1 = 1 from rfl), pw_rd (by omega) (by omega), pw_bs, pw_rd (by omega) (by omega), pw_bs, hK k hk, hYk, pw_g7 _ (hkd k hk) _ hr, pw_bs, pw_ad]
        refine cut _ (by omega) ?_
        unfold pw_s
        rw [if_pos (Or.inr (by rw [hi]; exact q2))]
      · rw [if_neg (show ¬ decide (d i ≤ m i) = true by simpa using q2), if_neg (show ¬ nI 0 = 1 by decide), pw_rd (by omega) (by omega), pw_bs, hYk, show nI (m k) + 0 = nI (m k) from nI_add (m k) 0]
        refine cut _ (by omega) ?_
        unfold pw_s
        rw [if_neg (by rw [hi]; intro z; rcases z with z | z; exact absurd z (by omega); exact q2 z), Nat.add_zero]
theorem pw_gr7 {n r : Nat} {K D L M : Nat → Int32} {kd d ln m : Nat → Nat} (hn : n ≤ 6) (hK : pw_E n K kd) (hD : pw_E n D d) (hL : pw_L n L ln) (hM : pw_E n M m) (hkd : ∀ k, k < n → kd k < 5) (hd : ∀ k, k < n → d k < 1000) (hln : ∀ k, k < n → ln k ≤ k) (hm : ∀ k, k < n → m k < 900) (hr : r < 4) : ∃ Y, mX7_grow (nI n) K D L 6 M (nI r) = some Y ∧ pw_E n Y (pw_s kd d ln m r) := by
  unfold mX7_grow
  rw [pw_cb7 hn hD hM hd (fun k hk => by have := hm k hk; omega), pw_bs]
  obtain ⟨Y, h1, h2⟩ := pw_gr7L (d := d) hn hK hL hkd hln hm hr (fun _ y => some y) n 300 0 M (by omega) (by omega) (fun k hk => by rw [hM k hk]; dsimp only; rw [if_neg (Nat.not_lt_zero k)])
  exact ⟨Y, h1, h2⟩
