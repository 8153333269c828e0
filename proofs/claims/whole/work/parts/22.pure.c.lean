/-- in force, as bits -/
def pw_fc (kd d ln m : Nat → Nat) (b k : Nat) : Bool := decide (d k ≤ m k) && (decide (¬ kd k = 3) && (decide (ln k = 0) || decide (b / 2 ^ (ln k - 1) % 2 = 1)))
def pw_fn (kd d ln m : Nat → Nat) : Nat → Nat
  | 0 => 0
  | k + 1 => pw_fn kd d ln m k + if pw_fc kd d ln m (pw_fn kd d ln m k) k then 2 ^ k else 0
theorem pw_fn_lt (kd d ln m : Nat → Nat) : ∀ k, pw_fn kd d ln m k < 2 ^ k
  | 0 => Nat.one_pos
  | k + 1 => by
    have ih := pw_fn_lt kd d ln m k
    rw [pw_fn, Nat.pow_succ]
    split <;> omega
theorem pw_eq3 {a : Nat} (h : a < 2 ^ 30) : (nI a = 3) ↔ a = 3 := nI_eq (by omega) (by decide)
theorem pw_fb0L {n : Nat} {K D L M : Nat → Int32} {kd d ln m : Nat → Nat} (hn : n ≤ 6) (hK : pw_E n K kd) (hD : pw_E n D d) (hL : pw_L n L ln) (hM : pw_E n M m) (hkd : ∀ k, k < n → kd k < 5) (hd : ∀ k, k < n → d k < 1000) (hln : ∀ k, k < n → ln k ≤ k) (hm : ∀ k, k < n → m k < 1000) (kk : Int32 → Int32 → Option Int32) : ∀ (j f k : Nat), n = k + j → j < f → mX0_forceBits_L1 (nI n) K D L M kk f (nI k) (nI (pw_fn kd d ln m k)) = kk (nI n) (nI (pw_fn kd d ln m n))
  | 0, 0, k, _, h2 => absurd h2 (Nat.not_lt_zero 0)
  | j + 1, 0, k, _, h2 => absurd h2 (Nat.not_lt_zero _)
  | 0, f + 1, k, h1, h2 => by
    have e : k = n := by omega
    subst e
    rw [mX0_forceBits_L1, if_pos (nI_le (Nat.le_refl _) (by omega))]
  | j + 1, f + 1, k, h1, h2 => by
    have ih := pw_fb0L hn hK hD hL hM hkd hd hln hm kk j f (k + 1) (by omega) (by omega)
    have hk : k < n := by omega
    have hlt := pw_fn_lt kd d ln m k
    have hlk := hln k hk
    have hkk := hkd k hk
    have hor := pw_or k (by omega) _ hlt
    have h64 : pw_fn kd d ln m k < 64 := Nat.lt_of_lt_of_le hlt (pw_p6 (by omega))
    rw [pw_fn] at ih
    rw [mX0_forceBits_L1, if_neg (nI_ge (by omega) (by omega)), pw_rd (by omega) (by omega), pw_bs, hL k hk, nI_1, hor, pw_c0 hn hD hM hd hm hk]
    rw [← ih]
    unfold pw_fc pw_c pw_z
    by_cases q0 : d k ≤ m k
    · by_cases q3 : kd k = 3
      · by_cases q : ln k = 0
        · simp [q, q0, q3, pw_l, pw_bs, pw_rd (show k < 6 by omega) (show 6 < 2 ^ 31 by decide), hK k hk, pw_eq3 (show 3 < 2 ^ 30 by decide)]
        · obtain ⟨i, hi⟩ : ∃ i, ln k = i + 1 := ⟨ln k - 1, by omega⟩
          have hs := pw_sh i (by omega) _ h64
          have hne := pw_l_ne (show i < 2 ^ 30 by omega)
          simp [hi, q0, q3, pw_l, hne, hs, pw_bs, pw_rd (show k < 6 by omega) (show 6 < 2 ^ 31 by decide), hK k hk, pw_eq3 (show 3 < 2 ^ 30 by decide)]
      · have q3' : ¬ nI (kd k) = 3 := fun z => q3 ((pw_eq3 (by omega)).mp z)
        by_cases q : ln k = 0
        · simp [q, q0, q3, q3', pw_l, pw_bs, pw_rd (show k < 6 by omega) (show 6 < 2 ^ 31 by decide), hK k hk]
        · obtain ⟨i, hi⟩ : ∃ i, ln k = i + 1 := ⟨ln k - 1, by omega⟩
          have hs := pw_sh i (by omega) _ h64
          have hne := pw_l_ne (show i < 2 ^ 30 by omega)
          have h01 : pw_fn kd d ln m k / 2 ^ i % 2 = 0 ∨ pw_fn kd d ln m k / 2 ^ i % 2 = 1 := by omega
          rcases h01 with h01 | h01
          · simp [hi, q0, q3, q3', pw_l, hne, hs, h01, show ¬ nI 0 = 1 by decide]
          · simp [hi, q0, q3, q3', pw_l, hne, hs, h01, show nI 1 = 1 from rfl, pw_bs, pw_rd (show k < 6 by omega) (show 6 < 2 ^ 31 by decide), hK k hk]
    · by_cases q : ln k = 0
      · simp [q, q0, pw_l, pw_bs]
      · obtain ⟨i, hi⟩ : ∃ i, ln k = i + 1 := ⟨ln k - 1, by omega⟩
        have hs := pw_sh i (by omega) _ h64
        have hne := pw_l_ne (show i < 2 ^ 30 by omega)
        simp [hi, q0, pw_l, hne, hs, pw_bs]
theorem pw_fb0 {n : Nat} {K D L M : Nat → Int32} {kd d ln m : Nat → Nat} (hn : n ≤ 6) (hK : pw_E n K kd) (hD : pw_E n D d) (hL : pw_L n L ln) (hM : pw_E n M m) (hkd : ∀ k, k < n → kd k < 5) (hd : ∀ k, k < n → d k < 1000) (hln : ∀ k, k < n → ln k ≤ k) (hm : ∀ k, k < n → m k < 1000) : mX0_forceBits (nI n) K D L M = some (nI (pw_fn kd d ln m n)) :=
  pw_fb0L hn hK hD hL hM hkd hd hln hm _ n 300 0 (by omega) (by omega)
theorem pw_fb7L {n : Nat} {K D L M : Nat → Int32} {kd d ln m : Nat → Nat} (hn : n ≤ 6) (hK : pw_E n K kd) (hD : pw_E n D d) (hL : pw_L n L ln) (hM : pw_E n M m) (hkd : ∀ k, k < n → kd k < 5) (hd : ∀ k, k < n → d k < 1000) (hln : ∀ k, k < n → ln k ≤ k) (hm : ∀ k, k < n → m k < 1000) (kk : Int32 → Int32 → Option Int32) : ∀ (j f k : Nat), n = k + j → j < f → mX7_forceBits_L1 (nI n) K D L 6 M kk f (nI k) (nI (pw_fn kd d ln m k)) = kk (nI n) (nI (pw_fn kd d ln m n))
  | 0, 0, k, _, h2 => absurd h2 (Nat.not_lt_zero 0)
  | j + 1, 0, k, _, h2 => absurd h2 (Nat.not_lt_zero _)
  | 0, f + 1, k, h1, h2 => by
    have e : k = n := by omega
    subst e
    rw [mX7_forceBits_L1, if_pos (nI_le (Nat.le_refl _) (by omega))]
  | j + 1, f + 1, k, h1, h2 => by
    have ih := pw_fb7L hn hK hD hL hM hkd hd hln hm kk j f (k + 1) (by omega) (by omega)
    have hk : k < n := by omega
    have hlt := pw_fn_lt kd d ln m k
    have hlk := hln k hk
    have hkk := hkd k hk
    have hor := pw_or k (by omega) _ hlt
    have h64 : pw_fn kd d ln m k < 64 := Nat.lt_of_lt_of_le hlt (pw_p6 (by omega))
    have rdL : mw_rd L 6 (nI k) = some (pw_l (ln k)) := by rw [pw_rd (by omega) (by omega), hL k hk]
    have rdK : mw_rd K 6 (nI k) = some (nI (kd k)) := by rw [pw_rd (by omega) (by omega), hK k hk]
    rw [pw_fn] at ih
    rw [mX7_forceBits_L1, if_neg (nI_ge (by omega) (by omega)), nI_1, hor, pw_c7 hn hD hM hd hm hk, rdL, rdK, pw_or0]
    rw [← ih]
    unfold pw_fc pw_c pw_z
    by_cases q0 : d k ≤ m k
    · by_cases q3 : kd k = 3
      · simp [q0, q3, pw_bs, pw_eq3 (show 3 < 2 ^ 30 by decide)]
      · have q3' : ¬ nI (kd k) = 3 := fun z => q3 ((pw_eq3 (by omega)).mp z)
        by_cases q : ln k = 0
        · simp [q, q0, q3, q3', pw_l, pw_bs]
        · obtain ⟨i, hi⟩ : ∃ i, ln k = i + 1 := ⟨ln k - 1, by omega⟩
          have hs := pw_sh i (by omega) _ h64
          have hne := pw_l_ne (show i < 2 ^ 30 by omega)
          have h01 : pw_fn kd d ln m k / 2 ^ i % 2 = 0 ∨ pw_fn kd d ln m k / 2 ^ i % 2 = 1 := by omega
          rcases h01 with h01 | h01
          · simp [hi, q0, q3, q3', pw_l, hne, hs, h01, show ¬ nI 0 = 1 by decide, pw_bs]
          · simp [hi, q0, q3, q3', pw_l, hne, hs, h01, show nI 1 = 1 from rfl, pw_bs]
    · simp [q0, pw_bs]
theorem pw_fb7 {n : Nat} {K D L M : Nat → Int32} {kd d ln m : Nat → Nat} (hn : n ≤ 6) (hK : pw_E n K kd) (hD : pw_E n D d) (hL : pw_L n L ln) (hM : pw_E n M m) (hkd : ∀ k, k < n → kd k < 5) (hd : ∀ k, k < n → d k < 1000) (hln : ∀ k, k < n → ln k ≤ k) (hm : ∀ k, k < n → m k < 1000) : mX7_forceBits (nI n) K D L 6 M = some (nI (pw_fn kd d ln m n)) :=
  pw_fb7L hn hK hD hL hM hkd hd hln hm _ n 300 0 (by omega) (by omega)
