/-! THE MIRRORS' VALUES. Numbers of the state are natural numbers here: nI n. -/
def pw_E (n : Nat) (C : Nat → Int32) (c : Nat → Nat) : Prop := ∀ k, k < n → C k = nI (c k)
/-- a lean: 0 for none, j + 1 for clause j -/
def pw_l (x : Nat) : Int32 := match x with
  | 0 => -1
  | j + 1 => nI j
def pw_L (n : Nat) (C : Nat → Int32) (c : Nat → Nat) : Prop := ∀ k, k < n → C k = pw_l (c k)
theorem pw_rd {f : Nat → Int32} {n k : Nat} (h : k < n) (hn : n < 2 ^ 31) : mw_rd f n (nI k) = some (f k) := by
  unfold mw_rd
  rw [if_neg (nI_in h hn), nI_clamp (by omega)]
theorem pw_wr {f : Nat → Int32} {n k : Nat} {x : Int32} (h : k < n) (hn : n < 2 ^ 31) : mw_wr f n (nI k) x = some (upd f k x) := by
  unfold mw_wr
  rw [if_neg (nI_in h hn), nI_clamp (by omega)]
theorem pw_bs {A B : Type} {a : A} {f : A → Option B} : (some a).bind f = f a := rfl
theorem pw_b {A B : Type} {x : Option A} {a : A} {f : A → Option B} (h : x = some a) : x.bind f = f a := by rw [h]; rfl
theorem pw_ad (a b : Nat) : nI a + nI b = nI (a + b) := nI_add a b
theorem pw_one : (1 : Int32) = nI 1 := rfl
theorem pw_up {f : Nat → Int32} {k : Nat} {x : Int32} : upd f k x k = x := pk_us
theorem pw_un {f : Nat → Int32} {k j : Nat} {x : Int32} (h : j ≠ k) : upd f k x j = f j := pk_un h
/-- how much grows -/
def pw_g (kd r : Nat) : Nat := if kd = 1 then r - 1 else if kd = 2 then min r 1 else if kd = 3 then 2 * r else if kd = 4 then min r 1 else r
theorem pw_g6 : ∀ kd, kd < 5 → ∀ r, r < 4 → mX6_growth (nI kd) (nI r) = some (nI (pw_g kd r)) := by decide +kernel
theorem pw_g7 : ∀ kd, kd < 5 → ∀ r, r < 4 → mX7_growsBy (nI kd) (nI r) = some (nI (pw_g kd r)) := by decide +kernel
theorem pw_gle : ∀ kd, kd < 5 → ∀ r, r < 4 → pw_g kd r ≤ 6 := by decide +kernel
theorem pw_has {n k : Nat} (hk : k < n) (hn : n < 2 ^ 31) : mX0_has (nI n) (nI k) = some 1 := by
  unfold mX0_has
  rw [if_neg (nI_pos (by omega)), if_neg (nI_ge hk hn)]
theorem pw_hasN {n : Nat} {x : Int32} (h : x < 0 ∨ nI n ≤ x) : mX0_has (nI n) x = some 0 := by
  unfold mX0_has
  rcases h with h | h
  · rw [if_pos h]
  · rw [if_pos h]; split <;> rfl
theorem pw_10 : ¬ (1 : Int32) = 0 := by decide
/-- closed -/
def pw_c (d m : Nat → Nat) (k : Nat) : Bool := decide (d k ≤ m k)
def pw_z (b : Bool) : Int32 := if b then 1 else 0
theorem pw_zt : pw_z true = 1 := rfl
theorem pw_zf : pw_z false = 0 := rfl
theorem pw_c0 {n : Nat} {D M : Nat → Int32} {d m : Nat → Nat} (hn : n ≤ 6) (hD : pw_E n D d) (hM : pw_E n M m) (hd : ∀ k, k < n → d k < 1000) (hm : ∀ k, k < n → m k < 1000) {k : Nat} (hk : k < n) : mX0_isClosed (nI n) D M (nI k) = some (pw_z (pw_c d m k)) := by
  have h1 := hd k hk
  have h2 := hm k hk
  unfold mX0_isClosed
  rw [pw_has hk (by omega), pw_bs, if_neg pw_10, pw_rd (by omega) (by omega), pw_bs, pw_rd (by omega) (by omega), pw_bs, hM k hk, hD k hk]
  unfold pw_c pw_z
  by_cases h : d k ≤ m k
  · rw [if_neg (nI_nlt h (by omega)), if_pos (by simpa using h)]
  · rw [if_pos (nI_lt (by omega) (by omega)), if_neg (by simpa using h)]
theorem pw_c7 {n : Nat} {D M : Nat → Int32} {d m : Nat → Nat} (hn : n ≤ 6) (hD : pw_E n D d) (hM : pw_E n M m) (hd : ∀ k, k < n → d k < 1000) (hm : ∀ k, k < n → m k < 1000) {k : Nat} (hk : k < n) : mX7_isClosed D 6 M (nI k) = some (pw_z (pw_c d m k)) := by
  have h1 := hd k hk
  have h2 := hm k hk
  unfold mX7_isClosed
  rw [pw_rd (by omega) (by omega), pw_bs, pw_rd (by omega) (by omega), pw_bs, hM k hk, hD k hk]
  unfold pw_c pw_z
  by_cases h : d k ≤ m k
  · rw [if_neg (nI_nlt h (by omega)), if_pos (by simpa using h)]
  · rw [if_pos (nI_lt (by omega) (by omega)), if_neg (by simpa using h)]
/-- bits -/
def pw_bn (p : Nat → Bool) : Nat → Nat
  | 0 => 0
  | k + 1 => pw_bn p k + if p k then 2 ^ k else 0
theorem pw_bn_lt (p : Nat → Bool) : ∀ k, pw_bn p k < 2 ^ k
  | 0 => Nat.one_pos
  | k + 1 => by
    have ih := pw_bn_lt p k
    rw [pw_bn, Nat.pow_succ]
    split <;> omega
theorem pw_or : ∀ k, k < 6 → ∀ b, b < 2 ^ k → nI b ||| (1 <<< (nI k &&& 31)) = nI (b + 2 ^ k) := by decide +kernel
theorem pw_or0 (x : Int32) : x ||| 0 = x := by simp
theorem pw_sh : ∀ j, j < 6 → ∀ b, b < 64 → (nI b >>> (nI j &&& 31)) &&& 1 = nI (b / 2 ^ j % 2) := by decide +kernel
theorem pw_bn_at (p : Nat → Bool) {j : Nat} : ∀ k, j < k → pw_bn p k / 2 ^ j % 2 = if p j then 1 else 0
  | 0, h => absurd h (Nat.not_lt_zero j)
  | k + 1, h => by
    rw [pw_bn]
    by_cases hj : j = k
    · subst hj
      have h1 := pw_bn_lt p j
      have h2 : 0 < 2 ^ j := Nat.two_pow_pos j
      split
      · rw [Nat.add_div_right _ h2, Nat.div_eq_of_lt h1]
      · rw [Nat.add_zero, Nat.div_eq_of_lt h1]
    · have ih := pw_bn_at p (j := j) k (by omega)
      split
      · have e : 2 ^ k = 2 ^ j * 2 ^ (k - j) := by rw [← Nat.pow_add]; congr 1; omega
        have e2 : 2 ^ (k - j) = 2 * 2 ^ (k - j - 1) := by rw [← Nat.pow_succ']; congr 1; omega
        have h2 : 0 < 2 ^ j := Nat.two_pow_pos j
        rw [e, Nat.add_mul_div_left _ _ h2, e2, Nat.add_mul_mod_self_left]
        exact ih
      · rw [Nat.add_zero]; exact ih
theorem pw_bn_cong {p q : Nat → Bool} : ∀ {n : Nat}, (∀ k, k < n → p k = q k) → pw_bn p n = pw_bn q n
  | 0, _ => rfl
  | n + 1, h => by rw [pw_bn, pw_bn, pw_bn_cong (fun k hk => h k (by omega)), h n (by omega)]
theorem pw_p6 {k : Nat} (h : k ≤ 6) : 2 ^ k ≤ 64 := Nat.pow_le_pow_right (by decide) h
theorem pw_cb0L {n : Nat} {D M : Nat → Int32} {d m : Nat → Nat} (hn : n ≤ 6) (hD : pw_E n D d) (hM : pw_E n M m) (hd : ∀ k, k < n → d k < 1000) (hm : ∀ k, k < n → m k < 1000) (kk : Int32 → Int32 → Option Int32) : ∀ (j f k : Nat), n = k + j → j < f → mX0_closedBits_L1 (nI n) D M kk f (nI k) (nI (pw_bn (pw_c d m) k)) = kk (nI n) (nI (pw_bn (pw_c d m) n))
  | 0, 0, k, _, h2 => absurd h2 (Nat.not_lt_zero 0)
  | j + 1, 0, k, _, h2 => absurd h2 (Nat.not_lt_zero _)
  | 0, f + 1, k, h1, h2 => by
    have e : k = n := by omega
    subst e
    rw [mX0_closedBits_L1, if_pos (nI_le (Nat.le_refl _) (by omega))]
  | j + 1, f + 1, k, h1, h2 => by
    have ih := pw_cb0L hn hD hM hd hm kk j f (k + 1) (by omega) (by omega)
    rw [mX0_closedBits_L1, if_neg (nI_ge (by omega) (by omega)), pw_c0 hn hD hM hd hm (by omega), pw_bs, ← ih, nI_1, pw_bn]
    by_cases h : pw_c d m k = true
    · rw [h, pw_zt, if_neg pw_10, if_pos rfl, pw_or k (by omega) _ (pw_bn_lt _ _)]
    · have h' : pw_c d m k = false := by simpa using h
      rw [h', pw_zf, if_pos rfl, if_neg (show ¬ false = true by decide), Nat.add_zero (pw_bn (pw_c d m) k)]
theorem pw_cb0 {n : Nat} {D M : Nat → Int32} {d m : Nat → Nat} (hn : n ≤ 6) (hD : pw_E n D d) (hM : pw_E n M m) (hd : ∀ k, k < n → d k < 1000) (hm : ∀ k, k < n → m k < 1000) : mX0_closedBits (nI n) D M = some (nI (pw_bn (pw_c d m) n)) :=
  pw_cb0L hn hD hM hd hm _ n 300 0 (by omega) (by omega)
theorem pw_cb7L {n : Nat} {D M : Nat → Int32} {d m : Nat → Nat} (hn : n ≤ 6) (hD : pw_E n D d) (hM : pw_E n M m) (hd : ∀ k, k < n → d k < 1000) (hm : ∀ k, k < n → m k < 1000) (kk : Int32 → Int32 → Option Int32) : ∀ (j f k : Nat), n = k + j → j < f → mX7_closedBits_L1 (nI n) D 6 M kk f (nI k) (nI (pw_bn (pw_c d m) k)) = kk (nI n) (nI (pw_bn (pw_c d m) n))
  | 0, 0, k, _, h2 => absurd h2 (Nat.not_lt_zero 0)
  | j + 1, 0, k, _, h2 => absurd h2 (Nat.not_lt_zero _)
  | 0, f + 1, k, h1, h2 => by
    have e : k = n := by omega
    subst e
    rw [mX7_closedBits_L1, if_pos (nI_le (Nat.le_refl _) (by omega))]
  | j + 1, f + 1, k, h1, h2 => by
    have ih := pw_cb7L hn hD hM hd hm kk j f (k + 1) (by omega) (by omega)
    rw [mX7_closedBits_L1, if_neg (nI_ge (by omega) (by omega)), pw_c7 hn hD hM hd hm (by omega), pw_bs, ← ih, nI_1, pw_bn]
    by_cases h : pw_c d m k = true
    · rw [h, pw_zt, if_neg pw_10, if_pos rfl, pw_or k (by omega) _ (pw_bn_lt _ _)]
    · have h' : pw_c d m k = false := by simpa using h
      rw [h', pw_zf, if_pos rfl, if_neg (show ¬ false = true by decide), Nat.add_zero (pw_bn (pw_c d m) k), pw_or0]
theorem pw_cb7 {n : Nat} {D M : Nat → Int32} {d m : Nat → Nat} (hn : n ≤ 6) (hD : pw_E n D d) (hM : pw_E n M m) (hd : ∀ k, k < n → d k < 1000) (hm : ∀ k, k < n → m k < 1000) : mX7_closedBits (nI n) D 6 M = some (nI (pw_bn (pw_c d m) n)) :=
  pw_cb7L hn hD hM hd hm _ n 300 0 (by omega) (by omega)
