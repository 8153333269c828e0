theorem pw_dig (a b c e : Nat) : (((1000 * nI a) + (100 * nI b)) + (10 * nI c)) + nI e = nI (1000 * a + 100 * b + 10 * c + e) := by
  rw [show (1000 : Int32) = nI 1000 from rfl, show (100 : Int32) = nI 100 from rfl, show (10 : Int32) = nI 10 from rfl, pk_mul, pk_mul, pk_mul, pw_ad, pw_ad, pw_ad]
/-- how a search ends: with what is found, or it goes on -/
def pw_fd (r : Option Nat) (Y : Nat → Int32) (kk : (Nat → Int32) → Option (Int32 × (Nat → Int32))) : Option (Int32 × (Nat → Int32)) := match r with
  | some x => some (nI x, Y)
  | none => kk Y
theorem pw_rg {e n : Nat} (h : e ≤ n) : List.range' e (n + 1 - e) = e :: List.range' (e + 1) (n - e) := by
  rw [show n + 1 - e = (n - e) + 1 by omega, List.range'_succ]
theorem pw_rz {e n : Nat} (h : n < e) : List.range' e (n + 1 - e) = [] := by
  rw [show n + 1 - e = 0 by omega]; rfl
theorem pw_b4L {n w nx u c a b e : Nat} {K D L M T : Nat → Int32} {kd d ln m rn : Nat → Nat} (h : pw_W n K D L kd d ln) (hM : pw_M n 99 M m) (hR : pw_R w T rn) (hnx : nx < 5000) (hc : c < 200) (hu : u < 64) (hab : a ≤ b) (hbe : b ≤ e) (kk : Int32 → (Nat → Int32) → Option (Int32 × (Nat → Int32))) : ∀ (j f i : Nat) (Y : Nat → Int32), n + 1 = i + j → j < f → e ≤ i → ∃ Y', mX1_fewestBreaths_L4 M (nI n) K D L (nI w) (nI nx) T (nI u) (nI c) (nI n) (nI a) (nI b) (nI e) kk f (nI i) Y = pw_fd ((pw_r4 n (1000 * a + 100 * b + 10 * e) i).find? (pw_ok n kd d ln w rn nx m u c)) Y' (kk (nI (n + 1)))
  | 0, 0, i, Y, _, h2, _ => absurd h2 (Nat.not_lt_zero 0)
  | j + 1, 0, i, Y, _, h2, _ => absurd h2 (Nat.not_lt_zero _)
  | 0, f + 1, i, Y, h1, h2, h3 => by
    have hn := h.1
    have e1 : i = n + 1 := by omega
    subst e1
    refine ⟨Y, ?_⟩
    rw [mX1_fewestBreaths_L4, if_pos (nI_lt (by omega) (by omega)), pw_r4, pw_rz (by omega)]
    rfl
  | j + 1, f + 1, i, Y, h1, h2, h3 => by
    have hn := h.1
    have hi : i ≤ n := by omega
    obtain ⟨Z, g1⟩ := pw_CT (U := Y) (x := 1000 * a + 100 * b + 10 * e + i) h hM hR hnx hc hu (by omega) (pw_rt n (by omega) a (by omega) b (by omega) e (by omega) i (by omega) hab hbe h3 hi)
    obtain ⟨Y', f1⟩ := pw_b4L h hM hR hnx hc hu hab hbe kk j f (i + 1) Z (by omega) (by omega) (by omega)
    rw [mX1_fewestBreaths_L4, if_neg (nI_nlt hi (by omega)), pw_dig, g1, pw_n2, nI_1, pw_r4, pw_rg hi, List.map_cons, List.find?_cons]
    by_cases q : pw_ok n kd d ln w rn nx m u c (1000 * a + 100 * b + 10 * e + i) = true
    · refine ⟨Z, ?_⟩
      rw [q, pw_zt, if_neg pw_10]
      rfl
    · have q' : pw_ok n kd d ln w rn nx m u c (1000 * a + 100 * b + 10 * e + i) = false := by simpa using q
      refine ⟨Y', ?_⟩
      rw [q', pw_zf, if_pos rfl]
      rw [pw_r4, show n + 1 - (i + 1) = n - i by omega] at f1
      exact f1
theorem pw_fd_app {r s : Option Nat} {Y : Nat → Int32} {kk k2 : (Nat → Int32) → Option (Int32 × (Nat → Int32))} (g : ∃ Y', kk Y = pw_fd s Y' k2) : ∃ Y', pw_fd r Y kk = pw_fd (r.or s) Y' k2 := by
  cases r with
  | some x => exact ⟨Y, rfl⟩
  | none => obtain ⟨Y', e⟩ := g; exact ⟨Y', e⟩
theorem pw_b3L {n w nx u c a b : Nat} {K D L M T : Nat → Int32} {kd d ln m rn : Nat → Nat} (h : pw_W n K D L kd d ln) (hM : pw_M n 99 M m) (hR : pw_R w T rn) (hnx : nx < 5000) (hc : c < 200) (hu : u < 64) (hab : a ≤ b) (kk : Int32 → (Nat → Int32) → Option (Int32 × (Nat → Int32))) : ∀ (j f i : Nat) (Y : Nat → Int32), n + 1 = i + j → j < f → b ≤ i → ∃ Y', mX1_fewestBreaths_L3 M (nI n) K D L (nI w) (nI nx) T (nI u) (nI c) (nI n) (nI a) (nI b) kk f (nI i) Y = pw_fd ((pw_r3 n (1000 * a + 100 * b) i).find? (pw_ok n kd d ln w rn nx m u c)) Y' (kk (nI (n + 1)))
  | 0, 0, i, Y, _, h2, _ => absurd h2 (Nat.not_lt_zero 0)
  | j + 1, 0, i, Y, _, h2, _ => absurd h2 (Nat.not_lt_zero _)
  | 0, f + 1, i, Y, h1, h2, h3 => by
    have hn := h.1
    have e1 : i = n + 1 := by omega
    subst e1
    refine ⟨Y, ?_⟩
    rw [mX1_fewestBreaths_L3, if_pos (nI_lt (by omega) (by omega)), pw_r3, pw_rz (by omega)]
    rfl
  | j + 1, f + 1, i, Y, h1, h2, h3 => by
    have hn := h.1
    have hi : i ≤ n := by omega
    obtain ⟨Z, g1⟩ := pw_b4L (e := i) h hM hR hnx hc hu hab h3 (fun _ y => mX1_fewestBreaths_L3 M (nI n) K D L (nI w) (nI nx) T (nI u) (nI c) (nI n) (nI a) (nI b) kk f (nI i + 1) y) (n + 1 - i) 300 i Y (by omega) (by omega) (Nat.le_refl i)
    rw [mX1_fewestBreaths_L3, if_neg (nI_nlt hi (by omega)), pw_r3, pw_rg hi, List.flatMap_cons, List.find?_append]
    rw [g1]
    refine pw_fd_app ?_
    obtain ⟨Y', f1⟩ := pw_b3L h hM hR hnx hc hu hab kk j f (i + 1) Z (by omega) (by omega) (by omega)
    refine ⟨Y', ?_⟩
    rw [pw_r3, show n + 1 - (i + 1) = n - i by omega] at f1
    rw [nI_1]
    exact f1
theorem pw_b2L {n w nx u c a : Nat} {K D L M T : Nat → Int32} {kd d ln m rn : Nat → Nat} (h : pw_W n K D L kd d ln) (hM : pw_M n 99 M m) (hR : pw_R w T rn) (hnx : nx < 5000) (hc : c < 200) (hu : u < 64) (kk : Int32 → (Nat → Int32) → Option (Int32 × (Nat → Int32))) : ∀ (j f i : Nat) (Y : Nat → Int32), n + 1 = i + j → j < f → a ≤ i → ∃ Y', mX1_fewestBreaths_L2 M (nI n) K D L (nI w) (nI nx) T (nI u) (nI c) (nI n) (nI a) kk f (nI i) Y = pw_fd ((pw_r2 n (1000 * a) i).find? (pw_ok n kd d ln w rn nx m u c)) Y' (kk (nI (n + 1)))
  | 0, 0, i, Y, _, h2, _ => absurd h2 (Nat.not_lt_zero 0)
  | j + 1, 0, i, Y, _, h2, _ => absurd h2 (Nat.not_lt_zero _)
  | 0, f + 1, i, Y, h1, h2, h3 => by
    have hn := h.1
    have e1 : i = n + 1 := by omega
    subst e1
    refine ⟨Y, ?_⟩
    rw [mX1_fewestBreaths_L2, if_pos (nI_lt (by omega) (by omega)), pw_r2, pw_rz (by omega)]
    rfl
  | j + 1, f + 1, i, Y, h1, h2, h3 => by
    have hn := h.1
    have hi : i ≤ n := by omega
    obtain ⟨Z, g1⟩ := pw_b3L (b := i) h hM hR hnx hc hu h3 (fun _ y => mX1_fewestBreaths_L2 M (nI n) K D L (nI w) (nI nx) T (nI u) (nI c) (nI n) (nI a) kk f (nI i + 1) y) (n + 1 - i) 300 i Y (by omega) (by omega) (Nat.le_refl i)
    rw [mX1_fewestBreaths_L2, if_neg (nI_nlt hi (by omega)), pw_r2, pw_rg hi, List.flatMap_cons, List.find?_append]
    rw [g1]
    refine pw_fd_app ?_
    obtain ⟨Y', f1⟩ := pw_b2L (a := a) h hM hR hnx hc hu kk j f (i + 1) Z (by omega) (by omega) (by omega)
    refine ⟨Y', ?_⟩
    rw [pw_r2, show n + 1 - (i + 1) = n - i by omega] at f1
    rw [nI_1]
    exact f1
theorem pw_b1L {n w nx u c : Nat} {K D L M T : Nat → Int32} {kd d ln m rn : Nat → Nat} (h : pw_W n K D L kd d ln) (hM : pw_M n 99 M m) (hR : pw_R w T rn) (hnx : nx < 5000) (hc : c < 200) (hu : u < 64) (kk : Int32 → (Nat → Int32) → Option (Int32 × (Nat → Int32))) : ∀ (j f i : Nat) (Y : Nat → Int32), n + 1 = i + j → j < f → ∃ Y', mX1_fewestBreaths_L1 M (nI n) K D L (nI w) (nI nx) T (nI u) (nI c) (nI n) kk f (nI i) Y = pw_fd (((List.range' i (n + 1 - i)).flatMap (fun x => pw_r2 n (1000 * x) x)).find? (pw_ok n kd d ln w rn nx m u c)) Y' (kk (nI (n + 1)))
  | 0, 0, i, Y, _, h2 => absurd h2 (Nat.not_lt_zero 0)
  | j + 1, 0, i, Y, _, h2 => absurd h2 (Nat.not_lt_zero _)
  | 0, f + 1, i, Y, h1, h2 => by
    have hn := h.1
    have e1 : i = n + 1 := by omega
    subst e1
    refine ⟨Y, ?_⟩
    rw [mX1_fewestBreaths_L1, if_pos (nI_lt (by omega) (by omega)), pw_rz (by omega)]
    rfl
  | j + 1, f + 1, i, Y, h1, h2 => by
    have hn := h.1
    have hi : i ≤ n := by omega
    obtain ⟨Z, g1⟩ := pw_b2L (a := i) h hM hR hnx hc hu (fun _ y => mX1_fewestBreaths_L1 M (nI n) K D L (nI w) (nI nx) T (nI u) (nI c) (nI n) kk f (nI i + 1) y) (n + 1 - i) 300 i Y (by omega) (by omega) (Nat.le_refl i)
    rw [mX1_fewestBreaths_L1, if_neg (nI_nlt hi (by omega)), pw_rg hi, List.flatMap_cons, List.find?_append]
    rw [g1]
    refine pw_fd_app ?_
    obtain ⟨Y', f1⟩ := pw_b1L h hM hR hnx hc hu kk j f (i + 1) Z (by omega) (by omega)
    refine ⟨Y', ?_⟩
    rw [show n + 1 - (i + 1) = n - i by omega] at f1
    rw [nI_1]
    exact f1
/-- what is looked for -/
def pw_nd (n : Nat) (kd d ln : Nat → Nat) (w : Nat) (rn : Nat → Nat) (nx : Nat) (m : Nat → Nat) (u c : Nat) : Option Nat := (pw_r1 n).find? (pw_ok n kd d ln w rn nx m u c)
def pw_ndI (r : Option Nat) : Int32 := match r with
  | some x => nI x
  | none => -1
theorem pw_FW {n w nx u c : Nat} {K D L M T U : Nat → Int32} {kd d ln m rn : Nat → Nat} (h : pw_W n K D L kd d ln) (hM : pw_M n 99 M m) (hR : pw_R w T rn) (hnx : nx < 5000) (hc : c < 200) (hu : u < 64) : ∃ Y, mX1_fewestBreaths (nI n) M (nI n) K D L U (nI w) (nI nx) T (nI u) (nI c) = some (pw_ndI (pw_nd n kd d ln w rn nx m u c), Y) := by
  have hn := h.1
  unfold mX1_fewestBreaths mX0_size
  rw [pw_bs]
  obtain ⟨Y, e⟩ := pw_b1L h hM hR hnx hc hu (fun _ y => some (-1, y)) (n + 1) 300 0 U (by omega) (by omega)
  refine ⟨Y, ?_⟩
  refine Eq.trans e ?_
  rw [Nat.sub_zero, ← pw_r1, ← pw_nd]
  cases pw_nd n kd d ln w rn nx m u c <;> rfl
/-- how many digits -/
def pw_dg : Nat → Nat → Nat
  | 0, _ => 0
  | f + 1, x => if x = 0 then 0 else pw_dg f (x / 10) + 1
theorem pw_dg7 (kk : Int32 → Int32 → Option (Int32 × (Nat → Int32))) (g : Nat) : ∀ (f x c : Nat), x < 10 ^ f → x < 2 ^ 30 → mX7_needOf_L2 kk (f + 1 + g) (nI x) (nI c) = kk 0 (nI (c + pw_dg f x))
  | 0, x, c, h1, h2 => by
    have e : x = 0 := by simpa using h1
    subst e
    rw [show 0 + 1 + g = g + 1 by omega, mX7_needOf_L2, if_pos ((pw_le0 (by decide)).mpr rfl)]; rfl
  | f + 1, x, c, h1, h2 => by
    have h4 : x / 10 < 10 ^ f := by rw [Nat.pow_succ] at h1; omega
    have ih := pw_dg7 kk g f (x / 10) (c + 1) h4 (by omega)
    rw [show f + 1 + 1 + g = (f + 1 + g) + 1 by omega, mX7_needOf_L2, pw_dg]
    by_cases q : x = 0
    · rw [if_pos ((pw_le0 h2).mpr q), if_pos q, q]; rfl
    · rw [if_neg (fun z => q ((pw_le0 h2).mp z)), if_neg q, pw_dv10 h2, nI_1, ih]; congr 2; omega
theorem pw_dg6 (kk : Int32 → Int32 → Option Int32) (g : Nat) : ∀ (f x c : Nat), x < 10 ^ f → x < 2 ^ 30 → mX6_digitsIn_L1 kk (f + 1 + g) (nI x) (nI c) = kk 0 (nI (c + pw_dg f x))
  | 0, x, c, h1, h2 => by
    have e : x = 0 := by simpa using h1
    subst e
    rw [show 0 + 1 + g = g + 1 by omega, mX6_digitsIn_L1, if_pos ((pw_le0 (by decide)).mpr rfl)]; rfl
  | f + 1, x, c, h1, h2 => by
    have h4 : x / 10 < 10 ^ f := by rw [Nat.pow_succ] at h1; omega
    have ih := pw_dg6 kk g f (x / 10) (c + 1) h4 (by omega)
    rw [show f + 1 + 1 + g = (f + 1 + g) + 1 by omega, mX6_digitsIn_L1, pw_dg]
    by_cases q : x = 0
    · rw [if_pos ((pw_le0 h2).mpr q), if_pos q, q]; rfl
    · rw [if_neg (fun z => q ((pw_le0 h2).mp z)), if_neg q, pw_dv10 h2, nI_1, ih]; congr 2; omega
def pw_ndR (r : Option Nat) (what : Int32) : Int32 := match r with
  | some x => if what = 0 then nI (pw_dg 4 x) else nI x
  | none => -1
theorem pw_10k {i : Nat} (h : i < 2 ^ 30) : ((10000 : Int32) ≤ nI i) ↔ 10000 ≤ i := nI_leI (by decide) (by omega)
theorem pw_n7L {n w nx u c : Nat} {K D L M T : Nat → Int32} {kd d ln m rn : Nat → Nat} (h : pw_W n K D L kd d ln) (hM : pw_M n 99 M m) (hR : pw_R w T rn) (hnx : nx < 5000) (hc : c < 200) (hu : u < 64) (what : Int32) : ∀ (j f i : Nat) (Y : Nat → Int32), 10000 = i + j → j < f → ∃ Y', mX7_needOf_L1 (nI n) (nI w) (nI nx) K D L M T (nI u) (nI c) what (fun _ y => some (-1, y)) f (nI i) Y = some (pw_ndR (((List.range' i j).filter (fun x => pw_rw n 4 x 10)).find? (pw_ok n kd d ln w rn nx m u c)) what, Y')
  | 0, 0, i, Y, _, h2 => absurd h2 (Nat.not_lt_zero 0)
  | j + 1, 0, i, Y, _, h2 => absurd h2 (Nat.not_lt_zero _)
  | 0, f + 1, i, Y, h1, h2 => by
    refine ⟨Y, ?_⟩
    rw [mX7_needOf_L1, if_pos ((pw_10k (by omega)).mpr (by omega))]
    rfl
  | j + 1, f + 1, i, Y, h1, h2 => by
    have hi : i < 10000 := by omega
    rw [mX7_needOf_L1, if_neg (fun z => absurd ((pw_10k (by omega)).mp z) (by omega)), pw_ROW h.1 hi, pw_bs, List.range'_succ]
    by_cases q : pw_rw n 4 i 10 = true
    · obtain ⟨Z, g1⟩ := pw_EN (U := Y) h hM hR hnx hc hu hi q
      rw [q, pw_zt, if_neg pw_10, g1, pw_n2, List.filter_cons_of_pos (p := fun x => pw_rw n 4 x 10) q, List.find?_cons]
      by_cases q2 : pw_ok n kd d ln w rn nx m u c i = true
      · refine ⟨Z, ?_⟩
        rw [q2, pw_zt, if_neg pw_10]
        refine Eq.trans (pw_dg7 _ 295 4 i 0 (by simpa using hi) (by omega)) ?_
        rw [Nat.zero_add]
        show _ = some (if what = 0 then nI (pw_dg 4 i) else nI i, Z)
        split <;> rfl
      · have q2' : pw_ok n kd d ln w rn nx m u c i = false := by simpa using q2
        obtain ⟨Y', f1⟩ := pw_n7L h hM hR hnx hc hu what j f (i + 1) Z (by omega) (by omega)
        refine ⟨Y', ?_⟩
        rw [q2', pw_zf, if_pos rfl, nI_1]
        exact f1
    · have q' : pw_rw n 4 i 10 = false := by simpa using q
      obtain ⟨Y', f1⟩ := pw_n7L h hM hR hnx hc hu what j f (i + 1) Y (by omega) (by omega)
      refine ⟨Y', ?_⟩
      rw [q', pw_zf, if_pos rfl, List.filter_cons_of_neg (p := fun x => pw_rw n 4 x 10) q, nI_1]
      exact f1
theorem pw_NO {n w nx u c : Nat} {K D L M T U : Nat → Int32} {kd d ln m rn : Nat → Nat} (h : pw_W n K D L kd d ln) (hM : pw_M n 99 M m) (hR : pw_R w T rn) (hnx : nx < 5000) (hc : c < 200) (hu : u < 64) (what : Int32) : ∃ Y, mX7_needOf (nI n) (nI w) (nI nx) K D L M T U (nI u) (nI c) what = some (pw_ndR (pw_nd n kd d ln w rn nx m u c) what, Y) := by
  have hn := h.1
  unfold mX7_needOf
  obtain ⟨Y, e⟩ := pw_n7L h hM hR hnx hc hu what 10000 20000 0 U (by omega) (by omega)
  refine ⟨Y, ?_⟩
  rw [pw_rr n (by omega)] at e
  exact e
