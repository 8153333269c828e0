theorem pw_o4 {α : Type} {x A B : Int32} {Y Z : α} (h : x < A ∨ B < x) : (if x < A then Z else if x ≤ B then Y else Z) = Z := by
  by_cases q : x < A
  · rw [if_pos q]
  · rw [if_neg q, if_neg (fun z => Int32.not_lt.mpr z (h.resolve_left q))]
theorem pw_o5 {α : Type} {x A B : Int32} {Y Z : α} (h : x < A ∨ B < x) : (if x < A then Z else if B < x then Z else Y) = Z := by
  by_cases q : x < A
  · rw [if_pos q]
  · rw [if_neg q, if_pos (h.resolve_left q)]
theorem pw_o6 {α : Type} {x A B : Int32} {Y Z : α} (h : x < A ∨ B ≤ x) : (if x < A then Z else if B ≤ x then Z else Y) = Z := by
  by_cases q : x < A
  · rw [if_pos q]
  · rw [if_neg q, if_pos (h.resolve_left q)]
theorem pw_kiN {x : Int32} (h : x < 0 ∨ 4 < x) : mX6_isKind x = some 0 := by
  unfold mX6_isKind
  refine pw_o6 (h.imp id (fun z => ?_))
  have h3 := Int32.lt_iff_toInt_lt.mp z
  rw [Int32.le_iff_toInt_le]
  have e1 : (4 : Int32).toInt = 4 := by decide
  have e2 : (5 : Int32).toInt = 5 := by decide
  omega
theorem pw_kiY {j : Nat} (h : j ≤ 4) : mX6_isKind (nI j) = some 1 := by
  unfold mX6_isKind
  rw [if_neg (nI_pos (by omega)), if_neg (show ¬ (5 : Int32) ≤ nI j from nI_ge (b := 5) (by omega) (by decide))]
theorem pw_m_as {n w : Nat} {rn : Nat → Nat} {br n_ : Int32} {K D L M : Nat → Int32} {ws nx_ : Int32} {T : Nat → Int32} {sq : Int32} {A R G : Nat → Int32} {cl : Int32} {K' D' L' M' : Nat → Int32} {rs wn : Int32} {T' : Nat → Int32} {br' sm : Int32} {S : Nat → Int32} (h : pw_RN n w rn br n_ K D L M ws nx_ T sq A R G cl K' D' L' M' rs wn T' br' sm S) (x y : Int32) : ∃ r, mX6_as n_ K x y = some r ∧ mX7_as cl K' x y = some r := by
  obtain ⟨kd, d, ln, m, nx, b, q, a, r, g, rfl, rfl, rfl, rfl, rfl, rfl, rfl, rfl, rfl, rfl, hnx, hb, hW, hW', hM, hM', hR, hS⟩ := id h
  have hn := hW.1
  unfold mX6_as mX7_as
  rcases pk_ix x (n := n) (by omega) with hx | hx | ⟨k, hk, rfl⟩
  · simp only [pw_hasN (Or.inl hx), pw_icN hn (Or.inl hx), pw_rd, pw_wr, pw_bs, pw_i0, pw_i1, pw_n2, pw_n3, pw_n4, pw_n5, pw_n13]
    exact ⟨_, rfl, rfl⟩
  · simp only [pw_hasN (Or.inr hx), pw_icN hn (Or.inr hx), pw_rd, pw_wr, pw_bs, pw_i0, pw_i1, pw_n2, pw_n3, pw_n4, pw_n5, pw_n13]
    exact ⟨_, rfl, rfl⟩
  · rcases pw_rg3 y 0 4 (by decide) (by decide) with hy | ⟨j, -, j2, rfl⟩
    · simp only [pw_has hk (show n < 2 ^ 31 by omega), pw_icY hk hn, pw_kiN hy, pw_inX (A := 0) (B := 4) (a := 0) (b := 4) rfl rfl hy, pw_rd, pw_wr, pw_bs, pw_i0, pw_i1, pw_n2, pw_n3, pw_n4, pw_n5, pw_n13]
      exact ⟨_, rfl, rfl⟩
    · simp (disch := omega) only [pw_has hk (show n < 2 ^ 31 by omega), pw_icY hk hn, pw_kiY j2, pw_inY (A := 0) (B := 4) (a := 0) (b := 4) rfl rfl (Nat.zero_le j) j2 (by decide), pw_ko0 hn hk, hW.2.1 k hk, hW'.2.1 k hk, pw_rd, pw_wr, pw_bs, pw_i0, pw_i1, pw_n2, pw_n3, pw_n4, pw_n5, pw_n13]
      by_cases q1 : nI j = 0
      · rw [if_pos q1]; exact ⟨_, rfl, rfl⟩
      · rw [if_neg q1]
        by_cases q2 : nI j = nI (kd k)
        · rw [if_pos q2]; exact ⟨_, rfl, rfl⟩
        · rw [if_neg q2]
          by_cases q3 : nI j = 2
          · rw [if_pos q3]
            by_cases q4 : nI (kd k) = 4
            · rw [if_pos q4]; exact ⟨_, rfl, rfl⟩
            · rw [if_neg q4]; exact ⟨_, rfl, rfl⟩
          · rw [if_neg q3]; exact ⟨_, rfl, rfl⟩
theorem pw_setW {n k v u : Nat} {K D L : Nat → Int32} {kd d ln : Nat → Nat} (h : pw_W n K D L kd d ln) (hv : v ≤ 4) (hu1 : 1 ≤ u) (hu : u ≤ 9) : pw_W n (upd K k (nI v)) (upd D k (nI u)) L (fun i => if i = k then v else kd i) (fun i => if i = k then u else d i) ln := by
  obtain ⟨a1, a2, a3, a4, a5, a6, a7⟩ := h
  refine ⟨a1, fun i hi => ?_, fun i hi => ?_, a4, fun i hi => ?_, fun i hi => ?_, a7⟩
  · dsimp only
    by_cases e : i = k
    · subst e; rw [pw_up, if_pos rfl]
    · rw [pw_un e, if_neg e]; exact a2 i hi
  · dsimp only
    by_cases e : i = k
    · subst e; rw [pw_up, if_pos rfl]
    · rw [pw_un e, if_neg e]; exact a3 i hi
  · dsimp only; split
    · omega
    · exact a5 i hi
  · dsimp only; split
    · omega
    · exact a6 i hi
theorem pw_m_change {n w : Nat} {rn : Nat → Nat} {br n_ : Int32} {K D L M : Nat → Int32} {ws nx_ : Int32} {T : Nat → Int32} {sq : Int32} {A R G : Nat → Int32} {cl : Int32} {K' D' L' M' : Nat → Int32} {rs wn : Int32} {T' : Nat → Int32} {br' sm : Int32} {S : Nat → Int32} (h : pw_RN n w rn br n_ K D L M ws nx_ T sq A R G cl K' D' L' M' rs wn T' br' sm S) (x y z : Int32) : ∃ r K1 D1 K1' D1', mX6_change n_ K D x y z = some (r, K1, D1) ∧ mX7_change cl K' D' x y z = some (r, K1', D1') ∧ pw_RN n w rn br n_ K1 D1 L M ws nx_ T sq A R G cl K1' D1' L' M' rs wn T' br' sm S := by
  obtain ⟨kd, d, ln, m, nx, b, q, a, r, g, rfl, rfl, rfl, rfl, rfl, rfl, rfl, rfl, rfl, rfl, hnx, hb, hW, hW', hM, hM', hR, hS⟩ := id h
  have hn := hW.1
  unfold mX6_change mX7_change
  rcases pk_ix x (n := n) (by omega) with hx | hx | ⟨k, hk, rfl⟩
  · simp only [pw_hasN (Or.inl hx), pw_icN hn (Or.inl hx), pw_rd, pw_wr, pw_bs, pw_i0, pw_i1, pw_n2, pw_n3, pw_n4, pw_n5, pw_n13]
    exact ⟨_, _, _, _, _, rfl, rfl, h⟩
  · simp only [pw_hasN (Or.inr hx), pw_icN hn (Or.inr hx), pw_rd, pw_wr, pw_bs, pw_i0, pw_i1, pw_n2, pw_n3, pw_n4, pw_n5, pw_n13]
    exact ⟨_, _, _, _, _, rfl, rfl, h⟩
  · rcases pw_rg3 y 0 4 (by decide) (by decide) with hy | ⟨j, -, j2, rfl⟩
    · simp only [pw_has hk (show n < 2 ^ 31 by omega), pw_icY hk hn, pw_kiN hy, pw_inX (A := 0) (B := 4) (a := 0) (b := 4) rfl rfl hy, pw_rd, pw_wr, pw_bs, pw_i0, pw_i1, pw_n2, pw_n3, pw_n4, pw_n5, pw_n13]
      exact ⟨_, _, _, _, _, rfl, rfl, h⟩
    · rcases pw_rg3 z 1 9 (by decide) (by decide) with hz | ⟨u, u1, u2, rfl⟩
      · simp only [pw_has hk (show n < 2 ^ 31 by omega), pw_icY hk hn, pw_kiY j2, pw_inY (A := 0) (B := 4) (a := 0) (b := 4) rfl rfl (Nat.zero_le j) j2 (by decide), pw_inX (A := 1) (B := 9) (a := 1) (b := 9) rfl rfl hz, pw_o4 (A := 1) (B := 9) hz, pw_rd, pw_wr, pw_bs, pw_i0, pw_i1, pw_n2, pw_n3, pw_n4, pw_n5, pw_n13]
        exact ⟨_, _, _, _, _, rfl, rfl, h⟩
      · have e1 : mX0_setKind (nI n) K D (nI k) (nI j) (nI u) = some (upd K k (nI j), upd D k (nI u)) := by
          unfold mX0_setKind
          simp (disch := omega) only [pw_has hk (show n < 2 ^ 31 by omega), pw_rd, pw_wr, pw_bs, pw_i0, pw_i1, pw_n2, pw_n3, pw_n4, pw_n5, pw_n13]
        simp (disch := omega) only [pw_has hk (show n < 2 ^ 31 by omega), pw_icY hk hn, pw_kiY j2, pw_inY (A := 0) (B := 4) (a := 0) (b := 4) rfl rfl (Nat.zero_le j) j2 (by decide), pw_inY (A := 1) (B := 9) (a := 1) (b := 9) rfl rfl u1 u2 (by decide), if_neg (show ¬ nI u < 1 from nI_nlt (b := 1) u1 (by omega)), if_pos (show nI u ≤ 9 from nI_le (b := 9) u2 (by decide)), pw_ko0 hn hk, hW.2.1 k hk, hW'.2.1 k hk, e1, pw_rd, pw_wr, pw_bs, pw_i0, pw_i1, pw_n2, pw_n3, pw_n4, pw_n5, pw_n13]
        exact ⟨_, _, _, _, _, rfl, rfl, _, _, ln, m, nx, b, q, a, r, g, rfl, rfl, rfl, rfl, rfl, rfl, rfl, rfl, rfl, rfl, hnx, hb, pw_setW hW j2 u1 u2, pw_setW hW' j2 u1 u2, hM, hM', hR, hS⟩
theorem pw_setL {n k v : Nat} {K D L : Nat → Int32} {kd d ln : Nat → Nat} (h : pw_W n K D L kd d ln) (hv : v ≤ k) : pw_W n K D (upd L k (pw_l v)) kd d (fun i => if i = k then v else ln i) := by
  obtain ⟨a1, a2, a3, a4, a5, a6, a7⟩ := h
  refine ⟨a1, a2, a3, fun i hi => ?_, a5, a6, fun i hi => ?_⟩
  · dsimp only
    by_cases e : i = k
    · subst e; rw [pw_up, if_pos rfl]
    · rw [pw_un e, if_neg e]; exact a4 i hi
  · dsimp only; split
    · omega
    · exact a7 i hi
/-- what a clause may lean on -/
theorem pw_lr3 (x : Int32) (k : Nat) (hk : k < 2 ^ 30) : (x < -1 ∨ nI k ≤ x) ∨ ∃ v, v ≤ k ∧ x = pw_l v := by
  rcases pk_ix x (n := k) (by omega) with h | h | ⟨j, h1, h2⟩
  · by_cases e : x = -1
    · exact Or.inr ⟨0, by omega, e⟩
    · refine Or.inl (Or.inl ?_)
      have h3 := Int32.lt_iff_toInt_lt.mp h
      rw [Int32.lt_iff_toInt_lt]
      have e1 : (0 : Int32).toInt = 0 := by decide
      have e2 : (-1 : Int32).toInt = -1 := by decide
      have e3 : x.toInt ≠ -1 := fun z => e (Int32.toInt_inj.mp (by rw [z, e2]))
      omega
  · exact Or.inl (Or.inr h)
  · exact Or.inr ⟨j + 1, by omega, h2⟩
theorem pw_lT {v : Nat} (h : v < 2 ^ 30) : (pw_l v).toInt = (v : Int) - 1 := by
  cases v with
  | zero => decide
  | succ j => rw [show pw_l (j + 1) = nI j from rfl, nI_toInt (by omega)]; omega
theorem pw_m_lean {n w : Nat} {rn : Nat → Nat} {br n_ : Int32} {K D L M : Nat → Int32} {ws nx_ : Int32} {T : Nat → Int32} {sq : Int32} {A R G : Nat → Int32} {cl : Int32} {K' D' L' M' : Nat → Int32} {rs wn : Int32} {T' : Nat → Int32} {br' sm : Int32} {S : Nat → Int32} (h : pw_RN n w rn br n_ K D L M ws nx_ T sq A R G cl K' D' L' M' rs wn T' br' sm S) (x y : Int32) : ∃ r L1 L1', mX6_lean n_ L x y = some (r, L1) ∧ mX7_lean cl L' x y = some (r, L1') ∧ pw_RN n w rn br n_ K D L1 M ws nx_ T sq A R G cl K' D' L1' M' rs wn T' br' sm S := by
  obtain ⟨kd, d, ln, m, nx, b, q, a, r, g, rfl, rfl, rfl, rfl, rfl, rfl, rfl, rfl, rfl, rfl, hnx, hb, hW, hW', hM, hM', hR, hS⟩ := id h
  have hn := hW.1
  unfold mX6_lean mX7_lean
  rcases pk_ix x (n := n) (by omega) with hx | hx | ⟨k, hk, rfl⟩
  · simp only [pw_hasN (Or.inl hx), pw_icN hn (Or.inl hx), pw_rd, pw_wr, pw_bs, pw_i0, pw_i1, pw_n2, pw_n3, pw_n4, pw_n5, pw_n13]
    exact ⟨_, _, _, rfl, rfl, h⟩
  · simp only [pw_hasN (Or.inr hx), pw_icN hn (Or.inr hx), pw_rd, pw_wr, pw_bs, pw_i0, pw_i1, pw_n2, pw_n3, pw_n4, pw_n5, pw_n13]
    exact ⟨_, _, _, rfl, rfl, h⟩
  · have m1 : (-1 : Int32).toInt = -1 := by decide
    have i0 : mX7_in (Int32.toInt64 y) (-1) (Int32.toInt64 (nI k - 1)) = some (pw_z (decide (-1 ≤ y ∧ y ≤ pw_l k))) := by
      rw [show (-1 : Int64) = Int32.toInt64 (-1) from rfl, pw_in, pw_l_sub]
    rcases pw_lr3 y k (by omega) with hy | ⟨v, v1, rfl⟩
    · have f0 : ¬ (-1 ≤ y ∧ y ≤ pw_l k) := by
        rintro ⟨g1, g2⟩
        have g3 := Int32.le_iff_toInt_le.mp g1
        have g4 := Int32.le_iff_toInt_le.mp g2
        rw [pw_lT (by omega)] at g4
        rcases hy with hy | hy
        · have g5 := Int32.lt_iff_toInt_lt.mp hy; omega
        · have g5 := Int32.le_iff_toInt_le.mp hy
          rw [nI_toInt (by omega)] at g5
          omega
      rw [decide_eq_false f0] at i0
      have f1 : (if y < -1 then some (-101, L) else if y < nI k then (mX0_leanOf (nI n) L (nI k)).bind fun r5 => (mX0_setLean (nI n) L (nI k) y).bind fun u6 => some (r5, u6) else some (-101, L)) = some ((-101 : Int32), L) := by
        by_cases q : y < -1
        · rw [if_pos q]
        · rw [if_neg q, if_neg (fun z => Int32.not_lt.mpr (hy.resolve_left q) z)]
      simp only [pw_has hk (show n < 2 ^ 31 by omega), pw_icY hk hn, i0, pw_zf, pw_rd, pw_wr, pw_bs, pw_i0, pw_i1, pw_n2, pw_n3, pw_n4, pw_n5, pw_n13]
      exact ⟨_, _, _, f1, rfl, h⟩
    · have f0 : -1 ≤ pw_l v ∧ pw_l v ≤ pw_l k := by
        rw [Int32.le_iff_toInt_le, Int32.le_iff_toInt_le, pw_lT (by omega), pw_lT (by omega), m1]; omega
      have f1 : ¬ pw_l v < -1 := by
        rw [Int32.lt_iff_toInt_lt, pw_lT (by omega), m1]; omega
      have f2 : pw_l v < nI k := by
        rw [Int32.lt_iff_toInt_lt, pw_lT (by omega), nI_toInt (by omega)]; omega
      rw [decide_eq_true f0] at i0
      have e1 : mX0_leanOf (nI n) L (nI k) = some (L k) := by
        unfold mX0_leanOf
        simp (disch := omega) only [pw_has hk (show n < 2 ^ 31 by omega), pw_rd, pw_wr, pw_bs, pw_i0, pw_i1, pw_n2, pw_n3, pw_n4, pw_n5, pw_n13]
      have e2 : mX0_setLean (nI n) L (nI k) (pw_l v) = some (upd L k (pw_l v)) := by
        unfold mX0_setLean
        simp (disch := omega) only [pw_has hk (show n < 2 ^ 31 by omega), pw_rd, pw_wr, pw_bs, pw_i0, pw_i1, pw_n2, pw_n3, pw_n4, pw_n5, pw_n13]
      simp (disch := omega) only [pw_has hk (show n < 2 ^ 31 by omega), pw_icY hk hn, i0, pw_zt, if_neg f1, if_pos f2, e1, e2, hW.2.2.2.1 k hk, hW'.2.2.2.1 k hk, pw_rd, pw_wr, pw_bs, pw_i0, pw_i1, pw_n2, pw_n3, pw_n4, pw_n5, pw_n13]
      exact ⟨_, _, _, rfl, rfl, kd, d, _, m, nx, b, q, a, r, g, rfl, rfl, rfl, rfl, rfl, rfl, rfl, rfl, rfl, rfl, hnx, hb, pw_setL hW v1, pw_setL hW' v1, hM, hM', hR, hS⟩
theorem pw_m_see {n w : Nat} {rn : Nat → Nat} {br n_ : Int32} {K D L M : Nat → Int32} {ws nx_ : Int32} {T : Nat → Int32} {sq : Int32} {A R G : Nat → Int32} {cl : Int32} {K' D' L' M' : Nat → Int32} {rs wn : Int32} {T' : Nat → Int32} {br' sm : Int32} {S : Nat → Int32} (h : pw_RN n w rn br n_ K D L M ws nx_ T sq A R G cl K' D' L' M' rs wn T' br' sm S) (x y z : Int32) : ∃ r sq1 A1 R1 G1 sm1 S1, mX6_see n_ sq A R G x y z = some (r, sq1, A1, R1, G1) ∧ mX7_see cl sm S x y z = some (r, sm1, S1) ∧ pw_RN n w rn br n_ K D L M ws nx_ T sq1 A1 R1 G1 cl K' D' L' M' rs wn T' br' sm1 S1 := by
  obtain ⟨kd, d, ln, m, nx, b, q, a, r, g, rfl, rfl, rfl, rfl, rfl, rfl, rfl, rfl, rfl, rfl, hnx, hb, hW, hW', hM, hM', hR, hS⟩ := id h
  have hn := hW.1
  have hq := hS.1
  unfold mX6_see mX7_see mX3_size
  rcases pk_ix x (n := n) (by omega) with hx | hx | ⟨k, hk, rfl⟩
  · simp only [pw_hasN (Or.inl hx), pw_icN hn (Or.inl hx), pw_rd, pw_wr, pw_bs, pw_i0, pw_i1, pw_n2, pw_n3, pw_n4, pw_n5, pw_n13]
    exact ⟨_, _, _, _, _, _, _, rfl, rfl, h⟩
  · simp only [pw_hasN (Or.inr hx), pw_icN hn (Or.inr hx), pw_rd, pw_wr, pw_bs, pw_i0, pw_i1, pw_n2, pw_n3, pw_n4, pw_n5, pw_n13]
    exact ⟨_, _, _, _, _, _, _, rfl, rfl, h⟩
  · rcases pw_rg3 y 0 3 (by decide) (by decide) with hy | ⟨j, -, j2, rfl⟩
    · simp only [pw_has hk (show n < 2 ^ 31 by omega), pw_icY hk hn, pw_inX (A := 0) (B := 3) (a := 0) (b := 3) rfl rfl hy, pw_o5 (A := 0) (B := 3) hy, pw_rd, pw_wr, pw_bs, pw_i0, pw_i1, pw_n2, pw_n3, pw_n4, pw_n5, pw_n13]
      exact ⟨_, _, _, _, _, _, _, rfl, rfl, h⟩
    · rcases pw_rg3 z 0 6 (by decide) (by decide) with hz | ⟨u, -, u2, rfl⟩
      · simp only [pw_has hk (show n < 2 ^ 31 by omega), pw_icY hk hn, pw_inY (A := 0) (B := 3) (a := 0) (b := 3) rfl rfl (Nat.zero_le j) j2 (by decide), if_neg (show ¬ nI j < 0 from nI_pos (by omega)), if_neg (show ¬ (3 : Int32) < nI j from nI_nlt (a := 3) j2 (by decide)), pw_inX (A := 0) (B := 6) (a := 0) (b := 6) rfl rfl hz, pw_o4 (A := 0) (B := 6) hz, pw_rd, pw_wr, pw_bs, pw_i0, pw_i1, pw_n2, pw_n3, pw_n4, pw_n5, pw_n13]
        exact ⟨_, _, _, _, _, _, _, rfl, rfl, h⟩
      · simp only [pw_has hk (show n < 2 ^ 31 by omega), pw_icY hk hn, pw_inY (A := 0) (B := 3) (a := 0) (b := 3) rfl rfl (Nat.zero_le j) j2 (by decide), if_neg (show ¬ nI j < 0 from nI_pos (by omega)), if_neg (show ¬ (3 : Int32) < nI j from nI_nlt (a := 3) j2 (by decide)), pw_inY (A := 0) (B := 6) (a := 0) (b := 6) rfl rfl (Nat.zero_le u) u2 (by decide), if_neg (show ¬ nI u < 0 from nI_pos (by omega)), if_pos (show nI u ≤ 6 from nI_le (b := 6) u2 (by decide)), pw_rd, pw_wr, pw_bs, pw_i0, pw_i1, pw_n2, pw_n3, pw_n4, pw_n5, pw_n13]
        by_cases q6 : q = 6
        · subst q6
          rw [if_neg (show ¬ nI 6 < 6 by decide), if_pos (show nI 6 = 6 from rfl)]
          exact ⟨_, _, _, _, _, _, _, rfl, rfl, h⟩
        · have e1 : mX3_add (nI q) A R G (nI k) (nI j) (nI u) = some (nI (q + 1), upd A q (nI k), upd R q (nI j), upd G q (nI u)) := by
            unfold mX3_add
            rw [if_neg (show ¬ (6 : Int32) ≤ nI q from nI_ge (b := 6) (by omega) (by decide))]
            simp (disch := omega) only [nI_1, pw_rd, pw_wr, pw_bs, pw_i0, pw_i1, pw_n2, pw_n3, pw_n4, pw_n5, pw_n13]
          rw [if_pos (show nI q < 6 from nI_lt (b := 6) (by omega) (by decide)), if_neg (show ¬ nI q = 6 from fun z => q6 ((nI_eq (b := 6) (by omega) (by decide)).mp z)), e1]
          simp (disch := omega) only [pw_m3, nI_1, show nI (3 * q) + 2 = nI (3 * q + 2) from nI_add _ 2, pw_rd, pw_wr, pw_bs, pw_i0, pw_i1, pw_n2, pw_n3, pw_n4, pw_n5, pw_n13]
          refine ⟨_, _, _, _, _, _, _, rfl, rfl, kd, d, ln, m, nx, b, q + 1, fun i => if i = q then k else a i, fun i => if i = q then j else r i, fun i => if i = q then u else g i, rfl, rfl, rfl, rfl, rfl, rfl, rfl, rfl, rfl, rfl, hnx, hb, hW, hW', hM, hM', hR, by omega, fun i hi => ?_⟩
          dsimp only
          by_cases e : i = q
          · subst e
            rw [if_pos rfl, if_pos rfl, if_pos rfl]
            exact ⟨pw_up, pw_up, pw_up, by rw [pw_un (show 3 * i ≠ 3 * i + 2 by omega), pw_un (show 3 * i ≠ 3 * i + 1 by omega), pw_up], by rw [pw_un (show 3 * i + 1 ≠ 3 * i + 2 by omega), pw_up], pw_up, by omega, by omega, by omega⟩
          · rw [pw_un e, pw_un e, pw_un e, if_neg e, if_neg e, if_neg e, pw_un (show 3 * i ≠ 3 * q + 2 by omega), pw_un (show 3 * i ≠ 3 * q + 1 by omega), pw_un (show 3 * i ≠ 3 * q by omega), pw_un (show 3 * i + 1 ≠ 3 * q + 2 by omega), pw_un (show 3 * i + 1 ≠ 3 * q + 1 by omega), pw_un (show 3 * i + 1 ≠ 3 * q by omega), pw_un (show 3 * i + 2 ≠ 3 * q + 2 by omega), pw_un (show 3 * i + 2 ≠ 3 * q + 1 by omega), pw_un (show 3 * i + 2 ≠ 3 * q by omega)]
            exact hS.2 i (by omega)
theorem pw_m_forget {n w : Nat} {rn : Nat → Nat} {br n_ : Int32} {K D L M : Nat → Int32} {ws nx_ : Int32} {T : Nat → Int32} {sq : Int32} {A R G : Nat → Int32} {cl : Int32} {K' D' L' M' : Nat → Int32} {rs wn : Int32} {T' : Nat → Int32} {br' sm : Int32} {S : Nat → Int32} (h : pw_RN n w rn br n_ K D L M ws nx_ T sq A R G cl K' D' L' M' rs wn T' br' sm S) : ∃ r sq1 sm1, mX6_forget sq = some (r, sq1) ∧ mX7_forget sm = some (r, sm1) ∧ pw_RN n w rn br n_ K D L M ws nx_ T sq1 A R G cl K' D' L' M' rs wn T' br' sm1 S := by
  obtain ⟨kd, d, ln, m, nx, b, q, a, r, g, rfl, rfl, rfl, rfl, rfl, rfl, rfl, rfl, rfl, rfl, hnx, hb, hW, hW', hM, hM', hR, hS⟩ := id h
  unfold mX6_forget mX7_forget mX3_size mX3_clear
  exact ⟨_, _, _, rfl, rfl, kd, d, ln, m, nx, b, 0, a, r, g, rfl, rfl, rfl, rfl, rfl, rfl, rfl, rfl, rfl, rfl, hnx, hb, hW, hW', hM, hM', hR, by omega, fun i hi => absurd hi (Nat.not_lt_zero i)⟩
