theorem pw_i0 {α : Type} {a b : α} : (if (0 : Int32) = 0 then a else b) = a := if_pos rfl
theorem pw_i1 {α : Type} {a b : α} : (if (1 : Int32) = 0 then a else b) = b := if_neg pw_10
theorem pw_rg3 (x : Int32) (a b : Nat) (ha : a ≤ b + 1) (hb : b < 2 ^ 30) : (x < nI a ∨ nI b < x) ∨ ∃ j, a ≤ j ∧ j ≤ b ∧ x = nI j := by
  rcases pk_ix x (n := b + 1) (by omega) with h | h | ⟨j, h1, h2⟩
  · refine Or.inl (Or.inl ?_)
    have h3 := Int32.lt_iff_toInt_lt.mp h
    rw [Int32.lt_iff_toInt_lt, nI_toInt (by omega)]
    have : (0 : Int32).toInt = 0 := by decide
    omega
  · refine Or.inl (Or.inr ?_)
    have h3 := Int32.le_iff_toInt_le.mp h
    rw [nI_toInt (by omega)] at h3
    rw [Int32.lt_iff_toInt_lt, nI_toInt (by omega)]
    omega
  · by_cases q : a ≤ j
    · exact Or.inr ⟨j, q, by omega, h2⟩
    · exact Or.inl (Or.inl (by rw [h2]; exact nI_lt (by omega) (by omega)))
theorem pw_inY {A B : Int64} {a b j : Nat} (hA : A = Int32.toInt64 (nI a)) (hB : B = Int32.toInt64 (nI b)) (h1 : a ≤ j) (h2 : j ≤ b) (hb : b < 2 ^ 30) : mX7_in (Int32.toInt64 (nI j)) A B = some 1 := by
  rw [hA, hB, pw_inN _ _ _ (by omega) (by omega) (by omega), decide_eq_true ⟨h1, h2⟩]; rfl
theorem pw_inX {A B : Int64} {a b : Nat} {x : Int32} (hA : A = Int32.toInt64 (nI a)) (hB : B = Int32.toInt64 (nI b)) (h : x < nI a ∨ nI b < x) : mX7_in (Int32.toInt64 x) A B = some 0 := by
  rw [hA, hB, pw_in, decide_eq_false]
  · rfl
  · rintro ⟨h1, h2⟩
    rcases h with h | h
    · exact Int32.not_lt.mpr h1 h
    · exact Int32.not_lt.mpr h2 h
theorem pw_icY {n k : Nat} (hk : k < n) (hn : n ≤ 6) : mX7_isClause (nI n) (nI k) = some 1 := by
  unfold mX7_isClause
  obtain ⟨j, rfl⟩ : ∃ j, n = j + 1 := ⟨n - 1, by omega⟩
  rw [nI_pred, pw_inY (A := 0) (a := 0) (b := j) rfl rfl (by omega) (by omega) (by omega), pw_bs]
theorem pw_icN {n : Nat} {x : Int32} (hn : n ≤ 6) (h : x < 0 ∨ nI n ≤ x) : mX7_isClause (nI n) x = some 0 := by
  unfold mX7_isClause
  rw [show (0 : Int64) = Int32.toInt64 0 from rfl, pw_in, decide_eq_false, pw_bs]
  · rfl
  · rintro ⟨h1, h2⟩
    rcases h with h | h
    · exact Int32.not_lt.mpr h1 h
    · cases n with
      | zero =>
        have h3 := Int32.le_iff_toInt_le.mp h2
        have h4 := Int32.le_iff_toInt_le.mp h1
        have e1 : (nI 0 - 1).toInt = -1 := by decide
        have e2 : (0 : Int32).toInt = 0 := by decide
        omega
      | succ j =>
        rw [nI_pred] at h2
        have h3 := Int32.le_iff_toInt_le.mp h2
        have h4 := Int32.le_iff_toInt_le.mp h
        rw [nI_toInt (by omega)] at h3 h4
        omega
theorem pw_st {n : Nat} (hn : n ≤ 6) : mX4_stands (nI n) = some (pw_z (decide (0 < n))) := by
  unfold mX4_stands mX0_size
  rw [pw_bs]
  by_cases q : n = 0
  · rw [if_pos ((pw_le0 (by omega)).mpr q), decide_eq_false (by omega)]; rfl
  · rw [if_neg (fun z => q ((pw_le0 (by omega)).mp z)), decide_eq_true (by omega)]; rfl
theorem pw_la {n : Nat} (hn : n ≤ 6) : mX7_lacks (nI n) = some (pw_z (decide (n = 0))) := by
  unfold mX7_lacks
  by_cases q : n = 0
  · rw [if_pos ((pw_eq0 (by omega)).mpr q), decide_eq_true q]; rfl
  · rw [if_neg (fun z => q ((pw_eq0 (by omega)).mp z)), decide_eq_false q]; rfl
theorem pw_stY {n : Nat} (hn : n ≤ 6) (h : ¬ n = 0) : mX4_stands (nI n) = some 1 := by rw [pw_st hn, decide_eq_true (by omega)]; rfl
theorem pw_stN : mX4_stands (nI 0) = some 0 := by rw [pw_st (by decide)]; rfl
theorem pw_laY {n : Nat} (hn : n ≤ 6) (h : ¬ n = 0) : mX7_lacks (nI n) = some 0 := by rw [pw_la hn, decide_eq_false h]; rfl
theorem pw_laN : mX7_lacks (nI 0) = some 1 := by rw [pw_la (by decide)]; rfl
theorem pw_1n {x : Int32} {a : Nat} : x < nI a → ¬ nI a ≤ x := fun h1 h2 => Int32.not_lt.mpr h2 h1
/-- THE PAGE, in both -/
def pw_RP2 (ps : Int32) (C : Nat → Int32) (pm : Int32) (C' : Nat → Int32) : Prop := ∃ (p : Nat) (c : Nat → Nat), ps = nI p ∧ pm = nI p ∧ pw_P p C c ∧ pw_P p C' c
theorem pw_m_letter {ps pm : Int32} {C C' : Nat → Int32} (h : pw_RP2 ps C pm C') (x : Int32) : ∃ r ps1 C1 pm1 C1', mX6_letter ps C x = some (r, ps1, C1) ∧ mX7_letter pm C' x = some (r, pm1, C1') ∧ pw_RP2 ps1 C1 pm1 C1' := by
  obtain ⟨p, c, rfl, rfl, h1, h2⟩ := id h
  have hp := h1.1
  unfold mX6_letter mX7_letter mX2_size mX2_add
  rcases pw_rg3 x 1 126 (by decide) (by decide) with hx | ⟨j, j1, j2, rfl⟩
  · simp (disch := omega) only [pw_inX (A := 1) (B := 126) (a := 1) (b := 126) rfl rfl hx, pw_rd, pw_wr, pw_bs, pw_i0, pw_i1, pw_n2]
    rcases hx with hx | hx
    · rw [if_pos (show x < 1 from hx)]
      exact ⟨_, _, _, _, _, rfl, rfl, h⟩
    · by_cases q : x < 1
      · rw [if_pos q]; exact ⟨_, _, _, _, _, rfl, rfl, h⟩
      · rw [if_neg q, if_neg (show ¬ x ≤ 126 from fun z => Int32.not_lt.mpr z hx)]
        exact ⟨_, _, _, _, _, rfl, rfl, h⟩
  · simp (disch := omega) only [pw_inY (A := 1) (B := 126) (a := 1) (b := 126) rfl rfl j1 j2 (by decide), if_neg (show ¬ nI j < 1 from nI_nlt (b := 1) j1 (by omega)), if_pos (show nI j ≤ 126 from nI_le (b := 126) j2 (by decide)), pw_rd, pw_wr, pw_bs, pw_i0, pw_i1, pw_n2]
    by_cases q : p = 36
    · subst q
      rw [if_neg (show ¬ nI 36 < 36 by decide), if_pos (show nI 36 = 36 from rfl)]
      exact ⟨_, _, _, _, _, rfl, rfl, h⟩
    · simp (disch := omega) only [if_pos (show nI p < 36 from nI_lt (b := 36) (by omega) (by decide)), if_neg (show ¬ nI p = 36 from fun z => q ((nI_eq (b := 36) (by omega) (by decide)).mp z)), if_neg (show ¬ (36 : Int32) ≤ nI p from nI_ge (b := 36) (by omega) (by decide)), nI_1, pw_rd, pw_wr, pw_bs, pw_i0, pw_i1, pw_n2]
      refine ⟨_, _, _, _, _, rfl, rfl, p + 1, fun i => if i = p then j else c i, rfl, rfl, ⟨by omega, fun i hi => ?_, fun i hi => ?_⟩, ⟨by omega, fun i hi => ?_, fun i hi => ?_⟩⟩
      · by_cases e : i = p
        · subst e; dsimp only; rw [pw_up, if_pos rfl]
        · dsimp only; rw [pw_un e, if_neg e]; exact h1.2.1 i (by omega)
      · dsimp only; split
        · omega
        · exact h1.2.2 i (by omega)
      · by_cases e : i = p
        · subst e; dsimp only; rw [pw_up, if_pos rfl]
        · dsimp only; rw [pw_un e, if_neg e]; exact h2.2.1 i (by omega)
      · dsimp only; split
        · omega
        · exact h2.2.2 i (by omega)
theorem pw_m_blank {ps pm : Int32} {C C' : Nat → Int32} (h : pw_RP2 ps C pm C') : ∃ r ps1 pm1, mX6_blank ps = some (r, ps1) ∧ mX7_blank pm = some (r, pm1) ∧ pw_RP2 ps1 C pm1 C' := by
  obtain ⟨p, c, rfl, rfl, h1, h2⟩ := id h
  unfold mX6_blank mX7_blank mX2_size mX2_clear
  exact ⟨_, _, _, rfl, rfl, 0, c, rfl, rfl, ⟨by omega, fun i hi => absurd hi (Nat.not_lt_zero i), fun i hi => absurd hi (Nat.not_lt_zero i)⟩, ⟨by omega, fun i hi => absurd hi (Nat.not_lt_zero i), fun i hi => absurd hi (Nat.not_lt_zero i)⟩⟩
theorem pw_m_fault {ps pm : Int32} {C C' : Nat → Int32} (h : pw_RP2 ps C pm C') (e0 : Int32) : ∃ r e1, mX6_fault ps C = some r ∧ mX7_fault pm e0 C' = some (r, e1) := by
  obtain ⟨p, c, rfl, rfl, h1, h2⟩ := id h
  obtain ⟨e, g1, -⟩ := pw_FO7 h2 e0
  unfold mX6_fault mX7_fault
  simp (disch := omega) only [pw_FP h1, g1, pw_rd, pw_wr, pw_bs, pw_i0, pw_i1, pw_n2]
  exact ⟨_, _, rfl, rfl⟩
/-- the wall, in both; n clauses, w weeks of rain -/
def pw_RN (n w : Nat) (rn : Nat → Nat) (br n_ : Int32) (K D L M : Nat → Int32) (ws nx_ : Int32) (T : Nat → Int32) (sq : Int32) (A R G : Nat → Int32) (cl : Int32) (K' D' L' M' : Nat → Int32) (rs wn : Int32) (T' : Nat → Int32) (br' sm : Int32) (S : Nat → Int32) : Prop := ∃ (kd d ln m : Nat → Nat) (nx b q : Nat) (a r g : Nat → Nat), n_ = nI n ∧ cl = nI n ∧ ws = nI w ∧ rs = nI w ∧ nx_ = nI nx ∧ wn = nI nx ∧ br = nI b ∧ br' = nI b ∧ sq = nI q ∧ sm = nI q ∧ nx ≤ 999 ∧ b ≤ 9999 ∧ pw_W n K D L kd d ln ∧ pw_W n K' D' L' kd d ln ∧ pw_M n 99 M m ∧ pw_M n 99 M' m ∧ (n = 0 ∨ (pw_R w T rn ∧ pw_R w T' rn)) ∧ pw_S q A R G S a r g
theorem pw_m_rain {n w : Nat} {rn : Nat → Nat} {br n_ : Int32} {K D L M : Nat → Int32} {ws nx_ : Int32} {T : Nat → Int32} {sq : Int32} {A R G : Nat → Int32} {cl : Int32} {K' D' L' M' : Nat → Int32} {rs wn : Int32} {T' : Nat → Int32} {br' sm : Int32} {S : Nat → Int32} (h : pw_RN n w rn br n_ K D L M ws nx_ T sq A R G cl K' D' L' M' rs wn T' br' sm S) (x : Int32) : ∃ r, mX6_rain n_ ws T x = some r ∧ mX7_rain cl rs T' x = some r := by
  obtain ⟨kd, d, ln, m, nx, b, q, a, r, g, rfl, rfl, rfl, rfl, rfl, rfl, rfl, rfl, rfl, rfl, hnx, hb, hW, hW', hM, hM', hR, hS⟩ := id h
  have hn := hW.1
  unfold mX6_rain mX7_rain
  by_cases q0 : 0 ≤ x
  · rw [if_pos q0, if_pos q0]
    by_cases q1 : n = 0
    · subst q1
      simp (disch := omega) only [pw_stN, pw_laN, pw_rd, pw_wr, pw_bs, pw_i0, pw_i1, pw_n2]
      exact ⟨_, rfl, rfl⟩
    · obtain ⟨r1, r2⟩ := hR.resolve_left q1
      obtain ⟨j, hj, rfl⟩ := nI_of (Int32.not_lt.mpr q0)
      simp (disch := omega) only [pw_stY hn q1, pw_laY hn q1, pw_r5 r1 hj, pw_r7 r2 hj, pw_rd, pw_wr, pw_bs, pw_i0, pw_i1, pw_n2]
      exact ⟨_, rfl, rfl⟩
  · rw [if_neg q0, if_neg q0]
    exact ⟨_, rfl, rfl⟩
theorem pw_m_week {n w : Nat} {rn : Nat → Nat} {br n_ : Int32} {K D L M : Nat → Int32} {ws nx_ : Int32} {T : Nat → Int32} {sq : Int32} {A R G : Nat → Int32} {cl : Int32} {K' D' L' M' : Nat → Int32} {rs wn : Int32} {T' : Nat → Int32} {br' sm : Int32} {S : Nat → Int32} (h : pw_RN n w rn br n_ K D L M ws nx_ T sq A R G cl K' D' L' M' rs wn T' br' sm S) : ∃ r M1 nx1 wn1 M1', mX6_week n_ K D L M ws nx_ T = some (r, M1, nx1) ∧ mX7_week cl rs wn K' D' L' M' T' = some (r, wn1, M1') ∧ pw_RN n w rn br n_ K D L M1 ws nx1 T sq A R G cl K' D' L' M1' rs wn1 T' br' sm S := by
  obtain ⟨kd, d, ln, m, nx, b, q, a, r, g, rfl, rfl, rfl, rfl, rfl, rfl, rfl, rfl, rfl, rfl, hnx, hb, hW, hW', hM, hM', hR, hS⟩ := id h
  have hn := hW.1
  unfold mX6_week mX7_week mX5_next mX5_goOn
  by_cases q1 : n = 0
  · subst q1
    simp (disch := omega) only [pw_stN, pw_laN, pw_rd, pw_wr, pw_bs, pw_i0, pw_i1, pw_n2]
    exact ⟨_, _, _, _, _, rfl, rfl, h⟩
  · obtain ⟨r1, r2⟩ := hR.resolve_left q1
    simp (disch := omega) only [pw_stY hn q1, pw_laY hn q1, pw_rd, pw_wr, pw_bs, pw_i0, pw_i1, pw_n2]
    by_cases q2 : nx = 999
    · subst q2
      rw [if_neg (show ¬ nI 999 < 999 by decide), if_pos (show nI 999 = 999 from rfl)]
      exact ⟨_, _, _, _, _, rfl, rfl, h⟩
    · obtain ⟨Y, g1, g2⟩ := pw_G0 hW hM (r1.lt (i := nx))
      obtain ⟨Y', g1', g2'⟩ := pw_G7 hW' hM' (by decide) (r1.lt (i := nx))
      simp (disch := omega) only [if_pos (show nI nx < 999 from nI_lt (b := 999) (by omega) (by decide)), if_neg (show ¬ nI nx = 999 from fun z => q2 ((nI_eq (b := 999) (by omega) (by decide)).mp z)), pw_r5 r1 (show nx < 2 ^ 31 by omega), pw_r7 r2 (show nx < 2 ^ 31 by omega), g1, g1', pw_B0 hW g2 (by decide), pw_B7 hW' g2' (by decide), nI_1, pw_rd, pw_wr, pw_bs, pw_i0, pw_i1, pw_n2]
      exact ⟨_, _, _, _, _, rfl, rfl, kd, d, ln, _, nx + 1, b, q, a, r, g, rfl, rfl, rfl, rfl, rfl, rfl, rfl, rfl, rfl, rfl, by omega, hb, hW, hW', g2, g2', hR, hS⟩
theorem pw_setM {n B : Nat} {M : Nat → Int32} {m : Nat → Nat} (h : pw_M n B M m) {k v : Nat} (hv : v ≤ B) : pw_M n B (upd M k (nI v)) (fun i => if i = k then v else m i) := by
  refine ⟨fun i hi => ?_, fun i hi => ?_⟩
  · dsimp only
    by_cases e : i = k
    · subst e; rw [pw_up, if_pos rfl]
    · rw [pw_un e, if_neg e]; exact h.1 i hi
  · dsimp only; split
    · exact hv
    · exact h.2 i hi
theorem pw_mo {n k B : Nat} {M : Nat → Int32} {m : Nat → Nat} (hn : n ≤ 6) (h : pw_M n B M m) (hk : k < n) : mX0_mossOn (nI n) M (nI k) = some (nI (m k)) := by
  unfold mX0_mossOn
  simp (disch := omega) only [pw_has hk (by omega), h.1 k hk, pw_rd, pw_wr, pw_bs, pw_i0, pw_i1, pw_n2]
theorem pw_m_breathe {n w : Nat} {rn : Nat → Nat} {br n_ : Int32} {K D L M : Nat → Int32} {ws nx_ : Int32} {T : Nat → Int32} {sq : Int32} {A R G : Nat → Int32} {cl : Int32} {K' D' L' M' : Nat → Int32} {rs wn : Int32} {T' : Nat → Int32} {br' sm : Int32} {S : Nat → Int32} (h : pw_RN n w rn br n_ K D L M ws nx_ T sq A R G cl K' D' L' M' rs wn T' br' sm S) (x : Int32) : ∃ r br1 M1 br1' M1', mX6_breathe br n_ D M x = some (r, br1, M1) ∧ mX7_breathe cl br' D' M' x = some (r, br1', M1') ∧ pw_RN n w rn br1 n_ K D L M1 ws nx_ T sq A R G cl K' D' L' M1' rs wn T' br1' sm S := by
  obtain ⟨kd, d, ln, m, nx, b, q, a, r, g, rfl, rfl, rfl, rfl, rfl, rfl, rfl, rfl, rfl, rfl, hnx, hb, hW, hW', hM, hM', hR, hS⟩ := id h
  have hn := hW.1
  unfold mX6_breathe mX7_breathe
  rcases pk_ix x (n := n) (by omega) with hx | hx | ⟨k, hk, rfl⟩
  · simp (disch := omega) only [pw_hasN (Or.inl hx), pw_icN hn (Or.inl hx), pw_rd, pw_wr, pw_bs, pw_i0, pw_i1, pw_n2]
    exact ⟨_, _, _, _, _, rfl, rfl, h⟩
  · simp (disch := omega) only [pw_hasN (Or.inr hx), pw_icN hn (Or.inr hx), pw_rd, pw_wr, pw_bs, pw_i0, pw_i1, pw_n2]
    exact ⟨_, _, _, _, _, rfl, rfl, h⟩
  · have hdk := (hW.2.2.2.2.2.1 k hk).2
    simp (disch := omega) only [pw_has hk (by omega), pw_icY hk hn, pw_C0 hW hM (by decide) hk, pw_C7 hW' hM' (by decide) hk, pw_rd, pw_wr, pw_bs, pw_i0, pw_i1, pw_n2]
    by_cases q1 : d k ≤ m k
    · rw [show pw_c d m k = true from decide_eq_true q1, pw_zt, if_neg pw_10, if_neg pw_10]
      exact ⟨_, _, _, _, _, rfl, rfl, h⟩
    · rw [show pw_c d m k = false from decide_eq_false q1, pw_zf, if_pos rfl, if_pos rfl]
      by_cases q2 : b = 9999
      · subst q2
        rw [if_neg (show ¬ nI 9999 < 9999 by decide), if_pos (show nI 9999 = 9999 from rfl)]
        exact ⟨_, _, _, _, _, rfl, rfl, h⟩
      · have e1 : min (m k + 1) 99 = m k + 1 := by omega
        have s1 := pw_setM hM (k := k) (v := m k + 1) (by omega)
        have s2 := pw_setM hM' (k := k) (v := m k + 1) (by omega)
        simp (disch := omega) only [if_pos (show nI b < 9999 from nI_lt (b := 9999) (by omega) (by decide)), if_neg (show ¬ nI b = 9999 from fun z => q2 ((nI_eq (b := 9999) (by omega) (by decide)).mp z)), show (1 : Int32) = nI 1 from rfl, pw_am (g := 1) hn hk (hM.1 k hk) (by omega), e1, pw_mo hn s1 hk, hM'.1 k hk, pw_ad, pw_up, pw_ad, pw_rd, pw_wr, pw_bs, pw_i0, pw_i1, pw_n2]
        exact ⟨_, _, _, _, _, rfl, rfl, kd, d, ln, _, nx, b + 1, q, a, r, g, rfl, rfl, rfl, rfl, rfl, rfl, rfl, rfl, rfl, rfl, hnx, by omega, hW, hW', s1, s2, hR, hS⟩
theorem pw_ko0 {n k : Nat} {K : Nat → Int32} (hn : n ≤ 6) (hk : k < n) : mX0_kindOf (nI n) K (nI k) = some (K k) := by
  unfold mX0_kindOf
  simp (disch := omega) only [pw_has hk (by omega), pw_rd, pw_wr, pw_bs, pw_i0, pw_i1, pw_n2]
theorem pw_e4 {a : Nat} (h : a < 2 ^ 30) : (nI a = 4) ↔ a = 4 := nI_eq (b := 4) (by omega) (by decide)
theorem pw_neg {a b : Nat} (h : b ≤ a) : nI a + -nI b = nI (a - b) := by rw [← Int32.sub_eq_add_neg, pk_sub h]
theorem pw_mn0 (a : Nat) (h : a ≤ 99) : mw_mx (mw_mn (nI a) 99) 0 = nI a := by rw [pw_mn99 a (by omega)]; congr 1; omega
theorem pw_sub0 {n k o y : Nat} {Y : Nat → Int32} (hn : n ≤ 6) (hk : k < n) (hY : Y k = nI y) (ho : o ≤ y) (hy : y ≤ 99) : mX0_addMoss (nI n) Y (nI k) (-nI o) = some (upd Y k (nI (y - o))) := by
  unfold mX0_addMoss
  rw [pw_has hk (by omega), pw_bs, if_neg pw_10, pw_rd (by omega) (by omega), pw_bs, hY, pw_neg ho, pw_mn0 _ (by omega), pw_wr (by omega) (by omega), pw_bs]
theorem pw_m_scrape {n w : Nat} {rn : Nat → Nat} {br n_ : Int32} {K D L M : Nat → Int32} {ws nx_ : Int32} {T : Nat → Int32} {sq : Int32} {A R G : Nat → Int32} {cl : Int32} {K' D' L' M' : Nat → Int32} {rs wn : Int32} {T' : Nat → Int32} {br' sm : Int32} {S : Nat → Int32} (h : pw_RN n w rn br n_ K D L M ws nx_ T sq A R G cl K' D' L' M' rs wn T' br' sm S) (x : Int32) : ∃ r M1 M1', mX6_scrape n_ K M x = some (r, M1) ∧ mX7_scrape cl K' M' x = some (r, M1') ∧ pw_RN n w rn br n_ K D L M1 ws nx_ T sq A R G cl K' D' L' M1' rs wn T' br' sm S := by
  obtain ⟨kd, d, ln, m, nx, b, q, a, r, g, rfl, rfl, rfl, rfl, rfl, rfl, rfl, rfl, rfl, rfl, hnx, hb, hW, hW', hM, hM', hR, hS⟩ := id h
  have hn := hW.1
  unfold mX6_scrape mX7_scrape
  rcases pk_ix x (n := n) (by omega) with hx | hx | ⟨k, hk, rfl⟩
  · simp (disch := omega) only [pw_hasN (Or.inl hx), pw_icN hn (Or.inl hx), pw_rd, pw_wr, pw_bs, pw_i0, pw_i1, pw_n2]
    exact ⟨_, _, _, rfl, rfl, h⟩
  · simp (disch := omega) only [pw_hasN (Or.inr hx), pw_icN hn (Or.inr hx), pw_rd, pw_wr, pw_bs, pw_i0, pw_i1, pw_n2]
    exact ⟨_, _, _, rfl, rfl, h⟩
  · have hkd := hW.2.2.2.2.1 k hk
    have hmk := hM.2 k hk
    simp (disch := omega) only [pw_has hk (by omega), pw_icY hk hn, pw_mo hn hM hk, hM'.1 k hk, pw_rd, pw_wr, pw_bs, pw_i0, pw_i1, pw_n2]
    by_cases q1 : m k = 0
    · rw [if_pos ((pw_eq0 (by omega)).mpr q1), if_pos ((pw_eq0 (by omega)).mpr q1)]
      exact ⟨_, _, _, rfl, rfl, h⟩
    · simp (disch := omega) only [if_neg (fun z => q1 ((pw_eq0 (by omega)).mp z)), if_neg (fun z => q1 ((pw_eq0 (by omega)).mp z)), pw_ko0 hn hk, hW.2.1 k hk, hW'.2.1 k hk, pw_rd, pw_wr, pw_bs, pw_i0, pw_i1, pw_n2]
      by_cases q2 : kd k = 4
      · simp (disch := omega) only [if_pos ((pw_e4 (by omega)).mpr q2), if_pos ((pw_e4 (by omega)).mpr q2), show (-1 : Int32) = -nI 1 from rfl, pw_sub0 (o := 1) hn hk (hM.1 k hk) (by omega) hmk, show nI (m k) - 1 = nI (m k - 1) from pk_sub (b := 1) (by omega), pw_rd, pw_wr, pw_bs, pw_i0, pw_i1, pw_n2]
        exact ⟨_, _, _, rfl, rfl, kd, d, ln, _, nx, b, q, a, r, g, rfl, rfl, rfl, rfl, rfl, rfl, rfl, rfl, rfl, rfl, hnx, hb, hW, hW', pw_setM hM (by omega), pw_setM hM' (by omega), hR, hS⟩
      · simp (disch := omega) only [if_neg (fun z => q2 ((pw_e4 (by omega)).mp z)), if_neg (fun z => q2 ((pw_e4 (by omega)).mp z)), pw_sub0 hn hk (hM.1 k hk) (Nat.le_refl _) hmk, pk_sub (Nat.le_refl _), pw_rd, pw_wr, pw_bs, pw_i0, pw_i1, pw_n2]
        exact ⟨_, _, _, rfl, rfl, kd, d, ln, _, nx, b, q, a, r, g, rfl, rfl, rfl, rfl, rfl, rfl, rfl, rfl, rfl, rfl, hnx, hb, hW, hW', pw_setM hM (by omega), pw_setM hM' (by omega), hR, hS⟩
