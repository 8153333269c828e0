theorem pw_m_tell {n w : Nat} {rn : Nat → Nat} {br n_ : Int32} {K D L M : Nat → Int32} {ws nx_ : Int32} {T : Nat → Int32} {sq : Int32} {A R G : Nat → Int32} {cl : Int32} {K' D' L' M' : Nat → Int32} {rs wn : Int32} {T' : Nat → Int32} {br' sm : Int32} {S : Nat → Int32} (h : pw_RN n w rn br n_ K D L M ws nx_ T sq A R G cl K' D' L' M' rs wn T' br' sm S) (o1 : Int32) (o2 o3 o4 o5 : Nat → Int32) (o6 : Int32) (o7 o8 o9 o10 : Nat → Int32) (o11 o12 : Int32) (o13 : Nat → Int32) (U V : Nat → Int32) {k : Nat} (hk : k < n) (y : Int32) : ∃ (r : Int32) (v : pw_O13) (U1 V1 : Nat → Int32), mX6_clause n_ K D L M ws nx_ T sq A R G o1 o2 o3 o4 o5 o6 o7 o8 o9 o10 o11 o12 o13 (nI k) y = some (r, v) ∧ mX7_tellClause cl rs wn sm K' D' L' M' T' U V S (nI k) y = some (r, U1, V1) := by
  obtain ⟨kd, d, ln, m, nx, b, q, a, r, g, rfl, rfl, rfl, rfl, rfl, rfl, rfl, rfl, rfl, rfl, hnx, hb, hW, hW', hM, hM', hR, hS⟩ := id h
  have hn := hW.1
  obtain ⟨r1, r2⟩ := hR.resolve_left (show ¬ n = 0 by omega)
  have e1 : mX0_deepOf (nI n) D (nI k) = some (D k) := by
    unfold mX0_deepOf
    simp (disch := omega) only [pw_has hk (show n < 2 ^ 31 by omega), pw_rd, pw_wr, pw_bs, pw_i0, pw_i1, pw_n2, pw_n3, pw_n4, pw_n5, pw_n13]
  have e2 : mX0_leanOf (nI n) L (nI k) = some (L k) := by
    unfold mX0_leanOf
    simp (disch := omega) only [pw_has hk (show n < 2 ^ 31 by omega), pw_rd, pw_wr, pw_bs, pw_i0, pw_i1, pw_n2, pw_n3, pw_n4, pw_n5, pw_n13]
  obtain ⟨Y, yy, g1⟩ := pw_WC (hW.cp (K2 := o7) (D2 := o8) (L2 := o9)) (hM.cp (U := o10) hn) (r1.cp (T2 := o13)) (show nx < 5000 by omega) hk
  obtain ⟨U1, V1, g2⟩ := pw_WO (U := U) (V := V) hW' hM' r2 (show nx < 5000 by omega) hk
  unfold mX6_clause mX7_tellClause
  rw [pw_has hk (show n < 2 ^ 31 by omega), pw_bs, if_neg pw_10]
  by_cases y0 : y = 0
  · rw [if_pos y0, if_pos y0, pw_ko0 hn hk, pw_bs, pw_rd (show k < 6 by omega) (by decide), pw_bs, hW.2.1 k hk, hW'.2.1 k hk]; exact ⟨_, _, _, _, rfl, rfl⟩
  rw [if_neg y0, if_neg y0]
  by_cases y1 : y = 1
  · rw [if_pos y1, if_pos y1, e1, pw_bs, pw_rd (show k < 6 by omega) (by decide), pw_bs, hW.2.2.1 k hk, hW'.2.2.1 k hk]; exact ⟨_, _, _, _, rfl, rfl⟩
  rw [if_neg y1, if_neg y1]
  by_cases y2 : y = 2
  · rw [if_pos y2, if_pos y2, e2, pw_bs, pw_rd (show k < 6 by omega) (by decide), pw_bs, hW.2.2.2.1 k hk, hW'.2.2.2.1 k hk]; exact ⟨_, _, _, _, rfl, rfl⟩
  rw [if_neg y2, if_neg y2]
  by_cases y3 : y = 3
  · rw [if_pos y3, if_pos y3, pw_mo hn hM hk, pw_bs, pw_rd (show k < 6 by omega) (by decide), pw_bs, hM'.1 k hk]; exact ⟨_, _, _, _, rfl, rfl⟩
  rw [if_neg y3, if_neg y3]
  by_cases y4 : y = 4
  · rw [if_pos y4, if_pos y4, pw_C0 hW hM (show 99 < 900 by decide) hk, pw_bs, pw_C7 hW' hM' (show 99 < 900 by decide) hk, pw_bs]
    by_cases qc : pw_c d m k = true
    · rw [qc, pw_zt, pw_i1, pw_i1]; exact ⟨_, _, _, _, rfl, rfl⟩
    · have qc' : pw_c d m k = false := by simpa using qc
      rw [qc', pw_zf, pw_i0, pw_i0]; exact ⟨_, _, _, _, rfl, rfl⟩
  rw [if_neg y4, if_neg y4]
  by_cases y5 : y = 5
  · rw [if_pos y5, if_pos y5, pw_F0 hW hM (show 99 < 900 by decide), pw_bs, pw_F7 hW' hM' (show 99 < 900 by decide), pw_bs]; exact ⟨_, _, _, _, rfl, rfl⟩
  rw [if_neg y5, if_neg y5]
  by_cases y6 : y = 6
  · rw [if_pos y6, if_pos y6, pw_bg, pw_n13, g1, pw_n3, g2, pw_n3]; exact ⟨_, _, _, _, rfl, rfl⟩
  rw [if_neg y6, if_neg y6]
  by_cases y7 : y = 7
  · rw [if_pos y7, if_pos y7, pw_SO3 hS (show k < 6 by omega), pw_bs, pw_SO7 hS (show k < 6 by omega), pw_bs]; exact ⟨_, _, _, _, rfl, rfl⟩
  rw [if_neg y7, if_neg y7]
  by_cases y8 : y = 8
  · rw [if_pos y8, if_pos y8, pw_TY3 hS (show k < 6 by omega), pw_bs, pw_TY7 hS (show k < 6 by omega), pw_bs]; exact ⟨_, _, _, _, rfl, rfl⟩
  rw [if_neg y8, if_neg y8]
  exact ⟨_, _, _, _, rfl, rfl⟩
theorem pw_RN.n {n w : Nat} {rn : Nat → Nat} {br n_ : Int32} {K D L M : Nat → Int32} {ws nx_ : Int32} {T : Nat → Int32} {sq : Int32} {A R G : Nat → Int32} {cl : Int32} {K' D' L' M' : Nat → Int32} {rs wn : Int32} {T' : Nat → Int32} {br' sm : Int32} {S : Nat → Int32} (h : pw_RN n w rn br n_ K D L M ws nx_ T sq A R G cl K' D' L' M' rs wn T' br' sm S) : n_ = nI n ∧ cl = nI n ∧ n ≤ 6 := by
  obtain ⟨kd, d, ln, m, nx, b, q, a, r, g, rfl, rfl, rfl, rfl, rfl, rfl, rfl, rfl, rfl, rfl, hnx, hb, hW, hW', hM, hM', hR, hS⟩ := id h
  exact ⟨rfl, rfl, hW.1⟩
theorem pw_m_clause {n w : Nat} {rn : Nat → Nat} {br n_ : Int32} {K D L M : Nat → Int32} {ws nx_ : Int32} {T : Nat → Int32} {sq : Int32} {A R G : Nat → Int32} {cl : Int32} {K' D' L' M' : Nat → Int32} {rs wn : Int32} {T' : Nat → Int32} {br' sm : Int32} {S : Nat → Int32} (h : pw_RN n w rn br n_ K D L M ws nx_ T sq A R G cl K' D' L' M' rs wn T' br' sm S) (o1 : Int32) (o2 o3 o4 o5 : Nat → Int32) (o6 : Int32) (o7 o8 o9 o10 : Nat → Int32) (o11 o12 : Int32) (o13 : Nat → Int32) (U V : Nat → Int32) (x y : Int32) : ∃ (r : Int32) (v : pw_O13) (U1 V1 : Nat → Int32), mX6_clause n_ K D L M ws nx_ T sq A R G o1 o2 o3 o4 o5 o6 o7 o8 o9 o10 o11 o12 o13 x y = some (r, v) ∧ mX7_clause cl rs wn sm K' D' L' M' T' U V S x y = some (r, U1, V1) := by
  obtain ⟨en, ec, hn⟩ := h.n
  rcases pk_ix x (n := n) (by omega) with hx | hx | ⟨k, hk, rfl⟩
  · unfold mX6_clause mX7_clause
    simp only [en, ec, pw_hasN (Or.inl hx), pw_icN hn (Or.inl hx), pw_rd, pw_wr, pw_bs, pw_i0, pw_i1, pw_n2, pw_n3, pw_n4, pw_n5, pw_n13]
    exact ⟨_, _, _, _, rfl, rfl⟩
  · unfold mX6_clause mX7_clause
    simp only [en, ec, pw_hasN (Or.inr hx), pw_icN hn (Or.inr hx), pw_rd, pw_wr, pw_bs, pw_i0, pw_i1, pw_n2, pw_n3, pw_n4, pw_n5, pw_n13]
    exact ⟨_, _, _, _, rfl, rfl⟩
  · obtain ⟨r, v, U1, V1, g1, g2⟩ := pw_m_tell h o1 o2 o3 o4 o5 o6 o7 o8 o9 o10 o11 o12 o13 U V hk y
    refine ⟨r, v, U1, V1, g1, ?_⟩
    unfold mX7_clause
    rw [g2, ec, pw_icY hk hn]
    simp only [pw_rd, pw_wr, pw_bs, pw_i0, pw_i1, pw_n2, pw_n3, pw_n4, pw_n5, pw_n13]
theorem pw_m_count {n w : Nat} {rn : Nat → Nat} {br n_ : Int32} {K D L M : Nat → Int32} {ws nx_ : Int32} {T : Nat → Int32} {sq : Int32} {A R G : Nat → Int32} {cl : Int32} {K' D' L' M' : Nat → Int32} {rs wn : Int32} {T' : Nat → Int32} {br' sm : Int32} {S : Nat → Int32} (h : pw_RN n w rn br n_ K D L M ws nx_ T sq A R G cl K' D' L' M' rs wn T' br' sm S) {wr nd ps : Int32} (x : Int32) : ∃ r, mX6_count wr nd ps br n_ K D L M ws nx_ sq x = some r ∧ mX7_countOf ps cl rs wn br' wr nd sm K' D' L' M' x = some r := by
  obtain ⟨kd, d, ln, m, nx, b, q, a, r, g, rfl, rfl, rfl, rfl, rfl, rfl, rfl, rfl, rfl, rfl, hnx, hb, hW, hW', hM, hM', hR, hS⟩ := id h
  have hn := hW.1
  have hb1 : pw_bn (pw_c d m) n < 64 := Nat.lt_of_lt_of_le (pw_bn_lt _ _) (pw_p6 hn)
  have hb2 : pw_fn kd d ln m n < 64 := Nat.lt_of_lt_of_le (pw_fn_lt _ _ _ _ _) (pw_p6 hn)
  unfold mX6_count mX7_countOf mX0_size mX5_size mX5_next mX3_size mX2_size
  simp only [pw_B0 hW hM (show 99 < 900 by decide), pw_B7 hW' hM' (show 99 < 900 by decide), pw_F0 hW hM (show 99 < 900 by decide), pw_F7 hW' hM' (show 99 < 900 by decide), pw_bc _ hb1, pw_on _ hb1, pw_bc _ hb2, pw_on _ hb2, pw_SM0 hn hM, pw_SM7 hn hM', pw_rd, pw_wr, pw_bs, pw_i0, pw_i1, pw_n2, pw_n3, pw_n4, pw_n5, pw_n13]
  repeat' split
  all_goals exact ⟨_, rfl, rfl⟩
theorem pw_cpS {q : Nat} {A R G S A2 R2 G2 S2 : Nat → Int32} {a r g : Nat → Nat} (h : pw_S q A R G S a r g) (hS2 : ∀ k, k < 18 → S2 k = S k) : pw_S q (va_cpy A A2 0 0 6) (va_cpy R R2 0 0 6) (va_cpy G G2 0 0 6) S2 a r g := by
  have hq := h.1
  refine ⟨hq, fun i hi => ?_⟩
  have h2 := h.2 i hi
  rw [pw_cpy (by omega), pw_cpy (by omega), pw_cpy (by omega), hS2 _ (by omega), hS2 _ (by omega), hS2 _ (by omega)]
  exact h2
theorem pw_W.to {n : Nat} {K D L K2 D2 L2 : Nat → Int32} {kd d ln : Nat → Nat} (h : pw_W n K D L kd d ln) (e1 : ∀ k, k < 6 → K2 k = K k) (e2 : ∀ k, k < 6 → D2 k = D k) (e3 : ∀ k, k < 6 → L2 k = L k) : pw_W n K2 D2 L2 kd d ln := by
  obtain ⟨a1, a2, a3, a4, a5, a6, a7⟩ := h
  exact ⟨a1, fun k hk => by rw [e1 k (by omega)]; exact a2 k hk, fun k hk => by rw [e2 k (by omega)]; exact a3 k hk, fun k hk => by rw [e3 k (by omega)]; exact a4 k hk, a5, a6, a7⟩
