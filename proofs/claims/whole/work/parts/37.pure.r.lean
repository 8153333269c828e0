abbrev pw_O13 : Type := Int32 × (Nat → Int32) × (Nat → Int32) × (Nat → Int32) × (Nat → Int32) × Int32 × (Nat → Int32) × (Nat → Int32) × (Nat → Int32) × (Nat → Int32) × Int32 × Int32 × (Nat → Int32)
theorem pw_W.cp {n : Nat} {K D L K2 D2 L2 : Nat → Int32} {kd d ln : Nat → Nat} (h : pw_W n K D L kd d ln) : pw_W n (va_cpy K K2 0 0 6) (va_cpy D D2 0 0 6) (va_cpy L L2 0 0 6) kd d ln := by
  obtain ⟨a1, a2, a3, a4, a5, a6, a7⟩ := h
  exact ⟨a1, fun k hk => by rw [pw_cpy (by omega)]; exact a2 k hk, fun k hk => by rw [pw_cpy (by omega)]; exact a3 k hk, fun k hk => by rw [pw_cpy (by omega)]; exact a4 k hk, a5, a6, a7⟩
theorem pw_R.cp {w : Nat} {T T2 : Nat → Int32} {rn : Nat → Nat} (h : pw_R w T rn) : pw_R w (va_cpy T T2 0 0 8) rn := ⟨h.1, h.2.1, fun k hk => by rw [pw_cpy (by have := h.2.1; omega)]; exact h.2.2.1 k hk, h.2.2.2⟩
theorem pw_bg (o1 : Int32) (o2 o3 o4 o5 : Nat → Int32) (o6 : Int32) (o7 o8 o9 o10 : Nat → Int32) (o11 o12 : Int32) (o13 : Nat → Int32) (n_ : Int32) (K D L M : Nat → Int32) (ws nx_ : Int32) (T : Nat → Int32) : mX1_begin o1 o2 o3 o4 o5 o6 o7 o8 o9 o10 o11 o12 o13 n_ K D L M ws nx_ T = some (n_, va_cpy K o2 0 0 6, va_cpy D o3 0 0 6, va_cpy L o4 0 0 6, va_cpy M o5 0 0 6, n_, va_cpy K o7 0 0 6, va_cpy D o8 0 0 6, va_cpy L o9 0 0 6, va_cpy M o10 0 0 6, ws, nx_, va_cpy T o13 0 0 8) := by
  unfold mX1_begin mX0_copyFrom mX5_copyFrom
  rw [pw_n5, pw_n5, pw_n3]
theorem pw_qs_lt {s : Nat} {g : Nat → Nat} : ∀ (j k : Nat), pw_qs s g j k ≤ 10 * (k + j) + 2
  | 0, k => by rw [pw_qs]; omega
  | j + 1, k => by
    have ih := pw_qs_lt (s := s) (g := g) j (k + 1)
    have h2 : pw_qk s (g k) ≤ 2 := by unfold pw_qk; split <;> (try split) <;> omega
    rw [pw_qs]
    split <;> omega
theorem pw_tn_lt {n : Nat} {K D L : Nat → Int32} {kd d ln m : Nat → Nat} (h : pw_W n K D L kd d ln) : pw_tn n d m < 1000 := by
  have hn := h.1
  have h1 := pw_qs_lt (s := pw_xr (pw_lk d m) n) (g := pw_lk d m) n 0
  unfold pw_tn
  split <;> omega
theorem pw_m_race {n w : Nat} {rn : Nat → Nat} {br n_ : Int32} {K D L M : Nat → Int32} {ws nx_ : Int32} {T : Nat → Int32} {sq : Int32} {A R G : Nat → Int32} {cl : Int32} {K' D' L' M' : Nat → Int32} {rs wn : Int32} {T' : Nat → Int32} {br' sm : Int32} {S : Nat → Int32} (h : pw_RN n w rn br n_ K D L M ws nx_ T sq A R G cl K' D' L' M' rs wn T' br' sm S) (x : Int32) : ∃ r, mX6_race n_ D M x = some r ∧ mX7_race cl D' M' x = some r := by
  obtain ⟨kd, d, ln, m, nx, b, q, a, r, g, rfl, rfl, rfl, rfl, rfl, rfl, rfl, rfl, rfl, rfl, hnx, hb, hW, hW', hM, hM', hR, hS⟩ := id h
  have hn := hW.1
  unfold mX6_race mX7_race
  rcases pw_rg3 x 0 1 (by decide) (by decide) with hx | ⟨j, -, j2, rfl⟩
  · simp only [pw_inX (A := 0) (B := 1) (a := 0) (b := 1) rfl rfl hx, pw_o4 (A := 0) (B := 1) hx, pw_rd, pw_wr, pw_bs, pw_i0, pw_i1, pw_n2, pw_n3, pw_n4, pw_n5, pw_n13]
    exact ⟨_, rfl, rfl⟩
  · simp only [pw_inY (A := 0) (B := 1) (a := 0) (b := 1) rfl rfl (Nat.zero_le j) j2 (by decide), if_neg (show ¬ nI j < 0 from nI_pos (by omega)), if_pos (show nI j ≤ 1 from nI_le (b := 1) j2 (by decide)), pw_rd, pw_wr, pw_bs, pw_i0, pw_i1, pw_n2, pw_n3, pw_n4, pw_n5, pw_n13]
    by_cases q1 : n = 0
    · subst q1
      simp only [pw_stN, pw_laN, pw_rd, pw_wr, pw_bs, pw_i0, pw_i1, pw_n2, pw_n3, pw_n4, pw_n5, pw_n13]
      exact ⟨_, rfl, rfl⟩
    · simp only [pw_stY hn q1, pw_laY hn q1, pw_WT hW hM, pw_RO hW' hM', pw_rd, pw_wr, pw_bs, pw_i0, pw_i1, pw_n2, pw_n3, pw_n4, pw_n5, pw_n13]
      have htn : pw_tn n d m < 2 ^ 30 ∨ True := Or.inr trivial
      have j01 : j = 0 ∨ j = 1 := by omega
      rcases j01 with rfl | rfl
      · rw [if_neg (show ¬ nI 0 = 1 by decide), if_pos (show nI 0 = 0 from rfl), if_pos (show nI 0 = 0 from rfl)]
        by_cases q2 : pw_tn n d m = 0
        · rw [if_pos q2, if_pos rfl, if_pos q2]; exact ⟨_, rfl, rfl⟩
        · rw [if_neg q2, if_neg q2]
          by_cases q3 : nI (pw_tn n d m) = -1
          · exfalso
            have hl := pw_tn_lt hW (m := m)
            exact pw_l_ne (show pw_tn n d m < 2 ^ 30 by omega) q3
          · rw [if_neg q3]; exact ⟨_, rfl, rfl⟩
      · rw [if_pos (show nI 1 = 1 from rfl), if_neg (show ¬ nI 1 = 0 by decide), if_neg (show ¬ nI 1 = 0 by decide)]
        exact ⟨_, rfl, rfl⟩
theorem pw_m_force {n w : Nat} {rn : Nat → Nat} {br n_ : Int32} {K D L M : Nat → Int32} {ws nx_ : Int32} {T : Nat → Int32} {sq : Int32} {A R G : Nat → Int32} {cl : Int32} {K' D' L' M' : Nat → Int32} {rs wn : Int32} {T' : Nat → Int32} {br' sm : Int32} {S : Nat → Int32} (h : pw_RN n w rn br n_ K D L M ws nx_ T sq A R G cl K' D' L' M' rs wn T' br' sm S) (o1 : Int32) (o2 o3 o4 o5 : Nat → Int32) (o6 : Int32) (o7 o8 o9 o10 : Nat → Int32) (o11 o12 : Int32) (o13 : Nat → Int32) (U : Nat → Int32) (x : Int32) : ∃ (r : Int32) (z : pw_O13) (U1 : Nat → Int32), mX6_force n_ K D L M ws nx_ T o1 o2 o3 o4 o5 o6 o7 o8 o9 o10 o11 o12 o13 x = some (r, z) ∧ mX7_force cl rs wn K' D' L' M' T' U x = some (r, U1) := by
  obtain ⟨kd, d, ln, m, nx, b, q, a, r, g, rfl, rfl, rfl, rfl, rfl, rfl, rfl, rfl, rfl, rfl, hnx, hb, hW, hW', hM, hM', hR, hS⟩ := id h
  have hn := hW.1
  unfold mX6_force mX7_force
  rcases pw_rg3 x 0 99 (by decide) (by decide) with hx | ⟨j, -, j2, rfl⟩
  · simp only [pw_inX (A := 0) (B := 99) (a := 0) (b := 99) rfl rfl hx, pw_o4 (A := 0) (B := 99) hx, pw_rd, pw_wr, pw_bs, pw_i0, pw_i1, pw_n2, pw_n3, pw_n4, pw_n5, pw_n13]
    exact ⟨_, _, _, rfl, rfl⟩
  · simp only [pw_inY (A := 0) (B := 99) (a := 0) (b := 99) rfl rfl (Nat.zero_le j) j2 (by decide), if_neg (show ¬ nI j < 0 from nI_pos (by omega)), if_pos (show nI j ≤ 99 from nI_le (b := 99) j2 (by decide)), pw_rd, pw_wr, pw_bs, pw_i0, pw_i1, pw_n2, pw_n3, pw_n4, pw_n5, pw_n13]
    by_cases q1 : n = 0
    · subst q1
      simp only [pw_stN, pw_laN, pw_rd, pw_wr, pw_bs, pw_i0, pw_i1, pw_n2, pw_n3, pw_n4, pw_n5, pw_n13]
      exact ⟨_, _, _, rfl, rfl⟩
    · obtain ⟨r1, r2⟩ := hR.resolve_left q1
      obtain ⟨Y, y, g1⟩ := pw_FB (hW.cp (K2 := o7) (D2 := o8) (L2 := o9)) (hM.cp (U := o10) hn) (r1.cp (T2 := o13)) (show nx < 5000 by omega) (show j < 200 by omega)
      obtain ⟨U1, g2⟩ := pw_FO (Y := U) hW' hM' r2 (show nx < 5000 by omega) (show j < 200 by omega)
      simp only [pw_stY hn q1, pw_laY hn q1, pw_bg, g1, g2, pw_rd, pw_wr, pw_bs, pw_i0, pw_i1, pw_n2, pw_n3, pw_n4, pw_n5, pw_n13]
      exact ⟨_, _, _, rfl, rfl⟩
theorem pw_m_order {n w : Nat} {rn : Nat → Nat} {br n_ : Int32} {K D L M : Nat → Int32} {ws nx_ : Int32} {T : Nat → Int32} {sq : Int32} {A R G : Nat → Int32} {cl : Int32} {K' D' L' M' : Nat → Int32} {rs wn : Int32} {T' : Nat → Int32} {br' sm : Int32} {S : Nat → Int32} (h : pw_RN n w rn br n_ K D L M ws nx_ T sq A R G cl K' D' L' M' rs wn T' br' sm S) (o1 : Int32) (o2 o3 o4 o5 : Nat → Int32) (o6 : Int32) (o7 o8 o9 o10 : Nat → Int32) (o11 o12 : Int32) (o13 : Nat → Int32) (U V : Nat → Int32) : ∃ (r : Int32) (z : pw_O13) (U1 V1 : Nat → Int32), mX6_order n_ K D L M ws nx_ T o1 o2 o3 o4 o5 o6 o7 o8 o9 o10 o11 o12 o13 = some (r, z) ∧ mX7_order cl rs wn K' D' L' M' T' U V = some (r, U1, V1) := by
  obtain ⟨kd, d, ln, m, nx, b, q, a, r, g, rfl, rfl, rfl, rfl, rfl, rfl, rfl, rfl, rfl, rfl, hnx, hb, hW, hW', hM, hM', hR, hS⟩ := id h
  have hn := hW.1
  unfold mX6_order mX7_order
  by_cases q1 : n = 0
  · subst q1
    simp only [pw_stN, pw_laN, pw_rd, pw_wr, pw_bs, pw_i0, pw_i1, pw_n2, pw_n3, pw_n4, pw_n5, pw_n13]
    exact ⟨_, _, _, _, rfl, rfl⟩
  · obtain ⟨r1, r2⟩ := hR.resolve_left q1
    obtain ⟨Y, y, g1⟩ := pw_CO (hW.cp (K2 := o7) (D2 := o8) (L2 := o9)) (hM.cp (U := o10) hn) (r1.cp (T2 := o13)) (show nx < 5000 by omega)
    obtain ⟨U1, V1, g2⟩ := pw_OO (U := U) (V := V) hW' hM' r2 (show nx < 5000 by omega)
    simp only [pw_stY hn q1, pw_laY hn q1, pw_bg, g1, g2, pw_rd, pw_wr, pw_bs, pw_i0, pw_i1, pw_n2, pw_n3, pw_n4, pw_n5, pw_n13]
    exact ⟨_, _, _, _, rfl, rfl⟩
theorem pw_m_odds {n w : Nat} {rn : Nat → Nat} {br n_ : Int32} {K D L M : Nat → Int32} {ws nx_ : Int32} {T : Nat → Int32} {sq : Int32} {A R G : Nat → Int32} {cl : Int32} {K' D' L' M' : Nat → Int32} {rs wn : Int32} {T' : Nat → Int32} {br' sm : Int32} {S : Nat → Int32} (h : pw_RN n w rn br n_ K D L M ws nx_ T sq A R G cl K' D' L' M' rs wn T' br' sm S) (o1 : Int32) (o2 o3 o4 o5 : Nat → Int32) (o6 : Int32) (o7 o8 o9 o10 : Nat → Int32) (o11 o12 : Int32) (o13 : Nat → Int32) (U : Nat → Int32) (x y z : Int32) : ∃ (r : Int32) (v : pw_O13) (U1 : Nat → Int32), mX6_odds n_ K D L M ws nx_ T o1 o2 o3 o4 o5 o6 o7 o8 o9 o10 o11 o12 o13 x y z = some (r, v) ∧ mX7_odds cl K' D' L' M' U x y z = some (r, U1) := by
  obtain ⟨kd, d, ln, m, nx, b, q, a, r, g, rfl, rfl, rfl, rfl, rfl, rfl, rfl, rfl, rfl, rfl, hnx, hb, hW, hW', hM, hM', hR, hS⟩ := id h
  have hn := hW.1
  unfold mX6_odds mX7_odds
  rcases pk_ix x (n := n) (by omega) with hx | hx | ⟨k, hk, rfl⟩
  · simp only [pw_hasN (Or.inl hx), pw_icN hn (Or.inl hx), pw_rd, pw_wr, pw_bs, pw_i0, pw_i1, pw_n2, pw_n3, pw_n4, pw_n5, pw_n13]
    exact ⟨_, _, _, rfl, rfl⟩
  · simp only [pw_hasN (Or.inr hx), pw_icN hn (Or.inr hx), pw_rd, pw_wr, pw_bs, pw_i0, pw_i1, pw_n2, pw_n3, pw_n4, pw_n5, pw_n13]
    exact ⟨_, _, _, rfl, rfl⟩
  · rcases pw_rg3 y 1 4 (by decide) (by decide) with hy | ⟨c, c1, c2, rfl⟩
    · simp only [pw_has hk (show n < 2 ^ 31 by omega), pw_icY hk hn, pw_inX (A := 1) (B := 4) (a := 1) (b := 4) rfl rfl hy, pw_o5 (A := 1) (B := 4) hy, pw_rd, pw_wr, pw_bs, pw_i0, pw_i1, pw_n2, pw_n3, pw_n4, pw_n5, pw_n13]
      exact ⟨_, _, _, rfl, rfl⟩
    · rcases pw_rg3 z 0 1 (by decide) (by decide) with hz | ⟨u, -, u2, rfl⟩
      · simp only [pw_has hk (show n < 2 ^ 31 by omega), pw_icY hk hn, pw_inY (A := 1) (B := 4) (a := 1) (b := 4) rfl rfl c1 c2 (by decide), if_neg (show ¬ nI c < 1 from nI_nlt (b := 1) c1 (by omega)), if_neg (show ¬ (4 : Int32) < nI c from nI_nlt (a := 4) c2 (by decide)), pw_inX (A := 0) (B := 1) (a := 0) (b := 1) rfl rfl hz, pw_o4 (A := 0) (B := 1) hz, pw_rd, pw_wr, pw_bs, pw_i0, pw_i1, pw_n2, pw_n3, pw_n4, pw_n5, pw_n13]
        exact ⟨_, _, _, rfl, rfl⟩
      · obtain ⟨Y, g1⟩ := pw_WY (U := va_cpy M o10 0 0 6) (hW.cp (K2 := o7) (D2 := o8) (L2 := o9)) (hM.cp (U := o5) hn) (show c < 5 by omega) hk
        obtain ⟨U1, g2⟩ := pw_OD (U := U) hW' hM' (show c < 5 by omega) c1 hk (nI u)
        have h4 := pw_o3 c (by omega)
        have hw := pw_wc_le kd d ln m k c (4 ^ c)
        obtain ⟨e1, e2, e3⟩ := pw_hg (show c < 5 by omega) c1 hw
        simp only [pw_has hk (show n < 2 ^ 31 by omega), pw_icY hk hn, pw_inY (A := 1) (B := 4) (a := 1) (b := 4) rfl rfl c1 c2 (by decide), if_neg (show ¬ nI c < 1 from nI_nlt (b := 1) c1 (by omega)), if_neg (show ¬ (4 : Int32) < nI c from nI_nlt (a := 4) c2 (by decide)), pw_inY (A := 0) (B := 1) (a := 0) (b := 1) rfl rfl (Nat.zero_le u) u2 (by decide), if_neg (show ¬ nI u < 0 from nI_pos (by omega)), if_pos (show nI u ≤ 1 from nI_le (b := 1) u2 (by decide)), pw_bg, g1, g2, pw_o2 c (by omega), pw_rd, pw_wr, pw_bs, pw_i0, pw_i1, pw_n2, pw_n3, pw_n4, pw_n5, pw_n13]
        have key : ∀ kk : Int32 → Int32 → Int32 → Option pw_O14, ∃ zz, mX6_odds_L1 (nI c) kk 300 0 (nI (pw_wc kd d ln m k c (4 ^ c))) (nI (4 ^ c)) = kk zz (nI (pw_od kd d ln m k c).1) (nI (pw_od kd d ln m k c).2) := by
          intro kk
          obtain ⟨zz, e4⟩ := pw_h6 (c := c) (by omega) kk 290 9 0 (pw_wc kd d ln m k c (4 ^ c)) (4 ^ c) (by omega) (by decide) (by omega) (by omega)
          rw [e1] at e4
          exact ⟨zz, e4⟩
        refine ⟨if nI u = 0 then nI (pw_od kd d ln m k c).1 else nI (pw_od kd d ln m k c).2, (nI n, va_cpy K o2 0 0 6, va_cpy D o3 0 0 6, va_cpy L o4 0 0 6, va_cpy M o5 0 0 6, nI n, va_cpy K o7 0 0 6, va_cpy D o8 0 0 6, va_cpy L o9 0 0 6, Y, nI w, nI nx, va_cpy T o13 0 0 8), U1, (key _).choose_spec.trans ?_, rfl⟩
        by_cases q9 : nI u = 0
        · rw [if_pos q9, if_pos q9]
        · rw [if_neg q9, if_neg q9]
