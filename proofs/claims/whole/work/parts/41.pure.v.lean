theorem pw_d_force {n w : Nat} {rn : Nat → Nat} {br n_ : Int32} {K D L M : Nat → Int32} {ws nx_ : Int32} {T : Nat → Int32} {sq : Int32} {A R G : Nat → Int32} {cl : Int32} {K' D' L' M' : Nat → Int32} {rs wn : Int32} {T' : Nat → Int32} {br' sm : Int32} {S : Nat → Int32} (h : pw_RN n w rn br n_ K D L M ws nx_ T sq A R G cl K' D' L' M' rs wn T' br' sm S) (hn0 : ¬ n = 0) (o1 : Int32) (o2 o3 o4 o5 : Nat → Int32) (o6 : Int32) (o7 o8 o9 o10 : Nat → Int32) (o11 o12 : Int32) (o13 : Nat → Int32) (U : Nat → Int32) : ∃ (r : Int32) (z : pw_O13) (U1 : Nat → Int32), mX6_force n_ K D L M ws nx_ T o1 o2 o3 o4 o5 o6 o7 o8 o9 o10 o11 o12 o13 3 = some (r, z) ∧ mX7_forceOf cl rs wn K' D' L' M' T' U 3 = some (r, U1) := by
  obtain ⟨r, z, U1, e1, e2⟩ := pw_m_force h o1 o2 o3 o4 o5 o6 o7 o8 o9 o10 o11 o12 o13 U 3
  obtain ⟨en, ec, hn⟩ := h.n
  have i1 : mX7_in (Int32.toInt64 3) 0 99 = some 1 := pw_inY (A := 0) (B := 99) (a := 0) (b := 99) (j := 3) rfl rfl (by decide) (by decide) (by decide)
  refine ⟨r, z, U1, e1, ?_⟩
  subst ec
  unfold mX7_force at e2
  rw [i1, pw_bs, pw_i1, pw_laY hn hn0, pw_bs, pw_i0] at e2
  obtain ⟨a1, a2, e3, e4⟩ := mw_d2 e2
  rw [e3, e4]
theorem pw_d_order {n w : Nat} {rn : Nat → Nat} {br n_ : Int32} {K D L M : Nat → Int32} {ws nx_ : Int32} {T : Nat → Int32} {sq : Int32} {A R G : Nat → Int32} {cl : Int32} {K' D' L' M' : Nat → Int32} {rs wn : Int32} {T' : Nat → Int32} {br' sm : Int32} {S : Nat → Int32} (h : pw_RN n w rn br n_ K D L M ws nx_ T sq A R G cl K' D' L' M' rs wn T' br' sm S) (hn0 : ¬ n = 0) (o1 : Int32) (o2 o3 o4 o5 : Nat → Int32) (o6 : Int32) (o7 o8 o9 o10 : Nat → Int32) (o11 o12 : Int32) (o13 : Nat → Int32) (U V : Nat → Int32) : ∃ (r : Int32) (z : pw_O13) (U1 V1 : Nat → Int32), mX6_order n_ K D L M ws nx_ T o1 o2 o3 o4 o5 o6 o7 o8 o9 o10 o11 o12 o13 = some (r, z) ∧ mX7_orderOf cl rs wn K' D' L' M' T' U V = some (r, U1, V1) := by
  obtain ⟨r, z, U1, V1, e1, e2⟩ := pw_m_order h o1 o2 o3 o4 o5 o6 o7 o8 o9 o10 o11 o12 o13 U V
  obtain ⟨en, ec, hn⟩ := h.n
  refine ⟨r, z, U1, V1, e1, ?_⟩
  subst ec
  unfold mX7_order at e2
  rw [pw_laY hn hn0, pw_bs, pw_i0] at e2
  obtain ⟨a1, a2, a3, e3, e4⟩ := mw_d3 e2
  rw [e3, e4]
theorem pw_d_odds {n w : Nat} {rn : Nat → Nat} {br n_ : Int32} {K D L M : Nat → Int32} {ws nx_ : Int32} {T : Nat → Int32} {sq : Int32} {A R G : Nat → Int32} {cl : Int32} {K' D' L' M' : Nat → Int32} {rs wn : Int32} {T' : Nat → Int32} {br' sm : Int32} {S : Nat → Int32} (h : pw_RN n w rn br n_ K D L M ws nx_ T sq A R G cl K' D' L' M' rs wn T' br' sm S) {k : Nat} (hk : k < n) {x : Int32} (hx : x = 0 ∨ x = 1) (o1 : Int32) (o2 o3 o4 o5 : Nat → Int32) (o6 : Int32) (o7 o8 o9 o10 : Nat → Int32) (o11 o12 : Int32) (o13 : Nat → Int32) (U : Nat → Int32) : ∃ (r : Int32) (z : pw_O13) (U1 : Nat → Int32), mX6_odds n_ K D L M ws nx_ T o1 o2 o3 o4 o5 o6 o7 o8 o9 o10 o11 o12 o13 (nI k) 2 x = some (r, z) ∧ mX7_oddsOf cl K' D' L' M' U (nI k) 2 x = some (r, U1) := by
  obtain ⟨r, z, U1, e1, e2⟩ := pw_m_odds h o1 o2 o3 o4 o5 o6 o7 o8 o9 o10 o11 o12 o13 U (nI k) 2 x
  obtain ⟨en, ec, hn⟩ := h.n
  have i1 : mX7_in (Int32.toInt64 2) 1 4 = some 1 := pw_inY (A := 1) (B := 4) (a := 1) (b := 4) (j := 2) rfl rfl (by decide) (by decide) (by decide)
  have i2 : mX7_in (Int32.toInt64 x) 0 1 = some 1 := by
    rcases hx with rfl | rfl
    · exact pw_inY (A := 0) (B := 1) (a := 0) (b := 1) (j := 0) rfl rfl (by decide) (by decide) (by decide)
    · exact pw_inY (A := 0) (B := 1) (a := 0) (b := 1) (j := 1) rfl rfl (by decide) (by decide) (by decide)
  refine ⟨r, z, U1, e1, ?_⟩
  subst ec
  unfold mX7_odds at e2
  rw [pw_icY hk hn, pw_bs, pw_i1, i1, pw_bs, pw_i1, i2, pw_bs, pw_i1] at e2
  obtain ⟨a1, a2, e3, e4⟩ := mw_d2 e2
  rw [e3, e4]
theorem pw_d_race {n w : Nat} {rn : Nat → Nat} {br n_ : Int32} {K D L M : Nat → Int32} {ws nx_ : Int32} {T : Nat → Int32} {sq : Int32} {A R G : Nat → Int32} {cl : Int32} {K' D' L' M' : Nat → Int32} {rs wn : Int32} {T' : Nat → Int32} {br' sm : Int32} {S : Nat → Int32} (h : pw_RN n w rn br n_ K D L M ws nx_ T sq A R G cl K' D' L' M' rs wn T' br' sm S) (hn0 : ¬ n = 0) {x : Int32} (hx : x = 0 ∨ x = 1) : ∃ r, mX6_race n_ D M x = some r ∧ mX7_raceOf cl D' M' x = some r := by
  obtain ⟨r, e1, e2⟩ := pw_m_race h x
  obtain ⟨en, ec, hn⟩ := h.n
  have i2 : mX7_in (Int32.toInt64 x) 0 1 = some 1 := by
    rcases hx with rfl | rfl
    · exact pw_inY (A := 0) (B := 1) (a := 0) (b := 1) (j := 0) rfl rfl (by decide) (by decide) (by decide)
    · exact pw_inY (A := 0) (B := 1) (a := 0) (b := 1) (j := 1) rfl rfl (by decide) (by decide) (by decide)
  refine ⟨r, e1, ?_⟩
  subst ec
  unfold mX7_race at e2
  rw [i2, pw_bs, pw_i1, pw_laY hn hn0, pw_bs, pw_i0] at e2
  obtain ⟨a1, e3, e4⟩ := mw_d1 e2
  rw [e3, e4]
theorem pw_d_rain {n w : Nat} {rn : Nat → Nat} {br n_ : Int32} {K D L M : Nat → Int32} {ws nx_ : Int32} {T : Nat → Int32} {sq : Int32} {A R G : Nat → Int32} {cl : Int32} {K' D' L' M' : Nat → Int32} {rs wn : Int32} {T' : Nat → Int32} {br' sm : Int32} {S : Nat → Int32} (h : pw_RN n w rn br n_ K D L M ws nx_ T sq A R G cl K' D' L' M' rs wn T' br' sm S) (hn0 : ¬ n = 0) : ∃ r, mX6_rain n_ ws T nx_ = some r ∧ mX7_rainOf rs T' wn = some r := by
  obtain ⟨r, e1, e2⟩ := pw_m_rain h nx_
  obtain ⟨kd, d, ln, m, nx, b, q, a, r_, g, rfl, rfl, rfl, rfl, rfl, rfl, rfl, rfl, rfl, rfl, hnx, hb, hW, hW', hM, hM', hR, hS⟩ := id h
  have hn := hW.1
  refine ⟨r, e1, ?_⟩
  unfold mX7_rain at e2
  rw [if_pos (show (0 : Int32) ≤ nI nx from nI_le (a := 0) (by omega) (by omega)), pw_laY hn hn0, pw_bs, pw_i0] at e2
  obtain ⟨a1, e3, e4⟩ := mw_d1 e2
  rw [e3, e4]
theorem pw_di2 {n w : Nat} {rn : Nat → Nat} {br n_ : Int32} {K D L M : Nat → Int32} {ws nx_ : Int32} {T : Nat → Int32} {sq : Int32} {A R G : Nat → Int32} {cl : Int32} {K' D' L' M' : Nat → Int32} {rs wn : Int32} {T' : Nat → Int32} {br' sm : Int32} {S : Nat → Int32} (h : pw_RN n w rn br n_ K D L M ws nx_ T sq A R G cl K' D' L' M' rs wn T' br' sm S) {k : Nat} (hk : k < n) (j : Nat) : ∀ (f f' y : Nat) (hh : Int64) (o1 : Int32) (o2 o3 o4 o5 : Nat → Int32) (o6 : Int32) (o7 o8 o9 o10 : Nat → Int32) (o11 o12 : Int32) (o13 : Nat → Int32) (U V : Nat → Int32), 9 = y + j → j < f → j < f' → ∃ (h1 : Int64) (z1 : Int32) (z2 z3 z4 z5 : Nat → Int32) (z6 : Int32) (z7 z8 z9 z10 : Nat → Int32) (z11 z12 : Int32) (z13 : Nat → Int32) (U1 V1 : Nat → Int32), ∀ kk kk', mX6_digest_L2 n_ K D L M ws nx_ T sq A R G (nI k) kk f (nI y) hh o1 o2 o3 o4 o5 o6 o7 o8 o9 o10 o11 o12 o13 = kk 9 h1 z1 z2 z3 z4 z5 z6 z7 z8 z9 z10 z11 z12 z13 ∧ mX7_digest_L2 cl rs wn sm K' D' L' M' T' S (nI k) kk' f' (nI y) hh U V = kk' 9 h1 U1 V1 := by
  induction j with
  | zero =>
    intro f f' y hh o1 o2 o3 o4 o5 o6 o7 o8 o9 o10 o11 o12 o13 U V hy hf hf'
    obtain ⟨f, rfl⟩ : ∃ f0, f = f0 + 1 := ⟨f - 1, by omega⟩
    obtain ⟨f', rfl⟩ : ∃ f0, f' = f0 + 1 := ⟨f' - 1, by omega⟩
    obtain rfl : y = 9 := by omega
    refine ⟨hh, o1, o2, o3, o4, o5, o6, o7, o8, o9, o10, o11, o12, o13, U, V, fun kk kk' => ⟨?_, ?_⟩⟩
    · rw [mX6_digest_L2, if_pos (show (9 : Int32) ≤ nI 9 by decide)]; rfl
    · rw [mX7_digest_L2, if_pos (show (9 : Int32) ≤ nI 9 by decide)]; rfl
  | succ j ih =>
    intro f f' y hh o1 o2 o3 o4 o5 o6 o7 o8 o9 o10 o11 o12 o13 U V hy hf hf'
    obtain ⟨f, rfl⟩ : ∃ f0, f = f0 + 1 := ⟨f - 1, by omega⟩
    obtain ⟨f', rfl⟩ : ∃ f0, f' = f0 + 1 := ⟨f' - 1, by omega⟩
    obtain ⟨r, ⟨z1, z2, z3, z4, z5, z6, z7, z8, z9, z10, z11, z12, z13⟩, U1, V1, e1, e2⟩ := pw_m_tell h o1 o2 o3 o4 o5 o6 o7 o8 o9 o10 o11 o12 o13 U V hk (nI y)
    obtain ⟨h2, x1, x2, x3, x4, x5, x6, x7, x8, x9, x10, x11, x12, x13, U2, V2, ih⟩ := ih f f' (y + 1) (31 * hh + Int32.toInt64 r) z1 z2 z3 z4 z5 z6 z7 z8 z9 z10 z11 z12 z13 U1 V1 (by omega) (by omega) (by omega)
    have hc : ¬ (9 : Int32) ≤ nI y := show ¬ nI 9 ≤ nI y from nI_ge (by omega) (by omega)
    refine ⟨h2, x1, x2, x3, x4, x5, x6, x7, x8, x9, x10, x11, x12, x13, U2, V2, fun kk kk' => ⟨?_, ?_⟩⟩
    · rw [mX6_digest_L2, if_neg hc, e1, pw_n14]
      unfold mX6_mixed
      rw [pw_bs, nI_1]
      exact (ih kk kk').1
    · rw [mX7_digest_L2, if_neg hc, e2, pw_n3]
      unfold mX7_say
      rw [pw_bs, nI_1]
      exact (ih kk kk').2
theorem pw_di1 {n w : Nat} {rn : Nat → Nat} {br n_ : Int32} {K D L M : Nat → Int32} {ws nx_ : Int32} {T : Nat → Int32} {sq : Int32} {A R G : Nat → Int32} {cl : Int32} {K' D' L' M' : Nat → Int32} {rs wn : Int32} {T' : Nat → Int32} {br' sm : Int32} {S : Nat → Int32} (h : pw_RN n w rn br n_ K D L M ws nx_ T sq A R G cl K' D' L' M' rs wn T' br' sm S) (j : Nat) : ∀ (f f' k : Nat) (hh : Int64) (o1 : Int32) (o2 o3 o4 o5 : Nat → Int32) (o6 : Int32) (o7 o8 o9 o10 : Nat → Int32) (o11 o12 : Int32) (o13 : Nat → Int32) (U V : Nat → Int32), n = k + j → j < f → j < f' → ∃ (h1 : Int64) (z1 : Int32) (z2 z3 z4 z5 : Nat → Int32) (z6 : Int32) (z7 z8 z9 z10 : Nat → Int32) (z11 z12 : Int32) (z13 : Nat → Int32) (U1 V1 : Nat → Int32), ∀ kk kk', mX6_digest_L1 n_ K D L M ws nx_ T sq A R G kk f (nI k) hh o1 o2 o3 o4 o5 o6 o7 o8 o9 o10 o11 o12 o13 = kk (nI n) h1 z1 z2 z3 z4 z5 z6 z7 z8 z9 z10 z11 z12 z13 ∧ mX7_digest_L1 cl rs wn sm K' D' L' M' T' S kk' f' (nI k) hh U V = kk' (nI n) h1 U1 V1 := by
  obtain ⟨en, ec, hn⟩ := h.n
  subst en ec
  induction j with
  | zero =>
    intro f f' k hh o1 o2 o3 o4 o5 o6 o7 o8 o9 o10 o11 o12 o13 U V hy hf hf'
    obtain ⟨f, rfl⟩ : ∃ f0, f = f0 + 1 := ⟨f - 1, by omega⟩
    obtain ⟨f', rfl⟩ : ∃ f0, f' = f0 + 1 := ⟨f' - 1, by omega⟩
    obtain rfl : n = k := by omega
    refine ⟨hh, o1, o2, o3, o4, o5, o6, o7, o8, o9, o10, o11, o12, o13, U, V, fun kk kk' => ⟨?_, ?_⟩⟩
    · rw [mX6_digest_L1]
      unfold mX0_size
      rw [pw_bs, if_pos (nI_le (by omega) (by omega))]
    · rw [mX7_digest_L1, if_pos (nI_le (by omega) (by omega))]
  | succ j ih =>
    intro f f' k hh o1 o2 o3 o4 o5 o6 o7 o8 o9 o10 o11 o12 o13 U V hy hf hf'
    obtain ⟨f, rfl⟩ : ∃ f0, f = f0 + 1 := ⟨f - 1, by omega⟩
    obtain ⟨f', rfl⟩ : ∃ f0, f' = f0 + 1 := ⟨f' - 1, by omega⟩
    have hk : k < n := by omega
    obtain ⟨h1, a1, a2, a3, a4, a5, a6, a7, a8, a9, a10, a11, a12, a13, U1, V1, g1⟩ := pw_di2 h hk 9 300 300 0 hh o1 o2 o3 o4 o5 o6 o7 o8 o9 o10 o11 o12 o13 U V (by omega) (by omega) (by omega)
    obtain ⟨r2, ⟨b1, b2, b3, b4, b5, b6, b7, b8, b9, b10, b11, b12, b13⟩, U2, e2, e2'⟩ := pw_d_odds h hk (Or.inl rfl) a1 a2 a3 a4 a5 a6 a7 a8 a9 a10 a11 a12 a13 U1
    obtain ⟨r3, ⟨c1, c2, c3, c4, c5, c6, c7, c8, c9, c10, c11, c12, c13⟩, U3, e3, e3'⟩ := pw_d_odds h hk (Or.inr rfl) b1 b2 b3 b4 b5 b6 b7 b8 b9 b10 b11 b12 b13 U2
    obtain ⟨h4, x1, x2, x3, x4, x5, x6, x7, x8, x9, x10, x11, x12, x13, U4, V4, g4⟩ := ih f f' (k + 1) (31 * (31 * h1 + Int32.toInt64 r2) + Int32.toInt64 r3) c1 c2 c3 c4 c5 c6 c7 c8 c9 c10 c11 c12 c13 U3 V1 (by omega) (by omega) (by omega)
    have hc : ¬ nI n ≤ nI k := nI_ge (by omega) (by omega)
    refine ⟨h4, x1, x2, x3, x4, x5, x6, x7, x8, x9, x10, x11, x12, x13, U4, V4, fun kk kk' => ⟨?_, ?_⟩⟩
    · rw [mX6_digest_L1]
      unfold mX0_size mX6_mixed
      rw [pw_bs, if_neg hc]
      refine Eq.trans (g1 _ (fun _ _ _ _ => none)).1 ?_
      rw [e2, pw_n14, pw_bs, e3, pw_n14, pw_bs, nI_1]
      exact (g4 kk kk').1
    · rw [mX7_digest_L1]
      unfold mX7_say
      rw [if_neg hc]
      refine Eq.trans (g1 (fun _ _ _ _ _ _ _ _ _ _ _ _ _ _ _ => none) _).2 ?_
      rw [e2', pw_n2, pw_bs, e3', pw_n2, pw_bs, nI_1]
      exact (g4 kk kk').2
theorem pw_di3 {p : Nat} {c : Nat → Nat} {C C' : Nat → Int32} (h : pw_P p C c) (h' : pw_P p C' c) (j : Nat) : ∀ (f f' y : Nat) (hh : Int64), p = y + j → j < f → j < f' → ∃ (h1 : Int64), ∀ kk kk', mX6_digest_L3 (nI p) C kk f (nI y) hh = kk (nI p) h1 ∧ mX7_digest_L3 (nI p) C' kk' f' (nI y) hh = kk' (nI p) h1 := by
  have hp := h.1
  induction j with
  | zero =>
    intro f f' y hh hy hf hf'
    obtain ⟨f, rfl⟩ : ∃ f0, f = f0 + 1 := ⟨f - 1, by omega⟩
    obtain ⟨f', rfl⟩ : ∃ f0, f' = f0 + 1 := ⟨f' - 1, by omega⟩
    obtain rfl : p = y := by omega
    refine ⟨hh, fun kk kk' => ⟨?_, ?_⟩⟩
    · rw [mX6_digest_L3]
      unfold mX2_size
      rw [pw_bs, if_pos (nI_le (by omega) (by omega))]
    · rw [mX7_digest_L3, if_pos (nI_le (by omega) (by omega))]
  | succ j ih =>
    intro f f' y hh hy hf hf'
    obtain ⟨f, rfl⟩ : ∃ f0, f = f0 + 1 := ⟨f - 1, by omega⟩
    obtain ⟨f', rfl⟩ : ∃ f0, f' = f0 + 1 := ⟨f' - 1, by omega⟩
    have hc : ¬ nI p ≤ nI y := nI_ge (by omega) (by omega)
    obtain ⟨h2, ih⟩ := ih f f' (y + 1) (31 * hh + Int32.toInt64 (nI (c y))) (by omega) (by omega) (by omega)
    refine ⟨h2, fun kk kk' => ⟨?_, ?_⟩⟩
    · rw [mX6_digest_L3]
      unfold mX2_size mX6_mixed
      rw [pw_bs, if_neg hc, pw_cd h (show y < p by omega), pw_bs, pw_bs, nI_1]
      exact (ih kk kk').1
    · rw [mX7_digest_L3, if_neg hc, pw_rd (by omega) (by omega), h'.2.1 y (by omega), pw_bs]
      unfold mX7_say
      rw [pw_bs, nI_1]
      exact (ih kk kk').2
theorem pw_di4 {n w : Nat} {rn : Nat → Nat} {br n_ : Int32} {K D L M : Nat → Int32} {ws nx_ : Int32} {T : Nat → Int32} {sq : Int32} {A R G : Nat → Int32} {cl : Int32} {K' D' L' M' : Nat → Int32} {rs wn : Int32} {T' : Nat → Int32} {br' sm : Int32} {S : Nat → Int32} (h : pw_RN n w rn br n_ K D L M ws nx_ T sq A R G cl K' D' L' M' rs wn T' br' sm S) {wr nd ps : Int32} (j : Nat) : ∀ (f f' y : Nat) (hh : Int64), 11 = y + j → j < f → j < f' → ∃ (h1 : Int64), ∀ kk kk', mX6_digest_L4 wr nd ps br n_ K D L M ws nx_ sq kk f (nI y) hh = kk 11 h1 ∧ mX7_digest_L4 ps cl rs wn br' wr nd sm K' D' L' M' kk' f' (nI y) hh = kk' 11 h1 := by
  induction j with
  | zero =>
    intro f f' y hh hy hf hf'
    obtain ⟨f, rfl⟩ : ∃ f0, f = f0 + 1 := ⟨f - 1, by omega⟩
    obtain ⟨f', rfl⟩ : ∃ f0, f' = f0 + 1 := ⟨f' - 1, by omega⟩
    obtain rfl : y = 11 := by omega
    refine ⟨hh, fun kk kk' => ⟨?_, ?_⟩⟩
    · rw [mX6_digest_L4, if_pos (show (11 : Int32) ≤ nI 11 by decide)]; rfl
    · rw [mX7_digest_L4, if_pos (show (11 : Int32) ≤ nI 11 by decide)]; rfl
  | succ j ih =>
    intro f f' y hh hy hf hf'
    obtain ⟨f, rfl⟩ : ∃ f0, f = f0 + 1 := ⟨f - 1, by omega⟩
    obtain ⟨f', rfl⟩ : ∃ f0, f' = f0 + 1 := ⟨f' - 1, by omega⟩
    obtain ⟨r, e1, e2⟩ := pw_m_count h (wr := wr) (nd := nd) (ps := ps) (nI y)
    have hc : ¬ (11 : Int32) ≤ nI y := show ¬ nI 11 ≤ nI y from nI_ge (by omega) (by omega)
    obtain ⟨h2, ih⟩ := ih f f' (y + 1) (31 * hh + Int32.toInt64 r) (by omega) (by omega) (by omega)
    refine ⟨h2, fun kk kk' => ⟨?_, ?_⟩⟩
    · rw [mX6_digest_L4, if_neg hc, e1, pw_bs]
      unfold mX6_mixed
      rw [pw_bs, nI_1]
      exact (ih kk kk').1
    · rw [mX7_digest_L4, if_neg hc, e2, pw_bs]
      unfold mX7_say
      rw [pw_bs, nI_1]
      exact (ih kk kk').2
theorem pw_di5 {p : Nat} {c : Nat → Nat} {C C' : Nat → Int32} (h : pw_P p C c) (h' : pw_P p C' c) (j : Nat) : ∀ (f f' y : Nat) (hh : Int64), p = y + j → j < f → j < f' → ∃ (h1 : Int64), ∀ kk kk', mX6_digest_L5 (nI p) C kk f (nI y) hh = kk (nI p) h1 ∧ mX7_digest_L5 (nI p) C' kk' f' (nI y) hh = kk' (nI p) h1 := by
  have hp := h.1
  induction j with
  | zero =>
    intro f f' y hh hy hf hf'
    obtain ⟨f, rfl⟩ : ∃ f0, f = f0 + 1 := ⟨f - 1, by omega⟩
    obtain ⟨f', rfl⟩ : ∃ f0, f' = f0 + 1 := ⟨f' - 1, by omega⟩
    obtain rfl : p = y := by omega
    refine ⟨hh, fun kk kk' => ⟨?_, ?_⟩⟩
    · rw [mX6_digest_L5]
      unfold mX2_size
      rw [pw_bs, if_pos (nI_le (by omega) (by omega))]
    · rw [mX7_digest_L5, if_pos (nI_le (by omega) (by omega))]
  | succ j ih =>
    intro f f' y hh hy hf hf'
    obtain ⟨f, rfl⟩ : ∃ f0, f = f0 + 1 := ⟨f - 1, by omega⟩
    obtain ⟨f', rfl⟩ : ∃ f0, f' = f0 + 1 := ⟨f' - 1, by omega⟩
    have hc : ¬ nI p ≤ nI y := nI_ge (by omega) (by omega)
    obtain ⟨h2, ih⟩ := ih f f' (y + 1) (31 * hh + Int32.toInt64 (nI (c y))) (by omega) (by omega) (by omega)
    refine ⟨h2, fun kk kk' => ⟨?_, ?_⟩⟩
    · rw [mX6_digest_L5]
      unfold mX2_size mX6_mixed
      rw [pw_bs, if_neg hc, pw_cd h (show y < p by omega), pw_bs, pw_bs, nI_1]
      exact (ih kk kk').1
    · rw [mX7_digest_L5, if_neg hc, pw_rd (by omega) (by omega), h'.2.1 y (by omega), pw_bs]
      unfold mX7_say
      rw [pw_bs, nI_1]
      exact (ih kk kk').2
theorem pw_di6 {n w : Nat} {rn : Nat → Nat} {br n_ : Int32} {K D L M : Nat → Int32} {ws nx_ : Int32} {T : Nat → Int32} {sq : Int32} {A R G : Nat → Int32} {cl : Int32} {K' D' L' M' : Nat → Int32} {rs wn : Int32} {T' : Nat → Int32} {br' sm : Int32} {S : Nat → Int32} (h : pw_RN n w rn br n_ K D L M ws nx_ T sq A R G cl K' D' L' M' rs wn T' br' sm S) {wr nd ps : Int32} (j : Nat) : ∀ (f f' y : Nat) (hh : Int64), 11 = y + j → j < f → j < f' → ∃ (h1 : Int64), ∀ kk kk', mX6_digest_L6 wr nd ps br n_ K D L M ws nx_ sq kk f (nI y) hh = kk 11 h1 ∧ mX7_digest_L6 ps cl rs wn br' wr nd sm K' D' L' M' kk' f' (nI y) hh = kk' 11 h1 := by
  induction j with
  | zero =>
    intro f f' y hh hy hf hf'
    obtain ⟨f, rfl⟩ : ∃ f0, f = f0 + 1 := ⟨f - 1, by omega⟩
    obtain ⟨f', rfl⟩ : ∃ f0, f' = f0 + 1 := ⟨f' - 1, by omega⟩
    obtain rfl : y = 11 := by omega
    refine ⟨hh, fun kk kk' => ⟨?_, ?_⟩⟩
    · rw [mX6_digest_L6, if_pos (show (11 : Int32) ≤ nI 11 by decide)]; rfl
    · rw [mX7_digest_L6, if_pos (show (11 : Int32) ≤ nI 11 by decide)]; rfl
  | succ j ih =>
    intro f f' y hh hy hf hf'
    obtain ⟨f, rfl⟩ : ∃ f0, f = f0 + 1 := ⟨f - 1, by omega⟩
    obtain ⟨f', rfl⟩ : ∃ f0, f' = f0 + 1 := ⟨f' - 1, by omega⟩
    obtain ⟨r, e1, e2⟩ := pw_m_count h (wr := wr) (nd := nd) (ps := ps) (nI y)
    have hc : ¬ (11 : Int32) ≤ nI y := show ¬ nI 11 ≤ nI y from nI_ge (by omega) (by omega)
    obtain ⟨h2, ih⟩ := ih f f' (y + 1) (31 * hh + Int32.toInt64 r) (by omega) (by omega) (by omega)
    refine ⟨h2, fun kk kk' => ⟨?_, ?_⟩⟩
    · rw [mX6_digest_L6, if_neg hc, e1, pw_bs]
      unfold mX6_mixed
      rw [pw_bs, nI_1]
      exact (ih kk kk').1
    · rw [mX7_digest_L6, if_neg hc, e2, pw_bs]
      unfold mX7_say
      rw [pw_bs, nI_1]
      exact (ih kk kk').2
theorem pw_m_digest {n w : Nat} {rn : Nat → Nat} {br n_ : Int32} {K D L M : Nat → Int32} {ws nx_ : Int32} {T : Nat → Int32} {sq : Int32} {A R G : Nat → Int32} {cl : Int32} {K' D' L' M' : Nat → Int32} {rs wn : Int32} {T' : Nat → Int32} {br' sm : Int32} {S : Nat → Int32} (h : pw_RN n w rn br n_ K D L M ws nx_ T sq A R G cl K' D' L' M' rs wn T' br' sm S) {ps pm : Int32} {C C' : Nat → Int32} (hp : pw_RP2 ps C pm C') (wr nd : Int32) (o1 : Int32) (o2 o3 o4 o5 : Nat → Int32) (o6 : Int32) (o7 o8 o9 o10 : Nat → Int32) (o11 o12 : Int32) (o13 : Nat → Int32) (hs : Int64) (U V : Nat → Int32) : ∃ (r : Int64) (z : pw_O13) (hs1 : Int64) (U1 V1 : Nat → Int32), mX6_digest wr nd ps C br n_ K D L M ws nx_ T sq A R G o1 o2 o3 o4 o5 o6 o7 o8 o9 o10 o11 o12 o13 = some (r, z) ∧ mX7_digest pm cl rs wn br' wr nd sm hs C' K' D' L' M' T' U V S = some (r, hs1, U1, V1) := by
  obtain ⟨en, ec, hn⟩ := h.n
  subst en ec
  obtain ⟨p, c, rfl, rfl, hP, hP'⟩ := hp
  have hp36 := hP.1
  obtain ⟨h1, a1, a2, a3, a4, a5, a6, a7, a8, a9, a10, a11, a12, a13, U1, V1, g1⟩ := pw_di1 h n 300 300 0 1367 o1 o2 o3 o4 o5 o6 o7 o8 o9 o10 o11 o12 o13 U V (by omega) (by omega) (by omega)
  by_cases q : n = 0
  · have hs0 : mX4_stands (nI n) = some 0 := by rw [q]; exact pw_stN
    have hl0 : mX7_lacks (nI n) = some 1 := by rw [q]; exact pw_laN
    obtain ⟨h2, g2⟩ := pw_di3 hP hP' p 300 300 0 h1 (by omega) (by omega) (by omega)
    obtain ⟨h3, g3⟩ := pw_di4 h (wr := wr) (nd := nd) (ps := nI p) 11 300 300 0 h2 (by omega) (by omega) (by omega)
    refine ⟨h3, ⟨a1, a2, a3, a4, a5, a6, a7, a8, a9, a10, a11, a12, a13⟩, h3, U1, V1, ?_, ?_⟩
    · unfold mX6_digest
      refine Eq.trans (g1 _ (fun _ _ _ _ => none)).1 ?_
      rw [hs0, pw_bs, pw_i0]
      refine Eq.trans (g2 _ (fun _ _ => none)).1 ?_
      exact (g3 _ (fun _ _ => none)).1
    · unfold mX7_digest
      refine Eq.trans (g1 (fun _ _ _ _ _ _ _ _ _ _ _ _ _ _ _ => none) _).2 ?_
      rw [hl0, pw_bs, pw_i1]
      refine Eq.trans (g2 (fun _ _ => none) _).2 ?_
      exact (g3 (fun _ _ => none) _).2
  · obtain ⟨r4, ⟨b1, b2, b3, b4, b5, b6, b7, b8, b9, b10, b11, b12, b13⟩, U4, e4, e4'⟩ := pw_d_force h q a1 a2 a3 a4 a5 a6 a7 a8 a9 a10 a11 a12 a13 U1
    obtain ⟨r5, ⟨c1, c2, c3, c4, c5, c6, c7, c8, c9, c10, c11, c12, c13⟩, U5, V5, e5, e5'⟩ := pw_d_order h q b1 b2 b3 b4 b5 b6 b7 b8 b9 b10 b11 b12 b13 U4 V1
    obtain ⟨r6, e6, e6'⟩ := pw_d_race h q (Or.inl rfl)
    obtain ⟨r7, e7, e7'⟩ := pw_d_race h q (Or.inr rfl)
    obtain ⟨r8, e8, e8'⟩ := pw_d_rain h q
    obtain ⟨h2, g2⟩ := pw_di5 hP hP' p 300 300 0 (31 * (31 * (31 * (31 * (31 * h1 + Int32.toInt64 r4) + Int32.toInt64 r5) + Int32.toInt64 r6) + Int32.toInt64 r7) + Int32.toInt64 r8) (by omega) (by omega) (by omega)
    obtain ⟨h3, g3⟩ := pw_di6 h (wr := wr) (nd := nd) (ps := nI p) 11 300 300 0 h2 (by omega) (by omega) (by omega)
    refine ⟨h3, ⟨c1, c2, c3, c4, c5, c6, c7, c8, c9, c10, c11, c12, c13⟩, h3, U5, V5, ?_, ?_⟩
    · unfold mX6_digest
      refine Eq.trans (g1 _ (fun _ _ _ _ => none)).1 ?_
      unfold mX6_mixed mX5_next
      rw [pw_stY hn q, pw_bs, pw_i1, e4, pw_n14, pw_bs, e5, pw_n14, pw_bs, e6, pw_bs, pw_bs, e7, pw_bs, pw_bs, pw_bs, e8, pw_bs, pw_bs]
      refine Eq.trans (g2 _ (fun _ _ => none)).1 ?_
      exact (g3 _ (fun _ _ => none)).1
    · unfold mX7_digest
      refine Eq.trans (g1 (fun _ _ _ _ _ _ _ _ _ _ _ _ _ _ _ => none) _).2 ?_
      unfold mX7_say
      rw [pw_laY hn q, pw_bs, pw_i0, e4', pw_n2, pw_bs, e5', pw_n3, pw_bs, e6', pw_bs, pw_bs, e7', pw_bs, pw_bs, e8', pw_bs, pw_bs]
      refine Eq.trans (g2 (fun _ _ => none) _).2 ?_
      exact (g3 (fun _ _ => none) _).2
