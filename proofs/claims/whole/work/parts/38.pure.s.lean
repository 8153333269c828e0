theorem pw_sh6 : ∀ n, n < 7 → (1 : Int32) <<< (nI n &&& 31) = nI (2 ^ n) := by decide +kernel
theorem pw_nd_lt {n : Nat} {kd d ln : Nat → Nat} {w : Nat} {rn : Nat → Nat} {nx : Nat} {m : Nat → Nat} {u c x : Nat} (hn : n < 7) (h : pw_nd n kd d ln w rn nx m u c = some x) : x < 10000 := by
  unfold pw_nd at h
  have h2 := List.mem_of_find?_eq_some h
  obtain ⟨a, b, e, f, h3, h4, h5, h6, h7⟩ := pw_mem.mp h2
  omega
theorem pw_dgI {x : Nat} (hx : x < 10000) : mX6_digitsIn (nI x) = some (nI (pw_dg 4 x)) := by
  unfold mX6_digitsIn
  refine Eq.trans (pw_dg6 (fun _ y => some y) 295 4 x 0 (by simpa using hx) (by omega)) ?_
  rw [Nat.zero_add]
theorem pw_m_need {n w : Nat} {rn : Nat → Nat} {br n_ : Int32} {K D L M : Nat → Int32} {ws nx_ : Int32} {T : Nat → Int32} {sq : Int32} {A R G : Nat → Int32} {cl : Int32} {K' D' L' M' : Nat → Int32} {rs wn : Int32} {T' : Nat → Int32} {br' sm : Int32} {S : Nat → Int32} (h : pw_RN n w rn br n_ K D L M ws nx_ T sq A R G cl K' D' L' M' rs wn T' br' sm S) {nd nd' : Int32} {q0 : Nat} (hnd : nd = nI q0) (hnd' : nd' = nI q0) (hq0 : q0 ≤ 20) (o1 : Int32) (o2 o3 o4 o5 : Nat → Int32) (o6 : Int32) (o7 o8 o9 o10 : Nat → Int32) (o11 o12 : Int32) (o13 : Nat → Int32) (U : Nat → Int32) (x y z : Int32) : ∃ (r : Int32) (q1 : Nat) (v : pw_O13) (U1 : Nat → Int32), mX6_need nd n_ K D L M ws nx_ T o1 o2 o3 o4 o5 o6 o7 o8 o9 o10 o11 o12 o13 x y z = some (r, nI q1, v) ∧ mX7_need cl rs wn nd' K' D' L' M' T' U x y z = some (r, nI q1, U1) ∧ q1 ≤ 20 := by
  obtain ⟨kd, d, ln, m, nx, b, q, a, r, g, rfl, rfl, rfl, rfl, rfl, rfl, rfl, rfl, rfl, rfl, hnx, hb, hW, hW', hM, hM', hR, hS⟩ := id h
  subst hnd
  subst hnd'
  have hn := hW.1
  have h2n : 2 ^ n ≤ 64 := pw_p6 hn
  have h2p : 0 < 2 ^ n := Nat.two_pow_pos n
  unfold mX6_need mX7_need mX0_size
  by_cases q1 : n = 0
  · subst q1
    simp only [pw_laN, pw_stN, pw_sh6 0 (by decide), pw_rd, pw_wr, pw_bs, pw_i0, pw_i1, pw_n2, pw_n3, pw_n4, pw_n5, pw_n13]
    by_cases hx0 : x = 0
    · subst hx0
      simp only [if_neg (show ¬ (0 : Int32) < 0 by decide), if_neg (show ¬ nI (2 ^ 0) ≤ 0 by decide), pw_rd, pw_wr, pw_bs, pw_i0, pw_i1, pw_n2, pw_n3, pw_n4, pw_n5, pw_n13]
      rcases pw_rg3 y 0 40 (by decide) (by decide) with hy | ⟨c, -, c2, rfl⟩
      · simp only [pw_inX (A := 0) (B := 40) (a := 0) (b := 40) rfl rfl hy, pw_o5 (A := 0) (B := 40) hy, pw_rd, pw_wr, pw_bs, pw_i0, pw_i1, pw_n2, pw_n3, pw_n4, pw_n5, pw_n13]
        exact ⟨_, _, _, _, rfl, rfl, hq0⟩
      · simp only [pw_inY (A := 0) (B := 40) (a := 0) (b := 40) rfl rfl (Nat.zero_le c) c2 (by decide), if_neg (show ¬ nI c < 0 from nI_pos (by omega)), if_neg (show ¬ (40 : Int32) < nI c from nI_nlt (a := 40) c2 (by decide)), pw_rd, pw_wr, pw_bs, pw_i0, pw_i1, pw_n2, pw_n3, pw_n4, pw_n5, pw_n13]
        rcases pw_rg3 z 0 1 (by decide) (by decide) with hz | ⟨u, -, u2, rfl⟩
        · simp only [pw_inX (A := 0) (B := 1) (a := 0) (b := 1) rfl rfl hz, pw_o4 (A := 0) (B := 1) hz, pw_rd, pw_wr, pw_bs, pw_i0, pw_i1, pw_n2, pw_n3, pw_n4, pw_n5, pw_n13]
          exact ⟨_, _, _, _, rfl, rfl, hq0⟩
        · simp only [pw_inY (A := 0) (B := 1) (a := 0) (b := 1) rfl rfl (Nat.zero_le u) u2 (by decide), if_neg (show ¬ nI u < 0 from nI_pos (by omega)), if_pos (show nI u ≤ 1 from nI_le (b := 1) u2 (by decide)), pw_rd, pw_wr, pw_bs, pw_i0, pw_i1, pw_n2, pw_n3, pw_n4, pw_n5, pw_n13]
          exact ⟨_, _, _, _, rfl, rfl, hq0⟩
    · have hx1 : x < 0 ∨ nI (2 ^ 0) ≤ x := by
        rcases pk_ix x (n := 1) (by decide) with hh | hh | ⟨j, hj, rfl⟩
        · exact Or.inl hh
        · exact Or.inr hh
        · exact absurd (show nI j = 0 by rw [show j = 0 by omega]; rfl) hx0
      simp only [if_neg hx0, pw_o6 hx1, pw_rd, pw_wr, pw_bs, pw_i0, pw_i1, pw_n2, pw_n3, pw_n4, pw_n5, pw_n13]
      exact ⟨_, _, _, _, rfl, rfl, hq0⟩
  · obtain ⟨r1, r2⟩ := hR.resolve_left q1
    simp only [pw_laY hn q1, pw_stY hn q1, pw_sh6 n (by omega), show nI (2 ^ n) - 1 = nI (2 ^ n - 1) from pk_sub (b := 1) h2p, pw_rd, pw_wr, pw_bs, pw_i0, pw_i1, pw_n2, pw_n3, pw_n4, pw_n5, pw_n13]
    rcases pw_rg3 x 0 (2 ^ n - 1) (by omega) (by omega) with hx | ⟨u, -, u2, rfl⟩
    · have hx2 : x < 0 ∨ nI (2 ^ n) ≤ x := by
        rcases hx with hx | hx
        · exact Or.inl hx
        · have h3 := Int32.lt_iff_toInt_lt.mp hx
          rw [nI_toInt (by omega)] at h3
          refine Or.inr ?_
          rw [Int32.le_iff_toInt_le, nI_toInt (by omega)]
          omega
      simp only [pw_inX (A := 0) (B := Int32.toInt64 (nI (2 ^ n - 1))) (a := 0) (b := 2 ^ n - 1) rfl rfl hx, pw_o6 hx2, pw_rd, pw_wr, pw_bs, pw_i0, pw_i1, pw_n2, pw_n3, pw_n4, pw_n5, pw_n13]
      exact ⟨_, _, _, _, rfl, rfl, hq0⟩
    · simp only [pw_inY (A := 0) (B := Int32.toInt64 (nI (2 ^ n - 1))) (a := 0) (b := 2 ^ n - 1) rfl rfl (Nat.zero_le u) u2 (by omega), if_neg (show ¬ nI u < 0 from nI_pos (by omega)), if_neg (show ¬ nI (2 ^ n) ≤ nI u from nI_ge (by omega) (by omega)), pw_rd, pw_wr, pw_bs, pw_i0, pw_i1, pw_n2, pw_n3, pw_n4, pw_n5, pw_n13]
      rcases pw_rg3 y 0 40 (by decide) (by decide) with hy | ⟨c, -, c2, rfl⟩
      · simp only [pw_inX (A := 0) (B := 40) (a := 0) (b := 40) rfl rfl hy, pw_o5 (A := 0) (B := 40) hy, pw_rd, pw_wr, pw_bs, pw_i0, pw_i1, pw_n2, pw_n3, pw_n4, pw_n5, pw_n13]
        exact ⟨_, _, _, _, rfl, rfl, hq0⟩
      · simp only [pw_inY (A := 0) (B := 40) (a := 0) (b := 40) rfl rfl (Nat.zero_le c) c2 (by decide), if_neg (show ¬ nI c < 0 from nI_pos (by omega)), if_neg (show ¬ (40 : Int32) < nI c from nI_nlt (a := 40) c2 (by decide)), pw_rd, pw_wr, pw_bs, pw_i0, pw_i1, pw_n2, pw_n3, pw_n4, pw_n5, pw_n13]
        rcases pw_rg3 z 0 1 (by decide) (by decide) with hz | ⟨t, -, t2, rfl⟩
        · simp only [pw_inX (A := 0) (B := 1) (a := 0) (b := 1) rfl rfl hz, pw_o4 (A := 0) (B := 1) hz, pw_rd, pw_wr, pw_bs, pw_i0, pw_i1, pw_n2, pw_n3, pw_n4, pw_n5, pw_n13]
          exact ⟨_, _, _, _, rfl, rfl, hq0⟩
        · simp only [pw_inY (A := 0) (B := 1) (a := 0) (b := 1) rfl rfl (Nat.zero_le t) t2 (by decide), if_neg (show ¬ nI t < 0 from nI_pos (by omega)), if_pos (show nI t ≤ 1 from nI_le (b := 1) t2 (by decide)), pw_rd, pw_wr, pw_bs, pw_i0, pw_i1, pw_n2, pw_n3, pw_n4, pw_n5, pw_n13]
          by_cases q20 : q0 = 20
          · subst q20
            rw [if_neg (show ¬ nI 20 < 20 by decide), if_pos (show nI 20 = 20 from rfl)]
            exact ⟨_, _, _, _, rfl, rfl, Nat.le_refl 20⟩
          · rw [if_pos (show nI q0 < 20 from nI_lt (b := 20) (by omega) (by decide)), if_neg (show ¬ nI q0 = 20 from fun z => q20 ((nI_eq (b := 20) (by omega) (by decide)).mp z))]
            obtain ⟨Y, g1⟩ := pw_FW (U := va_cpy M o10 0 0 6) (hW.cp (K2 := o7) (D2 := o8) (L2 := o9)) (hM.cp (U := o5) hn) (r1.cp (T2 := o13)) (show nx < 5000 by omega) (show c < 200 by omega) (show u < 64 by omega)
            obtain ⟨U1, g2⟩ := pw_NO (U := U) hW' hM' r2 (show nx < 5000 by omega) (show c < 200 by omega) (show u < 64 by omega) (nI t)
            simp only [pw_bg, g1, g2, nI_1, pw_rd, pw_wr, pw_bs, pw_i0, pw_i1, pw_n2, pw_n3, pw_n4, pw_n5, pw_n13]
            have t01 : t = 0 ∨ t = 1 := by omega
            cases hf : pw_nd n kd d ln w rn nx m u c with
            | none =>
              rcases t01 with rfl | rfl
              · rw [if_neg (show ¬ nI 0 = 1 by decide), if_pos (show pw_ndI none = -1 from rfl)]
                exact ⟨_, q0 + 1, _, _, rfl, rfl, by omega⟩
              · rw [if_pos (show nI 1 = 1 from rfl)]
                exact ⟨_, q0 + 1, _, _, rfl, rfl, by omega⟩
            | some v =>
              have hv := pw_nd_lt (by omega) hf
              rcases t01 with rfl | rfl
              · rw [if_neg (show ¬ nI 0 = 1 by decide), if_neg (show ¬ pw_ndI (some v) = -1 from pw_l_ne (by omega)), show pw_ndI (some v) = nI v from rfl, pw_dgI hv, pw_bs]
                exact ⟨_, q0 + 1, _, _, rfl, rfl, by omega⟩
              · rw [if_pos (show nI 1 = 1 from rfl)]
                exact ⟨_, q0 + 1, _, _, rfl, rfl, by omega⟩
theorem pw_m_drawn {n w : Nat} {rn : Nat → Nat} {br n_ : Int32} {K D L M : Nat → Int32} {ws nx_ : Int32} {T : Nat → Int32} {sq : Int32} {A R G : Nat → Int32} {cl : Int32} {K' D' L' M' : Nat → Int32} {rs wn : Int32} {T' : Nat → Int32} {br' sm : Int32} {S : Nat → Int32} (h : pw_RN n w rn br n_ K D L M ws nx_ T sq A R G cl K' D' L' M' rs wn T' br' sm S) (e1 e2 : Int32) (o1 : Int32) (o2 o3 o4 o5 : Nat → Int32) (o6 : Int32) (o7 o8 o9 o10 : Nat → Int32) (o11 o12 : Int32) (o13 : Nat → Int32) (s0 : Int32) (U : Nat → Int32) (x y z : Int32) : ∃ (r f1 f2 : Int32) (v : pw_O13) (s1 : Int32) (U1 : Nat → Int32), mX6_drawn n_ K D L M ws nx_ T e1 e2 o1 o2 o3 o4 o5 o6 o7 o8 o9 o10 o11 o12 o13 x y z = some (r, f1, f2, v) ∧ mX7_drawn cl s0 K' D' L' M' U x y z = some (r, s1, U1) := by
  obtain ⟨kd, d, ln, m, nx, b, q, a, r, g, rfl, rfl, rfl, rfl, rfl, rfl, rfl, rfl, rfl, rfl, hnx, hb, hW, hW', hM, hM', hR, hS⟩ := id h
  have hn := hW.1
  unfold mX6_drawn mX7_drawn
  rcases pw_rg3 x 1 60 (by decide) (by decide) with hx | ⟨c, c1, c2, rfl⟩
  · simp only [pw_inX (A := 1) (B := 60) (a := 1) (b := 60) rfl rfl hx, pw_o5 (A := 1) (B := 60) hx, pw_rd, pw_wr, pw_bs, pw_i0, pw_i1, pw_n2, pw_n3, pw_n4, pw_n5, pw_n13]
    exact ⟨_, _, _, _, _, _, rfl, rfl⟩
  · simp only [pw_inY (A := 1) (B := 60) (a := 1) (b := 60) rfl rfl c1 c2 (by decide), if_neg (show ¬ nI c < 1 from nI_nlt (b := 1) c1 (by omega)), if_neg (show ¬ (60 : Int32) < nI c from nI_nlt (a := 60) c2 (by decide)), pw_rd, pw_wr, pw_bs, pw_i0, pw_i1, pw_n2, pw_n3, pw_n4, pw_n5, pw_n13]
    by_cases hy : y < 0
    · rw [if_pos hy, if_pos hy]
      exact ⟨_, _, _, _, _, _, rfl, rfl⟩
    · obtain ⟨sd, hsd, rfl⟩ := nI_of hy
      rw [if_neg hy, if_neg hy]
      rcases pw_rg3 z 0 2 (by decide) (by decide) with hz | ⟨t, -, t2, rfl⟩
      · simp only [pw_inX (A := 0) (B := 2) (a := 0) (b := 2) rfl rfl hz, pw_o4 (A := 0) (B := 2) hz, pw_rd, pw_wr, pw_bs, pw_i0, pw_i1, pw_n2, pw_n3, pw_n4, pw_n5, pw_n13]
        exact ⟨_, _, _, _, _, _, rfl, rfl⟩
      · simp only [pw_inY (A := 0) (B := 2) (a := 0) (b := 2) rfl rfl (Nat.zero_le t) t2 (by decide), if_neg (show ¬ nI t < 0 from nI_pos (by omega)), if_pos (show nI t ≤ 2 from nI_le (b := 2) t2 (by decide)), pw_rd, pw_wr, pw_bs, pw_i0, pw_i1, pw_n2, pw_n3, pw_n4, pw_n5, pw_n13]
        by_cases q1 : n = 0
        · subst q1
          simp only [pw_stN, pw_laN, pw_rd, pw_wr, pw_bs, pw_i0, pw_i1, pw_n2, pw_n3, pw_n4, pw_n5, pw_n13]
          exact ⟨_, _, _, _, _, _, rfl, rfl⟩
        · obtain ⟨Y, g1, g2⟩ := pw_DR (hW.cp (K2 := o7) (D2 := o8) (L2 := o9)) (hM.cp (U := o10) hn) (show sd < 2147483648 by omega) (show c < 200 by omega) e1 e2
          obtain ⟨U0, a1, a2⟩ := pw_cp (n := 6) M' U (by decide)
          have key := pw_d7L (m := m) (s := sd) hW' (show sd < 2147483648 by omega) (show c < 200 by omega)
          simp only [pw_stY hn q1, pw_laY hn q1, pw_bg, g1, a1, pw_rd, pw_wr, pw_bs, pw_i0, pw_i1, pw_n2, pw_n3, pw_n4, pw_n5, pw_n13]
          obtain ⟨U1, k1, k2⟩ := key (fun (x5_1 : Int32) (x4_1 : Int32) (y1 : Int32) (y2 : Nat → Int32) => (if nI t = 0 then some (x4_1, y1, y2) else (if nI t = 1 then (mX7_together 6 y2 (nI n)).bind fun r17 => some (r17, y1, y2) else some (y1, y1, y2)))) c 300 0 U0 (by omega) (by omega) (hM'.to hn a2)
          have k1 : mX7_drawn_L1 (nI n) K' D' L' (nI c) (fun (x5_1 : Int32) (x4_1 : Int32) (y1 : Int32) (y2 : Nat → Int32) => (if nI t = 0 then some (x4_1, y1, y2) else (if nI t = 1 then (mX7_together 6 y2 (nI n)).bind fun r17 => some (r17, y1, y2) else some (y1, y1, y2)))) 300 0 0 (nI sd) U0 = _ := k1
          rw [k1]
          unfold mX1_weeksAllClosed mX1_mossOfAll mX1_seedThen
          simp only [pw_SM0 hn g2, pw_SM7 hn k2, pw_rd, pw_wr, pw_bs, pw_i0, pw_i1, pw_n2, pw_n3, pw_n4, pw_n5, pw_n13]
          by_cases t0 : nI t = 0
          · rw [if_pos t0, if_pos t0]; exact ⟨_, _, _, _, _, _, rfl, rfl⟩
          · rw [if_neg t0, if_neg t0]
            by_cases t1 : nI t = 1
            · rw [if_pos t1, if_pos t1]; exact ⟨_, _, _, _, _, _, rfl, rfl⟩
            · rw [if_neg t1, if_neg t1]; exact ⟨_, _, _, _, _, _, rfl, rfl⟩
